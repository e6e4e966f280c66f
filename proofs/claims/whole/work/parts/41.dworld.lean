section MAKE
def kcD (g : Cx) (ad : Nat → Nat) (o : Nat) (V : Nat → Int32) (R : Nat → Option Nat) (J : Int64) : va_E :=
  if o < 60 then
    if o < 8 then
      if o = 0 then .inr (10, [va_re ad (R 0), va_re ad (R 1), va_re ad (R 2), va_re ad (R 3), va_re ad (R 4), va_re ad (R 5), va_re ad (R 6), .int (V 7), .int (V 8), .int (V 9), .int (V 10), .int (V 11)])
      else if o = 1 then .inr (9, [.int (V 0), va_re ad (R 1), va_re ad (R 2), va_re ad (R 3), va_re ad (R 4), va_re ad (R 5), va_re ad (R 6)])
      else if o = 2 then .inr (2, [.int (V 0), va_re ad (R 1), va_re ad (R 2)])
      else if o = 3 then .inr (0, [.int (V 0), va_re ad (R 1), va_re ad (R 2), va_re ad (R 3), va_re ad (R 4), va_re ad (R 5), va_re ad (R 6)])
      else if o = 4 then .inr (7, [.int (V 0), va_re ad (R 1), va_re ad (R 2), va_re ad (R 3), va_re ad (R 4), va_re ad (R 5), va_re ad (R 6), va_re ad (R 7)])
      else if o = 5 then .inr (8, [va_re ad (R 0), va_re ad (R 1), .int (V 2)])
      else if o = 6 then .inl (g.2.2.2.2.1, 6, .inr (.inr (.inr (.inr (fun i => (R i).map ad)))))
      else .inl (g.2.1, 500, .inl V)
    else .inl (g.2.2.1, kal o, .inl V)
  else if o < 70 then .inr (1, [.int (V 0), .int (V 1), .int (V 2), .int (V 3), .int (V 4), .int (V 5), va_re ad (R 6), .int (V 7), .int (V 8), .int (V 9), .int (V 10), .int (V 11)])
  else if o < 77 then .inr (5, [va_re ad (R 0), va_re ad (R 1), va_re ad (R 2), .int (V 3), .int (V 4)])
  else if o < 87 then .inl (g.2.2.1, 500, .inl V)
  else if o < 107 then .inl (g.2.2.1, 8, .inl V)
  else if o < 111 then .inr (6, [.int (V 0), .int (V 1), va_re ad (R 2), va_re ad (R 3), .int (V 4)])
  else if o < 112 then .inr (3, [.int (V 0), .int (V 1), .int (V 2), va_re ad (R 3), .int (V 4), .int (V 5)])
  else if o < 113 then .inr (4, [.int (V 0), va_re ad (R 1), .int (V 2), .int (V 3)])
  else if o < 201 then .inr (11, [.int (V 0), .int (V 1), va_re ad (R 2), va_re ad (R 3), va_re ad (R 4), va_re ad (R 5), va_re ad (R 6), .int (V 7), va_re ad (R 8), va_re ad (R 9), .int (V 10), va_re ad (R 11), va_re ad (R 12), va_re ad (R 13), va_re ad (R 14), va_re ad (R 15), va_re ad (R 16), va_re ad (R 17), va_re ad (R 18), va_re ad (R 19), va_re ad (R 20), va_re ad (R 21), va_re ad (R 22), va_re ad (R 23), va_re ad (R 24), va_re ad (R 25), va_re ad (R 26), va_re ad (R 27), va_re ad (R 28), va_re ad (R 29), va_re ad (R 30), va_re ad (R 31), va_re ad (R 32), .int (V 33), .int (V 34), .int (V 35), va_re ad (R 36), .int (V 37), .int (V 38), .int (V 39), .int (V 40), .int (V 41), .int (V 42), .int (V 43), .int (V 44), .long J, va_re ad (R 46), .int (V 47), .int (V 48), va_re ad (R 49), va_re ad (R 50), va_re ad (R 51), va_re ad (R 52), va_re ad (R 53), .int (V 54), .int (V 55), va_re ad (R 56), va_re ad (R 57), va_re ad (R 58), va_re ad (R 59), va_re ad (R 60), va_re ad (R 61), va_re ad (R 62), va_re ad (R 63), va_re ad (R 64), va_re ad (R 65), va_re ad (R 66)])
  else if o = 254 then .inl (g.2.2.2.1, 244000, .inl V)
  else .inl (g.2.2.1, mal (o - 201), .inl V)
def cellD (g : Cx) (ad : Nat → Nat) (S : St) (o : Nat) : va_E := kcD g ad o (S.1 o) (S.2.1 o) (S.2.2 o)
def GD (g : Cx) (A : Nat → Prop) (ad : Nat → Nat) (L : List Nat) (S : St) (H : Heap) : Prop := GC g A ad L (cellD g ad S) H
def zr (S : St) (o : Nat) : St := (fun a => if a = o then (fun _ => 0) else S.1 a, fun a => if a = o then (fun _ => none) else S.2.1 a, fun a => if a = o then 0 else S.2.2 a)
def Cl (L : List Nat) (S : St) : Prop := ∀ o ∈ L, ∀ (k y : Nat), gr S o k = some y → y ∈ L
theorem re_ad {ad ad1 : Nat → Nat} {R : Nat → Option Nat} (hd : ∀ (k y : Nat), R k = some y → ad1 y = ad y) (k : Nat) : va_re ad1 (R k) = va_re ad (R k) := by
  cases h : R k with
  | none => rfl
  | some y => show Value.ref (ad1 y) = .ref (ad y); rw [hd k y h]
theorem map_ad {ad ad1 : Nat → Nat} {R : Nat → Option Nat} (hd : ∀ (k y : Nat), R k = some y → ad1 y = ad y) : (fun i => (R i).map ad1) = (fun i => (R i).map ad) := by
  funext i
  cases h : R i with
  | none => rfl
  | some y => show some (ad1 y) = some (ad y); rw [hd i y h]
theorem kcD_ad {g : Cx} {ad ad1 : Nat → Nat} {o : Nat} {V : Nat → Int32} {R : Nat → Option Nat} {J : Int64} (hd : ∀ (k y : Nat), R k = some y → ad1 y = ad y) : kcD g ad1 o V R J = kcD g ad o V R J := by
  unfold kcD
  simp only [re_ad hd, map_ad hd]
theorem zr_ne {S : St} {o y : Nat} (h : y ≠ o) : (zr S o).1 y = S.1 y ∧ (zr S o).2.1 y = S.2.1 y ∧ (zr S o).2.2 y = S.2.2 y := by
  unfold zr
  exact ⟨if_neg h, if_neg h, if_neg h⟩
theorem cellD_zr {g : Cx} {ad ad1 : Nat → Nat} {S : St} {L : List Nat} {id : Nat} (hC : Cl L S) (hid : id ∉ L) (hag : ∀ o, o ≠ id → ad1 o = ad o) : ∀ x ∈ L, cellD g ad1 (zr S id) x = cellD g ad S x := fun x hx => by
  have hne : x ≠ id := fun h => hid (h ▸ hx)
  obtain ⟨e1, e2, e3⟩ := zr_ne (S := S) hne
  unfold cellD
  rw [e1, e2, e3]
  exact kcD_ad (fun k y h => hag y (fun h2 => hid (h2 ▸ hC x hx k y h)))
theorem Cl_zr {L : List Nat} {S : St} {id : Nat} (hC : Cl L S) : Cl (L ++ [id]) (zr S id) := fun o ho k y h => by
  by_cases hne : o = id
  · subst hne
    have : (zr S o).2.1 o k = none := by unfold zr; simp only [if_true]
    rw [show gr (zr S o) o k = (zr S o).2.1 o k from rfl, this] at h
    cases h
  · have h2 : gr S o k = some y := by
      have e := (zr_ne (S := S) hne).2.1
      rw [show gr (zr S id) o k = (zr S id).2.1 o k from rfl, e] at h
      exact h
    rcases List.mem_append.mp ho with h3 | h3
    · exact List.mem_append_left _ (hC o h3 k y h2)
    · exact absurd (List.mem_singleton.mp h3) hne
theorem Cl_sv {L : List Nat} {S : St} {o k : Nat} {x : Int32} (hC : Cl L S) : Cl L (sv S o k x) := hC
theorem Cl_sl {L : List Nat} {S : St} {o : Nat} {x : Int64} (hC : Cl L S) : Cl L (sl S o x) := hC
theorem gr_sr {S : St} {o k a j : Nat} {x : Option Nat} : gr (sr S o k x) a j = if a = o ∧ j = k then x else gr S a j := by
  unfold gr sr up2 va_up
  dsimp only
  by_cases h : a = o
  · subst h
    by_cases h2 : j = k
    · subst h2; simp
    · simp [h2]
  · simp [h]
theorem Cl_sr {L : List Nat} {S : St} {o k y : Nat} (hC : Cl L S) (hy : y ∈ L) : Cl L (sr S o k (some y)) := fun a ha j z h => by
  rw [gr_sr] at h
  split at h
  · cases h; exact hy
  · exact hC a ha j z h
theorem cellD_sv {g : Cx} {ad : Nat → Nat} {S : St} {o k : Nat} {x : Int32} {L : List Nat} : ∀ y ∈ L, y ≠ o → cellD g ad (sv S o k x) y = cellD g ad S y := fun y _ h => by
  unfold cellD sv; dsimp only
  rw [up2_ne _ _ _ h]
theorem cellD_sr {g : Cx} {ad : Nat → Nat} {S : St} {o k : Nat} {x : Option Nat} {L : List Nat} : ∀ y ∈ L, y ≠ o → cellD g ad (sr S o k x) y = cellD g ad S y := fun y _ h => by
  unfold cellD sr; dsimp only
  rw [up2_ne _ _ _ h]
theorem cellD_sl {g : Cx} {ad : Nat → Nat} {S : St} {o : Nat} {x : Int64} {L : List Nat} : ∀ y ∈ L, y ≠ o → cellD g ad (sl S o x) y = cellD g ad S y := fun y _ h => by
  unfold cellD sl
  simp only [va_up, if_neg h]
theorem nm_app {L : List Nat} {a b : Nat} (h : a ∉ L) (hb : a ≠ b) : a ∉ L ++ [b] := fun h2 => by
  rcases List.mem_append.mp h2 with h3 | h3
  · exact h h3
  · exact hb (List.mem_singleton.mp h3)
theorem me_l {L : List Nat} {a b : Nat} (h : a ∈ L) : a ∈ L ++ [b] := List.mem_append_left _ h
theorem me_r {L : List Nat} {b : Nat} : b ∈ L ++ [b] := List.mem_append_right _ (List.mem_singleton.mpr rfl)
theorem cD_0 {g : Cx} {ad : Nat → Nat} {S : St} : cellD g ad S 0 = .inr (10, [va_re ad (gr S 0 0), va_re ad (gr S 0 1), va_re ad (gr S 0 2), va_re ad (gr S 0 3), va_re ad (gr S 0 4), va_re ad (gr S 0 5), va_re ad (gr S 0 6), .int (gv S 0 7), .int (gv S 0 8), .int (gv S 0 9), .int (gv S 0 10), .int (gv S 0 11)]) := rfl
theorem zD_0 {g : Cx} {ad : Nat → Nat} {S : St} : cellD g ad (zr S 0) 0 = .inr (10, [.null, .null, .null, .null, .null, .null, .null, .int 0, .int 0, .int 0, .int 0, .int 0]) := rfl
theorem dr_0_0 {g : Cx} {ad : Nat → Nat} {S : St} {x : Nat} : cellD g ad (sr S 0 0 (some x)) 0 = .inr (10, ([va_re ad (gr S 0 0), va_re ad (gr S 0 1), va_re ad (gr S 0 2), va_re ad (gr S 0 3), va_re ad (gr S 0 4), va_re ad (gr S 0 5), va_re ad (gr S 0 6), .int (gv S 0 7), .int (gv S 0 8), .int (gv S 0 9), .int (gv S 0 10), .int (gv S 0 11)] : List Value).set 0 (.ref (ad x))) := by
  show kcD g ad 0 _ (up2 S.2.1 0 0 (some x) 0) _ = _
  rw [up2_at]
  rfl
theorem dr_0_1 {g : Cx} {ad : Nat → Nat} {S : St} {x : Nat} : cellD g ad (sr S 0 1 (some x)) 0 = .inr (10, ([va_re ad (gr S 0 0), va_re ad (gr S 0 1), va_re ad (gr S 0 2), va_re ad (gr S 0 3), va_re ad (gr S 0 4), va_re ad (gr S 0 5), va_re ad (gr S 0 6), .int (gv S 0 7), .int (gv S 0 8), .int (gv S 0 9), .int (gv S 0 10), .int (gv S 0 11)] : List Value).set 1 (.ref (ad x))) := by
  show kcD g ad 0 _ (up2 S.2.1 0 1 (some x) 0) _ = _
  rw [up2_at]
  rfl
theorem dr_0_2 {g : Cx} {ad : Nat → Nat} {S : St} {x : Nat} : cellD g ad (sr S 0 2 (some x)) 0 = .inr (10, ([va_re ad (gr S 0 0), va_re ad (gr S 0 1), va_re ad (gr S 0 2), va_re ad (gr S 0 3), va_re ad (gr S 0 4), va_re ad (gr S 0 5), va_re ad (gr S 0 6), .int (gv S 0 7), .int (gv S 0 8), .int (gv S 0 9), .int (gv S 0 10), .int (gv S 0 11)] : List Value).set 2 (.ref (ad x))) := by
  show kcD g ad 0 _ (up2 S.2.1 0 2 (some x) 0) _ = _
  rw [up2_at]
  rfl
theorem dr_0_3 {g : Cx} {ad : Nat → Nat} {S : St} {x : Nat} : cellD g ad (sr S 0 3 (some x)) 0 = .inr (10, ([va_re ad (gr S 0 0), va_re ad (gr S 0 1), va_re ad (gr S 0 2), va_re ad (gr S 0 3), va_re ad (gr S 0 4), va_re ad (gr S 0 5), va_re ad (gr S 0 6), .int (gv S 0 7), .int (gv S 0 8), .int (gv S 0 9), .int (gv S 0 10), .int (gv S 0 11)] : List Value).set 3 (.ref (ad x))) := by
  show kcD g ad 0 _ (up2 S.2.1 0 3 (some x) 0) _ = _
  rw [up2_at]
  rfl
theorem dr_0_4 {g : Cx} {ad : Nat → Nat} {S : St} {x : Nat} : cellD g ad (sr S 0 4 (some x)) 0 = .inr (10, ([va_re ad (gr S 0 0), va_re ad (gr S 0 1), va_re ad (gr S 0 2), va_re ad (gr S 0 3), va_re ad (gr S 0 4), va_re ad (gr S 0 5), va_re ad (gr S 0 6), .int (gv S 0 7), .int (gv S 0 8), .int (gv S 0 9), .int (gv S 0 10), .int (gv S 0 11)] : List Value).set 4 (.ref (ad x))) := by
  show kcD g ad 0 _ (up2 S.2.1 0 4 (some x) 0) _ = _
  rw [up2_at]
  rfl
theorem dr_0_5 {g : Cx} {ad : Nat → Nat} {S : St} {x : Nat} : cellD g ad (sr S 0 5 (some x)) 0 = .inr (10, ([va_re ad (gr S 0 0), va_re ad (gr S 0 1), va_re ad (gr S 0 2), va_re ad (gr S 0 3), va_re ad (gr S 0 4), va_re ad (gr S 0 5), va_re ad (gr S 0 6), .int (gv S 0 7), .int (gv S 0 8), .int (gv S 0 9), .int (gv S 0 10), .int (gv S 0 11)] : List Value).set 5 (.ref (ad x))) := by
  show kcD g ad 0 _ (up2 S.2.1 0 5 (some x) 0) _ = _
  rw [up2_at]
  rfl
theorem dr_0_6 {g : Cx} {ad : Nat → Nat} {S : St} {x : Nat} : cellD g ad (sr S 0 6 (some x)) 0 = .inr (10, ([va_re ad (gr S 0 0), va_re ad (gr S 0 1), va_re ad (gr S 0 2), va_re ad (gr S 0 3), va_re ad (gr S 0 4), va_re ad (gr S 0 5), va_re ad (gr S 0 6), .int (gv S 0 7), .int (gv S 0 8), .int (gv S 0 9), .int (gv S 0 10), .int (gv S 0 11)] : List Value).set 6 (.ref (ad x))) := by
  show kcD g ad 0 _ (up2 S.2.1 0 6 (some x) 0) _ = _
  rw [up2_at]
  rfl
theorem dv_0_7 {g : Cx} {ad : Nat → Nat} {S : St} {x : Int32} : cellD g ad (sv S 0 7 x) 0 = .inr (10, ([va_re ad (gr S 0 0), va_re ad (gr S 0 1), va_re ad (gr S 0 2), va_re ad (gr S 0 3), va_re ad (gr S 0 4), va_re ad (gr S 0 5), va_re ad (gr S 0 6), .int (gv S 0 7), .int (gv S 0 8), .int (gv S 0 9), .int (gv S 0 10), .int (gv S 0 11)] : List Value).set 7 (.int x)) := by
  show kcD g ad 0 (up2 S.1 0 7 x 0) _ _ = _
  rw [up2_at]
  rfl
theorem dv_0_8 {g : Cx} {ad : Nat → Nat} {S : St} {x : Int32} : cellD g ad (sv S 0 8 x) 0 = .inr (10, ([va_re ad (gr S 0 0), va_re ad (gr S 0 1), va_re ad (gr S 0 2), va_re ad (gr S 0 3), va_re ad (gr S 0 4), va_re ad (gr S 0 5), va_re ad (gr S 0 6), .int (gv S 0 7), .int (gv S 0 8), .int (gv S 0 9), .int (gv S 0 10), .int (gv S 0 11)] : List Value).set 8 (.int x)) := by
  show kcD g ad 0 (up2 S.1 0 8 x 0) _ _ = _
  rw [up2_at]
  rfl
theorem dv_0_9 {g : Cx} {ad : Nat → Nat} {S : St} {x : Int32} : cellD g ad (sv S 0 9 x) 0 = .inr (10, ([va_re ad (gr S 0 0), va_re ad (gr S 0 1), va_re ad (gr S 0 2), va_re ad (gr S 0 3), va_re ad (gr S 0 4), va_re ad (gr S 0 5), va_re ad (gr S 0 6), .int (gv S 0 7), .int (gv S 0 8), .int (gv S 0 9), .int (gv S 0 10), .int (gv S 0 11)] : List Value).set 9 (.int x)) := by
  show kcD g ad 0 (up2 S.1 0 9 x 0) _ _ = _
  rw [up2_at]
  rfl
theorem dv_0_10 {g : Cx} {ad : Nat → Nat} {S : St} {x : Int32} : cellD g ad (sv S 0 10 x) 0 = .inr (10, ([va_re ad (gr S 0 0), va_re ad (gr S 0 1), va_re ad (gr S 0 2), va_re ad (gr S 0 3), va_re ad (gr S 0 4), va_re ad (gr S 0 5), va_re ad (gr S 0 6), .int (gv S 0 7), .int (gv S 0 8), .int (gv S 0 9), .int (gv S 0 10), .int (gv S 0 11)] : List Value).set 10 (.int x)) := by
  show kcD g ad 0 (up2 S.1 0 10 x 0) _ _ = _
  rw [up2_at]
  rfl
theorem dv_0_11 {g : Cx} {ad : Nat → Nat} {S : St} {x : Int32} : cellD g ad (sv S 0 11 x) 0 = .inr (10, ([va_re ad (gr S 0 0), va_re ad (gr S 0 1), va_re ad (gr S 0 2), va_re ad (gr S 0 3), va_re ad (gr S 0 4), va_re ad (gr S 0 5), va_re ad (gr S 0 6), .int (gv S 0 7), .int (gv S 0 8), .int (gv S 0 9), .int (gv S 0 10), .int (gv S 0 11)] : List Value).set 11 (.int x)) := by
  show kcD g ad 0 (up2 S.1 0 11 x 0) _ _ = _
  rw [up2_at]
  rfl
theorem cD_1 {g : Cx} {ad : Nat → Nat} {S : St} : cellD g ad S 1 = .inr (9, [.int (gv S 1 0), va_re ad (gr S 1 1), va_re ad (gr S 1 2), va_re ad (gr S 1 3), va_re ad (gr S 1 4), va_re ad (gr S 1 5), va_re ad (gr S 1 6)]) := rfl
theorem zD_1 {g : Cx} {ad : Nat → Nat} {S : St} : cellD g ad (zr S 1) 1 = .inr (9, [.int 0, .null, .null, .null, .null, .null, .null]) := rfl
theorem dv_1_0 {g : Cx} {ad : Nat → Nat} {S : St} {x : Int32} : cellD g ad (sv S 1 0 x) 1 = .inr (9, ([.int (gv S 1 0), va_re ad (gr S 1 1), va_re ad (gr S 1 2), va_re ad (gr S 1 3), va_re ad (gr S 1 4), va_re ad (gr S 1 5), va_re ad (gr S 1 6)] : List Value).set 0 (.int x)) := by
  show kcD g ad 1 (up2 S.1 1 0 x 1) _ _ = _
  rw [up2_at]
  rfl
theorem dr_1_1 {g : Cx} {ad : Nat → Nat} {S : St} {x : Nat} : cellD g ad (sr S 1 1 (some x)) 1 = .inr (9, ([.int (gv S 1 0), va_re ad (gr S 1 1), va_re ad (gr S 1 2), va_re ad (gr S 1 3), va_re ad (gr S 1 4), va_re ad (gr S 1 5), va_re ad (gr S 1 6)] : List Value).set 1 (.ref (ad x))) := by
  show kcD g ad 1 _ (up2 S.2.1 1 1 (some x) 1) _ = _
  rw [up2_at]
  rfl
theorem dr_1_2 {g : Cx} {ad : Nat → Nat} {S : St} {x : Nat} : cellD g ad (sr S 1 2 (some x)) 1 = .inr (9, ([.int (gv S 1 0), va_re ad (gr S 1 1), va_re ad (gr S 1 2), va_re ad (gr S 1 3), va_re ad (gr S 1 4), va_re ad (gr S 1 5), va_re ad (gr S 1 6)] : List Value).set 2 (.ref (ad x))) := by
  show kcD g ad 1 _ (up2 S.2.1 1 2 (some x) 1) _ = _
  rw [up2_at]
  rfl
theorem dr_1_3 {g : Cx} {ad : Nat → Nat} {S : St} {x : Nat} : cellD g ad (sr S 1 3 (some x)) 1 = .inr (9, ([.int (gv S 1 0), va_re ad (gr S 1 1), va_re ad (gr S 1 2), va_re ad (gr S 1 3), va_re ad (gr S 1 4), va_re ad (gr S 1 5), va_re ad (gr S 1 6)] : List Value).set 3 (.ref (ad x))) := by
  show kcD g ad 1 _ (up2 S.2.1 1 3 (some x) 1) _ = _
  rw [up2_at]
  rfl
theorem dr_1_4 {g : Cx} {ad : Nat → Nat} {S : St} {x : Nat} : cellD g ad (sr S 1 4 (some x)) 1 = .inr (9, ([.int (gv S 1 0), va_re ad (gr S 1 1), va_re ad (gr S 1 2), va_re ad (gr S 1 3), va_re ad (gr S 1 4), va_re ad (gr S 1 5), va_re ad (gr S 1 6)] : List Value).set 4 (.ref (ad x))) := by
  show kcD g ad 1 _ (up2 S.2.1 1 4 (some x) 1) _ = _
  rw [up2_at]
  rfl
theorem dr_1_5 {g : Cx} {ad : Nat → Nat} {S : St} {x : Nat} : cellD g ad (sr S 1 5 (some x)) 1 = .inr (9, ([.int (gv S 1 0), va_re ad (gr S 1 1), va_re ad (gr S 1 2), va_re ad (gr S 1 3), va_re ad (gr S 1 4), va_re ad (gr S 1 5), va_re ad (gr S 1 6)] : List Value).set 5 (.ref (ad x))) := by
  show kcD g ad 1 _ (up2 S.2.1 1 5 (some x) 1) _ = _
  rw [up2_at]
  rfl
theorem dr_1_6 {g : Cx} {ad : Nat → Nat} {S : St} {x : Nat} : cellD g ad (sr S 1 6 (some x)) 1 = .inr (9, ([.int (gv S 1 0), va_re ad (gr S 1 1), va_re ad (gr S 1 2), va_re ad (gr S 1 3), va_re ad (gr S 1 4), va_re ad (gr S 1 5), va_re ad (gr S 1 6)] : List Value).set 6 (.ref (ad x))) := by
  show kcD g ad 1 _ (up2 S.2.1 1 6 (some x) 1) _ = _
  rw [up2_at]
  rfl
theorem cD_2 {g : Cx} {ad : Nat → Nat} {S : St} : cellD g ad S 2 = .inr (2, [.int (gv S 2 0), va_re ad (gr S 2 1), va_re ad (gr S 2 2)]) := rfl
theorem zD_2 {g : Cx} {ad : Nat → Nat} {S : St} : cellD g ad (zr S 2) 2 = .inr (2, [.int 0, .null, .null]) := rfl
theorem dv_2_0 {g : Cx} {ad : Nat → Nat} {S : St} {x : Int32} : cellD g ad (sv S 2 0 x) 2 = .inr (2, ([.int (gv S 2 0), va_re ad (gr S 2 1), va_re ad (gr S 2 2)] : List Value).set 0 (.int x)) := by
  show kcD g ad 2 (up2 S.1 2 0 x 2) _ _ = _
  rw [up2_at]
  rfl
theorem dr_2_1 {g : Cx} {ad : Nat → Nat} {S : St} {x : Nat} : cellD g ad (sr S 2 1 (some x)) 2 = .inr (2, ([.int (gv S 2 0), va_re ad (gr S 2 1), va_re ad (gr S 2 2)] : List Value).set 1 (.ref (ad x))) := by
  show kcD g ad 2 _ (up2 S.2.1 2 1 (some x) 2) _ = _
  rw [up2_at]
  rfl
theorem dr_2_2 {g : Cx} {ad : Nat → Nat} {S : St} {x : Nat} : cellD g ad (sr S 2 2 (some x)) 2 = .inr (2, ([.int (gv S 2 0), va_re ad (gr S 2 1), va_re ad (gr S 2 2)] : List Value).set 2 (.ref (ad x))) := by
  show kcD g ad 2 _ (up2 S.2.1 2 2 (some x) 2) _ = _
  rw [up2_at]
  rfl
theorem cD_3 {g : Cx} {ad : Nat → Nat} {S : St} : cellD g ad S 3 = .inr (0, [.int (gv S 3 0), va_re ad (gr S 3 1), va_re ad (gr S 3 2), va_re ad (gr S 3 3), va_re ad (gr S 3 4), va_re ad (gr S 3 5), va_re ad (gr S 3 6)]) := rfl
theorem zD_3 {g : Cx} {ad : Nat → Nat} {S : St} : cellD g ad (zr S 3) 3 = .inr (0, [.int 0, .null, .null, .null, .null, .null, .null]) := rfl
theorem dv_3_0 {g : Cx} {ad : Nat → Nat} {S : St} {x : Int32} : cellD g ad (sv S 3 0 x) 3 = .inr (0, ([.int (gv S 3 0), va_re ad (gr S 3 1), va_re ad (gr S 3 2), va_re ad (gr S 3 3), va_re ad (gr S 3 4), va_re ad (gr S 3 5), va_re ad (gr S 3 6)] : List Value).set 0 (.int x)) := by
  show kcD g ad 3 (up2 S.1 3 0 x 3) _ _ = _
  rw [up2_at]
  rfl
theorem dr_3_1 {g : Cx} {ad : Nat → Nat} {S : St} {x : Nat} : cellD g ad (sr S 3 1 (some x)) 3 = .inr (0, ([.int (gv S 3 0), va_re ad (gr S 3 1), va_re ad (gr S 3 2), va_re ad (gr S 3 3), va_re ad (gr S 3 4), va_re ad (gr S 3 5), va_re ad (gr S 3 6)] : List Value).set 1 (.ref (ad x))) := by
  show kcD g ad 3 _ (up2 S.2.1 3 1 (some x) 3) _ = _
  rw [up2_at]
  rfl
theorem dr_3_2 {g : Cx} {ad : Nat → Nat} {S : St} {x : Nat} : cellD g ad (sr S 3 2 (some x)) 3 = .inr (0, ([.int (gv S 3 0), va_re ad (gr S 3 1), va_re ad (gr S 3 2), va_re ad (gr S 3 3), va_re ad (gr S 3 4), va_re ad (gr S 3 5), va_re ad (gr S 3 6)] : List Value).set 2 (.ref (ad x))) := by
  show kcD g ad 3 _ (up2 S.2.1 3 2 (some x) 3) _ = _
  rw [up2_at]
  rfl
theorem dr_3_3 {g : Cx} {ad : Nat → Nat} {S : St} {x : Nat} : cellD g ad (sr S 3 3 (some x)) 3 = .inr (0, ([.int (gv S 3 0), va_re ad (gr S 3 1), va_re ad (gr S 3 2), va_re ad (gr S 3 3), va_re ad (gr S 3 4), va_re ad (gr S 3 5), va_re ad (gr S 3 6)] : List Value).set 3 (.ref (ad x))) := by
  show kcD g ad 3 _ (up2 S.2.1 3 3 (some x) 3) _ = _
  rw [up2_at]
  rfl
theorem dr_3_4 {g : Cx} {ad : Nat → Nat} {S : St} {x : Nat} : cellD g ad (sr S 3 4 (some x)) 3 = .inr (0, ([.int (gv S 3 0), va_re ad (gr S 3 1), va_re ad (gr S 3 2), va_re ad (gr S 3 3), va_re ad (gr S 3 4), va_re ad (gr S 3 5), va_re ad (gr S 3 6)] : List Value).set 4 (.ref (ad x))) := by
  show kcD g ad 3 _ (up2 S.2.1 3 4 (some x) 3) _ = _
  rw [up2_at]
  rfl
theorem dr_3_5 {g : Cx} {ad : Nat → Nat} {S : St} {x : Nat} : cellD g ad (sr S 3 5 (some x)) 3 = .inr (0, ([.int (gv S 3 0), va_re ad (gr S 3 1), va_re ad (gr S 3 2), va_re ad (gr S 3 3), va_re ad (gr S 3 4), va_re ad (gr S 3 5), va_re ad (gr S 3 6)] : List Value).set 5 (.ref (ad x))) := by
  show kcD g ad 3 _ (up2 S.2.1 3 5 (some x) 3) _ = _
  rw [up2_at]
  rfl
theorem dr_3_6 {g : Cx} {ad : Nat → Nat} {S : St} {x : Nat} : cellD g ad (sr S 3 6 (some x)) 3 = .inr (0, ([.int (gv S 3 0), va_re ad (gr S 3 1), va_re ad (gr S 3 2), va_re ad (gr S 3 3), va_re ad (gr S 3 4), va_re ad (gr S 3 5), va_re ad (gr S 3 6)] : List Value).set 6 (.ref (ad x))) := by
  show kcD g ad 3 _ (up2 S.2.1 3 6 (some x) 3) _ = _
  rw [up2_at]
  rfl
theorem cD_4 {g : Cx} {ad : Nat → Nat} {S : St} : cellD g ad S 4 = .inr (7, [.int (gv S 4 0), va_re ad (gr S 4 1), va_re ad (gr S 4 2), va_re ad (gr S 4 3), va_re ad (gr S 4 4), va_re ad (gr S 4 5), va_re ad (gr S 4 6), va_re ad (gr S 4 7)]) := rfl
theorem zD_4 {g : Cx} {ad : Nat → Nat} {S : St} : cellD g ad (zr S 4) 4 = .inr (7, [.int 0, .null, .null, .null, .null, .null, .null, .null]) := rfl
theorem dv_4_0 {g : Cx} {ad : Nat → Nat} {S : St} {x : Int32} : cellD g ad (sv S 4 0 x) 4 = .inr (7, ([.int (gv S 4 0), va_re ad (gr S 4 1), va_re ad (gr S 4 2), va_re ad (gr S 4 3), va_re ad (gr S 4 4), va_re ad (gr S 4 5), va_re ad (gr S 4 6), va_re ad (gr S 4 7)] : List Value).set 0 (.int x)) := by
  show kcD g ad 4 (up2 S.1 4 0 x 4) _ _ = _
  rw [up2_at]
  rfl
theorem dr_4_1 {g : Cx} {ad : Nat → Nat} {S : St} {x : Nat} : cellD g ad (sr S 4 1 (some x)) 4 = .inr (7, ([.int (gv S 4 0), va_re ad (gr S 4 1), va_re ad (gr S 4 2), va_re ad (gr S 4 3), va_re ad (gr S 4 4), va_re ad (gr S 4 5), va_re ad (gr S 4 6), va_re ad (gr S 4 7)] : List Value).set 1 (.ref (ad x))) := by
  show kcD g ad 4 _ (up2 S.2.1 4 1 (some x) 4) _ = _
  rw [up2_at]
  rfl
theorem dr_4_2 {g : Cx} {ad : Nat → Nat} {S : St} {x : Nat} : cellD g ad (sr S 4 2 (some x)) 4 = .inr (7, ([.int (gv S 4 0), va_re ad (gr S 4 1), va_re ad (gr S 4 2), va_re ad (gr S 4 3), va_re ad (gr S 4 4), va_re ad (gr S 4 5), va_re ad (gr S 4 6), va_re ad (gr S 4 7)] : List Value).set 2 (.ref (ad x))) := by
  show kcD g ad 4 _ (up2 S.2.1 4 2 (some x) 4) _ = _
  rw [up2_at]
  rfl
theorem dr_4_3 {g : Cx} {ad : Nat → Nat} {S : St} {x : Nat} : cellD g ad (sr S 4 3 (some x)) 4 = .inr (7, ([.int (gv S 4 0), va_re ad (gr S 4 1), va_re ad (gr S 4 2), va_re ad (gr S 4 3), va_re ad (gr S 4 4), va_re ad (gr S 4 5), va_re ad (gr S 4 6), va_re ad (gr S 4 7)] : List Value).set 3 (.ref (ad x))) := by
  show kcD g ad 4 _ (up2 S.2.1 4 3 (some x) 4) _ = _
  rw [up2_at]
  rfl
theorem dr_4_4 {g : Cx} {ad : Nat → Nat} {S : St} {x : Nat} : cellD g ad (sr S 4 4 (some x)) 4 = .inr (7, ([.int (gv S 4 0), va_re ad (gr S 4 1), va_re ad (gr S 4 2), va_re ad (gr S 4 3), va_re ad (gr S 4 4), va_re ad (gr S 4 5), va_re ad (gr S 4 6), va_re ad (gr S 4 7)] : List Value).set 4 (.ref (ad x))) := by
  show kcD g ad 4 _ (up2 S.2.1 4 4 (some x) 4) _ = _
  rw [up2_at]
  rfl
theorem dr_4_5 {g : Cx} {ad : Nat → Nat} {S : St} {x : Nat} : cellD g ad (sr S 4 5 (some x)) 4 = .inr (7, ([.int (gv S 4 0), va_re ad (gr S 4 1), va_re ad (gr S 4 2), va_re ad (gr S 4 3), va_re ad (gr S 4 4), va_re ad (gr S 4 5), va_re ad (gr S 4 6), va_re ad (gr S 4 7)] : List Value).set 5 (.ref (ad x))) := by
  show kcD g ad 4 _ (up2 S.2.1 4 5 (some x) 4) _ = _
  rw [up2_at]
  rfl
theorem dr_4_6 {g : Cx} {ad : Nat → Nat} {S : St} {x : Nat} : cellD g ad (sr S 4 6 (some x)) 4 = .inr (7, ([.int (gv S 4 0), va_re ad (gr S 4 1), va_re ad (gr S 4 2), va_re ad (gr S 4 3), va_re ad (gr S 4 4), va_re ad (gr S 4 5), va_re ad (gr S 4 6), va_re ad (gr S 4 7)] : List Value).set 6 (.ref (ad x))) := by
  show kcD g ad 4 _ (up2 S.2.1 4 6 (some x) 4) _ = _
  rw [up2_at]
  rfl
theorem dr_4_7 {g : Cx} {ad : Nat → Nat} {S : St} {x : Nat} : cellD g ad (sr S 4 7 (some x)) 4 = .inr (7, ([.int (gv S 4 0), va_re ad (gr S 4 1), va_re ad (gr S 4 2), va_re ad (gr S 4 3), va_re ad (gr S 4 4), va_re ad (gr S 4 5), va_re ad (gr S 4 6), va_re ad (gr S 4 7)] : List Value).set 7 (.ref (ad x))) := by
  show kcD g ad 4 _ (up2 S.2.1 4 7 (some x) 4) _ = _
  rw [up2_at]
  rfl
theorem cD_5 {g : Cx} {ad : Nat → Nat} {S : St} : cellD g ad S 5 = .inr (8, [va_re ad (gr S 5 0), va_re ad (gr S 5 1), .int (gv S 5 2)]) := rfl
theorem zD_5 {g : Cx} {ad : Nat → Nat} {S : St} : cellD g ad (zr S 5) 5 = .inr (8, [.null, .null, .int 0]) := rfl
theorem dr_5_0 {g : Cx} {ad : Nat → Nat} {S : St} {x : Nat} : cellD g ad (sr S 5 0 (some x)) 5 = .inr (8, ([va_re ad (gr S 5 0), va_re ad (gr S 5 1), .int (gv S 5 2)] : List Value).set 0 (.ref (ad x))) := by
  show kcD g ad 5 _ (up2 S.2.1 5 0 (some x) 5) _ = _
  rw [up2_at]
  rfl
theorem dr_5_1 {g : Cx} {ad : Nat → Nat} {S : St} {x : Nat} : cellD g ad (sr S 5 1 (some x)) 5 = .inr (8, ([va_re ad (gr S 5 0), va_re ad (gr S 5 1), .int (gv S 5 2)] : List Value).set 1 (.ref (ad x))) := by
  show kcD g ad 5 _ (up2 S.2.1 5 1 (some x) 5) _ = _
  rw [up2_at]
  rfl
theorem dv_5_2 {g : Cx} {ad : Nat → Nat} {S : St} {x : Int32} : cellD g ad (sv S 5 2 x) 5 = .inr (8, ([va_re ad (gr S 5 0), va_re ad (gr S 5 1), .int (gv S 5 2)] : List Value).set 2 (.int x)) := by
  show kcD g ad 5 (up2 S.1 5 2 x 5) _ _ = _
  rw [up2_at]
  rfl
theorem cD_110 {g : Cx} {ad : Nat → Nat} {S : St} : cellD g ad S 110 = .inr (6, [.int (gv S 110 0), .int (gv S 110 1), va_re ad (gr S 110 2), va_re ad (gr S 110 3), .int (gv S 110 4)]) := rfl
theorem zD_110 {g : Cx} {ad : Nat → Nat} {S : St} : cellD g ad (zr S 110) 110 = .inr (6, [.int 0, .int 0, .null, .null, .int 0]) := rfl
theorem dv_110_0 {g : Cx} {ad : Nat → Nat} {S : St} {x : Int32} : cellD g ad (sv S 110 0 x) 110 = .inr (6, ([.int (gv S 110 0), .int (gv S 110 1), va_re ad (gr S 110 2), va_re ad (gr S 110 3), .int (gv S 110 4)] : List Value).set 0 (.int x)) := by
  show kcD g ad 110 (up2 S.1 110 0 x 110) _ _ = _
  rw [up2_at]
  rfl
theorem dv_110_1 {g : Cx} {ad : Nat → Nat} {S : St} {x : Int32} : cellD g ad (sv S 110 1 x) 110 = .inr (6, ([.int (gv S 110 0), .int (gv S 110 1), va_re ad (gr S 110 2), va_re ad (gr S 110 3), .int (gv S 110 4)] : List Value).set 1 (.int x)) := by
  show kcD g ad 110 (up2 S.1 110 1 x 110) _ _ = _
  rw [up2_at]
  rfl
theorem dr_110_2 {g : Cx} {ad : Nat → Nat} {S : St} {x : Nat} : cellD g ad (sr S 110 2 (some x)) 110 = .inr (6, ([.int (gv S 110 0), .int (gv S 110 1), va_re ad (gr S 110 2), va_re ad (gr S 110 3), .int (gv S 110 4)] : List Value).set 2 (.ref (ad x))) := by
  show kcD g ad 110 _ (up2 S.2.1 110 2 (some x) 110) _ = _
  rw [up2_at]
  rfl
theorem dr_110_3 {g : Cx} {ad : Nat → Nat} {S : St} {x : Nat} : cellD g ad (sr S 110 3 (some x)) 110 = .inr (6, ([.int (gv S 110 0), .int (gv S 110 1), va_re ad (gr S 110 2), va_re ad (gr S 110 3), .int (gv S 110 4)] : List Value).set 3 (.ref (ad x))) := by
  show kcD g ad 110 _ (up2 S.2.1 110 3 (some x) 110) _ = _
  rw [up2_at]
  rfl
theorem dv_110_4 {g : Cx} {ad : Nat → Nat} {S : St} {x : Int32} : cellD g ad (sv S 110 4 x) 110 = .inr (6, ([.int (gv S 110 0), .int (gv S 110 1), va_re ad (gr S 110 2), va_re ad (gr S 110 3), .int (gv S 110 4)] : List Value).set 4 (.int x)) := by
  show kcD g ad 110 (up2 S.1 110 4 x 110) _ _ = _
  rw [up2_at]
  rfl
theorem cD_111 {g : Cx} {ad : Nat → Nat} {S : St} : cellD g ad S 111 = .inr (3, [.int (gv S 111 0), .int (gv S 111 1), .int (gv S 111 2), va_re ad (gr S 111 3), .int (gv S 111 4), .int (gv S 111 5)]) := rfl
theorem zD_111 {g : Cx} {ad : Nat → Nat} {S : St} : cellD g ad (zr S 111) 111 = .inr (3, [.int 0, .int 0, .int 0, .null, .int 0, .int 0]) := rfl
theorem dv_111_0 {g : Cx} {ad : Nat → Nat} {S : St} {x : Int32} : cellD g ad (sv S 111 0 x) 111 = .inr (3, ([.int (gv S 111 0), .int (gv S 111 1), .int (gv S 111 2), va_re ad (gr S 111 3), .int (gv S 111 4), .int (gv S 111 5)] : List Value).set 0 (.int x)) := by
  show kcD g ad 111 (up2 S.1 111 0 x 111) _ _ = _
  rw [up2_at]
  rfl
theorem dv_111_1 {g : Cx} {ad : Nat → Nat} {S : St} {x : Int32} : cellD g ad (sv S 111 1 x) 111 = .inr (3, ([.int (gv S 111 0), .int (gv S 111 1), .int (gv S 111 2), va_re ad (gr S 111 3), .int (gv S 111 4), .int (gv S 111 5)] : List Value).set 1 (.int x)) := by
  show kcD g ad 111 (up2 S.1 111 1 x 111) _ _ = _
  rw [up2_at]
  rfl
theorem dv_111_2 {g : Cx} {ad : Nat → Nat} {S : St} {x : Int32} : cellD g ad (sv S 111 2 x) 111 = .inr (3, ([.int (gv S 111 0), .int (gv S 111 1), .int (gv S 111 2), va_re ad (gr S 111 3), .int (gv S 111 4), .int (gv S 111 5)] : List Value).set 2 (.int x)) := by
  show kcD g ad 111 (up2 S.1 111 2 x 111) _ _ = _
  rw [up2_at]
  rfl
theorem dr_111_3 {g : Cx} {ad : Nat → Nat} {S : St} {x : Nat} : cellD g ad (sr S 111 3 (some x)) 111 = .inr (3, ([.int (gv S 111 0), .int (gv S 111 1), .int (gv S 111 2), va_re ad (gr S 111 3), .int (gv S 111 4), .int (gv S 111 5)] : List Value).set 3 (.ref (ad x))) := by
  show kcD g ad 111 _ (up2 S.2.1 111 3 (some x) 111) _ = _
  rw [up2_at]
  rfl
theorem dv_111_4 {g : Cx} {ad : Nat → Nat} {S : St} {x : Int32} : cellD g ad (sv S 111 4 x) 111 = .inr (3, ([.int (gv S 111 0), .int (gv S 111 1), .int (gv S 111 2), va_re ad (gr S 111 3), .int (gv S 111 4), .int (gv S 111 5)] : List Value).set 4 (.int x)) := by
  show kcD g ad 111 (up2 S.1 111 4 x 111) _ _ = _
  rw [up2_at]
  rfl
theorem dv_111_5 {g : Cx} {ad : Nat → Nat} {S : St} {x : Int32} : cellD g ad (sv S 111 5 x) 111 = .inr (3, ([.int (gv S 111 0), .int (gv S 111 1), .int (gv S 111 2), va_re ad (gr S 111 3), .int (gv S 111 4), .int (gv S 111 5)] : List Value).set 5 (.int x)) := by
  show kcD g ad 111 (up2 S.1 111 5 x 111) _ _ = _
  rw [up2_at]
  rfl
theorem cD_112 {g : Cx} {ad : Nat → Nat} {S : St} : cellD g ad S 112 = .inr (4, [.int (gv S 112 0), va_re ad (gr S 112 1), .int (gv S 112 2), .int (gv S 112 3)]) := rfl
theorem zD_112 {g : Cx} {ad : Nat → Nat} {S : St} : cellD g ad (zr S 112) 112 = .inr (4, [.int 0, .null, .int 0, .int 0]) := rfl
theorem dv_112_0 {g : Cx} {ad : Nat → Nat} {S : St} {x : Int32} : cellD g ad (sv S 112 0 x) 112 = .inr (4, ([.int (gv S 112 0), va_re ad (gr S 112 1), .int (gv S 112 2), .int (gv S 112 3)] : List Value).set 0 (.int x)) := by
  show kcD g ad 112 (up2 S.1 112 0 x 112) _ _ = _
  rw [up2_at]
  rfl
theorem dr_112_1 {g : Cx} {ad : Nat → Nat} {S : St} {x : Nat} : cellD g ad (sr S 112 1 (some x)) 112 = .inr (4, ([.int (gv S 112 0), va_re ad (gr S 112 1), .int (gv S 112 2), .int (gv S 112 3)] : List Value).set 1 (.ref (ad x))) := by
  show kcD g ad 112 _ (up2 S.2.1 112 1 (some x) 112) _ = _
  rw [up2_at]
  rfl
theorem dv_112_2 {g : Cx} {ad : Nat → Nat} {S : St} {x : Int32} : cellD g ad (sv S 112 2 x) 112 = .inr (4, ([.int (gv S 112 0), va_re ad (gr S 112 1), .int (gv S 112 2), .int (gv S 112 3)] : List Value).set 2 (.int x)) := by
  show kcD g ad 112 (up2 S.1 112 2 x 112) _ _ = _
  rw [up2_at]
  rfl
theorem dv_112_3 {g : Cx} {ad : Nat → Nat} {S : St} {x : Int32} : cellD g ad (sv S 112 3 x) 112 = .inr (4, ([.int (gv S 112 0), va_re ad (gr S 112 1), .int (gv S 112 2), .int (gv S 112 3)] : List Value).set 3 (.int x)) := by
  show kcD g ad 112 (up2 S.1 112 3 x 112) _ _ = _
  rw [up2_at]
  rfl
theorem cD_200 {g : Cx} {ad : Nat → Nat} {S : St} : cellD g ad S 200 = .inr (11, [.int (gv S 200 0), .int (gv S 200 1), va_re ad (gr S 200 2), va_re ad (gr S 200 3), va_re ad (gr S 200 4), va_re ad (gr S 200 5), va_re ad (gr S 200 6), .int (gv S 200 7), va_re ad (gr S 200 8), va_re ad (gr S 200 9), .int (gv S 200 10), va_re ad (gr S 200 11), va_re ad (gr S 200 12), va_re ad (gr S 200 13), va_re ad (gr S 200 14), va_re ad (gr S 200 15), va_re ad (gr S 200 16), va_re ad (gr S 200 17), va_re ad (gr S 200 18), va_re ad (gr S 200 19), va_re ad (gr S 200 20), va_re ad (gr S 200 21), va_re ad (gr S 200 22), va_re ad (gr S 200 23), va_re ad (gr S 200 24), va_re ad (gr S 200 25), va_re ad (gr S 200 26), va_re ad (gr S 200 27), va_re ad (gr S 200 28), va_re ad (gr S 200 29), va_re ad (gr S 200 30), va_re ad (gr S 200 31), va_re ad (gr S 200 32), .int (gv S 200 33), .int (gv S 200 34), .int (gv S 200 35), va_re ad (gr S 200 36), .int (gv S 200 37), .int (gv S 200 38), .int (gv S 200 39), .int (gv S 200 40), .int (gv S 200 41), .int (gv S 200 42), .int (gv S 200 43), .int (gv S 200 44), .long (gl S 200), va_re ad (gr S 200 46), .int (gv S 200 47), .int (gv S 200 48), va_re ad (gr S 200 49), va_re ad (gr S 200 50), va_re ad (gr S 200 51), va_re ad (gr S 200 52), va_re ad (gr S 200 53), .int (gv S 200 54), .int (gv S 200 55), va_re ad (gr S 200 56), va_re ad (gr S 200 57), va_re ad (gr S 200 58), va_re ad (gr S 200 59), va_re ad (gr S 200 60), va_re ad (gr S 200 61), va_re ad (gr S 200 62), va_re ad (gr S 200 63), va_re ad (gr S 200 64), va_re ad (gr S 200 65), va_re ad (gr S 200 66)]) := rfl
theorem zD_200 {g : Cx} {ad : Nat → Nat} {S : St} : cellD g ad (zr S 200) 200 = .inr (11, [.int 0, .int 0, .null, .null, .null, .null, .null, .int 0, .null, .null, .int 0, .null, .null, .null, .null, .null, .null, .null, .null, .null, .null, .null, .null, .null, .null, .null, .null, .null, .null, .null, .null, .null, .null, .int 0, .int 0, .int 0, .null, .int 0, .int 0, .int 0, .int 0, .int 0, .int 0, .int 0, .int 0, .long 0, .null, .int 0, .int 0, .null, .null, .null, .null, .null, .int 0, .int 0, .null, .null, .null, .null, .null, .null, .null, .null, .null, .null, .null]) := rfl
theorem dv_200_0 {g : Cx} {ad : Nat → Nat} {S : St} {x : Int32} : cellD g ad (sv S 200 0 x) 200 = .inr (11, ([.int (gv S 200 0), .int (gv S 200 1), va_re ad (gr S 200 2), va_re ad (gr S 200 3), va_re ad (gr S 200 4), va_re ad (gr S 200 5), va_re ad (gr S 200 6), .int (gv S 200 7), va_re ad (gr S 200 8), va_re ad (gr S 200 9), .int (gv S 200 10), va_re ad (gr S 200 11), va_re ad (gr S 200 12), va_re ad (gr S 200 13), va_re ad (gr S 200 14), va_re ad (gr S 200 15), va_re ad (gr S 200 16), va_re ad (gr S 200 17), va_re ad (gr S 200 18), va_re ad (gr S 200 19), va_re ad (gr S 200 20), va_re ad (gr S 200 21), va_re ad (gr S 200 22), va_re ad (gr S 200 23), va_re ad (gr S 200 24), va_re ad (gr S 200 25), va_re ad (gr S 200 26), va_re ad (gr S 200 27), va_re ad (gr S 200 28), va_re ad (gr S 200 29), va_re ad (gr S 200 30), va_re ad (gr S 200 31), va_re ad (gr S 200 32), .int (gv S 200 33), .int (gv S 200 34), .int (gv S 200 35), va_re ad (gr S 200 36), .int (gv S 200 37), .int (gv S 200 38), .int (gv S 200 39), .int (gv S 200 40), .int (gv S 200 41), .int (gv S 200 42), .int (gv S 200 43), .int (gv S 200 44), .long (gl S 200), va_re ad (gr S 200 46), .int (gv S 200 47), .int (gv S 200 48), va_re ad (gr S 200 49), va_re ad (gr S 200 50), va_re ad (gr S 200 51), va_re ad (gr S 200 52), va_re ad (gr S 200 53), .int (gv S 200 54), .int (gv S 200 55), va_re ad (gr S 200 56), va_re ad (gr S 200 57), va_re ad (gr S 200 58), va_re ad (gr S 200 59), va_re ad (gr S 200 60), va_re ad (gr S 200 61), va_re ad (gr S 200 62), va_re ad (gr S 200 63), va_re ad (gr S 200 64), va_re ad (gr S 200 65), va_re ad (gr S 200 66)] : List Value).set 0 (.int x)) := by
  show kcD g ad 200 (up2 S.1 200 0 x 200) _ _ = _
  rw [up2_at]
  rfl
theorem dv_200_1 {g : Cx} {ad : Nat → Nat} {S : St} {x : Int32} : cellD g ad (sv S 200 1 x) 200 = .inr (11, ([.int (gv S 200 0), .int (gv S 200 1), va_re ad (gr S 200 2), va_re ad (gr S 200 3), va_re ad (gr S 200 4), va_re ad (gr S 200 5), va_re ad (gr S 200 6), .int (gv S 200 7), va_re ad (gr S 200 8), va_re ad (gr S 200 9), .int (gv S 200 10), va_re ad (gr S 200 11), va_re ad (gr S 200 12), va_re ad (gr S 200 13), va_re ad (gr S 200 14), va_re ad (gr S 200 15), va_re ad (gr S 200 16), va_re ad (gr S 200 17), va_re ad (gr S 200 18), va_re ad (gr S 200 19), va_re ad (gr S 200 20), va_re ad (gr S 200 21), va_re ad (gr S 200 22), va_re ad (gr S 200 23), va_re ad (gr S 200 24), va_re ad (gr S 200 25), va_re ad (gr S 200 26), va_re ad (gr S 200 27), va_re ad (gr S 200 28), va_re ad (gr S 200 29), va_re ad (gr S 200 30), va_re ad (gr S 200 31), va_re ad (gr S 200 32), .int (gv S 200 33), .int (gv S 200 34), .int (gv S 200 35), va_re ad (gr S 200 36), .int (gv S 200 37), .int (gv S 200 38), .int (gv S 200 39), .int (gv S 200 40), .int (gv S 200 41), .int (gv S 200 42), .int (gv S 200 43), .int (gv S 200 44), .long (gl S 200), va_re ad (gr S 200 46), .int (gv S 200 47), .int (gv S 200 48), va_re ad (gr S 200 49), va_re ad (gr S 200 50), va_re ad (gr S 200 51), va_re ad (gr S 200 52), va_re ad (gr S 200 53), .int (gv S 200 54), .int (gv S 200 55), va_re ad (gr S 200 56), va_re ad (gr S 200 57), va_re ad (gr S 200 58), va_re ad (gr S 200 59), va_re ad (gr S 200 60), va_re ad (gr S 200 61), va_re ad (gr S 200 62), va_re ad (gr S 200 63), va_re ad (gr S 200 64), va_re ad (gr S 200 65), va_re ad (gr S 200 66)] : List Value).set 1 (.int x)) := by
  show kcD g ad 200 (up2 S.1 200 1 x 200) _ _ = _
  rw [up2_at]
  rfl
theorem dr_200_2 {g : Cx} {ad : Nat → Nat} {S : St} {x : Nat} : cellD g ad (sr S 200 2 (some x)) 200 = .inr (11, ([.int (gv S 200 0), .int (gv S 200 1), va_re ad (gr S 200 2), va_re ad (gr S 200 3), va_re ad (gr S 200 4), va_re ad (gr S 200 5), va_re ad (gr S 200 6), .int (gv S 200 7), va_re ad (gr S 200 8), va_re ad (gr S 200 9), .int (gv S 200 10), va_re ad (gr S 200 11), va_re ad (gr S 200 12), va_re ad (gr S 200 13), va_re ad (gr S 200 14), va_re ad (gr S 200 15), va_re ad (gr S 200 16), va_re ad (gr S 200 17), va_re ad (gr S 200 18), va_re ad (gr S 200 19), va_re ad (gr S 200 20), va_re ad (gr S 200 21), va_re ad (gr S 200 22), va_re ad (gr S 200 23), va_re ad (gr S 200 24), va_re ad (gr S 200 25), va_re ad (gr S 200 26), va_re ad (gr S 200 27), va_re ad (gr S 200 28), va_re ad (gr S 200 29), va_re ad (gr S 200 30), va_re ad (gr S 200 31), va_re ad (gr S 200 32), .int (gv S 200 33), .int (gv S 200 34), .int (gv S 200 35), va_re ad (gr S 200 36), .int (gv S 200 37), .int (gv S 200 38), .int (gv S 200 39), .int (gv S 200 40), .int (gv S 200 41), .int (gv S 200 42), .int (gv S 200 43), .int (gv S 200 44), .long (gl S 200), va_re ad (gr S 200 46), .int (gv S 200 47), .int (gv S 200 48), va_re ad (gr S 200 49), va_re ad (gr S 200 50), va_re ad (gr S 200 51), va_re ad (gr S 200 52), va_re ad (gr S 200 53), .int (gv S 200 54), .int (gv S 200 55), va_re ad (gr S 200 56), va_re ad (gr S 200 57), va_re ad (gr S 200 58), va_re ad (gr S 200 59), va_re ad (gr S 200 60), va_re ad (gr S 200 61), va_re ad (gr S 200 62), va_re ad (gr S 200 63), va_re ad (gr S 200 64), va_re ad (gr S 200 65), va_re ad (gr S 200 66)] : List Value).set 2 (.ref (ad x))) := by
  show kcD g ad 200 _ (up2 S.2.1 200 2 (some x) 200) _ = _
  rw [up2_at]
  rfl
theorem dr_200_3 {g : Cx} {ad : Nat → Nat} {S : St} {x : Nat} : cellD g ad (sr S 200 3 (some x)) 200 = .inr (11, ([.int (gv S 200 0), .int (gv S 200 1), va_re ad (gr S 200 2), va_re ad (gr S 200 3), va_re ad (gr S 200 4), va_re ad (gr S 200 5), va_re ad (gr S 200 6), .int (gv S 200 7), va_re ad (gr S 200 8), va_re ad (gr S 200 9), .int (gv S 200 10), va_re ad (gr S 200 11), va_re ad (gr S 200 12), va_re ad (gr S 200 13), va_re ad (gr S 200 14), va_re ad (gr S 200 15), va_re ad (gr S 200 16), va_re ad (gr S 200 17), va_re ad (gr S 200 18), va_re ad (gr S 200 19), va_re ad (gr S 200 20), va_re ad (gr S 200 21), va_re ad (gr S 200 22), va_re ad (gr S 200 23), va_re ad (gr S 200 24), va_re ad (gr S 200 25), va_re ad (gr S 200 26), va_re ad (gr S 200 27), va_re ad (gr S 200 28), va_re ad (gr S 200 29), va_re ad (gr S 200 30), va_re ad (gr S 200 31), va_re ad (gr S 200 32), .int (gv S 200 33), .int (gv S 200 34), .int (gv S 200 35), va_re ad (gr S 200 36), .int (gv S 200 37), .int (gv S 200 38), .int (gv S 200 39), .int (gv S 200 40), .int (gv S 200 41), .int (gv S 200 42), .int (gv S 200 43), .int (gv S 200 44), .long (gl S 200), va_re ad (gr S 200 46), .int (gv S 200 47), .int (gv S 200 48), va_re ad (gr S 200 49), va_re ad (gr S 200 50), va_re ad (gr S 200 51), va_re ad (gr S 200 52), va_re ad (gr S 200 53), .int (gv S 200 54), .int (gv S 200 55), va_re ad (gr S 200 56), va_re ad (gr S 200 57), va_re ad (gr S 200 58), va_re ad (gr S 200 59), va_re ad (gr S 200 60), va_re ad (gr S 200 61), va_re ad (gr S 200 62), va_re ad (gr S 200 63), va_re ad (gr S 200 64), va_re ad (gr S 200 65), va_re ad (gr S 200 66)] : List Value).set 3 (.ref (ad x))) := by
  show kcD g ad 200 _ (up2 S.2.1 200 3 (some x) 200) _ = _
  rw [up2_at]
  rfl
theorem dr_200_4 {g : Cx} {ad : Nat → Nat} {S : St} {x : Nat} : cellD g ad (sr S 200 4 (some x)) 200 = .inr (11, ([.int (gv S 200 0), .int (gv S 200 1), va_re ad (gr S 200 2), va_re ad (gr S 200 3), va_re ad (gr S 200 4), va_re ad (gr S 200 5), va_re ad (gr S 200 6), .int (gv S 200 7), va_re ad (gr S 200 8), va_re ad (gr S 200 9), .int (gv S 200 10), va_re ad (gr S 200 11), va_re ad (gr S 200 12), va_re ad (gr S 200 13), va_re ad (gr S 200 14), va_re ad (gr S 200 15), va_re ad (gr S 200 16), va_re ad (gr S 200 17), va_re ad (gr S 200 18), va_re ad (gr S 200 19), va_re ad (gr S 200 20), va_re ad (gr S 200 21), va_re ad (gr S 200 22), va_re ad (gr S 200 23), va_re ad (gr S 200 24), va_re ad (gr S 200 25), va_re ad (gr S 200 26), va_re ad (gr S 200 27), va_re ad (gr S 200 28), va_re ad (gr S 200 29), va_re ad (gr S 200 30), va_re ad (gr S 200 31), va_re ad (gr S 200 32), .int (gv S 200 33), .int (gv S 200 34), .int (gv S 200 35), va_re ad (gr S 200 36), .int (gv S 200 37), .int (gv S 200 38), .int (gv S 200 39), .int (gv S 200 40), .int (gv S 200 41), .int (gv S 200 42), .int (gv S 200 43), .int (gv S 200 44), .long (gl S 200), va_re ad (gr S 200 46), .int (gv S 200 47), .int (gv S 200 48), va_re ad (gr S 200 49), va_re ad (gr S 200 50), va_re ad (gr S 200 51), va_re ad (gr S 200 52), va_re ad (gr S 200 53), .int (gv S 200 54), .int (gv S 200 55), va_re ad (gr S 200 56), va_re ad (gr S 200 57), va_re ad (gr S 200 58), va_re ad (gr S 200 59), va_re ad (gr S 200 60), va_re ad (gr S 200 61), va_re ad (gr S 200 62), va_re ad (gr S 200 63), va_re ad (gr S 200 64), va_re ad (gr S 200 65), va_re ad (gr S 200 66)] : List Value).set 4 (.ref (ad x))) := by
  show kcD g ad 200 _ (up2 S.2.1 200 4 (some x) 200) _ = _
  rw [up2_at]
  rfl
theorem dr_200_5 {g : Cx} {ad : Nat → Nat} {S : St} {x : Nat} : cellD g ad (sr S 200 5 (some x)) 200 = .inr (11, ([.int (gv S 200 0), .int (gv S 200 1), va_re ad (gr S 200 2), va_re ad (gr S 200 3), va_re ad (gr S 200 4), va_re ad (gr S 200 5), va_re ad (gr S 200 6), .int (gv S 200 7), va_re ad (gr S 200 8), va_re ad (gr S 200 9), .int (gv S 200 10), va_re ad (gr S 200 11), va_re ad (gr S 200 12), va_re ad (gr S 200 13), va_re ad (gr S 200 14), va_re ad (gr S 200 15), va_re ad (gr S 200 16), va_re ad (gr S 200 17), va_re ad (gr S 200 18), va_re ad (gr S 200 19), va_re ad (gr S 200 20), va_re ad (gr S 200 21), va_re ad (gr S 200 22), va_re ad (gr S 200 23), va_re ad (gr S 200 24), va_re ad (gr S 200 25), va_re ad (gr S 200 26), va_re ad (gr S 200 27), va_re ad (gr S 200 28), va_re ad (gr S 200 29), va_re ad (gr S 200 30), va_re ad (gr S 200 31), va_re ad (gr S 200 32), .int (gv S 200 33), .int (gv S 200 34), .int (gv S 200 35), va_re ad (gr S 200 36), .int (gv S 200 37), .int (gv S 200 38), .int (gv S 200 39), .int (gv S 200 40), .int (gv S 200 41), .int (gv S 200 42), .int (gv S 200 43), .int (gv S 200 44), .long (gl S 200), va_re ad (gr S 200 46), .int (gv S 200 47), .int (gv S 200 48), va_re ad (gr S 200 49), va_re ad (gr S 200 50), va_re ad (gr S 200 51), va_re ad (gr S 200 52), va_re ad (gr S 200 53), .int (gv S 200 54), .int (gv S 200 55), va_re ad (gr S 200 56), va_re ad (gr S 200 57), va_re ad (gr S 200 58), va_re ad (gr S 200 59), va_re ad (gr S 200 60), va_re ad (gr S 200 61), va_re ad (gr S 200 62), va_re ad (gr S 200 63), va_re ad (gr S 200 64), va_re ad (gr S 200 65), va_re ad (gr S 200 66)] : List Value).set 5 (.ref (ad x))) := by
  show kcD g ad 200 _ (up2 S.2.1 200 5 (some x) 200) _ = _
  rw [up2_at]
  rfl
theorem dr_200_6 {g : Cx} {ad : Nat → Nat} {S : St} {x : Nat} : cellD g ad (sr S 200 6 (some x)) 200 = .inr (11, ([.int (gv S 200 0), .int (gv S 200 1), va_re ad (gr S 200 2), va_re ad (gr S 200 3), va_re ad (gr S 200 4), va_re ad (gr S 200 5), va_re ad (gr S 200 6), .int (gv S 200 7), va_re ad (gr S 200 8), va_re ad (gr S 200 9), .int (gv S 200 10), va_re ad (gr S 200 11), va_re ad (gr S 200 12), va_re ad (gr S 200 13), va_re ad (gr S 200 14), va_re ad (gr S 200 15), va_re ad (gr S 200 16), va_re ad (gr S 200 17), va_re ad (gr S 200 18), va_re ad (gr S 200 19), va_re ad (gr S 200 20), va_re ad (gr S 200 21), va_re ad (gr S 200 22), va_re ad (gr S 200 23), va_re ad (gr S 200 24), va_re ad (gr S 200 25), va_re ad (gr S 200 26), va_re ad (gr S 200 27), va_re ad (gr S 200 28), va_re ad (gr S 200 29), va_re ad (gr S 200 30), va_re ad (gr S 200 31), va_re ad (gr S 200 32), .int (gv S 200 33), .int (gv S 200 34), .int (gv S 200 35), va_re ad (gr S 200 36), .int (gv S 200 37), .int (gv S 200 38), .int (gv S 200 39), .int (gv S 200 40), .int (gv S 200 41), .int (gv S 200 42), .int (gv S 200 43), .int (gv S 200 44), .long (gl S 200), va_re ad (gr S 200 46), .int (gv S 200 47), .int (gv S 200 48), va_re ad (gr S 200 49), va_re ad (gr S 200 50), va_re ad (gr S 200 51), va_re ad (gr S 200 52), va_re ad (gr S 200 53), .int (gv S 200 54), .int (gv S 200 55), va_re ad (gr S 200 56), va_re ad (gr S 200 57), va_re ad (gr S 200 58), va_re ad (gr S 200 59), va_re ad (gr S 200 60), va_re ad (gr S 200 61), va_re ad (gr S 200 62), va_re ad (gr S 200 63), va_re ad (gr S 200 64), va_re ad (gr S 200 65), va_re ad (gr S 200 66)] : List Value).set 6 (.ref (ad x))) := by
  show kcD g ad 200 _ (up2 S.2.1 200 6 (some x) 200) _ = _
  rw [up2_at]
  rfl
theorem dv_200_7 {g : Cx} {ad : Nat → Nat} {S : St} {x : Int32} : cellD g ad (sv S 200 7 x) 200 = .inr (11, ([.int (gv S 200 0), .int (gv S 200 1), va_re ad (gr S 200 2), va_re ad (gr S 200 3), va_re ad (gr S 200 4), va_re ad (gr S 200 5), va_re ad (gr S 200 6), .int (gv S 200 7), va_re ad (gr S 200 8), va_re ad (gr S 200 9), .int (gv S 200 10), va_re ad (gr S 200 11), va_re ad (gr S 200 12), va_re ad (gr S 200 13), va_re ad (gr S 200 14), va_re ad (gr S 200 15), va_re ad (gr S 200 16), va_re ad (gr S 200 17), va_re ad (gr S 200 18), va_re ad (gr S 200 19), va_re ad (gr S 200 20), va_re ad (gr S 200 21), va_re ad (gr S 200 22), va_re ad (gr S 200 23), va_re ad (gr S 200 24), va_re ad (gr S 200 25), va_re ad (gr S 200 26), va_re ad (gr S 200 27), va_re ad (gr S 200 28), va_re ad (gr S 200 29), va_re ad (gr S 200 30), va_re ad (gr S 200 31), va_re ad (gr S 200 32), .int (gv S 200 33), .int (gv S 200 34), .int (gv S 200 35), va_re ad (gr S 200 36), .int (gv S 200 37), .int (gv S 200 38), .int (gv S 200 39), .int (gv S 200 40), .int (gv S 200 41), .int (gv S 200 42), .int (gv S 200 43), .int (gv S 200 44), .long (gl S 200), va_re ad (gr S 200 46), .int (gv S 200 47), .int (gv S 200 48), va_re ad (gr S 200 49), va_re ad (gr S 200 50), va_re ad (gr S 200 51), va_re ad (gr S 200 52), va_re ad (gr S 200 53), .int (gv S 200 54), .int (gv S 200 55), va_re ad (gr S 200 56), va_re ad (gr S 200 57), va_re ad (gr S 200 58), va_re ad (gr S 200 59), va_re ad (gr S 200 60), va_re ad (gr S 200 61), va_re ad (gr S 200 62), va_re ad (gr S 200 63), va_re ad (gr S 200 64), va_re ad (gr S 200 65), va_re ad (gr S 200 66)] : List Value).set 7 (.int x)) := by
  show kcD g ad 200 (up2 S.1 200 7 x 200) _ _ = _
  rw [up2_at]
  rfl
theorem dr_200_8 {g : Cx} {ad : Nat → Nat} {S : St} {x : Nat} : cellD g ad (sr S 200 8 (some x)) 200 = .inr (11, ([.int (gv S 200 0), .int (gv S 200 1), va_re ad (gr S 200 2), va_re ad (gr S 200 3), va_re ad (gr S 200 4), va_re ad (gr S 200 5), va_re ad (gr S 200 6), .int (gv S 200 7), va_re ad (gr S 200 8), va_re ad (gr S 200 9), .int (gv S 200 10), va_re ad (gr S 200 11), va_re ad (gr S 200 12), va_re ad (gr S 200 13), va_re ad (gr S 200 14), va_re ad (gr S 200 15), va_re ad (gr S 200 16), va_re ad (gr S 200 17), va_re ad (gr S 200 18), va_re ad (gr S 200 19), va_re ad (gr S 200 20), va_re ad (gr S 200 21), va_re ad (gr S 200 22), va_re ad (gr S 200 23), va_re ad (gr S 200 24), va_re ad (gr S 200 25), va_re ad (gr S 200 26), va_re ad (gr S 200 27), va_re ad (gr S 200 28), va_re ad (gr S 200 29), va_re ad (gr S 200 30), va_re ad (gr S 200 31), va_re ad (gr S 200 32), .int (gv S 200 33), .int (gv S 200 34), .int (gv S 200 35), va_re ad (gr S 200 36), .int (gv S 200 37), .int (gv S 200 38), .int (gv S 200 39), .int (gv S 200 40), .int (gv S 200 41), .int (gv S 200 42), .int (gv S 200 43), .int (gv S 200 44), .long (gl S 200), va_re ad (gr S 200 46), .int (gv S 200 47), .int (gv S 200 48), va_re ad (gr S 200 49), va_re ad (gr S 200 50), va_re ad (gr S 200 51), va_re ad (gr S 200 52), va_re ad (gr S 200 53), .int (gv S 200 54), .int (gv S 200 55), va_re ad (gr S 200 56), va_re ad (gr S 200 57), va_re ad (gr S 200 58), va_re ad (gr S 200 59), va_re ad (gr S 200 60), va_re ad (gr S 200 61), va_re ad (gr S 200 62), va_re ad (gr S 200 63), va_re ad (gr S 200 64), va_re ad (gr S 200 65), va_re ad (gr S 200 66)] : List Value).set 8 (.ref (ad x))) := by
  show kcD g ad 200 _ (up2 S.2.1 200 8 (some x) 200) _ = _
  rw [up2_at]
  rfl
theorem dr_200_9 {g : Cx} {ad : Nat → Nat} {S : St} {x : Nat} : cellD g ad (sr S 200 9 (some x)) 200 = .inr (11, ([.int (gv S 200 0), .int (gv S 200 1), va_re ad (gr S 200 2), va_re ad (gr S 200 3), va_re ad (gr S 200 4), va_re ad (gr S 200 5), va_re ad (gr S 200 6), .int (gv S 200 7), va_re ad (gr S 200 8), va_re ad (gr S 200 9), .int (gv S 200 10), va_re ad (gr S 200 11), va_re ad (gr S 200 12), va_re ad (gr S 200 13), va_re ad (gr S 200 14), va_re ad (gr S 200 15), va_re ad (gr S 200 16), va_re ad (gr S 200 17), va_re ad (gr S 200 18), va_re ad (gr S 200 19), va_re ad (gr S 200 20), va_re ad (gr S 200 21), va_re ad (gr S 200 22), va_re ad (gr S 200 23), va_re ad (gr S 200 24), va_re ad (gr S 200 25), va_re ad (gr S 200 26), va_re ad (gr S 200 27), va_re ad (gr S 200 28), va_re ad (gr S 200 29), va_re ad (gr S 200 30), va_re ad (gr S 200 31), va_re ad (gr S 200 32), .int (gv S 200 33), .int (gv S 200 34), .int (gv S 200 35), va_re ad (gr S 200 36), .int (gv S 200 37), .int (gv S 200 38), .int (gv S 200 39), .int (gv S 200 40), .int (gv S 200 41), .int (gv S 200 42), .int (gv S 200 43), .int (gv S 200 44), .long (gl S 200), va_re ad (gr S 200 46), .int (gv S 200 47), .int (gv S 200 48), va_re ad (gr S 200 49), va_re ad (gr S 200 50), va_re ad (gr S 200 51), va_re ad (gr S 200 52), va_re ad (gr S 200 53), .int (gv S 200 54), .int (gv S 200 55), va_re ad (gr S 200 56), va_re ad (gr S 200 57), va_re ad (gr S 200 58), va_re ad (gr S 200 59), va_re ad (gr S 200 60), va_re ad (gr S 200 61), va_re ad (gr S 200 62), va_re ad (gr S 200 63), va_re ad (gr S 200 64), va_re ad (gr S 200 65), va_re ad (gr S 200 66)] : List Value).set 9 (.ref (ad x))) := by
  show kcD g ad 200 _ (up2 S.2.1 200 9 (some x) 200) _ = _
  rw [up2_at]
  rfl
theorem dv_200_10 {g : Cx} {ad : Nat → Nat} {S : St} {x : Int32} : cellD g ad (sv S 200 10 x) 200 = .inr (11, ([.int (gv S 200 0), .int (gv S 200 1), va_re ad (gr S 200 2), va_re ad (gr S 200 3), va_re ad (gr S 200 4), va_re ad (gr S 200 5), va_re ad (gr S 200 6), .int (gv S 200 7), va_re ad (gr S 200 8), va_re ad (gr S 200 9), .int (gv S 200 10), va_re ad (gr S 200 11), va_re ad (gr S 200 12), va_re ad (gr S 200 13), va_re ad (gr S 200 14), va_re ad (gr S 200 15), va_re ad (gr S 200 16), va_re ad (gr S 200 17), va_re ad (gr S 200 18), va_re ad (gr S 200 19), va_re ad (gr S 200 20), va_re ad (gr S 200 21), va_re ad (gr S 200 22), va_re ad (gr S 200 23), va_re ad (gr S 200 24), va_re ad (gr S 200 25), va_re ad (gr S 200 26), va_re ad (gr S 200 27), va_re ad (gr S 200 28), va_re ad (gr S 200 29), va_re ad (gr S 200 30), va_re ad (gr S 200 31), va_re ad (gr S 200 32), .int (gv S 200 33), .int (gv S 200 34), .int (gv S 200 35), va_re ad (gr S 200 36), .int (gv S 200 37), .int (gv S 200 38), .int (gv S 200 39), .int (gv S 200 40), .int (gv S 200 41), .int (gv S 200 42), .int (gv S 200 43), .int (gv S 200 44), .long (gl S 200), va_re ad (gr S 200 46), .int (gv S 200 47), .int (gv S 200 48), va_re ad (gr S 200 49), va_re ad (gr S 200 50), va_re ad (gr S 200 51), va_re ad (gr S 200 52), va_re ad (gr S 200 53), .int (gv S 200 54), .int (gv S 200 55), va_re ad (gr S 200 56), va_re ad (gr S 200 57), va_re ad (gr S 200 58), va_re ad (gr S 200 59), va_re ad (gr S 200 60), va_re ad (gr S 200 61), va_re ad (gr S 200 62), va_re ad (gr S 200 63), va_re ad (gr S 200 64), va_re ad (gr S 200 65), va_re ad (gr S 200 66)] : List Value).set 10 (.int x)) := by
  show kcD g ad 200 (up2 S.1 200 10 x 200) _ _ = _
  rw [up2_at]
  rfl
theorem dr_200_11 {g : Cx} {ad : Nat → Nat} {S : St} {x : Nat} : cellD g ad (sr S 200 11 (some x)) 200 = .inr (11, ([.int (gv S 200 0), .int (gv S 200 1), va_re ad (gr S 200 2), va_re ad (gr S 200 3), va_re ad (gr S 200 4), va_re ad (gr S 200 5), va_re ad (gr S 200 6), .int (gv S 200 7), va_re ad (gr S 200 8), va_re ad (gr S 200 9), .int (gv S 200 10), va_re ad (gr S 200 11), va_re ad (gr S 200 12), va_re ad (gr S 200 13), va_re ad (gr S 200 14), va_re ad (gr S 200 15), va_re ad (gr S 200 16), va_re ad (gr S 200 17), va_re ad (gr S 200 18), va_re ad (gr S 200 19), va_re ad (gr S 200 20), va_re ad (gr S 200 21), va_re ad (gr S 200 22), va_re ad (gr S 200 23), va_re ad (gr S 200 24), va_re ad (gr S 200 25), va_re ad (gr S 200 26), va_re ad (gr S 200 27), va_re ad (gr S 200 28), va_re ad (gr S 200 29), va_re ad (gr S 200 30), va_re ad (gr S 200 31), va_re ad (gr S 200 32), .int (gv S 200 33), .int (gv S 200 34), .int (gv S 200 35), va_re ad (gr S 200 36), .int (gv S 200 37), .int (gv S 200 38), .int (gv S 200 39), .int (gv S 200 40), .int (gv S 200 41), .int (gv S 200 42), .int (gv S 200 43), .int (gv S 200 44), .long (gl S 200), va_re ad (gr S 200 46), .int (gv S 200 47), .int (gv S 200 48), va_re ad (gr S 200 49), va_re ad (gr S 200 50), va_re ad (gr S 200 51), va_re ad (gr S 200 52), va_re ad (gr S 200 53), .int (gv S 200 54), .int (gv S 200 55), va_re ad (gr S 200 56), va_re ad (gr S 200 57), va_re ad (gr S 200 58), va_re ad (gr S 200 59), va_re ad (gr S 200 60), va_re ad (gr S 200 61), va_re ad (gr S 200 62), va_re ad (gr S 200 63), va_re ad (gr S 200 64), va_re ad (gr S 200 65), va_re ad (gr S 200 66)] : List Value).set 11 (.ref (ad x))) := by
  show kcD g ad 200 _ (up2 S.2.1 200 11 (some x) 200) _ = _
  rw [up2_at]
  rfl
theorem dr_200_12 {g : Cx} {ad : Nat → Nat} {S : St} {x : Nat} : cellD g ad (sr S 200 12 (some x)) 200 = .inr (11, ([.int (gv S 200 0), .int (gv S 200 1), va_re ad (gr S 200 2), va_re ad (gr S 200 3), va_re ad (gr S 200 4), va_re ad (gr S 200 5), va_re ad (gr S 200 6), .int (gv S 200 7), va_re ad (gr S 200 8), va_re ad (gr S 200 9), .int (gv S 200 10), va_re ad (gr S 200 11), va_re ad (gr S 200 12), va_re ad (gr S 200 13), va_re ad (gr S 200 14), va_re ad (gr S 200 15), va_re ad (gr S 200 16), va_re ad (gr S 200 17), va_re ad (gr S 200 18), va_re ad (gr S 200 19), va_re ad (gr S 200 20), va_re ad (gr S 200 21), va_re ad (gr S 200 22), va_re ad (gr S 200 23), va_re ad (gr S 200 24), va_re ad (gr S 200 25), va_re ad (gr S 200 26), va_re ad (gr S 200 27), va_re ad (gr S 200 28), va_re ad (gr S 200 29), va_re ad (gr S 200 30), va_re ad (gr S 200 31), va_re ad (gr S 200 32), .int (gv S 200 33), .int (gv S 200 34), .int (gv S 200 35), va_re ad (gr S 200 36), .int (gv S 200 37), .int (gv S 200 38), .int (gv S 200 39), .int (gv S 200 40), .int (gv S 200 41), .int (gv S 200 42), .int (gv S 200 43), .int (gv S 200 44), .long (gl S 200), va_re ad (gr S 200 46), .int (gv S 200 47), .int (gv S 200 48), va_re ad (gr S 200 49), va_re ad (gr S 200 50), va_re ad (gr S 200 51), va_re ad (gr S 200 52), va_re ad (gr S 200 53), .int (gv S 200 54), .int (gv S 200 55), va_re ad (gr S 200 56), va_re ad (gr S 200 57), va_re ad (gr S 200 58), va_re ad (gr S 200 59), va_re ad (gr S 200 60), va_re ad (gr S 200 61), va_re ad (gr S 200 62), va_re ad (gr S 200 63), va_re ad (gr S 200 64), va_re ad (gr S 200 65), va_re ad (gr S 200 66)] : List Value).set 12 (.ref (ad x))) := by
  show kcD g ad 200 _ (up2 S.2.1 200 12 (some x) 200) _ = _
  rw [up2_at]
  rfl
theorem dr_200_13 {g : Cx} {ad : Nat → Nat} {S : St} {x : Nat} : cellD g ad (sr S 200 13 (some x)) 200 = .inr (11, ([.int (gv S 200 0), .int (gv S 200 1), va_re ad (gr S 200 2), va_re ad (gr S 200 3), va_re ad (gr S 200 4), va_re ad (gr S 200 5), va_re ad (gr S 200 6), .int (gv S 200 7), va_re ad (gr S 200 8), va_re ad (gr S 200 9), .int (gv S 200 10), va_re ad (gr S 200 11), va_re ad (gr S 200 12), va_re ad (gr S 200 13), va_re ad (gr S 200 14), va_re ad (gr S 200 15), va_re ad (gr S 200 16), va_re ad (gr S 200 17), va_re ad (gr S 200 18), va_re ad (gr S 200 19), va_re ad (gr S 200 20), va_re ad (gr S 200 21), va_re ad (gr S 200 22), va_re ad (gr S 200 23), va_re ad (gr S 200 24), va_re ad (gr S 200 25), va_re ad (gr S 200 26), va_re ad (gr S 200 27), va_re ad (gr S 200 28), va_re ad (gr S 200 29), va_re ad (gr S 200 30), va_re ad (gr S 200 31), va_re ad (gr S 200 32), .int (gv S 200 33), .int (gv S 200 34), .int (gv S 200 35), va_re ad (gr S 200 36), .int (gv S 200 37), .int (gv S 200 38), .int (gv S 200 39), .int (gv S 200 40), .int (gv S 200 41), .int (gv S 200 42), .int (gv S 200 43), .int (gv S 200 44), .long (gl S 200), va_re ad (gr S 200 46), .int (gv S 200 47), .int (gv S 200 48), va_re ad (gr S 200 49), va_re ad (gr S 200 50), va_re ad (gr S 200 51), va_re ad (gr S 200 52), va_re ad (gr S 200 53), .int (gv S 200 54), .int (gv S 200 55), va_re ad (gr S 200 56), va_re ad (gr S 200 57), va_re ad (gr S 200 58), va_re ad (gr S 200 59), va_re ad (gr S 200 60), va_re ad (gr S 200 61), va_re ad (gr S 200 62), va_re ad (gr S 200 63), va_re ad (gr S 200 64), va_re ad (gr S 200 65), va_re ad (gr S 200 66)] : List Value).set 13 (.ref (ad x))) := by
  show kcD g ad 200 _ (up2 S.2.1 200 13 (some x) 200) _ = _
  rw [up2_at]
  rfl
theorem dr_200_14 {g : Cx} {ad : Nat → Nat} {S : St} {x : Nat} : cellD g ad (sr S 200 14 (some x)) 200 = .inr (11, ([.int (gv S 200 0), .int (gv S 200 1), va_re ad (gr S 200 2), va_re ad (gr S 200 3), va_re ad (gr S 200 4), va_re ad (gr S 200 5), va_re ad (gr S 200 6), .int (gv S 200 7), va_re ad (gr S 200 8), va_re ad (gr S 200 9), .int (gv S 200 10), va_re ad (gr S 200 11), va_re ad (gr S 200 12), va_re ad (gr S 200 13), va_re ad (gr S 200 14), va_re ad (gr S 200 15), va_re ad (gr S 200 16), va_re ad (gr S 200 17), va_re ad (gr S 200 18), va_re ad (gr S 200 19), va_re ad (gr S 200 20), va_re ad (gr S 200 21), va_re ad (gr S 200 22), va_re ad (gr S 200 23), va_re ad (gr S 200 24), va_re ad (gr S 200 25), va_re ad (gr S 200 26), va_re ad (gr S 200 27), va_re ad (gr S 200 28), va_re ad (gr S 200 29), va_re ad (gr S 200 30), va_re ad (gr S 200 31), va_re ad (gr S 200 32), .int (gv S 200 33), .int (gv S 200 34), .int (gv S 200 35), va_re ad (gr S 200 36), .int (gv S 200 37), .int (gv S 200 38), .int (gv S 200 39), .int (gv S 200 40), .int (gv S 200 41), .int (gv S 200 42), .int (gv S 200 43), .int (gv S 200 44), .long (gl S 200), va_re ad (gr S 200 46), .int (gv S 200 47), .int (gv S 200 48), va_re ad (gr S 200 49), va_re ad (gr S 200 50), va_re ad (gr S 200 51), va_re ad (gr S 200 52), va_re ad (gr S 200 53), .int (gv S 200 54), .int (gv S 200 55), va_re ad (gr S 200 56), va_re ad (gr S 200 57), va_re ad (gr S 200 58), va_re ad (gr S 200 59), va_re ad (gr S 200 60), va_re ad (gr S 200 61), va_re ad (gr S 200 62), va_re ad (gr S 200 63), va_re ad (gr S 200 64), va_re ad (gr S 200 65), va_re ad (gr S 200 66)] : List Value).set 14 (.ref (ad x))) := by
  show kcD g ad 200 _ (up2 S.2.1 200 14 (some x) 200) _ = _
  rw [up2_at]
  rfl
theorem dr_200_15 {g : Cx} {ad : Nat → Nat} {S : St} {x : Nat} : cellD g ad (sr S 200 15 (some x)) 200 = .inr (11, ([.int (gv S 200 0), .int (gv S 200 1), va_re ad (gr S 200 2), va_re ad (gr S 200 3), va_re ad (gr S 200 4), va_re ad (gr S 200 5), va_re ad (gr S 200 6), .int (gv S 200 7), va_re ad (gr S 200 8), va_re ad (gr S 200 9), .int (gv S 200 10), va_re ad (gr S 200 11), va_re ad (gr S 200 12), va_re ad (gr S 200 13), va_re ad (gr S 200 14), va_re ad (gr S 200 15), va_re ad (gr S 200 16), va_re ad (gr S 200 17), va_re ad (gr S 200 18), va_re ad (gr S 200 19), va_re ad (gr S 200 20), va_re ad (gr S 200 21), va_re ad (gr S 200 22), va_re ad (gr S 200 23), va_re ad (gr S 200 24), va_re ad (gr S 200 25), va_re ad (gr S 200 26), va_re ad (gr S 200 27), va_re ad (gr S 200 28), va_re ad (gr S 200 29), va_re ad (gr S 200 30), va_re ad (gr S 200 31), va_re ad (gr S 200 32), .int (gv S 200 33), .int (gv S 200 34), .int (gv S 200 35), va_re ad (gr S 200 36), .int (gv S 200 37), .int (gv S 200 38), .int (gv S 200 39), .int (gv S 200 40), .int (gv S 200 41), .int (gv S 200 42), .int (gv S 200 43), .int (gv S 200 44), .long (gl S 200), va_re ad (gr S 200 46), .int (gv S 200 47), .int (gv S 200 48), va_re ad (gr S 200 49), va_re ad (gr S 200 50), va_re ad (gr S 200 51), va_re ad (gr S 200 52), va_re ad (gr S 200 53), .int (gv S 200 54), .int (gv S 200 55), va_re ad (gr S 200 56), va_re ad (gr S 200 57), va_re ad (gr S 200 58), va_re ad (gr S 200 59), va_re ad (gr S 200 60), va_re ad (gr S 200 61), va_re ad (gr S 200 62), va_re ad (gr S 200 63), va_re ad (gr S 200 64), va_re ad (gr S 200 65), va_re ad (gr S 200 66)] : List Value).set 15 (.ref (ad x))) := by
  show kcD g ad 200 _ (up2 S.2.1 200 15 (some x) 200) _ = _
  rw [up2_at]
  rfl
theorem dr_200_16 {g : Cx} {ad : Nat → Nat} {S : St} {x : Nat} : cellD g ad (sr S 200 16 (some x)) 200 = .inr (11, ([.int (gv S 200 0), .int (gv S 200 1), va_re ad (gr S 200 2), va_re ad (gr S 200 3), va_re ad (gr S 200 4), va_re ad (gr S 200 5), va_re ad (gr S 200 6), .int (gv S 200 7), va_re ad (gr S 200 8), va_re ad (gr S 200 9), .int (gv S 200 10), va_re ad (gr S 200 11), va_re ad (gr S 200 12), va_re ad (gr S 200 13), va_re ad (gr S 200 14), va_re ad (gr S 200 15), va_re ad (gr S 200 16), va_re ad (gr S 200 17), va_re ad (gr S 200 18), va_re ad (gr S 200 19), va_re ad (gr S 200 20), va_re ad (gr S 200 21), va_re ad (gr S 200 22), va_re ad (gr S 200 23), va_re ad (gr S 200 24), va_re ad (gr S 200 25), va_re ad (gr S 200 26), va_re ad (gr S 200 27), va_re ad (gr S 200 28), va_re ad (gr S 200 29), va_re ad (gr S 200 30), va_re ad (gr S 200 31), va_re ad (gr S 200 32), .int (gv S 200 33), .int (gv S 200 34), .int (gv S 200 35), va_re ad (gr S 200 36), .int (gv S 200 37), .int (gv S 200 38), .int (gv S 200 39), .int (gv S 200 40), .int (gv S 200 41), .int (gv S 200 42), .int (gv S 200 43), .int (gv S 200 44), .long (gl S 200), va_re ad (gr S 200 46), .int (gv S 200 47), .int (gv S 200 48), va_re ad (gr S 200 49), va_re ad (gr S 200 50), va_re ad (gr S 200 51), va_re ad (gr S 200 52), va_re ad (gr S 200 53), .int (gv S 200 54), .int (gv S 200 55), va_re ad (gr S 200 56), va_re ad (gr S 200 57), va_re ad (gr S 200 58), va_re ad (gr S 200 59), va_re ad (gr S 200 60), va_re ad (gr S 200 61), va_re ad (gr S 200 62), va_re ad (gr S 200 63), va_re ad (gr S 200 64), va_re ad (gr S 200 65), va_re ad (gr S 200 66)] : List Value).set 16 (.ref (ad x))) := by
  show kcD g ad 200 _ (up2 S.2.1 200 16 (some x) 200) _ = _
  rw [up2_at]
  rfl
theorem dr_200_17 {g : Cx} {ad : Nat → Nat} {S : St} {x : Nat} : cellD g ad (sr S 200 17 (some x)) 200 = .inr (11, ([.int (gv S 200 0), .int (gv S 200 1), va_re ad (gr S 200 2), va_re ad (gr S 200 3), va_re ad (gr S 200 4), va_re ad (gr S 200 5), va_re ad (gr S 200 6), .int (gv S 200 7), va_re ad (gr S 200 8), va_re ad (gr S 200 9), .int (gv S 200 10), va_re ad (gr S 200 11), va_re ad (gr S 200 12), va_re ad (gr S 200 13), va_re ad (gr S 200 14), va_re ad (gr S 200 15), va_re ad (gr S 200 16), va_re ad (gr S 200 17), va_re ad (gr S 200 18), va_re ad (gr S 200 19), va_re ad (gr S 200 20), va_re ad (gr S 200 21), va_re ad (gr S 200 22), va_re ad (gr S 200 23), va_re ad (gr S 200 24), va_re ad (gr S 200 25), va_re ad (gr S 200 26), va_re ad (gr S 200 27), va_re ad (gr S 200 28), va_re ad (gr S 200 29), va_re ad (gr S 200 30), va_re ad (gr S 200 31), va_re ad (gr S 200 32), .int (gv S 200 33), .int (gv S 200 34), .int (gv S 200 35), va_re ad (gr S 200 36), .int (gv S 200 37), .int (gv S 200 38), .int (gv S 200 39), .int (gv S 200 40), .int (gv S 200 41), .int (gv S 200 42), .int (gv S 200 43), .int (gv S 200 44), .long (gl S 200), va_re ad (gr S 200 46), .int (gv S 200 47), .int (gv S 200 48), va_re ad (gr S 200 49), va_re ad (gr S 200 50), va_re ad (gr S 200 51), va_re ad (gr S 200 52), va_re ad (gr S 200 53), .int (gv S 200 54), .int (gv S 200 55), va_re ad (gr S 200 56), va_re ad (gr S 200 57), va_re ad (gr S 200 58), va_re ad (gr S 200 59), va_re ad (gr S 200 60), va_re ad (gr S 200 61), va_re ad (gr S 200 62), va_re ad (gr S 200 63), va_re ad (gr S 200 64), va_re ad (gr S 200 65), va_re ad (gr S 200 66)] : List Value).set 17 (.ref (ad x))) := by
  show kcD g ad 200 _ (up2 S.2.1 200 17 (some x) 200) _ = _
  rw [up2_at]
  rfl
theorem dr_200_18 {g : Cx} {ad : Nat → Nat} {S : St} {x : Nat} : cellD g ad (sr S 200 18 (some x)) 200 = .inr (11, ([.int (gv S 200 0), .int (gv S 200 1), va_re ad (gr S 200 2), va_re ad (gr S 200 3), va_re ad (gr S 200 4), va_re ad (gr S 200 5), va_re ad (gr S 200 6), .int (gv S 200 7), va_re ad (gr S 200 8), va_re ad (gr S 200 9), .int (gv S 200 10), va_re ad (gr S 200 11), va_re ad (gr S 200 12), va_re ad (gr S 200 13), va_re ad (gr S 200 14), va_re ad (gr S 200 15), va_re ad (gr S 200 16), va_re ad (gr S 200 17), va_re ad (gr S 200 18), va_re ad (gr S 200 19), va_re ad (gr S 200 20), va_re ad (gr S 200 21), va_re ad (gr S 200 22), va_re ad (gr S 200 23), va_re ad (gr S 200 24), va_re ad (gr S 200 25), va_re ad (gr S 200 26), va_re ad (gr S 200 27), va_re ad (gr S 200 28), va_re ad (gr S 200 29), va_re ad (gr S 200 30), va_re ad (gr S 200 31), va_re ad (gr S 200 32), .int (gv S 200 33), .int (gv S 200 34), .int (gv S 200 35), va_re ad (gr S 200 36), .int (gv S 200 37), .int (gv S 200 38), .int (gv S 200 39), .int (gv S 200 40), .int (gv S 200 41), .int (gv S 200 42), .int (gv S 200 43), .int (gv S 200 44), .long (gl S 200), va_re ad (gr S 200 46), .int (gv S 200 47), .int (gv S 200 48), va_re ad (gr S 200 49), va_re ad (gr S 200 50), va_re ad (gr S 200 51), va_re ad (gr S 200 52), va_re ad (gr S 200 53), .int (gv S 200 54), .int (gv S 200 55), va_re ad (gr S 200 56), va_re ad (gr S 200 57), va_re ad (gr S 200 58), va_re ad (gr S 200 59), va_re ad (gr S 200 60), va_re ad (gr S 200 61), va_re ad (gr S 200 62), va_re ad (gr S 200 63), va_re ad (gr S 200 64), va_re ad (gr S 200 65), va_re ad (gr S 200 66)] : List Value).set 18 (.ref (ad x))) := by
  show kcD g ad 200 _ (up2 S.2.1 200 18 (some x) 200) _ = _
  rw [up2_at]
  rfl
theorem dr_200_19 {g : Cx} {ad : Nat → Nat} {S : St} {x : Nat} : cellD g ad (sr S 200 19 (some x)) 200 = .inr (11, ([.int (gv S 200 0), .int (gv S 200 1), va_re ad (gr S 200 2), va_re ad (gr S 200 3), va_re ad (gr S 200 4), va_re ad (gr S 200 5), va_re ad (gr S 200 6), .int (gv S 200 7), va_re ad (gr S 200 8), va_re ad (gr S 200 9), .int (gv S 200 10), va_re ad (gr S 200 11), va_re ad (gr S 200 12), va_re ad (gr S 200 13), va_re ad (gr S 200 14), va_re ad (gr S 200 15), va_re ad (gr S 200 16), va_re ad (gr S 200 17), va_re ad (gr S 200 18), va_re ad (gr S 200 19), va_re ad (gr S 200 20), va_re ad (gr S 200 21), va_re ad (gr S 200 22), va_re ad (gr S 200 23), va_re ad (gr S 200 24), va_re ad (gr S 200 25), va_re ad (gr S 200 26), va_re ad (gr S 200 27), va_re ad (gr S 200 28), va_re ad (gr S 200 29), va_re ad (gr S 200 30), va_re ad (gr S 200 31), va_re ad (gr S 200 32), .int (gv S 200 33), .int (gv S 200 34), .int (gv S 200 35), va_re ad (gr S 200 36), .int (gv S 200 37), .int (gv S 200 38), .int (gv S 200 39), .int (gv S 200 40), .int (gv S 200 41), .int (gv S 200 42), .int (gv S 200 43), .int (gv S 200 44), .long (gl S 200), va_re ad (gr S 200 46), .int (gv S 200 47), .int (gv S 200 48), va_re ad (gr S 200 49), va_re ad (gr S 200 50), va_re ad (gr S 200 51), va_re ad (gr S 200 52), va_re ad (gr S 200 53), .int (gv S 200 54), .int (gv S 200 55), va_re ad (gr S 200 56), va_re ad (gr S 200 57), va_re ad (gr S 200 58), va_re ad (gr S 200 59), va_re ad (gr S 200 60), va_re ad (gr S 200 61), va_re ad (gr S 200 62), va_re ad (gr S 200 63), va_re ad (gr S 200 64), va_re ad (gr S 200 65), va_re ad (gr S 200 66)] : List Value).set 19 (.ref (ad x))) := by
  show kcD g ad 200 _ (up2 S.2.1 200 19 (some x) 200) _ = _
  rw [up2_at]
  rfl
theorem dr_200_20 {g : Cx} {ad : Nat → Nat} {S : St} {x : Nat} : cellD g ad (sr S 200 20 (some x)) 200 = .inr (11, ([.int (gv S 200 0), .int (gv S 200 1), va_re ad (gr S 200 2), va_re ad (gr S 200 3), va_re ad (gr S 200 4), va_re ad (gr S 200 5), va_re ad (gr S 200 6), .int (gv S 200 7), va_re ad (gr S 200 8), va_re ad (gr S 200 9), .int (gv S 200 10), va_re ad (gr S 200 11), va_re ad (gr S 200 12), va_re ad (gr S 200 13), va_re ad (gr S 200 14), va_re ad (gr S 200 15), va_re ad (gr S 200 16), va_re ad (gr S 200 17), va_re ad (gr S 200 18), va_re ad (gr S 200 19), va_re ad (gr S 200 20), va_re ad (gr S 200 21), va_re ad (gr S 200 22), va_re ad (gr S 200 23), va_re ad (gr S 200 24), va_re ad (gr S 200 25), va_re ad (gr S 200 26), va_re ad (gr S 200 27), va_re ad (gr S 200 28), va_re ad (gr S 200 29), va_re ad (gr S 200 30), va_re ad (gr S 200 31), va_re ad (gr S 200 32), .int (gv S 200 33), .int (gv S 200 34), .int (gv S 200 35), va_re ad (gr S 200 36), .int (gv S 200 37), .int (gv S 200 38), .int (gv S 200 39), .int (gv S 200 40), .int (gv S 200 41), .int (gv S 200 42), .int (gv S 200 43), .int (gv S 200 44), .long (gl S 200), va_re ad (gr S 200 46), .int (gv S 200 47), .int (gv S 200 48), va_re ad (gr S 200 49), va_re ad (gr S 200 50), va_re ad (gr S 200 51), va_re ad (gr S 200 52), va_re ad (gr S 200 53), .int (gv S 200 54), .int (gv S 200 55), va_re ad (gr S 200 56), va_re ad (gr S 200 57), va_re ad (gr S 200 58), va_re ad (gr S 200 59), va_re ad (gr S 200 60), va_re ad (gr S 200 61), va_re ad (gr S 200 62), va_re ad (gr S 200 63), va_re ad (gr S 200 64), va_re ad (gr S 200 65), va_re ad (gr S 200 66)] : List Value).set 20 (.ref (ad x))) := by
  show kcD g ad 200 _ (up2 S.2.1 200 20 (some x) 200) _ = _
  rw [up2_at]
  rfl
theorem dr_200_21 {g : Cx} {ad : Nat → Nat} {S : St} {x : Nat} : cellD g ad (sr S 200 21 (some x)) 200 = .inr (11, ([.int (gv S 200 0), .int (gv S 200 1), va_re ad (gr S 200 2), va_re ad (gr S 200 3), va_re ad (gr S 200 4), va_re ad (gr S 200 5), va_re ad (gr S 200 6), .int (gv S 200 7), va_re ad (gr S 200 8), va_re ad (gr S 200 9), .int (gv S 200 10), va_re ad (gr S 200 11), va_re ad (gr S 200 12), va_re ad (gr S 200 13), va_re ad (gr S 200 14), va_re ad (gr S 200 15), va_re ad (gr S 200 16), va_re ad (gr S 200 17), va_re ad (gr S 200 18), va_re ad (gr S 200 19), va_re ad (gr S 200 20), va_re ad (gr S 200 21), va_re ad (gr S 200 22), va_re ad (gr S 200 23), va_re ad (gr S 200 24), va_re ad (gr S 200 25), va_re ad (gr S 200 26), va_re ad (gr S 200 27), va_re ad (gr S 200 28), va_re ad (gr S 200 29), va_re ad (gr S 200 30), va_re ad (gr S 200 31), va_re ad (gr S 200 32), .int (gv S 200 33), .int (gv S 200 34), .int (gv S 200 35), va_re ad (gr S 200 36), .int (gv S 200 37), .int (gv S 200 38), .int (gv S 200 39), .int (gv S 200 40), .int (gv S 200 41), .int (gv S 200 42), .int (gv S 200 43), .int (gv S 200 44), .long (gl S 200), va_re ad (gr S 200 46), .int (gv S 200 47), .int (gv S 200 48), va_re ad (gr S 200 49), va_re ad (gr S 200 50), va_re ad (gr S 200 51), va_re ad (gr S 200 52), va_re ad (gr S 200 53), .int (gv S 200 54), .int (gv S 200 55), va_re ad (gr S 200 56), va_re ad (gr S 200 57), va_re ad (gr S 200 58), va_re ad (gr S 200 59), va_re ad (gr S 200 60), va_re ad (gr S 200 61), va_re ad (gr S 200 62), va_re ad (gr S 200 63), va_re ad (gr S 200 64), va_re ad (gr S 200 65), va_re ad (gr S 200 66)] : List Value).set 21 (.ref (ad x))) := by
  show kcD g ad 200 _ (up2 S.2.1 200 21 (some x) 200) _ = _
  rw [up2_at]
  rfl
theorem dr_200_22 {g : Cx} {ad : Nat → Nat} {S : St} {x : Nat} : cellD g ad (sr S 200 22 (some x)) 200 = .inr (11, ([.int (gv S 200 0), .int (gv S 200 1), va_re ad (gr S 200 2), va_re ad (gr S 200 3), va_re ad (gr S 200 4), va_re ad (gr S 200 5), va_re ad (gr S 200 6), .int (gv S 200 7), va_re ad (gr S 200 8), va_re ad (gr S 200 9), .int (gv S 200 10), va_re ad (gr S 200 11), va_re ad (gr S 200 12), va_re ad (gr S 200 13), va_re ad (gr S 200 14), va_re ad (gr S 200 15), va_re ad (gr S 200 16), va_re ad (gr S 200 17), va_re ad (gr S 200 18), va_re ad (gr S 200 19), va_re ad (gr S 200 20), va_re ad (gr S 200 21), va_re ad (gr S 200 22), va_re ad (gr S 200 23), va_re ad (gr S 200 24), va_re ad (gr S 200 25), va_re ad (gr S 200 26), va_re ad (gr S 200 27), va_re ad (gr S 200 28), va_re ad (gr S 200 29), va_re ad (gr S 200 30), va_re ad (gr S 200 31), va_re ad (gr S 200 32), .int (gv S 200 33), .int (gv S 200 34), .int (gv S 200 35), va_re ad (gr S 200 36), .int (gv S 200 37), .int (gv S 200 38), .int (gv S 200 39), .int (gv S 200 40), .int (gv S 200 41), .int (gv S 200 42), .int (gv S 200 43), .int (gv S 200 44), .long (gl S 200), va_re ad (gr S 200 46), .int (gv S 200 47), .int (gv S 200 48), va_re ad (gr S 200 49), va_re ad (gr S 200 50), va_re ad (gr S 200 51), va_re ad (gr S 200 52), va_re ad (gr S 200 53), .int (gv S 200 54), .int (gv S 200 55), va_re ad (gr S 200 56), va_re ad (gr S 200 57), va_re ad (gr S 200 58), va_re ad (gr S 200 59), va_re ad (gr S 200 60), va_re ad (gr S 200 61), va_re ad (gr S 200 62), va_re ad (gr S 200 63), va_re ad (gr S 200 64), va_re ad (gr S 200 65), va_re ad (gr S 200 66)] : List Value).set 22 (.ref (ad x))) := by
  show kcD g ad 200 _ (up2 S.2.1 200 22 (some x) 200) _ = _
  rw [up2_at]
  rfl
theorem dr_200_23 {g : Cx} {ad : Nat → Nat} {S : St} {x : Nat} : cellD g ad (sr S 200 23 (some x)) 200 = .inr (11, ([.int (gv S 200 0), .int (gv S 200 1), va_re ad (gr S 200 2), va_re ad (gr S 200 3), va_re ad (gr S 200 4), va_re ad (gr S 200 5), va_re ad (gr S 200 6), .int (gv S 200 7), va_re ad (gr S 200 8), va_re ad (gr S 200 9), .int (gv S 200 10), va_re ad (gr S 200 11), va_re ad (gr S 200 12), va_re ad (gr S 200 13), va_re ad (gr S 200 14), va_re ad (gr S 200 15), va_re ad (gr S 200 16), va_re ad (gr S 200 17), va_re ad (gr S 200 18), va_re ad (gr S 200 19), va_re ad (gr S 200 20), va_re ad (gr S 200 21), va_re ad (gr S 200 22), va_re ad (gr S 200 23), va_re ad (gr S 200 24), va_re ad (gr S 200 25), va_re ad (gr S 200 26), va_re ad (gr S 200 27), va_re ad (gr S 200 28), va_re ad (gr S 200 29), va_re ad (gr S 200 30), va_re ad (gr S 200 31), va_re ad (gr S 200 32), .int (gv S 200 33), .int (gv S 200 34), .int (gv S 200 35), va_re ad (gr S 200 36), .int (gv S 200 37), .int (gv S 200 38), .int (gv S 200 39), .int (gv S 200 40), .int (gv S 200 41), .int (gv S 200 42), .int (gv S 200 43), .int (gv S 200 44), .long (gl S 200), va_re ad (gr S 200 46), .int (gv S 200 47), .int (gv S 200 48), va_re ad (gr S 200 49), va_re ad (gr S 200 50), va_re ad (gr S 200 51), va_re ad (gr S 200 52), va_re ad (gr S 200 53), .int (gv S 200 54), .int (gv S 200 55), va_re ad (gr S 200 56), va_re ad (gr S 200 57), va_re ad (gr S 200 58), va_re ad (gr S 200 59), va_re ad (gr S 200 60), va_re ad (gr S 200 61), va_re ad (gr S 200 62), va_re ad (gr S 200 63), va_re ad (gr S 200 64), va_re ad (gr S 200 65), va_re ad (gr S 200 66)] : List Value).set 23 (.ref (ad x))) := by
  show kcD g ad 200 _ (up2 S.2.1 200 23 (some x) 200) _ = _
  rw [up2_at]
  rfl
theorem dr_200_24 {g : Cx} {ad : Nat → Nat} {S : St} {x : Nat} : cellD g ad (sr S 200 24 (some x)) 200 = .inr (11, ([.int (gv S 200 0), .int (gv S 200 1), va_re ad (gr S 200 2), va_re ad (gr S 200 3), va_re ad (gr S 200 4), va_re ad (gr S 200 5), va_re ad (gr S 200 6), .int (gv S 200 7), va_re ad (gr S 200 8), va_re ad (gr S 200 9), .int (gv S 200 10), va_re ad (gr S 200 11), va_re ad (gr S 200 12), va_re ad (gr S 200 13), va_re ad (gr S 200 14), va_re ad (gr S 200 15), va_re ad (gr S 200 16), va_re ad (gr S 200 17), va_re ad (gr S 200 18), va_re ad (gr S 200 19), va_re ad (gr S 200 20), va_re ad (gr S 200 21), va_re ad (gr S 200 22), va_re ad (gr S 200 23), va_re ad (gr S 200 24), va_re ad (gr S 200 25), va_re ad (gr S 200 26), va_re ad (gr S 200 27), va_re ad (gr S 200 28), va_re ad (gr S 200 29), va_re ad (gr S 200 30), va_re ad (gr S 200 31), va_re ad (gr S 200 32), .int (gv S 200 33), .int (gv S 200 34), .int (gv S 200 35), va_re ad (gr S 200 36), .int (gv S 200 37), .int (gv S 200 38), .int (gv S 200 39), .int (gv S 200 40), .int (gv S 200 41), .int (gv S 200 42), .int (gv S 200 43), .int (gv S 200 44), .long (gl S 200), va_re ad (gr S 200 46), .int (gv S 200 47), .int (gv S 200 48), va_re ad (gr S 200 49), va_re ad (gr S 200 50), va_re ad (gr S 200 51), va_re ad (gr S 200 52), va_re ad (gr S 200 53), .int (gv S 200 54), .int (gv S 200 55), va_re ad (gr S 200 56), va_re ad (gr S 200 57), va_re ad (gr S 200 58), va_re ad (gr S 200 59), va_re ad (gr S 200 60), va_re ad (gr S 200 61), va_re ad (gr S 200 62), va_re ad (gr S 200 63), va_re ad (gr S 200 64), va_re ad (gr S 200 65), va_re ad (gr S 200 66)] : List Value).set 24 (.ref (ad x))) := by
  show kcD g ad 200 _ (up2 S.2.1 200 24 (some x) 200) _ = _
  rw [up2_at]
  rfl
theorem dr_200_25 {g : Cx} {ad : Nat → Nat} {S : St} {x : Nat} : cellD g ad (sr S 200 25 (some x)) 200 = .inr (11, ([.int (gv S 200 0), .int (gv S 200 1), va_re ad (gr S 200 2), va_re ad (gr S 200 3), va_re ad (gr S 200 4), va_re ad (gr S 200 5), va_re ad (gr S 200 6), .int (gv S 200 7), va_re ad (gr S 200 8), va_re ad (gr S 200 9), .int (gv S 200 10), va_re ad (gr S 200 11), va_re ad (gr S 200 12), va_re ad (gr S 200 13), va_re ad (gr S 200 14), va_re ad (gr S 200 15), va_re ad (gr S 200 16), va_re ad (gr S 200 17), va_re ad (gr S 200 18), va_re ad (gr S 200 19), va_re ad (gr S 200 20), va_re ad (gr S 200 21), va_re ad (gr S 200 22), va_re ad (gr S 200 23), va_re ad (gr S 200 24), va_re ad (gr S 200 25), va_re ad (gr S 200 26), va_re ad (gr S 200 27), va_re ad (gr S 200 28), va_re ad (gr S 200 29), va_re ad (gr S 200 30), va_re ad (gr S 200 31), va_re ad (gr S 200 32), .int (gv S 200 33), .int (gv S 200 34), .int (gv S 200 35), va_re ad (gr S 200 36), .int (gv S 200 37), .int (gv S 200 38), .int (gv S 200 39), .int (gv S 200 40), .int (gv S 200 41), .int (gv S 200 42), .int (gv S 200 43), .int (gv S 200 44), .long (gl S 200), va_re ad (gr S 200 46), .int (gv S 200 47), .int (gv S 200 48), va_re ad (gr S 200 49), va_re ad (gr S 200 50), va_re ad (gr S 200 51), va_re ad (gr S 200 52), va_re ad (gr S 200 53), .int (gv S 200 54), .int (gv S 200 55), va_re ad (gr S 200 56), va_re ad (gr S 200 57), va_re ad (gr S 200 58), va_re ad (gr S 200 59), va_re ad (gr S 200 60), va_re ad (gr S 200 61), va_re ad (gr S 200 62), va_re ad (gr S 200 63), va_re ad (gr S 200 64), va_re ad (gr S 200 65), va_re ad (gr S 200 66)] : List Value).set 25 (.ref (ad x))) := by
  show kcD g ad 200 _ (up2 S.2.1 200 25 (some x) 200) _ = _
  rw [up2_at]
  rfl
theorem dr_200_26 {g : Cx} {ad : Nat → Nat} {S : St} {x : Nat} : cellD g ad (sr S 200 26 (some x)) 200 = .inr (11, ([.int (gv S 200 0), .int (gv S 200 1), va_re ad (gr S 200 2), va_re ad (gr S 200 3), va_re ad (gr S 200 4), va_re ad (gr S 200 5), va_re ad (gr S 200 6), .int (gv S 200 7), va_re ad (gr S 200 8), va_re ad (gr S 200 9), .int (gv S 200 10), va_re ad (gr S 200 11), va_re ad (gr S 200 12), va_re ad (gr S 200 13), va_re ad (gr S 200 14), va_re ad (gr S 200 15), va_re ad (gr S 200 16), va_re ad (gr S 200 17), va_re ad (gr S 200 18), va_re ad (gr S 200 19), va_re ad (gr S 200 20), va_re ad (gr S 200 21), va_re ad (gr S 200 22), va_re ad (gr S 200 23), va_re ad (gr S 200 24), va_re ad (gr S 200 25), va_re ad (gr S 200 26), va_re ad (gr S 200 27), va_re ad (gr S 200 28), va_re ad (gr S 200 29), va_re ad (gr S 200 30), va_re ad (gr S 200 31), va_re ad (gr S 200 32), .int (gv S 200 33), .int (gv S 200 34), .int (gv S 200 35), va_re ad (gr S 200 36), .int (gv S 200 37), .int (gv S 200 38), .int (gv S 200 39), .int (gv S 200 40), .int (gv S 200 41), .int (gv S 200 42), .int (gv S 200 43), .int (gv S 200 44), .long (gl S 200), va_re ad (gr S 200 46), .int (gv S 200 47), .int (gv S 200 48), va_re ad (gr S 200 49), va_re ad (gr S 200 50), va_re ad (gr S 200 51), va_re ad (gr S 200 52), va_re ad (gr S 200 53), .int (gv S 200 54), .int (gv S 200 55), va_re ad (gr S 200 56), va_re ad (gr S 200 57), va_re ad (gr S 200 58), va_re ad (gr S 200 59), va_re ad (gr S 200 60), va_re ad (gr S 200 61), va_re ad (gr S 200 62), va_re ad (gr S 200 63), va_re ad (gr S 200 64), va_re ad (gr S 200 65), va_re ad (gr S 200 66)] : List Value).set 26 (.ref (ad x))) := by
  show kcD g ad 200 _ (up2 S.2.1 200 26 (some x) 200) _ = _
  rw [up2_at]
  rfl
theorem dr_200_27 {g : Cx} {ad : Nat → Nat} {S : St} {x : Nat} : cellD g ad (sr S 200 27 (some x)) 200 = .inr (11, ([.int (gv S 200 0), .int (gv S 200 1), va_re ad (gr S 200 2), va_re ad (gr S 200 3), va_re ad (gr S 200 4), va_re ad (gr S 200 5), va_re ad (gr S 200 6), .int (gv S 200 7), va_re ad (gr S 200 8), va_re ad (gr S 200 9), .int (gv S 200 10), va_re ad (gr S 200 11), va_re ad (gr S 200 12), va_re ad (gr S 200 13), va_re ad (gr S 200 14), va_re ad (gr S 200 15), va_re ad (gr S 200 16), va_re ad (gr S 200 17), va_re ad (gr S 200 18), va_re ad (gr S 200 19), va_re ad (gr S 200 20), va_re ad (gr S 200 21), va_re ad (gr S 200 22), va_re ad (gr S 200 23), va_re ad (gr S 200 24), va_re ad (gr S 200 25), va_re ad (gr S 200 26), va_re ad (gr S 200 27), va_re ad (gr S 200 28), va_re ad (gr S 200 29), va_re ad (gr S 200 30), va_re ad (gr S 200 31), va_re ad (gr S 200 32), .int (gv S 200 33), .int (gv S 200 34), .int (gv S 200 35), va_re ad (gr S 200 36), .int (gv S 200 37), .int (gv S 200 38), .int (gv S 200 39), .int (gv S 200 40), .int (gv S 200 41), .int (gv S 200 42), .int (gv S 200 43), .int (gv S 200 44), .long (gl S 200), va_re ad (gr S 200 46), .int (gv S 200 47), .int (gv S 200 48), va_re ad (gr S 200 49), va_re ad (gr S 200 50), va_re ad (gr S 200 51), va_re ad (gr S 200 52), va_re ad (gr S 200 53), .int (gv S 200 54), .int (gv S 200 55), va_re ad (gr S 200 56), va_re ad (gr S 200 57), va_re ad (gr S 200 58), va_re ad (gr S 200 59), va_re ad (gr S 200 60), va_re ad (gr S 200 61), va_re ad (gr S 200 62), va_re ad (gr S 200 63), va_re ad (gr S 200 64), va_re ad (gr S 200 65), va_re ad (gr S 200 66)] : List Value).set 27 (.ref (ad x))) := by
  show kcD g ad 200 _ (up2 S.2.1 200 27 (some x) 200) _ = _
  rw [up2_at]
  rfl
theorem dr_200_28 {g : Cx} {ad : Nat → Nat} {S : St} {x : Nat} : cellD g ad (sr S 200 28 (some x)) 200 = .inr (11, ([.int (gv S 200 0), .int (gv S 200 1), va_re ad (gr S 200 2), va_re ad (gr S 200 3), va_re ad (gr S 200 4), va_re ad (gr S 200 5), va_re ad (gr S 200 6), .int (gv S 200 7), va_re ad (gr S 200 8), va_re ad (gr S 200 9), .int (gv S 200 10), va_re ad (gr S 200 11), va_re ad (gr S 200 12), va_re ad (gr S 200 13), va_re ad (gr S 200 14), va_re ad (gr S 200 15), va_re ad (gr S 200 16), va_re ad (gr S 200 17), va_re ad (gr S 200 18), va_re ad (gr S 200 19), va_re ad (gr S 200 20), va_re ad (gr S 200 21), va_re ad (gr S 200 22), va_re ad (gr S 200 23), va_re ad (gr S 200 24), va_re ad (gr S 200 25), va_re ad (gr S 200 26), va_re ad (gr S 200 27), va_re ad (gr S 200 28), va_re ad (gr S 200 29), va_re ad (gr S 200 30), va_re ad (gr S 200 31), va_re ad (gr S 200 32), .int (gv S 200 33), .int (gv S 200 34), .int (gv S 200 35), va_re ad (gr S 200 36), .int (gv S 200 37), .int (gv S 200 38), .int (gv S 200 39), .int (gv S 200 40), .int (gv S 200 41), .int (gv S 200 42), .int (gv S 200 43), .int (gv S 200 44), .long (gl S 200), va_re ad (gr S 200 46), .int (gv S 200 47), .int (gv S 200 48), va_re ad (gr S 200 49), va_re ad (gr S 200 50), va_re ad (gr S 200 51), va_re ad (gr S 200 52), va_re ad (gr S 200 53), .int (gv S 200 54), .int (gv S 200 55), va_re ad (gr S 200 56), va_re ad (gr S 200 57), va_re ad (gr S 200 58), va_re ad (gr S 200 59), va_re ad (gr S 200 60), va_re ad (gr S 200 61), va_re ad (gr S 200 62), va_re ad (gr S 200 63), va_re ad (gr S 200 64), va_re ad (gr S 200 65), va_re ad (gr S 200 66)] : List Value).set 28 (.ref (ad x))) := by
  show kcD g ad 200 _ (up2 S.2.1 200 28 (some x) 200) _ = _
  rw [up2_at]
  rfl
theorem dr_200_29 {g : Cx} {ad : Nat → Nat} {S : St} {x : Nat} : cellD g ad (sr S 200 29 (some x)) 200 = .inr (11, ([.int (gv S 200 0), .int (gv S 200 1), va_re ad (gr S 200 2), va_re ad (gr S 200 3), va_re ad (gr S 200 4), va_re ad (gr S 200 5), va_re ad (gr S 200 6), .int (gv S 200 7), va_re ad (gr S 200 8), va_re ad (gr S 200 9), .int (gv S 200 10), va_re ad (gr S 200 11), va_re ad (gr S 200 12), va_re ad (gr S 200 13), va_re ad (gr S 200 14), va_re ad (gr S 200 15), va_re ad (gr S 200 16), va_re ad (gr S 200 17), va_re ad (gr S 200 18), va_re ad (gr S 200 19), va_re ad (gr S 200 20), va_re ad (gr S 200 21), va_re ad (gr S 200 22), va_re ad (gr S 200 23), va_re ad (gr S 200 24), va_re ad (gr S 200 25), va_re ad (gr S 200 26), va_re ad (gr S 200 27), va_re ad (gr S 200 28), va_re ad (gr S 200 29), va_re ad (gr S 200 30), va_re ad (gr S 200 31), va_re ad (gr S 200 32), .int (gv S 200 33), .int (gv S 200 34), .int (gv S 200 35), va_re ad (gr S 200 36), .int (gv S 200 37), .int (gv S 200 38), .int (gv S 200 39), .int (gv S 200 40), .int (gv S 200 41), .int (gv S 200 42), .int (gv S 200 43), .int (gv S 200 44), .long (gl S 200), va_re ad (gr S 200 46), .int (gv S 200 47), .int (gv S 200 48), va_re ad (gr S 200 49), va_re ad (gr S 200 50), va_re ad (gr S 200 51), va_re ad (gr S 200 52), va_re ad (gr S 200 53), .int (gv S 200 54), .int (gv S 200 55), va_re ad (gr S 200 56), va_re ad (gr S 200 57), va_re ad (gr S 200 58), va_re ad (gr S 200 59), va_re ad (gr S 200 60), va_re ad (gr S 200 61), va_re ad (gr S 200 62), va_re ad (gr S 200 63), va_re ad (gr S 200 64), va_re ad (gr S 200 65), va_re ad (gr S 200 66)] : List Value).set 29 (.ref (ad x))) := by
  show kcD g ad 200 _ (up2 S.2.1 200 29 (some x) 200) _ = _
  rw [up2_at]
  rfl
theorem dr_200_30 {g : Cx} {ad : Nat → Nat} {S : St} {x : Nat} : cellD g ad (sr S 200 30 (some x)) 200 = .inr (11, ([.int (gv S 200 0), .int (gv S 200 1), va_re ad (gr S 200 2), va_re ad (gr S 200 3), va_re ad (gr S 200 4), va_re ad (gr S 200 5), va_re ad (gr S 200 6), .int (gv S 200 7), va_re ad (gr S 200 8), va_re ad (gr S 200 9), .int (gv S 200 10), va_re ad (gr S 200 11), va_re ad (gr S 200 12), va_re ad (gr S 200 13), va_re ad (gr S 200 14), va_re ad (gr S 200 15), va_re ad (gr S 200 16), va_re ad (gr S 200 17), va_re ad (gr S 200 18), va_re ad (gr S 200 19), va_re ad (gr S 200 20), va_re ad (gr S 200 21), va_re ad (gr S 200 22), va_re ad (gr S 200 23), va_re ad (gr S 200 24), va_re ad (gr S 200 25), va_re ad (gr S 200 26), va_re ad (gr S 200 27), va_re ad (gr S 200 28), va_re ad (gr S 200 29), va_re ad (gr S 200 30), va_re ad (gr S 200 31), va_re ad (gr S 200 32), .int (gv S 200 33), .int (gv S 200 34), .int (gv S 200 35), va_re ad (gr S 200 36), .int (gv S 200 37), .int (gv S 200 38), .int (gv S 200 39), .int (gv S 200 40), .int (gv S 200 41), .int (gv S 200 42), .int (gv S 200 43), .int (gv S 200 44), .long (gl S 200), va_re ad (gr S 200 46), .int (gv S 200 47), .int (gv S 200 48), va_re ad (gr S 200 49), va_re ad (gr S 200 50), va_re ad (gr S 200 51), va_re ad (gr S 200 52), va_re ad (gr S 200 53), .int (gv S 200 54), .int (gv S 200 55), va_re ad (gr S 200 56), va_re ad (gr S 200 57), va_re ad (gr S 200 58), va_re ad (gr S 200 59), va_re ad (gr S 200 60), va_re ad (gr S 200 61), va_re ad (gr S 200 62), va_re ad (gr S 200 63), va_re ad (gr S 200 64), va_re ad (gr S 200 65), va_re ad (gr S 200 66)] : List Value).set 30 (.ref (ad x))) := by
  show kcD g ad 200 _ (up2 S.2.1 200 30 (some x) 200) _ = _
  rw [up2_at]
  rfl
theorem dr_200_31 {g : Cx} {ad : Nat → Nat} {S : St} {x : Nat} : cellD g ad (sr S 200 31 (some x)) 200 = .inr (11, ([.int (gv S 200 0), .int (gv S 200 1), va_re ad (gr S 200 2), va_re ad (gr S 200 3), va_re ad (gr S 200 4), va_re ad (gr S 200 5), va_re ad (gr S 200 6), .int (gv S 200 7), va_re ad (gr S 200 8), va_re ad (gr S 200 9), .int (gv S 200 10), va_re ad (gr S 200 11), va_re ad (gr S 200 12), va_re ad (gr S 200 13), va_re ad (gr S 200 14), va_re ad (gr S 200 15), va_re ad (gr S 200 16), va_re ad (gr S 200 17), va_re ad (gr S 200 18), va_re ad (gr S 200 19), va_re ad (gr S 200 20), va_re ad (gr S 200 21), va_re ad (gr S 200 22), va_re ad (gr S 200 23), va_re ad (gr S 200 24), va_re ad (gr S 200 25), va_re ad (gr S 200 26), va_re ad (gr S 200 27), va_re ad (gr S 200 28), va_re ad (gr S 200 29), va_re ad (gr S 200 30), va_re ad (gr S 200 31), va_re ad (gr S 200 32), .int (gv S 200 33), .int (gv S 200 34), .int (gv S 200 35), va_re ad (gr S 200 36), .int (gv S 200 37), .int (gv S 200 38), .int (gv S 200 39), .int (gv S 200 40), .int (gv S 200 41), .int (gv S 200 42), .int (gv S 200 43), .int (gv S 200 44), .long (gl S 200), va_re ad (gr S 200 46), .int (gv S 200 47), .int (gv S 200 48), va_re ad (gr S 200 49), va_re ad (gr S 200 50), va_re ad (gr S 200 51), va_re ad (gr S 200 52), va_re ad (gr S 200 53), .int (gv S 200 54), .int (gv S 200 55), va_re ad (gr S 200 56), va_re ad (gr S 200 57), va_re ad (gr S 200 58), va_re ad (gr S 200 59), va_re ad (gr S 200 60), va_re ad (gr S 200 61), va_re ad (gr S 200 62), va_re ad (gr S 200 63), va_re ad (gr S 200 64), va_re ad (gr S 200 65), va_re ad (gr S 200 66)] : List Value).set 31 (.ref (ad x))) := by
  show kcD g ad 200 _ (up2 S.2.1 200 31 (some x) 200) _ = _
  rw [up2_at]
  rfl
theorem dr_200_32 {g : Cx} {ad : Nat → Nat} {S : St} {x : Nat} : cellD g ad (sr S 200 32 (some x)) 200 = .inr (11, ([.int (gv S 200 0), .int (gv S 200 1), va_re ad (gr S 200 2), va_re ad (gr S 200 3), va_re ad (gr S 200 4), va_re ad (gr S 200 5), va_re ad (gr S 200 6), .int (gv S 200 7), va_re ad (gr S 200 8), va_re ad (gr S 200 9), .int (gv S 200 10), va_re ad (gr S 200 11), va_re ad (gr S 200 12), va_re ad (gr S 200 13), va_re ad (gr S 200 14), va_re ad (gr S 200 15), va_re ad (gr S 200 16), va_re ad (gr S 200 17), va_re ad (gr S 200 18), va_re ad (gr S 200 19), va_re ad (gr S 200 20), va_re ad (gr S 200 21), va_re ad (gr S 200 22), va_re ad (gr S 200 23), va_re ad (gr S 200 24), va_re ad (gr S 200 25), va_re ad (gr S 200 26), va_re ad (gr S 200 27), va_re ad (gr S 200 28), va_re ad (gr S 200 29), va_re ad (gr S 200 30), va_re ad (gr S 200 31), va_re ad (gr S 200 32), .int (gv S 200 33), .int (gv S 200 34), .int (gv S 200 35), va_re ad (gr S 200 36), .int (gv S 200 37), .int (gv S 200 38), .int (gv S 200 39), .int (gv S 200 40), .int (gv S 200 41), .int (gv S 200 42), .int (gv S 200 43), .int (gv S 200 44), .long (gl S 200), va_re ad (gr S 200 46), .int (gv S 200 47), .int (gv S 200 48), va_re ad (gr S 200 49), va_re ad (gr S 200 50), va_re ad (gr S 200 51), va_re ad (gr S 200 52), va_re ad (gr S 200 53), .int (gv S 200 54), .int (gv S 200 55), va_re ad (gr S 200 56), va_re ad (gr S 200 57), va_re ad (gr S 200 58), va_re ad (gr S 200 59), va_re ad (gr S 200 60), va_re ad (gr S 200 61), va_re ad (gr S 200 62), va_re ad (gr S 200 63), va_re ad (gr S 200 64), va_re ad (gr S 200 65), va_re ad (gr S 200 66)] : List Value).set 32 (.ref (ad x))) := by
  show kcD g ad 200 _ (up2 S.2.1 200 32 (some x) 200) _ = _
  rw [up2_at]
  rfl
theorem dv_200_33 {g : Cx} {ad : Nat → Nat} {S : St} {x : Int32} : cellD g ad (sv S 200 33 x) 200 = .inr (11, ([.int (gv S 200 0), .int (gv S 200 1), va_re ad (gr S 200 2), va_re ad (gr S 200 3), va_re ad (gr S 200 4), va_re ad (gr S 200 5), va_re ad (gr S 200 6), .int (gv S 200 7), va_re ad (gr S 200 8), va_re ad (gr S 200 9), .int (gv S 200 10), va_re ad (gr S 200 11), va_re ad (gr S 200 12), va_re ad (gr S 200 13), va_re ad (gr S 200 14), va_re ad (gr S 200 15), va_re ad (gr S 200 16), va_re ad (gr S 200 17), va_re ad (gr S 200 18), va_re ad (gr S 200 19), va_re ad (gr S 200 20), va_re ad (gr S 200 21), va_re ad (gr S 200 22), va_re ad (gr S 200 23), va_re ad (gr S 200 24), va_re ad (gr S 200 25), va_re ad (gr S 200 26), va_re ad (gr S 200 27), va_re ad (gr S 200 28), va_re ad (gr S 200 29), va_re ad (gr S 200 30), va_re ad (gr S 200 31), va_re ad (gr S 200 32), .int (gv S 200 33), .int (gv S 200 34), .int (gv S 200 35), va_re ad (gr S 200 36), .int (gv S 200 37), .int (gv S 200 38), .int (gv S 200 39), .int (gv S 200 40), .int (gv S 200 41), .int (gv S 200 42), .int (gv S 200 43), .int (gv S 200 44), .long (gl S 200), va_re ad (gr S 200 46), .int (gv S 200 47), .int (gv S 200 48), va_re ad (gr S 200 49), va_re ad (gr S 200 50), va_re ad (gr S 200 51), va_re ad (gr S 200 52), va_re ad (gr S 200 53), .int (gv S 200 54), .int (gv S 200 55), va_re ad (gr S 200 56), va_re ad (gr S 200 57), va_re ad (gr S 200 58), va_re ad (gr S 200 59), va_re ad (gr S 200 60), va_re ad (gr S 200 61), va_re ad (gr S 200 62), va_re ad (gr S 200 63), va_re ad (gr S 200 64), va_re ad (gr S 200 65), va_re ad (gr S 200 66)] : List Value).set 33 (.int x)) := by
  show kcD g ad 200 (up2 S.1 200 33 x 200) _ _ = _
  rw [up2_at]
  rfl
theorem dv_200_34 {g : Cx} {ad : Nat → Nat} {S : St} {x : Int32} : cellD g ad (sv S 200 34 x) 200 = .inr (11, ([.int (gv S 200 0), .int (gv S 200 1), va_re ad (gr S 200 2), va_re ad (gr S 200 3), va_re ad (gr S 200 4), va_re ad (gr S 200 5), va_re ad (gr S 200 6), .int (gv S 200 7), va_re ad (gr S 200 8), va_re ad (gr S 200 9), .int (gv S 200 10), va_re ad (gr S 200 11), va_re ad (gr S 200 12), va_re ad (gr S 200 13), va_re ad (gr S 200 14), va_re ad (gr S 200 15), va_re ad (gr S 200 16), va_re ad (gr S 200 17), va_re ad (gr S 200 18), va_re ad (gr S 200 19), va_re ad (gr S 200 20), va_re ad (gr S 200 21), va_re ad (gr S 200 22), va_re ad (gr S 200 23), va_re ad (gr S 200 24), va_re ad (gr S 200 25), va_re ad (gr S 200 26), va_re ad (gr S 200 27), va_re ad (gr S 200 28), va_re ad (gr S 200 29), va_re ad (gr S 200 30), va_re ad (gr S 200 31), va_re ad (gr S 200 32), .int (gv S 200 33), .int (gv S 200 34), .int (gv S 200 35), va_re ad (gr S 200 36), .int (gv S 200 37), .int (gv S 200 38), .int (gv S 200 39), .int (gv S 200 40), .int (gv S 200 41), .int (gv S 200 42), .int (gv S 200 43), .int (gv S 200 44), .long (gl S 200), va_re ad (gr S 200 46), .int (gv S 200 47), .int (gv S 200 48), va_re ad (gr S 200 49), va_re ad (gr S 200 50), va_re ad (gr S 200 51), va_re ad (gr S 200 52), va_re ad (gr S 200 53), .int (gv S 200 54), .int (gv S 200 55), va_re ad (gr S 200 56), va_re ad (gr S 200 57), va_re ad (gr S 200 58), va_re ad (gr S 200 59), va_re ad (gr S 200 60), va_re ad (gr S 200 61), va_re ad (gr S 200 62), va_re ad (gr S 200 63), va_re ad (gr S 200 64), va_re ad (gr S 200 65), va_re ad (gr S 200 66)] : List Value).set 34 (.int x)) := by
  show kcD g ad 200 (up2 S.1 200 34 x 200) _ _ = _
  rw [up2_at]
  rfl
theorem dv_200_35 {g : Cx} {ad : Nat → Nat} {S : St} {x : Int32} : cellD g ad (sv S 200 35 x) 200 = .inr (11, ([.int (gv S 200 0), .int (gv S 200 1), va_re ad (gr S 200 2), va_re ad (gr S 200 3), va_re ad (gr S 200 4), va_re ad (gr S 200 5), va_re ad (gr S 200 6), .int (gv S 200 7), va_re ad (gr S 200 8), va_re ad (gr S 200 9), .int (gv S 200 10), va_re ad (gr S 200 11), va_re ad (gr S 200 12), va_re ad (gr S 200 13), va_re ad (gr S 200 14), va_re ad (gr S 200 15), va_re ad (gr S 200 16), va_re ad (gr S 200 17), va_re ad (gr S 200 18), va_re ad (gr S 200 19), va_re ad (gr S 200 20), va_re ad (gr S 200 21), va_re ad (gr S 200 22), va_re ad (gr S 200 23), va_re ad (gr S 200 24), va_re ad (gr S 200 25), va_re ad (gr S 200 26), va_re ad (gr S 200 27), va_re ad (gr S 200 28), va_re ad (gr S 200 29), va_re ad (gr S 200 30), va_re ad (gr S 200 31), va_re ad (gr S 200 32), .int (gv S 200 33), .int (gv S 200 34), .int (gv S 200 35), va_re ad (gr S 200 36), .int (gv S 200 37), .int (gv S 200 38), .int (gv S 200 39), .int (gv S 200 40), .int (gv S 200 41), .int (gv S 200 42), .int (gv S 200 43), .int (gv S 200 44), .long (gl S 200), va_re ad (gr S 200 46), .int (gv S 200 47), .int (gv S 200 48), va_re ad (gr S 200 49), va_re ad (gr S 200 50), va_re ad (gr S 200 51), va_re ad (gr S 200 52), va_re ad (gr S 200 53), .int (gv S 200 54), .int (gv S 200 55), va_re ad (gr S 200 56), va_re ad (gr S 200 57), va_re ad (gr S 200 58), va_re ad (gr S 200 59), va_re ad (gr S 200 60), va_re ad (gr S 200 61), va_re ad (gr S 200 62), va_re ad (gr S 200 63), va_re ad (gr S 200 64), va_re ad (gr S 200 65), va_re ad (gr S 200 66)] : List Value).set 35 (.int x)) := by
  show kcD g ad 200 (up2 S.1 200 35 x 200) _ _ = _
  rw [up2_at]
  rfl
theorem dr_200_36 {g : Cx} {ad : Nat → Nat} {S : St} {x : Nat} : cellD g ad (sr S 200 36 (some x)) 200 = .inr (11, ([.int (gv S 200 0), .int (gv S 200 1), va_re ad (gr S 200 2), va_re ad (gr S 200 3), va_re ad (gr S 200 4), va_re ad (gr S 200 5), va_re ad (gr S 200 6), .int (gv S 200 7), va_re ad (gr S 200 8), va_re ad (gr S 200 9), .int (gv S 200 10), va_re ad (gr S 200 11), va_re ad (gr S 200 12), va_re ad (gr S 200 13), va_re ad (gr S 200 14), va_re ad (gr S 200 15), va_re ad (gr S 200 16), va_re ad (gr S 200 17), va_re ad (gr S 200 18), va_re ad (gr S 200 19), va_re ad (gr S 200 20), va_re ad (gr S 200 21), va_re ad (gr S 200 22), va_re ad (gr S 200 23), va_re ad (gr S 200 24), va_re ad (gr S 200 25), va_re ad (gr S 200 26), va_re ad (gr S 200 27), va_re ad (gr S 200 28), va_re ad (gr S 200 29), va_re ad (gr S 200 30), va_re ad (gr S 200 31), va_re ad (gr S 200 32), .int (gv S 200 33), .int (gv S 200 34), .int (gv S 200 35), va_re ad (gr S 200 36), .int (gv S 200 37), .int (gv S 200 38), .int (gv S 200 39), .int (gv S 200 40), .int (gv S 200 41), .int (gv S 200 42), .int (gv S 200 43), .int (gv S 200 44), .long (gl S 200), va_re ad (gr S 200 46), .int (gv S 200 47), .int (gv S 200 48), va_re ad (gr S 200 49), va_re ad (gr S 200 50), va_re ad (gr S 200 51), va_re ad (gr S 200 52), va_re ad (gr S 200 53), .int (gv S 200 54), .int (gv S 200 55), va_re ad (gr S 200 56), va_re ad (gr S 200 57), va_re ad (gr S 200 58), va_re ad (gr S 200 59), va_re ad (gr S 200 60), va_re ad (gr S 200 61), va_re ad (gr S 200 62), va_re ad (gr S 200 63), va_re ad (gr S 200 64), va_re ad (gr S 200 65), va_re ad (gr S 200 66)] : List Value).set 36 (.ref (ad x))) := by
  show kcD g ad 200 _ (up2 S.2.1 200 36 (some x) 200) _ = _
  rw [up2_at]
  rfl
theorem dv_200_37 {g : Cx} {ad : Nat → Nat} {S : St} {x : Int32} : cellD g ad (sv S 200 37 x) 200 = .inr (11, ([.int (gv S 200 0), .int (gv S 200 1), va_re ad (gr S 200 2), va_re ad (gr S 200 3), va_re ad (gr S 200 4), va_re ad (gr S 200 5), va_re ad (gr S 200 6), .int (gv S 200 7), va_re ad (gr S 200 8), va_re ad (gr S 200 9), .int (gv S 200 10), va_re ad (gr S 200 11), va_re ad (gr S 200 12), va_re ad (gr S 200 13), va_re ad (gr S 200 14), va_re ad (gr S 200 15), va_re ad (gr S 200 16), va_re ad (gr S 200 17), va_re ad (gr S 200 18), va_re ad (gr S 200 19), va_re ad (gr S 200 20), va_re ad (gr S 200 21), va_re ad (gr S 200 22), va_re ad (gr S 200 23), va_re ad (gr S 200 24), va_re ad (gr S 200 25), va_re ad (gr S 200 26), va_re ad (gr S 200 27), va_re ad (gr S 200 28), va_re ad (gr S 200 29), va_re ad (gr S 200 30), va_re ad (gr S 200 31), va_re ad (gr S 200 32), .int (gv S 200 33), .int (gv S 200 34), .int (gv S 200 35), va_re ad (gr S 200 36), .int (gv S 200 37), .int (gv S 200 38), .int (gv S 200 39), .int (gv S 200 40), .int (gv S 200 41), .int (gv S 200 42), .int (gv S 200 43), .int (gv S 200 44), .long (gl S 200), va_re ad (gr S 200 46), .int (gv S 200 47), .int (gv S 200 48), va_re ad (gr S 200 49), va_re ad (gr S 200 50), va_re ad (gr S 200 51), va_re ad (gr S 200 52), va_re ad (gr S 200 53), .int (gv S 200 54), .int (gv S 200 55), va_re ad (gr S 200 56), va_re ad (gr S 200 57), va_re ad (gr S 200 58), va_re ad (gr S 200 59), va_re ad (gr S 200 60), va_re ad (gr S 200 61), va_re ad (gr S 200 62), va_re ad (gr S 200 63), va_re ad (gr S 200 64), va_re ad (gr S 200 65), va_re ad (gr S 200 66)] : List Value).set 37 (.int x)) := by
  show kcD g ad 200 (up2 S.1 200 37 x 200) _ _ = _
  rw [up2_at]
  rfl
theorem dv_200_38 {g : Cx} {ad : Nat → Nat} {S : St} {x : Int32} : cellD g ad (sv S 200 38 x) 200 = .inr (11, ([.int (gv S 200 0), .int (gv S 200 1), va_re ad (gr S 200 2), va_re ad (gr S 200 3), va_re ad (gr S 200 4), va_re ad (gr S 200 5), va_re ad (gr S 200 6), .int (gv S 200 7), va_re ad (gr S 200 8), va_re ad (gr S 200 9), .int (gv S 200 10), va_re ad (gr S 200 11), va_re ad (gr S 200 12), va_re ad (gr S 200 13), va_re ad (gr S 200 14), va_re ad (gr S 200 15), va_re ad (gr S 200 16), va_re ad (gr S 200 17), va_re ad (gr S 200 18), va_re ad (gr S 200 19), va_re ad (gr S 200 20), va_re ad (gr S 200 21), va_re ad (gr S 200 22), va_re ad (gr S 200 23), va_re ad (gr S 200 24), va_re ad (gr S 200 25), va_re ad (gr S 200 26), va_re ad (gr S 200 27), va_re ad (gr S 200 28), va_re ad (gr S 200 29), va_re ad (gr S 200 30), va_re ad (gr S 200 31), va_re ad (gr S 200 32), .int (gv S 200 33), .int (gv S 200 34), .int (gv S 200 35), va_re ad (gr S 200 36), .int (gv S 200 37), .int (gv S 200 38), .int (gv S 200 39), .int (gv S 200 40), .int (gv S 200 41), .int (gv S 200 42), .int (gv S 200 43), .int (gv S 200 44), .long (gl S 200), va_re ad (gr S 200 46), .int (gv S 200 47), .int (gv S 200 48), va_re ad (gr S 200 49), va_re ad (gr S 200 50), va_re ad (gr S 200 51), va_re ad (gr S 200 52), va_re ad (gr S 200 53), .int (gv S 200 54), .int (gv S 200 55), va_re ad (gr S 200 56), va_re ad (gr S 200 57), va_re ad (gr S 200 58), va_re ad (gr S 200 59), va_re ad (gr S 200 60), va_re ad (gr S 200 61), va_re ad (gr S 200 62), va_re ad (gr S 200 63), va_re ad (gr S 200 64), va_re ad (gr S 200 65), va_re ad (gr S 200 66)] : List Value).set 38 (.int x)) := by
  show kcD g ad 200 (up2 S.1 200 38 x 200) _ _ = _
  rw [up2_at]
  rfl
theorem dv_200_39 {g : Cx} {ad : Nat → Nat} {S : St} {x : Int32} : cellD g ad (sv S 200 39 x) 200 = .inr (11, ([.int (gv S 200 0), .int (gv S 200 1), va_re ad (gr S 200 2), va_re ad (gr S 200 3), va_re ad (gr S 200 4), va_re ad (gr S 200 5), va_re ad (gr S 200 6), .int (gv S 200 7), va_re ad (gr S 200 8), va_re ad (gr S 200 9), .int (gv S 200 10), va_re ad (gr S 200 11), va_re ad (gr S 200 12), va_re ad (gr S 200 13), va_re ad (gr S 200 14), va_re ad (gr S 200 15), va_re ad (gr S 200 16), va_re ad (gr S 200 17), va_re ad (gr S 200 18), va_re ad (gr S 200 19), va_re ad (gr S 200 20), va_re ad (gr S 200 21), va_re ad (gr S 200 22), va_re ad (gr S 200 23), va_re ad (gr S 200 24), va_re ad (gr S 200 25), va_re ad (gr S 200 26), va_re ad (gr S 200 27), va_re ad (gr S 200 28), va_re ad (gr S 200 29), va_re ad (gr S 200 30), va_re ad (gr S 200 31), va_re ad (gr S 200 32), .int (gv S 200 33), .int (gv S 200 34), .int (gv S 200 35), va_re ad (gr S 200 36), .int (gv S 200 37), .int (gv S 200 38), .int (gv S 200 39), .int (gv S 200 40), .int (gv S 200 41), .int (gv S 200 42), .int (gv S 200 43), .int (gv S 200 44), .long (gl S 200), va_re ad (gr S 200 46), .int (gv S 200 47), .int (gv S 200 48), va_re ad (gr S 200 49), va_re ad (gr S 200 50), va_re ad (gr S 200 51), va_re ad (gr S 200 52), va_re ad (gr S 200 53), .int (gv S 200 54), .int (gv S 200 55), va_re ad (gr S 200 56), va_re ad (gr S 200 57), va_re ad (gr S 200 58), va_re ad (gr S 200 59), va_re ad (gr S 200 60), va_re ad (gr S 200 61), va_re ad (gr S 200 62), va_re ad (gr S 200 63), va_re ad (gr S 200 64), va_re ad (gr S 200 65), va_re ad (gr S 200 66)] : List Value).set 39 (.int x)) := by
  show kcD g ad 200 (up2 S.1 200 39 x 200) _ _ = _
  rw [up2_at]
  rfl
theorem dv_200_40 {g : Cx} {ad : Nat → Nat} {S : St} {x : Int32} : cellD g ad (sv S 200 40 x) 200 = .inr (11, ([.int (gv S 200 0), .int (gv S 200 1), va_re ad (gr S 200 2), va_re ad (gr S 200 3), va_re ad (gr S 200 4), va_re ad (gr S 200 5), va_re ad (gr S 200 6), .int (gv S 200 7), va_re ad (gr S 200 8), va_re ad (gr S 200 9), .int (gv S 200 10), va_re ad (gr S 200 11), va_re ad (gr S 200 12), va_re ad (gr S 200 13), va_re ad (gr S 200 14), va_re ad (gr S 200 15), va_re ad (gr S 200 16), va_re ad (gr S 200 17), va_re ad (gr S 200 18), va_re ad (gr S 200 19), va_re ad (gr S 200 20), va_re ad (gr S 200 21), va_re ad (gr S 200 22), va_re ad (gr S 200 23), va_re ad (gr S 200 24), va_re ad (gr S 200 25), va_re ad (gr S 200 26), va_re ad (gr S 200 27), va_re ad (gr S 200 28), va_re ad (gr S 200 29), va_re ad (gr S 200 30), va_re ad (gr S 200 31), va_re ad (gr S 200 32), .int (gv S 200 33), .int (gv S 200 34), .int (gv S 200 35), va_re ad (gr S 200 36), .int (gv S 200 37), .int (gv S 200 38), .int (gv S 200 39), .int (gv S 200 40), .int (gv S 200 41), .int (gv S 200 42), .int (gv S 200 43), .int (gv S 200 44), .long (gl S 200), va_re ad (gr S 200 46), .int (gv S 200 47), .int (gv S 200 48), va_re ad (gr S 200 49), va_re ad (gr S 200 50), va_re ad (gr S 200 51), va_re ad (gr S 200 52), va_re ad (gr S 200 53), .int (gv S 200 54), .int (gv S 200 55), va_re ad (gr S 200 56), va_re ad (gr S 200 57), va_re ad (gr S 200 58), va_re ad (gr S 200 59), va_re ad (gr S 200 60), va_re ad (gr S 200 61), va_re ad (gr S 200 62), va_re ad (gr S 200 63), va_re ad (gr S 200 64), va_re ad (gr S 200 65), va_re ad (gr S 200 66)] : List Value).set 40 (.int x)) := by
  show kcD g ad 200 (up2 S.1 200 40 x 200) _ _ = _
  rw [up2_at]
  rfl
theorem dv_200_41 {g : Cx} {ad : Nat → Nat} {S : St} {x : Int32} : cellD g ad (sv S 200 41 x) 200 = .inr (11, ([.int (gv S 200 0), .int (gv S 200 1), va_re ad (gr S 200 2), va_re ad (gr S 200 3), va_re ad (gr S 200 4), va_re ad (gr S 200 5), va_re ad (gr S 200 6), .int (gv S 200 7), va_re ad (gr S 200 8), va_re ad (gr S 200 9), .int (gv S 200 10), va_re ad (gr S 200 11), va_re ad (gr S 200 12), va_re ad (gr S 200 13), va_re ad (gr S 200 14), va_re ad (gr S 200 15), va_re ad (gr S 200 16), va_re ad (gr S 200 17), va_re ad (gr S 200 18), va_re ad (gr S 200 19), va_re ad (gr S 200 20), va_re ad (gr S 200 21), va_re ad (gr S 200 22), va_re ad (gr S 200 23), va_re ad (gr S 200 24), va_re ad (gr S 200 25), va_re ad (gr S 200 26), va_re ad (gr S 200 27), va_re ad (gr S 200 28), va_re ad (gr S 200 29), va_re ad (gr S 200 30), va_re ad (gr S 200 31), va_re ad (gr S 200 32), .int (gv S 200 33), .int (gv S 200 34), .int (gv S 200 35), va_re ad (gr S 200 36), .int (gv S 200 37), .int (gv S 200 38), .int (gv S 200 39), .int (gv S 200 40), .int (gv S 200 41), .int (gv S 200 42), .int (gv S 200 43), .int (gv S 200 44), .long (gl S 200), va_re ad (gr S 200 46), .int (gv S 200 47), .int (gv S 200 48), va_re ad (gr S 200 49), va_re ad (gr S 200 50), va_re ad (gr S 200 51), va_re ad (gr S 200 52), va_re ad (gr S 200 53), .int (gv S 200 54), .int (gv S 200 55), va_re ad (gr S 200 56), va_re ad (gr S 200 57), va_re ad (gr S 200 58), va_re ad (gr S 200 59), va_re ad (gr S 200 60), va_re ad (gr S 200 61), va_re ad (gr S 200 62), va_re ad (gr S 200 63), va_re ad (gr S 200 64), va_re ad (gr S 200 65), va_re ad (gr S 200 66)] : List Value).set 41 (.int x)) := by
  show kcD g ad 200 (up2 S.1 200 41 x 200) _ _ = _
  rw [up2_at]
  rfl
theorem dv_200_42 {g : Cx} {ad : Nat → Nat} {S : St} {x : Int32} : cellD g ad (sv S 200 42 x) 200 = .inr (11, ([.int (gv S 200 0), .int (gv S 200 1), va_re ad (gr S 200 2), va_re ad (gr S 200 3), va_re ad (gr S 200 4), va_re ad (gr S 200 5), va_re ad (gr S 200 6), .int (gv S 200 7), va_re ad (gr S 200 8), va_re ad (gr S 200 9), .int (gv S 200 10), va_re ad (gr S 200 11), va_re ad (gr S 200 12), va_re ad (gr S 200 13), va_re ad (gr S 200 14), va_re ad (gr S 200 15), va_re ad (gr S 200 16), va_re ad (gr S 200 17), va_re ad (gr S 200 18), va_re ad (gr S 200 19), va_re ad (gr S 200 20), va_re ad (gr S 200 21), va_re ad (gr S 200 22), va_re ad (gr S 200 23), va_re ad (gr S 200 24), va_re ad (gr S 200 25), va_re ad (gr S 200 26), va_re ad (gr S 200 27), va_re ad (gr S 200 28), va_re ad (gr S 200 29), va_re ad (gr S 200 30), va_re ad (gr S 200 31), va_re ad (gr S 200 32), .int (gv S 200 33), .int (gv S 200 34), .int (gv S 200 35), va_re ad (gr S 200 36), .int (gv S 200 37), .int (gv S 200 38), .int (gv S 200 39), .int (gv S 200 40), .int (gv S 200 41), .int (gv S 200 42), .int (gv S 200 43), .int (gv S 200 44), .long (gl S 200), va_re ad (gr S 200 46), .int (gv S 200 47), .int (gv S 200 48), va_re ad (gr S 200 49), va_re ad (gr S 200 50), va_re ad (gr S 200 51), va_re ad (gr S 200 52), va_re ad (gr S 200 53), .int (gv S 200 54), .int (gv S 200 55), va_re ad (gr S 200 56), va_re ad (gr S 200 57), va_re ad (gr S 200 58), va_re ad (gr S 200 59), va_re ad (gr S 200 60), va_re ad (gr S 200 61), va_re ad (gr S 200 62), va_re ad (gr S 200 63), va_re ad (gr S 200 64), va_re ad (gr S 200 65), va_re ad (gr S 200 66)] : List Value).set 42 (.int x)) := by
  show kcD g ad 200 (up2 S.1 200 42 x 200) _ _ = _
  rw [up2_at]
  rfl
theorem dv_200_43 {g : Cx} {ad : Nat → Nat} {S : St} {x : Int32} : cellD g ad (sv S 200 43 x) 200 = .inr (11, ([.int (gv S 200 0), .int (gv S 200 1), va_re ad (gr S 200 2), va_re ad (gr S 200 3), va_re ad (gr S 200 4), va_re ad (gr S 200 5), va_re ad (gr S 200 6), .int (gv S 200 7), va_re ad (gr S 200 8), va_re ad (gr S 200 9), .int (gv S 200 10), va_re ad (gr S 200 11), va_re ad (gr S 200 12), va_re ad (gr S 200 13), va_re ad (gr S 200 14), va_re ad (gr S 200 15), va_re ad (gr S 200 16), va_re ad (gr S 200 17), va_re ad (gr S 200 18), va_re ad (gr S 200 19), va_re ad (gr S 200 20), va_re ad (gr S 200 21), va_re ad (gr S 200 22), va_re ad (gr S 200 23), va_re ad (gr S 200 24), va_re ad (gr S 200 25), va_re ad (gr S 200 26), va_re ad (gr S 200 27), va_re ad (gr S 200 28), va_re ad (gr S 200 29), va_re ad (gr S 200 30), va_re ad (gr S 200 31), va_re ad (gr S 200 32), .int (gv S 200 33), .int (gv S 200 34), .int (gv S 200 35), va_re ad (gr S 200 36), .int (gv S 200 37), .int (gv S 200 38), .int (gv S 200 39), .int (gv S 200 40), .int (gv S 200 41), .int (gv S 200 42), .int (gv S 200 43), .int (gv S 200 44), .long (gl S 200), va_re ad (gr S 200 46), .int (gv S 200 47), .int (gv S 200 48), va_re ad (gr S 200 49), va_re ad (gr S 200 50), va_re ad (gr S 200 51), va_re ad (gr S 200 52), va_re ad (gr S 200 53), .int (gv S 200 54), .int (gv S 200 55), va_re ad (gr S 200 56), va_re ad (gr S 200 57), va_re ad (gr S 200 58), va_re ad (gr S 200 59), va_re ad (gr S 200 60), va_re ad (gr S 200 61), va_re ad (gr S 200 62), va_re ad (gr S 200 63), va_re ad (gr S 200 64), va_re ad (gr S 200 65), va_re ad (gr S 200 66)] : List Value).set 43 (.int x)) := by
  show kcD g ad 200 (up2 S.1 200 43 x 200) _ _ = _
  rw [up2_at]
  rfl
theorem dv_200_44 {g : Cx} {ad : Nat → Nat} {S : St} {x : Int32} : cellD g ad (sv S 200 44 x) 200 = .inr (11, ([.int (gv S 200 0), .int (gv S 200 1), va_re ad (gr S 200 2), va_re ad (gr S 200 3), va_re ad (gr S 200 4), va_re ad (gr S 200 5), va_re ad (gr S 200 6), .int (gv S 200 7), va_re ad (gr S 200 8), va_re ad (gr S 200 9), .int (gv S 200 10), va_re ad (gr S 200 11), va_re ad (gr S 200 12), va_re ad (gr S 200 13), va_re ad (gr S 200 14), va_re ad (gr S 200 15), va_re ad (gr S 200 16), va_re ad (gr S 200 17), va_re ad (gr S 200 18), va_re ad (gr S 200 19), va_re ad (gr S 200 20), va_re ad (gr S 200 21), va_re ad (gr S 200 22), va_re ad (gr S 200 23), va_re ad (gr S 200 24), va_re ad (gr S 200 25), va_re ad (gr S 200 26), va_re ad (gr S 200 27), va_re ad (gr S 200 28), va_re ad (gr S 200 29), va_re ad (gr S 200 30), va_re ad (gr S 200 31), va_re ad (gr S 200 32), .int (gv S 200 33), .int (gv S 200 34), .int (gv S 200 35), va_re ad (gr S 200 36), .int (gv S 200 37), .int (gv S 200 38), .int (gv S 200 39), .int (gv S 200 40), .int (gv S 200 41), .int (gv S 200 42), .int (gv S 200 43), .int (gv S 200 44), .long (gl S 200), va_re ad (gr S 200 46), .int (gv S 200 47), .int (gv S 200 48), va_re ad (gr S 200 49), va_re ad (gr S 200 50), va_re ad (gr S 200 51), va_re ad (gr S 200 52), va_re ad (gr S 200 53), .int (gv S 200 54), .int (gv S 200 55), va_re ad (gr S 200 56), va_re ad (gr S 200 57), va_re ad (gr S 200 58), va_re ad (gr S 200 59), va_re ad (gr S 200 60), va_re ad (gr S 200 61), va_re ad (gr S 200 62), va_re ad (gr S 200 63), va_re ad (gr S 200 64), va_re ad (gr S 200 65), va_re ad (gr S 200 66)] : List Value).set 44 (.int x)) := by
  show kcD g ad 200 (up2 S.1 200 44 x 200) _ _ = _
  rw [up2_at]
  rfl
theorem dl_200_45 {g : Cx} {ad : Nat → Nat} {S : St} {x : Int64} : cellD g ad (sl S 200 x) 200 = .inr (11, ([.int (gv S 200 0), .int (gv S 200 1), va_re ad (gr S 200 2), va_re ad (gr S 200 3), va_re ad (gr S 200 4), va_re ad (gr S 200 5), va_re ad (gr S 200 6), .int (gv S 200 7), va_re ad (gr S 200 8), va_re ad (gr S 200 9), .int (gv S 200 10), va_re ad (gr S 200 11), va_re ad (gr S 200 12), va_re ad (gr S 200 13), va_re ad (gr S 200 14), va_re ad (gr S 200 15), va_re ad (gr S 200 16), va_re ad (gr S 200 17), va_re ad (gr S 200 18), va_re ad (gr S 200 19), va_re ad (gr S 200 20), va_re ad (gr S 200 21), va_re ad (gr S 200 22), va_re ad (gr S 200 23), va_re ad (gr S 200 24), va_re ad (gr S 200 25), va_re ad (gr S 200 26), va_re ad (gr S 200 27), va_re ad (gr S 200 28), va_re ad (gr S 200 29), va_re ad (gr S 200 30), va_re ad (gr S 200 31), va_re ad (gr S 200 32), .int (gv S 200 33), .int (gv S 200 34), .int (gv S 200 35), va_re ad (gr S 200 36), .int (gv S 200 37), .int (gv S 200 38), .int (gv S 200 39), .int (gv S 200 40), .int (gv S 200 41), .int (gv S 200 42), .int (gv S 200 43), .int (gv S 200 44), .long (gl S 200), va_re ad (gr S 200 46), .int (gv S 200 47), .int (gv S 200 48), va_re ad (gr S 200 49), va_re ad (gr S 200 50), va_re ad (gr S 200 51), va_re ad (gr S 200 52), va_re ad (gr S 200 53), .int (gv S 200 54), .int (gv S 200 55), va_re ad (gr S 200 56), va_re ad (gr S 200 57), va_re ad (gr S 200 58), va_re ad (gr S 200 59), va_re ad (gr S 200 60), va_re ad (gr S 200 61), va_re ad (gr S 200 62), va_re ad (gr S 200 63), va_re ad (gr S 200 64), va_re ad (gr S 200 65), va_re ad (gr S 200 66)] : List Value).set 45 (.long x)) := rfl
theorem dr_200_46 {g : Cx} {ad : Nat → Nat} {S : St} {x : Nat} : cellD g ad (sr S 200 46 (some x)) 200 = .inr (11, ([.int (gv S 200 0), .int (gv S 200 1), va_re ad (gr S 200 2), va_re ad (gr S 200 3), va_re ad (gr S 200 4), va_re ad (gr S 200 5), va_re ad (gr S 200 6), .int (gv S 200 7), va_re ad (gr S 200 8), va_re ad (gr S 200 9), .int (gv S 200 10), va_re ad (gr S 200 11), va_re ad (gr S 200 12), va_re ad (gr S 200 13), va_re ad (gr S 200 14), va_re ad (gr S 200 15), va_re ad (gr S 200 16), va_re ad (gr S 200 17), va_re ad (gr S 200 18), va_re ad (gr S 200 19), va_re ad (gr S 200 20), va_re ad (gr S 200 21), va_re ad (gr S 200 22), va_re ad (gr S 200 23), va_re ad (gr S 200 24), va_re ad (gr S 200 25), va_re ad (gr S 200 26), va_re ad (gr S 200 27), va_re ad (gr S 200 28), va_re ad (gr S 200 29), va_re ad (gr S 200 30), va_re ad (gr S 200 31), va_re ad (gr S 200 32), .int (gv S 200 33), .int (gv S 200 34), .int (gv S 200 35), va_re ad (gr S 200 36), .int (gv S 200 37), .int (gv S 200 38), .int (gv S 200 39), .int (gv S 200 40), .int (gv S 200 41), .int (gv S 200 42), .int (gv S 200 43), .int (gv S 200 44), .long (gl S 200), va_re ad (gr S 200 46), .int (gv S 200 47), .int (gv S 200 48), va_re ad (gr S 200 49), va_re ad (gr S 200 50), va_re ad (gr S 200 51), va_re ad (gr S 200 52), va_re ad (gr S 200 53), .int (gv S 200 54), .int (gv S 200 55), va_re ad (gr S 200 56), va_re ad (gr S 200 57), va_re ad (gr S 200 58), va_re ad (gr S 200 59), va_re ad (gr S 200 60), va_re ad (gr S 200 61), va_re ad (gr S 200 62), va_re ad (gr S 200 63), va_re ad (gr S 200 64), va_re ad (gr S 200 65), va_re ad (gr S 200 66)] : List Value).set 46 (.ref (ad x))) := by
  show kcD g ad 200 _ (up2 S.2.1 200 46 (some x) 200) _ = _
  rw [up2_at]
  rfl
theorem dv_200_47 {g : Cx} {ad : Nat → Nat} {S : St} {x : Int32} : cellD g ad (sv S 200 47 x) 200 = .inr (11, ([.int (gv S 200 0), .int (gv S 200 1), va_re ad (gr S 200 2), va_re ad (gr S 200 3), va_re ad (gr S 200 4), va_re ad (gr S 200 5), va_re ad (gr S 200 6), .int (gv S 200 7), va_re ad (gr S 200 8), va_re ad (gr S 200 9), .int (gv S 200 10), va_re ad (gr S 200 11), va_re ad (gr S 200 12), va_re ad (gr S 200 13), va_re ad (gr S 200 14), va_re ad (gr S 200 15), va_re ad (gr S 200 16), va_re ad (gr S 200 17), va_re ad (gr S 200 18), va_re ad (gr S 200 19), va_re ad (gr S 200 20), va_re ad (gr S 200 21), va_re ad (gr S 200 22), va_re ad (gr S 200 23), va_re ad (gr S 200 24), va_re ad (gr S 200 25), va_re ad (gr S 200 26), va_re ad (gr S 200 27), va_re ad (gr S 200 28), va_re ad (gr S 200 29), va_re ad (gr S 200 30), va_re ad (gr S 200 31), va_re ad (gr S 200 32), .int (gv S 200 33), .int (gv S 200 34), .int (gv S 200 35), va_re ad (gr S 200 36), .int (gv S 200 37), .int (gv S 200 38), .int (gv S 200 39), .int (gv S 200 40), .int (gv S 200 41), .int (gv S 200 42), .int (gv S 200 43), .int (gv S 200 44), .long (gl S 200), va_re ad (gr S 200 46), .int (gv S 200 47), .int (gv S 200 48), va_re ad (gr S 200 49), va_re ad (gr S 200 50), va_re ad (gr S 200 51), va_re ad (gr S 200 52), va_re ad (gr S 200 53), .int (gv S 200 54), .int (gv S 200 55), va_re ad (gr S 200 56), va_re ad (gr S 200 57), va_re ad (gr S 200 58), va_re ad (gr S 200 59), va_re ad (gr S 200 60), va_re ad (gr S 200 61), va_re ad (gr S 200 62), va_re ad (gr S 200 63), va_re ad (gr S 200 64), va_re ad (gr S 200 65), va_re ad (gr S 200 66)] : List Value).set 47 (.int x)) := by
  show kcD g ad 200 (up2 S.1 200 47 x 200) _ _ = _
  rw [up2_at]
  rfl
theorem dv_200_48 {g : Cx} {ad : Nat → Nat} {S : St} {x : Int32} : cellD g ad (sv S 200 48 x) 200 = .inr (11, ([.int (gv S 200 0), .int (gv S 200 1), va_re ad (gr S 200 2), va_re ad (gr S 200 3), va_re ad (gr S 200 4), va_re ad (gr S 200 5), va_re ad (gr S 200 6), .int (gv S 200 7), va_re ad (gr S 200 8), va_re ad (gr S 200 9), .int (gv S 200 10), va_re ad (gr S 200 11), va_re ad (gr S 200 12), va_re ad (gr S 200 13), va_re ad (gr S 200 14), va_re ad (gr S 200 15), va_re ad (gr S 200 16), va_re ad (gr S 200 17), va_re ad (gr S 200 18), va_re ad (gr S 200 19), va_re ad (gr S 200 20), va_re ad (gr S 200 21), va_re ad (gr S 200 22), va_re ad (gr S 200 23), va_re ad (gr S 200 24), va_re ad (gr S 200 25), va_re ad (gr S 200 26), va_re ad (gr S 200 27), va_re ad (gr S 200 28), va_re ad (gr S 200 29), va_re ad (gr S 200 30), va_re ad (gr S 200 31), va_re ad (gr S 200 32), .int (gv S 200 33), .int (gv S 200 34), .int (gv S 200 35), va_re ad (gr S 200 36), .int (gv S 200 37), .int (gv S 200 38), .int (gv S 200 39), .int (gv S 200 40), .int (gv S 200 41), .int (gv S 200 42), .int (gv S 200 43), .int (gv S 200 44), .long (gl S 200), va_re ad (gr S 200 46), .int (gv S 200 47), .int (gv S 200 48), va_re ad (gr S 200 49), va_re ad (gr S 200 50), va_re ad (gr S 200 51), va_re ad (gr S 200 52), va_re ad (gr S 200 53), .int (gv S 200 54), .int (gv S 200 55), va_re ad (gr S 200 56), va_re ad (gr S 200 57), va_re ad (gr S 200 58), va_re ad (gr S 200 59), va_re ad (gr S 200 60), va_re ad (gr S 200 61), va_re ad (gr S 200 62), va_re ad (gr S 200 63), va_re ad (gr S 200 64), va_re ad (gr S 200 65), va_re ad (gr S 200 66)] : List Value).set 48 (.int x)) := by
  show kcD g ad 200 (up2 S.1 200 48 x 200) _ _ = _
  rw [up2_at]
  rfl
theorem dr_200_49 {g : Cx} {ad : Nat → Nat} {S : St} {x : Nat} : cellD g ad (sr S 200 49 (some x)) 200 = .inr (11, ([.int (gv S 200 0), .int (gv S 200 1), va_re ad (gr S 200 2), va_re ad (gr S 200 3), va_re ad (gr S 200 4), va_re ad (gr S 200 5), va_re ad (gr S 200 6), .int (gv S 200 7), va_re ad (gr S 200 8), va_re ad (gr S 200 9), .int (gv S 200 10), va_re ad (gr S 200 11), va_re ad (gr S 200 12), va_re ad (gr S 200 13), va_re ad (gr S 200 14), va_re ad (gr S 200 15), va_re ad (gr S 200 16), va_re ad (gr S 200 17), va_re ad (gr S 200 18), va_re ad (gr S 200 19), va_re ad (gr S 200 20), va_re ad (gr S 200 21), va_re ad (gr S 200 22), va_re ad (gr S 200 23), va_re ad (gr S 200 24), va_re ad (gr S 200 25), va_re ad (gr S 200 26), va_re ad (gr S 200 27), va_re ad (gr S 200 28), va_re ad (gr S 200 29), va_re ad (gr S 200 30), va_re ad (gr S 200 31), va_re ad (gr S 200 32), .int (gv S 200 33), .int (gv S 200 34), .int (gv S 200 35), va_re ad (gr S 200 36), .int (gv S 200 37), .int (gv S 200 38), .int (gv S 200 39), .int (gv S 200 40), .int (gv S 200 41), .int (gv S 200 42), .int (gv S 200 43), .int (gv S 200 44), .long (gl S 200), va_re ad (gr S 200 46), .int (gv S 200 47), .int (gv S 200 48), va_re ad (gr S 200 49), va_re ad (gr S 200 50), va_re ad (gr S 200 51), va_re ad (gr S 200 52), va_re ad (gr S 200 53), .int (gv S 200 54), .int (gv S 200 55), va_re ad (gr S 200 56), va_re ad (gr S 200 57), va_re ad (gr S 200 58), va_re ad (gr S 200 59), va_re ad (gr S 200 60), va_re ad (gr S 200 61), va_re ad (gr S 200 62), va_re ad (gr S 200 63), va_re ad (gr S 200 64), va_re ad (gr S 200 65), va_re ad (gr S 200 66)] : List Value).set 49 (.ref (ad x))) := by
  show kcD g ad 200 _ (up2 S.2.1 200 49 (some x) 200) _ = _
  rw [up2_at]
  rfl
theorem dr_200_50 {g : Cx} {ad : Nat → Nat} {S : St} {x : Nat} : cellD g ad (sr S 200 50 (some x)) 200 = .inr (11, ([.int (gv S 200 0), .int (gv S 200 1), va_re ad (gr S 200 2), va_re ad (gr S 200 3), va_re ad (gr S 200 4), va_re ad (gr S 200 5), va_re ad (gr S 200 6), .int (gv S 200 7), va_re ad (gr S 200 8), va_re ad (gr S 200 9), .int (gv S 200 10), va_re ad (gr S 200 11), va_re ad (gr S 200 12), va_re ad (gr S 200 13), va_re ad (gr S 200 14), va_re ad (gr S 200 15), va_re ad (gr S 200 16), va_re ad (gr S 200 17), va_re ad (gr S 200 18), va_re ad (gr S 200 19), va_re ad (gr S 200 20), va_re ad (gr S 200 21), va_re ad (gr S 200 22), va_re ad (gr S 200 23), va_re ad (gr S 200 24), va_re ad (gr S 200 25), va_re ad (gr S 200 26), va_re ad (gr S 200 27), va_re ad (gr S 200 28), va_re ad (gr S 200 29), va_re ad (gr S 200 30), va_re ad (gr S 200 31), va_re ad (gr S 200 32), .int (gv S 200 33), .int (gv S 200 34), .int (gv S 200 35), va_re ad (gr S 200 36), .int (gv S 200 37), .int (gv S 200 38), .int (gv S 200 39), .int (gv S 200 40), .int (gv S 200 41), .int (gv S 200 42), .int (gv S 200 43), .int (gv S 200 44), .long (gl S 200), va_re ad (gr S 200 46), .int (gv S 200 47), .int (gv S 200 48), va_re ad (gr S 200 49), va_re ad (gr S 200 50), va_re ad (gr S 200 51), va_re ad (gr S 200 52), va_re ad (gr S 200 53), .int (gv S 200 54), .int (gv S 200 55), va_re ad (gr S 200 56), va_re ad (gr S 200 57), va_re ad (gr S 200 58), va_re ad (gr S 200 59), va_re ad (gr S 200 60), va_re ad (gr S 200 61), va_re ad (gr S 200 62), va_re ad (gr S 200 63), va_re ad (gr S 200 64), va_re ad (gr S 200 65), va_re ad (gr S 200 66)] : List Value).set 50 (.ref (ad x))) := by
  show kcD g ad 200 _ (up2 S.2.1 200 50 (some x) 200) _ = _
  rw [up2_at]
  rfl
theorem dr_200_51 {g : Cx} {ad : Nat → Nat} {S : St} {x : Nat} : cellD g ad (sr S 200 51 (some x)) 200 = .inr (11, ([.int (gv S 200 0), .int (gv S 200 1), va_re ad (gr S 200 2), va_re ad (gr S 200 3), va_re ad (gr S 200 4), va_re ad (gr S 200 5), va_re ad (gr S 200 6), .int (gv S 200 7), va_re ad (gr S 200 8), va_re ad (gr S 200 9), .int (gv S 200 10), va_re ad (gr S 200 11), va_re ad (gr S 200 12), va_re ad (gr S 200 13), va_re ad (gr S 200 14), va_re ad (gr S 200 15), va_re ad (gr S 200 16), va_re ad (gr S 200 17), va_re ad (gr S 200 18), va_re ad (gr S 200 19), va_re ad (gr S 200 20), va_re ad (gr S 200 21), va_re ad (gr S 200 22), va_re ad (gr S 200 23), va_re ad (gr S 200 24), va_re ad (gr S 200 25), va_re ad (gr S 200 26), va_re ad (gr S 200 27), va_re ad (gr S 200 28), va_re ad (gr S 200 29), va_re ad (gr S 200 30), va_re ad (gr S 200 31), va_re ad (gr S 200 32), .int (gv S 200 33), .int (gv S 200 34), .int (gv S 200 35), va_re ad (gr S 200 36), .int (gv S 200 37), .int (gv S 200 38), .int (gv S 200 39), .int (gv S 200 40), .int (gv S 200 41), .int (gv S 200 42), .int (gv S 200 43), .int (gv S 200 44), .long (gl S 200), va_re ad (gr S 200 46), .int (gv S 200 47), .int (gv S 200 48), va_re ad (gr S 200 49), va_re ad (gr S 200 50), va_re ad (gr S 200 51), va_re ad (gr S 200 52), va_re ad (gr S 200 53), .int (gv S 200 54), .int (gv S 200 55), va_re ad (gr S 200 56), va_re ad (gr S 200 57), va_re ad (gr S 200 58), va_re ad (gr S 200 59), va_re ad (gr S 200 60), va_re ad (gr S 200 61), va_re ad (gr S 200 62), va_re ad (gr S 200 63), va_re ad (gr S 200 64), va_re ad (gr S 200 65), va_re ad (gr S 200 66)] : List Value).set 51 (.ref (ad x))) := by
  show kcD g ad 200 _ (up2 S.2.1 200 51 (some x) 200) _ = _
  rw [up2_at]
  rfl
theorem dr_200_52 {g : Cx} {ad : Nat → Nat} {S : St} {x : Nat} : cellD g ad (sr S 200 52 (some x)) 200 = .inr (11, ([.int (gv S 200 0), .int (gv S 200 1), va_re ad (gr S 200 2), va_re ad (gr S 200 3), va_re ad (gr S 200 4), va_re ad (gr S 200 5), va_re ad (gr S 200 6), .int (gv S 200 7), va_re ad (gr S 200 8), va_re ad (gr S 200 9), .int (gv S 200 10), va_re ad (gr S 200 11), va_re ad (gr S 200 12), va_re ad (gr S 200 13), va_re ad (gr S 200 14), va_re ad (gr S 200 15), va_re ad (gr S 200 16), va_re ad (gr S 200 17), va_re ad (gr S 200 18), va_re ad (gr S 200 19), va_re ad (gr S 200 20), va_re ad (gr S 200 21), va_re ad (gr S 200 22), va_re ad (gr S 200 23), va_re ad (gr S 200 24), va_re ad (gr S 200 25), va_re ad (gr S 200 26), va_re ad (gr S 200 27), va_re ad (gr S 200 28), va_re ad (gr S 200 29), va_re ad (gr S 200 30), va_re ad (gr S 200 31), va_re ad (gr S 200 32), .int (gv S 200 33), .int (gv S 200 34), .int (gv S 200 35), va_re ad (gr S 200 36), .int (gv S 200 37), .int (gv S 200 38), .int (gv S 200 39), .int (gv S 200 40), .int (gv S 200 41), .int (gv S 200 42), .int (gv S 200 43), .int (gv S 200 44), .long (gl S 200), va_re ad (gr S 200 46), .int (gv S 200 47), .int (gv S 200 48), va_re ad (gr S 200 49), va_re ad (gr S 200 50), va_re ad (gr S 200 51), va_re ad (gr S 200 52), va_re ad (gr S 200 53), .int (gv S 200 54), .int (gv S 200 55), va_re ad (gr S 200 56), va_re ad (gr S 200 57), va_re ad (gr S 200 58), va_re ad (gr S 200 59), va_re ad (gr S 200 60), va_re ad (gr S 200 61), va_re ad (gr S 200 62), va_re ad (gr S 200 63), va_re ad (gr S 200 64), va_re ad (gr S 200 65), va_re ad (gr S 200 66)] : List Value).set 52 (.ref (ad x))) := by
  show kcD g ad 200 _ (up2 S.2.1 200 52 (some x) 200) _ = _
  rw [up2_at]
  rfl
theorem dr_200_53 {g : Cx} {ad : Nat → Nat} {S : St} {x : Nat} : cellD g ad (sr S 200 53 (some x)) 200 = .inr (11, ([.int (gv S 200 0), .int (gv S 200 1), va_re ad (gr S 200 2), va_re ad (gr S 200 3), va_re ad (gr S 200 4), va_re ad (gr S 200 5), va_re ad (gr S 200 6), .int (gv S 200 7), va_re ad (gr S 200 8), va_re ad (gr S 200 9), .int (gv S 200 10), va_re ad (gr S 200 11), va_re ad (gr S 200 12), va_re ad (gr S 200 13), va_re ad (gr S 200 14), va_re ad (gr S 200 15), va_re ad (gr S 200 16), va_re ad (gr S 200 17), va_re ad (gr S 200 18), va_re ad (gr S 200 19), va_re ad (gr S 200 20), va_re ad (gr S 200 21), va_re ad (gr S 200 22), va_re ad (gr S 200 23), va_re ad (gr S 200 24), va_re ad (gr S 200 25), va_re ad (gr S 200 26), va_re ad (gr S 200 27), va_re ad (gr S 200 28), va_re ad (gr S 200 29), va_re ad (gr S 200 30), va_re ad (gr S 200 31), va_re ad (gr S 200 32), .int (gv S 200 33), .int (gv S 200 34), .int (gv S 200 35), va_re ad (gr S 200 36), .int (gv S 200 37), .int (gv S 200 38), .int (gv S 200 39), .int (gv S 200 40), .int (gv S 200 41), .int (gv S 200 42), .int (gv S 200 43), .int (gv S 200 44), .long (gl S 200), va_re ad (gr S 200 46), .int (gv S 200 47), .int (gv S 200 48), va_re ad (gr S 200 49), va_re ad (gr S 200 50), va_re ad (gr S 200 51), va_re ad (gr S 200 52), va_re ad (gr S 200 53), .int (gv S 200 54), .int (gv S 200 55), va_re ad (gr S 200 56), va_re ad (gr S 200 57), va_re ad (gr S 200 58), va_re ad (gr S 200 59), va_re ad (gr S 200 60), va_re ad (gr S 200 61), va_re ad (gr S 200 62), va_re ad (gr S 200 63), va_re ad (gr S 200 64), va_re ad (gr S 200 65), va_re ad (gr S 200 66)] : List Value).set 53 (.ref (ad x))) := by
  show kcD g ad 200 _ (up2 S.2.1 200 53 (some x) 200) _ = _
  rw [up2_at]
  rfl
theorem dv_200_54 {g : Cx} {ad : Nat → Nat} {S : St} {x : Int32} : cellD g ad (sv S 200 54 x) 200 = .inr (11, ([.int (gv S 200 0), .int (gv S 200 1), va_re ad (gr S 200 2), va_re ad (gr S 200 3), va_re ad (gr S 200 4), va_re ad (gr S 200 5), va_re ad (gr S 200 6), .int (gv S 200 7), va_re ad (gr S 200 8), va_re ad (gr S 200 9), .int (gv S 200 10), va_re ad (gr S 200 11), va_re ad (gr S 200 12), va_re ad (gr S 200 13), va_re ad (gr S 200 14), va_re ad (gr S 200 15), va_re ad (gr S 200 16), va_re ad (gr S 200 17), va_re ad (gr S 200 18), va_re ad (gr S 200 19), va_re ad (gr S 200 20), va_re ad (gr S 200 21), va_re ad (gr S 200 22), va_re ad (gr S 200 23), va_re ad (gr S 200 24), va_re ad (gr S 200 25), va_re ad (gr S 200 26), va_re ad (gr S 200 27), va_re ad (gr S 200 28), va_re ad (gr S 200 29), va_re ad (gr S 200 30), va_re ad (gr S 200 31), va_re ad (gr S 200 32), .int (gv S 200 33), .int (gv S 200 34), .int (gv S 200 35), va_re ad (gr S 200 36), .int (gv S 200 37), .int (gv S 200 38), .int (gv S 200 39), .int (gv S 200 40), .int (gv S 200 41), .int (gv S 200 42), .int (gv S 200 43), .int (gv S 200 44), .long (gl S 200), va_re ad (gr S 200 46), .int (gv S 200 47), .int (gv S 200 48), va_re ad (gr S 200 49), va_re ad (gr S 200 50), va_re ad (gr S 200 51), va_re ad (gr S 200 52), va_re ad (gr S 200 53), .int (gv S 200 54), .int (gv S 200 55), va_re ad (gr S 200 56), va_re ad (gr S 200 57), va_re ad (gr S 200 58), va_re ad (gr S 200 59), va_re ad (gr S 200 60), va_re ad (gr S 200 61), va_re ad (gr S 200 62), va_re ad (gr S 200 63), va_re ad (gr S 200 64), va_re ad (gr S 200 65), va_re ad (gr S 200 66)] : List Value).set 54 (.int x)) := by
  show kcD g ad 200 (up2 S.1 200 54 x 200) _ _ = _
  rw [up2_at]
  rfl
theorem dv_200_55 {g : Cx} {ad : Nat → Nat} {S : St} {x : Int32} : cellD g ad (sv S 200 55 x) 200 = .inr (11, ([.int (gv S 200 0), .int (gv S 200 1), va_re ad (gr S 200 2), va_re ad (gr S 200 3), va_re ad (gr S 200 4), va_re ad (gr S 200 5), va_re ad (gr S 200 6), .int (gv S 200 7), va_re ad (gr S 200 8), va_re ad (gr S 200 9), .int (gv S 200 10), va_re ad (gr S 200 11), va_re ad (gr S 200 12), va_re ad (gr S 200 13), va_re ad (gr S 200 14), va_re ad (gr S 200 15), va_re ad (gr S 200 16), va_re ad (gr S 200 17), va_re ad (gr S 200 18), va_re ad (gr S 200 19), va_re ad (gr S 200 20), va_re ad (gr S 200 21), va_re ad (gr S 200 22), va_re ad (gr S 200 23), va_re ad (gr S 200 24), va_re ad (gr S 200 25), va_re ad (gr S 200 26), va_re ad (gr S 200 27), va_re ad (gr S 200 28), va_re ad (gr S 200 29), va_re ad (gr S 200 30), va_re ad (gr S 200 31), va_re ad (gr S 200 32), .int (gv S 200 33), .int (gv S 200 34), .int (gv S 200 35), va_re ad (gr S 200 36), .int (gv S 200 37), .int (gv S 200 38), .int (gv S 200 39), .int (gv S 200 40), .int (gv S 200 41), .int (gv S 200 42), .int (gv S 200 43), .int (gv S 200 44), .long (gl S 200), va_re ad (gr S 200 46), .int (gv S 200 47), .int (gv S 200 48), va_re ad (gr S 200 49), va_re ad (gr S 200 50), va_re ad (gr S 200 51), va_re ad (gr S 200 52), va_re ad (gr S 200 53), .int (gv S 200 54), .int (gv S 200 55), va_re ad (gr S 200 56), va_re ad (gr S 200 57), va_re ad (gr S 200 58), va_re ad (gr S 200 59), va_re ad (gr S 200 60), va_re ad (gr S 200 61), va_re ad (gr S 200 62), va_re ad (gr S 200 63), va_re ad (gr S 200 64), va_re ad (gr S 200 65), va_re ad (gr S 200 66)] : List Value).set 55 (.int x)) := by
  show kcD g ad 200 (up2 S.1 200 55 x 200) _ _ = _
  rw [up2_at]
  rfl
theorem dr_200_56 {g : Cx} {ad : Nat → Nat} {S : St} {x : Nat} : cellD g ad (sr S 200 56 (some x)) 200 = .inr (11, ([.int (gv S 200 0), .int (gv S 200 1), va_re ad (gr S 200 2), va_re ad (gr S 200 3), va_re ad (gr S 200 4), va_re ad (gr S 200 5), va_re ad (gr S 200 6), .int (gv S 200 7), va_re ad (gr S 200 8), va_re ad (gr S 200 9), .int (gv S 200 10), va_re ad (gr S 200 11), va_re ad (gr S 200 12), va_re ad (gr S 200 13), va_re ad (gr S 200 14), va_re ad (gr S 200 15), va_re ad (gr S 200 16), va_re ad (gr S 200 17), va_re ad (gr S 200 18), va_re ad (gr S 200 19), va_re ad (gr S 200 20), va_re ad (gr S 200 21), va_re ad (gr S 200 22), va_re ad (gr S 200 23), va_re ad (gr S 200 24), va_re ad (gr S 200 25), va_re ad (gr S 200 26), va_re ad (gr S 200 27), va_re ad (gr S 200 28), va_re ad (gr S 200 29), va_re ad (gr S 200 30), va_re ad (gr S 200 31), va_re ad (gr S 200 32), .int (gv S 200 33), .int (gv S 200 34), .int (gv S 200 35), va_re ad (gr S 200 36), .int (gv S 200 37), .int (gv S 200 38), .int (gv S 200 39), .int (gv S 200 40), .int (gv S 200 41), .int (gv S 200 42), .int (gv S 200 43), .int (gv S 200 44), .long (gl S 200), va_re ad (gr S 200 46), .int (gv S 200 47), .int (gv S 200 48), va_re ad (gr S 200 49), va_re ad (gr S 200 50), va_re ad (gr S 200 51), va_re ad (gr S 200 52), va_re ad (gr S 200 53), .int (gv S 200 54), .int (gv S 200 55), va_re ad (gr S 200 56), va_re ad (gr S 200 57), va_re ad (gr S 200 58), va_re ad (gr S 200 59), va_re ad (gr S 200 60), va_re ad (gr S 200 61), va_re ad (gr S 200 62), va_re ad (gr S 200 63), va_re ad (gr S 200 64), va_re ad (gr S 200 65), va_re ad (gr S 200 66)] : List Value).set 56 (.ref (ad x))) := by
  show kcD g ad 200 _ (up2 S.2.1 200 56 (some x) 200) _ = _
  rw [up2_at]
  rfl
theorem dr_200_57 {g : Cx} {ad : Nat → Nat} {S : St} {x : Nat} : cellD g ad (sr S 200 57 (some x)) 200 = .inr (11, ([.int (gv S 200 0), .int (gv S 200 1), va_re ad (gr S 200 2), va_re ad (gr S 200 3), va_re ad (gr S 200 4), va_re ad (gr S 200 5), va_re ad (gr S 200 6), .int (gv S 200 7), va_re ad (gr S 200 8), va_re ad (gr S 200 9), .int (gv S 200 10), va_re ad (gr S 200 11), va_re ad (gr S 200 12), va_re ad (gr S 200 13), va_re ad (gr S 200 14), va_re ad (gr S 200 15), va_re ad (gr S 200 16), va_re ad (gr S 200 17), va_re ad (gr S 200 18), va_re ad (gr S 200 19), va_re ad (gr S 200 20), va_re ad (gr S 200 21), va_re ad (gr S 200 22), va_re ad (gr S 200 23), va_re ad (gr S 200 24), va_re ad (gr S 200 25), va_re ad (gr S 200 26), va_re ad (gr S 200 27), va_re ad (gr S 200 28), va_re ad (gr S 200 29), va_re ad (gr S 200 30), va_re ad (gr S 200 31), va_re ad (gr S 200 32), .int (gv S 200 33), .int (gv S 200 34), .int (gv S 200 35), va_re ad (gr S 200 36), .int (gv S 200 37), .int (gv S 200 38), .int (gv S 200 39), .int (gv S 200 40), .int (gv S 200 41), .int (gv S 200 42), .int (gv S 200 43), .int (gv S 200 44), .long (gl S 200), va_re ad (gr S 200 46), .int (gv S 200 47), .int (gv S 200 48), va_re ad (gr S 200 49), va_re ad (gr S 200 50), va_re ad (gr S 200 51), va_re ad (gr S 200 52), va_re ad (gr S 200 53), .int (gv S 200 54), .int (gv S 200 55), va_re ad (gr S 200 56), va_re ad (gr S 200 57), va_re ad (gr S 200 58), va_re ad (gr S 200 59), va_re ad (gr S 200 60), va_re ad (gr S 200 61), va_re ad (gr S 200 62), va_re ad (gr S 200 63), va_re ad (gr S 200 64), va_re ad (gr S 200 65), va_re ad (gr S 200 66)] : List Value).set 57 (.ref (ad x))) := by
  show kcD g ad 200 _ (up2 S.2.1 200 57 (some x) 200) _ = _
  rw [up2_at]
  rfl
theorem dr_200_58 {g : Cx} {ad : Nat → Nat} {S : St} {x : Nat} : cellD g ad (sr S 200 58 (some x)) 200 = .inr (11, ([.int (gv S 200 0), .int (gv S 200 1), va_re ad (gr S 200 2), va_re ad (gr S 200 3), va_re ad (gr S 200 4), va_re ad (gr S 200 5), va_re ad (gr S 200 6), .int (gv S 200 7), va_re ad (gr S 200 8), va_re ad (gr S 200 9), .int (gv S 200 10), va_re ad (gr S 200 11), va_re ad (gr S 200 12), va_re ad (gr S 200 13), va_re ad (gr S 200 14), va_re ad (gr S 200 15), va_re ad (gr S 200 16), va_re ad (gr S 200 17), va_re ad (gr S 200 18), va_re ad (gr S 200 19), va_re ad (gr S 200 20), va_re ad (gr S 200 21), va_re ad (gr S 200 22), va_re ad (gr S 200 23), va_re ad (gr S 200 24), va_re ad (gr S 200 25), va_re ad (gr S 200 26), va_re ad (gr S 200 27), va_re ad (gr S 200 28), va_re ad (gr S 200 29), va_re ad (gr S 200 30), va_re ad (gr S 200 31), va_re ad (gr S 200 32), .int (gv S 200 33), .int (gv S 200 34), .int (gv S 200 35), va_re ad (gr S 200 36), .int (gv S 200 37), .int (gv S 200 38), .int (gv S 200 39), .int (gv S 200 40), .int (gv S 200 41), .int (gv S 200 42), .int (gv S 200 43), .int (gv S 200 44), .long (gl S 200), va_re ad (gr S 200 46), .int (gv S 200 47), .int (gv S 200 48), va_re ad (gr S 200 49), va_re ad (gr S 200 50), va_re ad (gr S 200 51), va_re ad (gr S 200 52), va_re ad (gr S 200 53), .int (gv S 200 54), .int (gv S 200 55), va_re ad (gr S 200 56), va_re ad (gr S 200 57), va_re ad (gr S 200 58), va_re ad (gr S 200 59), va_re ad (gr S 200 60), va_re ad (gr S 200 61), va_re ad (gr S 200 62), va_re ad (gr S 200 63), va_re ad (gr S 200 64), va_re ad (gr S 200 65), va_re ad (gr S 200 66)] : List Value).set 58 (.ref (ad x))) := by
  show kcD g ad 200 _ (up2 S.2.1 200 58 (some x) 200) _ = _
  rw [up2_at]
  rfl
theorem dr_200_59 {g : Cx} {ad : Nat → Nat} {S : St} {x : Nat} : cellD g ad (sr S 200 59 (some x)) 200 = .inr (11, ([.int (gv S 200 0), .int (gv S 200 1), va_re ad (gr S 200 2), va_re ad (gr S 200 3), va_re ad (gr S 200 4), va_re ad (gr S 200 5), va_re ad (gr S 200 6), .int (gv S 200 7), va_re ad (gr S 200 8), va_re ad (gr S 200 9), .int (gv S 200 10), va_re ad (gr S 200 11), va_re ad (gr S 200 12), va_re ad (gr S 200 13), va_re ad (gr S 200 14), va_re ad (gr S 200 15), va_re ad (gr S 200 16), va_re ad (gr S 200 17), va_re ad (gr S 200 18), va_re ad (gr S 200 19), va_re ad (gr S 200 20), va_re ad (gr S 200 21), va_re ad (gr S 200 22), va_re ad (gr S 200 23), va_re ad (gr S 200 24), va_re ad (gr S 200 25), va_re ad (gr S 200 26), va_re ad (gr S 200 27), va_re ad (gr S 200 28), va_re ad (gr S 200 29), va_re ad (gr S 200 30), va_re ad (gr S 200 31), va_re ad (gr S 200 32), .int (gv S 200 33), .int (gv S 200 34), .int (gv S 200 35), va_re ad (gr S 200 36), .int (gv S 200 37), .int (gv S 200 38), .int (gv S 200 39), .int (gv S 200 40), .int (gv S 200 41), .int (gv S 200 42), .int (gv S 200 43), .int (gv S 200 44), .long (gl S 200), va_re ad (gr S 200 46), .int (gv S 200 47), .int (gv S 200 48), va_re ad (gr S 200 49), va_re ad (gr S 200 50), va_re ad (gr S 200 51), va_re ad (gr S 200 52), va_re ad (gr S 200 53), .int (gv S 200 54), .int (gv S 200 55), va_re ad (gr S 200 56), va_re ad (gr S 200 57), va_re ad (gr S 200 58), va_re ad (gr S 200 59), va_re ad (gr S 200 60), va_re ad (gr S 200 61), va_re ad (gr S 200 62), va_re ad (gr S 200 63), va_re ad (gr S 200 64), va_re ad (gr S 200 65), va_re ad (gr S 200 66)] : List Value).set 59 (.ref (ad x))) := by
  show kcD g ad 200 _ (up2 S.2.1 200 59 (some x) 200) _ = _
  rw [up2_at]
  rfl
theorem dr_200_60 {g : Cx} {ad : Nat → Nat} {S : St} {x : Nat} : cellD g ad (sr S 200 60 (some x)) 200 = .inr (11, ([.int (gv S 200 0), .int (gv S 200 1), va_re ad (gr S 200 2), va_re ad (gr S 200 3), va_re ad (gr S 200 4), va_re ad (gr S 200 5), va_re ad (gr S 200 6), .int (gv S 200 7), va_re ad (gr S 200 8), va_re ad (gr S 200 9), .int (gv S 200 10), va_re ad (gr S 200 11), va_re ad (gr S 200 12), va_re ad (gr S 200 13), va_re ad (gr S 200 14), va_re ad (gr S 200 15), va_re ad (gr S 200 16), va_re ad (gr S 200 17), va_re ad (gr S 200 18), va_re ad (gr S 200 19), va_re ad (gr S 200 20), va_re ad (gr S 200 21), va_re ad (gr S 200 22), va_re ad (gr S 200 23), va_re ad (gr S 200 24), va_re ad (gr S 200 25), va_re ad (gr S 200 26), va_re ad (gr S 200 27), va_re ad (gr S 200 28), va_re ad (gr S 200 29), va_re ad (gr S 200 30), va_re ad (gr S 200 31), va_re ad (gr S 200 32), .int (gv S 200 33), .int (gv S 200 34), .int (gv S 200 35), va_re ad (gr S 200 36), .int (gv S 200 37), .int (gv S 200 38), .int (gv S 200 39), .int (gv S 200 40), .int (gv S 200 41), .int (gv S 200 42), .int (gv S 200 43), .int (gv S 200 44), .long (gl S 200), va_re ad (gr S 200 46), .int (gv S 200 47), .int (gv S 200 48), va_re ad (gr S 200 49), va_re ad (gr S 200 50), va_re ad (gr S 200 51), va_re ad (gr S 200 52), va_re ad (gr S 200 53), .int (gv S 200 54), .int (gv S 200 55), va_re ad (gr S 200 56), va_re ad (gr S 200 57), va_re ad (gr S 200 58), va_re ad (gr S 200 59), va_re ad (gr S 200 60), va_re ad (gr S 200 61), va_re ad (gr S 200 62), va_re ad (gr S 200 63), va_re ad (gr S 200 64), va_re ad (gr S 200 65), va_re ad (gr S 200 66)] : List Value).set 60 (.ref (ad x))) := by
  show kcD g ad 200 _ (up2 S.2.1 200 60 (some x) 200) _ = _
  rw [up2_at]
  rfl
theorem dr_200_61 {g : Cx} {ad : Nat → Nat} {S : St} {x : Nat} : cellD g ad (sr S 200 61 (some x)) 200 = .inr (11, ([.int (gv S 200 0), .int (gv S 200 1), va_re ad (gr S 200 2), va_re ad (gr S 200 3), va_re ad (gr S 200 4), va_re ad (gr S 200 5), va_re ad (gr S 200 6), .int (gv S 200 7), va_re ad (gr S 200 8), va_re ad (gr S 200 9), .int (gv S 200 10), va_re ad (gr S 200 11), va_re ad (gr S 200 12), va_re ad (gr S 200 13), va_re ad (gr S 200 14), va_re ad (gr S 200 15), va_re ad (gr S 200 16), va_re ad (gr S 200 17), va_re ad (gr S 200 18), va_re ad (gr S 200 19), va_re ad (gr S 200 20), va_re ad (gr S 200 21), va_re ad (gr S 200 22), va_re ad (gr S 200 23), va_re ad (gr S 200 24), va_re ad (gr S 200 25), va_re ad (gr S 200 26), va_re ad (gr S 200 27), va_re ad (gr S 200 28), va_re ad (gr S 200 29), va_re ad (gr S 200 30), va_re ad (gr S 200 31), va_re ad (gr S 200 32), .int (gv S 200 33), .int (gv S 200 34), .int (gv S 200 35), va_re ad (gr S 200 36), .int (gv S 200 37), .int (gv S 200 38), .int (gv S 200 39), .int (gv S 200 40), .int (gv S 200 41), .int (gv S 200 42), .int (gv S 200 43), .int (gv S 200 44), .long (gl S 200), va_re ad (gr S 200 46), .int (gv S 200 47), .int (gv S 200 48), va_re ad (gr S 200 49), va_re ad (gr S 200 50), va_re ad (gr S 200 51), va_re ad (gr S 200 52), va_re ad (gr S 200 53), .int (gv S 200 54), .int (gv S 200 55), va_re ad (gr S 200 56), va_re ad (gr S 200 57), va_re ad (gr S 200 58), va_re ad (gr S 200 59), va_re ad (gr S 200 60), va_re ad (gr S 200 61), va_re ad (gr S 200 62), va_re ad (gr S 200 63), va_re ad (gr S 200 64), va_re ad (gr S 200 65), va_re ad (gr S 200 66)] : List Value).set 61 (.ref (ad x))) := by
  show kcD g ad 200 _ (up2 S.2.1 200 61 (some x) 200) _ = _
  rw [up2_at]
  rfl
theorem dr_200_62 {g : Cx} {ad : Nat → Nat} {S : St} {x : Nat} : cellD g ad (sr S 200 62 (some x)) 200 = .inr (11, ([.int (gv S 200 0), .int (gv S 200 1), va_re ad (gr S 200 2), va_re ad (gr S 200 3), va_re ad (gr S 200 4), va_re ad (gr S 200 5), va_re ad (gr S 200 6), .int (gv S 200 7), va_re ad (gr S 200 8), va_re ad (gr S 200 9), .int (gv S 200 10), va_re ad (gr S 200 11), va_re ad (gr S 200 12), va_re ad (gr S 200 13), va_re ad (gr S 200 14), va_re ad (gr S 200 15), va_re ad (gr S 200 16), va_re ad (gr S 200 17), va_re ad (gr S 200 18), va_re ad (gr S 200 19), va_re ad (gr S 200 20), va_re ad (gr S 200 21), va_re ad (gr S 200 22), va_re ad (gr S 200 23), va_re ad (gr S 200 24), va_re ad (gr S 200 25), va_re ad (gr S 200 26), va_re ad (gr S 200 27), va_re ad (gr S 200 28), va_re ad (gr S 200 29), va_re ad (gr S 200 30), va_re ad (gr S 200 31), va_re ad (gr S 200 32), .int (gv S 200 33), .int (gv S 200 34), .int (gv S 200 35), va_re ad (gr S 200 36), .int (gv S 200 37), .int (gv S 200 38), .int (gv S 200 39), .int (gv S 200 40), .int (gv S 200 41), .int (gv S 200 42), .int (gv S 200 43), .int (gv S 200 44), .long (gl S 200), va_re ad (gr S 200 46), .int (gv S 200 47), .int (gv S 200 48), va_re ad (gr S 200 49), va_re ad (gr S 200 50), va_re ad (gr S 200 51), va_re ad (gr S 200 52), va_re ad (gr S 200 53), .int (gv S 200 54), .int (gv S 200 55), va_re ad (gr S 200 56), va_re ad (gr S 200 57), va_re ad (gr S 200 58), va_re ad (gr S 200 59), va_re ad (gr S 200 60), va_re ad (gr S 200 61), va_re ad (gr S 200 62), va_re ad (gr S 200 63), va_re ad (gr S 200 64), va_re ad (gr S 200 65), va_re ad (gr S 200 66)] : List Value).set 62 (.ref (ad x))) := by
  show kcD g ad 200 _ (up2 S.2.1 200 62 (some x) 200) _ = _
  rw [up2_at]
  rfl
theorem dr_200_63 {g : Cx} {ad : Nat → Nat} {S : St} {x : Nat} : cellD g ad (sr S 200 63 (some x)) 200 = .inr (11, ([.int (gv S 200 0), .int (gv S 200 1), va_re ad (gr S 200 2), va_re ad (gr S 200 3), va_re ad (gr S 200 4), va_re ad (gr S 200 5), va_re ad (gr S 200 6), .int (gv S 200 7), va_re ad (gr S 200 8), va_re ad (gr S 200 9), .int (gv S 200 10), va_re ad (gr S 200 11), va_re ad (gr S 200 12), va_re ad (gr S 200 13), va_re ad (gr S 200 14), va_re ad (gr S 200 15), va_re ad (gr S 200 16), va_re ad (gr S 200 17), va_re ad (gr S 200 18), va_re ad (gr S 200 19), va_re ad (gr S 200 20), va_re ad (gr S 200 21), va_re ad (gr S 200 22), va_re ad (gr S 200 23), va_re ad (gr S 200 24), va_re ad (gr S 200 25), va_re ad (gr S 200 26), va_re ad (gr S 200 27), va_re ad (gr S 200 28), va_re ad (gr S 200 29), va_re ad (gr S 200 30), va_re ad (gr S 200 31), va_re ad (gr S 200 32), .int (gv S 200 33), .int (gv S 200 34), .int (gv S 200 35), va_re ad (gr S 200 36), .int (gv S 200 37), .int (gv S 200 38), .int (gv S 200 39), .int (gv S 200 40), .int (gv S 200 41), .int (gv S 200 42), .int (gv S 200 43), .int (gv S 200 44), .long (gl S 200), va_re ad (gr S 200 46), .int (gv S 200 47), .int (gv S 200 48), va_re ad (gr S 200 49), va_re ad (gr S 200 50), va_re ad (gr S 200 51), va_re ad (gr S 200 52), va_re ad (gr S 200 53), .int (gv S 200 54), .int (gv S 200 55), va_re ad (gr S 200 56), va_re ad (gr S 200 57), va_re ad (gr S 200 58), va_re ad (gr S 200 59), va_re ad (gr S 200 60), va_re ad (gr S 200 61), va_re ad (gr S 200 62), va_re ad (gr S 200 63), va_re ad (gr S 200 64), va_re ad (gr S 200 65), va_re ad (gr S 200 66)] : List Value).set 63 (.ref (ad x))) := by
  show kcD g ad 200 _ (up2 S.2.1 200 63 (some x) 200) _ = _
  rw [up2_at]
  rfl
theorem dr_200_64 {g : Cx} {ad : Nat → Nat} {S : St} {x : Nat} : cellD g ad (sr S 200 64 (some x)) 200 = .inr (11, ([.int (gv S 200 0), .int (gv S 200 1), va_re ad (gr S 200 2), va_re ad (gr S 200 3), va_re ad (gr S 200 4), va_re ad (gr S 200 5), va_re ad (gr S 200 6), .int (gv S 200 7), va_re ad (gr S 200 8), va_re ad (gr S 200 9), .int (gv S 200 10), va_re ad (gr S 200 11), va_re ad (gr S 200 12), va_re ad (gr S 200 13), va_re ad (gr S 200 14), va_re ad (gr S 200 15), va_re ad (gr S 200 16), va_re ad (gr S 200 17), va_re ad (gr S 200 18), va_re ad (gr S 200 19), va_re ad (gr S 200 20), va_re ad (gr S 200 21), va_re ad (gr S 200 22), va_re ad (gr S 200 23), va_re ad (gr S 200 24), va_re ad (gr S 200 25), va_re ad (gr S 200 26), va_re ad (gr S 200 27), va_re ad (gr S 200 28), va_re ad (gr S 200 29), va_re ad (gr S 200 30), va_re ad (gr S 200 31), va_re ad (gr S 200 32), .int (gv S 200 33), .int (gv S 200 34), .int (gv S 200 35), va_re ad (gr S 200 36), .int (gv S 200 37), .int (gv S 200 38), .int (gv S 200 39), .int (gv S 200 40), .int (gv S 200 41), .int (gv S 200 42), .int (gv S 200 43), .int (gv S 200 44), .long (gl S 200), va_re ad (gr S 200 46), .int (gv S 200 47), .int (gv S 200 48), va_re ad (gr S 200 49), va_re ad (gr S 200 50), va_re ad (gr S 200 51), va_re ad (gr S 200 52), va_re ad (gr S 200 53), .int (gv S 200 54), .int (gv S 200 55), va_re ad (gr S 200 56), va_re ad (gr S 200 57), va_re ad (gr S 200 58), va_re ad (gr S 200 59), va_re ad (gr S 200 60), va_re ad (gr S 200 61), va_re ad (gr S 200 62), va_re ad (gr S 200 63), va_re ad (gr S 200 64), va_re ad (gr S 200 65), va_re ad (gr S 200 66)] : List Value).set 64 (.ref (ad x))) := by
  show kcD g ad 200 _ (up2 S.2.1 200 64 (some x) 200) _ = _
  rw [up2_at]
  rfl
theorem dr_200_65 {g : Cx} {ad : Nat → Nat} {S : St} {x : Nat} : cellD g ad (sr S 200 65 (some x)) 200 = .inr (11, ([.int (gv S 200 0), .int (gv S 200 1), va_re ad (gr S 200 2), va_re ad (gr S 200 3), va_re ad (gr S 200 4), va_re ad (gr S 200 5), va_re ad (gr S 200 6), .int (gv S 200 7), va_re ad (gr S 200 8), va_re ad (gr S 200 9), .int (gv S 200 10), va_re ad (gr S 200 11), va_re ad (gr S 200 12), va_re ad (gr S 200 13), va_re ad (gr S 200 14), va_re ad (gr S 200 15), va_re ad (gr S 200 16), va_re ad (gr S 200 17), va_re ad (gr S 200 18), va_re ad (gr S 200 19), va_re ad (gr S 200 20), va_re ad (gr S 200 21), va_re ad (gr S 200 22), va_re ad (gr S 200 23), va_re ad (gr S 200 24), va_re ad (gr S 200 25), va_re ad (gr S 200 26), va_re ad (gr S 200 27), va_re ad (gr S 200 28), va_re ad (gr S 200 29), va_re ad (gr S 200 30), va_re ad (gr S 200 31), va_re ad (gr S 200 32), .int (gv S 200 33), .int (gv S 200 34), .int (gv S 200 35), va_re ad (gr S 200 36), .int (gv S 200 37), .int (gv S 200 38), .int (gv S 200 39), .int (gv S 200 40), .int (gv S 200 41), .int (gv S 200 42), .int (gv S 200 43), .int (gv S 200 44), .long (gl S 200), va_re ad (gr S 200 46), .int (gv S 200 47), .int (gv S 200 48), va_re ad (gr S 200 49), va_re ad (gr S 200 50), va_re ad (gr S 200 51), va_re ad (gr S 200 52), va_re ad (gr S 200 53), .int (gv S 200 54), .int (gv S 200 55), va_re ad (gr S 200 56), va_re ad (gr S 200 57), va_re ad (gr S 200 58), va_re ad (gr S 200 59), va_re ad (gr S 200 60), va_re ad (gr S 200 61), va_re ad (gr S 200 62), va_re ad (gr S 200 63), va_re ad (gr S 200 64), va_re ad (gr S 200 65), va_re ad (gr S 200 66)] : List Value).set 65 (.ref (ad x))) := by
  show kcD g ad 200 _ (up2 S.2.1 200 65 (some x) 200) _ = _
  rw [up2_at]
  rfl
theorem dr_200_66 {g : Cx} {ad : Nat → Nat} {S : St} {x : Nat} : cellD g ad (sr S 200 66 (some x)) 200 = .inr (11, ([.int (gv S 200 0), .int (gv S 200 1), va_re ad (gr S 200 2), va_re ad (gr S 200 3), va_re ad (gr S 200 4), va_re ad (gr S 200 5), va_re ad (gr S 200 6), .int (gv S 200 7), va_re ad (gr S 200 8), va_re ad (gr S 200 9), .int (gv S 200 10), va_re ad (gr S 200 11), va_re ad (gr S 200 12), va_re ad (gr S 200 13), va_re ad (gr S 200 14), va_re ad (gr S 200 15), va_re ad (gr S 200 16), va_re ad (gr S 200 17), va_re ad (gr S 200 18), va_re ad (gr S 200 19), va_re ad (gr S 200 20), va_re ad (gr S 200 21), va_re ad (gr S 200 22), va_re ad (gr S 200 23), va_re ad (gr S 200 24), va_re ad (gr S 200 25), va_re ad (gr S 200 26), va_re ad (gr S 200 27), va_re ad (gr S 200 28), va_re ad (gr S 200 29), va_re ad (gr S 200 30), va_re ad (gr S 200 31), va_re ad (gr S 200 32), .int (gv S 200 33), .int (gv S 200 34), .int (gv S 200 35), va_re ad (gr S 200 36), .int (gv S 200 37), .int (gv S 200 38), .int (gv S 200 39), .int (gv S 200 40), .int (gv S 200 41), .int (gv S 200 42), .int (gv S 200 43), .int (gv S 200 44), .long (gl S 200), va_re ad (gr S 200 46), .int (gv S 200 47), .int (gv S 200 48), va_re ad (gr S 200 49), va_re ad (gr S 200 50), va_re ad (gr S 200 51), va_re ad (gr S 200 52), va_re ad (gr S 200 53), .int (gv S 200 54), .int (gv S 200 55), va_re ad (gr S 200 56), va_re ad (gr S 200 57), va_re ad (gr S 200 58), va_re ad (gr S 200 59), va_re ad (gr S 200 60), va_re ad (gr S 200 61), va_re ad (gr S 200 62), va_re ad (gr S 200 63), va_re ad (gr S 200 64), va_re ad (gr S 200 65), va_re ad (gr S 200 66)] : List Value).set 66 (.ref (ad x))) := by
  show kcD g ad 200 _ (up2 S.2.1 200 66 (some x) 200) _ = _
  rw [up2_at]
  rfl
theorem cD_herd {g : Cx} {ad : Nat → Nat} {S : St} {o : Nat} (h1 : 60 ≤ o) (h2 : o < 66) : cellD g ad S o = .inr (1, [.int (gv S o 0), .int (gv S o 1), .int (gv S o 2), .int (gv S o 3), .int (gv S o 4), .int (gv S o 5), va_re ad (gr S o 6), .int (gv S o 7), .int (gv S o 8), .int (gv S o 9), .int (gv S o 10), .int (gv S o 11)]) := by
  unfold cellD kcD
  rw [if_neg (by omega), if_pos (by omega)]
  rfl
theorem zD_herd {g : Cx} {ad : Nat → Nat} {S : St} {o : Nat} (h1 : 60 ≤ o) (h2 : o < 66) : cellD g ad (zr S o) o = .inr (1, [.int 0, .int 0, .int 0, .int 0, .int 0, .int 0, .null, .int 0, .int 0, .int 0, .int 0, .int 0]) := by
  rw [cD_herd h1 h2]
  simp [gv, gr, zr, va_re, va_rf]
theorem dv_herd_0 {g : Cx} {ad : Nat → Nat} {S : St} {x : Int32} {o : Nat} (h1 : 60 ≤ o) (h2 : o < 66) : cellD g ad (sv S o 0 x) o = .inr (1, ([.int (gv S o 0), .int (gv S o 1), .int (gv S o 2), .int (gv S o 3), .int (gv S o 4), .int (gv S o 5), va_re ad (gr S o 6), .int (gv S o 7), .int (gv S o 8), .int (gv S o 9), .int (gv S o 10), .int (gv S o 11)] : List Value).set 0 (.int x)) := by
  show kcD g ad o (up2 S.1 o 0 x o) _ _ = _
  rw [up2_at]
  unfold kcD
  rw [if_neg (by omega), if_pos (by omega)]
  rfl
theorem dv_herd_1 {g : Cx} {ad : Nat → Nat} {S : St} {x : Int32} {o : Nat} (h1 : 60 ≤ o) (h2 : o < 66) : cellD g ad (sv S o 1 x) o = .inr (1, ([.int (gv S o 0), .int (gv S o 1), .int (gv S o 2), .int (gv S o 3), .int (gv S o 4), .int (gv S o 5), va_re ad (gr S o 6), .int (gv S o 7), .int (gv S o 8), .int (gv S o 9), .int (gv S o 10), .int (gv S o 11)] : List Value).set 1 (.int x)) := by
  show kcD g ad o (up2 S.1 o 1 x o) _ _ = _
  rw [up2_at]
  unfold kcD
  rw [if_neg (by omega), if_pos (by omega)]
  rfl
theorem dv_herd_2 {g : Cx} {ad : Nat → Nat} {S : St} {x : Int32} {o : Nat} (h1 : 60 ≤ o) (h2 : o < 66) : cellD g ad (sv S o 2 x) o = .inr (1, ([.int (gv S o 0), .int (gv S o 1), .int (gv S o 2), .int (gv S o 3), .int (gv S o 4), .int (gv S o 5), va_re ad (gr S o 6), .int (gv S o 7), .int (gv S o 8), .int (gv S o 9), .int (gv S o 10), .int (gv S o 11)] : List Value).set 2 (.int x)) := by
  show kcD g ad o (up2 S.1 o 2 x o) _ _ = _
  rw [up2_at]
  unfold kcD
  rw [if_neg (by omega), if_pos (by omega)]
  rfl
theorem dv_herd_3 {g : Cx} {ad : Nat → Nat} {S : St} {x : Int32} {o : Nat} (h1 : 60 ≤ o) (h2 : o < 66) : cellD g ad (sv S o 3 x) o = .inr (1, ([.int (gv S o 0), .int (gv S o 1), .int (gv S o 2), .int (gv S o 3), .int (gv S o 4), .int (gv S o 5), va_re ad (gr S o 6), .int (gv S o 7), .int (gv S o 8), .int (gv S o 9), .int (gv S o 10), .int (gv S o 11)] : List Value).set 3 (.int x)) := by
  show kcD g ad o (up2 S.1 o 3 x o) _ _ = _
  rw [up2_at]
  unfold kcD
  rw [if_neg (by omega), if_pos (by omega)]
  rfl
theorem dv_herd_4 {g : Cx} {ad : Nat → Nat} {S : St} {x : Int32} {o : Nat} (h1 : 60 ≤ o) (h2 : o < 66) : cellD g ad (sv S o 4 x) o = .inr (1, ([.int (gv S o 0), .int (gv S o 1), .int (gv S o 2), .int (gv S o 3), .int (gv S o 4), .int (gv S o 5), va_re ad (gr S o 6), .int (gv S o 7), .int (gv S o 8), .int (gv S o 9), .int (gv S o 10), .int (gv S o 11)] : List Value).set 4 (.int x)) := by
  show kcD g ad o (up2 S.1 o 4 x o) _ _ = _
  rw [up2_at]
  unfold kcD
  rw [if_neg (by omega), if_pos (by omega)]
  rfl
theorem dv_herd_5 {g : Cx} {ad : Nat → Nat} {S : St} {x : Int32} {o : Nat} (h1 : 60 ≤ o) (h2 : o < 66) : cellD g ad (sv S o 5 x) o = .inr (1, ([.int (gv S o 0), .int (gv S o 1), .int (gv S o 2), .int (gv S o 3), .int (gv S o 4), .int (gv S o 5), va_re ad (gr S o 6), .int (gv S o 7), .int (gv S o 8), .int (gv S o 9), .int (gv S o 10), .int (gv S o 11)] : List Value).set 5 (.int x)) := by
  show kcD g ad o (up2 S.1 o 5 x o) _ _ = _
  rw [up2_at]
  unfold kcD
  rw [if_neg (by omega), if_pos (by omega)]
  rfl
theorem dr_herd_6 {g : Cx} {ad : Nat → Nat} {S : St} {x : Nat} {o : Nat} (h1 : 60 ≤ o) (h2 : o < 66) : cellD g ad (sr S o 6 (some x)) o = .inr (1, ([.int (gv S o 0), .int (gv S o 1), .int (gv S o 2), .int (gv S o 3), .int (gv S o 4), .int (gv S o 5), va_re ad (gr S o 6), .int (gv S o 7), .int (gv S o 8), .int (gv S o 9), .int (gv S o 10), .int (gv S o 11)] : List Value).set 6 (.ref (ad x))) := by
  show kcD g ad o _ (up2 S.2.1 o 6 (some x) o) _ = _
  rw [up2_at]
  unfold kcD
  rw [if_neg (by omega), if_pos (by omega)]
  rfl
theorem dv_herd_7 {g : Cx} {ad : Nat → Nat} {S : St} {x : Int32} {o : Nat} (h1 : 60 ≤ o) (h2 : o < 66) : cellD g ad (sv S o 7 x) o = .inr (1, ([.int (gv S o 0), .int (gv S o 1), .int (gv S o 2), .int (gv S o 3), .int (gv S o 4), .int (gv S o 5), va_re ad (gr S o 6), .int (gv S o 7), .int (gv S o 8), .int (gv S o 9), .int (gv S o 10), .int (gv S o 11)] : List Value).set 7 (.int x)) := by
  show kcD g ad o (up2 S.1 o 7 x o) _ _ = _
  rw [up2_at]
  unfold kcD
  rw [if_neg (by omega), if_pos (by omega)]
  rfl
theorem dv_herd_8 {g : Cx} {ad : Nat → Nat} {S : St} {x : Int32} {o : Nat} (h1 : 60 ≤ o) (h2 : o < 66) : cellD g ad (sv S o 8 x) o = .inr (1, ([.int (gv S o 0), .int (gv S o 1), .int (gv S o 2), .int (gv S o 3), .int (gv S o 4), .int (gv S o 5), va_re ad (gr S o 6), .int (gv S o 7), .int (gv S o 8), .int (gv S o 9), .int (gv S o 10), .int (gv S o 11)] : List Value).set 8 (.int x)) := by
  show kcD g ad o (up2 S.1 o 8 x o) _ _ = _
  rw [up2_at]
  unfold kcD
  rw [if_neg (by omega), if_pos (by omega)]
  rfl
theorem dv_herd_9 {g : Cx} {ad : Nat → Nat} {S : St} {x : Int32} {o : Nat} (h1 : 60 ≤ o) (h2 : o < 66) : cellD g ad (sv S o 9 x) o = .inr (1, ([.int (gv S o 0), .int (gv S o 1), .int (gv S o 2), .int (gv S o 3), .int (gv S o 4), .int (gv S o 5), va_re ad (gr S o 6), .int (gv S o 7), .int (gv S o 8), .int (gv S o 9), .int (gv S o 10), .int (gv S o 11)] : List Value).set 9 (.int x)) := by
  show kcD g ad o (up2 S.1 o 9 x o) _ _ = _
  rw [up2_at]
  unfold kcD
  rw [if_neg (by omega), if_pos (by omega)]
  rfl
theorem dv_herd_10 {g : Cx} {ad : Nat → Nat} {S : St} {x : Int32} {o : Nat} (h1 : 60 ≤ o) (h2 : o < 66) : cellD g ad (sv S o 10 x) o = .inr (1, ([.int (gv S o 0), .int (gv S o 1), .int (gv S o 2), .int (gv S o 3), .int (gv S o 4), .int (gv S o 5), va_re ad (gr S o 6), .int (gv S o 7), .int (gv S o 8), .int (gv S o 9), .int (gv S o 10), .int (gv S o 11)] : List Value).set 10 (.int x)) := by
  show kcD g ad o (up2 S.1 o 10 x o) _ _ = _
  rw [up2_at]
  unfold kcD
  rw [if_neg (by omega), if_pos (by omega)]
  rfl
theorem dv_herd_11 {g : Cx} {ad : Nat → Nat} {S : St} {x : Int32} {o : Nat} (h1 : 60 ≤ o) (h2 : o < 66) : cellD g ad (sv S o 11 x) o = .inr (1, ([.int (gv S o 0), .int (gv S o 1), .int (gv S o 2), .int (gv S o 3), .int (gv S o 4), .int (gv S o 5), va_re ad (gr S o 6), .int (gv S o 7), .int (gv S o 8), .int (gv S o 9), .int (gv S o 10), .int (gv S o 11)] : List Value).set 11 (.int x)) := by
  show kcD g ad o (up2 S.1 o 11 x o) _ _ = _
  rw [up2_at]
  unfold kcD
  rw [if_neg (by omega), if_pos (by omega)]
  rfl
theorem cD_ord {g : Cx} {ad : Nat → Nat} {S : St} {o : Nat} (h1 : 70 ≤ o) (h2 : o < 77) : cellD g ad S o = .inr (5, [va_re ad (gr S o 0), va_re ad (gr S o 1), va_re ad (gr S o 2), .int (gv S o 3), .int (gv S o 4)]) := by
  unfold cellD kcD
  rw [if_neg (by omega), if_neg (by omega), if_pos (by omega)]
  rfl
theorem zD_ord {g : Cx} {ad : Nat → Nat} {S : St} {o : Nat} (h1 : 70 ≤ o) (h2 : o < 77) : cellD g ad (zr S o) o = .inr (5, [.null, .null, .null, .int 0, .int 0]) := by
  rw [cD_ord h1 h2]
  simp [gv, gr, zr, va_re, va_rf]
theorem dr_ord_0 {g : Cx} {ad : Nat → Nat} {S : St} {x : Nat} {o : Nat} (h1 : 70 ≤ o) (h2 : o < 77) : cellD g ad (sr S o 0 (some x)) o = .inr (5, ([va_re ad (gr S o 0), va_re ad (gr S o 1), va_re ad (gr S o 2), .int (gv S o 3), .int (gv S o 4)] : List Value).set 0 (.ref (ad x))) := by
  show kcD g ad o _ (up2 S.2.1 o 0 (some x) o) _ = _
  rw [up2_at]
  unfold kcD
  rw [if_neg (by omega), if_neg (by omega), if_pos (by omega)]
  rfl
theorem dr_ord_1 {g : Cx} {ad : Nat → Nat} {S : St} {x : Nat} {o : Nat} (h1 : 70 ≤ o) (h2 : o < 77) : cellD g ad (sr S o 1 (some x)) o = .inr (5, ([va_re ad (gr S o 0), va_re ad (gr S o 1), va_re ad (gr S o 2), .int (gv S o 3), .int (gv S o 4)] : List Value).set 1 (.ref (ad x))) := by
  show kcD g ad o _ (up2 S.2.1 o 1 (some x) o) _ = _
  rw [up2_at]
  unfold kcD
  rw [if_neg (by omega), if_neg (by omega), if_pos (by omega)]
  rfl
theorem dr_ord_2 {g : Cx} {ad : Nat → Nat} {S : St} {x : Nat} {o : Nat} (h1 : 70 ≤ o) (h2 : o < 77) : cellD g ad (sr S o 2 (some x)) o = .inr (5, ([va_re ad (gr S o 0), va_re ad (gr S o 1), va_re ad (gr S o 2), .int (gv S o 3), .int (gv S o 4)] : List Value).set 2 (.ref (ad x))) := by
  show kcD g ad o _ (up2 S.2.1 o 2 (some x) o) _ = _
  rw [up2_at]
  unfold kcD
  rw [if_neg (by omega), if_neg (by omega), if_pos (by omega)]
  rfl
theorem dv_ord_3 {g : Cx} {ad : Nat → Nat} {S : St} {x : Int32} {o : Nat} (h1 : 70 ≤ o) (h2 : o < 77) : cellD g ad (sv S o 3 x) o = .inr (5, ([va_re ad (gr S o 0), va_re ad (gr S o 1), va_re ad (gr S o 2), .int (gv S o 3), .int (gv S o 4)] : List Value).set 3 (.int x)) := by
  show kcD g ad o (up2 S.1 o 3 x o) _ _ = _
  rw [up2_at]
  unfold kcD
  rw [if_neg (by omega), if_neg (by omega), if_pos (by omega)]
  rfl
theorem dv_ord_4 {g : Cx} {ad : Nat → Nat} {S : St} {x : Int32} {o : Nat} (h1 : 70 ≤ o) (h2 : o < 77) : cellD g ad (sv S o 4 x) o = .inr (5, ([va_re ad (gr S o 0), va_re ad (gr S o 1), va_re ad (gr S o 2), .int (gv S o 3), .int (gv S o 4)] : List Value).set 4 (.int x)) := by
  show kcD g ad o (up2 S.1 o 4 x o) _ _ = _
  rw [up2_at]
  unfold kcD
  rw [if_neg (by omega), if_neg (by omega), if_pos (by omega)]
  rfl
theorem cD_7 {g : Cx} {ad : Nat → Nat} {S : St} : cellD g ad S 7 = .inl (g.2.1, 500, .inl (S.1 7)) := rfl
theorem zD_7 {g : Cx} {ad : Nat → Nat} {S : St} : cellD g ad (zr S 7) 7 = .inl (g.2.1, 500, .inl (fun _ => 0)) := rfl
theorem cD_11 {g : Cx} {ad : Nat → Nat} {S : St} : cellD g ad S 11 = .inl (g.2.2.1, 10, .inl (S.1 11)) := rfl
theorem zD_11 {g : Cx} {ad : Nat → Nat} {S : St} : cellD g ad (zr S 11) 11 = .inl (g.2.2.1, 10, .inl (fun _ => 0)) := rfl
theorem cD_12 {g : Cx} {ad : Nat → Nat} {S : St} : cellD g ad S 12 = .inl (g.2.2.1, 10, .inl (S.1 12)) := rfl
theorem zD_12 {g : Cx} {ad : Nat → Nat} {S : St} : cellD g ad (zr S 12) 12 = .inl (g.2.2.1, 10, .inl (fun _ => 0)) := rfl
theorem cD_13 {g : Cx} {ad : Nat → Nat} {S : St} : cellD g ad S 13 = .inl (g.2.2.1, 10, .inl (S.1 13)) := rfl
theorem zD_13 {g : Cx} {ad : Nat → Nat} {S : St} : cellD g ad (zr S 13) 13 = .inl (g.2.2.1, 10, .inl (fun _ => 0)) := rfl
theorem cD_14 {g : Cx} {ad : Nat → Nat} {S : St} : cellD g ad S 14 = .inl (g.2.2.1, 10, .inl (S.1 14)) := rfl
theorem zD_14 {g : Cx} {ad : Nat → Nat} {S : St} : cellD g ad (zr S 14) 14 = .inl (g.2.2.1, 10, .inl (fun _ => 0)) := rfl
theorem cD_15 {g : Cx} {ad : Nat → Nat} {S : St} : cellD g ad S 15 = .inl (g.2.2.1, 10, .inl (S.1 15)) := rfl
theorem zD_15 {g : Cx} {ad : Nat → Nat} {S : St} : cellD g ad (zr S 15) 15 = .inl (g.2.2.1, 10, .inl (fun _ => 0)) := rfl
theorem cD_16 {g : Cx} {ad : Nat → Nat} {S : St} : cellD g ad S 16 = .inl (g.2.2.1, 10, .inl (S.1 16)) := rfl
theorem zD_16 {g : Cx} {ad : Nat → Nat} {S : St} : cellD g ad (zr S 16) 16 = .inl (g.2.2.1, 10, .inl (fun _ => 0)) := rfl
theorem cD_21 {g : Cx} {ad : Nat → Nat} {S : St} : cellD g ad S 21 = .inl (g.2.2.1, 30, .inl (S.1 21)) := rfl
theorem zD_21 {g : Cx} {ad : Nat → Nat} {S : St} : cellD g ad (zr S 21) 21 = .inl (g.2.2.1, 30, .inl (fun _ => 0)) := rfl
theorem cD_22 {g : Cx} {ad : Nat → Nat} {S : St} : cellD g ad S 22 = .inl (g.2.2.1, 30, .inl (S.1 22)) := rfl
theorem zD_22 {g : Cx} {ad : Nat → Nat} {S : St} : cellD g ad (zr S 22) 22 = .inl (g.2.2.1, 30, .inl (fun _ => 0)) := rfl
theorem cD_32 {g : Cx} {ad : Nat → Nat} {S : St} : cellD g ad S 32 = .inl (g.2.2.1, 20, .inl (S.1 32)) := rfl
theorem zD_32 {g : Cx} {ad : Nat → Nat} {S : St} : cellD g ad (zr S 32) 32 = .inl (g.2.2.1, 20, .inl (fun _ => 0)) := rfl
theorem cD_33 {g : Cx} {ad : Nat → Nat} {S : St} : cellD g ad S 33 = .inl (g.2.2.1, 20, .inl (S.1 33)) := rfl
theorem zD_33 {g : Cx} {ad : Nat → Nat} {S : St} : cellD g ad (zr S 33) 33 = .inl (g.2.2.1, 20, .inl (fun _ => 0)) := rfl
theorem cD_34 {g : Cx} {ad : Nat → Nat} {S : St} : cellD g ad S 34 = .inl (g.2.2.1, 20, .inl (S.1 34)) := rfl
theorem zD_34 {g : Cx} {ad : Nat → Nat} {S : St} : cellD g ad (zr S 34) 34 = .inl (g.2.2.1, 20, .inl (fun _ => 0)) := rfl
theorem cD_35 {g : Cx} {ad : Nat → Nat} {S : St} : cellD g ad S 35 = .inl (g.2.2.1, 20, .inl (S.1 35)) := rfl
theorem zD_35 {g : Cx} {ad : Nat → Nat} {S : St} : cellD g ad (zr S 35) 35 = .inl (g.2.2.1, 20, .inl (fun _ => 0)) := rfl
theorem cD_36 {g : Cx} {ad : Nat → Nat} {S : St} : cellD g ad S 36 = .inl (g.2.2.1, 20, .inl (S.1 36)) := rfl
theorem zD_36 {g : Cx} {ad : Nat → Nat} {S : St} : cellD g ad (zr S 36) 36 = .inl (g.2.2.1, 20, .inl (fun _ => 0)) := rfl
theorem cD_41 {g : Cx} {ad : Nat → Nat} {S : St} : cellD g ad S 41 = .inl (g.2.2.1, 60, .inl (S.1 41)) := rfl
theorem zD_41 {g : Cx} {ad : Nat → Nat} {S : St} : cellD g ad (zr S 41) 41 = .inl (g.2.2.1, 60, .inl (fun _ => 0)) := rfl
theorem cD_42 {g : Cx} {ad : Nat → Nat} {S : St} : cellD g ad S 42 = .inl (g.2.2.1, 60, .inl (S.1 42)) := rfl
theorem zD_42 {g : Cx} {ad : Nat → Nat} {S : St} : cellD g ad (zr S 42) 42 = .inl (g.2.2.1, 60, .inl (fun _ => 0)) := rfl
theorem cD_43 {g : Cx} {ad : Nat → Nat} {S : St} : cellD g ad S 43 = .inl (g.2.2.1, 60, .inl (S.1 43)) := rfl
theorem zD_43 {g : Cx} {ad : Nat → Nat} {S : St} : cellD g ad (zr S 43) 43 = .inl (g.2.2.1, 60, .inl (fun _ => 0)) := rfl
theorem cD_44 {g : Cx} {ad : Nat → Nat} {S : St} : cellD g ad S 44 = .inl (g.2.2.1, 60, .inl (S.1 44)) := rfl
theorem zD_44 {g : Cx} {ad : Nat → Nat} {S : St} : cellD g ad (zr S 44) 44 = .inl (g.2.2.1, 60, .inl (fun _ => 0)) := rfl
theorem cD_45 {g : Cx} {ad : Nat → Nat} {S : St} : cellD g ad S 45 = .inl (g.2.2.1, 60, .inl (S.1 45)) := rfl
theorem zD_45 {g : Cx} {ad : Nat → Nat} {S : St} : cellD g ad (zr S 45) 45 = .inl (g.2.2.1, 60, .inl (fun _ => 0)) := rfl
theorem cD_46 {g : Cx} {ad : Nat → Nat} {S : St} : cellD g ad S 46 = .inl (g.2.2.1, 60, .inl (S.1 46)) := rfl
theorem zD_46 {g : Cx} {ad : Nat → Nat} {S : St} : cellD g ad (zr S 46) 46 = .inl (g.2.2.1, 60, .inl (fun _ => 0)) := rfl
theorem cD_47 {g : Cx} {ad : Nat → Nat} {S : St} : cellD g ad S 47 = .inl (g.2.2.1, 60, .inl (S.1 47)) := rfl
theorem zD_47 {g : Cx} {ad : Nat → Nat} {S : St} : cellD g ad (zr S 47) 47 = .inl (g.2.2.1, 60, .inl (fun _ => 0)) := rfl
theorem cD_50 {g : Cx} {ad : Nat → Nat} {S : St} : cellD g ad S 50 = .inl (g.2.2.1, 9, .inl (S.1 50)) := rfl
theorem zD_50 {g : Cx} {ad : Nat → Nat} {S : St} : cellD g ad (zr S 50) 50 = .inl (g.2.2.1, 9, .inl (fun _ => 0)) := rfl
theorem cD_51 {g : Cx} {ad : Nat → Nat} {S : St} : cellD g ad S 51 = .inl (g.2.2.1, 80, .inl (S.1 51)) := rfl
theorem zD_51 {g : Cx} {ad : Nat → Nat} {S : St} : cellD g ad (zr S 51) 51 = .inl (g.2.2.1, 80, .inl (fun _ => 0)) := rfl
theorem cD_203 {g : Cx} {ad : Nat → Nat} {S : St} : cellD g ad S 203 = .inl (g.2.2.1, 10, .inl (S.1 203)) := rfl
theorem zD_203 {g : Cx} {ad : Nat → Nat} {S : St} : cellD g ad (zr S 203) 203 = .inl (g.2.2.1, 10, .inl (fun _ => 0)) := rfl
theorem cD_204 {g : Cx} {ad : Nat → Nat} {S : St} : cellD g ad S 204 = .inl (g.2.2.1, 10, .inl (S.1 204)) := rfl
theorem zD_204 {g : Cx} {ad : Nat → Nat} {S : St} : cellD g ad (zr S 204) 204 = .inl (g.2.2.1, 10, .inl (fun _ => 0)) := rfl
theorem cD_205 {g : Cx} {ad : Nat → Nat} {S : St} : cellD g ad S 205 = .inl (g.2.2.1, 10, .inl (S.1 205)) := rfl
theorem zD_205 {g : Cx} {ad : Nat → Nat} {S : St} : cellD g ad (zr S 205) 205 = .inl (g.2.2.1, 10, .inl (fun _ => 0)) := rfl
theorem cD_206 {g : Cx} {ad : Nat → Nat} {S : St} : cellD g ad S 206 = .inl (g.2.2.1, 10, .inl (S.1 206)) := rfl
theorem zD_206 {g : Cx} {ad : Nat → Nat} {S : St} : cellD g ad (zr S 206) 206 = .inl (g.2.2.1, 10, .inl (fun _ => 0)) := rfl
theorem cD_207 {g : Cx} {ad : Nat → Nat} {S : St} : cellD g ad S 207 = .inl (g.2.2.1, 10, .inl (S.1 207)) := rfl
theorem zD_207 {g : Cx} {ad : Nat → Nat} {S : St} : cellD g ad (zr S 207) 207 = .inl (g.2.2.1, 10, .inl (fun _ => 0)) := rfl
theorem cD_209 {g : Cx} {ad : Nat → Nat} {S : St} : cellD g ad S 209 = .inl (g.2.2.1, 30, .inl (S.1 209)) := rfl
theorem zD_209 {g : Cx} {ad : Nat → Nat} {S : St} : cellD g ad (zr S 209) 209 = .inl (g.2.2.1, 30, .inl (fun _ => 0)) := rfl
theorem cD_210 {g : Cx} {ad : Nat → Nat} {S : St} : cellD g ad S 210 = .inl (g.2.2.1, 30, .inl (S.1 210)) := rfl
theorem zD_210 {g : Cx} {ad : Nat → Nat} {S : St} : cellD g ad (zr S 210) 210 = .inl (g.2.2.1, 30, .inl (fun _ => 0)) := rfl
theorem cD_212 {g : Cx} {ad : Nat → Nat} {S : St} : cellD g ad S 212 = .inl (g.2.2.1, 6, .inl (S.1 212)) := rfl
theorem zD_212 {g : Cx} {ad : Nat → Nat} {S : St} : cellD g ad (zr S 212) 212 = .inl (g.2.2.1, 6, .inl (fun _ => 0)) := rfl
theorem cD_213 {g : Cx} {ad : Nat → Nat} {S : St} : cellD g ad S 213 = .inl (g.2.2.1, 6, .inl (S.1 213)) := rfl
theorem zD_213 {g : Cx} {ad : Nat → Nat} {S : St} : cellD g ad (zr S 213) 213 = .inl (g.2.2.1, 6, .inl (fun _ => 0)) := rfl
theorem cD_214 {g : Cx} {ad : Nat → Nat} {S : St} : cellD g ad S 214 = .inl (g.2.2.1, 6, .inl (S.1 214)) := rfl
theorem zD_214 {g : Cx} {ad : Nat → Nat} {S : St} : cellD g ad (zr S 214) 214 = .inl (g.2.2.1, 6, .inl (fun _ => 0)) := rfl
theorem cD_215 {g : Cx} {ad : Nat → Nat} {S : St} : cellD g ad S 215 = .inl (g.2.2.1, 6, .inl (S.1 215)) := rfl
theorem zD_215 {g : Cx} {ad : Nat → Nat} {S : St} : cellD g ad (zr S 215) 215 = .inl (g.2.2.1, 6, .inl (fun _ => 0)) := rfl
theorem cD_216 {g : Cx} {ad : Nat → Nat} {S : St} : cellD g ad S 216 = .inl (g.2.2.1, 6, .inl (S.1 216)) := rfl
theorem zD_216 {g : Cx} {ad : Nat → Nat} {S : St} : cellD g ad (zr S 216) 216 = .inl (g.2.2.1, 6, .inl (fun _ => 0)) := rfl
theorem cD_217 {g : Cx} {ad : Nat → Nat} {S : St} : cellD g ad S 217 = .inl (g.2.2.1, 6, .inl (S.1 217)) := rfl
theorem zD_217 {g : Cx} {ad : Nat → Nat} {S : St} : cellD g ad (zr S 217) 217 = .inl (g.2.2.1, 6, .inl (fun _ => 0)) := rfl
theorem cD_218 {g : Cx} {ad : Nat → Nat} {S : St} : cellD g ad S 218 = .inl (g.2.2.1, 6, .inl (S.1 218)) := rfl
theorem zD_218 {g : Cx} {ad : Nat → Nat} {S : St} : cellD g ad (zr S 218) 218 = .inl (g.2.2.1, 6, .inl (fun _ => 0)) := rfl
theorem cD_219 {g : Cx} {ad : Nat → Nat} {S : St} : cellD g ad S 219 = .inl (g.2.2.1, 6, .inl (S.1 219)) := rfl
theorem zD_219 {g : Cx} {ad : Nat → Nat} {S : St} : cellD g ad (zr S 219) 219 = .inl (g.2.2.1, 6, .inl (fun _ => 0)) := rfl
theorem cD_220 {g : Cx} {ad : Nat → Nat} {S : St} : cellD g ad S 220 = .inl (g.2.2.1, 6, .inl (S.1 220)) := rfl
theorem zD_220 {g : Cx} {ad : Nat → Nat} {S : St} : cellD g ad (zr S 220) 220 = .inl (g.2.2.1, 6, .inl (fun _ => 0)) := rfl
theorem cD_221 {g : Cx} {ad : Nat → Nat} {S : St} : cellD g ad S 221 = .inl (g.2.2.1, 6, .inl (S.1 221)) := rfl
theorem zD_221 {g : Cx} {ad : Nat → Nat} {S : St} : cellD g ad (zr S 221) 221 = .inl (g.2.2.1, 6, .inl (fun _ => 0)) := rfl
theorem cD_222 {g : Cx} {ad : Nat → Nat} {S : St} : cellD g ad S 222 = .inl (g.2.2.1, 6, .inl (S.1 222)) := rfl
theorem zD_222 {g : Cx} {ad : Nat → Nat} {S : St} : cellD g ad (zr S 222) 222 = .inl (g.2.2.1, 6, .inl (fun _ => 0)) := rfl
theorem cD_223 {g : Cx} {ad : Nat → Nat} {S : St} : cellD g ad S 223 = .inl (g.2.2.1, 3000, .inl (S.1 223)) := rfl
theorem zD_223 {g : Cx} {ad : Nat → Nat} {S : St} : cellD g ad (zr S 223) 223 = .inl (g.2.2.1, 3000, .inl (fun _ => 0)) := rfl
theorem cD_224 {g : Cx} {ad : Nat → Nat} {S : St} : cellD g ad S 224 = .inl (g.2.2.1, 3000, .inl (S.1 224)) := rfl
theorem zD_224 {g : Cx} {ad : Nat → Nat} {S : St} : cellD g ad (zr S 224) 224 = .inl (g.2.2.1, 3000, .inl (fun _ => 0)) := rfl
theorem cD_225 {g : Cx} {ad : Nat → Nat} {S : St} : cellD g ad S 225 = .inl (g.2.2.1, 60, .inl (S.1 225)) := rfl
theorem zD_225 {g : Cx} {ad : Nat → Nat} {S : St} : cellD g ad (zr S 225) 225 = .inl (g.2.2.1, 60, .inl (fun _ => 0)) := rfl
theorem cD_226 {g : Cx} {ad : Nat → Nat} {S : St} : cellD g ad S 226 = .inl (g.2.2.1, 48, .inl (S.1 226)) := rfl
theorem zD_226 {g : Cx} {ad : Nat → Nat} {S : St} : cellD g ad (zr S 226) 226 = .inl (g.2.2.1, 48, .inl (fun _ => 0)) := rfl
theorem cD_227 {g : Cx} {ad : Nat → Nat} {S : St} : cellD g ad S 227 = .inl (g.2.2.1, 48, .inl (S.1 227)) := rfl
theorem zD_227 {g : Cx} {ad : Nat → Nat} {S : St} : cellD g ad (zr S 227) 227 = .inl (g.2.2.1, 48, .inl (fun _ => 0)) := rfl
theorem cD_228 {g : Cx} {ad : Nat → Nat} {S : St} : cellD g ad S 228 = .inl (g.2.2.1, 6, .inl (S.1 228)) := rfl
theorem zD_228 {g : Cx} {ad : Nat → Nat} {S : St} : cellD g ad (zr S 228) 228 = .inl (g.2.2.1, 6, .inl (fun _ => 0)) := rfl
theorem cD_229 {g : Cx} {ad : Nat → Nat} {S : St} : cellD g ad S 229 = .inl (g.2.2.1, 500, .inl (S.1 229)) := rfl
theorem zD_229 {g : Cx} {ad : Nat → Nat} {S : St} : cellD g ad (zr S 229) 229 = .inl (g.2.2.1, 500, .inl (fun _ => 0)) := rfl
theorem cD_230 {g : Cx} {ad : Nat → Nat} {S : St} : cellD g ad S 230 = .inl (g.2.2.1, 500, .inl (S.1 230)) := rfl
theorem zD_230 {g : Cx} {ad : Nat → Nat} {S : St} : cellD g ad (zr S 230) 230 = .inl (g.2.2.1, 500, .inl (fun _ => 0)) := rfl
theorem cD_231 {g : Cx} {ad : Nat → Nat} {S : St} : cellD g ad S 231 = .inl (g.2.2.1, 10, .inl (S.1 231)) := rfl
theorem zD_231 {g : Cx} {ad : Nat → Nat} {S : St} : cellD g ad (zr S 231) 231 = .inl (g.2.2.1, 10, .inl (fun _ => 0)) := rfl
theorem cD_232 {g : Cx} {ad : Nat → Nat} {S : St} : cellD g ad S 232 = .inl (g.2.2.1, 8, .inl (S.1 232)) := rfl
theorem zD_232 {g : Cx} {ad : Nat → Nat} {S : St} : cellD g ad (zr S 232) 232 = .inl (g.2.2.1, 8, .inl (fun _ => 0)) := rfl
theorem cD_233 {g : Cx} {ad : Nat → Nat} {S : St} : cellD g ad S 233 = .inl (g.2.2.1, 8, .inl (S.1 233)) := rfl
theorem zD_233 {g : Cx} {ad : Nat → Nat} {S : St} : cellD g ad (zr S 233) 233 = .inl (g.2.2.1, 8, .inl (fun _ => 0)) := rfl
theorem cD_237 {g : Cx} {ad : Nat → Nat} {S : St} : cellD g ad S 237 = .inl (g.2.2.1, 500, .inl (S.1 237)) := rfl
theorem zD_237 {g : Cx} {ad : Nat → Nat} {S : St} : cellD g ad (zr S 237) 237 = .inl (g.2.2.1, 500, .inl (fun _ => 0)) := rfl
theorem cD_247 {g : Cx} {ad : Nat → Nat} {S : St} : cellD g ad S 247 = .inl (g.2.2.1, 400, .inl (S.1 247)) := rfl
theorem zD_247 {g : Cx} {ad : Nat → Nat} {S : St} : cellD g ad (zr S 247) 247 = .inl (g.2.2.1, 400, .inl (fun _ => 0)) := rfl
theorem cD_250 {g : Cx} {ad : Nat → Nat} {S : St} : cellD g ad S 250 = .inl (g.2.2.1, 300, .inl (S.1 250)) := rfl
theorem zD_250 {g : Cx} {ad : Nat → Nat} {S : St} : cellD g ad (zr S 250) 250 = .inl (g.2.2.1, 300, .inl (fun _ => 0)) := rfl
theorem cD_251 {g : Cx} {ad : Nat → Nat} {S : St} : cellD g ad S 251 = .inl (g.2.2.1, 9, .inl (S.1 251)) := rfl
theorem zD_251 {g : Cx} {ad : Nat → Nat} {S : St} : cellD g ad (zr S 251) 251 = .inl (g.2.2.1, 9, .inl (fun _ => 0)) := rfl
theorem cD_252 {g : Cx} {ad : Nat → Nat} {S : St} : cellD g ad S 252 = .inl (g.2.2.1, 244000, .inl (S.1 252)) := rfl
theorem zD_252 {g : Cx} {ad : Nat → Nat} {S : St} : cellD g ad (zr S 252) 252 = .inl (g.2.2.1, 244000, .inl (fun _ => 0)) := rfl
theorem cD_253 {g : Cx} {ad : Nat → Nat} {S : St} : cellD g ad S 253 = .inl (g.2.2.1, 244000, .inl (S.1 253)) := rfl
theorem zD_253 {g : Cx} {ad : Nat → Nat} {S : St} : cellD g ad (zr S 253) 253 = .inl (g.2.2.1, 244000, .inl (fun _ => 0)) := rfl
theorem cD_254 {g : Cx} {ad : Nat → Nat} {S : St} : cellD g ad S 254 = .inl (g.2.2.2.1, 244000, .inl (S.1 254)) := rfl
theorem zD_254 {g : Cx} {ad : Nat → Nat} {S : St} : cellD g ad (zr S 254) 254 = .inl (g.2.2.2.1, 244000, .inl (fun _ => 0)) := rfl
theorem cD_257 {g : Cx} {ad : Nat → Nat} {S : St} : cellD g ad S 257 = .inl (g.2.2.1, 20, .inl (S.1 257)) := rfl
theorem zD_257 {g : Cx} {ad : Nat → Nat} {S : St} : cellD g ad (zr S 257) 257 = .inl (g.2.2.1, 20, .inl (fun _ => 0)) := rfl
theorem cD_258 {g : Cx} {ad : Nat → Nat} {S : St} : cellD g ad S 258 = .inl (g.2.2.1, 20, .inl (S.1 258)) := rfl
theorem zD_258 {g : Cx} {ad : Nat → Nat} {S : St} : cellD g ad (zr S 258) 258 = .inl (g.2.2.1, 20, .inl (fun _ => 0)) := rfl
theorem cD_259 {g : Cx} {ad : Nat → Nat} {S : St} : cellD g ad S 259 = .inl (g.2.2.1, 20, .inl (S.1 259)) := rfl
theorem zD_259 {g : Cx} {ad : Nat → Nat} {S : St} : cellD g ad (zr S 259) 259 = .inl (g.2.2.1, 20, .inl (fun _ => 0)) := rfl
theorem cD_260 {g : Cx} {ad : Nat → Nat} {S : St} : cellD g ad S 260 = .inl (g.2.2.1, 20, .inl (S.1 260)) := rfl
theorem zD_260 {g : Cx} {ad : Nat → Nat} {S : St} : cellD g ad (zr S 260) 260 = .inl (g.2.2.1, 20, .inl (fun _ => 0)) := rfl
theorem cD_261 {g : Cx} {ad : Nat → Nat} {S : St} : cellD g ad S 261 = .inl (g.2.2.1, 20, .inl (S.1 261)) := rfl
theorem zD_261 {g : Cx} {ad : Nat → Nat} {S : St} : cellD g ad (zr S 261) 261 = .inl (g.2.2.1, 20, .inl (fun _ => 0)) := rfl
theorem cD_262 {g : Cx} {ad : Nat → Nat} {S : St} : cellD g ad S 262 = .inl (g.2.2.1, 60, .inl (S.1 262)) := rfl
theorem zD_262 {g : Cx} {ad : Nat → Nat} {S : St} : cellD g ad (zr S 262) 262 = .inl (g.2.2.1, 60, .inl (fun _ => 0)) := rfl
theorem cD_263 {g : Cx} {ad : Nat → Nat} {S : St} : cellD g ad S 263 = .inl (g.2.2.1, 60, .inl (S.1 263)) := rfl
theorem zD_263 {g : Cx} {ad : Nat → Nat} {S : St} : cellD g ad (zr S 263) 263 = .inl (g.2.2.1, 60, .inl (fun _ => 0)) := rfl
theorem cD_264 {g : Cx} {ad : Nat → Nat} {S : St} : cellD g ad S 264 = .inl (g.2.2.1, 60, .inl (S.1 264)) := rfl
theorem zD_264 {g : Cx} {ad : Nat → Nat} {S : St} : cellD g ad (zr S 264) 264 = .inl (g.2.2.1, 60, .inl (fun _ => 0)) := rfl
theorem cD_265 {g : Cx} {ad : Nat → Nat} {S : St} : cellD g ad S 265 = .inl (g.2.2.1, 60, .inl (S.1 265)) := rfl
theorem zD_265 {g : Cx} {ad : Nat → Nat} {S : St} : cellD g ad (zr S 265) 265 = .inl (g.2.2.1, 60, .inl (fun _ => 0)) := rfl
theorem cD_266 {g : Cx} {ad : Nat → Nat} {S : St} : cellD g ad S 266 = .inl (g.2.2.1, 60, .inl (S.1 266)) := rfl
theorem zD_266 {g : Cx} {ad : Nat → Nat} {S : St} : cellD g ad (zr S 266) 266 = .inl (g.2.2.1, 60, .inl (fun _ => 0)) := rfl
theorem cD_267 {g : Cx} {ad : Nat → Nat} {S : St} : cellD g ad S 267 = .inl (g.2.2.1, 60, .inl (S.1 267)) := rfl
theorem zD_267 {g : Cx} {ad : Nat → Nat} {S : St} : cellD g ad (zr S 267) 267 = .inl (g.2.2.1, 60, .inl (fun _ => 0)) := rfl
theorem zD_6 {g : Cx} {ad : Nat → Nat} {S : St} : cellD g ad (zr S 6) 6 = .inl (g.2.2.2.2.1, 6, .inr (.inr (.inr (.inr (fun _ => none))))) := rfl
theorem zr_row {S : St} {o : Nat} : (zr S o).1 o = fun _ => 0 := by unfold zr; simp only [if_true]
theorem zD_ordA {g : Cx} {ad : Nat → Nat} {S : St} {o : Nat} (h1 : 80 ≤ o) (h2 : o < 87) : cellD g ad (zr S o) o = .inl (g.2.2.1, 500, .inl (fun _ => 0)) := by
  unfold cellD kcD
  rw [zr_row]
  rw [if_neg (by omega), if_neg (by omega), if_neg (by omega), if_pos (by omega)]
theorem zD_ordB {g : Cx} {ad : Nat → Nat} {S : St} {o : Nat} (h1 : 90 ≤ o) (h2 : o < 97) : cellD g ad (zr S o) o = .inl (g.2.2.1, 8, .inl (fun _ => 0)) := by
  unfold cellD kcD
  rw [zr_row]
  rw [if_neg (by omega), if_neg (by omega), if_neg (by omega), if_neg (by omega), if_pos (by omega)]
theorem zD_ordC {g : Cx} {ad : Nat → Nat} {S : St} {o : Nat} (h1 : 100 ≤ o) (h2 : o < 107) : cellD g ad (zr S o) o = .inl (g.2.2.1, 8, .inl (fun _ => 0)) := by
  unfold cellD kcD
  rw [zr_row]
  rw [if_neg (by omega), if_neg (by omega), if_neg (by omega), if_neg (by omega), if_pos (by omega)]
def fxs (o k : Nat) : Option Nat :=
  if o = 0 then (if k < 6 then some ([1, 2, 3, 6, 7, 5].getD k 0) else none)
  else if o = 1 then (if 1 ≤ k ∧ k ≤ 6 then some (10 + k) else none)
  else if o = 2 then (if 1 ≤ k ∧ k ≤ 2 then some (20 + k) else none)
  else if o = 3 then (if k = 1 then some 4 else if 2 ≤ k ∧ k ≤ 6 then some (30 + k) else none)
  else if o = 4 then (if 1 ≤ k ∧ k ≤ 7 then some (40 + k) else none)
  else if o = 5 then (if k ≤ 1 then some (50 + k) else none)
  else if o < 70 then none
  else if o < 77 then (if k ≤ 2 then some (o + 10 * (k + 1)) else none)
  else if o < 107 then none
  else if o < 111 then (if k = 2 then some 111 else none)
  else if o < 112 then (if k = 3 then some 7 else none)
  else if o < 113 then (if k = 1 then some 1 else none)
  else if o < 201 then (if k = 2 ∨ k = 3 ∨ k = 4 ∨ k = 5 ∨ k = 6 ∨ k = 8 ∨ k = 9 ∨ k = 11 ∨ k = 12 ∨ k = 13 ∨ k = 14 ∨ k = 15 ∨ k = 16 ∨ k = 17 ∨ k = 18 ∨ k = 19 ∨ k = 20 ∨ k = 21 ∨ k = 22 ∨ k = 23 ∨ k = 24 ∨ k = 25 ∨ k = 26 ∨ k = 27 ∨ k = 28 ∨ k = 29 ∨ k = 30 ∨ k = 31 ∨ k = 32 ∨ k = 36 ∨ k = 46 ∨ k = 49 ∨ k = 50 ∨ k = 51 ∨ k = 52 ∨ k = 53 ∨ k = 56 ∨ k = 57 ∨ k = 58 ∨ k = 59 ∨ k = 60 ∨ k = 61 ∨ k = 62 ∨ k = 63 ∨ k = 64 ∨ k = 65 ∨ k = 66 then some (201 + k) else none)
  else none
def Fx (L : List Nat) (S : St) : Prop := ∀ o ∈ L, ∀ (k t : Nat), fxs o k = some t → gr S o k = some t
theorem re_fx {ad : Nat → Nat} {R : Nat → Option Nat} {k t : Nat} (h : R k = some t) : va_re ad (R k) = .ref (ad t) := by rw [h]; rfl
theorem cellD_eq {g : Cx} {ad : Nat → Nat} {S : St} {o : Nat} (h : ∀ (k t : Nat), fxs o k = some t → gr S o k = some t) : cellD g ad S o = cellOf g ad S o := by
  have h : ∀ (k t : Nat), fxs o k = some t → (S.2.1 o) k = some t := h
  unfold cellD cellOf
  generalize S.1 o = V at h ⊢
  generalize S.2.1 o = R at h ⊢
  generalize S.2.2 o = J at h ⊢
  by_cases h60 : o < 60
  · by_cases h8 : o < 8
    · have hc : o = 0 ∨ o = 1 ∨ o = 2 ∨ o = 3 ∨ o = 4 ∨ o = 5 ∨ o = 6 ∨ o = 7 := by omega
      rcases hc with rfl | rfl | rfl | rfl | rfl | rfl | rfl | rfl
      · have e0 := re_fx (ad := ad) (h 0 1 rfl)
        have e1 := re_fx (ad := ad) (h 1 2 rfl)
        have e2 := re_fx (ad := ad) (h 2 3 rfl)
        have e3 := re_fx (ad := ad) (h 3 6 rfl)
        have e4 := re_fx (ad := ad) (h 4 7 rfl)
        have e5 := re_fx (ad := ad) (h 5 5 rfl)
        show Sum.inr (10, [va_re ad (R 0), va_re ad (R 1), va_re ad (R 2), va_re ad (R 3), va_re ad (R 4), va_re ad (R 5), va_re ad (R 6), .int (V 7), .int (V 8), .int (V 9), .int (V 10), .int (V 11)]) = _
        rw [e0, e1, e2, e3, e4, e5]
        rfl
      · have e1 := re_fx (ad := ad) (h 1 11 rfl)
        have e2 := re_fx (ad := ad) (h 2 12 rfl)
        have e3 := re_fx (ad := ad) (h 3 13 rfl)
        have e4 := re_fx (ad := ad) (h 4 14 rfl)
        have e5 := re_fx (ad := ad) (h 5 15 rfl)
        have e6 := re_fx (ad := ad) (h 6 16 rfl)
        show Sum.inr (9, [.int (V 0), va_re ad (R 1), va_re ad (R 2), va_re ad (R 3), va_re ad (R 4), va_re ad (R 5), va_re ad (R 6)]) = _
        rw [e1, e2, e3, e4, e5, e6]
        rfl
      · have e1 := re_fx (ad := ad) (h 1 21 rfl)
        have e2 := re_fx (ad := ad) (h 2 22 rfl)
        show Sum.inr (2, [.int (V 0), va_re ad (R 1), va_re ad (R 2)]) = _
        rw [e1, e2]
        rfl
      · have e1 := re_fx (ad := ad) (h 1 4 rfl)
        have e2 := re_fx (ad := ad) (h 2 32 rfl)
        have e3 := re_fx (ad := ad) (h 3 33 rfl)
        have e4 := re_fx (ad := ad) (h 4 34 rfl)
        have e5 := re_fx (ad := ad) (h 5 35 rfl)
        have e6 := re_fx (ad := ad) (h 6 36 rfl)
        show Sum.inr (0, [.int (V 0), va_re ad (R 1), va_re ad (R 2), va_re ad (R 3), va_re ad (R 4), va_re ad (R 5), va_re ad (R 6)]) = _
        rw [e1, e2, e3, e4, e5, e6]
        rfl
      · have e1 := re_fx (ad := ad) (h 1 41 rfl)
        have e2 := re_fx (ad := ad) (h 2 42 rfl)
        have e3 := re_fx (ad := ad) (h 3 43 rfl)
        have e4 := re_fx (ad := ad) (h 4 44 rfl)
        have e5 := re_fx (ad := ad) (h 5 45 rfl)
        have e6 := re_fx (ad := ad) (h 6 46 rfl)
        have e7 := re_fx (ad := ad) (h 7 47 rfl)
        show Sum.inr (7, [.int (V 0), va_re ad (R 1), va_re ad (R 2), va_re ad (R 3), va_re ad (R 4), va_re ad (R 5), va_re ad (R 6), va_re ad (R 7)]) = _
        rw [e1, e2, e3, e4, e5, e6, e7]
        rfl
      · have e0 := re_fx (ad := ad) (h 0 50 rfl)
        have e1 := re_fx (ad := ad) (h 1 51 rfl)
        show Sum.inr (8, [va_re ad (R 0), va_re ad (R 1), .int (V 2)]) = _
        rw [e0, e1]
        rfl
      · rfl
      · rfl
    · unfold kcD kc
      rw [if_pos h60, if_neg h8, if_pos h60, if_neg h8]
  · by_cases h70 : o < 70
    · unfold kcD kc
      rw [if_neg h60, if_pos h70, if_neg h60, if_pos h70]
    · by_cases h77 : o < 77
      · have f : ∀ k, k ≤ 2 → fxs o k = some (o + 10 * (k + 1)) := fun k hk => by
          unfold fxs
          rw [if_neg (by omega), if_neg (by omega), if_neg (by omega), if_neg (by omega), if_neg (by omega), if_neg (by omega), if_neg h70, if_pos h77, if_pos hk]
        have e0 := re_fx (ad := ad) (h 0 _ (f 0 (by omega)))
        have e1 := re_fx (ad := ad) (h 1 _ (f 1 (by omega)))
        have e2 := re_fx (ad := ad) (h 2 _ (f 2 (by omega)))
        unfold kcD kc
        rw [if_neg h60, if_neg h70, if_pos h77, if_neg h60, if_neg h70, if_pos h77, e0, e1, e2]
      · by_cases h107 : o < 107
        · unfold kcD kc
          rw [if_neg h60, if_neg h70, if_neg h77, if_neg h60, if_neg h70, if_neg h77]
          by_cases h87 : o < 87
          · rw [if_pos h87, if_pos h87]
          · rw [if_neg h87, if_pos h107, if_neg h87, if_pos h107]
        · by_cases h111 : o < 111
          · skip
            have f : ∀ k t, fxs 110 k = some t → R k = some t := fun k t hk => h k t (by rw [← hk]; unfold fxs; rw [if_neg (by omega), if_neg (by omega), if_neg (by omega), if_neg (by omega), if_neg (by omega), if_neg (by omega), if_neg h70, if_neg h77, if_neg h107, if_pos h111]; rfl)
            have e2 := re_fx (ad := ad) (f 2 111 rfl)
            unfold kcD kc
            rw [if_neg h60, if_neg h70, if_neg h77, if_neg (show ¬ o < 87 by omega), if_neg h107, if_pos h111, if_neg h60, if_neg h70, if_neg h77, if_neg (show ¬ o < 87 by omega), if_neg h107, if_pos h111, e2]
          · by_cases h112 : o < 112
            · skip
              have f : ∀ k t, fxs 111 k = some t → R k = some t := fun k t hk => h k t (by rw [← hk]; unfold fxs; rw [if_neg (by omega), if_neg (by omega), if_neg (by omega), if_neg (by omega), if_neg (by omega), if_neg (by omega), if_neg h70, if_neg h77, if_neg h107, if_neg h111, if_pos h112]; rfl)
              have e3 := re_fx (ad := ad) (f 3 7 rfl)
              unfold kcD kc
              rw [if_neg h60, if_neg h70, if_neg h77, if_neg (show ¬ o < 87 by omega), if_neg h107, if_neg h111, if_pos h112, if_neg h60, if_neg h70, if_neg h77, if_neg (show ¬ o < 87 by omega), if_neg h107, if_neg h111, if_pos h112, e3]
            · by_cases h113 : o < 113
              · skip
                have f : ∀ k t, fxs 112 k = some t → R k = some t := fun k t hk => h k t (by rw [← hk]; unfold fxs; rw [if_neg (by omega), if_neg (by omega), if_neg (by omega), if_neg (by omega), if_neg (by omega), if_neg (by omega), if_neg h70, if_neg h77, if_neg h107, if_neg h111, if_neg h112, if_pos h113]; rfl)
                have e1 := re_fx (ad := ad) (f 1 1 rfl)
                unfold kcD kc
                rw [if_neg h60, if_neg h70, if_neg h77, if_neg (show ¬ o < 87 by omega), if_neg h107, if_neg h111, if_neg h112, if_pos h113, if_neg h60, if_neg h70, if_neg h77, if_neg (show ¬ o < 87 by omega), if_neg h107, if_neg h111, if_neg h112, if_pos h113, e1]
              · by_cases h201 : o < 201
                · skip
                  have f : ∀ k t, fxs 200 k = some t → R k = some t := fun k t hk => h k t (by rw [← hk]; unfold fxs; rw [if_neg (by omega), if_neg (by omega), if_neg (by omega), if_neg (by omega), if_neg (by omega), if_neg (by omega), if_neg h70, if_neg h77, if_neg h107, if_neg h111, if_neg h112, if_neg h113, if_pos h201]; rfl)
                  have e2 := re_fx (ad := ad) (f 2 203 rfl)
                  have e3 := re_fx (ad := ad) (f 3 204 rfl)
                  have e4 := re_fx (ad := ad) (f 4 205 rfl)
                  have e5 := re_fx (ad := ad) (f 5 206 rfl)
                  have e6 := re_fx (ad := ad) (f 6 207 rfl)
                  have e8 := re_fx (ad := ad) (f 8 209 rfl)
                  have e9 := re_fx (ad := ad) (f 9 210 rfl)
                  have e11 := re_fx (ad := ad) (f 11 212 rfl)
                  have e12 := re_fx (ad := ad) (f 12 213 rfl)
                  have e13 := re_fx (ad := ad) (f 13 214 rfl)
                  have e14 := re_fx (ad := ad) (f 14 215 rfl)
                  have e15 := re_fx (ad := ad) (f 15 216 rfl)
                  have e16 := re_fx (ad := ad) (f 16 217 rfl)
                  have e17 := re_fx (ad := ad) (f 17 218 rfl)
                  have e18 := re_fx (ad := ad) (f 18 219 rfl)
                  have e19 := re_fx (ad := ad) (f 19 220 rfl)
                  have e20 := re_fx (ad := ad) (f 20 221 rfl)
                  have e21 := re_fx (ad := ad) (f 21 222 rfl)
                  have e22 := re_fx (ad := ad) (f 22 223 rfl)
                  have e23 := re_fx (ad := ad) (f 23 224 rfl)
                  have e24 := re_fx (ad := ad) (f 24 225 rfl)
                  have e25 := re_fx (ad := ad) (f 25 226 rfl)
                  have e26 := re_fx (ad := ad) (f 26 227 rfl)
                  have e27 := re_fx (ad := ad) (f 27 228 rfl)
                  have e28 := re_fx (ad := ad) (f 28 229 rfl)
                  have e29 := re_fx (ad := ad) (f 29 230 rfl)
                  have e30 := re_fx (ad := ad) (f 30 231 rfl)
                  have e31 := re_fx (ad := ad) (f 31 232 rfl)
                  have e32 := re_fx (ad := ad) (f 32 233 rfl)
                  have e36 := re_fx (ad := ad) (f 36 237 rfl)
                  have e46 := re_fx (ad := ad) (f 46 247 rfl)
                  have e49 := re_fx (ad := ad) (f 49 250 rfl)
                  have e50 := re_fx (ad := ad) (f 50 251 rfl)
                  have e51 := re_fx (ad := ad) (f 51 252 rfl)
                  have e52 := re_fx (ad := ad) (f 52 253 rfl)
                  have e53 := re_fx (ad := ad) (f 53 254 rfl)
                  have e56 := re_fx (ad := ad) (f 56 257 rfl)
                  have e57 := re_fx (ad := ad) (f 57 258 rfl)
                  have e58 := re_fx (ad := ad) (f 58 259 rfl)
                  have e59 := re_fx (ad := ad) (f 59 260 rfl)
                  have e60 := re_fx (ad := ad) (f 60 261 rfl)
                  have e61 := re_fx (ad := ad) (f 61 262 rfl)
                  have e62 := re_fx (ad := ad) (f 62 263 rfl)
                  have e63 := re_fx (ad := ad) (f 63 264 rfl)
                  have e64 := re_fx (ad := ad) (f 64 265 rfl)
                  have e65 := re_fx (ad := ad) (f 65 266 rfl)
                  have e66 := re_fx (ad := ad) (f 66 267 rfl)
                  unfold kcD kc
                  rw [if_neg h60, if_neg h70, if_neg h77, if_neg (show ¬ o < 87 by omega), if_neg h107, if_neg h111, if_neg h112, if_neg h113, if_pos h201, if_neg h60, if_neg h70, if_neg h77, if_neg (show ¬ o < 87 by omega), if_neg h107, if_neg h111, if_neg h112, if_neg h113, if_pos h201, e2, e3, e4, e5, e6, e8, e9, e11, e12, e13, e14, e15, e16, e17, e18, e19, e20, e21, e22, e23, e24, e25, e26, e27, e28, e29, e30, e31, e32, e36, e46, e49, e50, e51, e52, e53, e56, e57, e58, e59, e60, e61, e62, e63, e64, e65, e66]
                · unfold kcD kc
                  rw [if_neg h60, if_neg h70, if_neg h77, if_neg (show ¬ o < 87 by omega), if_neg h107, if_neg h111, if_neg h112, if_neg h113, if_neg h201, if_neg h60, if_neg h70, if_neg h77, if_neg (show ¬ o < 87 by omega), if_neg h107, if_neg h111, if_neg h112, if_neg h113, if_neg h201]
theorem gd_gw {g : Cx} {A : Nat → Prop} {ad : Nat → Nat} {L : List Nat} {S : St} {H : Heap} (hF : Fx L S) : GD g A ad L S H ↔ GW g A ad L S H := by
  have e : gcl ad (cellD g ad S) L = gls g ad L S := List.map_congr_left (fun o ho => by rw [cellD_eq (hF o ho)])
  unfold GD GC GW
  rw [e]
end MAKE
