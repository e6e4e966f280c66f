section INITM
def Sx0 : St := (f_X10_init (zr S00 0)).getD S00
def Sy0 : St := (f_X11_init (zr Sx0 200)).getD S00
theorem Sx0_e : f_X10_init (zr S00 0) = some Sx0 := rfl
theorem Sy0_e : f_X11_init (zr Sx0 200) = some Sy0 := rfl
set_option maxRecDepth 20000 in
theorem y_1 : gv Sy0 1 0 = nI 2 ∧ gv Sy0 200 1 = nI 2 ∧ gv Sy0 0 7 = nI 0 ∧ gv Sy0 200 10 = nI 0 ∧ gv Sy0 0 8 = nI 0 ∧ gv Sy0 200 37 = nI 0 ∧ gv Sy0 0 9 = gv Sy0 200 38 ∧ gv Sy0 0 10 = gv Sy0 200 39 ∧ gv Sy0 0 11 = nI 0 ∧ gv Sy0 200 0 = nI 0 ∧ gv Sy0 2 0 = nI 0 ∧ gv Sy0 200 7 = nI 0 ∧ gv Sy0 3 0 = nI 0 ∧ gv Sy0 200 54 = nI 0 ∧ gv Sy0 4 0 = nI 0 ∧ gv Sy0 200 55 = nI 0 := ⟨rfl, rfl, rfl, rfl, rfl, rfl, rfl, rfl, rfl, rfl, rfl, rfl, rfl, rfl, rfl, rfl⟩
set_option maxRecDepth 20000 in
theorem y_2 (i : Nat) : gv Sy0 13 i = 0 ∧ gv Sy0 14 i = 0 ∧ gv Sy0 15 i = 0 ∧ gv Sy0 16 i = 0 ∧ gv Sy0 204 i = 0 ∧ gv Sy0 205 i = 0 ∧ gv Sy0 206 i = 0 ∧ gv Sy0 207 i = 0 := ⟨rfl, rfl, rfl, rfl, rfl, rfl, rfl, rfl⟩
set_option maxRecDepth 20000 in
theorem y_3 (i : Nat) : gv Sy0 216 i = 0 ∧ gv Sy0 217 i = 0 ∧ gv Sy0 218 i = 0 ∧ gv Sy0 219 i = 0 ∧ gv Sy0 220 i = 0 ∧ gv Sy0 221 i = 0 ∧ gv Sy0 222 i = 0 ∧ gv Sy0 228 i = 0 := ⟨rfl, rfl, rfl, rfl, rfl, rfl, rfl, rfl⟩
set_option maxRecDepth 20000 in
theorem y_4 (i : Nat) : gv Sy0 11 i = (if i = 0 then 1 else 0) ∧ gv Sy0 12 i = (if i = 0 then 1 else 0) ∧ gv Sy0 203 i = (if i = 0 then 1 else 0) := ⟨rfl, rfl, rfl⟩
def RG (S : St) : Prop := ∀ o k y, gr S o k = some y → y ∈ L00
theorem RG.sv {S : St} {o k : Nat} {x : Int32} (h : RG S) : RG (sv S o k x) := h
theorem RG.zr {S : St} {o : Nat} (h : RG S) : RG (zr S o) := fun a k y e => by
  rw [gr_zr] at e
  by_cases c : a = o
  · rw [if_pos c] at e; simp at e
  · rw [if_neg c] at e; exact h a k y e
theorem RG.sr {S : St} {o k x : Nat} (h : RG S) (hx : x ∈ L00) : RG (sr S o k (some x)) := fun a j y e => by
  rw [gr_sr] at e
  by_cases c : a = o ∧ j = k
  · rw [if_pos c] at e; rw [← Option.some.inj e]; exact hx
  · rw [if_neg c] at e; exact h a j y e
theorem RG.x {S S' : St} (h : RG S) (e : f_X10_init S = some S') : RG S' := by
  unfold f_X10_init f_X9_init f_X2_init f_X0_init f_X7_init f_X8_init f_X5_init at e
  simp only [bn, cl0] at e
  have e := Option.some.inj e
  subst e
  repeat' first
    | exact h
    | apply RG.sv
    | apply RG.zr
    | refine RG.sr ?_ (by decide)
theorem RG.y {S S' : St} (h : RG S) (e : f_X11_init S = some S') : RG S' := by
  unfold f_X11_init at e
  simp only [bn, cl0] at e
  have e := Option.some.inj e
  subst e
  repeat' first
    | exact h
    | apply RG.sv
    | apply RG.zr
    | refine RG.sr ?_ (by decide)
theorem RG0 : RG Sy0 := by
  refine RG.y (RG.zr (RG.x (RG.zr ?_) Sx0_e)) Sy0_e
  intro o k y e
  simp [S00, gr] at e
set_option maxRecDepth 20000 in
theorem fx_small : ∀ o ∈ L00, ∀ k, k < 67 → fxs o k = none ∨ gr Sy0 o k = fxs o k := by decide +kernel
theorem fx_big : ∀ o ∈ L00, ∀ k, 67 ≤ k → fxs o k = none := by
  intro o ho k hk
  unfold fxs
  by_cases c0 : o = 0
  · simp [c0]; omega
  by_cases c1 : o = 1
  · simp [c1]; omega
  by_cases c2 : o = 2
  · simp [c2]; omega
  by_cases c3 : o = 3
  · simp [c3, show ¬ k = 1 by omega, show ¬ (2 ≤ k ∧ k ≤ 6) by omega]
    try omega
  by_cases c4 : o = 4
  · simp [c4]; omega
  by_cases c5 : o = 5
  · simp [c5]; omega
  by_cases c6 : o < 70
  · simp [c0, c1, c2, c3, c4, c5, c6]
  by_cases c7 : o < 77
  · simp [c0, c1, c2, c3, c4, c5, c6, c7]; omega
  by_cases c8 : o < 107
  · simp [c0, c1, c2, c3, c4, c5, c6, c7, c8]
  by_cases c9 : o < 111
  · simp [c0, c1, c2, c3, c4, c5, c6, c7, c8, c9]; omega
  by_cases d1 : o < 112
  · simp [c0, c1, c2, c3, c4, c5, c6, c7, c8, c9, d1]; omega
  by_cases d2 : o < 113
  · simp [c0, c1, c2, c3, c4, c5, c6, c7, c8, c9, d1, d2]; omega
  by_cases d3 : o < 201
  · simp only [c0, c1, c2, c3, c4, c5, c6, c7, c8, c9, d1, d2, d3, if_false, if_true]
    rw [if_neg (by omega)]
  · simp only [c0, c1, c2, c3, c4, c5, c6, c7, c8, c9, d1, d2, d3, if_false]
set_option maxRecDepth 20000 in
theorem y_5 : gr Sy0 0 6 = some 70 := rfl
theorem inv_init : ∃ Sx S1 : St, f_X10_init (zr S00 0) = some Sx ∧ f_X11_init (zr Sx 200) = some S1 ∧ Inv L00 S1 := by
  refine ⟨Sx0, Sy0, Sx0_e, Sy0_e, 0, 2, rfl, by omega, ?_, ?_, ?_, ?_, ?_, ?_, ?_, ?_, ?_, ?_⟩
  · refine ⟨fun k hk => by omega, ⟨fun _ => 0, y_5, fun k hk => by omega, fun k hk => Nat.zero_le _, fun i j hi hj _ => by omega⟩, ?_, ?_⟩
    · intro o ho k y e
      exact RG0 o k y e
    · intro o ho k t e
      by_cases hk : k < 67
      · rcases fx_small o ho k hk with h | h
        · rw [h] at e; simp at e
        · rw [h]; exact e
      · rw [fx_big o ho k (by omega)] at e; simp at e
  · exact ⟨0, by omega, y_1.2.2.2.2.2.2.2.2.1, y_1.2.2.2.2.2.2.2.2.2.1⟩
  · exact ⟨0, by omega, y_1.2.2.2.2.2.2.2.2.2.2.1, y_1.2.2.2.2.2.2.2.2.2.2.2.1, fun i hi => by omega⟩
  · exact ⟨y_1.2.2.2.2.2.2.1, y_1.2.2.2.2.2.2.2.1⟩
  · exact ⟨0, by omega, y_1.2.2.2.2.2.2.2.2.2.2.2.2.1, y_1.2.2.2.2.2.2.2.2.2.2.2.2.2.1, fun i hi => by omega⟩
  · refine ⟨by omega, by omega, y_1.1, y_1.2.1, ⟨fun i => if i = 0 then 1 else 0, fun i => ?_, fun i hi => ?_, fun i hi => ?_, fun i hi => ?_⟩, fun i hi => ?_, ⟨fun _ => 0, fun _ => 0, fun _ => 0, fun i hi => ?_⟩⟩
    · by_cases c : i = 0 <;> simp [c]
    · have : ¬ i = 0 := by omega
      simp [this]
    · rw [(y_4 i).1, (y_4 i).2.2]
      by_cases c : i = 0 <;> simp [c] <;> rfl
    · rw [(y_4 i).2.1]
      rcases (show i = 0 ∨ i = 1 by omega) with c | c <;> subst c <;> rfl
    · obtain ⟨a1, a2, a3, a4, a5, a6, a7, a8⟩ := y_2 i
      rw [a1, a2, a3, a4, a5, a6, a7, a8]
      exact ⟨rfl, rfl, rfl, rfl⟩
    · obtain ⟨a1, a2, a3, a4, a5, a6, a7, a8⟩ := y_2 i
      rw [a5, a6, a7]
      exact ⟨rfl, rfl, rfl, Nat.le_refl _, Nat.zero_le _, Nat.zero_le _, fun _ => ⟨rfl, rfl, rfl⟩⟩
  · exact ⟨0, by omega, y_1.2.2.2.2.2.2.2.2.2.2.2.2.2.2.1, y_1.2.2.2.2.2.2.2.2.2.2.2.2.2.2.2, ⟨fun _ => 0, fun i hi => by omega⟩, ⟨fun _ => 0, fun i hi => by omega, fun p hp => by omega, fun i j h1 h2 => by omega⟩⟩
  · exact ⟨0, by omega, y_1.2.2.2.2.1, y_1.2.2.2.2.2.1, fun i hi => by omega⟩
  · refine ⟨y_1.2.2.1, y_1.2.2.2.1, fun k hk => by omega, fun k hk h6 => ?_⟩
    obtain ⟨a1, a2, a3, a4, a5, a6, a7, a8⟩ := y_3 k
    exact ⟨a1, a2, a3, a4, a5, a6, a7⟩
  · exact ⟨fun k o hk _ => by omega, fun k hk h6 => (y_3 k).2.2.2.2.2.2.2⟩
end INITM
