section WAY
theorem ite_le {α : Type} {a b : Nat} {x y : α} (ha : a < 2147483648) (hb : b < 2147483648) : (if nI a ≤ nI b then x else y) = if a ≤ b then x else y := by simp only [nl_le ha hb]
theorem ite_lt {α : Type} {a b : Nat} {x y : α} (ha : a < 2147483648) (hb : b < 2147483648) : (if nI a < nI b then x else y) = if a < b then x else y := by simp only [nl_lt ha hb]
theorem cl0s {α β : Type} {a : α} {f : α → Option β} : cl0 (some a) f = f a := rfl
theorem cl1s {α β γ : Type} {a : α} {b : β} {f : α → β → Option γ} : cl1 (some (a, b)) f = f a b := rfl
theorem ocs {α : Type} {n : Nat} {a : α} {f : Nat → α} : oc (some n) a f = f n := rfl
theorem n400 {α : Type} {f : Nat} {x y : α} (h : f < 400) : (if (400 : Int32) ≤ nI f then x else y) = y := if_neg (nle_n (a := 400) h (by omega))
theorem n500 {α : Type} {f : Nat} {x y : α} (h : f < 500) : (if (500 : Int32) ≤ nI f then x else y) = y := if_neg (nle_n (a := 500) h (by omega))
theorem n80 {α : Type} {f : Nat} {x y : α} (h : f < 80) : (if (80 : Int32) ≤ nI f then x else y) = y := if_neg (nle_n (a := 80) h (by omega))
theorem n9 {α : Type} {f : Nat} {x y : α} (h : f < 9) : (if (9 : Int32) ≤ nI f then x else y) = y := if_neg (nle_n (a := 9) h (by omega))
theorem n0 {α : Type} {f : Nat} {x y : α} (h : 0 < f) (h2 : f < 2147483648) : (if nI f ≤ (0 : Int32) then x else y) = y := if_neg (nle_n (b := 0) h h2)
theorem l80 {α : Type} {f : Nat} {x y : α} (h : f ≤ 80) : (if nI f ≤ (80 : Int32) then x else y) = x := if_pos (le_n (b := 80) h (by omega))
theorem ite_eq {α : Type} {a b : Nat} {x y : α} (ha : a < 2147483648) (hb : b < 2147483648) : (if nI a = nI b then x else y) = if a = b then x else y := by simp only [nl_eq ha hb]
/-! the way of one herd: F is the fair, mi the miles -/
def fz (F : Nat) (mi : Nat → Nat) : Nat → Nat → Nat → Prop
  | 0, s, _ => s = F
  | k + 1, s, f => s = F ∨ (f + mi s ≤ 60 ∧ fz F mi k (s + 1) (f + mi s)) ∨ fz F mi k s (f - 15)
theorem fz_F {F : Nat} {mi : Nat → Nat} : ∀ (k f : Nat), fz F mi k F f
  | 0, _ => rfl
  | _ + 1, _ => Or.inl rfl
theorem fz_mono {F : Nat} {mi : Nat → Nat} : ∀ (k s f : Nat), fz F mi k s f → fz F mi (k + 1) s f
  | 0, s, f, h => Or.inl h
  | k + 1, s, f, h => by
    rcases h with h | ⟨h1, h2⟩ | h
    · exact Or.inl h
    · exact Or.inr (Or.inl ⟨h1, fz_mono k _ _ h2⟩)
    · exact Or.inr (Or.inr (fz_mono k _ _ h))
theorem fz_anti {F : Nat} {mi : Nat → Nat} : ∀ (k s f g : Nat), g ≤ f → fz F mi k s f → fz F mi k s g
  | 0, s, f, g, _, h => h
  | k + 1, s, f, g, hl, h => by
    rcases h with h | ⟨h1, h2⟩ | h
    · exact Or.inl h
    · exact Or.inr (Or.inl ⟨by omega, fz_anti k _ _ _ (by omega) h2⟩)
    · exact Or.inr (Or.inr (fz_anti k _ _ _ (by omega) h))
theorem fz_ex {F : Nat} {mi : Nat → Nat} : ∀ (k s f : Nat), s ≠ F → f + mi s ≤ 60 → fz F mi (k + 1) s f → fz F mi k (s + 1) (f + mi s) := by
  intro k
  induction k with
  | zero =>
    intro s f hs hm h
    rcases h with h | ⟨h1, h2⟩ | h
    · exact absurd h hs
    · exact h2
    · exact absurd h hs
  | succ k ih =>
    intro s f hs hm h
    rcases h with h | ⟨h1, h2⟩ | h
    · exact absurd h hs
    · exact h2
    · exact Or.inr (Or.inr (fz_anti k _ _ _ (by omega) (ih s (f - 15) hs (by omega) h)))
theorem fz_len {F : Nat} {mi : Nat → Nat} : ∀ (k s f : Nat), s ≤ F → fz F mi k s f → F ≤ s + k
  | 0, s, f, _, h => by have : s = F := h; omega
  | k + 1, s, f, hs, h => by
    rcases h with h | ⟨h1, h2⟩ | h
    · omega
    · by_cases c : s = F
      · omega
      · have := fz_len k _ _ (by omega) h2; omega
    · have := fz_len k _ _ hs h; omega
/-- what w walks from s change of the weight -/
def cg (mi : Nat → Nat) : Nat → Nat → Int
  | _, 0 => 0
  | s, w + 1 => (if w = 0 then 0 else 1) - ((mi s / 5 : Nat) : Int) + cg mi (s + 1) w
theorem cg_b {mi : Nat → Nat} (h : ∀ i, mi i ≤ 30) : ∀ (w s : Nat), -6 * (w : Int) ≤ cg mi s w ∧ cg mi s w ≤ w
  | 0, s => by simp [cg]
  | w + 1, s => by
    have h1 := cg_b h w (s + 1)
    have h2 := h s
    unfold cg
    split <;> omega
def GG (F : Nat) (mi : Nat → Nat) (k s : Nat) : Int := cg mi s (F - s) + 3 * ((k : Int) - ((F : Int) - (s : Int)))
theorem GG_b {F : Nat} {mi : Nat → Nat} (h : ∀ i, mi i ≤ 30) (hF : F ≤ 9) {k s : Nat} (hs : s ≤ F) (hk : k ≤ 60) : -100 ≤ GG F mi k s ∧ GG F mi k s ≤ 200 := by
  have := cg_b h (F - s) s
  unfold GG
  omega
theorem GG_1 {F : Nat} {mi : Nat → Nat} {k s : Nat} : 3 + GG F mi k s = GG F mi (k + 1) s := by
  unfold GG; omega
theorem GG_2 {F : Nat} {mi : Nat → Nat} {k s : Nat} (h : s + 1 < F) : 1 - ((mi s / 5 : Nat) : Int) + GG F mi k (s + 1) = GG F mi (k + 1) s := by
  unfold GG
  obtain ⟨w, e⟩ : ∃ w, F - s = w + 1 := ⟨F - s - 1, by omega⟩
  have e2 : F - (s + 1) = w := by omega
  rw [e, e2]
  have : w ≠ 0 := by omega
  simp only [cg, if_neg this]
  omega
theorem GG_3 {F : Nat} {mi : Nat → Nat} {k s : Nat} (h : s + 1 = F) : GG F mi (k + 1) s = -((mi s / 5 : Nat) : Int) + 3 * k := by
  unfold GG
  obtain e : F - s = 1 := by omega
  rw [e]
  simp only [cg, if_true]
  omega
def cix (k s f : Nat) : Nat := (k * 10 + s) * 400 + f
def CellOK (F : Nat) (mi : Nat → Nat) (S : St) (k s f : Nat) : Prop := (fz F mi k s f → gv S 252 (cix k s f) = Int32.ofInt (GG F mi k s) ∧ gv S 253 (cix k s f) = nI k ∧ gv S 254 (cix k s f) = if (s + 1 < F ∧ f + mi s ≤ 60) ∨ (s + 1 = F ∧ k = 1) then 1 else 0) ∧ (¬ fz F mi k s f → gv S 252 (cix k s f) = -100000)
theorem n_oi {a : Nat} : nI a = Int32.ofInt (a : Int) := by
  unfold nI
  exact (Int32.ofInt_eq_ofNat (n := a)).symm
theorem oi_ne {x : Int} (h : -100 ≤ x ∧ x ≤ 200) : ¬ Int32.ofInt x = -100000 := by
  intro e
  have := congrArg Int32.toInt e
  rw [Int32.toInt_ofInt_of_le (by omega) (by omega)] at this
  have e2 : (-100000 : Int32).toInt = -100000 := by decide
  omega
theorem oi_lt {x y : Int} (hx : -1000 ≤ x ∧ x ≤ 2000) (hy : -1000 ≤ y ∧ y ≤ 2000) : Int32.ofInt x < Int32.ofInt y ↔ x < y := by
  rw [Int32.lt_iff_toInt_lt, Int32.toInt_ofInt_of_le (by omega) (by omega), Int32.toInt_ofInt_of_le (by omega) (by omega)]
theorem cell_n {S : St} {k s f : Nat} : f_X11_cell S (nI k) (nI s) (nI f) = some (nI (cix k s f)) := by
  unfold f_X11_cell
  rw [show (10 : Int32) = nI 10 from rfl, show (400 : Int32) = nI 400 from rfl, nI_mul, nI_add, nI_mul, nI_add]
  rfl
theorem cix_in {k s f : Nat} (hk : k ≤ 60) (hs : s < 10) (hf : f < 400) : cix k s f < 244000 := by
  have : k * 10 + s ≤ 609 := by omega
  unfold cix; omega
theorem cix_inj {k s f k' s' f' : Nat} (hs : s < 10) (hf : f < 400) (hs' : s' < 10) (hf' : f' < 400) (h : cix k s f = cix k' s' f') : k = k' ∧ s = s' ∧ f = f' := by
  unfold cix at h; omega
theorem cix_nn {k s f : Nat} (h : cix k s f < 244000) : (nI (cix k s f) < 0) = False := eq_false (nn (by omega))
theorem cix_ix {k s f : Nat} (h : cix k s f < 244000) : ix (nI (cix k s f)) = cix k s f := ix_nI (by omega)
def wFil (c : Nat) (a j : Nat) : Prop := (a = 252 ∨ a = 253 ∨ a = 254) ∧ j = c
theorem r226 {N : Nat} {kb : St → Int32 → Option (Int32 × St)} {K : St → Option (Int32 × St)} {S : St} {v1 v2 : Int32} {k s f c : Nat} (hf : f < 400) : f_X11_fill_j226 N kb K S v1 v2 (nI (k + 1)) (nI s) (nI f) (nI c) = f_X11_fill_j247 N kb K S v1 v2 (nI (k + 1)) (nI s) (nI f) (nI c) (nI k) (nI s) (nI (f - 15)) := by
  unfold f_X11_fill_j226
  rw [nl_sub1, show (15 : Int32) = nI 15 from rfl, ite_le (by omega) (by omega)]
  by_cases h : 15 ≤ f
  · rw [if_pos h, nI_sub' h]
  · rw [if_neg h, show f - 15 = 0 by omega]
    rfl
section
variable {N : Nat} {kb : St → Int32 → Option (Int32 × St)} {K : St → Option (Int32 × St)} {S : St} {v1 v2 : Int32} {F k s f c : Nat} {mi : Nat → Nat}
theorem rest_no (hf : f < 400) (hs : s < 10) (hk : k < 60) (hc : CellOK F mi S k s (f - 15)) (h : ¬ fz F mi k s (f - 15)) : f_X11_fill_j226 N kb K S v1 v2 (nI (k + 1)) (nI s) (nI f) (nI c) = kb S (nI (f + 1)) := by
  have hb := cix_in (k := k) (s := s) (f := f - 15) (by omega) hs (by omega)
  rw [r226 hf]
  unfold f_X11_fill_j247
  simp only [cell_n, bn, cl0, cl1, oc, cix_nn hb, cix_ix hb, inG hb, or_self, or_false, false_or, if_false, if_true, reduceIte, hc.2 h, nl_add1]
theorem rest_set (hm : ∀ i, mi i ≤ 30) (hF : F ≤ 9) (hf : f < 400) (hs : s < F) (hk : k < 60) (hc : CellOK F mi S k s (f - 15)) (h : fz F mi k s (f - 15)) (hcc : c < 244000) (h2 : gv S 252 c = -100000 ∨ ∃ x : Int, gv S 252 c = Int32.ofInt x ∧ -1000 ≤ x ∧ x ≤ 1000 ∧ x < GG F mi (k + 1) s) : f_X11_fill_j226 N kb K S v1 v2 (nI (k + 1)) (nI s) (nI f) (nI c) = kb (sv (sv (sv S 252 c (Int32.ofInt (GG F mi (k + 1) s))) 253 c (nI (k + 1))) 254 c 0) (nI (f + 1)) := by
  have hb := cix_in (k := k) (s := s) (f := f - 15) (by omega) (by omega) (by omega)
  have g0 := GG_b hm hF (k := k) (s := s) (by omega) (by omega)
  have g1 := GG_b hm hF (k := k + 1) (s := s) (by omega) (by omega)
  have a1 : 3 + Int32.ofInt (GG F mi k s) = Int32.ofInt (GG F mi (k + 1) s) := by
    rw [← GG_1, Int32.ofInt_add]; rfl
  have a2 : 1 + nI k = nI (k + 1) := by rw [Int32.add_comm, nl_add1]
  rw [r226 hf]
  unfold f_X11_fill_j247 f_X11_fill_j342
  simp only [cell_n, bn, cl0, cl1, oc, cix_nn hb, cix_ix hb, inG hb, or_self, or_false, false_or, if_false, if_true, reduceIte, (hc.1 h).1, (hc.1 h).2.1, nl_add1, oi_ne g0, a1, a2, nn (show c < 2147483648 by omega), ix_nI (show c < 2147483648 by omega), inG hcc]
  rcases h2 with h2 | ⟨x, h2, h3, h4, h5⟩
  · simp only [h2, or_self, or_false, false_or, if_false, if_true, reduceIte]
  · have n1 : ¬ Int32.ofInt (GG F mi (k + 1) s) < Int32.ofInt x := by
      rw [oi_lt (by omega) (by omega)]; omega
    have n2 : ¬ Int32.ofInt (GG F mi (k + 1) s) = Int32.ofInt x := by
      intro e
      have : Int32.ofInt x < Int32.ofInt (GG F mi (k + 1) s) := (oi_lt (by omega) (by omega)).mpr h5
      rw [e] at this
      exact Int32.lt_irrefl this
    simp only [h2, n1, n2, or_self, or_false, false_or, if_false, if_true, reduceIte, ite_self]
theorem rest_eq (hm : ∀ i, mi i ≤ 30) (hF : F ≤ 9) (hf : f < 400) (hs : s < F) (hk : k < 60) (hc : CellOK F mi S k s (f - 15)) (h : fz F mi k s (f - 15)) (hcc : c < 244000) (h2 : gv S 252 c = Int32.ofInt (GG F mi (k + 1) s)) (h3 : gv S 253 c = nI (k + 1)) : f_X11_fill_j226 N kb K S v1 v2 (nI (k + 1)) (nI s) (nI f) (nI c) = kb S (nI (f + 1)) := by
  have hb := cix_in (k := k) (s := s) (f := f - 15) (by omega) (by omega) (by omega)
  have g0 := GG_b hm hF (k := k) (s := s) (by omega) (by omega)
  have g1 := GG_b hm hF (k := k + 1) (s := s) (by omega) (by omega)
  have a1 : 3 + Int32.ofInt (GG F mi k s) = Int32.ofInt (GG F mi (k + 1) s) := by
    rw [← GG_1, Int32.ofInt_add]; rfl
  have a2 : 1 + nI k = nI (k + 1) := by rw [Int32.add_comm, nl_add1]
  rw [r226 hf]
  unfold f_X11_fill_j247
  simp only [cell_n, bn, cl0, cl1, oc, cix_nn hb, cix_ix hb, inG hb, or_self, or_false, false_or, if_false, if_true, reduceIte, (hc.1 h).1, (hc.1 h).2.1, nl_add1, oi_ne g0, oi_ne g1, a1, a2, nn (show c < 2147483648 by omega), ix_nI (show c < 2147483648 by omega), inG hcc, h2, h3, show ∀ x : Int32, ¬ x < x from fun x => Int32.lt_irrefl]
end
/-- one cell -/
theorem cell_step {N : Nat} {K : St → Option (Int32 × St)} {S : St} {v1 v2 : Int32} {st k s f fuel : Nat} {mi : Nat → Nat} (hm : ∀ i, mi i ≤ 30) (hst : 2 ≤ st) (hst2 : st ≤ 10) (r1 : gv S 200 1 = nI st) (r2 : ∀ i, i < 10 → gv S 203 i = nI (mi i)) (hf : f < 400) (hs : s + 1 < st) (hk : k ≤ 60) (hp : ∀ q, k = q + 1 → ∀ s' f', s' + 1 < st → f' < 400 → CellOK (st - 1) mi S q s' f') : ∃ S', f_X11_fill_l52 N v1 v2 (nI k) (nI s) K (fuel + 1) S (nI f) = f_X11_fill_l52 N v1 v2 (nI k) (nI s) K fuel S' (nI (f + 1)) ∧ Kp (wFil (cix k s f)) S S' ∧ CellOK (st - 1) mi S' k s f := by
  have hF : st - 1 ≤ 9 := by omega
  have hsF : s < st - 1 := by omega
  have hb := cix_in (k := k) (s := s) (f := f) hk (by omega) hf
  have d1 := cix_nn hb
  have d2 := cix_ix hb
  have d3 := inG hb
  have e1 : gv (sv S 252 (cix k s f) (-100000)) 203 s = nI (mi s) := by rw [gv_ne (by omega)]; exact r2 s (by omega)
  have e2 : f_X11_fair (sv S 252 (cix k s f) (-100000)) = some (nI (st - 1)) := rd_f2 hst (by rw [gv_ne (by omega)]; exact r1)
  have k0 : Kp (wFil (cix k s f)) S (sv S 252 (cix k s f) (-100000)) := Kp.rf.sv (by unfold wFil; omega)
  rw [f_X11_fill_l52]
  rw [n400 hf, cell_n]
  simp only [bn, cl0, cl1, oc, d1, d2, d3, or_self, or_false, false_or, if_false, if_true, reduceIte]
  cases k with
  | zero =>
    rw [show nI 0 = 0 from rfl, if_pos rfl, nl_add1]
    refine ⟨_, rfl, k0, fun h => absurd h (by unfold fz; omega), fun _ => gv_at⟩
  | succ k =>
    have hpk := hp k rfl
    have ne0 : ¬ nI (k + 1) = 0 := ne_n (b := 0) (by omega) (by omega) (by omega)
    have hcell : ∀ (S' : St), Kp (wFil (cix (k + 1) s f)) S S' → ∀ s' f', s' + 1 < st → f' < 400 → CellOK (st - 1) mi S' k s' f' := by
      intro S' hkp s' f' h1 h2
      have hne : cix k s' f' ≠ cix (k + 1) s f := fun e => by
        have := cix_inj (by omega) h2 (by omega) hf e
        omega
      have := hpk s' f' h1 h2
      unfold CellOK at this ⊢
      rw [hkp.1 252 _ (fun h => hne h.2), hkp.1 253 _ (fun h => hne h.2), hkp.1 254 _ (fun h => hne h.2)]
      exact this
    simp only [ne0, nn (show s < 2147483648 by omega), ix_nI (show s < 2147483648 by omega), inG (show s < 10 by omega), or_self, or_false, false_or, if_false, if_true, reduceIte, e1, nI_add, e2, nl_sub1, nl_add1, cell_n]
    have hms := hm s
    rw [show (60 : Int32) = nI 60 from rfl, ite_lt (by omega) (by omega)]
    by_cases c1 : 60 < f + mi s
    · rw [if_pos c1]
      have fe : fz (st - 1) mi (k + 1) s f ↔ fz (st - 1) mi k s (f - 15) := by
        constructor
        · intro h
          rcases h with h | ⟨h, _⟩ | h
          · omega
          · omega
          · exact h
        · exact fun h => Or.inr (Or.inr h)
      by_cases c2 : fz (st - 1) mi k s (f - 15)
      · rw [rest_set hm hF hf hsF (by omega) (hcell _ k0 s (f - 15) hs (by omega)) c2 hb (Or.inl gv_at)]
        refine ⟨_, rfl, ((k0.sv (by unfold wFil; omega)).sv (by unfold wFil; omega)).sv (by unfold wFil; omega), fun _ => ⟨?_, ?_, ?_⟩, fun h => absurd (fe.mpr c2) h⟩
        · simp [gv_sv]
        · simp [gv_sv]
        · have k1 : k ≠ 0 := by
            intro e; subst e
            have : s = st - 1 := c2
            omega
          rw [if_neg (by omega)]
          simp [gv_sv]
      · rw [rest_no hf (by omega) (by omega) (hcell _ k0 s (f - 15) hs (by omega)) c2]
        exact ⟨_, rfl, k0, fun h => absurd (fe.mp h) c2, fun _ => gv_at⟩
    · rw [if_neg c1, ite_eq (by omega) (by omega)]
      have q5 : nI (mi s) / 5 = Int32.ofInt ((mi s / 5 : Nat) : Int) := by
        rw [show (5 : Int32) = nI 5 from rfl, nI_div' (by omega) (by omega), n_oi]
      by_cases c2 : s + 1 = st - 1
      · rw [if_pos c2]
        unfold f_X11_fill_j139 f_X11_fill_j159 f_X11_fill_j192 f_X11_fill_j217
        simp only [one0, bn, cl0, cl1, oc, d1, d2, d3, or_self, or_false, false_or, if_false, if_true, reduceIte]
        have k1 : Kp (wFil (cix (k + 1) s f)) S (sv (sv (sv (sv S 252 (cix (k + 1) s f) (-100000)) 252 (cix (k + 1) s f) (-(nI (mi s) / 5))) 253 (cix (k + 1) s f) 1) 254 (cix (k + 1) s f) 1) := ((k0.sv (by unfold wFil; omega)).sv (by unfold wFil; omega)).sv (by unfold wFil; omega)
        have g3 := GG_3 (mi := mi) (k := k) c2
        have w : fz (st - 1) mi (k + 1) s f := Or.inr (Or.inl ⟨by omega, by rw [c2]; exact fz_F _ _⟩)
        by_cases c3 : k = 0
        · subst c3
          rw [rest_no hf (by omega) (by omega) (hcell _ k1 s (f - 15) hs (by omega)) (fun h => by have : s = st - 1 := h; omega)]
          refine ⟨_, rfl, k1, fun _ => ⟨?_, ?_, ?_⟩, fun h => absurd w h⟩
          · rw [g3, gv_ne (by omega), gv_ne (by omega), gv_at, q5, ← Int32.ofInt_neg]
            congr 1
            omega
          · rw [gv_ne (by omega), gv_at]; rfl
          · rw [gv_at, if_pos (by omega)]
        · obtain ⟨q, rfl⟩ : ∃ q, k = q + 1 := ⟨k - 1, by omega⟩
          have w2 : fz (st - 1) mi (q + 1) s (f - 15) := Or.inr (Or.inl ⟨by omega, by rw [c2]; exact fz_F _ _⟩)
          rw [rest_set hm hF hf hsF (by omega) (hcell _ k1 s (f - 15) hs (by omega)) w2 hb (Or.inr ⟨-((mi s / 5 : Nat) : Int), by rw [gv_ne (by omega), gv_ne (by omega), gv_at, q5, ← Int32.ofInt_neg], by omega, by omega, by omega⟩)]
          refine ⟨_, rfl, ((k1.sv (by unfold wFil; omega)).sv (by unfold wFil; omega)).sv (by unfold wFil; omega), fun _ => ⟨?_, ?_, ?_⟩, fun h => absurd w h⟩
          · simp [gv_sv]
          · simp [gv_sv]
          · rw [gv_at, if_neg (by omega)]
      · rw [if_neg c2]
        have hpr := hcell _ k0 (s + 1) (f + mi s) (by omega) (by omega)
        have hb2 := cix_in (k := k) (s := s + 1) (f := f + mi s) (by omega) (by omega) (by omega)
        unfold f_X11_fill_j139
        simp only [or_self, or_false, false_or, if_false, if_true, reduceIte, cix_nn hb2, cix_ix hb2, inG hb2]
        by_cases c3 : fz (st - 1) mi k (s + 1) (f + mi s)
        · have g0 := GG_b hm hF (k := k) (s := s + 1) (by omega) (by omega)
          have w : fz (st - 1) mi (k + 1) s f := Or.inr (Or.inl ⟨by omega, c3⟩)
          unfold f_X11_fill_j159 f_X11_fill_j192 f_X11_fill_j217
          have nec : cix k (s + 1) (f + mi s) ≠ cix (k + 1) s f := fun e => by
            have := cix_inj (by omega) (by omega) (by omega) hf e
            omega
          have v0 : (1 - nI (mi s) / 5) + Int32.ofInt (GG (st - 1) mi k (s + 1)) = Int32.ofInt (GG (st - 1) mi (k + 1) s) := by
            rw [← GG_2 (by omega), Int32.ofInt_add, Int32.ofInt_sub, q5]; rfl
          have v1' : ∀ x, gv (sv (sv S 252 (cix (k + 1) s f) (-100000)) 252 (cix (k + 1) s f) x) 253 (cix k (s + 1) (f + mi s)) = nI k := by
            intro x
            rw [gv_ne (by omega)]
            exact (hpr.1 c3).2.1
          have a2 : 1 + nI k = nI (k + 1) := by rw [Int32.add_comm, nl_add1]
          simp only [(hpr.1 c3).1, oi_ne g0, bn, cl0, cl1, oc, d1, d2, d3, or_self, or_false, false_or, if_false, if_true, reduceIte, v0, cix_nn hb2, cix_ix hb2, inG hb2, v1', a2]
          have k1 : Kp (wFil (cix (k + 1) s f)) S (sv (sv (sv (sv S 252 (cix (k + 1) s f) (-100000)) 252 (cix (k + 1) s f) (Int32.ofInt (GG (st - 1) mi (k + 1) s))) 253 (cix (k + 1) s f) (nI (k + 1))) 254 (cix (k + 1) s f) 1) := ((k0.sv (by unfold wFil; omega)).sv (by unfold wFil; omega)).sv (by unfold wFil; omega)
          have h1 : gv (sv (sv (sv (sv S 252 (cix (k + 1) s f) (-100000)) 252 (cix (k + 1) s f) (Int32.ofInt (GG (st - 1) mi (k + 1) s))) 253 (cix (k + 1) s f) (nI (k + 1))) 254 (cix (k + 1) s f) 1) 252 (cix (k + 1) s f) = Int32.ofInt (GG (st - 1) mi (k + 1) s) := by
            rw [gv_ne (by omega), gv_ne (by omega), gv_at]
          have h2 : gv (sv (sv (sv (sv S 252 (cix (k + 1) s f) (-100000)) 252 (cix (k + 1) s f) (Int32.ofInt (GG (st - 1) mi (k + 1) s))) 253 (cix (k + 1) s f) (nI (k + 1))) 254 (cix (k + 1) s f) 1) 253 (cix (k + 1) s f) = nI (k + 1) := by
            rw [gv_ne (by omega), gv_at]
          refine ⟨_, ?_, k1, fun _ => ⟨h1, h2, ?_⟩, fun h => absurd w h⟩
          · by_cases c4 : fz (st - 1) mi k s (f - 15)
            · exact rest_eq hm hF hf hsF (by omega) (hcell _ k1 s (f - 15) hs (by omega)) c4 hb h1 h2
            · exact rest_no hf (by omega) (by omega) (hcell _ k1 s (f - 15) hs (by omega)) c4
          · rw [gv_at, if_pos (by omega)]
        · rw [hpr.2 c3, if_pos rfl]
          have w : ¬ fz (st - 1) mi (k + 1) s f := fun h => c3 (fz_ex k s f (by omega) (by omega) h)
          rw [rest_no hf (by omega) (by omega) (hcell _ k0 s (f - 15) hs (by omega)) (fun h => w (Or.inr (Or.inr h)))]
          exact ⟨_, rfl, k0, fun h => absurd h w, fun _ => gv_at⟩
/-! the three loops -/
def wRow (k s : Nat) (a j : Nat) : Prop := (a = 252 ∨ a = 253 ∨ a = 254) ∧ ∃ f, f < 400 ∧ j = cix k s f
def wLay (k st : Nat) (a j : Nat) : Prop := (a = 252 ∨ a = 253 ∨ a = 254) ∧ ∃ s f, s + 1 < st ∧ f < 400 ∧ j = cix k s f
def wAll (a j : Nat) : Prop := a = 252 ∨ a = 253 ∨ a = 254
theorem CellOK.kp {F : Nat} {mi : Nat → Nat} {w : Nat → Nat → Prop} {S S' : St} {k s f : Nat} (h : CellOK F mi S k s f) (kp : Kp w S S') (hw : ∀ a, a = 252 ∨ a = 253 ∨ a = 254 → ¬ w a (cix k s f)) : CellOK F mi S' k s f := by
  unfold CellOK at h ⊢
  rw [kp.1 252 _ (hw 252 (by omega)), kp.1 253 _ (hw 253 (by omega)), kp.1 254 _ (hw 254 (by omega))]
  exact h
theorem row_l {N : Nat} {K : St → Option (Int32 × St)} {v1 v2 : Int32} {st k s : Nat} {mi : Nat → Nat} (hm : ∀ i, mi i ≤ 30) (hst : 2 ≤ st) (hst2 : st ≤ 10) (hs : s + 1 < st) (hk : k ≤ 60) : ∀ (q f fuel : Nat) (S : St), f + q = 400 → q + 1 ≤ fuel → gv S 200 1 = nI st → (∀ i, i < 10 → gv S 203 i = nI (mi i)) → (∀ q, k = q + 1 → ∀ s' f', s' + 1 < st → f' < 400 → CellOK (st - 1) mi S q s' f') → (∀ f', f' < f → CellOK (st - 1) mi S k s f') → ∃ S', f_X11_fill_l52 N v1 v2 (nI k) (nI s) K fuel S (nI f) = K S' ∧ Kp (wRow k s) S S' ∧ ∀ f', f' < 400 → CellOK (st - 1) mi S' k s f' := by
  intro q
  induction q with
  | zero =>
    intro f fuel S hf hq r1 r2 hp hd
    obtain ⟨fuel, rfl⟩ : ∃ q, fuel = q + 1 := ⟨fuel - 1, by omega⟩
    have : f = 400 := by omega
    subst this
    rw [f_X11_fill_l52, if_pos (by decide)]
    exact ⟨S, rfl, Kp.rf, hd⟩
  | succ q ih =>
    intro f fuel S hf hq r1 r2 hp hd
    obtain ⟨fuel, rfl⟩ : ∃ q, fuel = q + 1 := ⟨fuel - 1, by omega⟩
    obtain ⟨S1, e1, k1, o1⟩ := cell_step (N := N) (K := K) (v1 := v1) (v2 := v2) (fuel := fuel) hm hst hst2 r1 r2 (show f < 400 by omega) hs hk hp
    rw [e1]
    obtain ⟨S2, e2, k2, o2⟩ := ih (f + 1) fuel S1 (by omega) (by omega) (by rw [k1.1 _ _ (by unfold wFil; omega)]; exact r1) (fun i hi => by rw [k1.1 _ _ (by unfold wFil; omega)]; exact r2 i hi) (fun q hq s' f' h1 h2 => (hp q hq s' f' h1 h2).kp k1 (fun a _ h => by
      have := cix_inj (by omega) (by omega) (by omega) (by omega) h.2
      omega)) (fun f' hf' => by
      by_cases c : f' = f
      · subst c; exact o1
      · exact (hd f' (by omega)).kp k1 (fun a _ h => by
          have := cix_inj (by omega) (by omega) (by omega) (by omega) h.2
          omega))
    refine ⟨S2, e2, (k1.mo (fun a j h => ⟨h.1, f, by omega, h.2⟩)).tr k2, o2⟩
theorem lay_l {N : Nat} {K : St → Option (Int32 × St)} {v1 v2 : Int32} {st k : Nat} {mi : Nat → Nat} (hN : 1000 ≤ N) (hm : ∀ i, mi i ≤ 30) (hst : 2 ≤ st) (hst2 : st ≤ 10) (hk : k ≤ 60) : ∀ (q s fuel : Nat) (S : St), s + q + 1 = st → q + 1 ≤ fuel → gv S 200 1 = nI st → (∀ i, i < 10 → gv S 203 i = nI (mi i)) → (∀ q, k = q + 1 → ∀ s' f', s' + 1 < st → f' < 400 → CellOK (st - 1) mi S q s' f') → (∀ s' f', s' < s → f' < 400 → CellOK (st - 1) mi S k s' f') → ∃ S', f_X11_fill_l40 N v1 v2 (nI k) K fuel S (nI s) = K S' ∧ Kp (wLay k st) S S' ∧ ∀ s' f', s' + 1 < st → f' < 400 → CellOK (st - 1) mi S' k s' f' := by
  intro q
  induction q with
  | zero =>
    intro s fuel S hf hq r1 r2 hp hd
    obtain ⟨fuel, rfl⟩ : ∃ q, fuel = q + 1 := ⟨fuel - 1, by omega⟩
    rw [f_X11_fill_l40, rd_f2 hst r1]
    simp only [bn, cl0, cl1, oc]
    rw [if_pos (le_n (by omega) (by omega))]
    exact ⟨S, rfl, Kp.rf, fun s' f' h1 h2 => hd s' f' (by omega) h2⟩
  | succ q ih =>
    intro s fuel S hf hq r1 r2 hp hd
    obtain ⟨fuel, rfl⟩ : ∃ q, fuel = q + 1 := ⟨fuel - 1, by omega⟩
    rw [f_X11_fill_l40, rd_f2 hst r1]
    simp only [bn, cl0, cl1, oc]
    rw [if_neg (nle_n (by omega) (by omega)), show (0 : Int32) = nI 0 from rfl]
    obtain ⟨S1, e1, k1, o1⟩ := row_l (N := N) (K := fun S_68 => f_X11_fill_l40 N v1 v2 (nI k) K fuel S_68 (nI s + 1)) (v1 := v1) (v2 := v2) hm hst hst2 (show s + 1 < st by omega) hk 400 0 N S (by omega) (by omega) r1 r2 hp (fun f' h => by omega)
    rw [e1, nl_add1]
    have hne : ∀ k' s' f' a, s' + 1 < st → f' < 400 → (k' ≠ k ∨ s' ≠ s) → ¬ wRow k s a (cix k' s' f') := by
      rintro k' s' f' a h1 h2 h3 ⟨_, f, h4, h5⟩
      have := cix_inj (by omega) (by omega) (by omega) (by omega) h5
      omega
    obtain ⟨S2, e2, k2, o2⟩ := ih (s + 1) fuel S1 (by omega) (by omega) (by rw [k1.1 _ _ (by unfold wRow; omega)]; exact r1) (fun i hi => by rw [k1.1 _ _ (by unfold wRow; omega)]; exact r2 i hi) (fun q hq s' f' h1 h2 => (hp q hq s' f' h1 h2).kp k1 (fun a _ => hne _ _ _ _ h1 h2 (by omega))) (fun s' f' h1 h2 => by
      by_cases c : s' = s
      · subst c; exact o1 f' h2
      · exact (hd s' f' (by omega) h2).kp k1 (fun a _ => hne _ _ _ _ (by omega) h2 (by omega)))
    exact ⟨S2, e2, (k1.mo (fun a j h => ⟨h.1, s, h.2.choose, by omega, h.2.choose_spec.1, h.2.choose_spec.2⟩)).tr k2, o2⟩
theorem all_l {N : Nat} {K : St → Option (Int32 × St)} {v1 : Int32} {st d : Nat} {mi : Nat → Nat} (hN : 1000 ≤ N) (hm : ∀ i, mi i ≤ 30) (hst : 2 ≤ st) (hst2 : st ≤ 10) (hd : d ≤ 60) : ∀ (q k fuel : Nat) (S : St), k + q = d + 1 → q + 1 ≤ fuel → gv S 200 1 = nI st → (∀ i, i < 10 → gv S 203 i = nI (mi i)) → (∀ k' s' f', k' < k → s' + 1 < st → f' < 400 → CellOK (st - 1) mi S k' s' f') → ∃ S', f_X11_fill_l32 N v1 (nI d) K fuel S (nI k) = K S' ∧ Kp wAll S S' ∧ ∀ k' s' f', k' ≤ d → s' + 1 < st → f' < 400 → CellOK (st - 1) mi S' k' s' f' := by
  intro q
  induction q with
  | zero =>
    intro k fuel S hf hq r1 r2 hp
    obtain ⟨fuel, rfl⟩ : ∃ q, fuel = q + 1 := ⟨fuel - 1, by omega⟩
    rw [f_X11_fill_l32, if_pos (lt_n (by omega) (by omega))]
    exact ⟨S, rfl, Kp.rf, fun k' s' f' h0 h1 h2 => hp k' s' f' (by omega) h1 h2⟩
  | succ q ih =>
    intro k fuel S hf hq r1 r2 hp
    obtain ⟨fuel, rfl⟩ : ∃ q, fuel = q + 1 := ⟨fuel - 1, by omega⟩
    rw [f_X11_fill_l32, if_neg (nlt_n (by omega) (by omega)), show (0 : Int32) = nI 0 from rfl]
    obtain ⟨S1, e1, k1, o1⟩ := lay_l (N := N) (K := fun S_70 => bn (nI k + 1) fun x_71 => f_X11_fill_l32 N v1 (nI d) K fuel S_70 x_71) (v1 := v1) (v2 := nI d) hN hm hst hst2 (show k ≤ 60 by omega) (st - 1) 0 N S (by omega) (by omega) r1 r2 (fun q hq s' f' h1 h2 => hp q s' f' (by omega) h1 h2) (fun s' f' h => by omega)
    rw [e1]
    simp only [bn, cl0, cl1, oc, nl_add1]
    have k2 : Kp wAll S S1 := k1.mo (fun a j h => h.1)
    obtain ⟨S2, e2, k3, o2⟩ := ih (k + 1) fuel S1 (by omega) (by omega) (by rw [k2.1 _ _ (by unfold wAll; omega)]; exact r1) (fun i hi => by rw [k2.1 _ _ (by unfold wAll; omega)]; exact r2 i hi) (fun k' s' f' h0 h1 h2 => by
      by_cases c : k' = k
      · subst c; exact o1 s' f' h1 h2
      · exact (hp k' s' f' (by omega) h1 h2).kp k1 (fun a _ => by
          rintro ⟨_, s, f, h3, h4, h5⟩
          have := cix_inj (by omega) (by omega) (by omega) (by omega) h5
          omega))
    exact ⟨S2, e2, k2.tr k3, o2⟩
/-! the class's side -/
theorem mil_n {S : St} {st s : Nat} {mi : Nat → Nat} (hst2 : st ≤ 10) (r1 : gv S 1 0 = nI st) (r2 : ∀ i, i < 10 → gv S 11 i = nI (mi i)) (hs : s < st) : f_X9_milesOfStage S (nI s) = some (nI (mi s)) := by
  unfold f_X9_milesOfStage
  simp only [rd_h1 hst2 r1 hs, bn, cl0, cl1, oc, one0, nn (show s < 2147483648 by omega), ix_nI (show s < 2147483648 by omega), inG (show s < 10 by omega), or_self, or_false, false_or, if_false, if_true, reduceIte, r2 s (by omega)]
theorem mil_t {S : St} {st : Nat} (hst2 : st ≤ 10) (r1 : gv S 1 0 = nI st) (a : Int32) : ∃ r, f_X9_milesOfStage S a = some r := by
  unfold f_X9_milesOfStage
  rcases rd_has (S := S) (T := sv S 200 1 (nI st)) hst2 r1 gv_at a with ⟨h, _⟩ | ⟨i, h1, h2, h3, _⟩
  · rw [h]; exact ⟨0, rfl⟩
  · rw [h3, h2]
    simp only [bn, cl0, cl1, oc, one0, nn (show i < 2147483648 by omega), ix_nI (show i < 2147483648 by omega), inG (show i < 10 by omega), or_self, or_false, false_or, if_false, if_true, reduceIte]
    exact ⟨_, rfl⟩
theorem may_n {S : St} {st s f : Nat} {mi : Nat → Nat} (hst2 : st ≤ 10) (hm : ∀ i, mi i ≤ 30) (r1 : gv S 1 0 = nI st) (r2 : ∀ i, i < 10 → gv S 11 i = nI (mi i)) (hs : s < st) (hf : f < 400) : f_X4_mayWalk S (nI s) (nI f) = some (if 60 < f + mi s then 0 else 1) := by
  unfold f_X4_mayWalk
  have := hm s
  rw [mil_n hst2 r1 r2 hs]
  simp only [bn, cl0, cl1, oc, nI_add]
  rw [show (60 : Int32) = nI 60 from rfl, ite_lt (by omega) (by omega)]
  split <;> rfl
theorem rested_n {S : St} {f : Nat} (hf : f < 400) : f_X4_rested S (nI f) = some (nI (f - 15)) := by
  unfold f_X4_rested
  simp only [bn, cl0, cl1, oc]
  have e : nI f - 15 = Int32.ofInt ((f : Int) - 15) := by rw [Int32.ofInt_sub, n_oi]; rfl
  have e0 : (0 : Int32) = Int32.ofInt 0 := rfl
  by_cases h : 15 < f
  · rw [if_pos (by rw [e, e0, oi_lt (by omega) (by omega)]; omega), show (15 : Int32) = nI 15 from rfl, nI_sub' (by omega)]
  · rw [if_neg (by rw [e, e0, oi_lt (by omega) (by omega)]; omega), show f - 15 = 0 by omega]
    rfl
theorem ctf_l {N : Nat} {S : St} {K : Int32 → Option Int32} {st d : Nat} {mi : Nat → Nat} (hm : ∀ i, mi i ≤ 30) (hst : 2 ≤ st) (hst2 : st ≤ 10) (hd : d ≤ 60) (r1 : gv S 1 0 = nI st) (r2 : ∀ i, i < 10 → gv S 11 i = nI (mi i)) (r3 : gv S 112 0 = nI d) : ∀ (q s f day fuel : Nat), day + q = d → q + 1 ≤ fuel → s < st → f < 400 → ∃ s', s' < st ∧ f_X4_comesToFair_l12 N S K fuel (nI s) (nI f) (nI day) = K (nI s') ∧ (s' = st - 1 ↔ fz (st - 1) mi q s f) := by
  intro q
  induction q with
  | zero =>
    intro s f day fuel hq hfu hs hf
    obtain ⟨fuel, rfl⟩ : ∃ q, fuel = q + 1 := ⟨fuel - 1, by omega⟩
    rw [f_X4_comesToFair_l12, r3, if_pos (le_n (by omega) (by omega))]
    exact ⟨s, hs, rfl, Iff.rfl⟩
  | succ q ih =>
    intro s f day fuel hq hfu hs hf
    obtain ⟨fuel, rfl⟩ : ∃ q, fuel = q + 1 := ⟨fuel - 1, by omega⟩
    rw [f_X4_comesToFair_l12, r3, if_neg (nle_n (by omega) (by omega)), rd_f1 hst r1]
    simp only [bn, cl0, cl1, oc]
    by_cases c : s = st - 1
    · rw [if_pos (le_n (by omega) (by omega))]
      exact ⟨s, hs, rfl, fun _ => Or.inl c, fun _ => c⟩
    · rw [if_neg (nle_n (by omega) (by omega)), may_n hst2 hm r1 r2 hs hf]
      simp only [bn, cl0, cl1, oc]
      have := hm s
      by_cases c2 : 60 < f + mi s
      · simp only [c2, or_self, or_false, false_or, if_false, if_true, reduceIte, rested_n hf, bn, cl0, cl1, oc, nl_add1]
        obtain ⟨s', h1, h2, h3⟩ := ih s (f - 15) (day + 1) fuel (by omega) (by omega) hs (by omega)
        refine ⟨s', h1, h2, h3.trans ⟨fun h => Or.inr (Or.inr h), fun h => ?_⟩⟩
        rcases h with h | ⟨h, _⟩ | h
        · omega
        · omega
        · exact h
      · simp only [c2, or_self, or_false, false_or, if_false, if_true, reduceIte, one0, mil_n hst2 r1 r2 hs, bn, cl0, cl1, oc, nI_add, nl_add1]
        obtain ⟨s', h1, h2, h3⟩ := ih (s + 1) (f + mi s) (day + 1) fuel (by omega) (by omega) (by omega) (by omega)
        exact ⟨s', h1, h2, h3.trans ⟨fun h => Or.inr (Or.inl ⟨by omega, h⟩), fun h => fz_ex q s f c (by omega) h⟩⟩
def smi (mi : Nat → Nat) : Nat → Nat → Int
  | _, 0 => 0
  | s, w + 1 => ((mi s / 5 : Nat) : Int) + smi mi (s + 1) w
theorem smi_cg {mi : Nat → Nat} : ∀ (w s : Nat), cg mi s (w + 1) = (w : Int) - smi mi s (w + 1)
  | 0, s => by simp [cg, smi]
  | w + 1, s => by
    have h0 := smi_cg (mi := mi) w (s + 1)
    have h1 : cg mi s (w + 1 + 1) = 1 - ((mi s / 5 : Nat) : Int) + cg mi (s + 1) (w + 1) := by rw [cg, if_neg (by omega)]
    have h2 : smi mi s (w + 1 + 1) = ((mi s / 5 : Nat) : Int) + smi mi (s + 1) (w + 1) := rfl
    omega
theorem bg_l {N : Nat} {S : St} {K : Int32 → Option Int32} {st : Nat} {mi : Nat → Nat} (hm : ∀ i, mi i ≤ 30) (hst : 2 ≤ st) (hst2 : st ≤ 10) (r1 : gv S 1 0 = nI st) (r2 : ∀ i, i < 10 → gv S 11 i = nI (mi i)) : ∀ (q s fuel : Nat) (a : Int), s + q + 1 = st → q + 1 ≤ fuel → f_X4_bestGain_l7 N S K fuel (Int32.ofInt a) (nI s) = K (Int32.ofInt (a - smi mi s q)) := by
  intro q
  induction q with
  | zero =>
    intro s fuel a hq hfu
    obtain ⟨fuel, rfl⟩ : ∃ q, fuel = q + 1 := ⟨fuel - 1, by omega⟩
    rw [f_X4_bestGain_l7, rd_f1 hst r1]
    simp only [bn, cl0, cl1, oc]
    rw [if_pos (le_n (by omega) (by omega)), smi, Int.sub_zero]
  | succ q ih =>
    intro s fuel a hq hfu
    obtain ⟨fuel, rfl⟩ : ∃ q, fuel = q + 1 := ⟨fuel - 1, by omega⟩
    have := hm s
    rw [f_X4_bestGain_l7, rd_f1 hst r1]
    simp only [bn, cl0, cl1, oc]
    rw [if_neg (nle_n (by omega) (by omega)), mil_n hst2 r1 r2 (by omega)]
    simp only [bn, cl0, cl1, oc]
    rw [show (5 : Int32) = nI 5 from rfl, nI_div' (by omega) (by omega), n_oi, ← Int32.ofInt_sub, nl_add1, ih (s + 1) fuel _ (by omega) (by omega), smi]
    congr 2
    omega
theorem bg_n {N : Nat} {S : St} {st d s : Nat} {mi : Nat → Nat} (hN : 1000 ≤ N) (hm : ∀ i, mi i ≤ 30) (hst : 2 ≤ st) (hst2 : st ≤ 10) (hd : d ≤ 60) (r1 : gv S 1 0 = nI st) (r2 : ∀ i, i < 10 → gv S 11 i = nI (mi i)) (r3 : gv S 112 0 = nI d) (r4 : gv S 112 2 = nI s) (hs : s + 1 < st) : f_X4_bestGain N S = some (Int32.ofInt (GG (st - 1) mi d s)) := by
  unfold f_X4_bestGain
  simp only [bn, cl0, cl1, oc]
  rw [r4, show (0 : Int32) = Int32.ofInt 0 from rfl, bg_l hm hst hst2 r1 r2 (st - 1 - s) s N 0 (by omega) (by omega), rd_f1 hst r1]
  simp only [bn, cl0, cl1, oc]
  rw [r3, nI_sub' (by omega)]
  obtain ⟨w, e⟩ : ∃ w, st - 1 - s = w + 1 := ⟨st - 1 - s - 1, by omega⟩
  have e5 : GG (st - 1) mi d s = (0 - smi mi s (w + 1)) + (w : Int) + 3 * ((d : Int) - ((w + 1 : Nat) : Int)) := by
    unfold GG
    rw [e, smi_cg]
    omega
  rw [e, nl_sub1, e5]
  simp only [Int32.ofInt_add, Int32.ofInt_mul, Int32.ofInt_sub, ← n_oi]
  rfl
theorem ba_step {N : Nat} {asked : Int32} {S : St} {K : Int32 → Option Int32} {st d : Nat} {mi : Nat → Nat} (hm : ∀ i, mi i ≤ 30) (hst : 2 ≤ st) (hst2 : st ≤ 10) (hd : d ≤ 60) (r1 : gv S 1 0 = nI st) (r2 : ∀ i, i < 10 → gv S 11 i = nI (mi i)) (r3 : gv S 112 0 = nI d) {q s f day fuel : Nat} (hq : day + q + 1 = d) (hs : s + 1 < st) (hf : f < 400) (hz : fz (st - 1) mi (q + 1) s f) : f_X4_bestAct_l13 N asked S K (fuel + 1) (nI s) (nI f) (nI day) = f_X4_bestAct_j72 N (f_X4_bestAct_l13 N asked S K fuel) K S asked (nI s) (nI f) (nI day) (if (s + 1 < st - 1 ∧ f + mi s ≤ 60) ∨ (s + 1 = st - 1 ∧ q + 1 = 1) then 1 else 0) := by
  rw [f_X4_bestAct_l13, r3, if_neg (nle_n (by omega) (by omega)), rd_f1 hst r1]
  unfold f_X4_bestAct_j50 f_X4_bestAct_j51 f_X4_bestAct_j71
  simp only [bn, cl0, cl1, oc, nl_add1, may_n hst2 hm r1 r2 (show s < st by omega) hf]
  rw [ite_eq (by omega) (by omega), ite_le (by omega) (by omega)]
  by_cases c1 : s + 1 = st - 1
  · by_cases c2 : q = 0
    · have c3 : ¬ 60 < f + mi s := by
        subst c2
        rcases hz with h | ⟨h, _⟩ | h
        · omega
        · omega
        · have : s = st - 1 := h
          omega
      rw [if_pos c1, if_pos (by omega), if_pos (show (s + 1 < st - 1 ∧ f + mi s ≤ 60) ∨ (s + 1 = st - 1 ∧ q + 1 = 1) by omega)]
      simp only [c3, or_self, or_false, false_or, if_false, if_true, reduceIte, one0]
    · rw [if_pos c1, if_neg (by omega), if_neg (show ¬ ((s + 1 < st - 1 ∧ f + mi s ≤ 60) ∨ (s + 1 = st - 1 ∧ q + 1 = 1)) by omega)]
      simp only [one0, or_self, or_false, false_or, if_false, if_true, reduceIte, ite_self]
  · rw [if_neg c1]
    by_cases c3 : 60 < f + mi s
    · rw [if_neg (show ¬ ((s + 1 < st - 1 ∧ f + mi s ≤ 60) ∨ (s + 1 = st - 1 ∧ q + 1 = 1)) by omega)]
      simp only [c3, or_self, or_false, false_or, if_false, if_true, reduceIte]
    · rw [if_pos (show (s + 1 < st - 1 ∧ f + mi s ≤ 60) ∨ (s + 1 = st - 1 ∧ q + 1 = 1) by omega)]
      simp only [c3, or_self, or_false, false_or, if_false, if_true, reduceIte, one0]
theorem act_l {N : Nat} {S T : St} {K : Int32 → Option Int32} {K2 : Int32 → Int32 → Option (Int32 × St)} {st d p : Nat} {mi : Nat → Nat} (hm : ∀ i, mi i ≤ 30) (hst : 2 ≤ st) (hst2 : st ≤ 10) (hd : d ≤ 60) (hp : p < d) (r1 : gv S 1 0 = nI st) (r2 : ∀ i, i < 10 → gv S 11 i = nI (mi i)) (r3 : gv S 112 0 = nI d) (r4 : ∀ i, i < 10 → gv T 203 i = nI (mi i)) (hc : ∀ k' s' f', k' ≤ d → s' + 1 < st → f' < 400 → CellOK (st - 1) mi T k' s' f') : ∀ (q s f day fuel : Nat), day + q = p → q + 1 ≤ fuel → s + 1 < st → f < 400 → fz (st - 1) mi (d - day) s f → ∃ s' f', s' + 1 < st ∧ f' < 400 ∧ fz (st - 1) mi (d - p) s' f' ∧ f_X4_bestAct_l13 N (nI p) S K fuel (nI s) (nI f) (nI day) = K (if (s' + 1 < st - 1 ∧ f' + mi s' ≤ 60) ∨ (s' + 1 = st - 1 ∧ d - p = 1) then 1 else 0) ∧ f_X11_act_l59 N (nI d) (nI p) T K2 fuel (nI s) (nI f) (nI day) = K2 (nI s') (nI f') := by
  intro q
  induction q with
  | zero =>
    intro s f day fuel hq hfu hs hf hz
    obtain ⟨fuel, rfl⟩ : ∃ q, fuel = q + 1 := ⟨fuel - 1, by omega⟩
    have : day = p := by omega
    subst this
    have e : d - day = (d - day - 1) + 1 := by omega
    refine ⟨s, f, hs, hf, hz, ?_, ?_⟩
    · rw [e] at hz ⊢
      rw [ba_step hm hst hst2 hd r1 r2 r3 (q := d - day - 1) (by omega) hs hf hz]
      unfold f_X4_bestAct_j72
      rw [if_pos rfl]
    · rw [f_X11_act_l59, if_pos (le_n (by omega) (by omega))]
  | succ q ih =>
    intro s f day fuel hq hfu hs hf hz
    obtain ⟨fuel, rfl⟩ : ∃ q, fuel = q + 1 := ⟨fuel - 1, by omega⟩
    obtain ⟨u, e⟩ : ∃ u, d - day = u + 2 := ⟨d - day - 2, by omega⟩
    have ho := (hc (d - day) s f (by omega) hs hf).1 hz
    have hb := cix_in (k := d - day) (s := s) (f := f) (by omega) (by omega) hf
    have hms := hm s
    rw [e] at hz
    rw [ba_step hm hst hst2 hd r1 r2 r3 (q := u + 1) (by omega) hs hf hz, f_X11_act_l59, if_neg (nle_n (by omega) (by omega)), nI_sub' (by omega), cell_n]
    simp only [bn, cl0, cl1, oc, cix_nn hb, cix_ix hb, inG hb, or_self, or_false, false_or, if_false, if_true, reduceIte, ho.2.2]
    unfold f_X4_bestAct_j72
    rw [if_neg (ne_n (by omega) (by omega) (by omega))]
    by_cases c : s + 1 < st - 1 ∧ f + mi s ≤ 60
    · rw [if_pos (Or.inl c), if_pos (Or.inl c), if_neg (by decide), if_neg (by decide), mil_n hst2 r1 r2 (by omega)]
      simp only [bn, cl0, cl1, oc, nI_add, nl_add1, nn (show s < 2147483648 by omega), ix_nI (show s < 2147483648 by omega), inG (show s < 10 by omega), or_self, or_false, false_or, if_false, if_true, reduceIte, r4 s (by omega)]
      exact ih (s + 1) (f + mi s) (day + 1) fuel (by omega) (by omega) (by omega) (by omega) (by
        rw [show d - (day + 1) = u + 1 by omega]
        exact fz_ex _ _ _ (by omega) c.2 hz)
    · rw [if_neg (show ¬ ((s + 1 < st - 1 ∧ f + mi s ≤ 60) ∨ (s + 1 = st - 1 ∧ u + 1 + 1 = 1)) by omega), if_neg (show ¬ ((s + 1 < st - 1 ∧ f + mi s ≤ 60) ∨ (s + 1 = st - 1 ∧ d - day = 1)) by omega), if_pos rfl, if_pos rfl, rested_n hf]
      simp only [bn, cl0, cl1, oc, nl_add1]
      have hz2 : fz (st - 1) mi (d - (day + 1)) s (f - 15) := by
        rw [show d - (day + 1) = u + 1 by omega]
        rcases hz with h | ⟨h, h2⟩ | h
        · omega
        · have : s + 1 = st - 1 := by omega
          exact Or.inr (Or.inl ⟨by omega, by rw [this]; exact fz_F _ _⟩)
        · exact h
      obtain ⟨s', f', h1, h2, h3, h4, h5⟩ := ih s (f - 15) (day + 1) fuel (by omega) (by omega) hs (by omega) hz2
      refine ⟨s', f', h1, h2, h3, h4, ?_⟩
      rw [← h5, show (15 : Int32) = nI 15 from rfl, ite_le (by omega) (by omega)]
      by_cases c5 : 15 ≤ f
      · rw [if_pos c5, nI_sub' c5]
      · rw [if_neg c5, show f - 15 = 0 by omega]; rfl
theorem act_m {N : Nat} {S : St} {K : Int32 → Option Int32} {st d : Nat} {asked : Int32} (hst : 2 ≤ st) (hst2 : st ≤ 10) (hd : d ≤ 60) (r1 : gv S 1 0 = nI st) (r3 : gv S 112 0 = nI d) (ha : ∀ j, j < d → nI j ≠ asked) : ∀ (q day fuel : Nat) (v2 v3 : Int32), day + q = d → q + 1 ≤ fuel → f_X4_bestAct_l13 N asked S K fuel v2 v3 (nI day) = some (-1) := by
  intro q
  induction q with
  | zero =>
    intro day fuel v2 v3 hq hfu
    obtain ⟨fuel, rfl⟩ : ∃ q, fuel = q + 1 := ⟨fuel - 1, by omega⟩
    rw [f_X4_bestAct_l13, r3, if_pos (le_n (by omega) (by omega))]
  | succ q ih =>
    intro day fuel v2 v3 hq hfu
    obtain ⟨fuel, rfl⟩ : ∃ q, fuel = q + 1 := ⟨fuel - 1, by omega⟩
    have j72 : ∀ w, f_X4_bestAct_j72 N (f_X4_bestAct_l13 N asked S K fuel) K S asked v2 v3 (nI day) w = some (-1) := by
      intro w
      unfold f_X4_bestAct_j72
      rw [if_neg (ha day (by omega))]
      obtain ⟨r, hr⟩ := mil_t hst2 r1 v2
      unfold f_X4_rested
      simp only [bn, cl0, cl1, oc, hr, nl_add1]
      split
      · exact ih (day + 1) fuel _ _ (by omega) (by omega)
      · exact ih (day + 1) fuel _ _ (by omega) (by omega)
    have j51 : ∀ w, f_X4_bestAct_j51 N (f_X4_bestAct_l13 N asked S K fuel) K S asked v2 v3 (nI day) w = some (-1) := by
      intro w
      obtain ⟨r, hr⟩ := mil_t hst2 r1 v2
      unfold f_X4_bestAct_j51 f_X4_bestAct_j71 f_X4_mayWalk
      by_cases c : 60 < v3 + r
      · simp only [bn, cl0, cl1, oc, hr, c, or_self, or_false, false_or, if_false, if_true, reduceIte, j72]
      · simp only [bn, cl0, cl1, oc, hr, c, or_self, or_false, false_or, if_false, if_true, reduceIte, one0, j72, ite_self]
    rw [f_X4_bestAct_l13, r3, if_neg (nle_n (by omega) (by omega)), rd_f1 hst r1]
    unfold f_X4_bestAct_j50
    simp only [bn, cl0, cl1, oc, j51, ite_self]
theorem InvN.oth {n st : Nat} {w : Nat → Nat → Prop} {S S' : St} (h : InvN n st S S) (k : Kp w S S') (hw : ∀ a j, w a j → 250 ≤ a ∧ a ≤ 254) : InvN n st S' S' := by
  obtain ⟨hn, hr, hDay, hLet, hFlt, hBil, hRoad, hPas, hTap, hHrd, hOrd⟩ := h
  refine ⟨hn, hr.kp k, hDay.kp k (fun a j h h2 => ?_), hLet.kp k (fun a j h h2 => ?_), hFlt.kp k (fun a j h h2 => ?_), hBil.kp k (fun a j h h2 => ?_), hRoad.kp k (fun a j h h2 => ?_), hPas.kp k (fun a j h h2 => ?_), hTap.kp k (fun a j h h2 => ?_), hHrd.kp hn k (fun a j h h2 => ?_), hOrd.kp hn hr k (fun a j h h2 => ?_)⟩
  · have := hw a j h2; unfold rDay at h; omega
  · have := hw a j h2; unfold rLet at h; omega
  · have := hw a j h2; unfold rFlt at h; omega
  · have := hw a j h2; unfold rBil at h; omega
  · have := hw a j h2; unfold rRoad at h; omega
  · have := hw a j h2; unfold rPas at h; omega
  · have := hw a j h2; unfold rTap at h; omega
  · have := hw a j h2; unfold rHrd at h; omega
  · have := hw a j h2; unfold rOrd at h; omega
def WayIs (S8 S2 : St) (a1 a2 : Int32) (st d sc so k : Nat) (mi : Nat → Nat) : Prop := 2 ≤ st ∧ st ≤ 10 ∧ 1 ≤ d ∧ d ≤ 60 ∧ k < 6 ∧ a1 = nI k ∧ a2 = nI d ∧ (∀ i, mi i ≤ 30) ∧ sc + 1 < st ∧ so < 400 ∧ gv S8 1 0 = nI st ∧ (∀ i, i < 10 → gv S8 11 i = nI (mi i)) ∧ gv S8 112 0 = nI d ∧ gv S8 112 2 = nI sc ∧ gv S8 112 3 = nI so ∧ gv S2 217 k = nI sc ∧ gv S2 216 k = nI so ∧ (∀ i, i < 10 → gv S2 203 i = nI (mi i)) ∧ (∀ k' s' f', k' ≤ d → s' + 1 < st → f' < 400 → CellOK (st - 1) mi S2 k' s' f') ∧ fz (st - 1) mi d sc so
theorem way_both {N : Nat} (hN : 1000 ≤ N) {n st : Nat} {S : St} (hv : InvN n st S S) (a1 a2 : Int32) : ∃ S2, Kp wAll S S2 ∧ ((f_X10_findWay (LL n) N S a1 a2 = some none ∧ f_X11_fill N S a1 a2 = some (0, S2)) ∨ ∃ S8 d sc so k mi, f_X10_findWay (LL n) N S a1 a2 = some (some S8) ∧ f_X11_fill N S a1 a2 = some (1, S2) ∧ WayIs S8 S2 a1 a2 st d sc so k mi) := by
  obtain ⟨hn, hr, hDay, hLet, hFlt, hBil, ⟨s2, s10, r1, r2, ⟨mi, m1, m2, m3, m4⟩, r6, r7⟩, hPas, hTap, ⟨q1, q2, q3, q4⟩, hOrd⟩ := hv
  unfold f_X10_findWay
  rcases hd_find hn q1 q2 hr a1 with ⟨h1, h2⟩ | ⟨k, hk, e, h1, h2, h3⟩
  · refine ⟨S, Kp.rf, Or.inl ⟨?_, ?_⟩⟩
    · rw [h1]; rfl
    · unfold f_X11_fill
      rw [h2]; rfl
  · subst e
    have hk6 : k < 6 := by omega
    rw [h1, within_eq]
    obtain ⟨_, _, b3, _, b5, b6, _, _, _, _, _, he, we, so, sc, co, ne, g1, g2, g3, g4, g5, g6, g7, g8, g9, _⟩ := q3 k hk
    have fl0 : ∀ x, f_X11_fill N S (nI k) x = if x < 1 then some (0, S) else if 60 < x then some (0, S) else if nI he = 0 then some (0, S) else f_X11_fill_l32 N (nI k) x (fun S_72 => if nI k < 0 ∨ 6 ≤ ix (nI k) then none else if nI k < 0 ∨ 6 ≤ ix (nI k) then none else cl0 (f_X11_cell S_72 x (gv S_72 217 (ix (nI k))) (gv S_72 216 (ix (nI k)))) fun r_76 => if r_76 < 0 ∨ 244000 ≤ ix r_76 then none else if (gv S_72 252 (ix r_76)) = (-100000) then (some (0, S_72)) else (some (1, S_72))) N S 0 := by
      intro x
      unfold f_X11_fill
      rw [h2]
      rw [cl0s, if_neg (show ¬ (1 : Int32) = 0 by decide), if_neg (in_ok hk6 (by omega))]
      have e9 : gv S 212 (ix (nI k)) = nI he := by rw [ix_nI (by omega)]; exact g1
      rw [e9]
    rw [fl0]
    simp only [cl0s, ocs, if_pos h3, b3, g1]
    by_cases c1 : nI he = 0
    · refine ⟨S, Kp.rf, Or.inl ⟨?_, ?_⟩⟩
      · rw [if_pos c1]
      · rw [if_pos c1, ite_self, ite_self]
    · rw [if_neg c1]
      have he0 : 0 < he := by
        apply Nat.pos_of_ne_zero
        intro h; subst h; exact c1 rfl
      by_cases c2 : a2 < 1 ∨ 60 < a2
      · refine ⟨S, Kp.rf, Or.inl ⟨?_, ?_⟩⟩
        · simp only [c2, or_self, or_false, false_or, if_false, if_true, reduceIte]
        · rcases c2 with c2 | c2
          · rw [if_pos c2]
          · rw [if_pos c2, ite_self]
      · obtain ⟨d, d1, d2, e⟩ := i_rng (lo := 1) (hi := 60) (by omega) (by omega) c2
        subst e
        have hsc := g9 he0
        have hso : so < 400 := by omega
        have n1 : ¬ nI d < 1 := fun h => c2 (Or.inl h)
        have n2 : ¬ 60 < nI d := fun h => c2 (Or.inr h)
        rw [if_neg c2, if_neg (show ¬ (1 : Int32) = 0 by decide), if_neg n1, if_neg n2, if_neg c1]
        unfold f_X4_init
        simp only [bn]
        have z : ∀ a j, a ≠ 112 → gv (zr S 112) a j = gv S a j := fun a j h => by rw [gv_zr, if_neg h]
        have f1 : gv (zr S 112) (60 + k) 5 = nI sc := by rw [z _ _ (by omega), b6]; exact g7
        have f2 : gv (zr S 112) (60 + k) 4 = nI so := by rw [z _ _ (by omega), b5]; exact g5
        rw [f1, f2]
        generalize hS8 : sv (sv (sv (sr (zr S 112) 112 1 (some 1)) 112 0 (nI d)) 112 2 (nI sc)) 112 3 (nI so) = S8
        have z8 : ∀ a j, a ≠ 112 → gv S8 a j = gv S a j := fun a j h => by
          rw [← hS8, gv_ne h, gv_ne h, gv_ne h, gv_sr, z _ _ h]
        have w1 : gv S8 112 0 = nI d := by rw [← hS8]; simp [gv_sv]
        have w2 : gv S8 112 2 = nI sc := by rw [← hS8]; simp [gv_sv]
        have w3 : gv S8 112 3 = nI so := by rw [← hS8]; simp [gv_sv]
        have w4 : gv S8 1 0 = nI st := by rw [z8 _ _ (by omega)]; exact r1
        have w5 : ∀ i, i < 10 → gv S8 11 i = nI (mi i) := fun i hi => by rw [z8 _ _ (by omega)]; exact (m3 i hi).1
        obtain ⟨s', u1, u2, u3⟩ := ctf_l (N := N) (K := fun x_19 => cl0 (f_X9_fair S8) fun r_21 => if x_19 = r_21 then (some 1) else (some 0)) m1 s2 s10 d2 w4 w5 w1 d sc so 0 N (by omega) (by omega) (by omega) hso
        have ef : f_X4_comesToFair N S8 = some (if s' = st - 1 then 1 else 0) := by
          unfold f_X4_comesToFair
          simp only [bn, w2, w3]
          refine Eq.trans u2 ?_
          rw [rd_f1 s2 w4]
          simp only [bn, cl0, cl1, oc]
          rw [ite_eq (by omega) (by omega)]
          split <;> rfl
        rw [cl0s, ef]
        obtain ⟨S2, v1, v2, v3⟩ := all_l (N := N) (K := fun S_72 => if nI k < 0 ∨ 6 ≤ ix (nI k) then none else if nI k < 0 ∨ 6 ≤ ix (nI k) then none else cl0 (f_X11_cell S_72 (nI d) (gv S_72 217 (ix (nI k))) (gv S_72 216 (ix (nI k)))) fun r_76 => if r_76 < 0 ∨ 244000 ≤ ix r_76 then none else if (gv S_72 252 (ix r_76)) = (-100000) then (some (0, S_72)) else (some (1, S_72))) (v1 := nI k) hN m1 s2 s10 d2 (d + 1) 0 N S (by omega) (by omega) r2 (fun i hi => (m3 i hi).2) (fun k' s' f' h => by omega)
        have x1 : gv S2 217 k = nI sc := by rw [v2.1 _ _ (by unfold wAll; omega)]; exact g7
        have x2 : gv S2 216 k = nI so := by rw [v2.1 _ _ (by unfold wAll; omega)]; exact g5
        have hb := cix_in (k := d) (s := sc) (f := so) d2 (by omega) hso
        have ho := v3 d sc so (Nat.le_refl _) (by omega) hso
        refine ⟨S2, v2, ?_⟩
        rw [show f_X11_fill_l32 N (nI k) (nI d) (fun S_72 => if nI k < 0 ∨ 6 ≤ ix (nI k) then none else if nI k < 0 ∨ 6 ≤ ix (nI k) then none else cl0 (f_X11_cell S_72 (nI d) (gv S_72 217 (ix (nI k))) (gv S_72 216 (ix (nI k)))) fun r_76 => if r_76 < 0 ∨ 244000 ≤ ix r_76 then none else if (gv S_72 252 (ix r_76)) = (-100000) then (some (0, S_72)) else (some (1, S_72))) N S 0 = _ from v1]
        simp only [bn, cl0, cl1, oc, nn (show k < 2147483648 by omega), ix_nI (show k < 2147483648 by omega), inG hk6, x1, x2, cell_n, cix_nn hb, cix_ix hb, inG hb, or_self, or_false, false_or, if_false, if_true, reduceIte]
        by_cases c3 : s' = st - 1
        · have hz := u3.mp c3
          have gb := GG_b (F := st - 1) m1 (by omega) (k := d) (s := sc) (by omega) (by omega)
          rw [if_pos c3, if_neg (by decide), (ho.1 hz).1, if_neg (oi_ne gb)]
          exact Or.inr ⟨S8, d, sc, so, k, mi, rfl, rfl, s2, s10, d1, d2, hk6, rfl, rfl, m1, by omega, hso, w4, w5, w1, w2, w3, x1, x2, fun i hi => by rw [v2.1 _ _ (by unfold wAll; omega)]; exact (m3 i hi).2, v3, hz⟩
        · rw [if_neg c3, if_pos rfl, ho.2 (fun h => c3 (u3.mpr h)), if_pos rfl]
          exact Or.inl ⟨rfl, rfl⟩
theorem stp_13 {N : Nat} (hN : 1000 ≤ N) : Stp_13 N Inv := by
  intro L S a1 a2 hi
  obtain ⟨n, st, hL, hv⟩ := hi
  subst hL
  obtain ⟨S2, kp, h⟩ := way_both hN hv a1 a2
  have hv2 : Inv (LL n) S2 := ⟨n, st, rfl, hv.oth kp (fun a j h => by unfold wAll at h; omega)⟩
  unfold f_X10_gain f_X11_gain
  rcases h with ⟨h1, h2⟩ | ⟨S8, d, sc, so, k, mi, h1, h2, s2, s10, d1, d2, hk6, e1, e2, m1, hsc, hso, w4, w5, w1, w2, w3, x1, x2, x3, v3, hz⟩
  · rw [h1, h2]
    exact ⟨-100000, S2, rfl, rfl, hv2⟩
  · have hb := cix_in (k := d) (s := sc) (f := so) d2 (by omega) hso
    have ho := v3 d sc so (Nat.le_refl _) (by omega) hso
    rw [h1, h2]
    subst e1; subst e2
    simp only [bn, cl0, cl1, oc, one0, bg_n hN m1 s2 s10 d2 w4 w5 w1 w2 hsc, nn (show k < 2147483648 by omega), ix_nI (show k < 2147483648 by omega), inG hk6, x1, x2, cell_n, cix_nn hb, cix_ix hb, inG hb, or_self, or_false, false_or, if_false, if_true, reduceIte, (ho.1 hz).1]
    exact ⟨_, S2, rfl, rfl, hv2⟩
theorem stp_14 {N : Nat} (hN : 1000 ≤ N) : Stp_14 N Inv := by
  intro L S a1 a2 hi
  obtain ⟨n, st, hL, hv⟩ := hi
  subst hL
  obtain ⟨S2, kp, h⟩ := way_both hN hv a1 a2
  have hv2 : Inv (LL n) S2 := ⟨n, st, rfl, hv.oth kp (fun a j h => by unfold wAll at h; omega)⟩
  unfold f_X10_length f_X11_length
  rcases h with ⟨h1, h2⟩ | ⟨S8, d, sc, so, k, mi, h1, h2, s2, s10, d1, d2, hk6, e1, e2, m1, hsc, hso, w4, w5, w1, w2, w3, x1, x2, x3, v3, hz⟩
  · rw [h1, h2]
    exact ⟨-1, S2, rfl, rfl, hv2⟩
  · have hb := cix_in (k := d) (s := sc) (f := so) d2 (by omega) hso
    have ho := v3 d sc so (Nat.le_refl _) (by omega) hso
    rw [h1, h2]
    subst e1; subst e2
    simp only [bn, cl0, cl1, oc, one0, w1, nn (show k < 2147483648 by omega), ix_nI (show k < 2147483648 by omega), inG hk6, x1, x2, cell_n, cix_nn hb, cix_ix hb, inG hb, or_self, or_false, false_or, if_false, if_true, reduceIte, (ho.1 hz).2.1]
    exact ⟨_, S2, rfl, rfl, hv2⟩
theorem stp_15 {N : Nat} (hN : 1000 ≤ N) : Stp_15 N Inv := by
  intro L S a1 a2 a3 hi
  obtain ⟨n, st, hL, hv⟩ := hi
  subst hL
  obtain ⟨S2, kp, h⟩ := way_both hN hv a1 a2
  have hv2 : Inv (LL n) S2 := ⟨n, st, rfl, hv.oth kp (fun a j h => by unfold wAll at h; omega)⟩
  unfold f_X10_act f_X11_act
  rcases h with ⟨h1, h2⟩ | ⟨S8, d, sc, so, k, mi, h1, h2, s2, s10, d1, d2, hk6, e1, e2, m1, hsc, hso, w4, w5, w1, w2, w3, x1, x2, x3, v3, hz⟩
  · rw [h1, h2]
    exact ⟨-1, S2, rfl, rfl, hv2⟩
  · have hb := cix_in (k := d) (s := sc) (f := so) d2 (by omega) hso
    have ho := v3 d sc so (Nat.le_refl _) (by omega) hso
    rw [h1, h2]
    subst e1; subst e2
    unfold f_X4_bestAct
    simp only [bn, cl0s, cl1s, one0, w2, w3, nn (show k < 2147483648 by omega), ix_nI (show k < 2147483648 by omega), inG hk6, x1, x2, cell_n, cix_nn hb, cix_ix hb, inG hb, or_self, or_false, false_or, if_false, if_true, reduceIte, (ho.1 hz).2.1]
    rw [show (0 : Int32) = nI 0 from rfl]
    by_cases c1 : a3 < nI 0
    · rw [if_pos c1, act_m s2 s10 d2 w4 w1 (fun j hj e => by rw [← e] at c1; exact nn (by omega) c1) d 0 N _ _ (by omega) (by omega)]
      exact ⟨-1, S2, rfl, rfl, hv2⟩
    · rw [if_neg c1]
      by_cases c2 : a3 < nI d
      · obtain ⟨p, hp, e⟩ := i_lt (by omega) c1 (fun h => Int32.lt_irrefl (Int32.lt_of_lt_of_le c2 h))
        subst e
        rw [if_pos c2]
        obtain ⟨s', f', y1, y2, y3, y4, y5⟩ := act_l (N := N) (K := fun x_23 => if x_23 = nI 0 then (some (nI 0)) else (some 1)) (K2 := fun x_30 x_31 => cl0 (f_X11_cell S2 (nI d - nI p) x_30 x_31) fun r_33 => if r_33 < nI 0 ∨ 244000 ≤ ix r_33 then none else if (gv S2 254 (ix r_33)) = nI 0 then (some (nI 0, S2)) else (some (1, S2))) m1 s2 s10 d2 hp w4 w5 w1 x3 v3 p sc so 0 N (by omega) (by omega) hsc hso hz
        have hb2 := cix_in (k := d - p) (s := s') (f := f') (by omega) (by omega) y2
        have ho2 := v3 (d - p) s' f' (by omega) (by omega) y2
        rw [y4, y5, nI_sub' (by omega), cell_n]
        simp only [bn, cl0, cl1, oc, show nI 0 = (0 : Int32) from rfl, cix_nn hb2, cix_ix hb2, inG hb2, or_self, or_false, false_or, if_false, if_true, reduceIte, (ho2.1 y3).2.2]
        by_cases cw : (s' + 1 < st - 1 ∧ f' + mi s' ≤ 60) ∨ (s' + 1 = st - 1 ∧ d - p = 1)
        · simp only [if_pos cw, one0, or_self, or_false, false_or, if_false, if_true, reduceIte]
          exact ⟨1, S2, rfl, rfl, hv2⟩
        · simp only [if_neg cw, or_self, or_false, false_or, if_false, if_true, reduceIte]
          exact ⟨0, S2, rfl, rfl, hv2⟩
      · rw [if_neg c2, act_m s2 s10 d2 w4 w1 (fun j hj e => by rw [← e] at c2; exact c2 (lt_n hj (by omega))) d 0 N _ _ (by omega) (by omega)]
        exact ⟨-1, S2, rfl, rfl, hv2⟩
end WAY
