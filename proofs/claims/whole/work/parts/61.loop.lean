section LAWL
variable {p : Program} {l : Launch} {e : Env} {R : Room} {s : State} {m : MethodId} {args : Array Value} {below : List Frame} {meth : Method} {c : Code} {H : Heap} {locs : List Loc} {cells slots : Nat} {Q : State → Prop}
variable {pc : Nat} {ls : Array Slot} {rest : List Value} {A : Nat → Prop} {g : Cx} {ad : Nat → Nat} {L : List Nat} {S : St} {N b Lz : Nat} {xs : Nat → Int32}
def tmS (i : Nat) : Term := if i = 0 then .string "DroveRoads$Lexer" 70 else .string "DroveRoads$Lexer" 63
set_option maxRecDepth 20000 in
theorem sw_mem : ∀ i, i < 2 → ∀ j, j < sw_len.getD i 0 → Cond.eq (.elem (.field (tmS i) "java/lang/String" "value" "[B") (.int (Int32.ofNat j))) (.int ((sw_byt.getD i []).getD j 0)) ∈ flatC (Jvm.Cond.and given_1 narrow_1) := by decide +kernel
set_option maxRecDepth 20000 in
theorem nest_mem : ∀ q ∈ nestL, Cond.methodLinkNest q.1 q.2.1 q.2.2 "DroveRoads" ∈ lw_tbl := by decide +kernel
set_option maxRecDepth 20000 in
set_option maxHeartbeats 4000000 in
theorem start_world {p : Program} {s : State} {m : MethodId} {meth : Method} {c : Code} {b Lz : Nat} {xs : Nat → Int32} (C0 : lw_At p s m meth c b Lz xs) : ∃ g : Cx, va_K g.1 vwCl (gtys g) s ∧ NW s ∧ SW g (fun q => s.heap.size ≤ q) s := by
  obtain ⟨hx, hb, hr, hml, hown, hts, hX, hbl, hlocks, hgv⟩ := id C0
  have hs := flat_of_before _ hgv
  have hA : ∀ a : Nat, a < s.heap.size → ¬ (fun q : Nat => s.heap.size ≤ q) a := fun a h => Nat.not_le.mpr h
  have htg : ∀ w ∈ gw_tbl, w.before #[Value.ref b] s = true := fun w hw => hts w (gw_lw w hw)
  obtain ⟨c0, i0, hK0⟩ := u_known (C := RX0) (T := TX0) (N := 7) (n := 7) htg inX0 (htg _ mw_140)
  obtain ⟨c1, i1, hK1⟩ := u_known (C := RX1) (T := TX1) (N := 12) (n := 12) htg inX1 (htg _ mw_333)
  obtain ⟨c2, i2, hK2⟩ := u_known (C := RX2) (T := TX2) (N := 3) (n := 3) htg inX2 (htg _ mw_123)
  obtain ⟨c3, i3, hK3⟩ := u_known (C := RX3) (T := TX3) (N := 6) (n := 6) htg inX3 (htg _ mw_439)
  obtain ⟨c4, i4, hK4⟩ := u_known (C := RX4) (T := TX4) (N := 4) (n := 4) htg inX4 (htg _ mw_826)
  obtain ⟨c5, i5, hK5⟩ := u_known (C := RX5) (T := TX5) (N := 5) (n := 5) htg inX5 (htg _ mw_221)
  obtain ⟨c6, i6, hK6⟩ := u_known (C := RX6) (T := TX6) (N := 5) (n := 5) htg inX6 (htg _ mw_433)
  obtain ⟨c7, i7, hK7⟩ := u_known (C := RX7) (T := TX7) (N := 8) (n := 8) htg inX7 (htg _ mw_146)
  obtain ⟨c8, i8, hK8⟩ := u_known (C := RX8) (T := TX8) (N := 3) (n := 3) htg inX8 (htg _ mw_204)
  obtain ⟨c9, i9, hK9⟩ := u_known (C := RX9) (T := TX9) (N := 7) (n := 7) htg inX9 (htg _ mw_93)
  obtain ⟨c10, i10, hK10⟩ := u_known (C := RX10) (T := TX10) (N := 12) (n := 12) htg inX10 (htg _ mw_85)
  obtain ⟨c11, i11, hK11⟩ := u_known (C := RX11) (T := TX11) (N := 67) (n := 67) htg inX11 (htg _ mw_955)
  obtain ⟨dC, dI, hKc⟩ : ∃ (dC : Nat → ClassId) (dI : Nat → Nat → Nat), ∀ (k : Nat) (q : vw_C), vwCl[k]? = some q → u_Kn s q.1 q.2.1 q.2.2 (dC k) (dI k) := by
    refine ⟨fun k => [c0, c1, c2, c3, c4, c5, c6, c7, c8, c9, c10, c11].getD k c0, fun k => [i0, i1, i2, i3, i4, i5, i6, i7, i8, i9, i10, i11].getD k i0, ?_⟩
    intro k q hq
    match k, hq with
    | 0, hq => cases hq; exact hK0
    | 1, hq => cases hq; exact hK1
    | 2, hq => cases hq; exact hK2
    | 3, hq => cases hq; exact hK3
    | 4, hq => cases hq; exact hK4
    | 5, hq => cases hq; exact hK5
    | 6, hq => cases hq; exact hK6
    | 7, hq => cases hq; exact hK7
    | 8, hq => cases hq; exact hK8
    | 9, hq => cases hq; exact hK9
    | 10, hq => cases hq; exact hK10
    | 11, hq => cases hq; exact hK11
    | k + 12, hq => simp [vwCl] at hq
  obtain ⟨cB, kB, mB, B1, B2, B3⟩ := Cond.arrayClass_spec (htg _ mw_219)
  obtain ⟨cI, kI, mI, I1, I2, I3⟩ := Cond.arrayClass_spec (htg _ mw_121)
  obtain ⟨cZ, kZ, mZ, Z1, Z2, Z3⟩ := Cond.arrayClass_spec (htg _ mw_1163)
  have hao : va_AO "DroveRoads$Herd" s := va_AO.of (hts (.arrayOver (.object "DroveRoads$Herd")) (by decide +kernel))
  obtain ⟨mH, cH, kH, H1, H2, H3, H4, H5⟩ := Cond.arrayOver_spec hao
  obtain ⟨adK, adV, hvs, hev⟩ := vk_Sof (args := #[Value.ref b]) (s := s) (N := 2) (tm := tmS) (len := sw_len) (byt := sw_byt) (A := fun q => s.heap.size ≤ q) (by decide +kernel) (fun i hi => hs _ ((by decide +kernel : ∀ i, i < 2 → Cond.exactly (tmS i) "java/lang/String" ∈ flatC (Jvm.Cond.and given_1 narrow_1)) i hi)) (fun i hi => hs _ ((by decide +kernel : ∀ i, i < 2 → Cond.eq (.field (tmS i) "java/lang/String" "coder" "B") (.int 0) ∈ flatC (Jvm.Cond.and given_1 narrow_1)) i hi)) (fun i hi => hs _ ((by decide +kernel : ∀ i, i < 2 → Cond.arrayOf (.field (tmS i) "java/lang/String" "value" "[B") .byte ∈ flatC (Jvm.Cond.and given_1 narrow_1)) i hi)) (fun i hi => hs _ ((by decide +kernel : ∀ i, i < 2 → Cond.eq (.length (.field (tmS i) "java/lang/String" "value" "[B")) (.int (Int32.ofNat (sw_len.getD i 0))) ∈ flatC (Jvm.Cond.and given_1 narrow_1)) i hi)) (fun i hi j hj => hs _ (sw_mem i hi j hj)) (fun i j hi hj hij => by
    have h01 : (Cond.not (Cond.eq (tmS 0) (tmS 1))).before #[Value.ref b] s = true ∨ (Cond.not (Cond.eq (tmS 1) (tmS 0))).before #[Value.ref b] s = true := by first | exact Or.inl (hs _ (by decide +kernel)) | exact Or.inr (hs _ (by decide +kernel))
    have hc : (i = 0 ∧ j = 1) ∨ (i = 1 ∧ j = 0) := by omega
    rcases hc with ⟨rfl, rfl⟩ | ⟨rfl, rfl⟩
    · exact h01
    · exact h01.symm) hA
  refine ⟨((dC, dI), cB, cI, cZ, cH, adK, adV), ⟨hKc, fun k q hq => ?_⟩, ⟨fun q hq => va_Nw.of rfl (hts _ (nest_mem q hq)), hao⟩, vk_R.of (hts _ (by decide +kernel)) (hev 0 (by decide)), vk_R.of (hts _ (by decide +kernel)) (hev 1 (by decide)), hvs, va_Zof (hts _ (by decide +kernel)) (hts _ (by decide +kernel)) (va_eqi (hs _ (by decide +kernel))) hA, va_Zqof (hts _ (by decide +kernel)) (hts _ (by decide +kernel)) (hs _ (by decide +kernel)) hA, fun q h => h⟩
  match k, hq with
  | 0, hq => cases hq; exact ⟨fun n z => ⟨fun k h => (by cases h), kB, B2, mB, B3⟩, B1⟩
  | 1, hq => cases hq; exact ⟨fun n z => ⟨fun k h => (by cases h), kI, I2, mI, I3⟩, I1⟩
  | 2, hq => cases hq; exact ⟨fun n z => ⟨fun k h => (by cases h), kZ, Z2, mZ, Z3⟩, Z1⟩
  | 3, hq => cases hq; exact ⟨fun n z => ⟨fun k h => (by cases h), kH, H3, mH, H4⟩, kH, mH, H3, H4, H1, H5⟩
  | k + 4, hq => simp [gtys] at hq
theorem cmp6 {Lz j : Nat} (hL : Lz ≤ 3072) (hj : 6 * j ≤ 6000) : (Int32.ofNat Lz - 6 < nI (6 * j)) ↔ Lz < 6 * j + 6 := by
  have e1 : (Int32.ofNat Lz).toInt = (Lz : Int) := nI_toInt (by omega)
  have e2 : (nI (6 * j)).toInt = ((6 * j : Nat) : Int) := nI_toInt (by omega)
  have e3 : (Int32.ofNat Lz - 6).toInt = (Lz : Int) - 6 := by
    rw [Int32.toInt_sub, e1, show (6 : Int32).toInt = 6 from rfl]
    exact Int.bmod_eq_of_le (by omega) (by omega)
  rw [Int32.lt_iff_toInt_lt, e3, e2]
  omega
set_option maxHeartbeats 4000000 in
theorem law_loop (C : MC p s m #[Value.ref b] meth c code 4 (some .boolean) RL g A) (hX : va_X b Lz xs s s.heap) (hbl : b < s.heap.size) (hbA : ¬ A b) (hAs : ∀ q, A q → s.heap.size ≤ q) (hL : Lz ≤ 3072) {Inv : List Nat → St → Prop} (hI : ∀ L S, Inv L S → Lk L ∧ Fx L S ∧ Cl L S ∧ 110 ∉ L ∧ 111 ∉ L ∧ 112 ∉ L) (h_0 : Stp_0 N Inv) (h_1 : Stp_1 N Inv) (h_2 : Stp_2 N Inv) (h_3 : Stp_3 N Inv) (h_4 : Stp_4 N Inv) (h_5 : Stp_5 N Inv) (h_6 : Stp_6 N Inv) (h_7 : Stp_7 N Inv) (h_8 : Stp_8 N Inv) (h_9 : Stp_9 N Inv) (h_10 : Stp_10 N Inv) (h_11 : Stp_11 N Inv) (h_12 : Stp_12 N Inv) (h_13 : Stp_13 N Inv) (h_14 : Stp_14 N Inv) (h_15 : Stp_15 N Inv) (h_16 : Stp_16 N Inv) (h_17 : Stp_17 N Inv) (h_18 : Stp_18 N Inv) (h_19 : Stp_19 N Inv) (h_20 : Stp_20 N Inv) (h_21 : Stp_21 N Inv) (h_22 : Stp_22 N Inv) : ∀ (n j : Nat), Lz + 1 ≤ 6 * j + 6 * n → 6 * j ≤ 3078 → LH p l e s m below meth c b g A Inv j := by
  obtain ⟨hx, hb, hml, hown, hts, hr, hlocks, hK, hN, hT⟩ := id C
  intro n
  induction n with
  | zero =>
    intro j hn hj6 x3 ex3 L S hi ad H locs ls cells slots hce hsl hW hS hl
    refine lv_iload_n hx hb dL_law_18 rfl (lv_at hl 3 rfl) ?_
    refine lv_aload_n hx hb dL_law_19 rfl (lv_at hl 0 rfl) ?_
    refine va_slen hx hb hX hbl hbA hS dL_law_20 ?_
    refine lv_bipush (v := 6) hx hb dL_law_21 (by decide) ?_
    refine lv_isub hx hb dL_law_23 ?_
    refine lv_icmp_gt (tgt := 915) hx hb dL_law_24 (by decide) (fun c1 => ?_) (fun c1 => ?_)
    · refine lv_iconst (v := 1) hx hb dL_law_915 (by decide) ?_
      refine va_forget (fun q hq => hAs _ (hS.2.2 q hq)) ?_
      refine W.widen (k := room_1.cells) (n := room_1.slots) (Nat.le_trans (m := 500000) (by unfold c9 at hce; omega) (by decide)) (Nat.le_trans (m := 7000000) (by unfold s9 at hsl; omega) (by decide)) ?_
      exact lw_ret hx hb hr hlocks dL_law_916
    · exact absurd ((cmp6 (j := j) hL (by omega)).mpr (by omega)) (by rw [← ex3]; exact c1)
  | succ n ih =>
    intro j hn hj6 x3 ex3 L S hi ad H locs ls cells slots hce hsl hW hS hl
    refine lv_iload_n hx hb dL_law_18 rfl (lv_at hl 3 rfl) ?_
    refine lv_aload_n hx hb dL_law_19 rfl (lv_at hl 0 rfl) ?_
    refine va_slen hx hb hX hbl hbA hS dL_law_20 ?_
    refine lv_bipush (v := 6) hx hb dL_law_21 (by decide) ?_
    refine lv_isub hx hb dL_law_23 ?_
    refine lv_icmp_gt (tgt := 915) hx hb dL_law_24 (by decide) (fun c1 => ?_) (fun c1 => ?_)
    · refine lv_iconst (v := 1) hx hb dL_law_915 (by decide) ?_
      refine va_forget (fun q hq => hAs _ (hS.2.2 q hq)) ?_
      refine W.widen (k := room_1.cells) (n := room_1.slots) (Nat.le_trans (m := 500000) (by unfold c9 at hce; omega) (by decide)) (Nat.le_trans (m := 7000000) (by unfold s9 at hsl; omega) (by decide)) ?_
      exact lw_ret hx hb hr hlocks dL_law_916
    · have hj : 6 * j + 6 ≤ Lz := by
        have h9 := mt (cmp6 (j := j) hL (by omega)).mpr (by rw [← ex3]; exact c1)
        omega
      have ih := ih (j + 1) (by omega) (by omega)
      refine lv_aload_n hx hb dL_law_27 rfl (lv_at hl 0 rfl) ?_
      refine lv_iload_n hx hb dL_law_28 rfl (lv_at hl 3 rfl) ?_
      refine va_sld hx hb hX hbl hbA hS (by rw [ex3]; exact vp_in_nI (by omega) (by omega)) dL_law_29 ?_
      refine lv_bipush (v := 31) hx hb dL_law_30 (by decide) ?_
      refine lv_iand hx hb dL_law_32 ?_
      refine lv_topi (fun x ex => ?_)
      by_cases q0 : x = 0
      · refine lv_tableIn (tgt := 140) hx hb dL_law_33 (by rw [q0]; decide) (by rw [q0]; decide) (by rw [q0]; rfl) (by decide) ?_
        exact law_c0 C hX hbl hbA hL hI h_0 ih hj ex3 hi hce hsl hW hS hl
      by_cases q1 : x = 1
      · refine lv_tableIn (tgt := 163) hx hb dL_law_33 (by rw [q1]; decide) (by rw [q1]; decide) (by rw [q1]; rfl) (by decide) ?_
        exact law_c1 C hX hbl hbA hL hI h_1 ih hj ex3 hi hce hsl hW hS hl
      by_cases q2 : x = 2
      · refine lv_tableIn (tgt := 186) hx hb dL_law_33 (by rw [q2]; decide) (by rw [q2]; decide) (by rw [q2]; rfl) (by decide) ?_
        exact law_c2 C hX hbl hbA hL hI h_2 ih hj ex3 hi hce hsl hW hS hl
      by_cases q3 : x = 3
      · refine lv_tableIn (tgt := 239) hx hb dL_law_33 (by rw [q3]; decide) (by rw [q3]; decide) (by rw [q3]; rfl) (by decide) ?_
        exact law_c3 C hX hbl hbA hL hI h_3 ih hj ex3 hi hce hsl hW hS hl
      by_cases q4 : x = 4
      · refine lv_tableIn (tgt := 292) hx hb dL_law_33 (by rw [q4]; decide) (by rw [q4]; decide) (by rw [q4]; rfl) (by decide) ?_
        exact law_c4 C hX hbl hbA hL hI h_4 ih hj ex3 hi hce hsl hW hS hl
      by_cases q5 : x = 5
      · refine lv_tableIn (tgt := 315) hx hb dL_law_33 (by rw [q5]; decide) (by rw [q5]; decide) (by rw [q5]; rfl) (by decide) ?_
        exact law_c5 C hX hbl hbA hL hI h_5 ih hj ex3 hi hce hsl hW hS hl
      by_cases q6 : x = 6
      · refine lv_tableIn (tgt := 338) hx hb dL_law_33 (by rw [q6]; decide) (by rw [q6]; decide) (by rw [q6]; rfl) (by decide) ?_
        exact law_c6 C hX hbl hbA hL hI h_6 ih hj ex3 hi hce hsl hW hS hl
      by_cases q7 : x = 7
      · refine lv_tableIn (tgt := 401) hx hb dL_law_33 (by rw [q7]; decide) (by rw [q7]; decide) (by rw [q7]; rfl) (by decide) ?_
        exact law_c7 C hX hbl hbA hL hI h_7 ih hj ex3 hi hce hsl hW hS hl
      by_cases q8 : x = 8
      · refine lv_tableIn (tgt := 424) hx hb dL_law_33 (by rw [q8]; decide) (by rw [q8]; decide) (by rw [q8]; rfl) (by decide) ?_
        exact law_c8 C hX hbl hbA hL hI h_8 ih hj ex3 hi hce hsl hW hS hl
      by_cases q9 : x = 9
      · refine lv_tableIn (tgt := 447) hx hb dL_law_33 (by rw [q9]; decide) (by rw [q9]; decide) (by rw [q9]; rfl) (by decide) ?_
        exact law_c9 C hX hbl hbA hL hI h_9 ih hj ex3 hi hce hsl hW hS hl
      by_cases q10 : x = 10
      · refine lv_tableIn (tgt := 470) hx hb dL_law_33 (by rw [q10]; decide) (by rw [q10]; decide) (by rw [q10]; rfl) (by decide) ?_
        exact law_c10 C hX hbl hbA hL hI h_10 ih hj ex3 hi hce hsl hW hS hl
      by_cases q11 : x = 11
      · refine lv_tableIn (tgt := 493) hx hb dL_law_33 (by rw [q11]; decide) (by rw [q11]; decide) (by rw [q11]; rfl) (by decide) ?_
        exact law_c11 C hX hbl hbA hL hI h_11 ih hj ex3 hi hce hsl hW hS hl
      by_cases q12 : x = 12
      · refine lv_tableIn (tgt := 526) hx hb dL_law_33 (by rw [q12]; decide) (by rw [q12]; decide) (by rw [q12]; rfl) (by decide) ?_
        exact law_c12 C hX hbl hbA hL hI h_12 ih hj ex3 hi hce hsl hW hS hl
      by_cases q13 : x = 13
      · refine lv_tableIn (tgt := 559) hx hb dL_law_33 (by rw [q13]; decide) (by rw [q13]; decide) (by rw [q13]; rfl) (by decide) ?_
        exact law_c13 C hX hbl hbA hL hI h_13 ih hj ex3 hi hce hsl hW hS hl
      by_cases q14 : x = 14
      · refine lv_tableIn (tgt := 592) hx hb dL_law_33 (by rw [q14]; decide) (by rw [q14]; decide) (by rw [q14]; rfl) (by decide) ?_
        exact law_c14 C hX hbl hbA hL hI h_14 ih hj ex3 hi hce hsl hW hS hl
      by_cases q15 : x = 15
      · refine lv_tableIn (tgt := 625) hx hb dL_law_33 (by rw [q15]; decide) (by rw [q15]; decide) (by rw [q15]; rfl) (by decide) ?_
        exact law_c15 C hX hbl hbA hL hI h_15 ih hj ex3 hi hce hsl hW hS hl
      by_cases q16 : x = 16
      · refine lv_tableIn (tgt := 668) hx hb dL_law_33 (by rw [q16]; decide) (by rw [q16]; decide) (by rw [q16]; rfl) (by decide) ?_
        exact law_c16 C hX hbl hbA hL hI h_16 ih hj ex3 hi hce hsl hW hS hl
      by_cases q17 : x = 17
      · refine lv_tableIn (tgt := 711) hx hb dL_law_33 (by rw [q17]; decide) (by rw [q17]; decide) (by rw [q17]; rfl) (by decide) ?_
        exact law_c17 C hX hbl hbA hL hI h_17 ih hj ex3 hi hce hsl hW hS hl
      by_cases q18 : x = 18
      · refine lv_tableIn (tgt := 764) hx hb dL_law_33 (by rw [q18]; decide) (by rw [q18]; decide) (by rw [q18]; rfl) (by decide) ?_
        exact law_c18 C hX hbl hbA hL hI h_18 ih hj ex3 hi hce hsl hW hS hl
      by_cases q19 : x = 19
      · refine lv_tableIn (tgt := 787) hx hb dL_law_33 (by rw [q19]; decide) (by rw [q19]; decide) (by rw [q19]; rfl) (by decide) ?_
        exact law_c19 C hX hbl hbA hL hI h_19 ih hj ex3 hi hce hsl hW hS hl
      by_cases q20 : x = 20
      · refine lv_tableIn (tgt := 830) hx hb dL_law_33 (by rw [q20]; decide) (by rw [q20]; decide) (by rw [q20]; rfl) (by decide) ?_
        exact law_c20 C hX hbl hbA hL hI h_20 ih hj ex3 hi hce hsl hW hS hl
      by_cases q21 : x = 21
      · refine lv_tableIn (tgt := 853) hx hb dL_law_33 (by rw [q21]; decide) (by rw [q21]; decide) (by rw [q21]; rfl) (by decide) ?_
        exact law_c21 C hX hbl hbA hL hI h_21 ih hj ex3 hi hce hsl hW hS hl
      by_cases q22 : x = 22
      · refine lv_tableIn (tgt := 886) hx hb dL_law_33 (by rw [q22]; decide) (by rw [q22]; decide) (by rw [q22]; rfl) (by decide) ?_
        exact law_c22 C hX hbl hbA hL hI h_22 ih hj ex3 hi hce hsl hW hS hl
      have n0 := lv_neT q0 (a := 0) rfl
      have n1 := lv_neT q1 (a := 1) rfl
      have n2 := lv_neT q2 (a := 2) rfl
      have n3 := lv_neT q3 (a := 3) rfl
      have n4 := lv_neT q4 (a := 4) rfl
      have n5 := lv_neT q5 (a := 5) rfl
      have n6 := lv_neT q6 (a := 6) rfl
      have n7 := lv_neT q7 (a := 7) rfl
      have n8 := lv_neT q8 (a := 8) rfl
      have n9 := lv_neT q9 (a := 9) rfl
      have n10 := lv_neT q10 (a := 10) rfl
      have n11 := lv_neT q11 (a := 11) rfl
      have n12 := lv_neT q12 (a := 12) rfl
      have n13 := lv_neT q13 (a := 13) rfl
      have n14 := lv_neT q14 (a := 14) rfl
      have n15 := lv_neT q15 (a := 15) rfl
      have n16 := lv_neT q16 (a := 16) rfl
      have n17 := lv_neT q17 (a := 17) rfl
      have n18 := lv_neT q18 (a := 18) rfl
      have n19 := lv_neT q19 (a := 19) rfl
      have n20 := lv_neT q20 (a := 20) rfl
      have n21 := lv_neT q21 (a := 21) rfl
      have n22 := lv_neT q22 (a := 22) rfl
      refine lv_tableOut (tgt := 909) hx hb dL_law_33 (by omega) (by decide) ?_
      obtain ⟨y3, ey3⟩ : ∃ z : Int32, z = x3 + 6 := ⟨_, rfl⟩
      refine lv_iinc (v := y3) (lv' := [(3, .int y3), (0, .ref b), (1, .ref (ad 0)), (2, .ref (ad 200))]) hx hb dL_law_909 hl (k := 3) rfl (by rw [ey3]; rfl) (by decide) rfl (fun ls hl => ?_)
      refine lv_goto (tgt := 18) hx hb dL_law_912 (by decide) ?_
      exact ih y3 (by rw [ey3, ex3]; exact (nI_add (6 * j) 6)) _ _ hi _ _ _ _ _ _ (by omega) (by omega) hW hS (lv_sub hl [1, 2, 3, 0] rfl)
end LAWL
