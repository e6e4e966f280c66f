section S15
variable {p : Program} {l : Launch} {e : Env} {s : State} {m : MethodId} {args : Array Value} {below : List Frame} {meth : Method} {c : Code} {A : Nat → Prop} {g : Cx} {ad : Nat → Nat} {L : List Nat} {N : Nat} {q0 : Nat}
/-! DroveRoads.stance -/
def f_X10_stance (N : Nat) (S : St) (p1 : Int32) : Option (Int32 × St) := if 0 < (gv S 0 7) then (some ((-1), S)) else (cl0 (f_X9_canBeMiles S p1) fun r_3 => if r_3 = 0 then (some ((-1), S)) else (cl1 (f_X9_lengthen N S p1) fun r_7 S_8 => some (r_7, S_8)))
set_option maxHeartbeats 4000000 in
theorem t_X10_stance (C : MC p s m args meth c cX10_stance 2 (some .int) RX10 g A) (hB : Lk L) {S : St} {r : Int32} {S9 : St} {p1 : Int32} (h : f_X10_stance N S p1 = some (r, S9)) {H : Heap} {locs : List Loc} {ls : Array Slot} (hW : GW g A ad L S H) (hS : va_S A s.heap H locs) (hl : lv_has ls 2 [(0, .ref (ad 0)), (1, .int p1)]) : W p l e (rmk 4) s m args below meth c H locs 0 0 (MQ below (qi g A ad L r S9) args s 0 0 A) (F0 m 0 ls []) := by
  obtain ⟨hx, hb, hml, hown, hts, hr, hlocks, hK, hN, hT⟩ := id C
  unfold f_X10_stance at h
  refine lv_aload_n hx hb dX10_stance_0 rfl (lv_at hl 0 rfl) ?_
  refine g_get (C := RX10) (T := TX10) (N := 12) (ci := 10) hx hb hts inX10 hown hK hW (hB 0 bb_0) kd_0 rfl 7 (by decide) mw_255 rfl rfl dX10_stance_1 ?_
  refine lv_if_gt (tgt := 14) hx hb dX10_stance_4 (by decide) (fun c_1 => ?_) (fun c_1 => ?_)
  · have h := it_t c_1 h
    refine lv_iconst (v := (-1)) hx hb dX10_stance_14 (by decide) ?_
    cases h
    exact g_iret hx hb hr hlocks hW hS dX10_stance_15
  · have h := it_f c_1 h
    refine lv_iload_n hx hb dX10_stance_7 rfl (lv_at hl 1 rfl) ?_
    obtain ⟨r_3, hc_2, h⟩ := cl0_ex h
    refine g_cz (g_runS (As := [.int p1]) (rest := []) hx hb hml hown hts hK hN hT hS hW (c_X9_canBeMiles hB hc_2) (gw_S mw_289 mw_290 mw_67 mw_291) hs_X9_canBeMiles rfl rfl rfl (rm_ok (by decide) (by decide)) hl.1 (Nat.le_of_ble_eq_true rfl) dX10_stance_8 rfl ⟨Nat.zero_le _, Nat.zero_le _⟩) hS (fun hz_4 H locs hW hS => ?_)
    refine lv_if_ne (tgt := 16) hx hb dX10_stance_11 (by decide) (fun c_5 => ?_) (fun c_5 => ?_)
    · have h := it_f c_5 h
      refine lv_aload_n hx hb dX10_stance_16 rfl (lv_at hl 0 rfl) ?_
      refine g_get (C := RX10) (T := TX10) (N := 12) (ci := 10) hx hb hts inX10 hown hK hW (hB 0 bb_0) kd_0 rfl 0 (by decide) mw_248 rfl rfl dX10_stance_17 ?_
      refine lv_iload_n hx hb dX10_stance_20 rfl (lv_at hl 1 rfl) ?_
      obtain ⟨r_7, S_8, hc_6, h⟩ := cl1_ex h
      refine g_ci (g_runV (ci := 9) (o := 1) (As := [.int p1]) (rest := []) hx hb hml hown hts hK hN hT hS hW (c_X9_lengthen hB hc_6) (hB 1 bb_1) kd_1 rfl (gw_V mw_295 mw_296 mw_297 mw_67 mw_298) hv_X9_lengthen rfl rfl rfl (rm_ok (by decide) (by decide)) hl.1 (Nat.le_of_ble_eq_true rfl) dX10_stance_21 rfl ⟨Nat.zero_le _, Nat.zero_le _⟩) hS (fun H locs hW hS => ?_)
      cases h
      exact g_iret hx hb hr hlocks hW hS dX10_stance_24
    · have h := it_t c_5 h
      refine lv_iconst (v := (-1)) hx hb dX10_stance_14 (by decide) ?_
      cases h
      exact g_iret hx hb hr hlocks hW hS dX10_stance_15
theorem c_X10_stance (hB : Lk L) {S : St} {r : Int32} {S9 : St} {p1 : Int32} (h : f_X10_stance N S p1 = some (r, S9)) : Met l yX10_stance (gws yX10_stance cX10_stance 2 (some .int)) (rmk 4) (va_Pc [.ref (ad 0), .int p1] (WU g A ad L S)) (qi g A ad L r S9) 0 0 A :=
  g_met [.ref (ad 0), .int p1] (by decide) (Nat.le_of_ble_eq_true rfl) (fun p e s m below meth c ls C hW hl _ => t_X10_stance C hB h hW va_S.rf hl)
theorem hv_X10_stance : yX10_stance.cls = RX10 ∧ yX10_stance.cls ≠ "java/lang/invoke/MethodHandle" ∧ yX10_stance.cls ≠ "java/lang/invoke/VarHandle" ∧ (parseMethodDescriptor yX10_stance.desc).map (fun d => d.parameters.length) = some 1 := by decide +kernel
/-! DroveRoads.first -/
def f_X10_first (N : Nat) (S : St) (p1 : Int32) : Option (Int32 × St) := if 0 < (gv S 0 7) then (some (0, S)) else (cl0 (f_X9_canBeMiles S p1) fun r_3 => if r_3 = 0 then (some (0, S)) else (cl0 (f_X9_setFirstMiles N S p1) fun S_7 => some (1, S_7)))
set_option maxHeartbeats 4000000 in
theorem t_X10_first (C : MC p s m args meth c cX10_first 2 (some .boolean) RX10 g A) (hB : Lk L) {S : St} {r : Int32} {S9 : St} {p1 : Int32} (h : f_X10_first N S p1 = some (r, S9)) {H : Heap} {locs : List Loc} {ls : Array Slot} (hW : GW g A ad L S H) (hS : va_S A s.heap H locs) (hl : lv_has ls 2 [(0, .ref (ad 0)), (1, .int p1)]) : W p l e (rmk 4) s m args below meth c H locs 0 0 (MQ below (qz g A ad L r S9) args s 0 0 A) (F0 m 0 ls []) := by
  obtain ⟨hx, hb, hml, hown, hts, hr, hlocks, hK, hN, hT⟩ := id C
  unfold f_X10_first at h
  refine lv_aload_n hx hb dX10_first_0 rfl (lv_at hl 0 rfl) ?_
  refine g_get (C := RX10) (T := TX10) (N := 12) (ci := 10) hx hb hts inX10 hown hK hW (hB 0 bb_0) kd_0 rfl 7 (by decide) mw_255 rfl rfl dX10_first_1 ?_
  refine lv_if_gt (tgt := 14) hx hb dX10_first_4 (by decide) (fun c_1 => ?_) (fun c_1 => ?_)
  · have h := it_t c_1 h
    refine lv_iconst (v := 0) hx hb dX10_first_14 (by decide) ?_
    cases h
    exact g_zret hx hb hr hlocks hW hS (rfl) dX10_first_15
  · have h := it_f c_1 h
    refine lv_iload_n hx hb dX10_first_7 rfl (lv_at hl 1 rfl) ?_
    obtain ⟨r_3, hc_2, h⟩ := cl0_ex h
    refine g_cz (g_runS (As := [.int p1]) (rest := []) hx hb hml hown hts hK hN hT hS hW (c_X9_canBeMiles hB hc_2) (gw_S mw_289 mw_290 mw_67 mw_291) hs_X9_canBeMiles rfl rfl rfl (rm_ok (by decide) (by decide)) hl.1 (Nat.le_of_ble_eq_true rfl) dX10_first_8 rfl ⟨Nat.zero_le _, Nat.zero_le _⟩) hS (fun hz_4 H locs hW hS => ?_)
    refine lv_if_ne (tgt := 16) hx hb dX10_first_11 (by decide) (fun c_5 => ?_) (fun c_5 => ?_)
    · have h := it_f c_5 h
      refine lv_aload_n hx hb dX10_first_16 rfl (lv_at hl 0 rfl) ?_
      refine g_get (C := RX10) (T := TX10) (N := 12) (ci := 10) hx hb hts inX10 hown hK hW (hB 0 bb_0) kd_0 rfl 0 (by decide) mw_248 rfl rfl dX10_first_17 ?_
      refine lv_iload_n hx hb dX10_first_20 rfl (lv_at hl 1 rfl) ?_
      obtain ⟨S_7, hc_6, h⟩ := cl0_ex h
      refine g_cv (g_runV (ci := 9) (o := 1) (As := [.int p1]) (rest := []) hx hb hml hown hts hK hN hT hS hW (c_X9_setFirstMiles hB hc_6) (hB 1 bb_1) kd_1 rfl (gw_V mw_311 mw_312 mw_313 mw_67 mw_314) hv_X9_setFirstMiles rfl rfl rfl (rm_ok (by decide) (by decide)) hl.1 (Nat.le_of_ble_eq_true rfl) dX10_first_21 rfl ⟨Nat.zero_le _, Nat.zero_le _⟩) hS (fun H locs hW hS => ?_)
      refine lv_iconst (v := 1) hx hb dX10_first_24 (by decide) ?_
      cases h
      exact g_zret hx hb hr hlocks hW hS (rfl) dX10_first_25
    · have h := it_t c_5 h
      refine lv_iconst (v := 0) hx hb dX10_first_14 (by decide) ?_
      cases h
      exact g_zret hx hb hr hlocks hW hS (rfl) dX10_first_15
theorem c_X10_first (hB : Lk L) {S : St} {r : Int32} {S9 : St} {p1 : Int32} (h : f_X10_first N S p1 = some (r, S9)) : Met l yX10_first (gws yX10_first cX10_first 2 (some .boolean)) (rmk 4) (va_Pc [.ref (ad 0), .int p1] (WU g A ad L S)) (qz g A ad L r S9) 0 0 A :=
  g_met [.ref (ad 0), .int p1] (by decide) (Nat.le_of_ble_eq_true rfl) (fun p e s m below meth c ls C hW hl _ => t_X10_first C hB h hW va_S.rf hl)
theorem hv_X10_first : yX10_first.cls = RX10 ∧ yX10_first.cls ≠ "java/lang/invoke/MethodHandle" ∧ yX10_first.cls ≠ "java/lang/invoke/VarHandle" ∧ (parseMethodDescriptor yX10_first.desc).map (fun d => d.parameters.length) = some 1 := by decide +kernel
/-! DroveRoads.grass -/
def f_X10_grass (S : St) (p1 : Int32) (p2 : Int32) (p3 : Int32) (p4 : Int32) : Option (Int32 × St) := cl1 (f_X9_sow S p1 p2 p3 p4) fun r_2 S_3 => some (r_2, S_3)
set_option maxHeartbeats 4000000 in
theorem t_X10_grass (C : MC p s m args meth c cX10_grass 5 (some .boolean) RX10 g A) (hB : Lk L) {S : St} {r : Int32} {S9 : St} {p1 : Int32} {p2 : Int32} {p3 : Int32} {p4 : Int32} (h : f_X10_grass S p1 p2 p3 p4 = some (r, S9)) {H : Heap} {locs : List Loc} {ls : Array Slot} (hW : GW g A ad L S H) (hS : va_S A s.heap H locs) (hl : lv_has ls 5 [(0, .ref (ad 0)), (1, .int p1), (2, .int p2), (3, .int p3), (4, .int p4)]) : W p l e (rmk 3) s m args below meth c H locs 0 0 (MQ below (qz g A ad L r S9) args s 0 0 A) (F0 m 0 ls []) := by
  obtain ⟨hx, hb, hml, hown, hts, hr, hlocks, hK, hN, hT⟩ := id C
  unfold f_X10_grass at h
  refine lv_aload_n hx hb dX10_grass_0 rfl (lv_at hl 0 rfl) ?_
  refine g_get (C := RX10) (T := TX10) (N := 12) (ci := 10) hx hb hts inX10 hown hK hW (hB 0 bb_0) kd_0 rfl 0 (by decide) mw_248 rfl rfl dX10_grass_1 ?_
  refine lv_iload_n hx hb dX10_grass_4 rfl (lv_at hl 1 rfl) ?_
  refine lv_iload_n hx hb dX10_grass_5 rfl (lv_at hl 2 rfl) ?_
  refine lv_iload_n hx hb dX10_grass_6 rfl (lv_at hl 3 rfl) ?_
  refine lv_iload hx hb dX10_grass_7 (lv_at hl 4 rfl) ?_
  obtain ⟨r_2, S_3, hc_1, h⟩ := cl1_ex h
  refine g_cz (g_runV (ci := 9) (o := 1) (As := [.int p1, .int p2, .int p3, .int p4]) (rest := []) hx hb hml hown hts hK hN hT hS hW (c_X9_sow hB hc_1) (hB 1 bb_1) kd_1 rfl (gw_V mw_319 mw_320 mw_321 mw_67 mw_322) hv_X9_sow rfl rfl rfl (rm_ok (by decide) (by decide)) hl.1 (Nat.le_of_ble_eq_true rfl) dX10_grass_9 rfl ⟨Nat.zero_le _, Nat.zero_le _⟩) hS (fun hz_4 H locs hW hS => ?_)
  cases h
  exact g_zret hx hb hr hlocks hW hS hz_4 dX10_grass_12
theorem c_X10_grass (hB : Lk L) {S : St} {r : Int32} {S9 : St} {p1 : Int32} {p2 : Int32} {p3 : Int32} {p4 : Int32} (h : f_X10_grass S p1 p2 p3 p4 = some (r, S9)) : Met l yX10_grass (gws yX10_grass cX10_grass 5 (some .boolean)) (rmk 3) (va_Pc [.ref (ad 0), .int p1, .int p2, .int p3, .int p4] (WU g A ad L S)) (qz g A ad L r S9) 0 0 A :=
  g_met [.ref (ad 0), .int p1, .int p2, .int p3, .int p4] (by decide) (Nat.le_of_ble_eq_true rfl) (fun p e s m below meth c ls C hW hl _ => t_X10_grass C hB h hW va_S.rf hl)
theorem hv_X10_grass : yX10_grass.cls = RX10 ∧ yX10_grass.cls ≠ "java/lang/invoke/MethodHandle" ∧ yX10_grass.cls ≠ "java/lang/invoke/VarHandle" ∧ (parseMethodDescriptor yX10_grass.desc).map (fun d => d.parameters.length) = some 4 := by decide +kernel
/-! DroveRoads.letter -/
def f_X10_letter (S : St) (p1 : Int32) : Option (Int32 × St) := cl1 (f_X2_send S p1 (gv S 0 11)) fun r_2 S_3 => some (r_2, S_3)
set_option maxHeartbeats 4000000 in
theorem t_X10_letter (C : MC p s m args meth c cX10_letter 2 (some .int) RX10 g A) (hB : Lk L) {S : St} {r : Int32} {S9 : St} {p1 : Int32} (h : f_X10_letter S p1 = some (r, S9)) {H : Heap} {locs : List Loc} {ls : Array Slot} (hW : GW g A ad L S H) (hS : va_S A s.heap H locs) (hl : lv_has ls 2 [(0, .ref (ad 0)), (1, .int p1)]) : W p l e (rmk 3) s m args below meth c H locs 0 0 (MQ below (qi g A ad L r S9) args s 0 0 A) (F0 m 0 ls []) := by
  obtain ⟨hx, hb, hml, hown, hts, hr, hlocks, hK, hN, hT⟩ := id C
  unfold f_X10_letter at h
  refine lv_aload_n hx hb dX10_letter_0 rfl (lv_at hl 0 rfl) ?_
  refine g_get (C := RX10) (T := TX10) (N := 12) (ci := 10) hx hb hts inX10 hown hK hW (hB 0 bb_0) kd_0 rfl 1 (by decide) mw_249 rfl rfl dX10_letter_1 ?_
  refine lv_iload_n hx hb dX10_letter_4 rfl (lv_at hl 1 rfl) ?_
  refine lv_aload_n hx hb dX10_letter_5 rfl (lv_at hl 0 rfl) ?_
  refine g_get (C := RX10) (T := TX10) (N := 12) (ci := 10) hx hb hts inX10 hown hK hW (hB 0 bb_0) kd_0 rfl 11 (by decide) mw_259 rfl rfl dX10_letter_6 ?_
  obtain ⟨r_2, S_3, hc_1, h⟩ := cl1_ex h
  refine g_ci (g_runV (ci := 2) (o := 2) (As := [.int p1, .int (gv S 0 11)]) (rest := []) hx hb hml hown hts hK hN hT hS hW (c_X2_send hB hc_1) (hB 2 bb_2) kd_2 rfl (gw_V mw_390 mw_391 mw_392 mw_68 mw_393) hv_X2_send rfl rfl rfl (rm_ok (by decide) (by decide)) hl.1 (Nat.le_of_ble_eq_true rfl) dX10_letter_9 rfl ⟨Nat.zero_le _, Nat.zero_le _⟩) hS (fun H locs hW hS => ?_)
  cases h
  exact g_iret hx hb hr hlocks hW hS dX10_letter_12
theorem c_X10_letter (hB : Lk L) {S : St} {r : Int32} {S9 : St} {p1 : Int32} (h : f_X10_letter S p1 = some (r, S9)) : Met l yX10_letter (gws yX10_letter cX10_letter 2 (some .int)) (rmk 3) (va_Pc [.ref (ad 0), .int p1] (WU g A ad L S)) (qi g A ad L r S9) 0 0 A :=
  g_met [.ref (ad 0), .int p1] (by decide) (Nat.le_of_ble_eq_true rfl) (fun p e s m below meth c ls C hW hl _ => t_X10_letter C hB h hW va_S.rf hl)
theorem hv_X10_letter : yX10_letter.cls = RX10 ∧ yX10_letter.cls ≠ "java/lang/invoke/MethodHandle" ∧ yX10_letter.cls ≠ "java/lang/invoke/VarHandle" ∧ (parseMethodDescriptor yX10_letter.desc).map (fun d => d.parameters.length) = some 1 := by decide +kernel
/-! DroveRoads.priceKnownAt -/
def f_X10_priceKnownAt (N : Nat) (S : St) (p1 : Int32) : Option (Int32) := cl0 (f_X9_milesToFair S p1) fun r_2 => cl0 (f_X2_priceKnown N S r_2 (gv S 0 11)) fun r_4 => some r_4
set_option maxHeartbeats 4000000 in
theorem t_X10_priceKnownAt (C : MC p s m args meth c cX10_priceKnownAt 2 (some .int) RX10 g A) (hB : Lk L) {S : St} {r : Int32} {p1 : Int32} (h : f_X10_priceKnownAt N S p1 = some r) {H : Heap} {locs : List Loc} {ls : Array Slot} (hW : GW g A ad L S H) (hS : va_S A s.heap H locs) (hl : lv_has ls 2 [(0, .ref (ad 0)), (1, .int p1)]) : W p l e (rmk 3) s m args below meth c H locs 0 0 (MQ below (qi g A ad L r S) args s 0 0 A) (F0 m 0 ls []) := by
  obtain ⟨hx, hb, hml, hown, hts, hr, hlocks, hK, hN, hT⟩ := id C
  unfold f_X10_priceKnownAt at h
  refine lv_aload_n hx hb dX10_priceKnownAt_0 rfl (lv_at hl 0 rfl) ?_
  refine g_get (C := RX10) (T := TX10) (N := 12) (ci := 10) hx hb hts inX10 hown hK hW (hB 0 bb_0) kd_0 rfl 1 (by decide) mw_249 rfl rfl dX10_priceKnownAt_1 ?_
  refine lv_aload_n hx hb dX10_priceKnownAt_4 rfl (lv_at hl 0 rfl) ?_
  refine g_get (C := RX10) (T := TX10) (N := 12) (ci := 10) hx hb hts inX10 hown hK hW (hB 0 bb_0) kd_0 rfl 0 (by decide) mw_248 rfl rfl dX10_priceKnownAt_5 ?_
  refine lv_iload_n hx hb dX10_priceKnownAt_8 rfl (lv_at hl 1 rfl) ?_
  obtain ⟨r_2, hc_1, h⟩ := cl0_ex h
  refine g_ci (g_runV (ci := 9) (o := 1) (As := [.int p1]) (rest := [.ref (ad 2)]) hx hb hml hown hts hK hN hT hS hW (c_X9_milesToFair hB hc_1) (hB 1 bb_1) kd_1 rfl (gw_V mw_404 mw_405 mw_406 mw_67 mw_407) hv_X9_milesToFair rfl rfl rfl (rm_ok (by decide) (by decide)) hl.1 (Nat.le_of_ble_eq_true rfl) dX10_priceKnownAt_9 rfl ⟨Nat.zero_le _, Nat.zero_le _⟩) hS (fun H locs hW hS => ?_)
  refine lv_aload_n hx hb dX10_priceKnownAt_12 rfl (lv_at hl 0 rfl) ?_
  refine g_get (C := RX10) (T := TX10) (N := 12) (ci := 10) hx hb hts inX10 hown hK hW (hB 0 bb_0) kd_0 rfl 11 (by decide) mw_259 rfl rfl dX10_priceKnownAt_13 ?_
  obtain ⟨r_4, hc_3, h⟩ := cl0_ex h
  refine g_ci (g_runV (ci := 2) (o := 2) (As := [.int r_2, .int (gv S 0 11)]) (rest := []) hx hb hml hown hts hK hN hT hS hW (c_X2_priceKnown hB hc_3) (hB 2 bb_2) kd_2 rfl (gw_V mw_408 mw_409 mw_410 mw_68 mw_411) hv_X2_priceKnown rfl rfl rfl (rm_ok (by decide) (by decide)) hl.1 (Nat.le_of_ble_eq_true rfl) dX10_priceKnownAt_16 rfl ⟨Nat.zero_le _, Nat.zero_le _⟩) hS (fun H locs hW hS => ?_)
  cases h
  exact g_iret hx hb hr hlocks hW hS dX10_priceKnownAt_19
theorem c_X10_priceKnownAt (hB : Lk L) {S : St} {r : Int32} {p1 : Int32} (h : f_X10_priceKnownAt N S p1 = some r) : Met l yX10_priceKnownAt (gws yX10_priceKnownAt cX10_priceKnownAt 2 (some .int)) (rmk 3) (va_Pc [.ref (ad 0), .int p1] (WU g A ad L S)) (qi g A ad L r S) 0 0 A :=
  g_met [.ref (ad 0), .int p1] (by decide) (Nat.le_of_ble_eq_true rfl) (fun p e s m below meth c ls C hW hl _ => t_X10_priceKnownAt C hB h hW va_S.rf hl)
theorem hv_X10_priceKnownAt : yX10_priceKnownAt.cls = RX10 ∧ yX10_priceKnownAt.cls ≠ "java/lang/invoke/MethodHandle" ∧ yX10_priceKnownAt.cls ≠ "java/lang/invoke/VarHandle" ∧ (parseMethodDescriptor yX10_priceKnownAt.desc).map (fun d => d.parameters.length) = some 1 := by decide +kernel
/-! DroveRoads.known -/
def f_X10_known (N : Nat) (S : St) (p1 : Int32) : Option (Int32) := cl0 (f_X9_has S p1) fun r_2 => if r_2 = 0 then (some (-1)) else (cl0 (f_X10_priceKnownAt N S p1) fun r_6 => some r_6)
set_option maxHeartbeats 4000000 in
theorem t_X10_known (C : MC p s m args meth c cX10_known 2 (some .int) RX10 g A) (hB : Lk L) {S : St} {r : Int32} {p1 : Int32} (h : f_X10_known N S p1 = some r) {H : Heap} {locs : List Loc} {ls : Array Slot} (hW : GW g A ad L S H) (hS : va_S A s.heap H locs) (hl : lv_has ls 2 [(0, .ref (ad 0)), (1, .int p1)]) : W p l e (rmk 4) s m args below meth c H locs 0 0 (MQ below (qi g A ad L r S) args s 0 0 A) (F0 m 0 ls []) := by
  obtain ⟨hx, hb, hml, hown, hts, hr, hlocks, hK, hN, hT⟩ := id C
  unfold f_X10_known at h
  refine lv_aload_n hx hb dX10_known_0 rfl (lv_at hl 0 rfl) ?_
  refine g_get (C := RX10) (T := TX10) (N := 12) (ci := 10) hx hb hts inX10 hown hK hW (hB 0 bb_0) kd_0 rfl 0 (by decide) mw_248 rfl rfl dX10_known_1 ?_
  refine lv_iload_n hx hb dX10_known_4 rfl (lv_at hl 1 rfl) ?_
  obtain ⟨r_2, hc_1, h⟩ := cl0_ex h
  refine g_cz (g_runV (ci := 9) (o := 1) (As := [.int p1]) (rest := []) hx hb hml hown hts hK hN hT hS hW (c_X9_has hB hc_1) (hB 1 bb_1) kd_1 rfl (gw_V mw_399 mw_325 mw_326 mw_67 mw_327) hv_X9_has rfl rfl rfl (rm_ok (by decide) (by decide)) hl.1 (Nat.le_of_ble_eq_true rfl) dX10_known_5 rfl ⟨Nat.zero_le _, Nat.zero_le _⟩) hS (fun hz_3 H locs hW hS => ?_)
  refine lv_if_eq (tgt := 19) hx hb dX10_known_8 (by decide) (fun c_4 => ?_) (fun c_4 => ?_)
  · have h := it_t c_4 h
    refine lv_iconst (v := (-1)) hx hb dX10_known_19 (by decide) ?_
    cases h
    exact g_iret hx hb hr hlocks hW hS dX10_known_20
  · have h := it_f c_4 h
    refine lv_aload_n hx hb dX10_known_11 rfl (lv_at hl 0 rfl) ?_
    refine lv_iload_n hx hb dX10_known_12 rfl (lv_at hl 1 rfl) ?_
    obtain ⟨r_6, hc_5, h⟩ := cl0_ex h
    refine g_ci (g_runV (ci := 10) (o := 0) (As := [.int p1]) (rest := []) hx hb hml hown hts hK hN hT hS hW (c_X10_priceKnownAt hB hc_5) (hB 0 bb_0) kd_0 rfl (gw_V mw_400 mw_402 mw_1 mw_66 mw_403) hv_X10_priceKnownAt rfl rfl rfl (rm_ok (by decide) (by decide)) hl.1 (Nat.le_of_ble_eq_true rfl) dX10_known_13 rfl ⟨Nat.zero_le _, Nat.zero_le _⟩) hS (fun H locs hW hS => ?_)
    refine lv_goto (tgt := 20) hx hb dX10_known_16 (by decide) ?_
    cases h
    exact g_iret hx hb hr hlocks hW hS dX10_known_20
theorem c_X10_known (hB : Lk L) {S : St} {r : Int32} {p1 : Int32} (h : f_X10_known N S p1 = some r) : Met l yX10_known (gws yX10_known cX10_known 2 (some .int)) (rmk 4) (va_Pc [.ref (ad 0), .int p1] (WU g A ad L S)) (qi g A ad L r S) 0 0 A :=
  g_met [.ref (ad 0), .int p1] (by decide) (Nat.le_of_ble_eq_true rfl) (fun p e s m below meth c ls C hW hl _ => t_X10_known C hB h hW va_S.rf hl)
theorem hv_X10_known : yX10_known.cls = RX10 ∧ yX10_known.cls ≠ "java/lang/invoke/MethodHandle" ∧ yX10_known.cls ≠ "java/lang/invoke/VarHandle" ∧ (parseMethodDescriptor yX10_known.desc).map (fun d => d.parameters.length) = some 1 := by decide +kernel
/-! DroveRoads.feedFour -/
def f_X10_feedFour_l3 (N : Nat) (v1 : Int32) (k : St → Option (St)) : Nat → St → Int32 → Option (St)
  | 0, _, _ => none
  | n + 1, S, v2 => if v2 < 0 then (k S) else (if 500 ≤ (gv S 0 8) then (k S) else (if (gv S 0 8) < 0 ∨ 500 ≤ ix (gv S 0 8) then none else bn (sv S 7 (ix (gv S 0 8)) (((v1.toUInt32 >>> ((v2 : Int32).toUInt32 &&& Int32.toUInt32 31)).toInt32).toInt8.toInt32)) fun S_4 => bn (sv S_4 0 8 ((gv S_4 0 8) + 1)) fun S_5 => bn (v2 + (-8)) fun x_6 => f_X10_feedFour_l3 N v1 k n S_5 x_6))
set_option maxHeartbeats 4000000 in
theorem t_X10_feedFour_l3 (C : MC p s m args meth c cX10_feedFour 3 none RX10 g A) (hB : Lk L) {v1 : Int32} {S9 : St} {k : St → Option (St)} (hk : ∀ (S : St), k S = some S9 → ∀ (H : Heap) (locs : List Loc) (ls : Array Slot), GW g A ad L S H → va_S A s.heap H locs → lv_has ls 3 [] → W p l e (rmk 1) s m args below meth c H locs 0 0 (MQ below (qv g A ad L S9) args s 0 0 A) (F0 m 46 ls [])) : ∀ (n : Nat) (S : St) (v2 : Int32), f_X10_feedFour_l3 N v1 k n S v2 = some S9 → ∀ (H : Heap) (locs : List Loc) (ls : Array Slot), GW g A ad L S H → va_S A s.heap H locs → lv_has ls 3 [(0, .ref (ad 0)), (1, .int v1), (2, .int v2)] → W p l e (rmk 1) s m args below meth c H locs 0 0 (MQ below (qv g A ad L S9) args s 0 0 A) (F0 m 3 ls []) := by
  obtain ⟨hx, hb, hml, hown, hts, hr, hlocks, hK, hN, hT⟩ := id C
  intro n
  induction n with
  | zero =>
    intro S v2 h
    have h : (none : Option (St)) = some S9 := h
    cases h
  | succ n ih =>
    intro S v2 h H locs ls hW hS hl
    rw [f_X10_feedFour_l3] at h
    refine lv_iload_n hx hb dX10_feedFour_3 rfl (lv_at hl 2 rfl) ?_
    refine lv_if_lt (tgt := 46) hx hb dX10_feedFour_4 (by decide) (fun c_1 => ?_) (fun c_1 => ?_)
    · have h := it_t c_1 h
      exact hk _ h _ _ _ hW hS (lv_sub hl [] rfl)
    · have h := it_f c_1 h
      refine lv_aload_n hx hb dX10_feedFour_7 rfl (lv_at hl 0 rfl) ?_
      refine g_get (C := RX10) (T := TX10) (N := 12) (ci := 10) hx hb hts inX10 hown hK hW (hB 0 bb_0) kd_0 rfl 8 (by decide) mw_256 rfl rfl dX10_feedFour_8 ?_
      refine lv_sipush (v := 500) hx hb dX10_feedFour_11 (by decide) ?_
      refine lv_icmp_ge (tgt := 46) hx hb dX10_feedFour_14 (by decide) (fun c_2 => ?_) (fun c_2 => ?_)
      · have h := it_t c_2 h
        exact hk _ h _ _ _ hW hS (lv_sub hl [] rfl)
      · have h := it_f c_2 h
        refine lv_aload_n hx hb dX10_feedFour_17 rfl (lv_at hl 0 rfl) ?_
        refine g_get (C := RX10) (T := TX10) (N := 12) (ci := 10) hx hb hts inX10 hown hK hW (hB 0 bb_0) kd_0 rfl 4 (by decide) mw_252 rfl rfl dX10_feedFour_18 ?_
        refine lv_aload_n hx hb dX10_feedFour_21 rfl (lv_at hl 0 rfl) ?_
        refine g_get (C := RX10) (T := TX10) (N := 12) (ci := 10) hx hb hts inX10 hown hK hW (hB 0 bb_0) kd_0 rfl 8 (by decide) mw_256 rfl rfl dX10_feedFour_22 ?_
        refine lv_iload_n hx hb dX10_feedFour_25 rfl (lv_at hl 1 rfl) ?_
        refine lv_iload_n hx hb dX10_feedFour_26 rfl (lv_at hl 2 rfl) ?_
        refine lv_iushr hx hb dX10_feedFour_27 rfl ?_
        refine lv_i2b hx hb dX10_feedFour_28 rfl ?_
        obtain ⟨hi_3, h⟩ := ck_n h
        refine g_bast hx hb hK hW hS (hB 7 bb_7) (fun _ => kd_7) (pk_vb _) hi_3 dX10_feedFour_29 (fun S_4 eS_4 H locs hW hS => ?_)
        have h := bn_at eS_4 h
        refine lv_aload_n hx hb dX10_feedFour_30 rfl (lv_at hl 0 rfl) ?_
        refine lv_dup hx hb dX10_feedFour_31 rfl ?_
        refine g_get (C := RX10) (T := TX10) (N := 12) (ci := 10) hx hb hts inX10 hown hK hW (hB 0 bb_0) kd_0 rfl 8 (by decide) mw_256 rfl rfl dX10_feedFour_32 ?_
        refine lv_iconst (v := 1) hx hb dX10_feedFour_35 (by decide) ?_
        refine lv_iadd hx hb dX10_feedFour_36 ?_
        refine g_put (C := RX10) (T := TX10) (N := 12) (ci := 10) hx hb hts inX10 tyX10 tyX10_ok nmX10 hown hK hW hS (hB 0 bb_0) kd_0 rfl 8 (by decide) mw_256 rfl rfl rfl rfl (Nat.le_of_ble_eq_true rfl) (sv S_4 0 8 ((gv S_4 0 8) + 1)) (ps_0_8) cellOf_sv dX10_feedFour_37 (fun S_5 eS_5 H locs hW hS => ?_)
        have h := bn_at eS_5 h
        obtain ⟨x_6, ex_6⟩ : ∃ z : Int32, z = v2 + (-8) := ⟨_, rfl⟩
        have h := bn_at ex_6 h
        refine lv_iinc (v := x_6) (lv' := [(2, .int x_6), (0, .ref (ad 0)), (1, .int v1)]) hx hb dX10_feedFour_40 hl (k := 2) rfl (by rw [ex_6]; rfl) (by decide) rfl (fun ls hl => ?_)
        refine lv_goto (tgt := 3) hx hb dX10_feedFour_43 (by decide) ?_
        exact ih _ _ h _ _ _ hW hS (lv_sub hl [1, 2, 0] rfl)
def f_X10_feedFour (N : Nat) (S : St) (p1 : Int32) : Option (St) := f_X10_feedFour_l3 N p1 (fun S_7 => some S_7) N S 24
set_option maxHeartbeats 4000000 in
theorem t_X10_feedFour (C : MC p s m args meth c cX10_feedFour 3 none RX10 g A) (hB : Lk L) {S : St} {S9 : St} {p1 : Int32} (h : f_X10_feedFour N S p1 = some S9) {H : Heap} {locs : List Loc} {ls : Array Slot} (hW : GW g A ad L S H) (hS : va_S A s.heap H locs) (hl : lv_has ls 3 [(0, .ref (ad 0)), (1, .int p1)]) : W p l e (rmk 1) s m args below meth c H locs 0 0 (MQ below (qv g A ad L S9) args s 0 0 A) (F0 m 0 ls []) := by
  obtain ⟨hx, hb, hml, hown, hts, hr, hlocks, hK, hN, hT⟩ := id C
  unfold f_X10_feedFour at h
  refine lv_bipush (v := 24) hx hb dX10_feedFour_0 (by decide) ?_
  refine lv_istore_n (lv' := [(2, .int 24), (0, .ref (ad 0)), (1, .int p1)]) hx hb dX10_feedFour_2 rfl hl (by decide) rfl (fun ls hl => ?_)
  refine t_X10_feedFour_l3 C hB ?_ _ _ _ h _ _ _ hW hS (lv_sub hl [1, 2, 0] rfl)
  intro S_7 h H locs ls hW hS hl
  cases h
  exact g_vret hx hb hr hlocks hW hS dX10_feedFour_46
theorem c_X10_feedFour (hB : Lk L) {S : St} {S9 : St} {p1 : Int32} (h : f_X10_feedFour N S p1 = some S9) : Met l yX10_feedFour (gws yX10_feedFour cX10_feedFour 3 none) (rmk 1) (va_Pc [.ref (ad 0), .int p1] (WU g A ad L S)) (qv g A ad L S9) 0 0 A :=
  g_met [.ref (ad 0), .int p1] (by decide) (Nat.le_of_ble_eq_true rfl) (fun p e s m below meth c ls C hW hl _ => t_X10_feedFour C hB h hW va_S.rf hl)
theorem hv_X10_feedFour : yX10_feedFour.cls = RX10 ∧ yX10_feedFour.cls ≠ "java/lang/invoke/MethodHandle" ∧ yX10_feedFour.cls ≠ "java/lang/invoke/VarHandle" ∧ (parseMethodDescriptor yX10_feedFour.desc).map (fun d => d.parameters.length) = some 1 := by decide +kernel
/-! DroveRoads.feed -/
def f_X10_feed (N : Nat) (S : St) (p1 : Int32) (p2 : Int32) (p3 : Int32) (p4 : Int32) (p5 : Int32) : Option (Int32 × St) := if ((gv S 0 8) + 20) ≤ 500 then (cl0 (f_X10_feedFour N S p1) fun S_3 => cl0 (f_X10_feedFour N S_3 p2) fun S_5 => cl0 (f_X10_feedFour N S_5 p3) fun S_7 => cl0 (f_X10_feedFour N S_7 p4) fun S_9 => cl0 (f_X10_feedFour N S_9 p5) fun S_11 => some ((gv S_11 0 8), S_11)) else (some ((-1), S))
set_option maxHeartbeats 4000000 in
theorem t_X10_feed (C : MC p s m args meth c cX10_feed 6 (some .int) RX10 g A) (hB : Lk L) {S : St} {r : Int32} {S9 : St} {p1 : Int32} {p2 : Int32} {p3 : Int32} {p4 : Int32} {p5 : Int32} (h : f_X10_feed N S p1 p2 p3 p4 p5 = some (r, S9)) {H : Heap} {locs : List Loc} {ls : Array Slot} (hW : GW g A ad L S H) (hS : va_S A s.heap H locs) (hl : lv_has ls 6 [(0, .ref (ad 0)), (1, .int p1), (2, .int p2), (3, .int p3), (4, .int p4), (5, .int p5)]) : W p l e (rmk 2) s m args below meth c H locs 0 0 (MQ below (qi g A ad L r S9) args s 0 0 A) (F0 m 0 ls []) := by
  obtain ⟨hx, hb, hml, hown, hts, hr, hlocks, hK, hN, hT⟩ := id C
  unfold f_X10_feed at h
  refine lv_aload_n hx hb dX10_feed_0 rfl (lv_at hl 0 rfl) ?_
  refine g_get (C := RX10) (T := TX10) (N := 12) (ci := 10) hx hb hts inX10 hown hK hW (hB 0 bb_0) kd_0 rfl 8 (by decide) mw_256 rfl rfl dX10_feed_1 ?_
  refine lv_bipush (v := 20) hx hb dX10_feed_4 (by decide) ?_
  refine lv_iadd hx hb dX10_feed_6 ?_
  refine lv_sipush (v := 500) hx hb dX10_feed_7 (by decide) ?_
  refine lv_icmp_le (tgt := 15) hx hb dX10_feed_10 (by decide) (fun c_1 => ?_) (fun c_1 => ?_)
  · have h := it_t c_1 h
    refine lv_aload_n hx hb dX10_feed_15 rfl (lv_at hl 0 rfl) ?_
    refine lv_iload_n hx hb dX10_feed_16 rfl (lv_at hl 1 rfl) ?_
    obtain ⟨S_3, hc_2, h⟩ := cl0_ex h
    refine g_cv (g_runV (ci := 10) (o := 0) (As := [.int p1]) (rest := []) hx hb hml hown hts hK hN hT hS hW (c_X10_feedFour hB hc_2) (hB 0 bb_0) kd_0 rfl (gw_V mw_416 mw_418 mw_2 mw_66 mw_419) hv_X10_feedFour rfl rfl rfl (rm_ok (by decide) (by decide)) hl.1 (Nat.le_of_ble_eq_true rfl) dX10_feed_17 rfl ⟨Nat.zero_le _, Nat.zero_le _⟩) hS (fun H locs hW hS => ?_)
    refine lv_aload_n hx hb dX10_feed_20 rfl (lv_at hl 0 rfl) ?_
    refine lv_iload_n hx hb dX10_feed_21 rfl (lv_at hl 2 rfl) ?_
    obtain ⟨S_5, hc_4, h⟩ := cl0_ex h
    refine g_cv (g_runV (ci := 10) (o := 0) (As := [.int p2]) (rest := []) hx hb hml hown hts hK hN hT hS hW (c_X10_feedFour hB hc_4) (hB 0 bb_0) kd_0 rfl (gw_V mw_416 mw_418 mw_2 mw_66 mw_419) hv_X10_feedFour rfl rfl rfl (rm_ok (by decide) (by decide)) hl.1 (Nat.le_of_ble_eq_true rfl) dX10_feed_22 rfl ⟨Nat.zero_le _, Nat.zero_le _⟩) hS (fun H locs hW hS => ?_)
    refine lv_aload_n hx hb dX10_feed_25 rfl (lv_at hl 0 rfl) ?_
    refine lv_iload_n hx hb dX10_feed_26 rfl (lv_at hl 3 rfl) ?_
    obtain ⟨S_7, hc_6, h⟩ := cl0_ex h
    refine g_cv (g_runV (ci := 10) (o := 0) (As := [.int p3]) (rest := []) hx hb hml hown hts hK hN hT hS hW (c_X10_feedFour hB hc_6) (hB 0 bb_0) kd_0 rfl (gw_V mw_416 mw_418 mw_2 mw_66 mw_419) hv_X10_feedFour rfl rfl rfl (rm_ok (by decide) (by decide)) hl.1 (Nat.le_of_ble_eq_true rfl) dX10_feed_27 rfl ⟨Nat.zero_le _, Nat.zero_le _⟩) hS (fun H locs hW hS => ?_)
    refine lv_aload_n hx hb dX10_feed_30 rfl (lv_at hl 0 rfl) ?_
    refine lv_iload hx hb dX10_feed_31 (lv_at hl 4 rfl) ?_
    obtain ⟨S_9, hc_8, h⟩ := cl0_ex h
    refine g_cv (g_runV (ci := 10) (o := 0) (As := [.int p4]) (rest := []) hx hb hml hown hts hK hN hT hS hW (c_X10_feedFour hB hc_8) (hB 0 bb_0) kd_0 rfl (gw_V mw_416 mw_418 mw_2 mw_66 mw_419) hv_X10_feedFour rfl rfl rfl (rm_ok (by decide) (by decide)) hl.1 (Nat.le_of_ble_eq_true rfl) dX10_feed_33 rfl ⟨Nat.zero_le _, Nat.zero_le _⟩) hS (fun H locs hW hS => ?_)
    refine lv_aload_n hx hb dX10_feed_36 rfl (lv_at hl 0 rfl) ?_
    refine lv_iload hx hb dX10_feed_37 (lv_at hl 5 rfl) ?_
    obtain ⟨S_11, hc_10, h⟩ := cl0_ex h
    refine g_cv (g_runV (ci := 10) (o := 0) (As := [.int p5]) (rest := []) hx hb hml hown hts hK hN hT hS hW (c_X10_feedFour hB hc_10) (hB 0 bb_0) kd_0 rfl (gw_V mw_416 mw_418 mw_2 mw_66 mw_419) hv_X10_feedFour rfl rfl rfl (rm_ok (by decide) (by decide)) hl.1 (Nat.le_of_ble_eq_true rfl) dX10_feed_39 rfl ⟨Nat.zero_le _, Nat.zero_le _⟩) hS (fun H locs hW hS => ?_)
    refine lv_aload_n hx hb dX10_feed_42 rfl (lv_at hl 0 rfl) ?_
    refine g_get (C := RX10) (T := TX10) (N := 12) (ci := 10) hx hb hts inX10 hown hK hW (hB 0 bb_0) kd_0 rfl 8 (by decide) mw_256 rfl rfl dX10_feed_43 ?_
    cases h
    exact g_iret hx hb hr hlocks hW hS dX10_feed_46
  · have h := it_f c_1 h
    refine lv_iconst (v := (-1)) hx hb dX10_feed_13 (by decide) ?_
    cases h
    exact g_iret hx hb hr hlocks hW hS dX10_feed_14
theorem c_X10_feed (hB : Lk L) {S : St} {r : Int32} {S9 : St} {p1 : Int32} {p2 : Int32} {p3 : Int32} {p4 : Int32} {p5 : Int32} (h : f_X10_feed N S p1 p2 p3 p4 p5 = some (r, S9)) : Met l yX10_feed (gws yX10_feed cX10_feed 6 (some .int)) (rmk 2) (va_Pc [.ref (ad 0), .int p1, .int p2, .int p3, .int p4, .int p5] (WU g A ad L S)) (qi g A ad L r S9) 0 0 A :=
  g_met [.ref (ad 0), .int p1, .int p2, .int p3, .int p4, .int p5] (by decide) (Nat.le_of_ble_eq_true rfl) (fun p e s m below meth c ls C hW hl _ => t_X10_feed C hB h hW va_S.rf hl)
theorem hv_X10_feed : yX10_feed.cls = RX10 ∧ yX10_feed.cls ≠ "java/lang/invoke/MethodHandle" ∧ yX10_feed.cls ≠ "java/lang/invoke/VarHandle" ∧ (parseMethodDescriptor yX10_feed.desc).map (fun d => d.parameters.length) = some 5 := by decide +kernel
/-! DroveRoads.end -/
def f_X10_end (S : St) (p1 : Int32) : Option (Int32 × St) := cl0 (f_X10_within S p1 0 (gv S 0 8)) fun r_2 => if r_2 = 0 then (some ((-1), S)) else (bn (sv S 0 8 p1) fun S_5 => some (p1, S_5))
set_option maxHeartbeats 4000000 in
theorem t_X10_end (C : MC p s m args meth c cX10_end 2 (some .int) RX10 g A) (hB : Lk L) {S : St} {r : Int32} {S9 : St} {p1 : Int32} (h : f_X10_end S p1 = some (r, S9)) {H : Heap} {locs : List Loc} {ls : Array Slot} (hW : GW g A ad L S H) (hS : va_S A s.heap H locs) (hl : lv_has ls 2 [(0, .ref (ad 0)), (1, .int p1)]) : W p l e (rmk 2) s m args below meth c H locs 0 0 (MQ below (qi g A ad L r S9) args s 0 0 A) (F0 m 0 ls []) := by
  obtain ⟨hx, hb, hml, hown, hts, hr, hlocks, hK, hN, hT⟩ := id C
  unfold f_X10_end at h
  refine lv_iload_n hx hb dX10_end_0 rfl (lv_at hl 1 rfl) ?_
  refine lv_iconst (v := 0) hx hb dX10_end_1 (by decide) ?_
  refine lv_aload_n hx hb dX10_end_2 rfl (lv_at hl 0 rfl) ?_
  refine g_get (C := RX10) (T := TX10) (N := 12) (ci := 10) hx hb hts inX10 hown hK hW (hB 0 bb_0) kd_0 rfl 8 (by decide) mw_256 rfl rfl dX10_end_3 ?_
  obtain ⟨r_2, hc_1, h⟩ := cl0_ex h
  refine g_cz (g_runS (As := [.int p1, .int 0, .int (gv S 0 8)]) (rest := []) hx hb hml hown hts hK hN hT hS hW (c_X10_within hB hc_1) (gw_S mw_332 mw_293 mw_66 mw_294) hs_X10_within rfl rfl rfl (rm_ok (by decide) (by decide)) hl.1 (Nat.le_of_ble_eq_true rfl) dX10_end_6 rfl ⟨Nat.zero_le _, Nat.zero_le _⟩) hS (fun hz_3 H locs hW hS => ?_)
  refine lv_if_ne (tgt := 14) hx hb dX10_end_9 (by decide) (fun c_4 => ?_) (fun c_4 => ?_)
  · have h := it_f c_4 h
    refine lv_aload_n hx hb dX10_end_14 rfl (lv_at hl 0 rfl) ?_
    refine lv_iload_n hx hb dX10_end_15 rfl (lv_at hl 1 rfl) ?_
    refine g_put (C := RX10) (T := TX10) (N := 12) (ci := 10) hx hb hts inX10 tyX10 tyX10_ok nmX10 hown hK hW hS (hB 0 bb_0) kd_0 rfl 8 (by decide) mw_256 rfl rfl rfl rfl (Nat.le_of_ble_eq_true rfl) (sv S 0 8 p1) (ps_0_8) cellOf_sv dX10_end_16 (fun S_5 eS_5 H locs hW hS => ?_)
    have h := bn_at eS_5 h
    refine lv_iload_n hx hb dX10_end_19 rfl (lv_at hl 1 rfl) ?_
    cases h
    exact g_iret hx hb hr hlocks hW hS dX10_end_20
  · have h := it_t c_4 h
    refine lv_iconst (v := (-1)) hx hb dX10_end_12 (by decide) ?_
    cases h
    exact g_iret hx hb hr hlocks hW hS dX10_end_13
theorem c_X10_end (hB : Lk L) {S : St} {r : Int32} {S9 : St} {p1 : Int32} (h : f_X10_end S p1 = some (r, S9)) : Met l yX10_end (gws yX10_end cX10_end 2 (some .int)) (rmk 2) (va_Pc [.ref (ad 0), .int p1] (WU g A ad L S)) (qi g A ad L r S9) 0 0 A :=
  g_met [.ref (ad 0), .int p1] (by decide) (Nat.le_of_ble_eq_true rfl) (fun p e s m below meth c ls C hW hl _ => t_X10_end C hB h hW va_S.rf hl)
theorem hv_X10_end : yX10_end.cls = RX10 ∧ yX10_end.cls ≠ "java/lang/invoke/MethodHandle" ∧ yX10_end.cls ≠ "java/lang/invoke/VarHandle" ∧ (parseMethodDescriptor yX10_end.desc).map (fun d => d.parameters.length) = some 1 := by decide +kernel
/-! DroveRoads.fault -/
def f_X10_fault (S : St) (p1 : Int32) : Option (Int32) := if p1 = 0 then (some (gv S 0 9)) else if p1 = 1 then (some (gv S 0 10)) else (some (-1))
set_option maxHeartbeats 4000000 in
theorem t_X10_fault (C : MC p s m args meth c cX10_fault 2 (some .int) RX10 g A) (hB : Lk L) {S : St} {r : Int32} {p1 : Int32} (h : f_X10_fault S p1 = some r) {H : Heap} {locs : List Loc} {ls : Array Slot} (hW : GW g A ad L S H) (hS : va_S A s.heap H locs) (hl : lv_has ls 2 [(0, .ref (ad 0)), (1, .int p1)]) : W p l e (rmk 1) s m args below meth c H locs 0 0 (MQ below (qi g A ad L r S) args s 0 0 A) (F0 m 0 ls []) := by
  obtain ⟨hx, hb, hml, hown, hts, hr, hlocks, hK, hN, hT⟩ := id C
  unfold f_X10_fault at h
  refine lv_iload_n hx hb dX10_fault_0 rfl (lv_at hl 1 rfl) ?_
  by_cases c_1 : p1 = 0
  · have h := it_t c_1 h
    refine lv_lookup (tgt := 28) hx hb dX10_fault_1 (by decide) (by rw [c_1] <;> rfl) (by decide) ?_
    refine lv_aload_n hx hb dX10_fault_28 rfl (lv_at hl 0 rfl) ?_
    refine g_get (C := RX10) (T := TX10) (N := 12) (ci := 10) hx hb hts inX10 hown hK hW (hB 0 bb_0) kd_0 rfl 9 (by decide) mw_257 rfl rfl dX10_fault_29 ?_
    cases h
    exact g_iret hx hb hr hlocks hW hS dX10_fault_32
  have h := it_f c_1 h
  by_cases c_2 : p1 = 1
  · have h := it_t c_2 h
    refine lv_lookup (tgt := 33) hx hb dX10_fault_1 (by decide) (by rw [c_2] <;> rfl) (by decide) ?_
    refine lv_aload_n hx hb dX10_fault_33 rfl (lv_at hl 0 rfl) ?_
    refine g_get (C := RX10) (T := TX10) (N := 12) (ci := 10) hx hb hts inX10 hown hK hW (hB 0 bb_0) kd_0 rfl 10 (by decide) mw_258 rfl rfl dX10_fault_34 ?_
    cases h
    exact g_iret hx hb hr hlocks hW hS dX10_fault_37
  have h := it_f c_2 h
  refine lv_lookup (off := 37) (tgt := 38) hx hb dX10_fault_1 (by decide) (show Op.lookupswitch.offset [(0, 27), (1, 32)] 37 p1.toInt = 37 from by rw [lv_osw (a := 0) c_1 rfl, lv_osw (a := 1) c_2 rfl] <;> rfl) (by decide) ?_
  refine lv_iconst (v := (-1)) hx hb dX10_fault_38 (by decide) ?_
  cases h
  exact g_iret hx hb hr hlocks hW hS dX10_fault_39
theorem c_X10_fault (hB : Lk L) {S : St} {r : Int32} {p1 : Int32} (h : f_X10_fault S p1 = some r) : Met l yX10_fault (gws yX10_fault cX10_fault 2 (some .int)) (rmk 1) (va_Pc [.ref (ad 0), .int p1] (WU g A ad L S)) (qi g A ad L r S) 0 0 A :=
  g_met [.ref (ad 0), .int p1] (by decide) (Nat.le_of_ble_eq_true rfl) (fun p e s m below meth c ls C hW hl _ => t_X10_fault C hB h hW va_S.rf hl)
theorem hv_X10_fault : yX10_fault.cls = RX10 ∧ yX10_fault.cls ≠ "java/lang/invoke/MethodHandle" ∧ yX10_fault.cls ≠ "java/lang/invoke/VarHandle" ∧ (parseMethodDescriptor yX10_fault.desc).map (fun d => d.parameters.length) = some 1 := by decide +kernel
/-! DroveRoads.walkOn -/
def f_X10_walkOn (N : Nat) (S : St) (p1 : Nat) : Option (St) := cl0 (f_X9_milesOfStage S (gv S p1 5)) fun r_2 => cl1 (f_X1_walk S p1 r_2) fun r_4 S_5 => cl0 (f_X9_noteLeft S_5 (gv S_5 p1 5) r_4) fun S_7 => cl0 (f_X9_fair S_7) fun r_9 => if (gv S_7 p1 5) = r_9 then (cl0 (f_X10_priceKnownAt N S_7 (gv S_7 p1 5)) fun r_12 => cl0 (f_X1_sellAtFair S_7 p1 r_12) fun S_14 => some S_14) else (some S_7)
set_option maxHeartbeats 4000000 in
theorem t_X10_walkOn (C : MC p s m args meth c cX10_walkOn 3 none RX10 g A) (hB : Lk L) {p1 : Nat} (h_p1 : okh L p1) {S : St} {S9 : St} (h : f_X10_walkOn N S p1 = some S9) {H : Heap} {locs : List Loc} {ls : Array Slot} (hW : GW g A ad L S H) (hS : va_S A s.heap H locs) (hl : lv_has ls 3 [(0, .ref (ad 0)), (1, .ref (ad p1))]) : W p l e (rmk 4) s m args below meth c H locs 0 0 (MQ below (qv g A ad L S9) args s 0 0 A) (F0 m 0 ls []) := by
  obtain ⟨hx, hb, hml, hown, hts, hr, hlocks, hK, hN, hT⟩ := id C
  unfold f_X10_walkOn at h
  refine lv_aload_n hx hb dX10_walkOn_0 rfl (lv_at hl 1 rfl) ?_
  refine lv_aload_n hx hb dX10_walkOn_1 rfl (lv_at hl 0 rfl) ?_
  refine g_get (C := RX10) (T := TX10) (N := 12) (ci := 10) hx hb hts inX10 hown hK hW (hB 0 bb_0) kd_0 rfl 0 (by decide) mw_248 rfl rfl dX10_walkOn_2 ?_
  refine lv_aload_n hx hb dX10_walkOn_5 rfl (lv_at hl 1 rfl) ?_
  refine g_get (C := RX1) (T := TX1) (N := 12) (ci := 1) hx hb hts inX1 hown hK hW h_p1.2.2 (kd_herd h_p1) rfl 5 (by decide) mw_353 rfl rfl dX10_walkOn_6 ?_
  obtain ⟨r_2, hc_1, h⟩ := cl0_ex h
  refine g_ci (g_runV (ci := 9) (o := 1) (As := [.int (gv S p1 5)]) (rest := [.ref (ad p1)]) hx hb hml hown hts hK hN hT hS hW (c_X9_milesOfStage hB hc_1) (hB 1 bb_1) kd_1 rfl (gw_V mw_761 mw_727 mw_728 mw_67 mw_729) hv_X9_milesOfStage rfl rfl rfl (rm_ok (by decide) (by decide)) hl.1 (Nat.le_of_ble_eq_true rfl) dX10_walkOn_9 rfl ⟨Nat.zero_le _, Nat.zero_le _⟩) hS (fun H locs hW hS => ?_)
  obtain ⟨r_4, S_5, hc_3, h⟩ := cl1_ex h
  refine g_ci (g_runV (ci := 1) (o := p1) (As := [.int r_2]) (rest := []) hx hb hml hown hts hK hN hT hS hW (c_X1_walk hB h_p1 hc_3) h_p1.2.2 (kd_herd h_p1) rfl (gw_V mw_762 mw_763 mw_764 mw_74 mw_765) hv_X1_walk rfl rfl rfl (rm_ok (by decide) (by decide)) hl.1 (Nat.le_of_ble_eq_true rfl) dX10_walkOn_12 rfl ⟨Nat.zero_le _, Nat.zero_le _⟩) hS (fun H locs hW hS => ?_)
  refine lv_istore_n (lv' := [(2, .int r_4), (0, .ref (ad 0)), (1, .ref (ad p1))]) hx hb dX10_walkOn_15 rfl hl (by decide) rfl (fun ls hl => ?_)
  refine lv_aload_n hx hb dX10_walkOn_16 rfl (lv_at hl 1 rfl) ?_
  refine g_get (C := RX10) (T := TX10) (N := 12) (ci := 10) hx hb hts inX10 hown hK hW (hB 0 bb_0) kd_0 rfl 0 (by decide) mw_248 rfl rfl dX10_walkOn_17 ?_
  refine lv_aload_n hx hb dX10_walkOn_20 rfl (lv_at hl 2 rfl) ?_
  refine g_get (C := RX1) (T := TX1) (N := 12) (ci := 1) hx hb hts inX1 hown hK hW h_p1.2.2 (kd_herd h_p1) rfl 5 (by decide) mw_353 rfl rfl dX10_walkOn_21 ?_
  refine lv_iload_n hx hb dX10_walkOn_24 rfl (lv_at hl 0 rfl) ?_
  obtain ⟨S_7, hc_6, h⟩ := cl0_ex h
  refine g_cv (g_runV (ci := 9) (o := 1) (As := [.int (gv S_5 p1 5), .int r_4]) (rest := []) hx hb hml hown hts hK hN hT hS hW (c_X9_noteLeft hB hc_6) (hB 1 bb_1) kd_1 rfl (gw_V mw_768 mw_769 mw_770 mw_67 mw_771) hv_X9_noteLeft rfl rfl rfl (rm_ok (by decide) (by decide)) hl.1 (Nat.le_of_ble_eq_true rfl) dX10_walkOn_25 rfl ⟨Nat.zero_le _, Nat.zero_le _⟩) hS (fun H locs hW hS => ?_)
  refine lv_aload_n hx hb dX10_walkOn_28 rfl (lv_at hl 2 rfl) ?_
  refine g_get (C := RX1) (T := TX1) (N := 12) (ci := 1) hx hb hts inX1 hown hK hW h_p1.2.2 (kd_herd h_p1) rfl 5 (by decide) mw_353 rfl rfl dX10_walkOn_29 ?_
  refine lv_aload_n hx hb dX10_walkOn_32 rfl (lv_at hl 1 rfl) ?_
  refine g_get (C := RX10) (T := TX10) (N := 12) (ci := 10) hx hb hts inX10 hown hK hW (hB 0 bb_0) kd_0 rfl 0 (by decide) mw_248 rfl rfl dX10_walkOn_33 ?_
  obtain ⟨r_9, hc_8, h⟩ := cl0_ex h
  refine g_ci (g_runV (ci := 9) (o := 1) (As := []) (rest := [.int (gv S_7 p1 5)]) hx hb hml hown hts hK hN hT hS hW (c_X9_fair hB hc_8) (hB 1 bb_1) kd_1 rfl (gw_V mw_772 mw_304 mw_305 mw_67 mw_306) hv_X9_fair rfl rfl rfl (rm_ok (by decide) (by decide)) hl.1 (Nat.le_of_ble_eq_true rfl) dX10_walkOn_36 rfl ⟨Nat.zero_le _, Nat.zero_le _⟩) hS (fun H locs hW hS => ?_)
  refine lv_icmp_ne (tgt := 54) hx hb dX10_walkOn_39 (by decide) (fun c_10 => ?_) (fun c_10 => ?_)
  · have h := it_f c_10 h
    cases h
    exact g_vret hx hb hr hlocks hW hS dX10_walkOn_54
  · have h := it_t c_10 h
    refine lv_aload_n hx hb dX10_walkOn_42 rfl (lv_at hl 2 rfl) ?_
    refine lv_aload_n hx hb dX10_walkOn_43 rfl (lv_at hl 1 rfl) ?_
    refine lv_aload_n hx hb dX10_walkOn_44 rfl (lv_at hl 2 rfl) ?_
    refine g_get (C := RX1) (T := TX1) (N := 12) (ci := 1) hx hb hts inX1 hown hK hW h_p1.2.2 (kd_herd h_p1) rfl 5 (by decide) mw_353 rfl rfl dX10_walkOn_45 ?_
    obtain ⟨r_12, hc_11, h⟩ := cl0_ex h
    refine g_ci (g_runV (ci := 10) (o := 0) (As := [.int (gv S_7 p1 5)]) (rest := [.ref (ad p1)]) hx hb hml hown hts hK hN hT hS hW (c_X10_priceKnownAt hB hc_11) (hB 0 bb_0) kd_0 rfl (gw_V mw_400 mw_402 mw_1 mw_66 mw_403) hv_X10_priceKnownAt rfl rfl rfl (rm_ok (by decide) (by decide)) hl.1 (Nat.le_of_ble_eq_true rfl) dX10_walkOn_48 rfl ⟨Nat.zero_le _, Nat.zero_le _⟩) hS (fun H locs hW hS => ?_)
    obtain ⟨S_14, hc_13, h⟩ := cl0_ex h
    refine g_cv (g_runV (ci := 1) (o := p1) (As := [.int r_12]) (rest := []) hx hb hml hown hts hK hN hT hS hW (c_X1_sellAtFair hB h_p1 hc_13) h_p1.2.2 (kd_herd h_p1) rfl (gw_V mw_773 mw_774 mw_775 mw_74 mw_776) hv_X1_sellAtFair rfl rfl rfl (rm_ok (by decide) (by decide)) hl.1 (Nat.le_of_ble_eq_true rfl) dX10_walkOn_51 rfl ⟨Nat.zero_le _, Nat.zero_le _⟩) hS (fun H locs hW hS => ?_)
    cases h
    exact g_vret hx hb hr hlocks hW hS dX10_walkOn_54
theorem c_X10_walkOn (hB : Lk L) {p1 : Nat} (h_p1 : okh L p1) {S : St} {S9 : St} (h : f_X10_walkOn N S p1 = some S9) : Met l yX10_walkOn (gws yX10_walkOn cX10_walkOn 3 none) (rmk 4) (va_Pc [.ref (ad 0), .ref (ad p1)] (WU g A ad L S)) (qv g A ad L S9) 0 0 A :=
  g_met [.ref (ad 0), .ref (ad p1)] (by decide) (Nat.le_of_ble_eq_true rfl) (fun p e s m below meth c ls C hW hl _ => t_X10_walkOn C hB h_p1 h hW va_S.rf hl)
theorem hv_X10_walkOn : yX10_walkOn.cls = RX10 ∧ yX10_walkOn.cls ≠ "java/lang/invoke/MethodHandle" ∧ yX10_walkOn.cls ≠ "java/lang/invoke/VarHandle" ∧ (parseMethodDescriptor yX10_walkOn.desc).map (fun d => d.parameters.length) = some 1 := by decide +kernel
/-! DroveRoads.drive -/
def f_X10_drive_j57 (L : List Nat) (N : Nat) (p1 : Nat) (S : St) (v3 : Int32) : Option (St) := if (gv S p1 2) ≤ 0 then (some S) else (cl0 (f_X1_want S p1) fun r_16 => cl1 (f_X9_graze S (gv S p1 5) r_16) fun r_18 S_19 => if v3 = (-1) then (cl0 (f_X1_eat S_19 p1 r_18 1) fun S_24 => some S_24) else (cl0 (f_X1_eat S_19 p1 r_18 0) fun S_22 => some S_22))
set_option maxHeartbeats 4000000 in
theorem t_X10_drive_j57 (C : MC p s m args meth c cX10_drive 5 none RX10 g A) (hB : Lk L) {p1 : Nat} (h_p1 : okh L p1) {S : St} {S9 : St} {v3 : Int32} (h : f_X10_drive_j57 L N p1 S v3 = some S9) {H : Heap} {locs : List Loc} {ls : Array Slot} (hW : GW g A ad L S H) (hS : va_S A s.heap H locs) (hl : lv_has ls 5 [(0, .ref (ad 0)), (1, .ref (ad p1)), (3, .int v3)]) : W p l e (rmk 5) s m args below meth c H locs 0 0 (MQ below (qv g A ad L S9) args s 0 0 A) (F0 m 57 ls []) := by
  obtain ⟨hx, hb, hml, hown, hts, hr, hlocks, hK, hN, hT⟩ := id C
  unfold f_X10_drive_j57 at h
  refine lv_aload_n hx hb dX10_drive_57 rfl (lv_at hl 1 rfl) ?_
  refine g_get (C := RX1) (T := TX1) (N := 12) (ci := 1) hx hb hts inX1 hown hK hW h_p1.2.2 (kd_herd h_p1) rfl 2 (by decide) mw_345 rfl rfl dX10_drive_58 ?_
  refine lv_if_le (tgt := 97) hx hb dX10_drive_61 (by decide) (fun c_14 => ?_) (fun c_14 => ?_)
  · have h := it_t c_14 h
    cases h
    exact g_vret hx hb hr hlocks hW hS dX10_drive_97
  · have h := it_f c_14 h
    refine lv_aload_n hx hb dX10_drive_64 rfl (lv_at hl 0 rfl) ?_
    refine g_get (C := RX10) (T := TX10) (N := 12) (ci := 10) hx hb hts inX10 hown hK hW (hB 0 bb_0) kd_0 rfl 0 (by decide) mw_248 rfl rfl dX10_drive_65 ?_
    refine lv_aload_n hx hb dX10_drive_68 rfl (lv_at hl 1 rfl) ?_
    refine g_get (C := RX1) (T := TX1) (N := 12) (ci := 1) hx hb hts inX1 hown hK hW h_p1.2.2 (kd_herd h_p1) rfl 5 (by decide) mw_353 rfl rfl dX10_drive_69 ?_
    refine lv_aload_n hx hb dX10_drive_72 rfl (lv_at hl 1 rfl) ?_
    obtain ⟨r_16, hc_15, h⟩ := cl0_ex h
    refine g_ci (g_runV (ci := 1) (o := p1) (As := []) (rest := [.int (gv S p1 5), .ref (ad 1)]) hx hb hml hown hts hK hN hT hS hW (c_X1_want hB h_p1 hc_15) h_p1.2.2 (kd_herd h_p1) rfl (gw_V mw_790 mw_731 mw_732 mw_74 mw_733) hv_X1_want rfl rfl rfl (rm_ok (by decide) (by decide)) hl.1 (Nat.le_of_ble_eq_true rfl) dX10_drive_73 rfl ⟨Nat.zero_le _, Nat.zero_le _⟩) hS (fun H locs hW hS => ?_)
    obtain ⟨r_18, S_19, hc_17, h⟩ := cl1_ex h
    refine g_ci (g_runV (ci := 9) (o := 1) (As := [.int (gv S p1 5), .int r_16]) (rest := []) hx hb hml hown hts hK hN hT hS hW (c_X9_graze hB hc_17) (hB 1 bb_1) kd_1 rfl (gw_V mw_791 mw_792 mw_793 mw_67 mw_794) hv_X9_graze rfl rfl rfl (rm_ok (by decide) (by decide)) hl.1 (Nat.le_of_ble_eq_true rfl) dX10_drive_76 rfl ⟨Nat.zero_le _, Nat.zero_le _⟩) hS (fun H locs hW hS => ?_)
    refine lv_istore (lv' := [(4, .int r_18), (0, .ref (ad 0)), (1, .ref (ad p1)), (3, .int v3)]) hx hb dX10_drive_79 hl (by decide) rfl (fun ls hl => ?_)
    refine lv_aload_n hx hb dX10_drive_81 rfl (lv_at hl 2 rfl) ?_
    refine lv_iload hx hb dX10_drive_82 (lv_at hl 0 rfl) ?_
    refine lv_iload_n hx hb dX10_drive_84 rfl (lv_at hl 3 rfl) ?_
    refine lv_iconst (v := (-1)) hx hb dX10_drive_85 (by decide) ?_
    refine lv_icmp_ne (tgt := 93) hx hb dX10_drive_86 (by decide) (fun c_20 => ?_) (fun c_20 => ?_)
    · have h := it_f c_20 h
      refine lv_iconst (v := 0) hx hb dX10_drive_93 (by decide) ?_
      obtain ⟨S_22, hc_21, h⟩ := cl0_ex h
      refine g_cv (g_runV (ci := 1) (o := p1) (As := [.int r_18, .int 0]) (rest := []) hx hb hml hown hts hK hN hT hS hW (c_X1_eat hB h_p1 hc_21) h_p1.2.2 (kd_herd h_p1) rfl (gw_V mw_796 mw_797 mw_798 mw_74 mw_799) hv_X1_eat rfl rfl rfl (rm_ok (by decide) (by decide)) hl.1 (Nat.le_of_ble_eq_true rfl) dX10_drive_94 rfl ⟨Nat.zero_le _, Nat.zero_le _⟩) hS (fun H locs hW hS => ?_)
      cases h
      exact g_vret hx hb hr hlocks hW hS dX10_drive_97
    · have h := it_t c_20 h
      refine lv_iconst (v := 1) hx hb dX10_drive_89 (by decide) ?_
      refine lv_goto (tgt := 94) hx hb dX10_drive_90 (by decide) ?_
      obtain ⟨S_24, hc_23, h⟩ := cl0_ex h
      refine g_cv (g_runV (ci := 1) (o := p1) (As := [.int r_18, .int 1]) (rest := []) hx hb hml hown hts hK hN hT hS hW (c_X1_eat hB h_p1 hc_23) h_p1.2.2 (kd_herd h_p1) rfl (gw_V mw_796 mw_797 mw_798 mw_74 mw_799) hv_X1_eat rfl rfl rfl (rm_ok (by decide) (by decide)) hl.1 (Nat.le_of_ble_eq_true rfl) dX10_drive_94 rfl ⟨Nat.zero_le _, Nat.zero_le _⟩) hS (fun H locs hW hS => ?_)
      cases h
      exact g_vret hx hb hr hlocks hW hS dX10_drive_97
def f_X10_drive (L : List Nat) (N : Nat) (S : St) (p1 : Nat) : Option (St) := cl0 (f_X10_priceKnownAt N S (gv S p1 5)) fun r_2 => cl0 (f_X8_learn S p1 (gv S 0 11) r_2) fun S_4 => oc (gr S_4 p1 6) (none) fun n_5 => if oko L n_5 then (cl1 (f_X8_choose N S_4 n_5) fun r_9 S_10 => if r_9 = (-1) then (cl0 (f_X10_walkOn N S_10 p1) fun S_26 => f_X10_drive_j57 L N p1 S_26 r_9) else (cl0 (f_X1_sellOnTheWay S_10 p1 r_9 r_2) fun S_13 => f_X10_drive_j57 L N p1 S_13 r_9)) else none
set_option maxHeartbeats 4000000 in
theorem t_X10_drive (C : MC p s m args meth c cX10_drive 5 none RX10 g A) (hB : Lk L) {p1 : Nat} (h_p1 : okh L p1) {S : St} {S9 : St} (h : f_X10_drive L N S p1 = some S9) {H : Heap} {locs : List Loc} {ls : Array Slot} (hW : GW g A ad L S H) (hS : va_S A s.heap H locs) (hl : lv_has ls 5 [(0, .ref (ad 0)), (1, .ref (ad p1))]) : W p l e (rmk 5) s m args below meth c H locs 0 0 (MQ below (qv g A ad L S9) args s 0 0 A) (F0 m 0 ls []) := by
  obtain ⟨hx, hb, hml, hown, hts, hr, hlocks, hK, hN, hT⟩ := id C
  unfold f_X10_drive at h
  refine lv_aload_n hx hb dX10_drive_0 rfl (lv_at hl 0 rfl) ?_
  refine lv_aload_n hx hb dX10_drive_1 rfl (lv_at hl 1 rfl) ?_
  refine g_get (C := RX1) (T := TX1) (N := 12) (ci := 1) hx hb hts inX1 hown hK hW h_p1.2.2 (kd_herd h_p1) rfl 5 (by decide) mw_353 rfl rfl dX10_drive_2 ?_
  obtain ⟨r_2, hc_1, h⟩ := cl0_ex h
  refine g_ci (g_runV (ci := 10) (o := 0) (As := [.int (gv S p1 5)]) (rest := []) hx hb hml hown hts hK hN hT hS hW (c_X10_priceKnownAt hB hc_1) (hB 0 bb_0) kd_0 rfl (gw_V mw_400 mw_402 mw_1 mw_66 mw_403) hv_X10_priceKnownAt rfl rfl rfl (rm_ok (by decide) (by decide)) hl.1 (Nat.le_of_ble_eq_true rfl) dX10_drive_5 rfl ⟨Nat.zero_le _, Nat.zero_le _⟩) hS (fun H locs hW hS => ?_)
  refine lv_istore_n (lv' := [(2, .int r_2), (0, .ref (ad 0)), (1, .ref (ad p1))]) hx hb dX10_drive_8 rfl hl (by decide) rfl (fun ls hl => ?_)
  refine lv_aload_n hx hb dX10_drive_9 rfl (lv_at hl 1 rfl) ?_
  refine g_get (C := RX10) (T := TX10) (N := 12) (ci := 10) hx hb hts inX10 hown hK hW (hB 0 bb_0) kd_0 rfl 5 (by decide) mw_253 rfl rfl dX10_drive_10 ?_
  refine lv_aload_n hx hb dX10_drive_13 rfl (lv_at hl 2 rfl) ?_
  refine lv_aload_n hx hb dX10_drive_14 rfl (lv_at hl 1 rfl) ?_
  refine g_get (C := RX10) (T := TX10) (N := 12) (ci := 10) hx hb hts inX10 hown hK hW (hB 0 bb_0) kd_0 rfl 0 (by decide) mw_248 rfl rfl dX10_drive_15 ?_
  refine lv_aload_n hx hb dX10_drive_18 rfl (lv_at hl 1 rfl) ?_
  refine g_get (C := RX10) (T := TX10) (N := 12) (ci := 10) hx hb hts inX10 hown hK hW (hB 0 bb_0) kd_0 rfl 11 (by decide) mw_259 rfl rfl dX10_drive_19 ?_
  refine lv_iload_n hx hb dX10_drive_22 rfl (lv_at hl 0 rfl) ?_
  obtain ⟨S_4, hc_3, h⟩ := cl0_ex h
  refine g_cv (g_runV (ci := 8) (o := 5) (As := [.ref (ad p1), .ref (ad 1), .int (gv S 0 11), .int r_2]) (rest := []) hx hb hml hown hts hK hN hT hS hW (c_X8_learn hB h_p1 hc_3) (hB 5 bb_5) kd_5 rfl (gw_V mw_718 mw_719 mw_720 mw_71 mw_721) hv_X8_learn rfl rfl rfl (rm_ok (by decide) (by decide)) hl.1 (Nat.le_of_ble_eq_true rfl) dX10_drive_23 rfl ⟨Nat.zero_le _, Nat.zero_le _⟩) hS (fun H locs hW hS => ?_)
  refine lv_aload_n hx hb dX10_drive_26 rfl (lv_at hl 1 rfl) ?_
  refine g_get (C := RX10) (T := TX10) (N := 12) (ci := 10) hx hb hts inX10 hown hK hW (hB 0 bb_0) kd_0 rfl 5 (by decide) mw_253 rfl rfl dX10_drive_27 ?_
  refine lv_aload_n hx hb dX10_drive_30 rfl (lv_at hl 2 rfl) ?_
  refine g_get (C := RX1) (T := TX1) (N := 12) (ci := 1) hx hb hts inX1 hown hK hW h_p1.2.2 (kd_herd h_p1) rfl 6 (by decide) mw_355 rfl rfl dX10_drive_31 ?_
  rcases hq_6 : (gr S_4 p1 6) with _ | n_5
  · rw [hq_6] at h
    cases h
  · rw [hq_6] at h
    obtain ⟨hn_7, h⟩ := ck_t h
    refine W.eq (g2 := F0 m 34 ls (.ref (ad n_5) :: [.ref (ad 5)])) rfl ?_
    obtain ⟨r_9, S_10, hc_8, h⟩ := cl1_ex h
    refine g_ci (g_runV (ci := 8) (o := 5) (As := [.ref (ad n_5)]) (rest := []) hx hb hml hown hts hK hN hT hS hW (c_X8_choose hB hn_7 hc_8) (hB 5 bb_5) kd_5 rfl (gw_V mw_734 mw_735 mw_736 mw_71 mw_737) hv_X8_choose rfl rfl rfl (rm_ok (by decide) (by decide)) hl.1 (Nat.le_of_ble_eq_true rfl) dX10_drive_34 rfl ⟨Nat.zero_le _, Nat.zero_le _⟩) hS (fun H locs hW hS => ?_)
    refine lv_istore_n (lv' := [(3, .int r_9), (2, .int r_2), (0, .ref (ad 0)), (1, .ref (ad p1))]) hx hb dX10_drive_37 rfl hl (by decide) rfl (fun ls hl => ?_)
    refine lv_iload_n hx hb dX10_drive_38 rfl (lv_at hl 0 rfl) ?_
    refine lv_iconst (v := (-1)) hx hb dX10_drive_39 (by decide) ?_
    refine lv_icmp_ne (tgt := 51) hx hb dX10_drive_40 (by decide) (fun c_11 => ?_) (fun c_11 => ?_)
    · have h := it_f c_11 h
      refine lv_aload_n hx hb dX10_drive_51 rfl (lv_at hl 3 rfl) ?_
      refine lv_iload_n hx hb dX10_drive_52 rfl (lv_at hl 0 rfl) ?_
      refine lv_iload_n hx hb dX10_drive_53 rfl (lv_at hl 1 rfl) ?_
      obtain ⟨S_13, hc_12, h⟩ := cl0_ex h
      refine g_cv (g_runV (ci := 1) (o := p1) (As := [.int r_9, .int r_2]) (rest := []) hx hb hml hown hts hK hN hT hS hW (c_X1_sellOnTheWay hB h_p1 hc_12) h_p1.2.2 (kd_herd h_p1) rfl (gw_V mw_786 mw_787 mw_788 mw_74 mw_789) hv_X1_sellOnTheWay rfl rfl rfl (rm_ok (by decide) (by decide)) hl.1 (Nat.le_of_ble_eq_true rfl) dX10_drive_54 rfl ⟨Nat.zero_le _, Nat.zero_le _⟩) hS (fun H locs hW hS => ?_)
      exact t_X10_drive_j57 C hB h_p1 h hW hS (lv_sub hl [2, 3, 0] rfl)
    · have h := it_t c_11 h
      refine lv_aload_n hx hb dX10_drive_43 rfl (lv_at hl 2 rfl) ?_
      refine lv_aload_n hx hb dX10_drive_44 rfl (lv_at hl 3 rfl) ?_
      obtain ⟨S_26, hc_25, h⟩ := cl0_ex h
      refine g_cv (g_runV (ci := 10) (o := 0) (As := [.ref (ad p1)]) (rest := []) hx hb hml hown hts hK hN hT hS hW (c_X10_walkOn hB h_p1 hc_25) (hB 0 bb_0) kd_0 rfl (gw_V mw_757 mw_759 mw_28 mw_66 mw_760) hv_X10_walkOn rfl rfl rfl (rm_ok (by decide) (by decide)) hl.1 (Nat.le_of_ble_eq_true rfl) dX10_drive_45 rfl ⟨Nat.zero_le _, Nat.zero_le _⟩) hS (fun H locs hW hS => ?_)
      refine lv_goto (tgt := 57) hx hb dX10_drive_48 (by decide) ?_
      exact t_X10_drive_j57 C hB h_p1 h hW hS (lv_sub hl [2, 3, 0] rfl)
theorem c_X10_drive (hB : Lk L) {p1 : Nat} (h_p1 : okh L p1) {S : St} {S9 : St} (h : f_X10_drive L N S p1 = some S9) : Met l yX10_drive (gws yX10_drive cX10_drive 5 none) (rmk 5) (va_Pc [.ref (ad 0), .ref (ad p1)] (WU g A ad L S)) (qv g A ad L S9) 0 0 A :=
  g_met [.ref (ad 0), .ref (ad p1)] (by decide) (Nat.le_of_ble_eq_true rfl) (fun p e s m below meth c ls C hW hl _ => t_X10_drive C hB h_p1 h hW va_S.rf hl)
theorem hv_X10_drive : yX10_drive.cls = RX10 ∧ yX10_drive.cls ≠ "java/lang/invoke/MethodHandle" ∧ yX10_drive.cls ≠ "java/lang/invoke/VarHandle" ∧ (parseMethodDescriptor yX10_drive.desc).map (fun d => d.parameters.length) = some 1 := by decide +kernel
/-! DroveRoads.passDay -/
def f_X10_passDay_l9 (L : List Nat) (N : Nat) (k : St → Option (St)) : Nat → St → Int32 → Option (St)
  | 0, _, _ => none
  | n + 1, S, v1 => if (gv S 0 7) ≤ v1 then (k S) else (if v1 < 0 ∨ 6 ≤ ix v1 then none else oc (gr S 6 (ix v1)) (bn (v1 + 1) fun x_15 => f_X10_passDay_l9 L N k n S x_15) fun n_5 => if okh L n_5 then (if (gv S n_5 2) ≤ 0 then (bn (v1 + 1) fun x_9 => f_X10_passDay_l9 L N k n S x_9) else (if (gv S 0 11) < (gv S n_5 1) then (bn (v1 + 1) fun x_11 => f_X10_passDay_l9 L N k n S x_11) else (cl0 (f_X10_drive L N S n_5) fun S_13 => bn (v1 + 1) fun x_14 => f_X10_passDay_l9 L N k n S_13 x_14))) else none)
set_option maxHeartbeats 4000000 in
theorem t_X10_passDay_l9 (C : MC p s m args meth c cX10_passDay 3 none RX10 g A) (hB : Lk L) {S9 : St} {k : St → Option (St)} (hk : ∀ (S : St), k S = some S9 → ∀ (H : Heap) (locs : List Loc) (ls : Array Slot), GW g A ad L S H → va_S A s.heap H locs → lv_has ls 3 [(0, .ref (ad 0))] → W p l e (rmk 6) s m args below meth c H locs 0 0 (MQ below (qv g A ad L S9) args s 0 0 A) (F0 m 57 ls [])) : ∀ (n : Nat) (S : St) (v1 : Int32), f_X10_passDay_l9 L N k n S v1 = some S9 → ∀ (H : Heap) (locs : List Loc) (ls : Array Slot), GW g A ad L S H → va_S A s.heap H locs → lv_has ls 3 [(0, .ref (ad 0)), (1, .int v1)] → W p l e (rmk 6) s m args below meth c H locs 0 0 (MQ below (qv g A ad L S9) args s 0 0 A) (F0 m 9 ls []) := by
  obtain ⟨hx, hb, hml, hown, hts, hr, hlocks, hK, hN, hT⟩ := id C
  intro n
  induction n with
  | zero =>
    intro S v1 h
    have h : (none : Option (St)) = some S9 := h
    cases h
  | succ n ih =>
    intro S v1 h H locs ls hW hS hl
    rw [f_X10_passDay_l9] at h
    refine lv_iload_n hx hb dX10_passDay_9 rfl (lv_at hl 1 rfl) ?_
    refine lv_aload_n hx hb dX10_passDay_10 rfl (lv_at hl 0 rfl) ?_
    refine g_get (C := RX10) (T := TX10) (N := 12) (ci := 10) hx hb hts inX10 hown hK hW (hB 0 bb_0) kd_0 rfl 7 (by decide) mw_255 rfl rfl dX10_passDay_11 ?_
    refine lv_icmp_ge (tgt := 57) hx hb dX10_passDay_14 (by decide) (fun c_3 => ?_) (fun c_3 => ?_)
    · have h := it_t c_3 h
      exact hk _ h _ _ _ hW hS (lv_sub hl [0] rfl)
    · have h := it_f c_3 h
      refine lv_aload_n hx hb dX10_passDay_17 rfl (lv_at hl 0 rfl) ?_
      refine g_get (C := RX10) (T := TX10) (N := 12) (ci := 10) hx hb hts inX10 hown hK hW (hB 0 bb_0) kd_0 rfl 3 (by decide) mw_251 rfl rfl dX10_passDay_18 ?_
      refine lv_iload_n hx hb dX10_passDay_21 rfl (lv_at hl 1 rfl) ?_
      obtain ⟨hi_4, h⟩ := ck_n h
      refine g_aald hx hb hK hW (hB 6 bb_6) hi_4 dX10_passDay_22 ?_
      rcases hq_6 : (gr S 6 (ix v1)) with _ | n_5
      · rw [hq_6] at h
        refine W.eq (g2 := F0 m 23 ls (.null :: [])) rfl ?_
        refine lv_astore_nN (lv' := [(2, .null), (0, .ref (ad 0)), (1, .int v1)]) hx hb dX10_passDay_23 rfl hl (by decide) rfl (fun ls hl => ?_)
        refine lv_aload_nN hx hb dX10_passDay_24 rfl (lv_at hl 0 rfl) ?_
        refine lv_ifnullN (tgt := 51) hx hb dX10_passDay_25 (by decide) ?_
        obtain ⟨x_15, ex_15⟩ : ∃ z : Int32, z = v1 + 1 := ⟨_, rfl⟩
        have h := bn_at ex_15 h
        refine lv_iinc (v := x_15) (lv' := [(1, .int x_15), (2, .null), (0, .ref (ad 0))]) hx hb dX10_passDay_51 hl (k := 2) rfl (by rw [ex_15]; rfl) (by decide) rfl (fun ls hl => ?_)
        refine lv_goto (tgt := 9) hx hb dX10_passDay_54 (by decide) ?_
        exact ih _ _ h _ _ _ hW hS (lv_sub hl [2, 0] rfl)
      · rw [hq_6] at h
        obtain ⟨hn_7, h⟩ := ck_t h
        refine W.eq (g2 := F0 m 23 ls (.ref (ad n_5) :: [])) rfl ?_
        refine lv_astore_n (lv' := [(2, .ref (ad n_5)), (0, .ref (ad 0)), (1, .int v1)]) hx hb dX10_passDay_23 rfl hl (by decide) rfl (fun ls hl => ?_)
        refine lv_aload_n hx hb dX10_passDay_24 rfl (lv_at hl 0 rfl) ?_
        refine lv_ifnull hx hb dX10_passDay_25 ?_
        refine lv_aload_n hx hb dX10_passDay_28 rfl (lv_at hl 0 rfl) ?_
        refine g_get (C := RX1) (T := TX1) (N := 12) (ci := 1) hx hb hts inX1 hown hK hW hn_7.2.2 (kd_herd hn_7) rfl 2 (by decide) mw_345 rfl rfl dX10_passDay_29 ?_
        refine lv_if_le (tgt := 51) hx hb dX10_passDay_32 (by decide) (fun c_8 => ?_) (fun c_8 => ?_)
        · have h := it_t c_8 h
          obtain ⟨x_9, ex_9⟩ : ∃ z : Int32, z = v1 + 1 := ⟨_, rfl⟩
          have h := bn_at ex_9 h
          refine lv_iinc (v := x_9) (lv' := [(1, .int x_9), (2, .ref (ad n_5)), (0, .ref (ad 0))]) hx hb dX10_passDay_51 hl (k := 2) rfl (by rw [ex_9]; rfl) (by decide) rfl (fun ls hl => ?_)
          refine lv_goto (tgt := 9) hx hb dX10_passDay_54 (by decide) ?_
          exact ih _ _ h _ _ _ hW hS (lv_sub hl [2, 0] rfl)
        · have h := it_f c_8 h
          refine lv_aload_n hx hb dX10_passDay_35 rfl (lv_at hl 0 rfl) ?_
          refine g_get (C := RX1) (T := TX1) (N := 12) (ci := 1) hx hb hts inX1 hown hK hW hn_7.2.2 (kd_herd hn_7) rfl 1 (by decide) mw_342 rfl rfl dX10_passDay_36 ?_
          refine lv_aload_n hx hb dX10_passDay_39 rfl (lv_at hl 1 rfl) ?_
          refine g_get (C := RX10) (T := TX10) (N := 12) (ci := 10) hx hb hts inX10 hown hK hW (hB 0 bb_0) kd_0 rfl 11 (by decide) mw_259 rfl rfl dX10_passDay_40 ?_
          refine lv_icmp_gt (tgt := 51) hx hb dX10_passDay_43 (by decide) (fun c_10 => ?_) (fun c_10 => ?_)
          · have h := it_t c_10 h
            obtain ⟨x_11, ex_11⟩ : ∃ z : Int32, z = v1 + 1 := ⟨_, rfl⟩
            have h := bn_at ex_11 h
            refine lv_iinc (v := x_11) (lv' := [(1, .int x_11), (2, .ref (ad n_5)), (0, .ref (ad 0))]) hx hb dX10_passDay_51 hl (k := 2) rfl (by rw [ex_11]; rfl) (by decide) rfl (fun ls hl => ?_)
            refine lv_goto (tgt := 9) hx hb dX10_passDay_54 (by decide) ?_
            exact ih _ _ h _ _ _ hW hS (lv_sub hl [2, 0] rfl)
          · have h := it_f c_10 h
            refine lv_aload_n hx hb dX10_passDay_46 rfl (lv_at hl 1 rfl) ?_
            refine lv_aload_n hx hb dX10_passDay_47 rfl (lv_at hl 0 rfl) ?_
            obtain ⟨S_13, hc_12, h⟩ := cl0_ex h
            refine g_cv (g_runV (ci := 10) (o := 0) (As := [.ref (ad n_5)]) (rest := []) hx hb hml hown hts hK hN hT hS hW (c_X10_drive hB hn_7 hc_12) (hB 0 bb_0) kd_0 rfl (gw_V mw_714 mw_716 mw_23 mw_66 mw_717) hv_X10_drive rfl rfl rfl (rm_ok (by decide) (by decide)) hl.1 (Nat.le_of_ble_eq_true rfl) dX10_passDay_48 rfl ⟨Nat.zero_le _, Nat.zero_le _⟩) hS (fun H locs hW hS => ?_)
            obtain ⟨x_14, ex_14⟩ : ∃ z : Int32, z = v1 + 1 := ⟨_, rfl⟩
            have h := bn_at ex_14 h
            refine lv_iinc (v := x_14) (lv' := [(1, .int x_14), (2, .ref (ad n_5)), (0, .ref (ad 0))]) hx hb dX10_passDay_51 hl (k := 2) rfl (by rw [ex_14]; rfl) (by decide) rfl (fun ls hl => ?_)
            refine lv_goto (tgt := 9) hx hb dX10_passDay_54 (by decide) ?_
            exact ih _ _ h _ _ _ hW hS (lv_sub hl [2, 0] rfl)
def f_X10_passDay (L : List Nat) (N : Nat) (S : St) : Option (St) := cl0 (f_X9_grow N S) fun S_2 => f_X10_passDay_l9 L N (fun S_16 => bn (sv S_16 0 11 ((gv S_16 0 11) + 1)) fun S_17 => some S_17) N S_2 0
set_option maxHeartbeats 4000000 in
theorem t_X10_passDay (C : MC p s m args meth c cX10_passDay 3 none RX10 g A) (hB : Lk L) {S : St} {S9 : St} (h : f_X10_passDay L N S = some S9) {H : Heap} {locs : List Loc} {ls : Array Slot} (hW : GW g A ad L S H) (hS : va_S A s.heap H locs) (hl : lv_has ls 3 [(0, .ref (ad 0))]) : W p l e (rmk 6) s m args below meth c H locs 0 0 (MQ below (qv g A ad L S9) args s 0 0 A) (F0 m 0 ls []) := by
  obtain ⟨hx, hb, hml, hown, hts, hr, hlocks, hK, hN, hT⟩ := id C
  unfold f_X10_passDay at h
  refine lv_aload_n hx hb dX10_passDay_0 rfl (lv_at hl 0 rfl) ?_
  refine g_get (C := RX10) (T := TX10) (N := 12) (ci := 10) hx hb hts inX10 hown hK hW (hB 0 bb_0) kd_0 rfl 0 (by decide) mw_248 rfl rfl dX10_passDay_1 ?_
  obtain ⟨S_2, hc_1, h⟩ := cl0_ex h
  refine g_cv (g_runV (ci := 9) (o := 1) (As := []) (rest := []) hx hb hml hown hts hK hN hT hS hW (c_X9_grow hB hc_1) (hB 1 bb_1) kd_1 rfl (gw_V mw_709 mw_710 mw_711 mw_67 mw_712) hv_X9_grow rfl rfl rfl (rm_ok (by decide) (by decide)) hl.1 (Nat.le_of_ble_eq_true rfl) dX10_passDay_4 rfl ⟨Nat.zero_le _, Nat.zero_le _⟩) hS (fun H locs hW hS => ?_)
  refine lv_iconst (v := 0) hx hb dX10_passDay_7 (by decide) ?_
  refine lv_istore_n (lv' := [(1, .int 0), (0, .ref (ad 0))]) hx hb dX10_passDay_8 rfl hl (by decide) rfl (fun ls hl => ?_)
  refine t_X10_passDay_l9 C hB ?_ _ _ _ h _ _ _ hW hS (lv_sub hl [1, 0] rfl)
  intro S_16 h H locs ls hW hS hl
  refine lv_aload_n hx hb dX10_passDay_57 rfl (lv_at hl 0 rfl) ?_
  refine lv_dup hx hb dX10_passDay_58 rfl ?_
  refine g_get (C := RX10) (T := TX10) (N := 12) (ci := 10) hx hb hts inX10 hown hK hW (hB 0 bb_0) kd_0 rfl 11 (by decide) mw_259 rfl rfl dX10_passDay_59 ?_
  refine lv_iconst (v := 1) hx hb dX10_passDay_62 (by decide) ?_
  refine lv_iadd hx hb dX10_passDay_63 ?_
  refine g_put (C := RX10) (T := TX10) (N := 12) (ci := 10) hx hb hts inX10 tyX10 tyX10_ok nmX10 hown hK hW hS (hB 0 bb_0) kd_0 rfl 11 (by decide) mw_259 rfl rfl rfl rfl (Nat.le_of_ble_eq_true rfl) (sv S_16 0 11 ((gv S_16 0 11) + 1)) (ps_0_11) cellOf_sv dX10_passDay_64 (fun S_17 eS_17 H locs hW hS => ?_)
  have h := bn_at eS_17 h
  cases h
  exact g_vret hx hb hr hlocks hW hS dX10_passDay_67
theorem c_X10_passDay (hB : Lk L) {S : St} {S9 : St} (h : f_X10_passDay L N S = some S9) : Met l yX10_passDay (gws yX10_passDay cX10_passDay 3 none) (rmk 6) (va_Pc [.ref (ad 0)] (WU g A ad L S)) (qv g A ad L S9) 0 0 A :=
  g_met [.ref (ad 0)] (by decide) (Nat.le_of_ble_eq_true rfl) (fun p e s m below meth c ls C hW hl _ => t_X10_passDay C hB h hW va_S.rf hl)
theorem hv_X10_passDay : yX10_passDay.cls = RX10 ∧ yX10_passDay.cls ≠ "java/lang/invoke/MethodHandle" ∧ yX10_passDay.cls ≠ "java/lang/invoke/VarHandle" ∧ (parseMethodDescriptor yX10_passDay.desc).map (fun d => d.parameters.length) = some 0 := by decide +kernel
/-! DroveRoads.days -/
def f_X10_days_l15 (L : List Nat) (N : Nat) (v1 : Int32) (k : St → Int32 → Option (Int32 × St)) : Nat → St → Int32 → Option (Int32 × St)
  | 0, _, _ => none
  | n + 1, S, v2 => if v1 ≤ v2 then (k S v2) else (if 100000 ≤ (gv S 0 11) then (k S v2) else (cl0 (f_X10_passDay L N S) fun S_8 => bn (v2 + 1) fun x_9 => f_X10_days_l15 L N v1 k n S_8 x_9))
set_option maxHeartbeats 4000000 in
theorem t_X10_days_l15 (C : MC p s m args meth c cX10_days 3 (some .int) RX10 g A) (hB : Lk L) {v1 : Int32} {r : Int32} {S9 : St} {k : St → Int32 → Option (Int32 × St)} (hk : ∀ (S : St) (w2 : Int32), k S w2 = some (r, S9) → ∀ (H : Heap) (locs : List Loc) (ls : Array Slot), GW g A ad L S H → va_S A s.heap H locs → lv_has ls 3 [(2, .int w2)] → W p l e (rmk 7) s m args below meth c H locs 0 0 (MQ below (qi g A ad L r S9) args s 0 0 A) (F0 m 39 ls [])) : ∀ (n : Nat) (S : St) (v2 : Int32), f_X10_days_l15 L N v1 k n S v2 = some (r, S9) → ∀ (H : Heap) (locs : List Loc) (ls : Array Slot), GW g A ad L S H → va_S A s.heap H locs → lv_has ls 3 [(0, .ref (ad 0)), (1, .int v1), (2, .int v2)] → W p l e (rmk 7) s m args below meth c H locs 0 0 (MQ below (qi g A ad L r S9) args s 0 0 A) (F0 m 15 ls []) := by
  obtain ⟨hx, hb, hml, hown, hts, hr, hlocks, hK, hN, hT⟩ := id C
  intro n
  induction n with
  | zero =>
    intro S v2 h
    have h : (none : Option (Int32 × St)) = some (r, S9) := h
    cases h
  | succ n ih =>
    intro S v2 h H locs ls hW hS hl
    rw [f_X10_days_l15] at h
    refine lv_iload_n hx hb dX10_days_15 rfl (lv_at hl 2 rfl) ?_
    refine lv_iload_n hx hb dX10_days_16 rfl (lv_at hl 1 rfl) ?_
    refine lv_icmp_ge (tgt := 39) hx hb dX10_days_17 (by decide) (fun c_5 => ?_) (fun c_5 => ?_)
    · have h := it_t c_5 h
      exact hk _ _ h _ _ _ hW hS (lv_sub hl [2] rfl)
    · have h := it_f c_5 h
      refine lv_aload_n hx hb dX10_days_20 rfl (lv_at hl 0 rfl) ?_
      refine g_get (C := RX10) (T := TX10) (N := 12) (ci := 10) hx hb hts inX10 hown hK hW (hB 0 bb_0) kd_0 rfl 11 (by decide) mw_259 rfl rfl dX10_days_21 ?_
      refine lv_ldc (v := 100000) hx hb hown (hts _ mw_704) dX10_days_24 ?_
      refine lv_icmp_ge (tgt := 39) hx hb dX10_days_26 (by decide) (fun c_6 => ?_) (fun c_6 => ?_)
      · have h := it_t c_6 h
        exact hk _ _ h _ _ _ hW hS (lv_sub hl [2] rfl)
      · have h := it_f c_6 h
        refine lv_aload_n hx hb dX10_days_29 rfl (lv_at hl 0 rfl) ?_
        obtain ⟨S_8, hc_7, h⟩ := cl0_ex h
        refine g_cv (g_runV (ci := 10) (o := 0) (As := []) (rest := []) hx hb hml hown hts hK hN hT hS hW (c_X10_passDay hB hc_7) (hB 0 bb_0) kd_0 rfl (gw_V mw_705 mw_707 mw_22 mw_66 mw_708) hv_X10_passDay rfl rfl rfl (rm_ok (by decide) (by decide)) hl.1 (Nat.le_of_ble_eq_true rfl) dX10_days_30 rfl ⟨Nat.zero_le _, Nat.zero_le _⟩) hS (fun H locs hW hS => ?_)
        obtain ⟨x_9, ex_9⟩ : ∃ z : Int32, z = v2 + 1 := ⟨_, rfl⟩
        have h := bn_at ex_9 h
        refine lv_iinc (v := x_9) (lv' := [(2, .int x_9), (0, .ref (ad 0)), (1, .int v1)]) hx hb dX10_days_33 hl (k := 2) rfl (by rw [ex_9]; rfl) (by decide) rfl (fun ls hl => ?_)
        refine lv_goto (tgt := 15) hx hb dX10_days_36 (by decide) ?_
        exact ih _ _ h _ _ _ hW hS (lv_sub hl [1, 2, 0] rfl)
def f_X10_days (L : List Nat) (N : Nat) (S : St) (p1 : Int32) : Option (Int32 × St) := cl0 (f_X10_within S p1 0 400) fun r_2 => if r_2 = 0 then (some ((-1), S)) else (f_X10_days_l15 L N p1 (fun S_10 x_11 => some (x_11, S_10)) N S 0)
set_option maxHeartbeats 4000000 in
theorem t_X10_days (C : MC p s m args meth c cX10_days 3 (some .int) RX10 g A) (hB : Lk L) {S : St} {r : Int32} {S9 : St} {p1 : Int32} (h : f_X10_days L N S p1 = some (r, S9)) {H : Heap} {locs : List Loc} {ls : Array Slot} (hW : GW g A ad L S H) (hS : va_S A s.heap H locs) (hl : lv_has ls 3 [(0, .ref (ad 0)), (1, .int p1)]) : W p l e (rmk 7) s m args below meth c H locs 0 0 (MQ below (qi g A ad L r S9) args s 0 0 A) (F0 m 0 ls []) := by
  obtain ⟨hx, hb, hml, hown, hts, hr, hlocks, hK, hN, hT⟩ := id C
  unfold f_X10_days at h
  refine lv_iload_n hx hb dX10_days_0 rfl (lv_at hl 1 rfl) ?_
  refine lv_iconst (v := 0) hx hb dX10_days_1 (by decide) ?_
  refine lv_sipush (v := 400) hx hb dX10_days_2 (by decide) ?_
  obtain ⟨r_2, hc_1, h⟩ := cl0_ex h
  refine g_cz (g_runS (As := [.int p1, .int 0, .int 400]) (rest := []) hx hb hml hown hts hK hN hT hS hW (c_X10_within hB hc_1) (gw_S mw_332 mw_293 mw_66 mw_294) hs_X10_within rfl rfl rfl (rm_ok (by decide) (by decide)) hl.1 (Nat.le_of_ble_eq_true rfl) dX10_days_5 rfl ⟨Nat.zero_le _, Nat.zero_le _⟩) hS (fun hz_3 H locs hW hS => ?_)
  refine lv_if_ne (tgt := 13) hx hb dX10_days_8 (by decide) (fun c_4 => ?_) (fun c_4 => ?_)
  · have h := it_f c_4 h
    refine lv_iconst (v := 0) hx hb dX10_days_13 (by decide) ?_
    refine lv_istore_n (lv' := [(2, .int 0), (0, .ref (ad 0)), (1, .int p1)]) hx hb dX10_days_14 rfl hl (by decide) rfl (fun ls hl => ?_)
    refine t_X10_days_l15 C hB ?_ _ _ _ h _ _ _ hW hS (lv_sub hl [1, 2, 0] rfl)
    intro S_10 x_11 h H locs ls hW hS hl
    refine lv_iload_n hx hb dX10_days_39 rfl (lv_at hl 0 rfl) ?_
    cases h
    exact g_iret hx hb hr hlocks hW hS dX10_days_40
  · have h := it_t c_4 h
    refine lv_iconst (v := (-1)) hx hb dX10_days_11 (by decide) ?_
    cases h
    exact g_iret hx hb hr hlocks hW hS dX10_days_12
theorem c_X10_days (hB : Lk L) {S : St} {r : Int32} {S9 : St} {p1 : Int32} (h : f_X10_days L N S p1 = some (r, S9)) : Met l yX10_days (gws yX10_days cX10_days 3 (some .int)) (rmk 7) (va_Pc [.ref (ad 0), .int p1] (WU g A ad L S)) (qi g A ad L r S9) 0 0 A :=
  g_met [.ref (ad 0), .int p1] (by decide) (Nat.le_of_ble_eq_true rfl) (fun p e s m below meth c ls C hW hl _ => t_X10_days C hB h hW va_S.rf hl)
theorem hv_X10_days : yX10_days.cls = RX10 ∧ yX10_days.cls ≠ "java/lang/invoke/MethodHandle" ∧ yX10_days.cls ≠ "java/lang/invoke/VarHandle" ∧ (parseMethodDescriptor yX10_days.desc).map (fun d => d.parameters.length) = some 1 := by decide +kernel
/-! DroveRoads.findHerd -/
def f_X10_findHerd (L : List Nat) (S : St) (p1 : Int32) : Option (Option Nat) := if p1 < 0 then (some none) else (if (gv S 0 7) ≤ p1 then (some none) else (if p1 < 0 ∨ 6 ≤ ix p1 then none else oc (gr S 6 (ix p1)) (some none) fun n_4 => if okh L n_4 then (some (some n_4)) else none))
set_option maxHeartbeats 4000000 in
theorem t_X10_findHerd (C : MC p s m args meth c cX10_findHerd 2 (some (.object "DroveRoads$Herd")) RX10 g A) (hB : Lk L) {S : St} {r : Option Nat} {p1 : Int32} (h : f_X10_findHerd L S p1 = some r) {H : Heap} {locs : List Loc} {ls : Array Slot} (hW : GW g A ad L S H) (hS : va_S A s.heap H locs) (hl : lv_has ls 2 [(0, .ref (ad 0)), (1, .int p1)]) : W p l e (rmk 1) s m args below meth c H locs 0 0 (MQ below (qr g A ad L r S) args s 0 0 A) (F0 m 0 ls []) := by
  obtain ⟨hx, hb, hml, hown, hts, hr, hlocks, hK, hN, hT⟩ := id C
  unfold f_X10_findHerd at h
  refine lv_iload_n hx hb dX10_findHerd_0 rfl (lv_at hl 1 rfl) ?_
  refine lv_if_lt (tgt := 21) hx hb dX10_findHerd_1 (by decide) (fun c_1 => ?_) (fun c_1 => ?_)
  · have h := it_t c_1 h
    refine lv_null hx hb dX10_findHerd_21 ?_
    cases h
    exact g_aret (r := none) hx hb hr hlocks hW hS rfl dX10_findHerd_22
  · have h := it_f c_1 h
    refine lv_iload_n hx hb dX10_findHerd_4 rfl (lv_at hl 1 rfl) ?_
    refine lv_aload_n hx hb dX10_findHerd_5 rfl (lv_at hl 0 rfl) ?_
    refine g_get (C := RX10) (T := TX10) (N := 12) (ci := 10) hx hb hts inX10 hown hK hW (hB 0 bb_0) kd_0 rfl 7 (by decide) mw_255 rfl rfl dX10_findHerd_6 ?_
    refine lv_icmp_ge (tgt := 21) hx hb dX10_findHerd_9 (by decide) (fun c_2 => ?_) (fun c_2 => ?_)
    · have h := it_t c_2 h
      refine lv_null hx hb dX10_findHerd_21 ?_
      cases h
      exact g_aret (r := none) hx hb hr hlocks hW hS rfl dX10_findHerd_22
    · have h := it_f c_2 h
      refine lv_aload_n hx hb dX10_findHerd_12 rfl (lv_at hl 0 rfl) ?_
      refine g_get (C := RX10) (T := TX10) (N := 12) (ci := 10) hx hb hts inX10 hown hK hW (hB 0 bb_0) kd_0 rfl 3 (by decide) mw_251 rfl rfl dX10_findHerd_13 ?_
      refine lv_iload_n hx hb dX10_findHerd_16 rfl (lv_at hl 1 rfl) ?_
      obtain ⟨hi_3, h⟩ := ck_n h
      refine g_aald hx hb hK hW (hB 6 bb_6) hi_3 dX10_findHerd_17 ?_
      rcases hq_5 : (gr S 6 (ix p1)) with _ | n_4
      · rw [hq_5] at h
        refine W.eq (g2 := F0 m 18 ls (.null :: [])) rfl ?_
        refine lv_goto (tgt := 22) hx hb dX10_findHerd_18 (by decide) ?_
        cases h
        exact g_aret (r := none) hx hb hr hlocks hW hS rfl dX10_findHerd_22
      · rw [hq_5] at h
        obtain ⟨hn_6, h⟩ := ck_t h
        refine W.eq (g2 := F0 m 18 ls (.ref (ad n_4) :: [])) rfl ?_
        refine lv_goto (tgt := 22) hx hb dX10_findHerd_18 (by decide) ?_
        cases h
        exact g_aret (r := (some n_4)) hx hb hr hlocks hW hS rfl dX10_findHerd_22
theorem c_X10_findHerd (hB : Lk L) {S : St} {r : Option Nat} {p1 : Int32} (h : f_X10_findHerd L S p1 = some r) : Met l yX10_findHerd (gws yX10_findHerd cX10_findHerd 2 (some (.object "DroveRoads$Herd"))) (rmk 1) (va_Pc [.ref (ad 0), .int p1] (WU g A ad L S)) (qr g A ad L r S) 0 0 A :=
  g_met [.ref (ad 0), .int p1] (by decide) (Nat.le_of_ble_eq_true rfl) (fun p e s m below meth c ls C hW hl _ => t_X10_findHerd C hB h hW va_S.rf hl)
theorem hv_X10_findHerd : yX10_findHerd.cls = RX10 ∧ yX10_findHerd.cls ≠ "java/lang/invoke/MethodHandle" ∧ yX10_findHerd.cls ≠ "java/lang/invoke/VarHandle" ∧ (parseMethodDescriptor yX10_findHerd.desc).map (fun d => d.parameters.length) = some 1 := by decide +kernel
/-! DroveRoads.of -/
def f_X10_of (L : List Nat) (S : St) (p1 : Int32) (p2 : Int32) : Option (Int32) := cl0 (f_X10_findHerd L S p1) fun n_2 => oc n_2 (some (-1)) fun n_3 => if okh L n_3 then (cl0 (f_X1_tell L S n_3 p2) fun r_6 => some r_6) else none
set_option maxHeartbeats 4000000 in
theorem t_X10_of (C : MC p s m args meth c cX10_of 4 (some .int) RX10 g A) (hB : Lk L) {S : St} {r : Int32} {p1 : Int32} {p2 : Int32} (h : f_X10_of L S p1 p2 = some r) {H : Heap} {locs : List Loc} {ls : Array Slot} (hW : GW g A ad L S H) (hS : va_S A s.heap H locs) (hl : lv_has ls 4 [(0, .ref (ad 0)), (1, .int p1), (2, .int p2)]) : W p l e (rmk 2) s m args below meth c H locs 0 0 (MQ below (qi g A ad L r S) args s 0 0 A) (F0 m 0 ls []) := by
  obtain ⟨hx, hb, hml, hown, hts, hr, hlocks, hK, hN, hT⟩ := id C
  unfold f_X10_of at h
  refine lv_aload_n hx hb dX10_of_0 rfl (lv_at hl 0 rfl) ?_
  refine lv_iload_n hx hb dX10_of_1 rfl (lv_at hl 1 rfl) ?_
  obtain ⟨n_2, hc_1, h⟩ := cl0_ex h
  refine g_cr (g_runV (ci := 10) (o := 0) (As := [.int p1]) (rest := []) hx hb hml hown hts hK hN hT hS hW (c_X10_findHerd hB hc_1) (hB 0 bb_0) kd_0 rfl (gw_V mw_428 mw_430 mw_3 mw_66 mw_431) hv_X10_findHerd rfl rfl rfl (rm_ok (by decide) (by decide)) hl.1 (Nat.le_of_ble_eq_true rfl) dX10_of_2 rfl ⟨Nat.zero_le _, Nat.zero_le _⟩) hS (fun H locs hW hS => ?_)
  rcases n_2 with _ | n_3
  · refine W.eq (g2 := F0 m 5 ls (.null :: [])) rfl ?_
    refine lv_astore_nN (lv' := [(3, .null), (0, .ref (ad 0)), (1, .int p1), (2, .int p2)]) hx hb dX10_of_5 rfl hl (by decide) rfl (fun ls hl => ?_)
    refine lv_aload_nN hx hb dX10_of_6 rfl (lv_at hl 0 rfl) ?_
    refine lv_ifnonnullN hx hb dX10_of_7 ?_
    refine lv_iconst (v := (-1)) hx hb dX10_of_10 (by decide) ?_
    refine lv_goto (tgt := 19) hx hb dX10_of_11 (by decide) ?_
    cases h
    exact g_iret hx hb hr hlocks hW hS dX10_of_19
  · obtain ⟨hn_4, h⟩ := ck_t h
    refine W.eq (g2 := F0 m 5 ls (.ref (ad n_3) :: [])) rfl ?_
    refine lv_astore_n (lv' := [(3, .ref (ad n_3)), (0, .ref (ad 0)), (1, .int p1), (2, .int p2)]) hx hb dX10_of_5 rfl hl (by decide) rfl (fun ls hl => ?_)
    refine lv_aload_n hx hb dX10_of_6 rfl (lv_at hl 0 rfl) ?_
    refine lv_ifnonnull (tgt := 14) hx hb dX10_of_7 (by decide) ?_
    refine lv_aload_n hx hb dX10_of_14 rfl (lv_at hl 0 rfl) ?_
    refine lv_iload_n hx hb dX10_of_15 rfl (lv_at hl 3 rfl) ?_
    obtain ⟨r_6, hc_5, h⟩ := cl0_ex h
    refine g_ci (g_runV (ci := 1) (o := n_3) (As := [.int p2]) (rest := []) hx hb hml hown hts hK hN hT hS hW (c_X1_tell hB hn_4 hc_5) hn_4.2.2 (kd_herd hn_4) rfl (gw_V mw_805 mw_806 mw_807 mw_74 mw_808) hv_X1_tell rfl rfl rfl (rm_ok (by decide) (by decide)) hl.1 (Nat.le_of_ble_eq_true rfl) dX10_of_16 rfl ⟨Nat.zero_le _, Nat.zero_le _⟩) hS (fun H locs hW hS => ?_)
    cases h
    exact g_iret hx hb hr hlocks hW hS dX10_of_19
theorem c_X10_of (hB : Lk L) {S : St} {r : Int32} {p1 : Int32} {p2 : Int32} (h : f_X10_of L S p1 p2 = some r) : Met l yX10_of (gws yX10_of cX10_of 4 (some .int)) (rmk 2) (va_Pc [.ref (ad 0), .int p1, .int p2] (WU g A ad L S)) (qi g A ad L r S) 0 0 A :=
  g_met [.ref (ad 0), .int p1, .int p2] (by decide) (Nat.le_of_ble_eq_true rfl) (fun p e s m below meth c ls C hW hl _ => t_X10_of C hB h hW va_S.rf hl)
theorem hv_X10_of : yX10_of.cls = RX10 ∧ yX10_of.cls ≠ "java/lang/invoke/MethodHandle" ∧ yX10_of.cls ≠ "java/lang/invoke/VarHandle" ∧ (parseMethodDescriptor yX10_of.desc).map (fun d => d.parameters.length) = some 2 := by decide +kernel
/-! DroveRoads.at -/
def f_X10_at (S : St) (p1 : Int32) (p2 : Int32) : Option (Int32) := cl0 (f_X9_has S p1) fun r_2 => if r_2 = 0 then (some (-1)) else (cl0 (f_X9_tell S p1 p2) fun r_6 => some r_6)
set_option maxHeartbeats 4000000 in
theorem t_X10_at (C : MC p s m args meth c cX10_at 3 (some .int) RX10 g A) (hB : Lk L) {S : St} {r : Int32} {p1 : Int32} {p2 : Int32} (h : f_X10_at S p1 p2 = some r) {H : Heap} {locs : List Loc} {ls : Array Slot} (hW : GW g A ad L S H) (hS : va_S A s.heap H locs) (hl : lv_has ls 3 [(0, .ref (ad 0)), (1, .int p1), (2, .int p2)]) : W p l e (rmk 3) s m args below meth c H locs 0 0 (MQ below (qi g A ad L r S) args s 0 0 A) (F0 m 0 ls []) := by
  obtain ⟨hx, hb, hml, hown, hts, hr, hlocks, hK, hN, hT⟩ := id C
  unfold f_X10_at at h
  refine lv_aload_n hx hb dX10_at_0 rfl (lv_at hl 0 rfl) ?_
  refine g_get (C := RX10) (T := TX10) (N := 12) (ci := 10) hx hb hts inX10 hown hK hW (hB 0 bb_0) kd_0 rfl 0 (by decide) mw_248 rfl rfl dX10_at_1 ?_
  refine lv_iload_n hx hb dX10_at_4 rfl (lv_at hl 1 rfl) ?_
  obtain ⟨r_2, hc_1, h⟩ := cl0_ex h
  refine g_cz (g_runV (ci := 9) (o := 1) (As := [.int p1]) (rest := []) hx hb hml hown hts hK hN hT hS hW (c_X9_has hB hc_1) (hB 1 bb_1) kd_1 rfl (gw_V mw_399 mw_325 mw_326 mw_67 mw_327) hv_X9_has rfl rfl rfl (rm_ok (by decide) (by decide)) hl.1 (Nat.le_of_ble_eq_true rfl) dX10_at_5 rfl ⟨Nat.zero_le _, Nat.zero_le _⟩) hS (fun hz_3 H locs hW hS => ?_)
  refine lv_if_eq (tgt := 23) hx hb dX10_at_8 (by decide) (fun c_4 => ?_) (fun c_4 => ?_)
  · have h := it_t c_4 h
    refine lv_iconst (v := (-1)) hx hb dX10_at_23 (by decide) ?_
    cases h
    exact g_iret hx hb hr hlocks hW hS dX10_at_24
  · have h := it_f c_4 h
    refine lv_aload_n hx hb dX10_at_11 rfl (lv_at hl 0 rfl) ?_
    refine g_get (C := RX10) (T := TX10) (N := 12) (ci := 10) hx hb hts inX10 hown hK hW (hB 0 bb_0) kd_0 rfl 0 (by decide) mw_248 rfl rfl dX10_at_12 ?_
    refine lv_iload_n hx hb dX10_at_15 rfl (lv_at hl 1 rfl) ?_
    refine lv_iload_n hx hb dX10_at_16 rfl (lv_at hl 2 rfl) ?_
    obtain ⟨r_6, hc_5, h⟩ := cl0_ex h
    refine g_ci (g_runV (ci := 9) (o := 1) (As := [.int p1, .int p2]) (rest := []) hx hb hml hown hts hK hN hT hS hW (c_X9_tell hB hc_5) (hB 1 bb_1) kd_1 rfl (gw_V mw_813 mw_814 mw_815 mw_67 mw_816) hv_X9_tell rfl rfl rfl (rm_ok (by decide) (by decide)) hl.1 (Nat.le_of_ble_eq_true rfl) dX10_at_17 rfl ⟨Nat.zero_le _, Nat.zero_le _⟩) hS (fun H locs hW hS => ?_)
    refine lv_goto (tgt := 24) hx hb dX10_at_20 (by decide) ?_
    cases h
    exact g_iret hx hb hr hlocks hW hS dX10_at_24
theorem c_X10_at (hB : Lk L) {S : St} {r : Int32} {p1 : Int32} {p2 : Int32} (h : f_X10_at S p1 p2 = some r) : Met l yX10_at (gws yX10_at cX10_at 3 (some .int)) (rmk 3) (va_Pc [.ref (ad 0), .int p1, .int p2] (WU g A ad L S)) (qi g A ad L r S) 0 0 A :=
  g_met [.ref (ad 0), .int p1, .int p2] (by decide) (Nat.le_of_ble_eq_true rfl) (fun p e s m below meth c ls C hW hl _ => t_X10_at C hB h hW va_S.rf hl)
theorem hv_X10_at : yX10_at.cls = RX10 ∧ yX10_at.cls ≠ "java/lang/invoke/MethodHandle" ∧ yX10_at.cls ≠ "java/lang/invoke/VarHandle" ∧ (parseMethodDescriptor yX10_at.desc).map (fun d => d.parameters.length) = some 2 := by decide +kernel
/-! DroveRoads.bill -/
def f_X10_bill (S : St) (p1 : Int32) (p2 : Int32) (p3 : Int32) : Option (Int32 × St) := cl1 (f_X0_make S p1 p2 p3) fun r_2 S_3 => some (r_2, S_3)
set_option maxHeartbeats 4000000 in
theorem t_X10_bill (C : MC p s m args meth c cX10_bill 4 (some .int) RX10 g A) (hB : Lk L) {S : St} {r : Int32} {S9 : St} {p1 : Int32} {p2 : Int32} {p3 : Int32} (h : f_X10_bill S p1 p2 p3 = some (r, S9)) {H : Heap} {locs : List Loc} {ls : Array Slot} (hW : GW g A ad L S H) (hS : va_S A s.heap H locs) (hl : lv_has ls 4 [(0, .ref (ad 0)), (1, .int p1), (2, .int p2), (3, .int p3)]) : W p l e (rmk 4) s m args below meth c H locs 0 0 (MQ below (qi g A ad L r S9) args s 0 0 A) (F0 m 0 ls []) := by
  obtain ⟨hx, hb, hml, hown, hts, hr, hlocks, hK, hN, hT⟩ := id C
  unfold f_X10_bill at h
  refine lv_aload_n hx hb dX10_bill_0 rfl (lv_at hl 0 rfl) ?_
  refine g_get (C := RX10) (T := TX10) (N := 12) (ci := 10) hx hb hts inX10 hown hK hW (hB 0 bb_0) kd_0 rfl 2 (by decide) mw_250 rfl rfl dX10_bill_1 ?_
  refine lv_iload_n hx hb dX10_bill_4 rfl (lv_at hl 1 rfl) ?_
  refine lv_iload_n hx hb dX10_bill_5 rfl (lv_at hl 2 rfl) ?_
  refine lv_iload_n hx hb dX10_bill_6 rfl (lv_at hl 3 rfl) ?_
  obtain ⟨r_2, S_3, hc_1, h⟩ := cl1_ex h
  refine g_ci (g_runV (ci := 0) (o := 3) (As := [.int p1, .int p2, .int p3]) (rest := []) hx hb hml hown hts hK hN hT hS hW (c_X0_make hB hc_1) (hB 3 bb_3) kd_3 rfl (gw_V mw_880 mw_881 mw_882 mw_69 mw_883) hv_X0_make rfl rfl rfl (rm_ok (by decide) (by decide)) hl.1 (Nat.le_of_ble_eq_true rfl) dX10_bill_7 rfl ⟨Nat.zero_le _, Nat.zero_le _⟩) hS (fun H locs hW hS => ?_)
  cases h
  exact g_iret hx hb hr hlocks hW hS dX10_bill_10
theorem c_X10_bill (hB : Lk L) {S : St} {r : Int32} {S9 : St} {p1 : Int32} {p2 : Int32} {p3 : Int32} (h : f_X10_bill S p1 p2 p3 = some (r, S9)) : Met l yX10_bill (gws yX10_bill cX10_bill 4 (some .int)) (rmk 4) (va_Pc [.ref (ad 0), .int p1, .int p2, .int p3] (WU g A ad L S)) (qi g A ad L r S9) 0 0 A :=
  g_met [.ref (ad 0), .int p1, .int p2, .int p3] (by decide) (Nat.le_of_ble_eq_true rfl) (fun p e s m below meth c ls C hW hl _ => t_X10_bill C hB h hW va_S.rf hl)
theorem hv_X10_bill : yX10_bill.cls = RX10 ∧ yX10_bill.cls ≠ "java/lang/invoke/MethodHandle" ∧ yX10_bill.cls ≠ "java/lang/invoke/VarHandle" ∧ (parseMethodDescriptor yX10_bill.desc).map (fun d => d.parameters.length) = some 3 := by decide +kernel
/-! DroveRoads.pass -/
def f_X10_pass (N : Nat) (S : St) (p1 : Int32) (p2 : Int32) (p3 : Int32) (p4 : Int32) : Option (Int32 × St) := cl0 (f_X0_has S p1) fun r_2 => if r_2 = 0 then (some ((-1), S)) else (cl0 (f_X10_within S p4 0 (gv S 0 11)) fun r_6 => if r_6 = 0 then (some ((-1), S)) else (cl1 (f_X7_add N S p1 p2 p3 p4 (gv S 0 11)) fun r_10 S_11 => some (r_10, S_11)))
set_option maxHeartbeats 4000000 in
theorem t_X10_pass (C : MC p s m args meth c cX10_pass 5 (some .int) RX10 g A) (hB : Lk L) {S : St} {r : Int32} {S9 : St} {p1 : Int32} {p2 : Int32} {p3 : Int32} {p4 : Int32} (h : f_X10_pass N S p1 p2 p3 p4 = some (r, S9)) {H : Heap} {locs : List Loc} {ls : Array Slot} (hW : GW g A ad L S H) (hS : va_S A s.heap H locs) (hl : lv_has ls 5 [(0, .ref (ad 0)), (1, .int p1), (2, .int p2), (3, .int p3), (4, .int p4)]) : W p l e (rmk 4) s m args below meth c H locs 0 0 (MQ below (qi g A ad L r S9) args s 0 0 A) (F0 m 0 ls []) := by
  obtain ⟨hx, hb, hml, hown, hts, hr, hlocks, hK, hN, hT⟩ := id C
  unfold f_X10_pass at h
  refine lv_aload_n hx hb dX10_pass_0 rfl (lv_at hl 0 rfl) ?_
  refine g_get (C := RX10) (T := TX10) (N := 12) (ci := 10) hx hb hts inX10 hown hK hW (hB 0 bb_0) kd_0 rfl 2 (by decide) mw_250 rfl rfl dX10_pass_1 ?_
  refine lv_iload_n hx hb dX10_pass_4 rfl (lv_at hl 1 rfl) ?_
  obtain ⟨r_2, hc_1, h⟩ := cl0_ex h
  refine g_cz (g_runV (ci := 0) (o := 3) (As := [.int p1]) (rest := []) hx hb hml hown hts hK hN hT hS hW (c_X0_has hB hc_1) (hB 3 bb_3) kd_3 rfl (gw_V mw_895 mw_896 mw_897 mw_69 mw_898) hv_X0_has rfl rfl rfl (rm_ok (by decide) (by decide)) hl.1 (Nat.le_of_ble_eq_true rfl) dX10_pass_5 rfl ⟨Nat.zero_le _, Nat.zero_le _⟩) hS (fun hz_3 H locs hW hS => ?_)
  refine lv_if_eq (tgt := 24) hx hb dX10_pass_8 (by decide) (fun c_4 => ?_) (fun c_4 => ?_)
  · have h := it_t c_4 h
    refine lv_iconst (v := (-1)) hx hb dX10_pass_24 (by decide) ?_
    cases h
    exact g_iret hx hb hr hlocks hW hS dX10_pass_25
  · have h := it_f c_4 h
    refine lv_iload hx hb dX10_pass_11 (lv_at hl 4 rfl) ?_
    refine lv_iconst (v := 0) hx hb dX10_pass_13 (by decide) ?_
    refine lv_aload_n hx hb dX10_pass_14 rfl (lv_at hl 0 rfl) ?_
    refine g_get (C := RX10) (T := TX10) (N := 12) (ci := 10) hx hb hts inX10 hown hK hW (hB 0 bb_0) kd_0 rfl 11 (by decide) mw_259 rfl rfl dX10_pass_15 ?_
    obtain ⟨r_6, hc_5, h⟩ := cl0_ex h
    refine g_cz (g_runS (As := [.int p4, .int 0, .int (gv S 0 11)]) (rest := []) hx hb hml hown hts hK hN hT hS hW (c_X10_within hB hc_5) (gw_S mw_332 mw_293 mw_66 mw_294) hs_X10_within rfl rfl rfl (rm_ok (by decide) (by decide)) hl.1 (Nat.le_of_ble_eq_true rfl) dX10_pass_18 rfl ⟨Nat.zero_le _, Nat.zero_le _⟩) hS (fun hz_7 H locs hW hS => ?_)
    refine lv_if_ne (tgt := 26) hx hb dX10_pass_21 (by decide) (fun c_8 => ?_) (fun c_8 => ?_)
    · have h := it_f c_8 h
      refine lv_aload_n hx hb dX10_pass_26 rfl (lv_at hl 0 rfl) ?_
      refine g_get (C := RX10) (T := TX10) (N := 12) (ci := 10) hx hb hts inX10 hown hK hW (hB 0 bb_0) kd_0 rfl 2 (by decide) mw_250 rfl rfl dX10_pass_27 ?_
      refine g_get (C := RX0) (T := TX0) (N := 7) (ci := 0) hx hb hts inX0 hown hK hW (hB 3 bb_3) kd_3 rfl 1 (by decide) mw_180 rfl rfl dX10_pass_30 ?_
      refine lv_iload_n hx hb dX10_pass_33 rfl (lv_at hl 1 rfl) ?_
      refine lv_iload_n hx hb dX10_pass_34 rfl (lv_at hl 2 rfl) ?_
      refine lv_iload_n hx hb dX10_pass_35 rfl (lv_at hl 3 rfl) ?_
      refine lv_iload hx hb dX10_pass_36 (lv_at hl 4 rfl) ?_
      refine lv_aload_n hx hb dX10_pass_38 rfl (lv_at hl 0 rfl) ?_
      refine g_get (C := RX10) (T := TX10) (N := 12) (ci := 10) hx hb hts inX10 hown hK hW (hB 0 bb_0) kd_0 rfl 11 (by decide) mw_259 rfl rfl dX10_pass_39 ?_
      obtain ⟨r_10, S_11, hc_9, h⟩ := cl1_ex h
      refine g_ci (g_runV (ci := 7) (o := 4) (As := [.int p1, .int p2, .int p3, .int p4, .int (gv S 0 11)]) (rest := []) hx hb hml hown hts hK hN hT hS hW (c_X7_add hB hc_9) (hB 4 bb_4) kd_4 rfl (gw_V mw_899 mw_900 mw_901 mw_70 mw_902) hv_X7_add rfl rfl rfl (rm_ok (by decide) (by decide)) hl.1 (Nat.le_of_ble_eq_true rfl) dX10_pass_42 rfl ⟨Nat.zero_le _, Nat.zero_le _⟩) hS (fun H locs hW hS => ?_)
      cases h
      exact g_iret hx hb hr hlocks hW hS dX10_pass_45
    · have h := it_t c_8 h
      refine lv_iconst (v := (-1)) hx hb dX10_pass_24 (by decide) ?_
      cases h
      exact g_iret hx hb hr hlocks hW hS dX10_pass_25
theorem c_X10_pass (hB : Lk L) {S : St} {r : Int32} {S9 : St} {p1 : Int32} {p2 : Int32} {p3 : Int32} {p4 : Int32} (h : f_X10_pass N S p1 p2 p3 p4 = some (r, S9)) : Met l yX10_pass (gws yX10_pass cX10_pass 5 (some .int)) (rmk 4) (va_Pc [.ref (ad 0), .int p1, .int p2, .int p3, .int p4] (WU g A ad L S)) (qi g A ad L r S9) 0 0 A :=
  g_met [.ref (ad 0), .int p1, .int p2, .int p3, .int p4] (by decide) (Nat.le_of_ble_eq_true rfl) (fun p e s m below meth c ls C hW hl _ => t_X10_pass C hB h hW va_S.rf hl)
theorem hv_X10_pass : yX10_pass.cls = RX10 ∧ yX10_pass.cls ≠ "java/lang/invoke/MethodHandle" ∧ yX10_pass.cls ≠ "java/lang/invoke/VarHandle" ∧ (parseMethodDescriptor yX10_pass.desc).map (fun d => d.parameters.length) = some 4 := by decide +kernel
/-! DroveRoads.untell -/
def f_X10_untell (S : St) (p1 : Int32) : Option (Int32 × St) := cl1 (f_X7_takeBack S p1 (gv S 0 11)) fun r_2 S_3 => some (r_2, S_3)
set_option maxHeartbeats 4000000 in
theorem t_X10_untell (C : MC p s m args meth c cX10_untell 2 (some .boolean) RX10 g A) (hB : Lk L) {S : St} {r : Int32} {S9 : St} {p1 : Int32} (h : f_X10_untell S p1 = some (r, S9)) {H : Heap} {locs : List Loc} {ls : Array Slot} (hW : GW g A ad L S H) (hS : va_S A s.heap H locs) (hl : lv_has ls 2 [(0, .ref (ad 0)), (1, .int p1)]) : W p l e (rmk 2) s m args below meth c H locs 0 0 (MQ below (qz g A ad L r S9) args s 0 0 A) (F0 m 0 ls []) := by
  obtain ⟨hx, hb, hml, hown, hts, hr, hlocks, hK, hN, hT⟩ := id C
  unfold f_X10_untell at h
  refine lv_aload_n hx hb dX10_untell_0 rfl (lv_at hl 0 rfl) ?_
  refine g_get (C := RX10) (T := TX10) (N := 12) (ci := 10) hx hb hts inX10 hown hK hW (hB 0 bb_0) kd_0 rfl 2 (by decide) mw_250 rfl rfl dX10_untell_1 ?_
  refine g_get (C := RX0) (T := TX0) (N := 7) (ci := 0) hx hb hts inX0 hown hK hW (hB 3 bb_3) kd_3 rfl 1 (by decide) mw_180 rfl rfl dX10_untell_4 ?_
  refine lv_iload_n hx hb dX10_untell_7 rfl (lv_at hl 1 rfl) ?_
  refine lv_aload_n hx hb dX10_untell_8 rfl (lv_at hl 0 rfl) ?_
  refine g_get (C := RX10) (T := TX10) (N := 12) (ci := 10) hx hb hts inX10 hown hK hW (hB 0 bb_0) kd_0 rfl 11 (by decide) mw_259 rfl rfl dX10_untell_9 ?_
  obtain ⟨r_2, S_3, hc_1, h⟩ := cl1_ex h
  refine g_cz (g_runV (ci := 7) (o := 4) (As := [.int p1, .int (gv S 0 11)]) (rest := []) hx hb hml hown hts hK hN hT hS hW (c_X7_takeBack hB hc_1) (hB 4 bb_4) kd_4 rfl (gw_V mw_912 mw_913 mw_914 mw_70 mw_915) hv_X7_takeBack rfl rfl rfl (rm_ok (by decide) (by decide)) hl.1 (Nat.le_of_ble_eq_true rfl) dX10_untell_12 rfl ⟨Nat.zero_le _, Nat.zero_le _⟩) hS (fun hz_4 H locs hW hS => ?_)
  cases h
  exact g_zret hx hb hr hlocks hW hS hz_4 dX10_untell_15
theorem c_X10_untell (hB : Lk L) {S : St} {r : Int32} {S9 : St} {p1 : Int32} (h : f_X10_untell S p1 = some (r, S9)) : Met l yX10_untell (gws yX10_untell cX10_untell 2 (some .boolean)) (rmk 2) (va_Pc [.ref (ad 0), .int p1] (WU g A ad L S)) (qz g A ad L r S9) 0 0 A :=
  g_met [.ref (ad 0), .int p1] (by decide) (Nat.le_of_ble_eq_true rfl) (fun p e s m below meth c ls C hW hl _ => t_X10_untell C hB h hW va_S.rf hl)
theorem hv_X10_untell : yX10_untell.cls = RX10 ∧ yX10_untell.cls ≠ "java/lang/invoke/MethodHandle" ∧ yX10_untell.cls ≠ "java/lang/invoke/VarHandle" ∧ (parseMethodDescriptor yX10_untell.desc).map (fun d => d.parameters.length) = some 1 := by decide +kernel
/-! DroveRoads.holder -/
def f_X10_holder (N : Nat) (S : St) (p1 : Int32) (p2 : Int32) (p3 : Int32) : Option (Int32) := cl0 (f_X0_holderKnown N S p1 p2 p3) fun r_2 => some r_2
set_option maxHeartbeats 4000000 in
theorem t_X10_holder (C : MC p s m args meth c cX10_holder 4 (some .int) RX10 g A) (hB : Lk L) {S : St} {r : Int32} {p1 : Int32} {p2 : Int32} {p3 : Int32} (h : f_X10_holder N S p1 p2 p3 = some r) {H : Heap} {locs : List Loc} {ls : Array Slot} (hW : GW g A ad L S H) (hS : va_S A s.heap H locs) (hl : lv_has ls 4 [(0, .ref (ad 0)), (1, .int p1), (2, .int p2), (3, .int p3)]) : W p l e (rmk 4) s m args below meth c H locs 0 0 (MQ below (qi g A ad L r S) args s 0 0 A) (F0 m 0 ls []) := by
  obtain ⟨hx, hb, hml, hown, hts, hr, hlocks, hK, hN, hT⟩ := id C
  unfold f_X10_holder at h
  refine lv_aload_n hx hb dX10_holder_0 rfl (lv_at hl 0 rfl) ?_
  refine g_get (C := RX10) (T := TX10) (N := 12) (ci := 10) hx hb hts inX10 hown hK hW (hB 0 bb_0) kd_0 rfl 2 (by decide) mw_250 rfl rfl dX10_holder_1 ?_
  refine lv_iload_n hx hb dX10_holder_4 rfl (lv_at hl 1 rfl) ?_
  refine lv_iload_n hx hb dX10_holder_5 rfl (lv_at hl 2 rfl) ?_
  refine lv_iload_n hx hb dX10_holder_6 rfl (lv_at hl 3 rfl) ?_
  obtain ⟨r_2, hc_1, h⟩ := cl0_ex h
  refine g_ci (g_runV (ci := 0) (o := 3) (As := [.int p1, .int p2, .int p3]) (rest := []) hx hb hml hown hts hK hN hT hS hW (c_X0_holderKnown hB hc_1) (hB 3 bb_3) kd_3 rfl (gw_V mw_920 mw_921 mw_922 mw_69 mw_923) hv_X0_holderKnown rfl rfl rfl (rm_ok (by decide) (by decide)) hl.1 (Nat.le_of_ble_eq_true rfl) dX10_holder_7 rfl ⟨Nat.zero_le _, Nat.zero_le _⟩) hS (fun H locs hW hS => ?_)
  cases h
  exact g_iret hx hb hr hlocks hW hS dX10_holder_10
theorem c_X10_holder (hB : Lk L) {S : St} {r : Int32} {p1 : Int32} {p2 : Int32} {p3 : Int32} (h : f_X10_holder N S p1 p2 p3 = some r) : Met l yX10_holder (gws yX10_holder cX10_holder 4 (some .int)) (rmk 4) (va_Pc [.ref (ad 0), .int p1, .int p2, .int p3] (WU g A ad L S)) (qi g A ad L r S) 0 0 A :=
  g_met [.ref (ad 0), .int p1, .int p2, .int p3] (by decide) (Nat.le_of_ble_eq_true rfl) (fun p e s m below meth c ls C hW hl _ => t_X10_holder C hB h hW va_S.rf hl)
theorem hv_X10_holder : yX10_holder.cls = RX10 ∧ yX10_holder.cls ≠ "java/lang/invoke/MethodHandle" ∧ yX10_holder.cls ≠ "java/lang/invoke/VarHandle" ∧ (parseMethodDescriptor yX10_holder.desc).map (fun d => d.parameters.length) = some 3 := by decide +kernel
/-! DroveRoads.pay -/
def f_X10_pay (N : Nat) (S : St) (p1 : Int32) : Option (Int32 × St) := cl1 (f_X0_settle N S p1 (gv S 0 11)) fun r_2 S_3 => some (r_2, S_3)
set_option maxHeartbeats 4000000 in
theorem t_X10_pay (C : MC p s m args meth c cX10_pay 2 (some .int) RX10 g A) (hB : Lk L) {S : St} {r : Int32} {S9 : St} {p1 : Int32} (h : f_X10_pay N S p1 = some (r, S9)) {H : Heap} {locs : List Loc} {ls : Array Slot} (hW : GW g A ad L S H) (hS : va_S A s.heap H locs) (hl : lv_has ls 2 [(0, .ref (ad 0)), (1, .int p1)]) : W p l e (rmk 5) s m args below meth c H locs 0 0 (MQ below (qi g A ad L r S9) args s 0 0 A) (F0 m 0 ls []) := by
  obtain ⟨hx, hb, hml, hown, hts, hr, hlocks, hK, hN, hT⟩ := id C
  unfold f_X10_pay at h
  refine lv_aload_n hx hb dX10_pay_0 rfl (lv_at hl 0 rfl) ?_
  refine g_get (C := RX10) (T := TX10) (N := 12) (ci := 10) hx hb hts inX10 hown hK hW (hB 0 bb_0) kd_0 rfl 2 (by decide) mw_250 rfl rfl dX10_pay_1 ?_
  refine lv_iload_n hx hb dX10_pay_4 rfl (lv_at hl 1 rfl) ?_
  refine lv_aload_n hx hb dX10_pay_5 rfl (lv_at hl 0 rfl) ?_
  refine g_get (C := RX10) (T := TX10) (N := 12) (ci := 10) hx hb hts inX10 hown hK hW (hB 0 bb_0) kd_0 rfl 11 (by decide) mw_259 rfl rfl dX10_pay_6 ?_
  obtain ⟨r_2, S_3, hc_1, h⟩ := cl1_ex h
  refine g_ci (g_runV (ci := 0) (o := 3) (As := [.int p1, .int (gv S 0 11)]) (rest := []) hx hb hml hown hts hK hN hT hS hW (c_X0_settle hB hc_1) (hB 3 bb_3) kd_3 rfl (gw_V mw_937 mw_938 mw_939 mw_69 mw_940) hv_X0_settle rfl rfl rfl (rm_ok (by decide) (by decide)) hl.1 (Nat.le_of_ble_eq_true rfl) dX10_pay_9 rfl ⟨Nat.zero_le _, Nat.zero_le _⟩) hS (fun H locs hW hS => ?_)
  cases h
  exact g_iret hx hb hr hlocks hW hS dX10_pay_12
theorem c_X10_pay (hB : Lk L) {S : St} {r : Int32} {S9 : St} {p1 : Int32} (h : f_X10_pay N S p1 = some (r, S9)) : Met l yX10_pay (gws yX10_pay cX10_pay 2 (some .int)) (rmk 5) (va_Pc [.ref (ad 0), .int p1] (WU g A ad L S)) (qi g A ad L r S9) 0 0 A :=
  g_met [.ref (ad 0), .int p1] (by decide) (Nat.le_of_ble_eq_true rfl) (fun p e s m below meth c ls C hW hl _ => t_X10_pay C hB h hW va_S.rf hl)
theorem hv_X10_pay : yX10_pay.cls = RX10 ∧ yX10_pay.cls ≠ "java/lang/invoke/MethodHandle" ∧ yX10_pay.cls ≠ "java/lang/invoke/VarHandle" ∧ (parseMethodDescriptor yX10_pay.desc).map (fun d => d.parameters.length) = some 1 := by decide +kernel
/-! DroveRoads.paid -/
def f_X10_paid (S : St) (p1 : Int32) (p2 : Int32) : Option (Int32) := cl0 (f_X0_tell S p1 p2) fun r_2 => some r_2
set_option maxHeartbeats 4000000 in
theorem t_X10_paid (C : MC p s m args meth c cX10_paid 3 (some .int) RX10 g A) (hB : Lk L) {S : St} {r : Int32} {p1 : Int32} {p2 : Int32} (h : f_X10_paid S p1 p2 = some r) {H : Heap} {locs : List Loc} {ls : Array Slot} (hW : GW g A ad L S H) (hS : va_S A s.heap H locs) (hl : lv_has ls 3 [(0, .ref (ad 0)), (1, .int p1), (2, .int p2)]) : W p l e (rmk 3) s m args below meth c H locs 0 0 (MQ below (qi g A ad L r S) args s 0 0 A) (F0 m 0 ls []) := by
  obtain ⟨hx, hb, hml, hown, hts, hr, hlocks, hK, hN, hT⟩ := id C
  unfold f_X10_paid at h
  refine lv_aload_n hx hb dX10_paid_0 rfl (lv_at hl 0 rfl) ?_
  refine g_get (C := RX10) (T := TX10) (N := 12) (ci := 10) hx hb hts inX10 hown hK hW (hB 0 bb_0) kd_0 rfl 2 (by decide) mw_250 rfl rfl dX10_paid_1 ?_
  refine lv_iload_n hx hb dX10_paid_4 rfl (lv_at hl 1 rfl) ?_
  refine lv_iload_n hx hb dX10_paid_5 rfl (lv_at hl 2 rfl) ?_
  obtain ⟨r_2, hc_1, h⟩ := cl0_ex h
  refine g_ci (g_runV (ci := 0) (o := 3) (As := [.int p1, .int p2]) (rest := []) hx hb hml hown hts hK hN hT hS hW (c_X0_tell hB hc_1) (hB 3 bb_3) kd_3 rfl (gw_V mw_946 mw_947 mw_948 mw_69 mw_949) hv_X0_tell rfl rfl rfl (rm_ok (by decide) (by decide)) hl.1 (Nat.le_of_ble_eq_true rfl) dX10_paid_6 rfl ⟨Nat.zero_le _, Nat.zero_le _⟩) hS (fun H locs hW hS => ?_)
  cases h
  exact g_iret hx hb hr hlocks hW hS dX10_paid_9
theorem c_X10_paid (hB : Lk L) {S : St} {r : Int32} {p1 : Int32} {p2 : Int32} (h : f_X10_paid S p1 p2 = some r) : Met l yX10_paid (gws yX10_paid cX10_paid 3 (some .int)) (rmk 3) (va_Pc [.ref (ad 0), .int p1, .int p2] (WU g A ad L S)) (qi g A ad L r S) 0 0 A :=
  g_met [.ref (ad 0), .int p1, .int p2] (by decide) (Nat.le_of_ble_eq_true rfl) (fun p e s m below meth c ls C hW hl _ => t_X10_paid C hB h hW va_S.rf hl)
theorem hv_X10_paid : yX10_paid.cls = RX10 ∧ yX10_paid.cls ≠ "java/lang/invoke/MethodHandle" ∧ yX10_paid.cls ≠ "java/lang/invoke/VarHandle" ∧ (parseMethodDescriptor yX10_paid.desc).map (fun d => d.parameters.length) = some 2 := by decide +kernel
/-! DroveRoads.about -/
def f_X10_about (S : St) (p1 : Int32) : Option (Int32) := if p1 = 0 then (some (gv S 0 11)) else if p1 = 1 then (some (gv S 1 0)) else if p1 = 2 then (some (gv S 0 7)) else if p1 = 3 then (some (gv S 2 0)) else if p1 = 4 then (some (gv S 3 0)) else if p1 = 5 then (some (gv S 4 0)) else if p1 = 6 then (some (gv S 0 8)) else (some (-1))
set_option maxHeartbeats 4000000 in
theorem t_X10_about (C : MC p s m args meth c cX10_about 2 (some .int) RX10 g A) (hB : Lk L) {S : St} {r : Int32} {p1 : Int32} (h : f_X10_about S p1 = some r) {H : Heap} {locs : List Loc} {ls : Array Slot} (hW : GW g A ad L S H) (hS : va_S A s.heap H locs) (hl : lv_has ls 2 [(0, .ref (ad 0)), (1, .int p1)]) : W p l e (rmk 1) s m args below meth c H locs 0 0 (MQ below (qi g A ad L r S) args s 0 0 A) (F0 m 0 ls []) := by
  obtain ⟨hx, hb, hml, hown, hts, hr, hlocks, hK, hN, hT⟩ := id C
  unfold f_X10_about at h
  refine lv_iload_n hx hb dX10_about_0 rfl (lv_at hl 1 rfl) ?_
  by_cases c_1 : p1 = 0
  · have h := it_t c_1 h
    refine lv_tableIn (tgt := 44) hx hb dX10_about_1 (by rw [c_1]; decide) (by rw [c_1]; decide) (by rw [c_1]; rfl) (by decide) ?_
    refine lv_aload_n hx hb dX10_about_44 rfl (lv_at hl 0 rfl) ?_
    refine g_get (C := RX10) (T := TX10) (N := 12) (ci := 10) hx hb hts inX10 hown hK hW (hB 0 bb_0) kd_0 rfl 11 (by decide) mw_259 rfl rfl dX10_about_45 ?_
    cases h
    exact g_iret hx hb hr hlocks hW hS dX10_about_48
  have h := it_f c_1 h
  by_cases c_2 : p1 = 1
  · have h := it_t c_2 h
    refine lv_tableIn (tgt := 49) hx hb dX10_about_1 (by rw [c_2]; decide) (by rw [c_2]; decide) (by rw [c_2]; rfl) (by decide) ?_
    refine lv_aload_n hx hb dX10_about_49 rfl (lv_at hl 0 rfl) ?_
    refine g_get (C := RX10) (T := TX10) (N := 12) (ci := 10) hx hb hts inX10 hown hK hW (hB 0 bb_0) kd_0 rfl 0 (by decide) mw_248 rfl rfl dX10_about_50 ?_
    refine g_get (C := RX9) (T := TX9) (N := 7) (ci := 9) hx hb hts inX9 hown hK hW (hB 1 bb_1) kd_1 rfl 0 (by decide) mw_99 rfl rfl dX10_about_53 ?_
    cases h
    exact g_iret hx hb hr hlocks hW hS dX10_about_56
  have h := it_f c_2 h
  by_cases c_3 : p1 = 2
  · have h := it_t c_3 h
    refine lv_tableIn (tgt := 57) hx hb dX10_about_1 (by rw [c_3]; decide) (by rw [c_3]; decide) (by rw [c_3]; rfl) (by decide) ?_
    refine lv_aload_n hx hb dX10_about_57 rfl (lv_at hl 0 rfl) ?_
    refine g_get (C := RX10) (T := TX10) (N := 12) (ci := 10) hx hb hts inX10 hown hK hW (hB 0 bb_0) kd_0 rfl 7 (by decide) mw_255 rfl rfl dX10_about_58 ?_
    cases h
    exact g_iret hx hb hr hlocks hW hS dX10_about_61
  have h := it_f c_3 h
  by_cases c_4 : p1 = 3
  · have h := it_t c_4 h
    refine lv_tableIn (tgt := 62) hx hb dX10_about_1 (by rw [c_4]; decide) (by rw [c_4]; decide) (by rw [c_4]; rfl) (by decide) ?_
    refine lv_aload_n hx hb dX10_about_62 rfl (lv_at hl 0 rfl) ?_
    refine g_get (C := RX10) (T := TX10) (N := 12) (ci := 10) hx hb hts inX10 hown hK hW (hB 0 bb_0) kd_0 rfl 1 (by decide) mw_249 rfl rfl dX10_about_63 ?_
    refine g_get (C := RX2) (T := TX2) (N := 3) (ci := 2) hx hb hts inX2 hown hK hW (hB 2 bb_2) kd_2 rfl 0 (by decide) mw_129 rfl rfl dX10_about_66 ?_
    cases h
    exact g_iret hx hb hr hlocks hW hS dX10_about_69
  have h := it_f c_4 h
  by_cases c_5 : p1 = 4
  · have h := it_t c_5 h
    refine lv_tableIn (tgt := 70) hx hb dX10_about_1 (by rw [c_5]; decide) (by rw [c_5]; decide) (by rw [c_5]; rfl) (by decide) ?_
    refine lv_aload_n hx hb dX10_about_70 rfl (lv_at hl 0 rfl) ?_
    refine g_get (C := RX10) (T := TX10) (N := 12) (ci := 10) hx hb hts inX10 hown hK hW (hB 0 bb_0) kd_0 rfl 2 (by decide) mw_250 rfl rfl dX10_about_71 ?_
    refine g_get (C := RX0) (T := TX0) (N := 7) (ci := 0) hx hb hts inX0 hown hK hW (hB 3 bb_3) kd_3 rfl 0 (by decide) mw_178 rfl rfl dX10_about_74 ?_
    cases h
    exact g_iret hx hb hr hlocks hW hS dX10_about_77
  have h := it_f c_5 h
  by_cases c_6 : p1 = 5
  · have h := it_t c_6 h
    refine lv_tableIn (tgt := 78) hx hb dX10_about_1 (by rw [c_6]; decide) (by rw [c_6]; decide) (by rw [c_6]; rfl) (by decide) ?_
    refine lv_aload_n hx hb dX10_about_78 rfl (lv_at hl 0 rfl) ?_
    refine g_get (C := RX10) (T := TX10) (N := 12) (ci := 10) hx hb hts inX10 hown hK hW (hB 0 bb_0) kd_0 rfl 2 (by decide) mw_250 rfl rfl dX10_about_79 ?_
    refine g_get (C := RX0) (T := TX0) (N := 7) (ci := 0) hx hb hts inX0 hown hK hW (hB 3 bb_3) kd_3 rfl 1 (by decide) mw_180 rfl rfl dX10_about_82 ?_
    refine g_get (C := RX7) (T := TX7) (N := 8) (ci := 7) hx hb hts inX7 hown hK hW (hB 4 bb_4) kd_4 rfl 0 (by decide) mw_152 rfl rfl dX10_about_85 ?_
    cases h
    exact g_iret hx hb hr hlocks hW hS dX10_about_88
  have h := it_f c_6 h
  by_cases c_7 : p1 = 6
  · have h := it_t c_7 h
    refine lv_tableIn (tgt := 89) hx hb dX10_about_1 (by rw [c_7]; decide) (by rw [c_7]; decide) (by rw [c_7]; rfl) (by decide) ?_
    refine lv_aload_n hx hb dX10_about_89 rfl (lv_at hl 0 rfl) ?_
    refine g_get (C := RX10) (T := TX10) (N := 12) (ci := 10) hx hb hts inX10 hown hK hW (hB 0 bb_0) kd_0 rfl 8 (by decide) mw_256 rfl rfl dX10_about_90 ?_
    cases h
    exact g_iret hx hb hr hlocks hW hS dX10_about_93
  have h := it_f c_7 h
  have nc_1 := lv_neT c_1 (a := 0) rfl
  have nc_2 := lv_neT c_2 (a := 1) rfl
  have nc_3 := lv_neT c_3 (a := 2) rfl
  have nc_4 := lv_neT c_4 (a := 3) rfl
  have nc_5 := lv_neT c_5 (a := 4) rfl
  have nc_6 := lv_neT c_6 (a := 5) rfl
  have nc_7 := lv_neT c_7 (a := 6) rfl
  refine lv_tableOut (tgt := 94) hx hb dX10_about_1 (by omega) (by decide) ?_
  refine lv_iconst (v := (-1)) hx hb dX10_about_94 (by decide) ?_
  cases h
  exact g_iret hx hb hr hlocks hW hS dX10_about_95
theorem c_X10_about (hB : Lk L) {S : St} {r : Int32} {p1 : Int32} (h : f_X10_about S p1 = some r) : Met l yX10_about (gws yX10_about cX10_about 2 (some .int)) (rmk 1) (va_Pc [.ref (ad 0), .int p1] (WU g A ad L S)) (qi g A ad L r S) 0 0 A :=
  g_met [.ref (ad 0), .int p1] (by decide) (Nat.le_of_ble_eq_true rfl) (fun p e s m below meth c ls C hW hl _ => t_X10_about C hB h hW va_S.rf hl)
theorem hv_X10_about : yX10_about.cls = RX10 ∧ yX10_about.cls ≠ "java/lang/invoke/MethodHandle" ∧ yX10_about.cls ≠ "java/lang/invoke/VarHandle" ∧ (parseMethodDescriptor yX10_about.desc).map (fun d => d.parameters.length) = some 1 := by decide +kernel
end S15
