section S31
variable {p : Program} {l : Launch} {e : Env} {s : State} {m : MethodId} {args : Array Value} {below : List Frame} {meth : Method} {c : Code} {A : Nat → Prop} {g : Cx} {ad : Nat → Nat} {L : List Nat} {N : Nat} {q0 : Nat}
/-! DroveRoads$Lexer.byteAt -/
def f_X3_byteAt (S : St) (p1 : Int32) : Option (Int32) := if p1 < 0 then (some 0) else (if (gv S 111 4) ≤ p1 then (some 0) else (if p1 < 0 ∨ 500 ≤ ix p1 then none else some ((gv S 7 (ix p1)) &&& 255)))
set_option maxHeartbeats 4000000 in
theorem t_X3_byteAt (C : MC p s m args meth c cX3_byteAt 2 (some .int) RX3 g A) (hB : Lk L) (h111 : 111 ∈ L) {S : St} {r : Int32} {p1 : Int32} (h : f_X3_byteAt S p1 = some r) {H : Heap} {locs : List Loc} {ls : Array Slot} (hW : GW g A ad L S H) (hS : va_S A s.heap H locs) (hl : lv_has ls 2 [(0, .ref (ad 111)), (1, .int p1)]) : W p l e (rmk 1) s m args below meth c H locs 0 0 (MQ below (qi g A ad L r S) args s 0 0 A) (F0 m 0 ls []) := by
  obtain ⟨hx, hb, hml, hown, hts, hr, hlocks, hK, hN, hT⟩ := id C
  unfold f_X3_byteAt at h
  refine lv_iload_n hx hb dX3_byteAt_0 rfl (lv_at hl 1 rfl) ?_
  refine lv_if_lt (tgt := 25) hx hb dX3_byteAt_1 (by decide) (fun c_1 => ?_) (fun c_1 => ?_)
  · have h := it_t c_1 h
    refine lv_iconst (v := 0) hx hb dX3_byteAt_25 (by decide) ?_
    cases h
    exact g_iret hx hb hr hlocks hW hS dX3_byteAt_26
  · have h := it_f c_1 h
    refine lv_iload_n hx hb dX3_byteAt_4 rfl (lv_at hl 1 rfl) ?_
    refine lv_aload_n hx hb dX3_byteAt_5 rfl (lv_at hl 0 rfl) ?_
    refine g_get (C := RX3) (T := TX3) (N := 6) (ci := 3) hx hb hts inX3 hown hK hW h111 kd_111 rfl 4 (by decide) mw_454 rfl rfl dX3_byteAt_6 ?_
    refine lv_icmp_ge (tgt := 25) hx hb dX3_byteAt_9 (by decide) (fun c_2 => ?_) (fun c_2 => ?_)
    · have h := it_t c_2 h
      refine lv_iconst (v := 0) hx hb dX3_byteAt_25 (by decide) ?_
      cases h
      exact g_iret hx hb hr hlocks hW hS dX3_byteAt_26
    · have h := it_f c_2 h
      refine lv_aload_n hx hb dX3_byteAt_12 rfl (lv_at hl 0 rfl) ?_
      refine g_get (C := RX3) (T := TX3) (N := 6) (ci := 3) hx hb hts inX3 hown hK hW h111 kd_111 rfl 3 (by decide) mw_453 rfl rfl dX3_byteAt_13 ?_
      refine lv_iload_n hx hb dX3_byteAt_16 rfl (lv_at hl 1 rfl) ?_
      obtain ⟨hi_3, h⟩ := ck_n h
      refine g_bald hx hb hK hW (hB 7 bb_7) kd_7 hi_3 dX3_byteAt_17 ?_
      refine lv_sipush (v := 255) hx hb dX3_byteAt_18 (by decide) ?_
      refine lv_iand hx hb dX3_byteAt_21 ?_
      refine lv_goto (tgt := 26) hx hb dX3_byteAt_22 (by decide) ?_
      cases h
      exact g_iret hx hb hr hlocks hW hS dX3_byteAt_26
theorem c_X3_byteAt (hB : Lk L) (h111 : 111 ∈ L) {S : St} {r : Int32} {p1 : Int32} (h : f_X3_byteAt S p1 = some r) : Met l yX3_byteAt (gws yX3_byteAt cX3_byteAt 2 (some .int)) (rmk 1) (va_Pc [.ref (ad 111), .int p1] (WU g A ad L S)) (qi g A ad L r S) 0 0 A :=
  g_met [.ref (ad 111), .int p1] (by decide) (Nat.le_of_ble_eq_true rfl) (fun p e s m below meth c ls C hW hl _ => t_X3_byteAt C hB h111 h hW va_S.rf hl)
theorem hv_X3_byteAt : yX3_byteAt.cls = RX3 ∧ yX3_byteAt.cls ≠ "java/lang/invoke/MethodHandle" ∧ yX3_byteAt.cls ≠ "java/lang/invoke/VarHandle" ∧ (parseMethodDescriptor yX3_byteAt.desc).map (fun d => d.parameters.length) = some 1 := by decide +kernel
/-! DroveRoads$Lexer.isBlank -/
def f_X3_isBlank (S : St) (p1 : Int32) : Option (Int32) := if p1 = 32 then (some 1) else (if p1 = 10 then (some 1) else (some 0))
set_option maxHeartbeats 4000000 in
theorem t_X3_isBlank (C : MC p s m args meth c cX3_isBlank 1 (some .boolean) RX3 g A) (hB : Lk L) (h111 : 111 ∈ L) {S : St} {r : Int32} {p1 : Int32} (h : f_X3_isBlank S p1 = some r) {H : Heap} {locs : List Loc} {ls : Array Slot} (hW : GW g A ad L S H) (hS : va_S A s.heap H locs) (hl : lv_has ls 1 [(0, .int p1)]) : W p l e (rmk 1) s m args below meth c H locs 0 0 (MQ below (qz g A ad L r S) args s 0 0 A) (F0 m 0 ls []) := by
  obtain ⟨hx, hb, hml, hown, hts, hr, hlocks, hK, hN, hT⟩ := id C
  unfold f_X3_isBlank at h
  refine lv_iload_n hx hb dX3_isBlank_0 rfl (lv_at hl 0 rfl) ?_
  refine lv_bipush (v := 32) hx hb dX3_isBlank_1 (by decide) ?_
  refine lv_icmp_eq (tgt := 12) hx hb dX3_isBlank_3 (by decide) (fun c_1 => ?_) (fun c_1 => ?_)
  · have h := it_t c_1 h
    refine lv_iconst (v := 1) hx hb dX3_isBlank_12 (by decide) ?_
    refine lv_goto (tgt := 17) hx hb dX3_isBlank_13 (by decide) ?_
    cases h
    exact g_zret hx hb hr hlocks hW hS (rfl) dX3_isBlank_17
  · have h := it_f c_1 h
    refine lv_iload_n hx hb dX3_isBlank_6 rfl (lv_at hl 0 rfl) ?_
    refine lv_bipush (v := 10) hx hb dX3_isBlank_7 (by decide) ?_
    refine lv_icmp_ne (tgt := 16) hx hb dX3_isBlank_9 (by decide) (fun c_2 => ?_) (fun c_2 => ?_)
    · have h := it_f c_2 h
      refine lv_iconst (v := 0) hx hb dX3_isBlank_16 (by decide) ?_
      cases h
      exact g_zret hx hb hr hlocks hW hS (rfl) dX3_isBlank_17
    · have h := it_t c_2 h
      refine lv_iconst (v := 1) hx hb dX3_isBlank_12 (by decide) ?_
      refine lv_goto (tgt := 17) hx hb dX3_isBlank_13 (by decide) ?_
      cases h
      exact g_zret hx hb hr hlocks hW hS (rfl) dX3_isBlank_17
theorem c_X3_isBlank (hB : Lk L) (h111 : 111 ∈ L) {S : St} {r : Int32} {p1 : Int32} (h : f_X3_isBlank S p1 = some r) : Met l yX3_isBlank (gws yX3_isBlank cX3_isBlank 1 (some .boolean)) (rmk 1) (va_Pc [.int p1] (WU g A ad L S)) (qz g A ad L r S) 0 0 A :=
  g_met [.int p1] (by decide) (Nat.le_of_ble_eq_true rfl) (fun p e s m below meth c ls C hW hl _ => t_X3_isBlank C hB h111 h hW va_S.rf hl)
theorem hs_X3_isBlank : yX3_isBlank.cls ≠ "java/lang/invoke/MethodHandle" ∧ yX3_isBlank.cls ≠ "java/lang/invoke/VarHandle" ∧ (parseMethodDescriptor yX3_isBlank.desc).map (fun d => d.parameters.length) = some 1 := by decide +kernel
/-! DroveRoads$Lexer.isDigit -/
def f_X3_isDigit (S : St) (p1 : Int32) : Option (Int32) := if p1 < 48 then (some 0) else (if 57 < p1 then (some 0) else (some 1))
set_option maxHeartbeats 4000000 in
theorem t_X3_isDigit (C : MC p s m args meth c cX3_isDigit 1 (some .boolean) RX3 g A) (hB : Lk L) (h111 : 111 ∈ L) {S : St} {r : Int32} {p1 : Int32} (h : f_X3_isDigit S p1 = some r) {H : Heap} {locs : List Loc} {ls : Array Slot} (hW : GW g A ad L S H) (hS : va_S A s.heap H locs) (hl : lv_has ls 1 [(0, .int p1)]) : W p l e (rmk 1) s m args below meth c H locs 0 0 (MQ below (qz g A ad L r S) args s 0 0 A) (F0 m 0 ls []) := by
  obtain ⟨hx, hb, hml, hown, hts, hr, hlocks, hK, hN, hT⟩ := id C
  unfold f_X3_isDigit at h
  refine lv_iload_n hx hb dX3_isDigit_0 rfl (lv_at hl 0 rfl) ?_
  refine lv_bipush (v := 48) hx hb dX3_isDigit_1 (by decide) ?_
  refine lv_icmp_lt (tgt := 16) hx hb dX3_isDigit_3 (by decide) (fun c_1 => ?_) (fun c_1 => ?_)
  · have h := it_t c_1 h
    refine lv_iconst (v := 0) hx hb dX3_isDigit_16 (by decide) ?_
    cases h
    exact g_zret hx hb hr hlocks hW hS (rfl) dX3_isDigit_17
  · have h := it_f c_1 h
    refine lv_iload_n hx hb dX3_isDigit_6 rfl (lv_at hl 0 rfl) ?_
    refine lv_bipush (v := 57) hx hb dX3_isDigit_7 (by decide) ?_
    refine lv_icmp_gt (tgt := 16) hx hb dX3_isDigit_9 (by decide) (fun c_2 => ?_) (fun c_2 => ?_)
    · have h := it_t c_2 h
      refine lv_iconst (v := 0) hx hb dX3_isDigit_16 (by decide) ?_
      cases h
      exact g_zret hx hb hr hlocks hW hS (rfl) dX3_isDigit_17
    · have h := it_f c_2 h
      refine lv_iconst (v := 1) hx hb dX3_isDigit_12 (by decide) ?_
      refine lv_goto (tgt := 17) hx hb dX3_isDigit_13 (by decide) ?_
      cases h
      exact g_zret hx hb hr hlocks hW hS (rfl) dX3_isDigit_17
theorem c_X3_isDigit (hB : Lk L) (h111 : 111 ∈ L) {S : St} {r : Int32} {p1 : Int32} (h : f_X3_isDigit S p1 = some r) : Met l yX3_isDigit (gws yX3_isDigit cX3_isDigit 1 (some .boolean)) (rmk 1) (va_Pc [.int p1] (WU g A ad L S)) (qz g A ad L r S) 0 0 A :=
  g_met [.int p1] (by decide) (Nat.le_of_ble_eq_true rfl) (fun p e s m below meth c ls C hW hl _ => t_X3_isDigit C hB h111 h hW va_S.rf hl)
theorem hs_X3_isDigit : yX3_isDigit.cls ≠ "java/lang/invoke/MethodHandle" ∧ yX3_isDigit.cls ≠ "java/lang/invoke/VarHandle" ∧ (parseMethodDescriptor yX3_isDigit.desc).map (fun d => d.parameters.length) = some 1 := by decide +kernel
/-! DroveRoads$Lexer.isLetter -/
def f_X3_isLetter (S : St) (p1 : Int32) : Option (Int32) := if p1 < 97 then (some 0) else (if 122 < p1 then (some 0) else (some 1))
set_option maxHeartbeats 4000000 in
theorem t_X3_isLetter (C : MC p s m args meth c cX3_isLetter 1 (some .boolean) RX3 g A) (hB : Lk L) (h111 : 111 ∈ L) {S : St} {r : Int32} {p1 : Int32} (h : f_X3_isLetter S p1 = some r) {H : Heap} {locs : List Loc} {ls : Array Slot} (hW : GW g A ad L S H) (hS : va_S A s.heap H locs) (hl : lv_has ls 1 [(0, .int p1)]) : W p l e (rmk 1) s m args below meth c H locs 0 0 (MQ below (qz g A ad L r S) args s 0 0 A) (F0 m 0 ls []) := by
  obtain ⟨hx, hb, hml, hown, hts, hr, hlocks, hK, hN, hT⟩ := id C
  unfold f_X3_isLetter at h
  refine lv_iload_n hx hb dX3_isLetter_0 rfl (lv_at hl 0 rfl) ?_
  refine lv_bipush (v := 97) hx hb dX3_isLetter_1 (by decide) ?_
  refine lv_icmp_lt (tgt := 16) hx hb dX3_isLetter_3 (by decide) (fun c_1 => ?_) (fun c_1 => ?_)
  · have h := it_t c_1 h
    refine lv_iconst (v := 0) hx hb dX3_isLetter_16 (by decide) ?_
    cases h
    exact g_zret hx hb hr hlocks hW hS (rfl) dX3_isLetter_17
  · have h := it_f c_1 h
    refine lv_iload_n hx hb dX3_isLetter_6 rfl (lv_at hl 0 rfl) ?_
    refine lv_bipush (v := 122) hx hb dX3_isLetter_7 (by decide) ?_
    refine lv_icmp_gt (tgt := 16) hx hb dX3_isLetter_9 (by decide) (fun c_2 => ?_) (fun c_2 => ?_)
    · have h := it_t c_2 h
      refine lv_iconst (v := 0) hx hb dX3_isLetter_16 (by decide) ?_
      cases h
      exact g_zret hx hb hr hlocks hW hS (rfl) dX3_isLetter_17
    · have h := it_f c_2 h
      refine lv_iconst (v := 1) hx hb dX3_isLetter_12 (by decide) ?_
      refine lv_goto (tgt := 17) hx hb dX3_isLetter_13 (by decide) ?_
      cases h
      exact g_zret hx hb hr hlocks hW hS (rfl) dX3_isLetter_17
theorem c_X3_isLetter (hB : Lk L) (h111 : 111 ∈ L) {S : St} {r : Int32} {p1 : Int32} (h : f_X3_isLetter S p1 = some r) : Met l yX3_isLetter (gws yX3_isLetter cX3_isLetter 1 (some .boolean)) (rmk 1) (va_Pc [.int p1] (WU g A ad L S)) (qz g A ad L r S) 0 0 A :=
  g_met [.int p1] (by decide) (Nat.le_of_ble_eq_true rfl) (fun p e s m below meth c ls C hW hl _ => t_X3_isLetter C hB h111 h hW va_S.rf hl)
theorem hs_X3_isLetter : yX3_isLetter.cls ≠ "java/lang/invoke/MethodHandle" ∧ yX3_isLetter.cls ≠ "java/lang/invoke/VarHandle" ∧ (parseMethodDescriptor yX3_isLetter.desc).map (fun d => d.parameters.length) = some 1 := by decide +kernel
/-! DroveRoads$Lexer.scanNumber -/
def f_X3_scanNumber_l5 (N : Nat) (k : St → Option (St)) : Nat → St → Option (St)
  | 0, _ => none
  | n + 1, S => if (gv S 111 4) ≤ (gv S 111 5) then (k S) else (cl0 (f_X3_byteAt S (gv S 111 5)) fun r_4 => cl0 (f_X3_isDigit S r_4) fun r_6 => if r_6 = 0 then (k S) else (cl0 (f_X3_byteAt S (gv S 111 5)) fun r_10 => bn (sv S 111 2 (((gv S 111 2) * 10) + (r_10 - 48))) fun S_11 => bn (sv S_11 111 5 ((gv S_11 111 5) + 1)) fun S_12 => f_X3_scanNumber_l5 N k n S_12))
set_option maxHeartbeats 4000000 in
theorem t_X3_scanNumber_l5 (C : MC p s m args meth c cX3_scanNumber 2 none RX3 g A) (hB : Lk L) (h111 : 111 ∈ L) {S9 : St} {k : St → Option (St)} (hk : ∀ (S : St), k S = some S9 → ∀ (H : Heap) (locs : List Loc) (ls : Array Slot), GW g A ad L S H → va_S A s.heap H locs → lv_has ls 2 [(0, .ref (ad 111))] → W p l e (rmk 2) s m args below meth c H locs 0 0 (MQ below (qv g A ad L S9) args s 0 0 A) (F0 m 66 ls [])) : ∀ (n : Nat) (S : St), f_X3_scanNumber_l5 N k n S = some S9 → ∀ (H : Heap) (locs : List Loc) (ls : Array Slot), GW g A ad L S H → va_S A s.heap H locs → lv_has ls 2 [(0, .ref (ad 111))] → W p l e (rmk 2) s m args below meth c H locs 0 0 (MQ below (qv g A ad L S9) args s 0 0 A) (F0 m 5 ls []) := by
  obtain ⟨hx, hb, hml, hown, hts, hr, hlocks, hK, hN, hT⟩ := id C
  intro n
  induction n with
  | zero =>
    intro S h
    have h : (none : Option (St)) = some S9 := h
    cases h
  | succ n ih =>
    intro S h H locs ls hW hS hl
    rw [f_X3_scanNumber_l5] at h
    refine lv_aload_n hx hb dX3_scanNumber_5 rfl (lv_at hl 0 rfl) ?_
    refine g_get (C := RX3) (T := TX3) (N := 6) (ci := 3) hx hb hts inX3 hown hK hW h111 kd_111 rfl 5 (by decide) mw_455 rfl rfl dX3_scanNumber_6 ?_
    refine lv_aload_n hx hb dX3_scanNumber_9 rfl (lv_at hl 0 rfl) ?_
    refine g_get (C := RX3) (T := TX3) (N := 6) (ci := 3) hx hb hts inX3 hown hK hW h111 kd_111 rfl 4 (by decide) mw_454 rfl rfl dX3_scanNumber_10 ?_
    refine lv_icmp_ge (tgt := 66) hx hb dX3_scanNumber_13 (by decide) (fun c_2 => ?_) (fun c_2 => ?_)
    · have h := it_t c_2 h
      exact hk _ h _ _ _ hW hS (lv_sub hl [0] rfl)
    · have h := it_f c_2 h
      refine lv_aload_n hx hb dX3_scanNumber_16 rfl (lv_at hl 0 rfl) ?_
      refine lv_aload_n hx hb dX3_scanNumber_17 rfl (lv_at hl 0 rfl) ?_
      refine g_get (C := RX3) (T := TX3) (N := 6) (ci := 3) hx hb hts inX3 hown hK hW h111 kd_111 rfl 5 (by decide) mw_455 rfl rfl dX3_scanNumber_18 ?_
      obtain ⟨r_4, hc_3, h⟩ := cl0_ex h
      refine g_ci (g_runV (ci := 3) (o := 111) (As := [.int (gv S 111 5)]) (rest := []) hx hb hml hown hts hK hN hT hS hW (c_X3_byteAt hB h111 hc_3) h111 kd_111 rfl (gw_V mw_499 mw_501 mw_4 mw_76 mw_502) hv_X3_byteAt rfl rfl rfl (rm_ok (by decide) (by decide)) hl.1 (Nat.le_of_ble_eq_true rfl) dX3_scanNumber_21 rfl ⟨Nat.zero_le _, Nat.zero_le _⟩) hS (fun H locs hW hS => ?_)
      obtain ⟨r_6, hc_5, h⟩ := cl0_ex h
      refine g_cz (g_runS (As := [.int r_4]) (rest := []) hx hb hml hown hts hK hN hT hS hW (c_X3_isDigit hB h111 hc_5) (gw_S mw_570 mw_571 mw_76 mw_572) hs_X3_isDigit rfl rfl rfl (rm_ok (by decide) (by decide)) hl.1 (Nat.le_of_ble_eq_true rfl) dX3_scanNumber_24 rfl ⟨Nat.zero_le _, Nat.zero_le _⟩) hS (fun hz_7 H locs hW hS => ?_)
      refine lv_if_eq (tgt := 66) hx hb dX3_scanNumber_27 (by decide) (fun c_8 => ?_) (fun c_8 => ?_)
      · have h := it_t c_8 h
        exact hk _ h _ _ _ hW hS (lv_sub hl [0] rfl)
      · have h := it_f c_8 h
        refine lv_aload_n hx hb dX3_scanNumber_30 rfl (lv_at hl 0 rfl) ?_
        refine lv_aload_n hx hb dX3_scanNumber_31 rfl (lv_at hl 0 rfl) ?_
        refine g_get (C := RX3) (T := TX3) (N := 6) (ci := 3) hx hb hts inX3 hown hK hW h111 kd_111 rfl 2 (by decide) mw_451 rfl rfl dX3_scanNumber_32 ?_
        refine lv_bipush (v := 10) hx hb dX3_scanNumber_35 (by decide) ?_
        refine lv_imul hx hb dX3_scanNumber_37 ?_
        refine lv_aload_n hx hb dX3_scanNumber_38 rfl (lv_at hl 0 rfl) ?_
        refine lv_aload_n hx hb dX3_scanNumber_39 rfl (lv_at hl 0 rfl) ?_
        refine g_get (C := RX3) (T := TX3) (N := 6) (ci := 3) hx hb hts inX3 hown hK hW h111 kd_111 rfl 5 (by decide) mw_455 rfl rfl dX3_scanNumber_40 ?_
        obtain ⟨r_10, hc_9, h⟩ := cl0_ex h
        refine g_ci (g_runV (ci := 3) (o := 111) (As := [.int (gv S 111 5)]) (rest := [.int ((gv S 111 2) * 10), .ref (ad 111)]) hx hb hml hown hts hK hN hT hS hW (c_X3_byteAt hB h111 hc_9) h111 kd_111 rfl (gw_V mw_499 mw_501 mw_4 mw_76 mw_502) hv_X3_byteAt rfl rfl rfl (rm_ok (by decide) (by decide)) hl.1 (Nat.le_of_ble_eq_true rfl) dX3_scanNumber_43 rfl ⟨Nat.zero_le _, Nat.zero_le _⟩) hS (fun H locs hW hS => ?_)
        refine lv_bipush (v := 48) hx hb dX3_scanNumber_46 (by decide) ?_
        refine lv_isub hx hb dX3_scanNumber_48 ?_
        refine lv_iadd hx hb dX3_scanNumber_49 ?_
        refine g_put (C := RX3) (T := TX3) (N := 6) (ci := 3) hx hb hts inX3 tyX3 tyX3_ok nmX3 hown hK hW hS h111 kd_111 rfl 2 (by decide) mw_451 rfl rfl rfl rfl (Nat.le_of_ble_eq_true rfl) (sv S 111 2 (((gv S 111 2) * 10) + (r_10 - 48))) (ps_111_2) cellOf_sv dX3_scanNumber_50 (fun S_11 eS_11 H locs hW hS => ?_)
        have h := bn_at eS_11 h
        refine lv_aload_n hx hb dX3_scanNumber_53 rfl (lv_at hl 0 rfl) ?_
        refine lv_dup hx hb dX3_scanNumber_54 rfl ?_
        refine g_get (C := RX3) (T := TX3) (N := 6) (ci := 3) hx hb hts inX3 hown hK hW h111 kd_111 rfl 5 (by decide) mw_455 rfl rfl dX3_scanNumber_55 ?_
        refine lv_iconst (v := 1) hx hb dX3_scanNumber_58 (by decide) ?_
        refine lv_iadd hx hb dX3_scanNumber_59 ?_
        refine g_put (C := RX3) (T := TX3) (N := 6) (ci := 3) hx hb hts inX3 tyX3 tyX3_ok nmX3 hown hK hW hS h111 kd_111 rfl 5 (by decide) mw_455 rfl rfl rfl rfl (Nat.le_of_ble_eq_true rfl) (sv S_11 111 5 ((gv S_11 111 5) + 1)) (ps_111_5) cellOf_sv dX3_scanNumber_60 (fun S_12 eS_12 H locs hW hS => ?_)
        have h := bn_at eS_12 h
        refine lv_goto (tgt := 5) hx hb dX3_scanNumber_63 (by decide) ?_
        exact ih _ h _ _ _ hW hS (lv_sub hl [0] rfl)
def f_X3_scanNumber_j66 (N : Nat) (S : St) : Option (St) := if 6 < ((gv S 111 5) - (gv S 111 1)) then (bn (sv S 111 0 28) fun S_15 => some S_15) else (cl0 (f_X3_byteAt S (gv S 111 5)) fun r_17 => cl0 (f_X3_isLetter S r_17) fun r_19 => if r_19 = 0 then (bn (sv S 111 0 25) fun S_23 => some S_23) else (bn (sv S 111 0 28) fun S_22 => some S_22))
set_option maxHeartbeats 4000000 in
theorem t_X3_scanNumber_j66 (C : MC p s m args meth c cX3_scanNumber 2 none RX3 g A) (hB : Lk L) (h111 : 111 ∈ L) {S : St} {S9 : St} (h : f_X3_scanNumber_j66 N S = some S9) {H : Heap} {locs : List Loc} {ls : Array Slot} (hW : GW g A ad L S H) (hS : va_S A s.heap H locs) (hl : lv_has ls 2 [(0, .ref (ad 111))]) : W p l e (rmk 2) s m args below meth c H locs 0 0 (MQ below (qv g A ad L S9) args s 0 0 A) (F0 m 66 ls []) := by
  obtain ⟨hx, hb, hml, hown, hts, hr, hlocks, hK, hN, hT⟩ := id C
  unfold f_X3_scanNumber_j66 at h
  refine lv_aload_n hx hb dX3_scanNumber_66 rfl (lv_at hl 0 rfl) ?_
  refine g_get (C := RX3) (T := TX3) (N := 6) (ci := 3) hx hb hts inX3 hown hK hW h111 kd_111 rfl 5 (by decide) mw_455 rfl rfl dX3_scanNumber_67 ?_
  refine lv_aload_n hx hb dX3_scanNumber_70 rfl (lv_at hl 0 rfl) ?_
  refine g_get (C := RX3) (T := TX3) (N := 6) (ci := 3) hx hb hts inX3 hown hK hW h111 kd_111 rfl 1 (by decide) mw_449 rfl rfl dX3_scanNumber_71 ?_
  refine lv_isub hx hb dX3_scanNumber_74 ?_
  refine lv_bipush (v := 6) hx hb dX3_scanNumber_75 (by decide) ?_
  refine lv_icmp_gt (tgt := 98) hx hb dX3_scanNumber_77 (by decide) (fun c_14 => ?_) (fun c_14 => ?_)
  · have h := it_t c_14 h
    refine lv_iconst (v := 0) hx hb dX3_scanNumber_98 (by decide) ?_
    refine lv_istore_n (lv' := [(1, .int 0), (0, .ref (ad 111))]) hx hb dX3_scanNumber_99 rfl hl (by decide) rfl (fun ls hl => ?_)
    refine lv_aload_n hx hb dX3_scanNumber_100 rfl (lv_at hl 1 rfl) ?_
    refine lv_iload_n hx hb dX3_scanNumber_101 rfl (lv_at hl 0 rfl) ?_
    refine lv_if_eq (tgt := 110) hx hb dX3_scanNumber_102 (by decide) (fun _ => ?_) (fun c9 => absurd c9 (by decide))
    refine lv_bipush (v := 28) hx hb dX3_scanNumber_110 (by decide) ?_
    refine g_put (C := RX3) (T := TX3) (N := 6) (ci := 3) hx hb hts inX3 tyX3 tyX3_ok nmX3 hown hK hW hS h111 kd_111 rfl 0 (by decide) mw_447 rfl rfl rfl rfl (Nat.le_of_ble_eq_true rfl) (sv S 111 0 28) (ps_111_0) cellOf_sv dX3_scanNumber_112 (fun S_15 eS_15 H locs hW hS => ?_)
    have h := bn_at eS_15 h
    cases h
    exact g_vret hx hb hr hlocks hW hS dX3_scanNumber_115
  · have h := it_f c_14 h
    refine lv_aload_n hx hb dX3_scanNumber_80 rfl (lv_at hl 0 rfl) ?_
    refine lv_aload_n hx hb dX3_scanNumber_81 rfl (lv_at hl 0 rfl) ?_
    refine g_get (C := RX3) (T := TX3) (N := 6) (ci := 3) hx hb hts inX3 hown hK hW h111 kd_111 rfl 5 (by decide) mw_455 rfl rfl dX3_scanNumber_82 ?_
    obtain ⟨r_17, hc_16, h⟩ := cl0_ex h
    refine g_ci (g_runV (ci := 3) (o := 111) (As := [.int (gv S 111 5)]) (rest := []) hx hb hml hown hts hK hN hT hS hW (c_X3_byteAt hB h111 hc_16) h111 kd_111 rfl (gw_V mw_499 mw_501 mw_4 mw_76 mw_502) hv_X3_byteAt rfl rfl rfl (rm_ok (by decide) (by decide)) hl.1 (Nat.le_of_ble_eq_true rfl) dX3_scanNumber_85 rfl ⟨Nat.zero_le _, Nat.zero_le _⟩) hS (fun H locs hW hS => ?_)
    obtain ⟨r_19, hc_18, h⟩ := cl0_ex h
    refine g_cz (g_runS (As := [.int r_17]) (rest := []) hx hb hml hown hts hK hN hT hS hW (c_X3_isLetter hB h111 hc_18) (gw_S mw_506 mw_507 mw_76 mw_508) hs_X3_isLetter rfl rfl rfl (rm_ok (by decide) (by decide)) hl.1 (Nat.le_of_ble_eq_true rfl) dX3_scanNumber_88 rfl ⟨Nat.zero_le _, Nat.zero_le _⟩) hS (fun hz_20 H locs hW hS => ?_)
    refine lv_if_ne (tgt := 98) hx hb dX3_scanNumber_91 (by decide) (fun c_21 => ?_) (fun c_21 => ?_)
    · have h := it_f c_21 h
      refine lv_iconst (v := 0) hx hb dX3_scanNumber_98 (by decide) ?_
      refine lv_istore_n (lv' := [(1, .int 0), (0, .ref (ad 111))]) hx hb dX3_scanNumber_99 rfl hl (by decide) rfl (fun ls hl => ?_)
      refine lv_aload_n hx hb dX3_scanNumber_100 rfl (lv_at hl 1 rfl) ?_
      refine lv_iload_n hx hb dX3_scanNumber_101 rfl (lv_at hl 0 rfl) ?_
      refine lv_if_eq (tgt := 110) hx hb dX3_scanNumber_102 (by decide) (fun _ => ?_) (fun c9 => absurd c9 (by decide))
      refine lv_bipush (v := 28) hx hb dX3_scanNumber_110 (by decide) ?_
      refine g_put (C := RX3) (T := TX3) (N := 6) (ci := 3) hx hb hts inX3 tyX3 tyX3_ok nmX3 hown hK hW hS h111 kd_111 rfl 0 (by decide) mw_447 rfl rfl rfl rfl (Nat.le_of_ble_eq_true rfl) (sv S 111 0 28) (ps_111_0) cellOf_sv dX3_scanNumber_112 (fun S_22 eS_22 H locs hW hS => ?_)
      have h := bn_at eS_22 h
      cases h
      exact g_vret hx hb hr hlocks hW hS dX3_scanNumber_115
    · have h := it_t c_21 h
      refine lv_iconst (v := 1) hx hb dX3_scanNumber_94 (by decide) ?_
      refine lv_goto (tgt := 99) hx hb dX3_scanNumber_95 (by decide) ?_
      refine lv_istore_n (lv' := [(1, .int 1), (0, .ref (ad 111))]) hx hb dX3_scanNumber_99 rfl hl (by decide) rfl (fun ls hl => ?_)
      refine lv_aload_n hx hb dX3_scanNumber_100 rfl (lv_at hl 1 rfl) ?_
      refine lv_iload_n hx hb dX3_scanNumber_101 rfl (lv_at hl 0 rfl) ?_
      refine lv_if_eq (tgt := 110) hx hb dX3_scanNumber_102 (by decide) (fun c9 => absurd c9 (by decide)) (fun _ => ?_)
      refine lv_bipush (v := 25) hx hb dX3_scanNumber_105 (by decide) ?_
      refine lv_goto (tgt := 112) hx hb dX3_scanNumber_107 (by decide) ?_
      refine g_put (C := RX3) (T := TX3) (N := 6) (ci := 3) hx hb hts inX3 tyX3 tyX3_ok nmX3 hown hK hW hS h111 kd_111 rfl 0 (by decide) mw_447 rfl rfl rfl rfl (Nat.le_of_ble_eq_true rfl) (sv S 111 0 25) (ps_111_0) cellOf_sv dX3_scanNumber_112 (fun S_23 eS_23 H locs hW hS => ?_)
      have h := bn_at eS_23 h
      cases h
      exact g_vret hx hb hr hlocks hW hS dX3_scanNumber_115
def f_X3_scanNumber (N : Nat) (S : St) : Option (St) := bn (sv S 111 2 0) fun S_1 => f_X3_scanNumber_l5 N (fun S_13 => f_X3_scanNumber_j66 N S_13) N S_1
set_option maxHeartbeats 4000000 in
theorem t_X3_scanNumber (C : MC p s m args meth c cX3_scanNumber 2 none RX3 g A) (hB : Lk L) (h111 : 111 ∈ L) {S : St} {S9 : St} (h : f_X3_scanNumber N S = some S9) {H : Heap} {locs : List Loc} {ls : Array Slot} (hW : GW g A ad L S H) (hS : va_S A s.heap H locs) (hl : lv_has ls 2 [(0, .ref (ad 111))]) : W p l e (rmk 2) s m args below meth c H locs 0 0 (MQ below (qv g A ad L S9) args s 0 0 A) (F0 m 0 ls []) := by
  obtain ⟨hx, hb, hml, hown, hts, hr, hlocks, hK, hN, hT⟩ := id C
  unfold f_X3_scanNumber at h
  refine lv_aload_n hx hb dX3_scanNumber_0 rfl (lv_at hl 0 rfl) ?_
  refine lv_iconst (v := 0) hx hb dX3_scanNumber_1 (by decide) ?_
  refine g_put (C := RX3) (T := TX3) (N := 6) (ci := 3) hx hb hts inX3 tyX3 tyX3_ok nmX3 hown hK hW hS h111 kd_111 rfl 2 (by decide) mw_451 rfl rfl rfl rfl (Nat.le_of_ble_eq_true rfl) (sv S 111 2 0) (ps_111_2) cellOf_sv dX3_scanNumber_2 (fun S_1 eS_1 H locs hW hS => ?_)
  have h := bn_at eS_1 h
  refine t_X3_scanNumber_l5 C hB h111 ?_ _ _ h _ _ _ hW hS (lv_sub hl [0] rfl)
  intro S_13 h H locs ls hW hS hl
  exact t_X3_scanNumber_j66 C hB h111 h hW hS (lv_sub hl [0] rfl)
theorem c_X3_scanNumber (hB : Lk L) (h111 : 111 ∈ L) {S : St} {S9 : St} (h : f_X3_scanNumber N S = some S9) : Met l yX3_scanNumber (gws yX3_scanNumber cX3_scanNumber 2 none) (rmk 2) (va_Pc [.ref (ad 111)] (WU g A ad L S)) (qv g A ad L S9) 0 0 A :=
  g_met [.ref (ad 111)] (by decide) (Nat.le_of_ble_eq_true rfl) (fun p e s m below meth c ls C hW hl _ => t_X3_scanNumber C hB h111 h hW va_S.rf hl)
theorem hv_X3_scanNumber : yX3_scanNumber.cls = RX3 ∧ yX3_scanNumber.cls ≠ "java/lang/invoke/MethodHandle" ∧ yX3_scanNumber.cls ≠ "java/lang/invoke/VarHandle" ∧ (parseMethodDescriptor yX3_scanNumber.desc).map (fun d => d.parameters.length) = some 0 := by decide +kernel
/-! DroveRoads$Lexer.scanSign -/
def f_X3_scanSign (N : Nat) (S : St) (p1 : Int32) : Option (St) := cl0 (f_J0_indexOf_0f7a4 N S 1 p1) fun r_2 => if 0 ≤ r_2 then (bn (sv S 111 0 (17 + r_2)) fun S_4 => bn (sv S_4 111 5 ((gv S_4 111 5) + 1)) fun S_5 => some S_5) else (bn (sv S 111 0 28) fun S_6 => bn (sv S_6 111 5 ((gv S_6 111 5) + 1)) fun S_7 => some S_7)
set_option maxHeartbeats 4000000 in
theorem t_X3_scanSign (C : MC p s m args meth c cX3_scanSign 3 none RX3 g A) (hB : Lk L) (h111 : 111 ∈ L) {S : St} {S9 : St} {p1 : Int32} (h : f_X3_scanSign N S p1 = some S9) {H : Heap} {locs : List Loc} {ls : Array Slot} (hW : GW g A ad L S H) (hS : va_S A s.heap H locs) (hl : lv_has ls 3 [(0, .ref (ad 111)), (1, .int p1)]) : W p l e (rmk 5) s m args below meth c H locs 0 0 (MQ below (qv g A ad L S9) args s 0 0 A) (F0 m 0 ls []) := by
  obtain ⟨hx, hb, hml, hown, hts, hr, hlocks, hK, hN, hT⟩ := id C
  unfold f_X3_scanSign at h
  refine va_ldcS (q := g.2.2.2.2.2.1 1) hx hb hown hT.2.1 dX3_scanSign_0 ?_
  refine lv_iload_n hx hb dX3_scanSign_2 rfl (lv_at hl 1 rfl) ?_
  obtain ⟨r_2, hc_1, h⟩ := cl0_ex h
  refine g_ci (g_runVs (i := 1) (As := [.int p1]) (rest := []) hx hb hml hown hts hK hN hT hS hW (c_J0_indexOf_0f7a4 hB (by decide) hc_1) (by decide) (gw_V mw_582 mw_583 mw_584 mw_78 mw_585) hv_J0_indexOf_0f7a4 rfl rfl rfl (rm_ok (by decide) (by decide)) hl.1 (Nat.le_of_ble_eq_true rfl) dX3_scanSign_3 rfl ⟨Nat.zero_le _, Nat.zero_le _⟩) hS (fun H locs hW hS => ?_)
  refine lv_istore_n (lv' := [(2, .int r_2), (0, .ref (ad 111)), (1, .int p1)]) hx hb dX3_scanSign_6 rfl hl (by decide) rfl (fun ls hl => ?_)
  refine lv_aload_n hx hb dX3_scanSign_7 rfl (lv_at hl 1 rfl) ?_
  refine lv_iload_n hx hb dX3_scanSign_8 rfl (lv_at hl 0 rfl) ?_
  refine lv_if_ge (tgt := 17) hx hb dX3_scanSign_9 (by decide) (fun c_3 => ?_) (fun c_3 => ?_)
  · have h := it_t c_3 h
    refine lv_bipush (v := 17) hx hb dX3_scanSign_17 (by decide) ?_
    refine lv_iload_n hx hb dX3_scanSign_19 rfl (lv_at hl 0 rfl) ?_
    refine lv_iadd hx hb dX3_scanSign_20 ?_
    refine g_put (C := RX3) (T := TX3) (N := 6) (ci := 3) hx hb hts inX3 tyX3 tyX3_ok nmX3 hown hK hW hS h111 kd_111 rfl 0 (by decide) mw_447 rfl rfl rfl rfl (Nat.le_of_ble_eq_true rfl) (sv S 111 0 (17 + r_2)) (ps_111_0) cellOf_sv dX3_scanSign_21 (fun S_4 eS_4 H locs hW hS => ?_)
    have h := bn_at eS_4 h
    refine lv_aload_n hx hb dX3_scanSign_24 rfl (lv_at hl 1 rfl) ?_
    refine lv_dup hx hb dX3_scanSign_25 rfl ?_
    refine g_get (C := RX3) (T := TX3) (N := 6) (ci := 3) hx hb hts inX3 hown hK hW h111 kd_111 rfl 5 (by decide) mw_455 rfl rfl dX3_scanSign_26 ?_
    refine lv_iconst (v := 1) hx hb dX3_scanSign_29 (by decide) ?_
    refine lv_iadd hx hb dX3_scanSign_30 ?_
    refine g_put (C := RX3) (T := TX3) (N := 6) (ci := 3) hx hb hts inX3 tyX3 tyX3_ok nmX3 hown hK hW hS h111 kd_111 rfl 5 (by decide) mw_455 rfl rfl rfl rfl (Nat.le_of_ble_eq_true rfl) (sv S_4 111 5 ((gv S_4 111 5) + 1)) (ps_111_5) cellOf_sv dX3_scanSign_31 (fun S_5 eS_5 H locs hW hS => ?_)
    have h := bn_at eS_5 h
    cases h
    exact g_vret hx hb hr hlocks hW hS dX3_scanSign_34
  · have h := it_f c_3 h
    refine lv_bipush (v := 28) hx hb dX3_scanSign_12 (by decide) ?_
    refine lv_goto (tgt := 21) hx hb dX3_scanSign_14 (by decide) ?_
    refine g_put (C := RX3) (T := TX3) (N := 6) (ci := 3) hx hb hts inX3 tyX3 tyX3_ok nmX3 hown hK hW hS h111 kd_111 rfl 0 (by decide) mw_447 rfl rfl rfl rfl (Nat.le_of_ble_eq_true rfl) (sv S 111 0 28) (ps_111_0) cellOf_sv dX3_scanSign_21 (fun S_6 eS_6 H locs hW hS => ?_)
    have h := bn_at eS_6 h
    refine lv_aload_n hx hb dX3_scanSign_24 rfl (lv_at hl 1 rfl) ?_
    refine lv_dup hx hb dX3_scanSign_25 rfl ?_
    refine g_get (C := RX3) (T := TX3) (N := 6) (ci := 3) hx hb hts inX3 hown hK hW h111 kd_111 rfl 5 (by decide) mw_455 rfl rfl dX3_scanSign_26 ?_
    refine lv_iconst (v := 1) hx hb dX3_scanSign_29 (by decide) ?_
    refine lv_iadd hx hb dX3_scanSign_30 ?_
    refine g_put (C := RX3) (T := TX3) (N := 6) (ci := 3) hx hb hts inX3 tyX3 tyX3_ok nmX3 hown hK hW hS h111 kd_111 rfl 5 (by decide) mw_455 rfl rfl rfl rfl (Nat.le_of_ble_eq_true rfl) (sv S_6 111 5 ((gv S_6 111 5) + 1)) (ps_111_5) cellOf_sv dX3_scanSign_31 (fun S_7 eS_7 H locs hW hS => ?_)
    have h := bn_at eS_7 h
    cases h
    exact g_vret hx hb hr hlocks hW hS dX3_scanSign_34
theorem c_X3_scanSign (hB : Lk L) (h111 : 111 ∈ L) {S : St} {S9 : St} {p1 : Int32} (h : f_X3_scanSign N S p1 = some S9) : Met l yX3_scanSign (gws yX3_scanSign cX3_scanSign 3 none) (rmk 5) (va_Pc [.ref (ad 111), .int p1] (WU g A ad L S)) (qv g A ad L S9) 0 0 A :=
  g_met [.ref (ad 111), .int p1] (by decide) (Nat.le_of_ble_eq_true rfl) (fun p e s m below meth c ls C hW hl _ => t_X3_scanSign C hB h111 h hW va_S.rf hl)
theorem hv_X3_scanSign : yX3_scanSign.cls = RX3 ∧ yX3_scanSign.cls ≠ "java/lang/invoke/MethodHandle" ∧ yX3_scanSign.cls ≠ "java/lang/invoke/VarHandle" ∧ (parseMethodDescriptor yX3_scanSign.desc).map (fun d => d.parameters.length) = some 1 := by decide +kernel
/-! DroveRoads$Lexer.letterAt -/
def f_X3_letterAt (S : St) (p1 : Int32) : Option (Int32) := bn ((gv S 111 1) + p1) fun x_1 => if x_1 < 0 then (some 32) else (if (gv S 111 5) ≤ x_1 then (some 32) else (if (gv S 111 4) ≤ x_1 then (some 32) else (if x_1 < 0 ∨ 500 ≤ ix x_1 then none else some (gv S 7 (ix x_1)))))
set_option maxHeartbeats 4000000 in
theorem t_X3_letterAt (C : MC p s m args meth c cX3_letterAt 3 (some .int) RX3 g A) (hB : Lk L) (h111 : 111 ∈ L) {S : St} {r : Int32} {p1 : Int32} (h : f_X3_letterAt S p1 = some r) {H : Heap} {locs : List Loc} {ls : Array Slot} (hW : GW g A ad L S H) (hS : va_S A s.heap H locs) (hl : lv_has ls 3 [(0, .ref (ad 111)), (1, .int p1)]) : W p l e (rmk 1) s m args below meth c H locs 0 0 (MQ below (qi g A ad L r S) args s 0 0 A) (F0 m 0 ls []) := by
  obtain ⟨hx, hb, hml, hown, hts, hr, hlocks, hK, hN, hT⟩ := id C
  unfold f_X3_letterAt at h
  refine lv_aload_n hx hb dX3_letterAt_0 rfl (lv_at hl 0 rfl) ?_
  refine g_get (C := RX3) (T := TX3) (N := 6) (ci := 3) hx hb hts inX3 hown hK hW h111 kd_111 rfl 1 (by decide) mw_449 rfl rfl dX3_letterAt_1 ?_
  refine lv_iload_n hx hb dX3_letterAt_4 rfl (lv_at hl 1 rfl) ?_
  refine lv_iadd hx hb dX3_letterAt_5 ?_
  refine lv_topi (fun x_1 ex_1 => ?_)
  have h := bn_at ex_1 h
  refine lv_istore_n (lv' := [(2, .int x_1), (0, .ref (ad 111)), (1, .int p1)]) hx hb dX3_letterAt_6 rfl hl (by decide) rfl (fun ls hl => ?_)
  refine lv_iload_n hx hb dX3_letterAt_7 rfl (lv_at hl 0 rfl) ?_
  refine lv_if_lt (tgt := 36) hx hb dX3_letterAt_8 (by decide) (fun c_2 => ?_) (fun c_2 => ?_)
  · have h := it_t c_2 h
    refine lv_bipush (v := 32) hx hb dX3_letterAt_36 (by decide) ?_
    cases h
    exact g_iret hx hb hr hlocks hW hS dX3_letterAt_38
  · have h := it_f c_2 h
    refine lv_iload_n hx hb dX3_letterAt_11 rfl (lv_at hl 0 rfl) ?_
    refine lv_aload_n hx hb dX3_letterAt_12 rfl (lv_at hl 1 rfl) ?_
    refine g_get (C := RX3) (T := TX3) (N := 6) (ci := 3) hx hb hts inX3 hown hK hW h111 kd_111 rfl 5 (by decide) mw_455 rfl rfl dX3_letterAt_13 ?_
    refine lv_icmp_ge (tgt := 36) hx hb dX3_letterAt_16 (by decide) (fun c_3 => ?_) (fun c_3 => ?_)
    · have h := it_t c_3 h
      refine lv_bipush (v := 32) hx hb dX3_letterAt_36 (by decide) ?_
      cases h
      exact g_iret hx hb hr hlocks hW hS dX3_letterAt_38
    · have h := it_f c_3 h
      refine lv_iload_n hx hb dX3_letterAt_19 rfl (lv_at hl 0 rfl) ?_
      refine lv_aload_n hx hb dX3_letterAt_20 rfl (lv_at hl 1 rfl) ?_
      refine g_get (C := RX3) (T := TX3) (N := 6) (ci := 3) hx hb hts inX3 hown hK hW h111 kd_111 rfl 4 (by decide) mw_454 rfl rfl dX3_letterAt_21 ?_
      refine lv_icmp_ge (tgt := 36) hx hb dX3_letterAt_24 (by decide) (fun c_4 => ?_) (fun c_4 => ?_)
      · have h := it_t c_4 h
        refine lv_bipush (v := 32) hx hb dX3_letterAt_36 (by decide) ?_
        cases h
        exact g_iret hx hb hr hlocks hW hS dX3_letterAt_38
      · have h := it_f c_4 h
        refine lv_aload_n hx hb dX3_letterAt_27 rfl (lv_at hl 1 rfl) ?_
        refine g_get (C := RX3) (T := TX3) (N := 6) (ci := 3) hx hb hts inX3 hown hK hW h111 kd_111 rfl 3 (by decide) mw_453 rfl rfl dX3_letterAt_28 ?_
        refine lv_iload_n hx hb dX3_letterAt_31 rfl (lv_at hl 0 rfl) ?_
        obtain ⟨hi_5, h⟩ := ck_n h
        refine g_bald hx hb hK hW (hB 7 bb_7) kd_7 hi_5 dX3_letterAt_32 ?_
        refine lv_goto (tgt := 38) hx hb dX3_letterAt_33 (by decide) ?_
        cases h
        exact g_iret hx hb hr hlocks hW hS dX3_letterAt_38
theorem c_X3_letterAt (hB : Lk L) (h111 : 111 ∈ L) {S : St} {r : Int32} {p1 : Int32} (h : f_X3_letterAt S p1 = some r) : Met l yX3_letterAt (gws yX3_letterAt cX3_letterAt 3 (some .int)) (rmk 1) (va_Pc [.ref (ad 111), .int p1] (WU g A ad L S)) (qi g A ad L r S) 0 0 A :=
  g_met [.ref (ad 111), .int p1] (by decide) (Nat.le_of_ble_eq_true rfl) (fun p e s m below meth c ls C hW hl _ => t_X3_letterAt C hB h111 h hW va_S.rf hl)
theorem hv_X3_letterAt : yX3_letterAt.cls = RX3 ∧ yX3_letterAt.cls ≠ "java/lang/invoke/MethodHandle" ∧ yX3_letterAt.cls ≠ "java/lang/invoke/VarHandle" ∧ (parseMethodDescriptor yX3_letterAt.desc).map (fun d => d.parameters.length) = some 1 := by decide +kernel
/-! DroveRoads$Lexer.wordToken -/
def f_X3_wordToken_l16 (N : Nat) (v1 : Int32) (S : St) (k : Int32 → Option (Int32)) : Nat → Int32 → Option (Int32)
  | 0, _ => none
  | n + 1, v2 => if 8 ≤ v2 then (k v2) else (cl0 (f_X3_letterAt S v2) fun r_6 => cl0 (f_J0_charAt_5068e S 0 (v1 + v2)) fun r_8 => if r_6 = r_8 then (bn (v2 + 1) fun x_11 => f_X3_wordToken_l16 N v1 S k n x_11) else (k v2))
set_option maxHeartbeats 4000000 in
theorem t_X3_wordToken_l16 (C : MC p s m args meth c cX3_wordToken 3 (some .int) RX3 g A) (hB : Lk L) (h111 : 111 ∈ L) {v1 : Int32} {S : St} {r : Int32} {k : Int32 → Option (Int32)} (hk : ∀ (w2 : Int32), k w2 = some r → ∀ (H : Heap) (locs : List Loc) (ls : Array Slot), GW g A ad L S H → va_S A s.heap H locs → lv_has ls 3 [(0, .ref (ad 111)), (1, .int v1), (2, .int w2)] → W p l e (rmk 5) s m args below meth c H locs 0 0 (MQ below (qi g A ad L r S) args s 0 0 A) (F0 m 44 ls [])) : ∀ (n : Nat) (v2 : Int32), f_X3_wordToken_l16 N v1 S k n v2 = some r → ∀ (H : Heap) (locs : List Loc) (ls : Array Slot), GW g A ad L S H → va_S A s.heap H locs → lv_has ls 3 [(0, .ref (ad 111)), (1, .int v1), (2, .int v2)] → W p l e (rmk 5) s m args below meth c H locs 0 0 (MQ below (qi g A ad L r S) args s 0 0 A) (F0 m 16 ls []) := by
  obtain ⟨hx, hb, hml, hown, hts, hr, hlocks, hK, hN, hT⟩ := id C
  intro n
  induction n with
  | zero =>
    intro v2 h
    have h : (none : Option (Int32)) = some r := h
    cases h
  | succ n ih =>
    intro v2 h H locs ls hW hS hl
    rw [f_X3_wordToken_l16] at h
    refine lv_iload_n hx hb dX3_wordToken_16 rfl (lv_at hl 2 rfl) ?_
    refine lv_bipush (v := 8) hx hb dX3_wordToken_17 (by decide) ?_
    refine lv_icmp_ge (tgt := 44) hx hb dX3_wordToken_19 (by decide) (fun c_4 => ?_) (fun c_4 => ?_)
    · have h := it_t c_4 h
      exact hk _ h _ _ _ hW hS (lv_sub hl [0, 1, 2] rfl)
    · have h := it_f c_4 h
      refine lv_aload_n hx hb dX3_wordToken_22 rfl (lv_at hl 0 rfl) ?_
      refine lv_iload_n hx hb dX3_wordToken_23 rfl (lv_at hl 2 rfl) ?_
      obtain ⟨r_6, hc_5, h⟩ := cl0_ex h
      refine g_ci (g_runV (ci := 3) (o := 111) (As := [.int v2]) (rest := []) hx hb hml hown hts hK hN hT hS hW (c_X3_letterAt hB h111 hc_5) h111 kd_111 rfl (gw_V mw_528 mw_530 mw_7 mw_76 mw_531) hv_X3_letterAt rfl rfl rfl (rm_ok (by decide) (by decide)) hl.1 (Nat.le_of_ble_eq_true rfl) dX3_wordToken_24 rfl ⟨Nat.zero_le _, Nat.zero_le _⟩) hS (fun H locs hW hS => ?_)
      refine va_ldcS (q := g.2.2.2.2.2.1 0) hx hb hown hT.1 dX3_wordToken_27 ?_
      refine lv_iload_n hx hb dX3_wordToken_29 rfl (lv_at hl 1 rfl) ?_
      refine lv_iload_n hx hb dX3_wordToken_30 rfl (lv_at hl 2 rfl) ?_
      refine lv_iadd hx hb dX3_wordToken_31 ?_
      obtain ⟨r_8, hc_7, h⟩ := cl0_ex h
      refine g_cn (g_runVs (i := 0) (As := [.int (v1 + v2)]) (rest := [.int r_6]) hx hb hml hown hts hK hN hT hS hW (c_J0_charAt_5068e hB (by decide) hc_7) (by decide) (gw_V mw_532 mw_533 mw_534 mw_78 mw_535) hv_J0_charAt_5068e rfl rfl rfl (rm_ok (by decide) (by decide)) hl.1 (Nat.le_of_ble_eq_true rfl) dX3_wordToken_32 rfl ⟨Nat.zero_le _, Nat.zero_le _⟩) hS (fun hz_9 H locs hW hS => ?_)
      refine lv_icmp_ne (tgt := 44) hx hb dX3_wordToken_35 (by decide) (fun c_10 => ?_) (fun c_10 => ?_)
      · have h := it_f c_10 h
        exact hk _ h _ _ _ hW hS (lv_sub hl [0, 1, 2] rfl)
      · have h := it_t c_10 h
        obtain ⟨x_11, ex_11⟩ : ∃ z : Int32, z = v2 + 1 := ⟨_, rfl⟩
        have h := bn_at ex_11 h
        refine lv_iinc (v := x_11) (lv' := [(2, .int x_11), (0, .ref (ad 111)), (1, .int v1)]) hx hb dX3_wordToken_38 hl (k := 2) rfl (by rw [ex_11]; rfl) (by decide) rfl (fun ls hl => ?_)
        refine lv_goto (tgt := 16) hx hb dX3_wordToken_41 (by decide) ?_
        exact ih _ h _ _ _ hW hS (lv_sub hl [1, 2, 0] rfl)
def f_X3_wordToken_l2 (N : Nat) (S : St) (k : Option (Int32)) : Nat → Int32 → Option (Int32)
  | 0, _ => none
  | n + 1, v1 => cl0 (f_J0_length_8abf5 S 0) fun r_2 => if r_2 < (v1 + 8) then (k) else (f_X3_wordToken_l16 N v1 S (fun x_12 => if x_12 = 8 then (some (v1 / 8)) else (bn (v1 + 8) fun x_14 => f_X3_wordToken_l2 N S k n x_14)) N 0)
set_option maxHeartbeats 4000000 in
theorem t_X3_wordToken_l2 (C : MC p s m args meth c cX3_wordToken 3 (some .int) RX3 g A) (hB : Lk L) (h111 : 111 ∈ L) {S : St} {r : Int32} {k : Option (Int32)} (hk : k  = some r → ∀ (H : Heap) (locs : List Loc) (ls : Array Slot), GW g A ad L S H → va_S A s.heap H locs → lv_has ls 3 [] → W p l e (rmk 5) s m args below meth c H locs 0 0 (MQ below (qi g A ad L r S) args s 0 0 A) (F0 m 61 ls [])) : ∀ (n : Nat) (v1 : Int32), f_X3_wordToken_l2 N S k n v1 = some r → ∀ (H : Heap) (locs : List Loc) (ls : Array Slot), GW g A ad L S H → va_S A s.heap H locs → lv_has ls 3 [(0, .ref (ad 111)), (1, .int v1)] → W p l e (rmk 5) s m args below meth c H locs 0 0 (MQ below (qi g A ad L r S) args s 0 0 A) (F0 m 2 ls []) := by
  obtain ⟨hx, hb, hml, hown, hts, hr, hlocks, hK, hN, hT⟩ := id C
  intro n
  induction n with
  | zero =>
    intro v1 h
    have h : (none : Option (Int32)) = some r := h
    cases h
  | succ n ih =>
    intro v1 h H locs ls hW hS hl
    rw [f_X3_wordToken_l2] at h
    refine lv_iload_n hx hb dX3_wordToken_2 rfl (lv_at hl 1 rfl) ?_
    refine lv_bipush (v := 8) hx hb dX3_wordToken_3 (by decide) ?_
    refine lv_iadd hx hb dX3_wordToken_5 ?_
    refine va_ldcS (q := g.2.2.2.2.2.1 0) hx hb hown hT.1 dX3_wordToken_6 ?_
    obtain ⟨r_2, hc_1, h⟩ := cl0_ex h
    refine g_ci (g_runVs (i := 0) (As := []) (rest := [.int (v1 + 8)]) hx hb hml hown hts hK hN hT hS hW (c_J0_length_8abf5 hB (by decide) hc_1) (by decide) (gw_V mw_518 mw_519 mw_520 mw_78 mw_521) hv_J0_length_8abf5 rfl rfl rfl (rm_ok (by decide) (by decide)) hl.1 (Nat.le_of_ble_eq_true rfl) dX3_wordToken_8 rfl ⟨Nat.zero_le _, Nat.zero_le _⟩) hS (fun H locs hW hS => ?_)
    refine lv_icmp_gt (tgt := 61) hx hb dX3_wordToken_11 (by decide) (fun c_3 => ?_) (fun c_3 => ?_)
    · have h := it_t c_3 h
      exact hk  h _ _ _ hW hS (lv_sub hl [] rfl)
    · have h := it_f c_3 h
      refine lv_iconst (v := 0) hx hb dX3_wordToken_14 (by decide) ?_
      refine lv_istore_n (lv' := [(2, .int 0), (0, .ref (ad 111)), (1, .int v1)]) hx hb dX3_wordToken_15 rfl hl (by decide) rfl (fun ls hl => ?_)
      refine t_X3_wordToken_l16 C hB h111 ?_ _ _ h _ _ _ hW hS (lv_sub hl [1, 2, 0] rfl)
      intro x_12 h H locs ls hW hS hl
      refine lv_iload_n hx hb dX3_wordToken_44 rfl (lv_at hl 2 rfl) ?_
      refine lv_bipush (v := 8) hx hb dX3_wordToken_45 (by decide) ?_
      refine lv_icmp_ne (tgt := 55) hx hb dX3_wordToken_47 (by decide) (fun c_13 => ?_) (fun c_13 => ?_)
      · have h := it_f c_13 h
        obtain ⟨x_14, ex_14⟩ : ∃ z : Int32, z = v1 + 8 := ⟨_, rfl⟩
        have h := bn_at ex_14 h
        refine lv_iinc (v := x_14) (lv' := [(1, .int x_14), (0, .ref (ad 111)), (2, .int x_12)]) hx hb dX3_wordToken_55 hl (k := 1) rfl (by rw [ex_14]; rfl) (by decide) rfl (fun ls hl => ?_)
        refine lv_goto (tgt := 2) hx hb dX3_wordToken_58 (by decide) ?_
        exact ih _ h _ _ _ hW hS (lv_sub hl [1, 0] rfl)
      · have h := it_t c_13 h
        refine lv_iload_n hx hb dX3_wordToken_50 rfl (lv_at hl 1 rfl) ?_
        refine lv_bipush (v := 8) hx hb dX3_wordToken_51 (by decide) ?_
        refine lv_idiv hx hb dX3_wordToken_53 (by decide) ?_
        cases h
        exact g_iret hx hb hr hlocks hW hS dX3_wordToken_54
def f_X3_wordToken (N : Nat) (S : St) : Option (Int32) := f_X3_wordToken_l2 N S (some 26) N 0
set_option maxHeartbeats 4000000 in
theorem t_X3_wordToken (C : MC p s m args meth c cX3_wordToken 3 (some .int) RX3 g A) (hB : Lk L) (h111 : 111 ∈ L) {S : St} {r : Int32} (h : f_X3_wordToken N S = some r) {H : Heap} {locs : List Loc} {ls : Array Slot} (hW : GW g A ad L S H) (hS : va_S A s.heap H locs) (hl : lv_has ls 3 [(0, .ref (ad 111))]) : W p l e (rmk 5) s m args below meth c H locs 0 0 (MQ below (qi g A ad L r S) args s 0 0 A) (F0 m 0 ls []) := by
  obtain ⟨hx, hb, hml, hown, hts, hr, hlocks, hK, hN, hT⟩ := id C
  unfold f_X3_wordToken at h
  refine lv_iconst (v := 0) hx hb dX3_wordToken_0 (by decide) ?_
  refine lv_istore_n (lv' := [(1, .int 0), (0, .ref (ad 111))]) hx hb dX3_wordToken_1 rfl hl (by decide) rfl (fun ls hl => ?_)
  refine t_X3_wordToken_l2 C hB h111 ?_ _ _ h _ _ _ hW hS (lv_sub hl [1, 0] rfl)
  intro  h H locs ls hW hS hl
  refine lv_bipush (v := 26) hx hb dX3_wordToken_61 (by decide) ?_
  cases h
  exact g_iret hx hb hr hlocks hW hS dX3_wordToken_63
theorem c_X3_wordToken (hB : Lk L) (h111 : 111 ∈ L) {S : St} {r : Int32} (h : f_X3_wordToken N S = some r) : Met l yX3_wordToken (gws yX3_wordToken cX3_wordToken 3 (some .int)) (rmk 5) (va_Pc [.ref (ad 111)] (WU g A ad L S)) (qi g A ad L r S) 0 0 A :=
  g_met [.ref (ad 111)] (by decide) (Nat.le_of_ble_eq_true rfl) (fun p e s m below meth c ls C hW hl _ => t_X3_wordToken C hB h111 h hW va_S.rf hl)
theorem hv_X3_wordToken : yX3_wordToken.cls = RX3 ∧ yX3_wordToken.cls ≠ "java/lang/invoke/MethodHandle" ∧ yX3_wordToken.cls ≠ "java/lang/invoke/VarHandle" ∧ (parseMethodDescriptor yX3_wordToken.desc).map (fun d => d.parameters.length) = some 0 := by decide +kernel
/-! DroveRoads$Lexer.scanWord -/
def f_X3_scanWord_l0 (N : Nat) (k : St → Option (St)) : Nat → St → Option (St)
  | 0, _ => none
  | n + 1, S => if (gv S 111 4) ≤ (gv S 111 5) then (k S) else (cl0 (f_X3_byteAt S (gv S 111 5)) fun r_3 => cl0 (f_X3_isLetter S r_3) fun r_5 => if r_5 = 0 then (k S) else (bn (sv S 111 5 ((gv S 111 5) + 1)) fun S_8 => f_X3_scanWord_l0 N k n S_8))
set_option maxHeartbeats 4000000 in
theorem t_X3_scanWord_l0 (C : MC p s m args meth c cX3_scanWord 1 none RX3 g A) (hB : Lk L) (h111 : 111 ∈ L) {S9 : St} {k : St → Option (St)} (hk : ∀ (S : St), k S = some S9 → ∀ (H : Heap) (locs : List Loc) (ls : Array Slot), GW g A ad L S H → va_S A s.heap H locs → lv_has ls 1 [(0, .ref (ad 111))] → W p l e (rmk 6) s m args below meth c H locs 0 0 (MQ below (qv g A ad L S9) args s 0 0 A) (F0 m 38 ls [])) : ∀ (n : Nat) (S : St), f_X3_scanWord_l0 N k n S = some S9 → ∀ (H : Heap) (locs : List Loc) (ls : Array Slot), GW g A ad L S H → va_S A s.heap H locs → lv_has ls 1 [(0, .ref (ad 111))] → W p l e (rmk 6) s m args below meth c H locs 0 0 (MQ below (qv g A ad L S9) args s 0 0 A) (F0 m 0 ls []) := by
  obtain ⟨hx, hb, hml, hown, hts, hr, hlocks, hK, hN, hT⟩ := id C
  intro n
  induction n with
  | zero =>
    intro S h
    have h : (none : Option (St)) = some S9 := h
    cases h
  | succ n ih =>
    intro S h H locs ls hW hS hl
    rw [f_X3_scanWord_l0] at h
    refine lv_aload_n hx hb dX3_scanWord_0 rfl (lv_at hl 0 rfl) ?_
    refine g_get (C := RX3) (T := TX3) (N := 6) (ci := 3) hx hb hts inX3 hown hK hW h111 kd_111 rfl 5 (by decide) mw_455 rfl rfl dX3_scanWord_1 ?_
    refine lv_aload_n hx hb dX3_scanWord_4 rfl (lv_at hl 0 rfl) ?_
    refine g_get (C := RX3) (T := TX3) (N := 6) (ci := 3) hx hb hts inX3 hown hK hW h111 kd_111 rfl 4 (by decide) mw_454 rfl rfl dX3_scanWord_5 ?_
    refine lv_icmp_ge (tgt := 38) hx hb dX3_scanWord_8 (by decide) (fun c_1 => ?_) (fun c_1 => ?_)
    · have h := it_t c_1 h
      exact hk _ h _ _ _ hW hS (lv_sub hl [0] rfl)
    · have h := it_f c_1 h
      refine lv_aload_n hx hb dX3_scanWord_11 rfl (lv_at hl 0 rfl) ?_
      refine lv_aload_n hx hb dX3_scanWord_12 rfl (lv_at hl 0 rfl) ?_
      refine g_get (C := RX3) (T := TX3) (N := 6) (ci := 3) hx hb hts inX3 hown hK hW h111 kd_111 rfl 5 (by decide) mw_455 rfl rfl dX3_scanWord_13 ?_
      obtain ⟨r_3, hc_2, h⟩ := cl0_ex h
      refine g_ci (g_runV (ci := 3) (o := 111) (As := [.int (gv S 111 5)]) (rest := []) hx hb hml hown hts hK hN hT hS hW (c_X3_byteAt hB h111 hc_2) h111 kd_111 rfl (gw_V mw_499 mw_501 mw_4 mw_76 mw_502) hv_X3_byteAt rfl rfl rfl (rm_ok (by decide) (by decide)) hl.1 (Nat.le_of_ble_eq_true rfl) dX3_scanWord_16 rfl ⟨Nat.zero_le _, Nat.zero_le _⟩) hS (fun H locs hW hS => ?_)
      obtain ⟨r_5, hc_4, h⟩ := cl0_ex h
      refine g_cz (g_runS (As := [.int r_3]) (rest := []) hx hb hml hown hts hK hN hT hS hW (c_X3_isLetter hB h111 hc_4) (gw_S mw_506 mw_507 mw_76 mw_508) hs_X3_isLetter rfl rfl rfl (rm_ok (by decide) (by decide)) hl.1 (Nat.le_of_ble_eq_true rfl) dX3_scanWord_19 rfl ⟨Nat.zero_le _, Nat.zero_le _⟩) hS (fun hz_6 H locs hW hS => ?_)
      refine lv_if_eq (tgt := 38) hx hb dX3_scanWord_22 (by decide) (fun c_7 => ?_) (fun c_7 => ?_)
      · have h := it_t c_7 h
        exact hk _ h _ _ _ hW hS (lv_sub hl [0] rfl)
      · have h := it_f c_7 h
        refine lv_aload_n hx hb dX3_scanWord_25 rfl (lv_at hl 0 rfl) ?_
        refine lv_dup hx hb dX3_scanWord_26 rfl ?_
        refine g_get (C := RX3) (T := TX3) (N := 6) (ci := 3) hx hb hts inX3 hown hK hW h111 kd_111 rfl 5 (by decide) mw_455 rfl rfl dX3_scanWord_27 ?_
        refine lv_iconst (v := 1) hx hb dX3_scanWord_30 (by decide) ?_
        refine lv_iadd hx hb dX3_scanWord_31 ?_
        refine g_put (C := RX3) (T := TX3) (N := 6) (ci := 3) hx hb hts inX3 tyX3 tyX3_ok nmX3 hown hK hW hS h111 kd_111 rfl 5 (by decide) mw_455 rfl rfl rfl rfl (Nat.le_of_ble_eq_true rfl) (sv S 111 5 ((gv S 111 5) + 1)) (ps_111_5) cellOf_sv dX3_scanWord_32 (fun S_8 eS_8 H locs hW hS => ?_)
        have h := bn_at eS_8 h
        refine lv_goto (tgt := 0) hx hb dX3_scanWord_35 (by decide) ?_
        exact ih _ h _ _ _ hW hS (lv_sub hl [0] rfl)
def f_X3_scanWord (N : Nat) (S : St) : Option (St) := f_X3_scanWord_l0 N (fun S_9 => if ((gv S_9 111 5) - (gv S_9 111 1)) ≤ 8 then (cl0 (f_X3_wordToken N S_9) fun r_12 => bn (sv S_9 111 0 r_12) fun S_13 => some S_13) else (bn (sv S_9 111 0 28) fun S_14 => some S_14)) N S
set_option maxHeartbeats 4000000 in
theorem t_X3_scanWord (C : MC p s m args meth c cX3_scanWord 1 none RX3 g A) (hB : Lk L) (h111 : 111 ∈ L) {S : St} {S9 : St} (h : f_X3_scanWord N S = some S9) {H : Heap} {locs : List Loc} {ls : Array Slot} (hW : GW g A ad L S H) (hS : va_S A s.heap H locs) (hl : lv_has ls 1 [(0, .ref (ad 111))]) : W p l e (rmk 6) s m args below meth c H locs 0 0 (MQ below (qv g A ad L S9) args s 0 0 A) (F0 m 0 ls []) := by
  obtain ⟨hx, hb, hml, hown, hts, hr, hlocks, hK, hN, hT⟩ := id C
  unfold f_X3_scanWord at h
  refine t_X3_scanWord_l0 C hB h111 ?_ _ _ h _ _ _ hW hS (lv_sub hl [0] rfl)
  intro S_9 h H locs ls hW hS hl
  refine lv_aload_n hx hb dX3_scanWord_38 rfl (lv_at hl 0 rfl) ?_
  refine lv_aload_n hx hb dX3_scanWord_39 rfl (lv_at hl 0 rfl) ?_
  refine g_get (C := RX3) (T := TX3) (N := 6) (ci := 3) hx hb hts inX3 hown hK hW h111 kd_111 rfl 5 (by decide) mw_455 rfl rfl dX3_scanWord_40 ?_
  refine lv_aload_n hx hb dX3_scanWord_43 rfl (lv_at hl 0 rfl) ?_
  refine g_get (C := RX3) (T := TX3) (N := 6) (ci := 3) hx hb hts inX3 hown hK hW h111 kd_111 rfl 1 (by decide) mw_449 rfl rfl dX3_scanWord_44 ?_
  refine lv_isub hx hb dX3_scanWord_47 ?_
  refine lv_bipush (v := 8) hx hb dX3_scanWord_48 (by decide) ?_
  refine lv_icmp_le (tgt := 58) hx hb dX3_scanWord_50 (by decide) (fun c_10 => ?_) (fun c_10 => ?_)
  · have h := it_t c_10 h
    refine lv_aload_n hx hb dX3_scanWord_58 rfl (lv_at hl 0 rfl) ?_
    obtain ⟨r_12, hc_11, h⟩ := cl0_ex h
    refine g_ci (g_runV (ci := 3) (o := 111) (As := []) (rest := [.ref (ad 111)]) hx hb hml hown hts hK hN hT hS hW (c_X3_wordToken hB h111 hc_11) h111 kd_111 rfl (gw_V mw_513 mw_515 mw_6 mw_76 mw_516) hv_X3_wordToken rfl rfl rfl (rm_ok (by decide) (by decide)) hl.1 (Nat.le_of_ble_eq_true rfl) dX3_scanWord_59 rfl ⟨Nat.zero_le _, Nat.zero_le _⟩) hS (fun H locs hW hS => ?_)
    refine g_put (C := RX3) (T := TX3) (N := 6) (ci := 3) hx hb hts inX3 tyX3 tyX3_ok nmX3 hown hK hW hS h111 kd_111 rfl 0 (by decide) mw_447 rfl rfl rfl rfl (Nat.le_of_ble_eq_true rfl) (sv S_9 111 0 r_12) (ps_111_0) cellOf_sv dX3_scanWord_62 (fun S_13 eS_13 H locs hW hS => ?_)
    have h := bn_at eS_13 h
    cases h
    exact g_vret hx hb hr hlocks hW hS dX3_scanWord_65
  · have h := it_f c_10 h
    refine lv_bipush (v := 28) hx hb dX3_scanWord_53 (by decide) ?_
    refine lv_goto (tgt := 62) hx hb dX3_scanWord_55 (by decide) ?_
    refine g_put (C := RX3) (T := TX3) (N := 6) (ci := 3) hx hb hts inX3 tyX3 tyX3_ok nmX3 hown hK hW hS h111 kd_111 rfl 0 (by decide) mw_447 rfl rfl rfl rfl (Nat.le_of_ble_eq_true rfl) (sv S_9 111 0 28) (ps_111_0) cellOf_sv dX3_scanWord_62 (fun S_14 eS_14 H locs hW hS => ?_)
    have h := bn_at eS_14 h
    cases h
    exact g_vret hx hb hr hlocks hW hS dX3_scanWord_65
theorem c_X3_scanWord (hB : Lk L) (h111 : 111 ∈ L) {S : St} {S9 : St} (h : f_X3_scanWord N S = some S9) : Met l yX3_scanWord (gws yX3_scanWord cX3_scanWord 1 none) (rmk 6) (va_Pc [.ref (ad 111)] (WU g A ad L S)) (qv g A ad L S9) 0 0 A :=
  g_met [.ref (ad 111)] (by decide) (Nat.le_of_ble_eq_true rfl) (fun p e s m below meth c ls C hW hl _ => t_X3_scanWord C hB h111 h hW va_S.rf hl)
theorem hv_X3_scanWord : yX3_scanWord.cls = RX3 ∧ yX3_scanWord.cls ≠ "java/lang/invoke/MethodHandle" ∧ yX3_scanWord.cls ≠ "java/lang/invoke/VarHandle" ∧ (parseMethodDescriptor yX3_scanWord.desc).map (fun d => d.parameters.length) = some 0 := by decide +kernel
/-! DroveRoads$Lexer.advance -/
def f_X3_advance_l0 (N : Nat) (k : St → Option (St)) : Nat → St → Option (St)
  | 0, _ => none
  | n + 1, S => if (gv S 111 4) ≤ (gv S 111 5) then (k S) else (cl0 (f_X3_byteAt S (gv S 111 5)) fun r_3 => cl0 (f_X3_isBlank S r_3) fun r_5 => if r_5 = 0 then (k S) else (bn (sv S 111 5 ((gv S 111 5) + 1)) fun S_8 => f_X3_advance_l0 N k n S_8))
set_option maxHeartbeats 4000000 in
theorem t_X3_advance_l0 (C : MC p s m args meth c cX3_advance 2 none RX3 g A) (hB : Lk L) (h111 : 111 ∈ L) {S9 : St} {k : St → Option (St)} (hk : ∀ (S : St), k S = some S9 → ∀ (H : Heap) (locs : List Loc) (ls : Array Slot), GW g A ad L S H → va_S A s.heap H locs → lv_has ls 2 [(0, .ref (ad 111))] → W p l e (rmk 7) s m args below meth c H locs 0 0 (MQ below (qv g A ad L S9) args s 0 0 A) (F0 m 38 ls [])) : ∀ (n : Nat) (S : St), f_X3_advance_l0 N k n S = some S9 → ∀ (H : Heap) (locs : List Loc) (ls : Array Slot), GW g A ad L S H → va_S A s.heap H locs → lv_has ls 2 [(0, .ref (ad 111))] → W p l e (rmk 7) s m args below meth c H locs 0 0 (MQ below (qv g A ad L S9) args s 0 0 A) (F0 m 0 ls []) := by
  obtain ⟨hx, hb, hml, hown, hts, hr, hlocks, hK, hN, hT⟩ := id C
  intro n
  induction n with
  | zero =>
    intro S h
    have h : (none : Option (St)) = some S9 := h
    cases h
  | succ n ih =>
    intro S h H locs ls hW hS hl
    rw [f_X3_advance_l0] at h
    refine lv_aload_n hx hb dX3_advance_0 rfl (lv_at hl 0 rfl) ?_
    refine g_get (C := RX3) (T := TX3) (N := 6) (ci := 3) hx hb hts inX3 hown hK hW h111 kd_111 rfl 5 (by decide) mw_455 rfl rfl dX3_advance_1 ?_
    refine lv_aload_n hx hb dX3_advance_4 rfl (lv_at hl 0 rfl) ?_
    refine g_get (C := RX3) (T := TX3) (N := 6) (ci := 3) hx hb hts inX3 hown hK hW h111 kd_111 rfl 4 (by decide) mw_454 rfl rfl dX3_advance_5 ?_
    refine lv_icmp_ge (tgt := 38) hx hb dX3_advance_8 (by decide) (fun c_1 => ?_) (fun c_1 => ?_)
    · have h := it_t c_1 h
      exact hk _ h _ _ _ hW hS (lv_sub hl [0] rfl)
    · have h := it_f c_1 h
      refine lv_aload_n hx hb dX3_advance_11 rfl (lv_at hl 0 rfl) ?_
      refine lv_aload_n hx hb dX3_advance_12 rfl (lv_at hl 0 rfl) ?_
      refine g_get (C := RX3) (T := TX3) (N := 6) (ci := 3) hx hb hts inX3 hown hK hW h111 kd_111 rfl 5 (by decide) mw_455 rfl rfl dX3_advance_13 ?_
      obtain ⟨r_3, hc_2, h⟩ := cl0_ex h
      refine g_ci (g_runV (ci := 3) (o := 111) (As := [.int (gv S 111 5)]) (rest := []) hx hb hml hown hts hK hN hT hS hW (c_X3_byteAt hB h111 hc_2) h111 kd_111 rfl (gw_V mw_499 mw_501 mw_4 mw_76 mw_502) hv_X3_byteAt rfl rfl rfl (rm_ok (by decide) (by decide)) hl.1 (Nat.le_of_ble_eq_true rfl) dX3_advance_16 rfl ⟨Nat.zero_le _, Nat.zero_le _⟩) hS (fun H locs hW hS => ?_)
      obtain ⟨r_5, hc_4, h⟩ := cl0_ex h
      refine g_cz (g_runS (As := [.int r_3]) (rest := []) hx hb hml hown hts hK hN hT hS hW (c_X3_isBlank hB h111 hc_4) (gw_S mw_503 mw_504 mw_76 mw_505) hs_X3_isBlank rfl rfl rfl (rm_ok (by decide) (by decide)) hl.1 (Nat.le_of_ble_eq_true rfl) dX3_advance_19 rfl ⟨Nat.zero_le _, Nat.zero_le _⟩) hS (fun hz_6 H locs hW hS => ?_)
      refine lv_if_eq (tgt := 38) hx hb dX3_advance_22 (by decide) (fun c_7 => ?_) (fun c_7 => ?_)
      · have h := it_t c_7 h
        exact hk _ h _ _ _ hW hS (lv_sub hl [0] rfl)
      · have h := it_f c_7 h
        refine lv_aload_n hx hb dX3_advance_25 rfl (lv_at hl 0 rfl) ?_
        refine lv_dup hx hb dX3_advance_26 rfl ?_
        refine g_get (C := RX3) (T := TX3) (N := 6) (ci := 3) hx hb hts inX3 hown hK hW h111 kd_111 rfl 5 (by decide) mw_455 rfl rfl dX3_advance_27 ?_
        refine lv_iconst (v := 1) hx hb dX3_advance_30 (by decide) ?_
        refine lv_iadd hx hb dX3_advance_31 ?_
        refine g_put (C := RX3) (T := TX3) (N := 6) (ci := 3) hx hb hts inX3 tyX3 tyX3_ok nmX3 hown hK hW hS h111 kd_111 rfl 5 (by decide) mw_455 rfl rfl rfl rfl (Nat.le_of_ble_eq_true rfl) (sv S 111 5 ((gv S 111 5) + 1)) (ps_111_5) cellOf_sv dX3_advance_32 (fun S_8 eS_8 H locs hW hS => ?_)
        have h := bn_at eS_8 h
        refine lv_goto (tgt := 0) hx hb dX3_advance_35 (by decide) ?_
        exact ih _ h _ _ _ hW hS (lv_sub hl [0] rfl)
def f_X3_advance_j38 (N : Nat) (S : St) : Option (St) := bn (sv S 111 1 (gv S 111 5)) fun S_10 => cl0 (f_X3_byteAt S_10 (gv S_10 111 5)) fun r_12 => if (gv S_10 111 5) < (gv S_10 111 4) then (cl0 (f_X3_isLetter S_10 r_12) fun r_15 => if r_15 = 0 then (cl0 (f_X3_isDigit S_10 r_12) fun r_19 => if r_19 = 0 then (cl0 (f_X3_scanSign N S_10 ((r_12.toUInt32 % 65536).toInt32)) fun S_23 => some S_23) else (cl0 (f_X3_scanNumber N S_10) fun S_25 => some S_25)) else (cl0 (f_X3_scanWord N S_10) fun S_27 => some S_27)) else (bn (sv S_10 111 0 27) fun S_28 => some S_28)
set_option maxHeartbeats 4000000 in
theorem t_X3_advance_j38 (C : MC p s m args meth c cX3_advance 2 none RX3 g A) (hB : Lk L) (h111 : 111 ∈ L) {S : St} {S9 : St} (h : f_X3_advance_j38 N S = some S9) {H : Heap} {locs : List Loc} {ls : Array Slot} (hW : GW g A ad L S H) (hS : va_S A s.heap H locs) (hl : lv_has ls 2 [(0, .ref (ad 111))]) : W p l e (rmk 7) s m args below meth c H locs 0 0 (MQ below (qv g A ad L S9) args s 0 0 A) (F0 m 38 ls []) := by
  obtain ⟨hx, hb, hml, hown, hts, hr, hlocks, hK, hN, hT⟩ := id C
  unfold f_X3_advance_j38 at h
  refine lv_aload_n hx hb dX3_advance_38 rfl (lv_at hl 0 rfl) ?_
  refine lv_aload_n hx hb dX3_advance_39 rfl (lv_at hl 0 rfl) ?_
  refine g_get (C := RX3) (T := TX3) (N := 6) (ci := 3) hx hb hts inX3 hown hK hW h111 kd_111 rfl 5 (by decide) mw_455 rfl rfl dX3_advance_40 ?_
  refine g_put (C := RX3) (T := TX3) (N := 6) (ci := 3) hx hb hts inX3 tyX3 tyX3_ok nmX3 hown hK hW hS h111 kd_111 rfl 1 (by decide) mw_449 rfl rfl rfl rfl (Nat.le_of_ble_eq_true rfl) (sv S 111 1 (gv S 111 5)) (ps_111_1) cellOf_sv dX3_advance_43 (fun S_10 eS_10 H locs hW hS => ?_)
  have h := bn_at eS_10 h
  refine lv_aload_n hx hb dX3_advance_46 rfl (lv_at hl 0 rfl) ?_
  refine lv_aload_n hx hb dX3_advance_47 rfl (lv_at hl 0 rfl) ?_
  refine g_get (C := RX3) (T := TX3) (N := 6) (ci := 3) hx hb hts inX3 hown hK hW h111 kd_111 rfl 5 (by decide) mw_455 rfl rfl dX3_advance_48 ?_
  obtain ⟨r_12, hc_11, h⟩ := cl0_ex h
  refine g_ci (g_runV (ci := 3) (o := 111) (As := [.int (gv S_10 111 5)]) (rest := []) hx hb hml hown hts hK hN hT hS hW (c_X3_byteAt hB h111 hc_11) h111 kd_111 rfl (gw_V mw_499 mw_501 mw_4 mw_76 mw_502) hv_X3_byteAt rfl rfl rfl (rm_ok (by decide) (by decide)) hl.1 (Nat.le_of_ble_eq_true rfl) dX3_advance_51 rfl ⟨Nat.zero_le _, Nat.zero_le _⟩) hS (fun H locs hW hS => ?_)
  refine lv_istore_n (lv' := [(1, .int r_12), (0, .ref (ad 111))]) hx hb dX3_advance_54 rfl hl (by decide) rfl (fun ls hl => ?_)
  refine lv_aload_n hx hb dX3_advance_55 rfl (lv_at hl 1 rfl) ?_
  refine g_get (C := RX3) (T := TX3) (N := 6) (ci := 3) hx hb hts inX3 hown hK hW h111 kd_111 rfl 5 (by decide) mw_455 rfl rfl dX3_advance_56 ?_
  refine lv_aload_n hx hb dX3_advance_59 rfl (lv_at hl 1 rfl) ?_
  refine g_get (C := RX3) (T := TX3) (N := 6) (ci := 3) hx hb hts inX3 hown hK hW h111 kd_111 rfl 4 (by decide) mw_454 rfl rfl dX3_advance_60 ?_
  refine lv_icmp_lt (tgt := 75) hx hb dX3_advance_63 (by decide) (fun c_13 => ?_) (fun c_13 => ?_)
  · have h := it_t c_13 h
    refine lv_iload_n hx hb dX3_advance_75 rfl (lv_at hl 0 rfl) ?_
    obtain ⟨r_15, hc_14, h⟩ := cl0_ex h
    refine g_cz (g_runS (As := [.int r_12]) (rest := []) hx hb hml hown hts hK hN hT hS hW (c_X3_isLetter hB h111 hc_14) (gw_S mw_506 mw_507 mw_76 mw_508) hs_X3_isLetter rfl rfl rfl (rm_ok (by decide) (by decide)) hl.1 (Nat.le_of_ble_eq_true rfl) dX3_advance_76 rfl ⟨Nat.zero_le _, Nat.zero_le _⟩) hS (fun hz_16 H locs hW hS => ?_)
    refine lv_if_eq (tgt := 89) hx hb dX3_advance_79 (by decide) (fun c_17 => ?_) (fun c_17 => ?_)
    · have h := it_t c_17 h
      refine lv_iload_n hx hb dX3_advance_89 rfl (lv_at hl 0 rfl) ?_
      obtain ⟨r_19, hc_18, h⟩ := cl0_ex h
      refine g_cz (g_runS (As := [.int r_12]) (rest := []) hx hb hml hown hts hK hN hT hS hW (c_X3_isDigit hB h111 hc_18) (gw_S mw_570 mw_571 mw_76 mw_572) hs_X3_isDigit rfl rfl rfl (rm_ok (by decide) (by decide)) hl.1 (Nat.le_of_ble_eq_true rfl) dX3_advance_90 rfl ⟨Nat.zero_le _, Nat.zero_le _⟩) hS (fun hz_20 H locs hW hS => ?_)
      refine lv_if_eq (tgt := 103) hx hb dX3_advance_93 (by decide) (fun c_21 => ?_) (fun c_21 => ?_)
      · have h := it_t c_21 h
        refine lv_aload_n hx hb dX3_advance_103 rfl (lv_at hl 1 rfl) ?_
        refine lv_iload_n hx hb dX3_advance_104 rfl (lv_at hl 0 rfl) ?_
        refine lv_i2c hx hb dX3_advance_105 rfl ?_
        obtain ⟨S_23, hc_22, h⟩ := cl0_ex h
        refine g_cv (g_runV (ci := 3) (o := 111) (As := [.int ((r_12.toUInt32 % 65536).toInt32)]) (rest := []) hx hb hml hown hts hK hN hT hS hW (c_X3_scanSign hB h111 hc_22) h111 kd_111 rfl (gw_V mw_577 mw_579 mw_9 mw_76 mw_580) hv_X3_scanSign rfl rfl rfl (rm_ok (by decide) (by decide)) hl.1 (Nat.le_of_ble_eq_true rfl) dX3_advance_106 rfl ⟨Nat.zero_le _, Nat.zero_le _⟩) hS (fun H locs hW hS => ?_)
        cases h
        exact g_vret hx hb hr hlocks hW hS dX3_advance_109
      · have h := it_f c_21 h
        refine lv_aload_n hx hb dX3_advance_96 rfl (lv_at hl 1 rfl) ?_
        obtain ⟨S_25, hc_24, h⟩ := cl0_ex h
        refine g_cv (g_runV (ci := 3) (o := 111) (As := []) (rest := []) hx hb hml hown hts hK hN hT hS hW (c_X3_scanNumber hB h111 hc_24) h111 kd_111 rfl (gw_V mw_573 mw_575 mw_8 mw_76 mw_576) hv_X3_scanNumber rfl rfl rfl (rm_ok (by decide) (by decide)) hl.1 (Nat.le_of_ble_eq_true rfl) dX3_advance_97 rfl ⟨Nat.zero_le _, Nat.zero_le _⟩) hS (fun H locs hW hS => ?_)
        refine lv_goto (tgt := 109) hx hb dX3_advance_100 (by decide) ?_
        cases h
        exact g_vret hx hb hr hlocks hW hS dX3_advance_109
    · have h := it_f c_17 h
      refine lv_aload_n hx hb dX3_advance_82 rfl (lv_at hl 1 rfl) ?_
      obtain ⟨S_27, hc_26, h⟩ := cl0_ex h
      refine g_cv (g_runV (ci := 3) (o := 111) (As := []) (rest := []) hx hb hml hown hts hK hN hT hS hW (c_X3_scanWord hB h111 hc_26) h111 kd_111 rfl (gw_V mw_509 mw_511 mw_5 mw_76 mw_512) hv_X3_scanWord rfl rfl rfl (rm_ok (by decide) (by decide)) hl.1 (Nat.le_of_ble_eq_true rfl) dX3_advance_83 rfl ⟨Nat.zero_le _, Nat.zero_le _⟩) hS (fun H locs hW hS => ?_)
      refine lv_goto (tgt := 109) hx hb dX3_advance_86 (by decide) ?_
      cases h
      exact g_vret hx hb hr hlocks hW hS dX3_advance_109
  · have h := it_f c_13 h
    refine lv_aload_n hx hb dX3_advance_66 rfl (lv_at hl 1 rfl) ?_
    refine lv_bipush (v := 27) hx hb dX3_advance_67 (by decide) ?_
    refine g_put (C := RX3) (T := TX3) (N := 6) (ci := 3) hx hb hts inX3 tyX3 tyX3_ok nmX3 hown hK hW hS h111 kd_111 rfl 0 (by decide) mw_447 rfl rfl rfl rfl (Nat.le_of_ble_eq_true rfl) (sv S_10 111 0 27) (ps_111_0) cellOf_sv dX3_advance_69 (fun S_28 eS_28 H locs hW hS => ?_)
    have h := bn_at eS_28 h
    refine lv_goto (tgt := 109) hx hb dX3_advance_72 (by decide) ?_
    cases h
    exact g_vret hx hb hr hlocks hW hS dX3_advance_109
def f_X3_advance (N : Nat) (S : St) : Option (St) := f_X3_advance_l0 N (fun S_9 => f_X3_advance_j38 N S_9) N S
set_option maxHeartbeats 4000000 in
theorem t_X3_advance (C : MC p s m args meth c cX3_advance 2 none RX3 g A) (hB : Lk L) (h111 : 111 ∈ L) {S : St} {S9 : St} (h : f_X3_advance N S = some S9) {H : Heap} {locs : List Loc} {ls : Array Slot} (hW : GW g A ad L S H) (hS : va_S A s.heap H locs) (hl : lv_has ls 2 [(0, .ref (ad 111))]) : W p l e (rmk 7) s m args below meth c H locs 0 0 (MQ below (qv g A ad L S9) args s 0 0 A) (F0 m 0 ls []) := by
  obtain ⟨hx, hb, hml, hown, hts, hr, hlocks, hK, hN, hT⟩ := id C
  unfold f_X3_advance at h
  refine t_X3_advance_l0 C hB h111 ?_ _ _ h _ _ _ hW hS (lv_sub hl [0] rfl)
  intro S_9 h H locs ls hW hS hl
  exact t_X3_advance_j38 C hB h111 h hW hS (lv_sub hl [0] rfl)
theorem c_X3_advance (hB : Lk L) (h111 : 111 ∈ L) {S : St} {S9 : St} (h : f_X3_advance N S = some S9) : Met l yX3_advance (gws yX3_advance cX3_advance 2 none) (rmk 7) (va_Pc [.ref (ad 111)] (WU g A ad L S)) (qv g A ad L S9) 0 0 A :=
  g_met [.ref (ad 111)] (by decide) (Nat.le_of_ble_eq_true rfl) (fun p e s m below meth c ls C hW hl _ => t_X3_advance C hB h111 h hW va_S.rf hl)
theorem hv_X3_advance : yX3_advance.cls = RX3 ∧ yX3_advance.cls ≠ "java/lang/invoke/MethodHandle" ∧ yX3_advance.cls ≠ "java/lang/invoke/VarHandle" ∧ (parseMethodDescriptor yX3_advance.desc).map (fun d => d.parameters.length) = some 0 := by decide +kernel
end S31
