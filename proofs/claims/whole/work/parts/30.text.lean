section S30
variable {p : Program} {l : Launch} {e : Env} {s : State} {m : MethodId} {args : Array Value} {below : List Frame} {meth : Method} {c : Code} {A : Nat → Prop} {g : Cx} {ad : Nat → Nat} {L : List Nat} {N : Nat} {q0 : Nat}
/-! java/lang/String.coder()B -/
def f_J0_coder_7d493 (S : St) (i : Nat) : Option (Int32) := some 0
set_option maxHeartbeats 4000000 in
theorem t_J0_coder_7d493 (C : MC p s m args meth c cJ0_coder_7d493 1 (some .byte) RJ0 g A) (hB : Lk L) {i : Nat} (h_i : i < 2) {S : St} {r : Int32} (h : f_J0_coder_7d493 S i = some r) {H : Heap} {locs : List Loc} {ls : Array Slot} (hW : GW g A ad L S H) (hS : va_S A s.heap H locs) (hl : lv_has ls 1 [(0, .ref (g.2.2.2.2.2.1 i))]) : W p l e (rmk 1) s m args below meth c H locs 0 0 (MQ below (qn .byte g A ad L r S) args s 0 0 A) (F0 m 0 ls []) := by
  obtain ⟨hx, hb, hml, hown, hts, hr, hlocks, hK, hN, hT⟩ := id C
  unfold f_J0_coder_7d493 at h
  refine va_gets hx hb hT.2.2.2.1 hS hown (hts _ mw_526) (fun _ h9 => h9) dJ0_coder_7d493_0 ?_
  refine lv_if_eq (tgt := 13) hx hb dJ0_coder_7d493_3 (by decide) (fun c9 => absurd c9 (by decide)) (fun _ => ?_)
  refine lv_aload_n hx hb dJ0_coder_7d493_6 rfl (lv_at hl 0 rfl) ?_
  refine vk_getf (v := .int 0) hx hb (hT.2.2.1.1 i h_i).2.1 hS hown (hts _ mw_1418) (fun _ h9 => h9) dJ0_coder_7d493_7 ?_
  refine lv_goto (tgt := 14) hx hb dJ0_coder_7d493_10 (by decide) ?_
  cases h
  exact g_nret hx hb hr hlocks hW hS (rfl) dJ0_coder_7d493_14
theorem c_J0_coder_7d493 (hB : Lk L) {i : Nat} (h_i : i < 2) {S : St} {r : Int32} (h : f_J0_coder_7d493 S i = some r) : Met l yJ0_coder_7d493 (gws yJ0_coder_7d493 cJ0_coder_7d493 1 (some .byte)) (rmk 1) (va_Pc [.ref (g.2.2.2.2.2.1 i)] (WU g A ad L S)) (qn .byte g A ad L r S) 0 0 A :=
  g_met [.ref (g.2.2.2.2.2.1 i)] (by decide) (Nat.le_of_ble_eq_true rfl) (fun p e s m below meth c ls C hW hl _ => t_J0_coder_7d493 C hB h_i h hW va_S.rf hl)
theorem hv_J0_coder_7d493 : yJ0_coder_7d493.cls = RJ0 ∧ yJ0_coder_7d493.cls ≠ "java/lang/invoke/MethodHandle" ∧ yJ0_coder_7d493.cls ≠ "java/lang/invoke/VarHandle" ∧ (parseMethodDescriptor yJ0_coder_7d493.desc).map (fun d => d.parameters.length) = some 0 := by decide +kernel
/-! java/lang/String.length()I -/
def f_J0_length_8abf5 (S : St) (i : Nat) : Option (Int32) := some ((swL i) >>> (0 &&& 31))
set_option maxHeartbeats 4000000 in
theorem t_J0_length_8abf5 (C : MC p s m args meth c cJ0_length_8abf5 1 (some .int) RJ0 g A) (hB : Lk L) {i : Nat} (h_i : i < 2) {S : St} {r : Int32} (h : f_J0_length_8abf5 S i = some r) {H : Heap} {locs : List Loc} {ls : Array Slot} (hW : GW g A ad L S H) (hS : va_S A s.heap H locs) (hl : lv_has ls 1 [(0, .ref (g.2.2.2.2.2.1 i))]) : W p l e (rmk 2) s m args below meth c H locs 0 0 (MQ below (qi g A ad L r S) args s 0 0 A) (F0 m 0 ls []) := by
  obtain ⟨hx, hb, hml, hown, hts, hr, hlocks, hK, hN, hT⟩ := id C
  unfold f_J0_length_8abf5 at h
  refine lv_aload_n hx hb dJ0_length_8abf5_0 rfl (lv_at hl 0 rfl) ?_
  refine vk_getf (v := .ref (g.2.2.2.2.2.2 i)) hx hb (hT.2.2.1.1 i h_i).2.2.1 hS hown (hts _ mw_1417) (fun _ h9 => h9) dJ0_length_8abf5_1 ?_
  refine va_tlen (v := swL i) hx hb (hT.2.2.1.1 i h_i).2.2.2 hS rfl dJ0_length_8abf5_4 ?_
  refine lv_aload_n hx hb dJ0_length_8abf5_5 rfl (lv_at hl 0 rfl) ?_
  refine g_cn (g_runVs (i := i) (As := []) (rest := [.int (swL i)]) hx hb hml hown hts hK hN hT hS hW (c_J0_coder_7d493 hB h_i rfl) h_i (gw_V mw_522 mw_523 mw_524 mw_78 mw_525) hv_J0_coder_7d493 rfl rfl rfl (rm_ok (by decide) (by decide)) hl.1 (Nat.le_of_ble_eq_true rfl) dJ0_length_8abf5_6 rfl ⟨Nat.zero_le _, Nat.zero_le _⟩) hS (fun hz_2 H locs hW hS => ?_)
  refine lv_ishr hx hb dJ0_length_8abf5_9 ?_
  cases h
  exact g_iret hx hb hr hlocks hW hS dJ0_length_8abf5_10
theorem c_J0_length_8abf5 (hB : Lk L) {i : Nat} (h_i : i < 2) {S : St} {r : Int32} (h : f_J0_length_8abf5 S i = some r) : Met l yJ0_length_8abf5 (gws yJ0_length_8abf5 cJ0_length_8abf5 1 (some .int)) (rmk 2) (va_Pc [.ref (g.2.2.2.2.2.1 i)] (WU g A ad L S)) (qi g A ad L r S) 0 0 A :=
  g_met [.ref (g.2.2.2.2.2.1 i)] (by decide) (Nat.le_of_ble_eq_true rfl) (fun p e s m below meth c ls C hW hl _ => t_J0_length_8abf5 C hB h_i h hW va_S.rf hl)
theorem hv_J0_length_8abf5 : yJ0_length_8abf5.cls = RJ0 ∧ yJ0_length_8abf5.cls ≠ "java/lang/invoke/MethodHandle" ∧ yJ0_length_8abf5.cls ≠ "java/lang/invoke/VarHandle" ∧ (parseMethodDescriptor yJ0_length_8abf5.desc).map (fun d => d.parameters.length) = some 0 := by decide +kernel
/-! java/lang/String.isLatin1()Z -/
def f_J0_isLatin1_aae02 (S : St) (i : Nat) : Option (Int32) := some 1
set_option maxHeartbeats 4000000 in
theorem t_J0_isLatin1_aae02 (C : MC p s m args meth c cJ0_isLatin1_aae02 1 (some .boolean) RJ0 g A) (hB : Lk L) {i : Nat} (h_i : i < 2) {S : St} {r : Int32} (h : f_J0_isLatin1_aae02 S i = some r) {H : Heap} {locs : List Loc} {ls : Array Slot} (hW : GW g A ad L S H) (hS : va_S A s.heap H locs) (hl : lv_has ls 1 [(0, .ref (g.2.2.2.2.2.1 i))]) : W p l e (rmk 1) s m args below meth c H locs 0 0 (MQ below (qz g A ad L r S) args s 0 0 A) (F0 m 0 ls []) := by
  obtain ⟨hx, hb, hml, hown, hts, hr, hlocks, hK, hN, hT⟩ := id C
  unfold f_J0_isLatin1_aae02 at h
  refine va_gets hx hb hT.2.2.2.1 hS hown (hts _ mw_526) (fun _ h9 => h9) dJ0_isLatin1_aae02_0 ?_
  refine lv_if_eq (tgt := 17) hx hb dJ0_isLatin1_aae02_3 (by decide) (fun c9 => absurd c9 (by decide)) (fun _ => ?_)
  refine lv_aload_n hx hb dJ0_isLatin1_aae02_6 rfl (lv_at hl 0 rfl) ?_
  refine vk_getf (v := .int 0) hx hb (hT.2.2.1.1 i h_i).2.1 hS hown (hts _ mw_1418) (fun _ h9 => h9) dJ0_isLatin1_aae02_7 ?_
  refine lv_if_ne (tgt := 17) hx hb dJ0_isLatin1_aae02_10 (by decide) (fun c9 => absurd c9 (by decide)) (fun _ => ?_)
  refine lv_iconst (v := 1) hx hb dJ0_isLatin1_aae02_13 (by decide) ?_
  refine lv_goto (tgt := 18) hx hb dJ0_isLatin1_aae02_14 (by decide) ?_
  cases h
  exact g_zret hx hb hr hlocks hW hS (rfl) dJ0_isLatin1_aae02_18
theorem c_J0_isLatin1_aae02 (hB : Lk L) {i : Nat} (h_i : i < 2) {S : St} {r : Int32} (h : f_J0_isLatin1_aae02 S i = some r) : Met l yJ0_isLatin1_aae02 (gws yJ0_isLatin1_aae02 cJ0_isLatin1_aae02 1 (some .boolean)) (rmk 1) (va_Pc [.ref (g.2.2.2.2.2.1 i)] (WU g A ad L S)) (qz g A ad L r S) 0 0 A :=
  g_met [.ref (g.2.2.2.2.2.1 i)] (by decide) (Nat.le_of_ble_eq_true rfl) (fun p e s m below meth c ls C hW hl _ => t_J0_isLatin1_aae02 C hB h_i h hW va_S.rf hl)
theorem hv_J0_isLatin1_aae02 : yJ0_isLatin1_aae02.cls = RJ0 ∧ yJ0_isLatin1_aae02.cls ≠ "java/lang/invoke/MethodHandle" ∧ yJ0_isLatin1_aae02.cls ≠ "java/lang/invoke/VarHandle" ∧ (parseMethodDescriptor yJ0_isLatin1_aae02.desc).map (fun d => d.parameters.length) = some 0 := by decide +kernel
/-! jdk/internal/util/Preconditions.checkIndex(IILjava/util/function/BiFunction;)I -/
def f_J3_checkIndex_8e157N (S : St) (p1 : Int32) (p2 : Int32) : Option (Int32) := if p1 < 0 then (none) else (if p1 < p2 then (some p1) else (none))
set_option maxHeartbeats 4000000 in
theorem t_J3_checkIndex_8e157N (C : MC p s m args meth c cJ3_checkIndex_8e157 3 (some .int) RJ3 g A) (hB : Lk L) {S : St} {r : Int32} {p1 : Int32} {p2 : Int32} (h : f_J3_checkIndex_8e157N S p1 p2 = some r) {H : Heap} {locs : List Loc} {ls : Array Slot} (hW : GW g A ad L S H) (hS : va_S A s.heap H locs) (hl : lv_has ls 3 [(0, .int p1), (1, .int p2), (2, .null)]) : W p l e (rmk 1) s m args below meth c H locs 0 0 (MQ below (qi g A ad L r S) args s 0 0 A) (F0 m 0 ls []) := by
  obtain ⟨hx, hb, hml, hown, hts, hr, hlocks, hK, hN, hT⟩ := id C
  unfold f_J3_checkIndex_8e157N at h
  refine lv_iload_n hx hb dJ3_checkIndex_8e157_0 rfl (lv_at hl 0 rfl) ?_
  refine lv_if_lt (tgt := 9) hx hb dJ3_checkIndex_8e157_1 (by decide) (fun c_1 => ?_) (fun c_1 => ?_)
  · have h := it_t c_1 h
    cases h
  · have h := it_f c_1 h
    refine lv_iload_n hx hb dJ3_checkIndex_8e157_4 rfl (lv_at hl 0 rfl) ?_
    refine lv_iload_n hx hb dJ3_checkIndex_8e157_5 rfl (lv_at hl 1 rfl) ?_
    refine lv_icmp_lt (tgt := 16) hx hb dJ3_checkIndex_8e157_6 (by decide) (fun c_2 => ?_) (fun c_2 => ?_)
    · have h := it_t c_2 h
      refine lv_iload_n hx hb dJ3_checkIndex_8e157_16 rfl (lv_at hl 0 rfl) ?_
      cases h
      exact g_iret hx hb hr hlocks hW hS dJ3_checkIndex_8e157_17
    · have h := it_f c_2 h
      cases h
theorem c_J3_checkIndex_8e157N (hB : Lk L) {S : St} {r : Int32} {p1 : Int32} {p2 : Int32} (h : f_J3_checkIndex_8e157N S p1 p2 = some r) : Met l yJ3_checkIndex_8e157 (gws yJ3_checkIndex_8e157 cJ3_checkIndex_8e157 3 (some .int)) (rmk 1) (va_Pc [.int p1, .int p2, .null] (WU g A ad L S)) (qi g A ad L r S) 0 0 A :=
  g_met [.int p1, .int p2, .null] (by decide) (Nat.le_of_ble_eq_true rfl) (fun p e s m below meth c ls C hW hl _ => t_J3_checkIndex_8e157N C hB h hW va_S.rf hl)
theorem hs_J3_checkIndex_8e157N : yJ3_checkIndex_8e157.cls ≠ "java/lang/invoke/MethodHandle" ∧ yJ3_checkIndex_8e157.cls ≠ "java/lang/invoke/VarHandle" ∧ (parseMethodDescriptor yJ3_checkIndex_8e157.desc).map (fun d => d.parameters.length) = some 3 := by decide +kernel
def f_J3_checkIndex_8e157R (S : St) (p1 : Int32) (p2 : Int32) : Option (Int32) := if p1 < 0 then (none) else (if p1 < p2 then (some p1) else (none))
set_option maxHeartbeats 4000000 in
theorem t_J3_checkIndex_8e157R (C : MC p s m args meth c cJ3_checkIndex_8e157 3 (some .int) RJ3 g A) (hB : Lk L) {S : St} {r : Int32} {t : Nat} {p1 : Int32} {p2 : Int32} (h : f_J3_checkIndex_8e157R S p1 p2 = some r) {H : Heap} {locs : List Loc} {ls : Array Slot} (hW : GW g A ad L S H) (hS : va_S A s.heap H locs) (hl : lv_has ls 3 [(0, .int p1), (1, .int p2), (2, .ref t)]) : W p l e (rmk 1) s m args below meth c H locs 0 0 (MQ below (qi g A ad L r S) args s 0 0 A) (F0 m 0 ls []) := by
  obtain ⟨hx, hb, hml, hown, hts, hr, hlocks, hK, hN, hT⟩ := id C
  unfold f_J3_checkIndex_8e157R at h
  refine lv_iload_n hx hb dJ3_checkIndex_8e157_0 rfl (lv_at hl 0 rfl) ?_
  refine lv_if_lt (tgt := 9) hx hb dJ3_checkIndex_8e157_1 (by decide) (fun c_1 => ?_) (fun c_1 => ?_)
  · have h := it_t c_1 h
    cases h
  · have h := it_f c_1 h
    refine lv_iload_n hx hb dJ3_checkIndex_8e157_4 rfl (lv_at hl 0 rfl) ?_
    refine lv_iload_n hx hb dJ3_checkIndex_8e157_5 rfl (lv_at hl 1 rfl) ?_
    refine lv_icmp_lt (tgt := 16) hx hb dJ3_checkIndex_8e157_6 (by decide) (fun c_2 => ?_) (fun c_2 => ?_)
    · have h := it_t c_2 h
      refine lv_iload_n hx hb dJ3_checkIndex_8e157_16 rfl (lv_at hl 0 rfl) ?_
      cases h
      exact g_iret hx hb hr hlocks hW hS dJ3_checkIndex_8e157_17
    · have h := it_f c_2 h
      cases h
theorem c_J3_checkIndex_8e157R (hB : Lk L) {S : St} {r : Int32} {t : Nat} {p1 : Int32} {p2 : Int32} (h : f_J3_checkIndex_8e157R S p1 p2 = some r) : Met l yJ3_checkIndex_8e157 (gws yJ3_checkIndex_8e157 cJ3_checkIndex_8e157 3 (some .int)) (rmk 1) (va_Pc [.int p1, .int p2, .ref t] (WU g A ad L S)) (qi g A ad L r S) 0 0 A :=
  g_met [.int p1, .int p2, .ref t] (by decide) (Nat.le_of_ble_eq_true rfl) (fun p e s m below meth c ls C hW hl _ => t_J3_checkIndex_8e157R C hB h hW va_S.rf hl)
theorem hs_J3_checkIndex_8e157R : yJ3_checkIndex_8e157.cls ≠ "java/lang/invoke/MethodHandle" ∧ yJ3_checkIndex_8e157.cls ≠ "java/lang/invoke/VarHandle" ∧ (parseMethodDescriptor yJ3_checkIndex_8e157.desc).map (fun d => d.parameters.length) = some 3 := by decide +kernel
/-! java/lang/String.checkIndex(II)V -/
def f_J0_checkIndex_df160 (S : St) (p1 : Int32) (p2 : Int32) : Option (Unit) := cl0 (f_J3_checkIndex_8e157N S p1 p2) fun r_2 => some ()
set_option maxHeartbeats 4000000 in
theorem t_J0_checkIndex_df160 (C : MC p s m args meth c cJ0_checkIndex_df160 2 none RJ0 g A) (hB : Lk L) {S : St} {p1 : Int32} {p2 : Int32} (h : f_J0_checkIndex_df160 S p1 p2 = some ()) {H : Heap} {locs : List Loc} {ls : Array Slot} (hW : GW g A ad L S H) (hS : va_S A s.heap H locs) (hl : lv_has ls 2 [(0, .int p1), (1, .int p2)]) : W p l e (rmk 2) s m args below meth c H locs 0 0 (MQ below (qv g A ad L S) args s 0 0 A) (F0 m 0 ls []) := by
  obtain ⟨hx, hb, hml, hown, hts, hr, hlocks, hK, hN, hT⟩ := id C
  unfold f_J0_checkIndex_df160 at h
  refine lv_iload_n hx hb dJ0_checkIndex_df160_0 rfl (lv_at hl 0 rfl) ?_
  refine lv_iload_n hx hb dJ0_checkIndex_df160_1 rfl (lv_at hl 1 rfl) ?_
  rcases hT.2.2.2.2.1 with hz_0 | ⟨t_0, hz_0⟩
  · refine va_gets hx hb hz_0 hS hown (hts _ mw_546) (fun _ h9 => h9) dJ0_checkIndex_df160_2 ?_
    obtain ⟨r_2, hc_1, h⟩ := cl0_ex h
    refine g_ci (g_runS (As := [.int p1, .int p2, .null]) (rest := []) hx hb hml hown hts hK hN hT hS hW (c_J3_checkIndex_8e157N hB hc_1) (gw_S mw_548 mw_549 mw_80 mw_550) hs_J3_checkIndex_8e157N rfl rfl rfl (rm_ok (by decide) (by decide)) hl.1 (Nat.le_of_ble_eq_true rfl) dJ0_checkIndex_df160_5 rfl ⟨Nat.zero_le _, Nat.zero_le _⟩) hS (fun H locs hW hS => ?_)
    refine lv_pop hx hb dJ0_checkIndex_df160_8 rfl ?_
    cases h
    exact g_vret hx hb hr hlocks hW hS dJ0_checkIndex_df160_9
  · refine va_gets hx hb hz_0 hS hown (hts _ mw_546) (fun _ h9 => h9) dJ0_checkIndex_df160_2 ?_
    obtain ⟨r_4, hc_3, h⟩ := cl0_ex h
    refine g_ci (g_runS (As := [.int p1, .int p2, .ref t_0]) (rest := []) hx hb hml hown hts hK hN hT hS hW (c_J3_checkIndex_8e157R hB hc_3) (gw_S mw_548 mw_549 mw_80 mw_550) hs_J3_checkIndex_8e157R rfl rfl rfl (rm_ok (by decide) (by decide)) hl.1 (Nat.le_of_ble_eq_true rfl) dJ0_checkIndex_df160_5 rfl ⟨Nat.zero_le _, Nat.zero_le _⟩) hS (fun H locs hW hS => ?_)
    refine lv_pop hx hb dJ0_checkIndex_df160_8 rfl ?_
    cases h
    exact g_vret hx hb hr hlocks hW hS dJ0_checkIndex_df160_9
theorem c_J0_checkIndex_df160 (hB : Lk L) {S : St} {p1 : Int32} {p2 : Int32} (h : f_J0_checkIndex_df160 S p1 p2 = some ()) : Met l yJ0_checkIndex_df160 (gws yJ0_checkIndex_df160 cJ0_checkIndex_df160 2 none) (rmk 2) (va_Pc [.int p1, .int p2] (WU g A ad L S)) (qv g A ad L S) 0 0 A :=
  g_met [.int p1, .int p2] (by decide) (Nat.le_of_ble_eq_true rfl) (fun p e s m below meth c ls C hW hl _ => t_J0_checkIndex_df160 C hB h hW va_S.rf hl)
theorem hs_J0_checkIndex_df160 : yJ0_checkIndex_df160.cls ≠ "java/lang/invoke/MethodHandle" ∧ yJ0_checkIndex_df160.cls ≠ "java/lang/invoke/VarHandle" ∧ (parseMethodDescriptor yJ0_checkIndex_df160.desc).map (fun d => d.parameters.length) = some 2 := by decide +kernel
/-! java/lang/StringLatin1.charAt([BI)C -/
def f_J1_charAt_3b067 (S : St) (p1 : Nat) (p2 : Int32) : Option (Int32) := cl0 (f_J0_checkIndex_df160 S p2 (swL p1)) fun u_2 => if p2 < 0 ∨ sw_len.getD p1 0 ≤ ix p2 then none else some ((((swB p1 (ix p2)) &&& 255).toUInt32 % 65536).toInt32)
set_option maxHeartbeats 4000000 in
theorem t_J1_charAt_3b067 (C : MC p s m args meth c cJ1_charAt_3b067 2 (some .char) RJ1 g A) (hB : Lk L) {p1 : Nat} (h_p1 : p1 < 2) {S : St} {r : Int32} {p2 : Int32} (h : f_J1_charAt_3b067 S p1 p2 = some r) {H : Heap} {locs : List Loc} {ls : Array Slot} (hW : GW g A ad L S H) (hS : va_S A s.heap H locs) (hl : lv_has ls 2 [(0, .ref (g.2.2.2.2.2.2 p1)), (1, .int p2)]) : W p l e (rmk 3) s m args below meth c H locs 0 0 (MQ below (qn .char g A ad L r S) args s 0 0 A) (F0 m 0 ls []) := by
  obtain ⟨hx, hb, hml, hown, hts, hr, hlocks, hK, hN, hT⟩ := id C
  unfold f_J1_charAt_3b067 at h
  refine lv_iload_n hx hb dJ1_charAt_3b067_0 rfl (lv_at hl 1 rfl) ?_
  refine lv_aload_n hx hb dJ1_charAt_3b067_1 rfl (lv_at hl 0 rfl) ?_
  refine va_tlen (v := swL p1) hx hb (hT.2.2.1.1 p1 h_p1).2.2.2 hS rfl dJ1_charAt_3b067_2 ?_
  obtain ⟨u_2, hc_1, h⟩ := cl0_ex h
  cases u_2
  refine g_cv (g_runS (As := [.int p2, .int (swL p1)]) (rest := []) hx hb hml hown hts hK hN hT hS hW (c_J0_checkIndex_df160 hB hc_1) (gw_S mw_543 mw_544 mw_78 mw_545) hs_J0_checkIndex_df160 rfl rfl rfl (rm_ok (by decide) (by decide)) hl.1 (Nat.le_of_ble_eq_true rfl) dJ1_charAt_3b067_3 rfl ⟨Nat.zero_le _, Nat.zero_le _⟩) hS (fun H locs hW hS => ?_)
  refine lv_aload_n hx hb dJ1_charAt_3b067_6 rfl (lv_at hl 0 rfl) ?_
  refine lv_iload_n hx hb dJ1_charAt_3b067_7 rfl (lv_at hl 1 rfl) ?_
  obtain ⟨hi_3, h⟩ := ck_n h
  refine va_tb hx hb (hT.2.2.1.1 p1 h_p1).2.2.2 hS hi_3 rfl dJ1_charAt_3b067_8 ?_
  refine lv_sipush (v := 255) hx hb dJ1_charAt_3b067_9 (by decide) ?_
  refine lv_iand hx hb dJ1_charAt_3b067_12 ?_
  refine lv_i2c hx hb dJ1_charAt_3b067_13 rfl ?_
  cases h
  exact g_nret hx hb hr hlocks hW hS (pk_nc _) dJ1_charAt_3b067_14
theorem c_J1_charAt_3b067 (hB : Lk L) {p1 : Nat} (h_p1 : p1 < 2) {S : St} {r : Int32} {p2 : Int32} (h : f_J1_charAt_3b067 S p1 p2 = some r) : Met l yJ1_charAt_3b067 (gws yJ1_charAt_3b067 cJ1_charAt_3b067 2 (some .char)) (rmk 3) (va_Pc [.ref (g.2.2.2.2.2.2 p1), .int p2] (WU g A ad L S)) (qn .char g A ad L r S) 0 0 A :=
  g_met [.ref (g.2.2.2.2.2.2 p1), .int p2] (by decide) (Nat.le_of_ble_eq_true rfl) (fun p e s m below meth c ls C hW hl _ => t_J1_charAt_3b067 C hB h_p1 h hW va_S.rf hl)
theorem hs_J1_charAt_3b067 : yJ1_charAt_3b067.cls ≠ "java/lang/invoke/MethodHandle" ∧ yJ1_charAt_3b067.cls ≠ "java/lang/invoke/VarHandle" ∧ (parseMethodDescriptor yJ1_charAt_3b067.desc).map (fun d => d.parameters.length) = some 2 := by decide +kernel
/-! java/lang/String.charAt(I)C -/
def f_J0_charAt_5068e (S : St) (i : Nat) (p1 : Int32) : Option (Int32) := cl0 (f_J1_charAt_3b067 S i p1) fun r_4 => some r_4
set_option maxHeartbeats 4000000 in
theorem t_J0_charAt_5068e (C : MC p s m args meth c cJ0_charAt_5068e 2 (some .char) RJ0 g A) (hB : Lk L) {i : Nat} (h_i : i < 2) {S : St} {r : Int32} {p1 : Int32} (h : f_J0_charAt_5068e S i p1 = some r) {H : Heap} {locs : List Loc} {ls : Array Slot} (hW : GW g A ad L S H) (hS : va_S A s.heap H locs) (hl : lv_has ls 2 [(0, .ref (g.2.2.2.2.2.1 i)), (1, .int p1)]) : W p l e (rmk 4) s m args below meth c H locs 0 0 (MQ below (qn .char g A ad L r S) args s 0 0 A) (F0 m 0 ls []) := by
  obtain ⟨hx, hb, hml, hown, hts, hr, hlocks, hK, hN, hT⟩ := id C
  unfold f_J0_charAt_5068e at h
  refine lv_aload_n hx hb dJ0_charAt_5068e_0 rfl (lv_at hl 0 rfl) ?_
  refine g_cz (g_runVs (i := i) (As := []) (rest := []) hx hb hml hown hts hK hN hT hS hW (c_J0_isLatin1_aae02 hB h_i rfl) h_i (gw_V mw_536 mw_537 mw_538 mw_78 mw_539) hv_J0_isLatin1_aae02 rfl rfl rfl (rm_ok (by decide) (by decide)) hl.1 (Nat.le_of_ble_eq_true rfl) dJ0_charAt_5068e_1 rfl ⟨Nat.zero_le _, Nat.zero_le _⟩) hS (fun hz_2 H locs hW hS => ?_)
  refine lv_if_eq (tgt := 16) hx hb dJ0_charAt_5068e_4 (by decide) (fun c9 => absurd c9 (by decide)) (fun _ => ?_)
  refine lv_aload_n hx hb dJ0_charAt_5068e_7 rfl (lv_at hl 0 rfl) ?_
  refine vk_getf (v := .ref (g.2.2.2.2.2.2 i)) hx hb (hT.2.2.1.1 i h_i).2.2.1 hS hown (hts _ mw_1417) (fun _ h9 => h9) dJ0_charAt_5068e_8 ?_
  refine lv_iload_n hx hb dJ0_charAt_5068e_11 rfl (lv_at hl 1 rfl) ?_
  obtain ⟨r_4, hc_3, h⟩ := cl0_ex h
  refine g_cn (g_runS (As := [.ref (g.2.2.2.2.2.2 i), .int p1]) (rest := []) hx hb hml hown hts hK hN hT hS hW (c_J1_charAt_3b067 hB h_i hc_3) (gw_S mw_540 mw_541 mw_79 mw_542) hs_J1_charAt_3b067 rfl rfl rfl (rm_ok (by decide) (by decide)) hl.1 (Nat.le_of_ble_eq_true rfl) dJ0_charAt_5068e_12 rfl ⟨Nat.zero_le _, Nat.zero_le _⟩) hS (fun hz_5 H locs hW hS => ?_)
  cases h
  exact g_nret hx hb hr hlocks hW hS hz_5 dJ0_charAt_5068e_15
theorem c_J0_charAt_5068e (hB : Lk L) {i : Nat} (h_i : i < 2) {S : St} {r : Int32} {p1 : Int32} (h : f_J0_charAt_5068e S i p1 = some r) : Met l yJ0_charAt_5068e (gws yJ0_charAt_5068e cJ0_charAt_5068e 2 (some .char)) (rmk 4) (va_Pc [.ref (g.2.2.2.2.2.1 i), .int p1] (WU g A ad L S)) (qn .char g A ad L r S) 0 0 A :=
  g_met [.ref (g.2.2.2.2.2.1 i), .int p1] (by decide) (Nat.le_of_ble_eq_true rfl) (fun p e s m below meth c ls C hW hl _ => t_J0_charAt_5068e C hB h_i h hW va_S.rf hl)
theorem hv_J0_charAt_5068e : yJ0_charAt_5068e.cls = RJ0 ∧ yJ0_charAt_5068e.cls ≠ "java/lang/invoke/MethodHandle" ∧ yJ0_charAt_5068e.cls ≠ "java/lang/invoke/VarHandle" ∧ (parseMethodDescriptor yJ0_charAt_5068e.desc).map (fun d => d.parameters.length) = some 1 := by decide +kernel
/-! java/lang/StringLatin1.canEncode(I)Z -/
def f_J1_canEncode_9a6ad (S : St) (p1 : Int32) : Option (Int32) := if p1 < 0 then (some 0) else (if 255 < p1 then (some 0) else (some 1))
set_option maxHeartbeats 4000000 in
theorem t_J1_canEncode_9a6ad (C : MC p s m args meth c cJ1_canEncode_9a6ad 1 (some .boolean) RJ1 g A) (hB : Lk L) {S : St} {r : Int32} {p1 : Int32} (h : f_J1_canEncode_9a6ad S p1 = some r) {H : Heap} {locs : List Loc} {ls : Array Slot} (hW : GW g A ad L S H) (hS : va_S A s.heap H locs) (hl : lv_has ls 1 [(0, .int p1)]) : W p l e (rmk 1) s m args below meth c H locs 0 0 (MQ below (qz g A ad L r S) args s 0 0 A) (F0 m 0 ls []) := by
  obtain ⟨hx, hb, hml, hown, hts, hr, hlocks, hK, hN, hT⟩ := id C
  unfold f_J1_canEncode_9a6ad at h
  refine lv_iload_n hx hb dJ1_canEncode_9a6ad_0 rfl (lv_at hl 0 rfl) ?_
  refine lv_if_lt (tgt := 15) hx hb dJ1_canEncode_9a6ad_1 (by decide) (fun c_1 => ?_) (fun c_1 => ?_)
  · have h := it_t c_1 h
    refine lv_iconst (v := 0) hx hb dJ1_canEncode_9a6ad_15 (by decide) ?_
    cases h
    exact g_zret hx hb hr hlocks hW hS (rfl) dJ1_canEncode_9a6ad_16
  · have h := it_f c_1 h
    refine lv_iload_n hx hb dJ1_canEncode_9a6ad_4 rfl (lv_at hl 0 rfl) ?_
    refine lv_sipush (v := 255) hx hb dJ1_canEncode_9a6ad_5 (by decide) ?_
    refine lv_icmp_gt (tgt := 15) hx hb dJ1_canEncode_9a6ad_8 (by decide) (fun c_2 => ?_) (fun c_2 => ?_)
    · have h := it_t c_2 h
      refine lv_iconst (v := 0) hx hb dJ1_canEncode_9a6ad_15 (by decide) ?_
      cases h
      exact g_zret hx hb hr hlocks hW hS (rfl) dJ1_canEncode_9a6ad_16
    · have h := it_f c_2 h
      refine lv_iconst (v := 1) hx hb dJ1_canEncode_9a6ad_11 (by decide) ?_
      refine lv_goto (tgt := 16) hx hb dJ1_canEncode_9a6ad_12 (by decide) ?_
      cases h
      exact g_zret hx hb hr hlocks hW hS (rfl) dJ1_canEncode_9a6ad_16
theorem c_J1_canEncode_9a6ad (hB : Lk L) {S : St} {r : Int32} {p1 : Int32} (h : f_J1_canEncode_9a6ad S p1 = some r) : Met l yJ1_canEncode_9a6ad (gws yJ1_canEncode_9a6ad cJ1_canEncode_9a6ad 1 (some .boolean)) (rmk 1) (va_Pc [.int p1] (WU g A ad L S)) (qz g A ad L r S) 0 0 A :=
  g_met [.int p1] (by decide) (Nat.le_of_ble_eq_true rfl) (fun p e s m below meth c ls C hW hl _ => t_J1_canEncode_9a6ad C hB h hW va_S.rf hl)
theorem hs_J1_canEncode_9a6ad : yJ1_canEncode_9a6ad.cls ≠ "java/lang/invoke/MethodHandle" ∧ yJ1_canEncode_9a6ad.cls ≠ "java/lang/invoke/VarHandle" ∧ (parseMethodDescriptor yJ1_canEncode_9a6ad.desc).map (fun d => d.parameters.length) = some 1 := by decide +kernel
/-! java/lang/StringLatin1.indexOfChar([BIII)I -/
def f_J1_indexOfChar_4cfef_l7 (N : Nat) (p1 : Nat) (v3 : Int32) (v4 : Int32) (S : St) (k : Option (Int32)) : Nat → Int32 → Option (Int32)
  | 0, _ => none
  | n + 1, v5 => if v3 ≤ v5 then (k) else (if v5 < 0 ∨ sw_len.getD p1 0 ≤ ix v5 then none else if (swB p1 (ix v5)) = v4 then (some v5) else (bn (v5 + 1) fun x_5 => f_J1_indexOfChar_4cfef_l7 N p1 v3 v4 S k n x_5))
set_option maxHeartbeats 4000000 in
theorem t_J1_indexOfChar_4cfef_l7 (C : MC p s m args meth c cJ1_indexOfChar_4cfef 6 (some .int) RJ1 g A) (hB : Lk L) {p1 : Nat} (h_p1 : p1 < 2) {v3 : Int32} {v4 : Int32} {S : St} {r : Int32} {k : Option (Int32)} (hk : k  = some r → ∀ (H : Heap) (locs : List Loc) (ls : Array Slot), GW g A ad L S H → va_S A s.heap H locs → lv_has ls 6 [] → W p l e (rmk 1) s m args below meth c H locs 0 0 (MQ below (qi g A ad L r S) args s 0 0 A) (F0 m 31 ls [])) : ∀ (n : Nat) (v5 : Int32), f_J1_indexOfChar_4cfef_l7 N p1 v3 v4 S k n v5 = some r → ∀ (H : Heap) (locs : List Loc) (ls : Array Slot), GW g A ad L S H → va_S A s.heap H locs → lv_has ls 6 [(0, .ref (g.2.2.2.2.2.2 p1)), (3, .int v3), (4, .int v4), (5, .int v5)] → W p l e (rmk 1) s m args below meth c H locs 0 0 (MQ below (qi g A ad L r S) args s 0 0 A) (F0 m 7 ls []) := by
  obtain ⟨hx, hb, hml, hown, hts, hr, hlocks, hK, hN, hT⟩ := id C
  intro n
  induction n with
  | zero =>
    intro v5 h
    have h : (none : Option (Int32)) = some r := h
    cases h
  | succ n ih =>
    intro v5 h H locs ls hW hS hl
    rw [f_J1_indexOfChar_4cfef_l7] at h
    refine lv_iload hx hb dJ1_indexOfChar_4cfef_7 (lv_at hl 3 rfl) ?_
    refine lv_iload_n hx hb dJ1_indexOfChar_4cfef_9 rfl (lv_at hl 1 rfl) ?_
    refine lv_icmp_ge (tgt := 31) hx hb dJ1_indexOfChar_4cfef_10 (by decide) (fun c_2 => ?_) (fun c_2 => ?_)
    · have h := it_t c_2 h
      exact hk  h _ _ _ hW hS (lv_sub hl [] rfl)
    · have h := it_f c_2 h
      refine lv_aload_n hx hb dJ1_indexOfChar_4cfef_13 rfl (lv_at hl 0 rfl) ?_
      refine lv_iload hx hb dJ1_indexOfChar_4cfef_14 (lv_at hl 3 rfl) ?_
      obtain ⟨hi_3, h⟩ := ck_n h
      refine va_tb hx hb (hT.2.2.1.1 p1 h_p1).2.2.2 hS hi_3 rfl dJ1_indexOfChar_4cfef_16 ?_
      refine lv_iload hx hb dJ1_indexOfChar_4cfef_17 (lv_at hl 2 rfl) ?_
      refine lv_icmp_ne (tgt := 25) hx hb dJ1_indexOfChar_4cfef_19 (by decide) (fun c_4 => ?_) (fun c_4 => ?_)
      · have h := it_f c_4 h
        obtain ⟨x_5, ex_5⟩ : ∃ z : Int32, z = v5 + 1 := ⟨_, rfl⟩
        have h := bn_at ex_5 h
        refine lv_iinc (v := x_5) (lv' := [(5, .int x_5), (0, .ref (g.2.2.2.2.2.2 p1)), (3, .int v3), (4, .int v4)]) hx hb dJ1_indexOfChar_4cfef_25 hl (k := 3) rfl (by rw [ex_5]; rfl) (by decide) rfl (fun ls hl => ?_)
        refine lv_goto (tgt := 7) hx hb dJ1_indexOfChar_4cfef_28 (by decide) ?_
        exact ih _ h _ _ _ hW hS (lv_sub hl [1, 2, 3, 0] rfl)
      · have h := it_t c_4 h
        refine lv_iload hx hb dJ1_indexOfChar_4cfef_22 (lv_at hl 3 rfl) ?_
        cases h
        exact g_iret hx hb hr hlocks hW hS dJ1_indexOfChar_4cfef_24
def f_J1_indexOfChar_4cfef (N : Nat) (S : St) (p1 : Nat) (p2 : Int32) (p3 : Int32) (p4 : Int32) : Option (Int32) := bn (p2.toInt8.toInt32) fun x_1 => f_J1_indexOfChar_4cfef_l7 N p1 p4 x_1 S (some (-1)) N p3
set_option maxHeartbeats 4000000 in
theorem t_J1_indexOfChar_4cfef (C : MC p s m args meth c cJ1_indexOfChar_4cfef 6 (some .int) RJ1 g A) (hB : Lk L) {p1 : Nat} (h_p1 : p1 < 2) {S : St} {r : Int32} {p2 : Int32} {p3 : Int32} {p4 : Int32} (h : f_J1_indexOfChar_4cfef N S p1 p2 p3 p4 = some r) {H : Heap} {locs : List Loc} {ls : Array Slot} (hW : GW g A ad L S H) (hS : va_S A s.heap H locs) (hl : lv_has ls 6 [(0, .ref (g.2.2.2.2.2.2 p1)), (1, .int p2), (2, .int p3), (3, .int p4)]) : W p l e (rmk 1) s m args below meth c H locs 0 0 (MQ below (qi g A ad L r S) args s 0 0 A) (F0 m 0 ls []) := by
  obtain ⟨hx, hb, hml, hown, hts, hr, hlocks, hK, hN, hT⟩ := id C
  unfold f_J1_indexOfChar_4cfef at h
  refine lv_iload_n hx hb dJ1_indexOfChar_4cfef_0 rfl (lv_at hl 1 rfl) ?_
  refine lv_i2b hx hb dJ1_indexOfChar_4cfef_1 rfl ?_
  refine lv_topi (fun x_1 ex_1 => ?_)
  have h := bn_at ex_1 h
  refine lv_istore (lv' := [(4, .int x_1), (0, .ref (g.2.2.2.2.2.2 p1)), (1, .int p2), (2, .int p3), (3, .int p4)]) hx hb dJ1_indexOfChar_4cfef_2 hl (by decide) rfl (fun ls hl => ?_)
  refine lv_iload_n hx hb dJ1_indexOfChar_4cfef_4 rfl (lv_at hl 3 rfl) ?_
  refine lv_istore (lv' := [(5, .int p3), (4, .int x_1), (0, .ref (g.2.2.2.2.2.2 p1)), (1, .int p2), (2, .int p3), (3, .int p4)]) hx hb dJ1_indexOfChar_4cfef_5 hl (by decide) rfl (fun ls hl => ?_)
  refine t_J1_indexOfChar_4cfef_l7 C hB h_p1 ?_ _ _ h _ _ _ hW hS (lv_sub hl [2, 5, 1, 0] rfl)
  intro  h H locs ls hW hS hl
  refine lv_iconst (v := (-1)) hx hb dJ1_indexOfChar_4cfef_31 (by decide) ?_
  cases h
  exact g_iret hx hb hr hlocks hW hS dJ1_indexOfChar_4cfef_32
theorem c_J1_indexOfChar_4cfef (hB : Lk L) {p1 : Nat} (h_p1 : p1 < 2) {S : St} {r : Int32} {p2 : Int32} {p3 : Int32} {p4 : Int32} (h : f_J1_indexOfChar_4cfef N S p1 p2 p3 p4 = some r) : Met l yJ1_indexOfChar_4cfef (gws yJ1_indexOfChar_4cfef cJ1_indexOfChar_4cfef 6 (some .int)) (rmk 1) (va_Pc [.ref (g.2.2.2.2.2.2 p1), .int p2, .int p3, .int p4] (WU g A ad L S)) (qi g A ad L r S) 0 0 A :=
  g_met [.ref (g.2.2.2.2.2.2 p1), .int p2, .int p3, .int p4] (by decide) (Nat.le_of_ble_eq_true rfl) (fun p e s m below meth c ls C hW hl _ => t_J1_indexOfChar_4cfef C hB h_p1 h hW va_S.rf hl)
theorem hs_J1_indexOfChar_4cfef : yJ1_indexOfChar_4cfef.cls ≠ "java/lang/invoke/MethodHandle" ∧ yJ1_indexOfChar_4cfef.cls ≠ "java/lang/invoke/VarHandle" ∧ (parseMethodDescriptor yJ1_indexOfChar_4cfef.desc).map (fun d => d.parameters.length) = some 4 := by decide +kernel
/-! java/lang/StringLatin1.indexOf([BIII)I -/
def f_J1_indexOf_4cfef (N : Nat) (S : St) (p1 : Nat) (p2 : Int32) (p3 : Int32) (p4 : Int32) : Option (Int32) := cl0 (f_J1_canEncode_9a6ad S p2) fun r_2 => if r_2 = 0 then (some (-1)) else (bn (if p3 < 0 then 0 else p3) fun x_5 => bn (if (swL p1) < p4 then (swL p1) else p4) fun x_6 => if x_5 < x_6 then (cl0 (f_J1_indexOfChar_4cfef N S p1 p2 x_5 x_6) fun r_9 => some r_9) else (some (-1)))
set_option maxHeartbeats 4000000 in
theorem t_J1_indexOf_4cfef (C : MC p s m args meth c cJ1_indexOf_4cfef 4 (some .int) RJ1 g A) (hB : Lk L) {p1 : Nat} (h_p1 : p1 < 2) {S : St} {r : Int32} {p2 : Int32} {p3 : Int32} {p4 : Int32} (h : f_J1_indexOf_4cfef N S p1 p2 p3 p4 = some r) {H : Heap} {locs : List Loc} {ls : Array Slot} (hW : GW g A ad L S H) (hS : va_S A s.heap H locs) (hl : lv_has ls 4 [(0, .ref (g.2.2.2.2.2.2 p1)), (1, .int p2), (2, .int p3), (3, .int p4)]) : W p l e (rmk 2) s m args below meth c H locs 0 0 (MQ below (qi g A ad L r S) args s 0 0 A) (F0 m 0 ls []) := by
  obtain ⟨hx, hb, hml, hown, hts, hr, hlocks, hK, hN, hT⟩ := id C
  unfold f_J1_indexOf_4cfef at h
  refine lv_iload_n hx hb dJ1_indexOf_4cfef_0 rfl (lv_at hl 1 rfl) ?_
  obtain ⟨r_2, hc_1, h⟩ := cl0_ex h
  refine g_cz (g_runS (As := [.int p2]) (rest := []) hx hb hml hown hts hK hN hT hS hW (c_J1_canEncode_9a6ad hB hc_1) (gw_S mw_594 mw_595 mw_79 mw_596) hs_J1_canEncode_9a6ad rfl rfl rfl (rm_ok (by decide) (by decide)) hl.1 (Nat.le_of_ble_eq_true rfl) dJ1_indexOf_4cfef_1 rfl ⟨Nat.zero_le _, Nat.zero_le _⟩) hS (fun hz_3 H locs hW hS => ?_)
  refine lv_if_ne (tgt := 9) hx hb dJ1_indexOf_4cfef_4 (by decide) (fun c_4 => ?_) (fun c_4 => ?_)
  · have h := it_f c_4 h
    refine lv_iload_n hx hb dJ1_indexOf_4cfef_9 rfl (lv_at hl 2 rfl) ?_
    refine lv_iconst (v := 0) hx hb dJ1_indexOf_4cfef_10 (by decide) ?_
    refine g_max (rest := []) hx hb hml hl.1 hown hts mw_597 mw_598 mw_77 mw_cmax (by decide) (Nat.le_of_ble_eq_true rfl) (Nat.zero_le _) (Nat.zero_le _) dJ1_indexOf_4cfef_11 (fun x_5 ex_5 => ?_)
    have h := bn_at ex_5 h
    refine lv_istore_n (lv' := [(2, .int x_5), (0, .ref (g.2.2.2.2.2.2 p1)), (1, .int p2), (3, .int p4)]) hx hb dJ1_indexOf_4cfef_14 rfl hl (by decide) rfl (fun ls hl => ?_)
    refine lv_iload_n hx hb dJ1_indexOf_4cfef_15 rfl (lv_at hl 3 rfl) ?_
    refine lv_aload_n hx hb dJ1_indexOf_4cfef_16 rfl (lv_at hl 1 rfl) ?_
    refine va_tlen (v := swL p1) hx hb (hT.2.2.1.1 p1 h_p1).2.2.2 hS rfl dJ1_indexOf_4cfef_17 ?_
    refine g_min (rest := []) hx hb hml hl.1 hown hts mw_600 mw_445 mw_77 mw_cmin (by decide) (Nat.le_of_ble_eq_true rfl) (Nat.zero_le _) (Nat.zero_le _) dJ1_indexOf_4cfef_18 (fun x_6 ex_6 => ?_)
    have h := bn_at ex_6 h
    refine lv_istore_n (lv' := [(3, .int x_6), (2, .int x_5), (0, .ref (g.2.2.2.2.2.2 p1)), (1, .int p2)]) hx hb dJ1_indexOf_4cfef_21 rfl hl (by decide) rfl (fun ls hl => ?_)
    refine lv_iload_n hx hb dJ1_indexOf_4cfef_22 rfl (lv_at hl 1 rfl) ?_
    refine lv_iload_n hx hb dJ1_indexOf_4cfef_23 rfl (lv_at hl 0 rfl) ?_
    refine lv_icmp_lt (tgt := 29) hx hb dJ1_indexOf_4cfef_24 (by decide) (fun c_7 => ?_) (fun c_7 => ?_)
    · have h := it_t c_7 h
      refine lv_aload_n hx hb dJ1_indexOf_4cfef_29 rfl (lv_at hl 2 rfl) ?_
      refine lv_iload_n hx hb dJ1_indexOf_4cfef_30 rfl (lv_at hl 3 rfl) ?_
      refine lv_iload_n hx hb dJ1_indexOf_4cfef_31 rfl (lv_at hl 1 rfl) ?_
      refine lv_iload_n hx hb dJ1_indexOf_4cfef_32 rfl (lv_at hl 0 rfl) ?_
      obtain ⟨r_9, hc_8, h⟩ := cl0_ex h
      refine g_ci (g_runS (As := [.ref (g.2.2.2.2.2.2 p1), .int p2, .int x_5, .int x_6]) (rest := []) hx hb hml hown hts hK hN hT hS hW (c_J1_indexOfChar_4cfef hB h_p1 hc_8) (gw_S mw_601 mw_602 mw_79 mw_603) hs_J1_indexOfChar_4cfef rfl rfl rfl (rm_ok (by decide) (by decide)) hl.1 (Nat.le_of_ble_eq_true rfl) dJ1_indexOf_4cfef_33 rfl ⟨Nat.zero_le _, Nat.zero_le _⟩) hS (fun H locs hW hS => ?_)
      cases h
      exact g_iret hx hb hr hlocks hW hS dJ1_indexOf_4cfef_36
    · have h := it_f c_7 h
      refine lv_iconst (v := (-1)) hx hb dJ1_indexOf_4cfef_27 (by decide) ?_
      cases h
      exact g_iret hx hb hr hlocks hW hS dJ1_indexOf_4cfef_28
  · have h := it_t c_4 h
    refine lv_iconst (v := (-1)) hx hb dJ1_indexOf_4cfef_7 (by decide) ?_
    cases h
    exact g_iret hx hb hr hlocks hW hS dJ1_indexOf_4cfef_8
theorem c_J1_indexOf_4cfef (hB : Lk L) {p1 : Nat} (h_p1 : p1 < 2) {S : St} {r : Int32} {p2 : Int32} {p3 : Int32} {p4 : Int32} (h : f_J1_indexOf_4cfef N S p1 p2 p3 p4 = some r) : Met l yJ1_indexOf_4cfef (gws yJ1_indexOf_4cfef cJ1_indexOf_4cfef 4 (some .int)) (rmk 2) (va_Pc [.ref (g.2.2.2.2.2.2 p1), .int p2, .int p3, .int p4] (WU g A ad L S)) (qi g A ad L r S) 0 0 A :=
  g_met [.ref (g.2.2.2.2.2.2 p1), .int p2, .int p3, .int p4] (by decide) (Nat.le_of_ble_eq_true rfl) (fun p e s m below meth c ls C hW hl _ => t_J1_indexOf_4cfef C hB h_p1 h hW va_S.rf hl)
theorem hs_J1_indexOf_4cfef : yJ1_indexOf_4cfef.cls ≠ "java/lang/invoke/MethodHandle" ∧ yJ1_indexOf_4cfef.cls ≠ "java/lang/invoke/VarHandle" ∧ (parseMethodDescriptor yJ1_indexOf_4cfef.desc).map (fun d => d.parameters.length) = some 4 := by decide +kernel
/-! java/lang/String.indexOf(II)I -/
def f_J0_indexOf_7cf53 (N : Nat) (S : St) (i : Nat) (p1 : Int32) (p2 : Int32) : Option (Int32) := cl0 (f_J0_length_8abf5 S i) fun r_4 => cl0 (f_J1_indexOf_4cfef N S i p1 p2 r_4) fun r_6 => some r_6
set_option maxHeartbeats 4000000 in
theorem t_J0_indexOf_7cf53 (C : MC p s m args meth c cJ0_indexOf_7cf53 3 (some .int) RJ0 g A) (hB : Lk L) {i : Nat} (h_i : i < 2) {S : St} {r : Int32} {p1 : Int32} {p2 : Int32} (h : f_J0_indexOf_7cf53 N S i p1 p2 = some r) {H : Heap} {locs : List Loc} {ls : Array Slot} (hW : GW g A ad L S H) (hS : va_S A s.heap H locs) (hl : lv_has ls 3 [(0, .ref (g.2.2.2.2.2.1 i)), (1, .int p1), (2, .int p2)]) : W p l e (rmk 3) s m args below meth c H locs 0 0 (MQ below (qi g A ad L r S) args s 0 0 A) (F0 m 0 ls []) := by
  obtain ⟨hx, hb, hml, hown, hts, hr, hlocks, hK, hN, hT⟩ := id C
  unfold f_J0_indexOf_7cf53 at h
  refine lv_aload_n hx hb dJ0_indexOf_7cf53_0 rfl (lv_at hl 0 rfl) ?_
  refine g_cz (g_runVs (i := i) (As := []) (rest := []) hx hb hml hown hts hK hN hT hS hW (c_J0_isLatin1_aae02 hB h_i rfl) h_i (gw_V mw_536 mw_537 mw_538 mw_78 mw_539) hv_J0_isLatin1_aae02 rfl rfl rfl (rm_ok (by decide) (by decide)) hl.1 (Nat.le_of_ble_eq_true rfl) dJ0_indexOf_7cf53_1 rfl ⟨Nat.zero_le _, Nat.zero_le _⟩) hS (fun hz_2 H locs hW hS => ?_)
  refine lv_if_eq (tgt := 23) hx hb dJ0_indexOf_7cf53_4 (by decide) (fun c9 => absurd c9 (by decide)) (fun _ => ?_)
  refine lv_aload_n hx hb dJ0_indexOf_7cf53_7 rfl (lv_at hl 0 rfl) ?_
  refine vk_getf (v := .ref (g.2.2.2.2.2.2 i)) hx hb (hT.2.2.1.1 i h_i).2.2.1 hS hown (hts _ mw_1417) (fun _ h9 => h9) dJ0_indexOf_7cf53_8 ?_
  refine lv_iload_n hx hb dJ0_indexOf_7cf53_11 rfl (lv_at hl 1 rfl) ?_
  refine lv_iload_n hx hb dJ0_indexOf_7cf53_12 rfl (lv_at hl 2 rfl) ?_
  refine lv_aload_n hx hb dJ0_indexOf_7cf53_13 rfl (lv_at hl 0 rfl) ?_
  obtain ⟨r_4, hc_3, h⟩ := cl0_ex h
  refine g_ci (g_runVs (i := i) (As := []) (rest := [.int p2, .int p1, .ref (g.2.2.2.2.2.2 i)]) hx hb hml hown hts hK hN hT hS hW (c_J0_length_8abf5 hB h_i hc_3) h_i (gw_V mw_590 mw_519 mw_520 mw_78 mw_521) hv_J0_length_8abf5 rfl rfl rfl (rm_ok (by decide) (by decide)) hl.1 (Nat.le_of_ble_eq_true rfl) dJ0_indexOf_7cf53_14 rfl ⟨Nat.zero_le _, Nat.zero_le _⟩) hS (fun H locs hW hS => ?_)
  obtain ⟨r_6, hc_5, h⟩ := cl0_ex h
  refine g_ci (g_runS (As := [.ref (g.2.2.2.2.2.2 i), .int p1, .int p2, .int r_4]) (rest := []) hx hb hml hown hts hK hN hT hS hW (c_J1_indexOf_4cfef hB h_i hc_5) (gw_S mw_591 mw_592 mw_79 mw_593) hs_J1_indexOf_4cfef rfl rfl rfl (rm_ok (by decide) (by decide)) hl.1 (Nat.le_of_ble_eq_true rfl) dJ0_indexOf_7cf53_17 rfl ⟨Nat.zero_le _, Nat.zero_le _⟩) hS (fun H locs hW hS => ?_)
  refine lv_goto (tgt := 36) hx hb dJ0_indexOf_7cf53_20 (by decide) ?_
  cases h
  exact g_iret hx hb hr hlocks hW hS dJ0_indexOf_7cf53_36
theorem c_J0_indexOf_7cf53 (hB : Lk L) {i : Nat} (h_i : i < 2) {S : St} {r : Int32} {p1 : Int32} {p2 : Int32} (h : f_J0_indexOf_7cf53 N S i p1 p2 = some r) : Met l yJ0_indexOf_7cf53 (gws yJ0_indexOf_7cf53 cJ0_indexOf_7cf53 3 (some .int)) (rmk 3) (va_Pc [.ref (g.2.2.2.2.2.1 i), .int p1, .int p2] (WU g A ad L S)) (qi g A ad L r S) 0 0 A :=
  g_met [.ref (g.2.2.2.2.2.1 i), .int p1, .int p2] (by decide) (Nat.le_of_ble_eq_true rfl) (fun p e s m below meth c ls C hW hl _ => t_J0_indexOf_7cf53 C hB h_i h hW va_S.rf hl)
theorem hv_J0_indexOf_7cf53 : yJ0_indexOf_7cf53.cls = RJ0 ∧ yJ0_indexOf_7cf53.cls ≠ "java/lang/invoke/MethodHandle" ∧ yJ0_indexOf_7cf53.cls ≠ "java/lang/invoke/VarHandle" ∧ (parseMethodDescriptor yJ0_indexOf_7cf53.desc).map (fun d => d.parameters.length) = some 2 := by decide +kernel
/-! java/lang/String.indexOf(I)I -/
def f_J0_indexOf_0f7a4 (N : Nat) (S : St) (i : Nat) (p1 : Int32) : Option (Int32) := cl0 (f_J0_indexOf_7cf53 N S i p1 0) fun r_2 => some r_2
set_option maxHeartbeats 4000000 in
theorem t_J0_indexOf_0f7a4 (C : MC p s m args meth c cJ0_indexOf_0f7a4 2 (some .int) RJ0 g A) (hB : Lk L) {i : Nat} (h_i : i < 2) {S : St} {r : Int32} {p1 : Int32} (h : f_J0_indexOf_0f7a4 N S i p1 = some r) {H : Heap} {locs : List Loc} {ls : Array Slot} (hW : GW g A ad L S H) (hS : va_S A s.heap H locs) (hl : lv_has ls 2 [(0, .ref (g.2.2.2.2.2.1 i)), (1, .int p1)]) : W p l e (rmk 4) s m args below meth c H locs 0 0 (MQ below (qi g A ad L r S) args s 0 0 A) (F0 m 0 ls []) := by
  obtain ⟨hx, hb, hml, hown, hts, hr, hlocks, hK, hN, hT⟩ := id C
  unfold f_J0_indexOf_0f7a4 at h
  refine lv_aload_n hx hb dJ0_indexOf_0f7a4_0 rfl (lv_at hl 0 rfl) ?_
  refine lv_iload_n hx hb dJ0_indexOf_0f7a4_1 rfl (lv_at hl 1 rfl) ?_
  refine lv_iconst (v := 0) hx hb dJ0_indexOf_0f7a4_2 (by decide) ?_
  obtain ⟨r_2, hc_1, h⟩ := cl0_ex h
  refine g_ci (g_runVs (i := i) (As := [.int p1, .int 0]) (rest := []) hx hb hml hown hts hK hN hT hS hW (c_J0_indexOf_7cf53 hB h_i hc_1) h_i (gw_V mw_586 mw_587 mw_588 mw_78 mw_589) hv_J0_indexOf_7cf53 rfl rfl rfl (rm_ok (by decide) (by decide)) hl.1 (Nat.le_of_ble_eq_true rfl) dJ0_indexOf_0f7a4_3 rfl ⟨Nat.zero_le _, Nat.zero_le _⟩) hS (fun H locs hW hS => ?_)
  cases h
  exact g_iret hx hb hr hlocks hW hS dJ0_indexOf_0f7a4_6
theorem c_J0_indexOf_0f7a4 (hB : Lk L) {i : Nat} (h_i : i < 2) {S : St} {r : Int32} {p1 : Int32} (h : f_J0_indexOf_0f7a4 N S i p1 = some r) : Met l yJ0_indexOf_0f7a4 (gws yJ0_indexOf_0f7a4 cJ0_indexOf_0f7a4 2 (some .int)) (rmk 4) (va_Pc [.ref (g.2.2.2.2.2.1 i), .int p1] (WU g A ad L S)) (qi g A ad L r S) 0 0 A :=
  g_met [.ref (g.2.2.2.2.2.1 i), .int p1] (by decide) (Nat.le_of_ble_eq_true rfl) (fun p e s m below meth c ls C hW hl _ => t_J0_indexOf_0f7a4 C hB h_i h hW va_S.rf hl)
theorem hv_J0_indexOf_0f7a4 : yJ0_indexOf_0f7a4.cls = RJ0 ∧ yJ0_indexOf_0f7a4.cls ≠ "java/lang/invoke/MethodHandle" ∧ yJ0_indexOf_0f7a4.cls ≠ "java/lang/invoke/VarHandle" ∧ (parseMethodDescriptor yJ0_indexOf_0f7a4.desc).map (fun d => d.parameters.length) = some 1 := by decide +kernel
end S30
