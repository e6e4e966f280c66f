section S10
variable {p : Program} {l : Launch} {e : Env} {s : State} {m : MethodId} {args : Array Value} {below : List Frame} {meth : Method} {c : Code} {A : Nat → Prop} {g : Cx} {ad : Nat → Nat} {L : List Nat} {N : Nat} {q0 : Nat}
/-! DroveRoads.within -/
def f_X10_within (S : St) (p1 : Int32) (p2 : Int32) (p3 : Int32) : Option (Int32) := if p1 < p2 then (some 0) else (if p3 < p1 then (some 0) else (some 1))
set_option maxHeartbeats 4000000 in
theorem t_X10_within (C : MC p s m args meth c cX10_within 3 (some .boolean) RX10 g A) (hB : Lk L) {S : St} {r : Int32} {p1 : Int32} {p2 : Int32} {p3 : Int32} (h : f_X10_within S p1 p2 p3 = some r) {H : Heap} {locs : List Loc} {ls : Array Slot} (hW : GW g A ad L S H) (hS : va_S A s.heap H locs) (hl : lv_has ls 3 [(0, .int p1), (1, .int p2), (2, .int p3)]) : W p l e (rmk 1) s m args below meth c H locs 0 0 (MQ below (qz g A ad L r S) args s 0 0 A) (F0 m 0 ls []) := by
  obtain ⟨hx, hb, hml, hown, hts, hr, hlocks, hK, hN, hT⟩ := id C
  unfold f_X10_within at h
  refine lv_iload_n hx hb dX10_within_0 rfl (lv_at hl 0 rfl) ?_
  refine lv_iload_n hx hb dX10_within_1 rfl (lv_at hl 1 rfl) ?_
  refine lv_icmp_lt (tgt := 14) hx hb dX10_within_2 (by decide) (fun c_1 => ?_) (fun c_1 => ?_)
  · have h := it_t c_1 h
    refine lv_iconst (v := 0) hx hb dX10_within_14 (by decide) ?_
    cases h
    exact g_zret hx hb hr hlocks hW hS (rfl) dX10_within_15
  · have h := it_f c_1 h
    refine lv_iload_n hx hb dX10_within_5 rfl (lv_at hl 0 rfl) ?_
    refine lv_iload_n hx hb dX10_within_6 rfl (lv_at hl 2 rfl) ?_
    refine lv_icmp_gt (tgt := 14) hx hb dX10_within_7 (by decide) (fun c_2 => ?_) (fun c_2 => ?_)
    · have h := it_t c_2 h
      refine lv_iconst (v := 0) hx hb dX10_within_14 (by decide) ?_
      cases h
      exact g_zret hx hb hr hlocks hW hS (rfl) dX10_within_15
    · have h := it_f c_2 h
      refine lv_iconst (v := 1) hx hb dX10_within_10 (by decide) ?_
      refine lv_goto (tgt := 15) hx hb dX10_within_11 (by decide) ?_
      cases h
      exact g_zret hx hb hr hlocks hW hS (rfl) dX10_within_15
theorem c_X10_within (hB : Lk L) {S : St} {r : Int32} {p1 : Int32} {p2 : Int32} {p3 : Int32} (h : f_X10_within S p1 p2 p3 = some r) : Met l yX10_within (gws yX10_within cX10_within 3 (some .boolean)) (rmk 1) (va_Pc [.int p1, .int p2, .int p3] (WU g A ad L S)) (qz g A ad L r S) 0 0 A :=
  g_met [.int p1, .int p2, .int p3] (by decide) (Nat.le_of_ble_eq_true rfl) (fun p e s m below meth c ls C hW hl _ => t_X10_within C hB h hW va_S.rf hl)
theorem hs_X10_within : yX10_within.cls ≠ "java/lang/invoke/MethodHandle" ∧ yX10_within.cls ≠ "java/lang/invoke/VarHandle" ∧ (parseMethodDescriptor yX10_within.desc).map (fun d => d.parameters.length) = some 3 := by decide +kernel
/-! DroveRoads$Road.canBeMiles -/
def f_X9_canBeMiles (S : St) (p1 : Int32) : Option (Int32) := cl0 (f_X10_within S p1 1 30) fun r_2 => some r_2
set_option maxHeartbeats 4000000 in
theorem t_X9_canBeMiles (C : MC p s m args meth c cX9_canBeMiles 1 (some .boolean) RX9 g A) (hB : Lk L) {S : St} {r : Int32} {p1 : Int32} (h : f_X9_canBeMiles S p1 = some r) {H : Heap} {locs : List Loc} {ls : Array Slot} (hW : GW g A ad L S H) (hS : va_S A s.heap H locs) (hl : lv_has ls 1 [(0, .int p1)]) : W p l e (rmk 2) s m args below meth c H locs 0 0 (MQ below (qz g A ad L r S) args s 0 0 A) (F0 m 0 ls []) := by
  obtain ⟨hx, hb, hml, hown, hts, hr, hlocks, hK, hN, hT⟩ := id C
  unfold f_X9_canBeMiles at h
  refine lv_iload_n hx hb dX9_canBeMiles_0 rfl (lv_at hl 0 rfl) ?_
  refine lv_iconst (v := 1) hx hb dX9_canBeMiles_1 (by decide) ?_
  refine lv_bipush (v := 30) hx hb dX9_canBeMiles_2 (by decide) ?_
  obtain ⟨r_2, hc_1, h⟩ := cl0_ex h
  refine g_cz (g_runSN (As := [.int p1, .int 1, .int 30]) (rest := []) hx hb hml hown hts hK hN hT hS hW (c_X10_within hB hc_1) mw_294 (by decide +kernel) mw_66 mw_293 hs_X10_within rfl rfl rfl (rm_ok (by decide) (by decide)) hl.1 (Nat.le_of_ble_eq_true rfl) dX9_canBeMiles_4 rfl ⟨Nat.zero_le _, Nat.zero_le _⟩) hS (fun hz_3 H locs hW hS => ?_)
  cases h
  exact g_zret hx hb hr hlocks hW hS hz_3 dX9_canBeMiles_7
theorem c_X9_canBeMiles (hB : Lk L) {S : St} {r : Int32} {p1 : Int32} (h : f_X9_canBeMiles S p1 = some r) : Met l yX9_canBeMiles (gws yX9_canBeMiles cX9_canBeMiles 1 (some .boolean)) (rmk 2) (va_Pc [.int p1] (WU g A ad L S)) (qz g A ad L r S) 0 0 A :=
  g_met [.int p1] (by decide) (Nat.le_of_ble_eq_true rfl) (fun p e s m below meth c ls C hW hl _ => t_X9_canBeMiles C hB h hW va_S.rf hl)
theorem hs_X9_canBeMiles : yX9_canBeMiles.cls ≠ "java/lang/invoke/MethodHandle" ∧ yX9_canBeMiles.cls ≠ "java/lang/invoke/VarHandle" ∧ (parseMethodDescriptor yX9_canBeMiles.desc).map (fun d => d.parameters.length) = some 1 := by decide +kernel
/-! DroveRoads$Road.has -/
def f_X9_has (S : St) (p1 : Int32) : Option (Int32) := if p1 < 0 then (some 0) else (if (gv S 1 0) ≤ p1 then (some 0) else (some 1))
set_option maxHeartbeats 4000000 in
theorem t_X9_has (C : MC p s m args meth c cX9_has 2 (some .boolean) RX9 g A) (hB : Lk L) {S : St} {r : Int32} {p1 : Int32} (h : f_X9_has S p1 = some r) {H : Heap} {locs : List Loc} {ls : Array Slot} (hW : GW g A ad L S H) (hS : va_S A s.heap H locs) (hl : lv_has ls 2 [(0, .ref (ad 1)), (1, .int p1)]) : W p l e (rmk 1) s m args below meth c H locs 0 0 (MQ below (qz g A ad L r S) args s 0 0 A) (F0 m 0 ls []) := by
  obtain ⟨hx, hb, hml, hown, hts, hr, hlocks, hK, hN, hT⟩ := id C
  unfold f_X9_has at h
  refine lv_iload_n hx hb dX9_has_0 rfl (lv_at hl 1 rfl) ?_
  refine lv_if_lt (tgt := 16) hx hb dX9_has_1 (by decide) (fun c_1 => ?_) (fun c_1 => ?_)
  · have h := it_t c_1 h
    refine lv_iconst (v := 0) hx hb dX9_has_16 (by decide) ?_
    cases h
    exact g_zret hx hb hr hlocks hW hS (rfl) dX9_has_17
  · have h := it_f c_1 h
    refine lv_iload_n hx hb dX9_has_4 rfl (lv_at hl 1 rfl) ?_
    refine lv_aload_n hx hb dX9_has_5 rfl (lv_at hl 0 rfl) ?_
    refine g_get (C := RX9) (T := TX9) (N := 7) (ci := 9) hx hb hts inX9 hown hK hW (hB 1 bb_1) kd_1 rfl 0 (by decide) mw_98 rfl rfl dX9_has_6 ?_
    refine lv_icmp_ge (tgt := 16) hx hb dX9_has_9 (by decide) (fun c_2 => ?_) (fun c_2 => ?_)
    · have h := it_t c_2 h
      refine lv_iconst (v := 0) hx hb dX9_has_16 (by decide) ?_
      cases h
      exact g_zret hx hb hr hlocks hW hS (rfl) dX9_has_17
    · have h := it_f c_2 h
      refine lv_iconst (v := 1) hx hb dX9_has_12 (by decide) ?_
      refine lv_goto (tgt := 17) hx hb dX9_has_13 (by decide) ?_
      cases h
      exact g_zret hx hb hr hlocks hW hS (rfl) dX9_has_17
theorem c_X9_has (hB : Lk L) {S : St} {r : Int32} {p1 : Int32} (h : f_X9_has S p1 = some r) : Met l yX9_has (gws yX9_has cX9_has 2 (some .boolean)) (rmk 1) (va_Pc [.ref (ad 1), .int p1] (WU g A ad L S)) (qz g A ad L r S) 0 0 A :=
  g_met [.ref (ad 1), .int p1] (by decide) (Nat.le_of_ble_eq_true rfl) (fun p e s m below meth c ls C hW hl _ => t_X9_has C hB h hW va_S.rf hl)
theorem hv_X9_has : yX9_has.cls = RX9 ∧ yX9_has.cls ≠ "java/lang/invoke/MethodHandle" ∧ yX9_has.cls ≠ "java/lang/invoke/VarHandle" ∧ (parseMethodDescriptor yX9_has.desc).map (fun d => d.parameters.length) = some 1 := by decide +kernel
/-! DroveRoads$Road.fair -/
def f_X9_fair (S : St) : Option (Int32) := some ((gv S 1 0) - 1)
set_option maxHeartbeats 4000000 in
theorem t_X9_fair (C : MC p s m args meth c cX9_fair 1 (some .int) RX9 g A) (hB : Lk L) {S : St} {r : Int32} (h : f_X9_fair S = some r) {H : Heap} {locs : List Loc} {ls : Array Slot} (hW : GW g A ad L S H) (hS : va_S A s.heap H locs) (hl : lv_has ls 1 [(0, .ref (ad 1))]) : W p l e (rmk 1) s m args below meth c H locs 0 0 (MQ below (qi g A ad L r S) args s 0 0 A) (F0 m 0 ls []) := by
  obtain ⟨hx, hb, hml, hown, hts, hr, hlocks, hK, hN, hT⟩ := id C
  unfold f_X9_fair at h
  refine lv_aload_n hx hb dX9_fair_0 rfl (lv_at hl 0 rfl) ?_
  refine g_get (C := RX9) (T := TX9) (N := 7) (ci := 9) hx hb hts inX9 hown hK hW (hB 1 bb_1) kd_1 rfl 0 (by decide) mw_98 rfl rfl dX9_fair_1 ?_
  refine lv_iconst (v := 1) hx hb dX9_fair_4 (by decide) ?_
  refine lv_isub hx hb dX9_fair_5 ?_
  cases h
  exact g_iret hx hb hr hlocks hW hS dX9_fair_6
theorem c_X9_fair (hB : Lk L) {S : St} {r : Int32} (h : f_X9_fair S = some r) : Met l yX9_fair (gws yX9_fair cX9_fair 1 (some .int)) (rmk 1) (va_Pc [.ref (ad 1)] (WU g A ad L S)) (qi g A ad L r S) 0 0 A :=
  g_met [.ref (ad 1)] (by decide) (Nat.le_of_ble_eq_true rfl) (fun p e s m below meth c ls C hW hl _ => t_X9_fair C hB h hW va_S.rf hl)
theorem hv_X9_fair : yX9_fair.cls = RX9 ∧ yX9_fair.cls ≠ "java/lang/invoke/MethodHandle" ∧ yX9_fair.cls ≠ "java/lang/invoke/VarHandle" ∧ (parseMethodDescriptor yX9_fair.desc).map (fun d => d.parameters.length) = some 0 := by decide +kernel
/-! DroveRoads$Road.measure -/
def f_X9_measure_l7 (N : Nat) (k : St → Option (St)) : Nat → St → Int32 → Int32 → Option (St)
  | 0, _, _, _ => none
  | n + 1, S, v1, v2 => if v2 < 0 then (k S) else (if v2 < 0 ∨ 10 ≤ ix v2 then none else bn (v1 + (gv S 11 (ix v2))) fun x_5 => if v2 < 0 ∨ 10 ≤ ix v2 then none else bn (sv S 12 (ix v2) x_5) fun S_7 => bn (v2 + (-1)) fun x_8 => f_X9_measure_l7 N k n S_7 x_5 x_8)
set_option maxHeartbeats 4000000 in
theorem t_X9_measure_l7 (C : MC p s m args meth c cX9_measure 3 none RX9 g A) (hB : Lk L) {S9 : St} {k : St → Option (St)} (hk : ∀ (S : St), k S = some S9 → ∀ (H : Heap) (locs : List Loc) (ls : Array Slot), GW g A ad L S H → va_S A s.heap H locs → lv_has ls 3 [] → W p l e (rmk 2) s m args below meth c H locs 0 0 (MQ below (qv g A ad L S9) args s 0 0 A) (F0 m 33 ls [])) : ∀ (n : Nat) (S : St) (v1 : Int32) (v2 : Int32), f_X9_measure_l7 N k n S v1 v2 = some S9 → ∀ (H : Heap) (locs : List Loc) (ls : Array Slot), GW g A ad L S H → va_S A s.heap H locs → lv_has ls 3 [(0, .ref (ad 1)), (1, .int v1), (2, .int v2)] → W p l e (rmk 2) s m args below meth c H locs 0 0 (MQ below (qv g A ad L S9) args s 0 0 A) (F0 m 7 ls []) := by
  obtain ⟨hx, hb, hml, hown, hts, hr, hlocks, hK, hN, hT⟩ := id C
  intro n
  induction n with
  | zero =>
    intro S v1 v2 h
    have h : (none : Option (St)) = some S9 := h
    cases h
  | succ n ih =>
    intro S v1 v2 h H locs ls hW hS hl
    rw [f_X9_measure_l7] at h
    refine lv_iload_n hx hb dX9_measure_7 rfl (lv_at hl 2 rfl) ?_
    refine lv_if_lt (tgt := 33) hx hb dX9_measure_8 (by decide) (fun c_3 => ?_) (fun c_3 => ?_)
    · have h := it_t c_3 h
      exact hk _ h _ _ _ hW hS (lv_sub hl [] rfl)
    · have h := it_f c_3 h
      refine lv_iload_n hx hb dX9_measure_11 rfl (lv_at hl 1 rfl) ?_
      refine lv_aload_n hx hb dX9_measure_12 rfl (lv_at hl 0 rfl) ?_
      refine g_get (C := RX9) (T := TX9) (N := 7) (ci := 9) hx hb hts inX9 hown hK hW (hB 1 bb_1) kd_1 rfl 1 (by decide) mw_100 rfl rfl dX9_measure_13 ?_
      refine lv_iload_n hx hb dX9_measure_16 rfl (lv_at hl 2 rfl) ?_
      obtain ⟨hi_4, h⟩ := ck_n h
      refine g_iald hx hb hK hW (hB 11 bb_11) kd_11 hi_4 dX9_measure_17 ?_
      refine lv_iadd hx hb dX9_measure_18 ?_
      refine lv_topi (fun x_5 ex_5 => ?_)
      have h := bn_at ex_5 h
      refine lv_istore_n (lv' := [(1, .int x_5), (0, .ref (ad 1)), (2, .int v2)]) hx hb dX9_measure_19 rfl hl (by decide) rfl (fun ls hl => ?_)
      refine lv_aload_n hx hb dX9_measure_20 rfl (lv_at hl 1 rfl) ?_
      refine g_get (C := RX9) (T := TX9) (N := 7) (ci := 9) hx hb hts inX9 hown hK hW (hB 1 bb_1) kd_1 rfl 2 (by decide) mw_101 rfl rfl dX9_measure_21 ?_
      refine lv_iload_n hx hb dX9_measure_24 rfl (lv_at hl 2 rfl) ?_
      refine lv_iload_n hx hb dX9_measure_25 rfl (lv_at hl 0 rfl) ?_
      obtain ⟨hi_6, h⟩ := ck_n h
      refine g_iast hx hb hK hW hS (hB 12 bb_12) (fun _ => kd_12) hi_6 dX9_measure_26 (fun S_7 eS_7 H locs hW hS => ?_)
      have h := bn_at eS_7 h
      obtain ⟨x_8, ex_8⟩ : ∃ z : Int32, z = v2 + (-1) := ⟨_, rfl⟩
      have h := bn_at ex_8 h
      refine lv_iinc (v := x_8) (lv' := [(2, .int x_8), (1, .int x_5), (0, .ref (ad 1))]) hx hb dX9_measure_27 hl (k := 2) rfl (by rw [ex_8]; rfl) (by decide) rfl (fun ls hl => ?_)
      refine lv_goto (tgt := 7) hx hb dX9_measure_30 (by decide) ?_
      exact ih _ _ _ h _ _ _ hW hS (lv_sub hl [2, 1, 0] rfl)
def f_X9_measure (N : Nat) (S : St) : Option (St) := cl0 (f_X9_fair S) fun r_2 => f_X9_measure_l7 N (fun S_9 => some S_9) N S 0 r_2
set_option maxHeartbeats 4000000 in
theorem t_X9_measure (C : MC p s m args meth c cX9_measure 3 none RX9 g A) (hB : Lk L) {S : St} {S9 : St} (h : f_X9_measure N S = some S9) {H : Heap} {locs : List Loc} {ls : Array Slot} (hW : GW g A ad L S H) (hS : va_S A s.heap H locs) (hl : lv_has ls 3 [(0, .ref (ad 1))]) : W p l e (rmk 2) s m args below meth c H locs 0 0 (MQ below (qv g A ad L S9) args s 0 0 A) (F0 m 0 ls []) := by
  obtain ⟨hx, hb, hml, hown, hts, hr, hlocks, hK, hN, hT⟩ := id C
  unfold f_X9_measure at h
  refine lv_iconst (v := 0) hx hb dX9_measure_0 (by decide) ?_
  refine lv_istore_n (lv' := [(1, .int 0), (0, .ref (ad 1))]) hx hb dX9_measure_1 rfl hl (by decide) rfl (fun ls hl => ?_)
  refine lv_aload_n hx hb dX9_measure_2 rfl (lv_at hl 1 rfl) ?_
  obtain ⟨r_2, hc_1, h⟩ := cl0_ex h
  refine g_ci (g_runV (ci := 9) (o := 1) (As := []) (rest := []) hx hb hml hown hts hK hN hT hS hW (c_X9_fair hB hc_1) (hB 1 bb_1) kd_1 rfl (gw_V mw_303 mw_304 mw_305 mw_67 mw_306) hv_X9_fair rfl rfl rfl (rm_ok (by decide) (by decide)) hl.1 (Nat.le_of_ble_eq_true rfl) dX9_measure_3 rfl ⟨Nat.zero_le _, Nat.zero_le _⟩) hS (fun H locs hW hS => ?_)
  refine lv_istore_n (lv' := [(2, .int r_2), (1, .int 0), (0, .ref (ad 1))]) hx hb dX9_measure_6 rfl hl (by decide) rfl (fun ls hl => ?_)
  refine t_X9_measure_l7 C hB ?_ _ _ _ _ h _ _ _ hW hS (lv_sub hl [2, 1, 0] rfl)
  intro S_9 h H locs ls hW hS hl
  cases h
  exact g_vret hx hb hr hlocks hW hS dX9_measure_33
theorem c_X9_measure (hB : Lk L) {S : St} {S9 : St} (h : f_X9_measure N S = some S9) : Met l yX9_measure (gws yX9_measure cX9_measure 3 none) (rmk 2) (va_Pc [.ref (ad 1)] (WU g A ad L S)) (qv g A ad L S9) 0 0 A :=
  g_met [.ref (ad 1)] (by decide) (Nat.le_of_ble_eq_true rfl) (fun p e s m below meth c ls C hW hl _ => t_X9_measure C hB h hW va_S.rf hl)
theorem hv_X9_measure : yX9_measure.cls = RX9 ∧ yX9_measure.cls ≠ "java/lang/invoke/MethodHandle" ∧ yX9_measure.cls ≠ "java/lang/invoke/VarHandle" ∧ (parseMethodDescriptor yX9_measure.desc).map (fun d => d.parameters.length) = some 0 := by decide +kernel
/-! DroveRoads$Road.lengthen -/
def f_X9_lengthen (N : Nat) (S : St) (p1 : Int32) : Option (Int32 × St) := if (gv S 1 0) < 10 then (if ((gv S 1 0) - 1) < 0 ∨ 10 ≤ ix ((gv S 1 0) - 1) then none else bn (sv S 11 (ix ((gv S 1 0) - 1)) p1) fun S_3 => bn (sv S_3 1 0 ((gv S_3 1 0) + 1)) fun S_4 => cl0 (f_X9_measure N S_4) fun S_6 => cl0 (f_X9_fair S_6) fun r_8 => some (r_8, S_6)) else (some ((-1), S))
set_option maxHeartbeats 4000000 in
theorem t_X9_lengthen (C : MC p s m args meth c cX9_lengthen 2 (some .int) RX9 g A) (hB : Lk L) {S : St} {r : Int32} {S9 : St} {p1 : Int32} (h : f_X9_lengthen N S p1 = some (r, S9)) {H : Heap} {locs : List Loc} {ls : Array Slot} (hW : GW g A ad L S H) (hS : va_S A s.heap H locs) (hl : lv_has ls 2 [(0, .ref (ad 1)), (1, .int p1)]) : W p l e (rmk 3) s m args below meth c H locs 0 0 (MQ below (qi g A ad L r S9) args s 0 0 A) (F0 m 0 ls []) := by
  obtain ⟨hx, hb, hml, hown, hts, hr, hlocks, hK, hN, hT⟩ := id C
  unfold f_X9_lengthen at h
  refine lv_aload_n hx hb dX9_lengthen_0 rfl (lv_at hl 0 rfl) ?_
  refine g_get (C := RX9) (T := TX9) (N := 7) (ci := 9) hx hb hts inX9 hown hK hW (hB 1 bb_1) kd_1 rfl 0 (by decide) mw_98 rfl rfl dX9_lengthen_1 ?_
  refine lv_bipush (v := 10) hx hb dX9_lengthen_4 (by decide) ?_
  refine lv_icmp_lt (tgt := 11) hx hb dX9_lengthen_6 (by decide) (fun c_1 => ?_) (fun c_1 => ?_)
  · have h := it_t c_1 h
    refine lv_aload_n hx hb dX9_lengthen_11 rfl (lv_at hl 0 rfl) ?_
    refine g_get (C := RX9) (T := TX9) (N := 7) (ci := 9) hx hb hts inX9 hown hK hW (hB 1 bb_1) kd_1 rfl 1 (by decide) mw_100 rfl rfl dX9_lengthen_12 ?_
    refine lv_aload_n hx hb dX9_lengthen_15 rfl (lv_at hl 0 rfl) ?_
    refine g_get (C := RX9) (T := TX9) (N := 7) (ci := 9) hx hb hts inX9 hown hK hW (hB 1 bb_1) kd_1 rfl 0 (by decide) mw_98 rfl rfl dX9_lengthen_16 ?_
    refine lv_iconst (v := 1) hx hb dX9_lengthen_19 (by decide) ?_
    refine lv_isub hx hb dX9_lengthen_20 ?_
    refine lv_iload_n hx hb dX9_lengthen_21 rfl (lv_at hl 1 rfl) ?_
    obtain ⟨hi_2, h⟩ := ck_n h
    refine g_iast hx hb hK hW hS (hB 11 bb_11) (fun _ => kd_11) hi_2 dX9_lengthen_22 (fun S_3 eS_3 H locs hW hS => ?_)
    have h := bn_at eS_3 h
    refine lv_aload_n hx hb dX9_lengthen_23 rfl (lv_at hl 0 rfl) ?_
    refine lv_dup hx hb dX9_lengthen_24 rfl ?_
    refine g_get (C := RX9) (T := TX9) (N := 7) (ci := 9) hx hb hts inX9 hown hK hW (hB 1 bb_1) kd_1 rfl 0 (by decide) mw_98 rfl rfl dX9_lengthen_25 ?_
    refine lv_iconst (v := 1) hx hb dX9_lengthen_28 (by decide) ?_
    refine lv_iadd hx hb dX9_lengthen_29 ?_
    refine g_put (C := RX9) (T := TX9) (N := 7) (ci := 9) hx hb hts inX9 tyX9 tyX9_ok nmX9 hown hK hW hS (hB 1 bb_1) kd_1 rfl 0 (by decide) mw_98 rfl rfl rfl rfl (Nat.le_of_ble_eq_true rfl) (sv S_3 1 0 ((gv S_3 1 0) + 1)) (ps_1_0) cellOf_sv dX9_lengthen_30 (fun S_4 eS_4 H locs hW hS => ?_)
    have h := bn_at eS_4 h
    refine lv_aload_n hx hb dX9_lengthen_33 rfl (lv_at hl 0 rfl) ?_
    obtain ⟨S_6, hc_5, h⟩ := cl0_ex h
    refine g_cv (g_runV (ci := 9) (o := 1) (As := []) (rest := []) hx hb hml hown hts hK hN hT hS hW (c_X9_measure hB hc_5) (hB 1 bb_1) kd_1 rfl (gw_V mw_299 mw_301 mw_0 mw_67 mw_302) hv_X9_measure rfl rfl rfl (rm_ok (by decide) (by decide)) hl.1 (Nat.le_of_ble_eq_true rfl) dX9_lengthen_34 rfl ⟨Nat.zero_le _, Nat.zero_le _⟩) hS (fun H locs hW hS => ?_)
    refine lv_aload_n hx hb dX9_lengthen_37 rfl (lv_at hl 0 rfl) ?_
    obtain ⟨r_8, hc_7, h⟩ := cl0_ex h
    refine g_ci (g_runV (ci := 9) (o := 1) (As := []) (rest := []) hx hb hml hown hts hK hN hT hS hW (c_X9_fair hB hc_7) (hB 1 bb_1) kd_1 rfl (gw_V mw_303 mw_304 mw_305 mw_67 mw_306) hv_X9_fair rfl rfl rfl (rm_ok (by decide) (by decide)) hl.1 (Nat.le_of_ble_eq_true rfl) dX9_lengthen_38 rfl ⟨Nat.zero_le _, Nat.zero_le _⟩) hS (fun H locs hW hS => ?_)
    cases h
    exact g_iret hx hb hr hlocks hW hS dX9_lengthen_41
  · have h := it_f c_1 h
    refine lv_iconst (v := (-1)) hx hb dX9_lengthen_9 (by decide) ?_
    cases h
    exact g_iret hx hb hr hlocks hW hS dX9_lengthen_10
theorem c_X9_lengthen (hB : Lk L) {S : St} {r : Int32} {S9 : St} {p1 : Int32} (h : f_X9_lengthen N S p1 = some (r, S9)) : Met l yX9_lengthen (gws yX9_lengthen cX9_lengthen 2 (some .int)) (rmk 3) (va_Pc [.ref (ad 1), .int p1] (WU g A ad L S)) (qi g A ad L r S9) 0 0 A :=
  g_met [.ref (ad 1), .int p1] (by decide) (Nat.le_of_ble_eq_true rfl) (fun p e s m below meth c ls C hW hl _ => t_X9_lengthen C hB h hW va_S.rf hl)
theorem hv_X9_lengthen : yX9_lengthen.cls = RX9 ∧ yX9_lengthen.cls ≠ "java/lang/invoke/MethodHandle" ∧ yX9_lengthen.cls ≠ "java/lang/invoke/VarHandle" ∧ (parseMethodDescriptor yX9_lengthen.desc).map (fun d => d.parameters.length) = some 1 := by decide +kernel
/-! DroveRoads$Road.setFirstMiles -/
def f_X9_setFirstMiles (N : Nat) (S : St) (p1 : Int32) : Option (St) := bn (sv S 11 (ix 0) p1) fun S_1 => cl0 (f_X9_measure N S_1) fun S_3 => some S_3
set_option maxHeartbeats 4000000 in
theorem t_X9_setFirstMiles (C : MC p s m args meth c cX9_setFirstMiles 2 none RX9 g A) (hB : Lk L) {S : St} {S9 : St} {p1 : Int32} (h : f_X9_setFirstMiles N S p1 = some S9) {H : Heap} {locs : List Loc} {ls : Array Slot} (hW : GW g A ad L S H) (hS : va_S A s.heap H locs) (hl : lv_has ls 2 [(0, .ref (ad 1)), (1, .int p1)]) : W p l e (rmk 3) s m args below meth c H locs 0 0 (MQ below (qv g A ad L S9) args s 0 0 A) (F0 m 0 ls []) := by
  obtain ⟨hx, hb, hml, hown, hts, hr, hlocks, hK, hN, hT⟩ := id C
  unfold f_X9_setFirstMiles at h
  refine lv_aload_n hx hb dX9_setFirstMiles_0 rfl (lv_at hl 0 rfl) ?_
  refine g_get (C := RX9) (T := TX9) (N := 7) (ci := 9) hx hb hts inX9 hown hK hW (hB 1 bb_1) kd_1 rfl 1 (by decide) mw_100 rfl rfl dX9_setFirstMiles_1 ?_
  refine lv_iconst (v := 0) hx hb dX9_setFirstMiles_4 (by decide) ?_
  refine lv_iload_n hx hb dX9_setFirstMiles_5 rfl (lv_at hl 1 rfl) ?_
  refine g_iast hx hb hK hW hS (hB 11 bb_11) (fun _ => kd_11) (by decide) dX9_setFirstMiles_6 (fun S_1 eS_1 H locs hW hS => ?_)
  have h := bn_at eS_1 h
  refine lv_aload_n hx hb dX9_setFirstMiles_7 rfl (lv_at hl 0 rfl) ?_
  obtain ⟨S_3, hc_2, h⟩ := cl0_ex h
  refine g_cv (g_runV (ci := 9) (o := 1) (As := []) (rest := []) hx hb hml hown hts hK hN hT hS hW (c_X9_measure hB hc_2) (hB 1 bb_1) kd_1 rfl (gw_V mw_299 mw_301 mw_0 mw_67 mw_302) hv_X9_measure rfl rfl rfl (rm_ok (by decide) (by decide)) hl.1 (Nat.le_of_ble_eq_true rfl) dX9_setFirstMiles_8 rfl ⟨Nat.zero_le _, Nat.zero_le _⟩) hS (fun H locs hW hS => ?_)
  cases h
  exact g_vret hx hb hr hlocks hW hS dX9_setFirstMiles_11
theorem c_X9_setFirstMiles (hB : Lk L) {S : St} {S9 : St} {p1 : Int32} (h : f_X9_setFirstMiles N S p1 = some S9) : Met l yX9_setFirstMiles (gws yX9_setFirstMiles cX9_setFirstMiles 2 none) (rmk 3) (va_Pc [.ref (ad 1), .int p1] (WU g A ad L S)) (qv g A ad L S9) 0 0 A :=
  g_met [.ref (ad 1), .int p1] (by decide) (Nat.le_of_ble_eq_true rfl) (fun p e s m below meth c ls C hW hl _ => t_X9_setFirstMiles C hB h hW va_S.rf hl)
theorem hv_X9_setFirstMiles : yX9_setFirstMiles.cls = RX9 ∧ yX9_setFirstMiles.cls ≠ "java/lang/invoke/MethodHandle" ∧ yX9_setFirstMiles.cls ≠ "java/lang/invoke/VarHandle" ∧ (parseMethodDescriptor yX9_setFirstMiles.desc).map (fun d => d.parameters.length) = some 1 := by decide +kernel
/-! DroveRoads$Road.milesOfStage -/
def f_X9_milesOfStage (S : St) (p1 : Int32) : Option (Int32) := cl0 (f_X9_has S p1) fun r_2 => if r_2 = 0 then (some 0) else (if p1 < 0 ∨ 10 ≤ ix p1 then none else some (gv S 11 (ix p1)))
set_option maxHeartbeats 4000000 in
theorem t_X9_milesOfStage (C : MC p s m args meth c cX9_milesOfStage 2 (some .int) RX9 g A) (hB : Lk L) {S : St} {r : Int32} {p1 : Int32} (h : f_X9_milesOfStage S p1 = some r) {H : Heap} {locs : List Loc} {ls : Array Slot} (hW : GW g A ad L S H) (hS : va_S A s.heap H locs) (hl : lv_has ls 2 [(0, .ref (ad 1)), (1, .int p1)]) : W p l e (rmk 2) s m args below meth c H locs 0 0 (MQ below (qi g A ad L r S) args s 0 0 A) (F0 m 0 ls []) := by
  obtain ⟨hx, hb, hml, hown, hts, hr, hlocks, hK, hN, hT⟩ := id C
  unfold f_X9_milesOfStage at h
  refine lv_aload_n hx hb dX9_milesOfStage_0 rfl (lv_at hl 0 rfl) ?_
  refine lv_iload_n hx hb dX9_milesOfStage_1 rfl (lv_at hl 1 rfl) ?_
  obtain ⟨r_2, hc_1, h⟩ := cl0_ex h
  refine g_cz (g_runV (ci := 9) (o := 1) (As := [.int p1]) (rest := []) hx hb hml hown hts hK hN hT hS hW (c_X9_has hB hc_1) (hB 1 bb_1) kd_1 rfl (gw_V mw_324 mw_325 mw_326 mw_67 mw_327) hv_X9_has rfl rfl rfl (rm_ok (by decide) (by decide)) hl.1 (Nat.le_of_ble_eq_true rfl) dX9_milesOfStage_2 rfl ⟨Nat.zero_le _, Nat.zero_le _⟩) hS (fun hz_3 H locs hW hS => ?_)
  refine lv_if_eq (tgt := 17) hx hb dX9_milesOfStage_5 (by decide) (fun c_4 => ?_) (fun c_4 => ?_)
  · have h := it_t c_4 h
    refine lv_iconst (v := 0) hx hb dX9_milesOfStage_17 (by decide) ?_
    cases h
    exact g_iret hx hb hr hlocks hW hS dX9_milesOfStage_18
  · have h := it_f c_4 h
    refine lv_aload_n hx hb dX9_milesOfStage_8 rfl (lv_at hl 0 rfl) ?_
    refine g_get (C := RX9) (T := TX9) (N := 7) (ci := 9) hx hb hts inX9 hown hK hW (hB 1 bb_1) kd_1 rfl 1 (by decide) mw_100 rfl rfl dX9_milesOfStage_9 ?_
    refine lv_iload_n hx hb dX9_milesOfStage_12 rfl (lv_at hl 1 rfl) ?_
    obtain ⟨hi_5, h⟩ := ck_n h
    refine g_iald hx hb hK hW (hB 11 bb_11) kd_11 hi_5 dX9_milesOfStage_13 ?_
    refine lv_goto (tgt := 18) hx hb dX9_milesOfStage_14 (by decide) ?_
    cases h
    exact g_iret hx hb hr hlocks hW hS dX9_milesOfStage_18
theorem c_X9_milesOfStage (hB : Lk L) {S : St} {r : Int32} {p1 : Int32} (h : f_X9_milesOfStage S p1 = some r) : Met l yX9_milesOfStage (gws yX9_milesOfStage cX9_milesOfStage 2 (some .int)) (rmk 2) (va_Pc [.ref (ad 1), .int p1] (WU g A ad L S)) (qi g A ad L r S) 0 0 A :=
  g_met [.ref (ad 1), .int p1] (by decide) (Nat.le_of_ble_eq_true rfl) (fun p e s m below meth c ls C hW hl _ => t_X9_milesOfStage C hB h hW va_S.rf hl)
theorem hv_X9_milesOfStage : yX9_milesOfStage.cls = RX9 ∧ yX9_milesOfStage.cls ≠ "java/lang/invoke/MethodHandle" ∧ yX9_milesOfStage.cls ≠ "java/lang/invoke/VarHandle" ∧ (parseMethodDescriptor yX9_milesOfStage.desc).map (fun d => d.parameters.length) = some 1 := by decide +kernel
/-! DroveRoads$Road.milesToFair -/
def f_X9_milesToFair (S : St) (p1 : Int32) : Option (Int32) := cl0 (f_X9_has S p1) fun r_2 => if r_2 = 0 then (some 0) else (if p1 < 0 ∨ 10 ≤ ix p1 then none else some (gv S 12 (ix p1)))
set_option maxHeartbeats 4000000 in
theorem t_X9_milesToFair (C : MC p s m args meth c cX9_milesToFair 2 (some .int) RX9 g A) (hB : Lk L) {S : St} {r : Int32} {p1 : Int32} (h : f_X9_milesToFair S p1 = some r) {H : Heap} {locs : List Loc} {ls : Array Slot} (hW : GW g A ad L S H) (hS : va_S A s.heap H locs) (hl : lv_has ls 2 [(0, .ref (ad 1)), (1, .int p1)]) : W p l e (rmk 2) s m args below meth c H locs 0 0 (MQ below (qi g A ad L r S) args s 0 0 A) (F0 m 0 ls []) := by
  obtain ⟨hx, hb, hml, hown, hts, hr, hlocks, hK, hN, hT⟩ := id C
  unfold f_X9_milesToFair at h
  refine lv_aload_n hx hb dX9_milesToFair_0 rfl (lv_at hl 0 rfl) ?_
  refine lv_iload_n hx hb dX9_milesToFair_1 rfl (lv_at hl 1 rfl) ?_
  obtain ⟨r_2, hc_1, h⟩ := cl0_ex h
  refine g_cz (g_runV (ci := 9) (o := 1) (As := [.int p1]) (rest := []) hx hb hml hown hts hK hN hT hS hW (c_X9_has hB hc_1) (hB 1 bb_1) kd_1 rfl (gw_V mw_324 mw_325 mw_326 mw_67 mw_327) hv_X9_has rfl rfl rfl (rm_ok (by decide) (by decide)) hl.1 (Nat.le_of_ble_eq_true rfl) dX9_milesToFair_2 rfl ⟨Nat.zero_le _, Nat.zero_le _⟩) hS (fun hz_3 H locs hW hS => ?_)
  refine lv_if_eq (tgt := 17) hx hb dX9_milesToFair_5 (by decide) (fun c_4 => ?_) (fun c_4 => ?_)
  · have h := it_t c_4 h
    refine lv_iconst (v := 0) hx hb dX9_milesToFair_17 (by decide) ?_
    cases h
    exact g_iret hx hb hr hlocks hW hS dX9_milesToFair_18
  · have h := it_f c_4 h
    refine lv_aload_n hx hb dX9_milesToFair_8 rfl (lv_at hl 0 rfl) ?_
    refine g_get (C := RX9) (T := TX9) (N := 7) (ci := 9) hx hb hts inX9 hown hK hW (hB 1 bb_1) kd_1 rfl 2 (by decide) mw_101 rfl rfl dX9_milesToFair_9 ?_
    refine lv_iload_n hx hb dX9_milesToFair_12 rfl (lv_at hl 1 rfl) ?_
    obtain ⟨hi_5, h⟩ := ck_n h
    refine g_iald hx hb hK hW (hB 12 bb_12) kd_12 hi_5 dX9_milesToFair_13 ?_
    refine lv_goto (tgt := 18) hx hb dX9_milesToFair_14 (by decide) ?_
    cases h
    exact g_iret hx hb hr hlocks hW hS dX9_milesToFair_18
theorem c_X9_milesToFair (hB : Lk L) {S : St} {r : Int32} {p1 : Int32} (h : f_X9_milesToFair S p1 = some r) : Met l yX9_milesToFair (gws yX9_milesToFair cX9_milesToFair 2 (some .int)) (rmk 2) (va_Pc [.ref (ad 1), .int p1] (WU g A ad L S)) (qi g A ad L r S) 0 0 A :=
  g_met [.ref (ad 1), .int p1] (by decide) (Nat.le_of_ble_eq_true rfl) (fun p e s m below meth c ls C hW hl _ => t_X9_milesToFair C hB h hW va_S.rf hl)
theorem hv_X9_milesToFair : yX9_milesToFair.cls = RX9 ∧ yX9_milesToFair.cls ≠ "java/lang/invoke/MethodHandle" ∧ yX9_milesToFair.cls ≠ "java/lang/invoke/VarHandle" ∧ (parseMethodDescriptor yX9_milesToFair.desc).map (fun d => d.parameters.length) = some 1 := by decide +kernel
/-! DroveRoads$Road.grassAt -/
def f_X9_grassAt (S : St) (p1 : Int32) : Option (Int32) := cl0 (f_X9_has S p1) fun r_2 => if r_2 = 0 then (some 0) else (if p1 < 0 ∨ 10 ≤ ix p1 then none else some (gv S 13 (ix p1)))
set_option maxHeartbeats 4000000 in
theorem t_X9_grassAt (C : MC p s m args meth c cX9_grassAt 2 (some .int) RX9 g A) (hB : Lk L) {S : St} {r : Int32} {p1 : Int32} (h : f_X9_grassAt S p1 = some r) {H : Heap} {locs : List Loc} {ls : Array Slot} (hW : GW g A ad L S H) (hS : va_S A s.heap H locs) (hl : lv_has ls 2 [(0, .ref (ad 1)), (1, .int p1)]) : W p l e (rmk 2) s m args below meth c H locs 0 0 (MQ below (qi g A ad L r S) args s 0 0 A) (F0 m 0 ls []) := by
  obtain ⟨hx, hb, hml, hown, hts, hr, hlocks, hK, hN, hT⟩ := id C
  unfold f_X9_grassAt at h
  refine lv_aload_n hx hb dX9_grassAt_0 rfl (lv_at hl 0 rfl) ?_
  refine lv_iload_n hx hb dX9_grassAt_1 rfl (lv_at hl 1 rfl) ?_
  obtain ⟨r_2, hc_1, h⟩ := cl0_ex h
  refine g_cz (g_runV (ci := 9) (o := 1) (As := [.int p1]) (rest := []) hx hb hml hown hts hK hN hT hS hW (c_X9_has hB hc_1) (hB 1 bb_1) kd_1 rfl (gw_V mw_324 mw_325 mw_326 mw_67 mw_327) hv_X9_has rfl rfl rfl (rm_ok (by decide) (by decide)) hl.1 (Nat.le_of_ble_eq_true rfl) dX9_grassAt_2 rfl ⟨Nat.zero_le _, Nat.zero_le _⟩) hS (fun hz_3 H locs hW hS => ?_)
  refine lv_if_eq (tgt := 17) hx hb dX9_grassAt_5 (by decide) (fun c_4 => ?_) (fun c_4 => ?_)
  · have h := it_t c_4 h
    refine lv_iconst (v := 0) hx hb dX9_grassAt_17 (by decide) ?_
    cases h
    exact g_iret hx hb hr hlocks hW hS dX9_grassAt_18
  · have h := it_f c_4 h
    refine lv_aload_n hx hb dX9_grassAt_8 rfl (lv_at hl 0 rfl) ?_
    refine g_get (C := RX9) (T := TX9) (N := 7) (ci := 9) hx hb hts inX9 hown hK hW (hB 1 bb_1) kd_1 rfl 3 (by decide) mw_102 rfl rfl dX9_grassAt_9 ?_
    refine lv_iload_n hx hb dX9_grassAt_12 rfl (lv_at hl 1 rfl) ?_
    obtain ⟨hi_5, h⟩ := ck_n h
    refine g_iald hx hb hK hW (hB 13 bb_13) kd_13 hi_5 dX9_grassAt_13 ?_
    refine lv_goto (tgt := 18) hx hb dX9_grassAt_14 (by decide) ?_
    cases h
    exact g_iret hx hb hr hlocks hW hS dX9_grassAt_18
theorem c_X9_grassAt (hB : Lk L) {S : St} {r : Int32} {p1 : Int32} (h : f_X9_grassAt S p1 = some r) : Met l yX9_grassAt (gws yX9_grassAt cX9_grassAt 2 (some .int)) (rmk 2) (va_Pc [.ref (ad 1), .int p1] (WU g A ad L S)) (qi g A ad L r S) 0 0 A :=
  g_met [.ref (ad 1), .int p1] (by decide) (Nat.le_of_ble_eq_true rfl) (fun p e s m below meth c ls C hW hl _ => t_X9_grassAt C hB h hW va_S.rf hl)
theorem hv_X9_grassAt : yX9_grassAt.cls = RX9 ∧ yX9_grassAt.cls ≠ "java/lang/invoke/MethodHandle" ∧ yX9_grassAt.cls ≠ "java/lang/invoke/VarHandle" ∧ (parseMethodDescriptor yX9_grassAt.desc).map (fun d => d.parameters.length) = some 1 := by decide +kernel
/-! DroveRoads$Road.sow -/
def f_X9_sow_j37 (S : St) (v1 : Int32) (v2 : Int32) (v3 : Int32) (v4 : Int32) (w100 : Int32) : Option (Int32 × St) := if w100 = 0 then (some (0, S)) else (cl0 (f_X9_has S v1) fun r_7 => if r_7 = 0 then (some (0, S)) else (cl0 (f_X9_fair S) fun r_11 => if v1 = r_11 then (some (0, S)) else (if v1 < 0 ∨ 10 ≤ ix v1 then none else bn (sv S 13 (ix v1) v2) fun S_14 => if v1 < 0 ∨ 10 ≤ ix v1 then none else bn (sv S_14 14 (ix v1) v3) fun S_16 => if v1 < 0 ∨ 10 ≤ ix v1 then none else bn (sv S_16 15 (ix v1) v4) fun S_18 => some (1, S_18))))
set_option maxHeartbeats 4000000 in
theorem t_X9_sow_j37 (C : MC p s m args meth c cX9_sow 6 (some .boolean) RX9 g A) (hB : Lk L) {S : St} {r : Int32} {S9 : St} {v1 : Int32} {v2 : Int32} {v3 : Int32} {v4 : Int32} {w100 : Int32} (h : f_X9_sow_j37 S v1 v2 v3 v4 w100 = some (r, S9)) {H : Heap} {locs : List Loc} {ls : Array Slot} (hW : GW g A ad L S H) (hS : va_S A s.heap H locs) (hl : lv_has ls 6 [(0, .ref (ad 1)), (1, .int v1), (2, .int v2), (3, .int v3), (4, .int v4)]) : W p l e (rmk 2) s m args below meth c H locs 0 0 (MQ below (qz g A ad L r S9) args s 0 0 A) (F0 m 37 ls [.int w100]) := by
  obtain ⟨hx, hb, hml, hown, hts, hr, hlocks, hK, hN, hT⟩ := id C
  unfold f_X9_sow_j37 at h
  refine lv_istore (lv' := [(5, .int w100), (0, .ref (ad 1)), (1, .int v1), (2, .int v2), (3, .int v3), (4, .int v4)]) hx hb dX9_sow_37 hl (by decide) rfl (fun ls hl => ?_)
  refine lv_iload hx hb dX9_sow_39 (lv_at hl 0 rfl) ?_
  refine lv_if_eq (tgt := 60) hx hb dX9_sow_41 (by decide) (fun c_5 => ?_) (fun c_5 => ?_)
  · have h := it_t c_5 h
    refine lv_iconst (v := 0) hx hb dX9_sow_60 (by decide) ?_
    cases h
    exact g_zret hx hb hr hlocks hW hS (rfl) dX9_sow_61
  · have h := it_f c_5 h
    refine lv_aload_n hx hb dX9_sow_44 rfl (lv_at hl 1 rfl) ?_
    refine lv_iload_n hx hb dX9_sow_45 rfl (lv_at hl 2 rfl) ?_
    obtain ⟨r_7, hc_6, h⟩ := cl0_ex h
    refine g_cz (g_runV (ci := 9) (o := 1) (As := [.int v1]) (rest := []) hx hb hml hown hts hK hN hT hS hW (c_X9_has hB hc_6) (hB 1 bb_1) kd_1 rfl (gw_V mw_324 mw_325 mw_326 mw_67 mw_327) hv_X9_has rfl rfl rfl (rm_ok (by decide) (by decide)) hl.1 (Nat.le_of_ble_eq_true rfl) dX9_sow_46 rfl ⟨Nat.zero_le _, Nat.zero_le _⟩) hS (fun hz_8 H locs hW hS => ?_)
    refine lv_if_eq (tgt := 60) hx hb dX9_sow_49 (by decide) (fun c_9 => ?_) (fun c_9 => ?_)
    · have h := it_t c_9 h
      refine lv_iconst (v := 0) hx hb dX9_sow_60 (by decide) ?_
      cases h
      exact g_zret hx hb hr hlocks hW hS (rfl) dX9_sow_61
    · have h := it_f c_9 h
      refine lv_iload_n hx hb dX9_sow_52 rfl (lv_at hl 2 rfl) ?_
      refine lv_aload_n hx hb dX9_sow_53 rfl (lv_at hl 1 rfl) ?_
      obtain ⟨r_11, hc_10, h⟩ := cl0_ex h
      refine g_ci (g_runV (ci := 9) (o := 1) (As := []) (rest := [.int v1]) hx hb hml hown hts hK hN hT hS hW (c_X9_fair hB hc_10) (hB 1 bb_1) kd_1 rfl (gw_V mw_303 mw_304 mw_305 mw_67 mw_306) hv_X9_fair rfl rfl rfl (rm_ok (by decide) (by decide)) hl.1 (Nat.le_of_ble_eq_true rfl) dX9_sow_54 rfl ⟨Nat.zero_le _, Nat.zero_le _⟩) hS (fun H locs hW hS => ?_)
      refine lv_icmp_ne (tgt := 62) hx hb dX9_sow_57 (by decide) (fun c_12 => ?_) (fun c_12 => ?_)
      · have h := it_f c_12 h
        refine lv_aload_n hx hb dX9_sow_62 rfl (lv_at hl 1 rfl) ?_
        refine g_get (C := RX9) (T := TX9) (N := 7) (ci := 9) hx hb hts inX9 hown hK hW (hB 1 bb_1) kd_1 rfl 3 (by decide) mw_102 rfl rfl dX9_sow_63 ?_
        refine lv_iload_n hx hb dX9_sow_66 rfl (lv_at hl 2 rfl) ?_
        refine lv_iload_n hx hb dX9_sow_67 rfl (lv_at hl 3 rfl) ?_
        obtain ⟨hi_13, h⟩ := ck_n h
        refine g_iast hx hb hK hW hS (hB 13 bb_13) (fun _ => kd_13) hi_13 dX9_sow_68 (fun S_14 eS_14 H locs hW hS => ?_)
        have h := bn_at eS_14 h
        refine lv_aload_n hx hb dX9_sow_69 rfl (lv_at hl 1 rfl) ?_
        refine g_get (C := RX9) (T := TX9) (N := 7) (ci := 9) hx hb hts inX9 hown hK hW (hB 1 bb_1) kd_1 rfl 4 (by decide) mw_103 rfl rfl dX9_sow_70 ?_
        refine lv_iload_n hx hb dX9_sow_73 rfl (lv_at hl 2 rfl) ?_
        refine lv_iload_n hx hb dX9_sow_74 rfl (lv_at hl 4 rfl) ?_
        obtain ⟨hi_15, h⟩ := ck_n h
        refine g_iast hx hb hK hW hS (hB 14 bb_14) (fun _ => kd_14) hi_15 dX9_sow_75 (fun S_16 eS_16 H locs hW hS => ?_)
        have h := bn_at eS_16 h
        refine lv_aload_n hx hb dX9_sow_76 rfl (lv_at hl 1 rfl) ?_
        refine g_get (C := RX9) (T := TX9) (N := 7) (ci := 9) hx hb hts inX9 hown hK hW (hB 1 bb_1) kd_1 rfl 5 (by decide) mw_104 rfl rfl dX9_sow_77 ?_
        refine lv_iload_n hx hb dX9_sow_80 rfl (lv_at hl 2 rfl) ?_
        refine lv_iload hx hb dX9_sow_81 (lv_at hl 5 rfl) ?_
        obtain ⟨hi_17, h⟩ := ck_n h
        refine g_iast hx hb hK hW hS (hB 15 bb_15) (fun _ => kd_15) hi_17 dX9_sow_83 (fun S_18 eS_18 H locs hW hS => ?_)
        have h := bn_at eS_18 h
        refine lv_iconst (v := 1) hx hb dX9_sow_84 (by decide) ?_
        cases h
        exact g_zret hx hb hr hlocks hW hS (rfl) dX9_sow_85
      · have h := it_t c_12 h
        refine lv_iconst (v := 0) hx hb dX9_sow_60 (by decide) ?_
        cases h
        exact g_zret hx hb hr hlocks hW hS (rfl) dX9_sow_61
def f_X9_sow_j36 (S : St) (v1 : Int32) (v2 : Int32) (v3 : Int32) (v4 : Int32) : Option (Int32 × St) := f_X9_sow_j37 S v1 v2 v3 v4 0
set_option maxHeartbeats 4000000 in
theorem t_X9_sow_j36 (C : MC p s m args meth c cX9_sow 6 (some .boolean) RX9 g A) (hB : Lk L) {S : St} {r : Int32} {S9 : St} {v1 : Int32} {v2 : Int32} {v3 : Int32} {v4 : Int32} (h : f_X9_sow_j36 S v1 v2 v3 v4 = some (r, S9)) {H : Heap} {locs : List Loc} {ls : Array Slot} (hW : GW g A ad L S H) (hS : va_S A s.heap H locs) (hl : lv_has ls 6 [(0, .ref (ad 1)), (1, .int v1), (2, .int v2), (3, .int v3), (4, .int v4)]) : W p l e (rmk 2) s m args below meth c H locs 0 0 (MQ below (qz g A ad L r S9) args s 0 0 A) (F0 m 36 ls []) := by
  obtain ⟨hx, hb, hml, hown, hts, hr, hlocks, hK, hN, hT⟩ := id C
  unfold f_X9_sow_j36 at h
  refine lv_iconst (v := 0) hx hb dX9_sow_36 (by decide) ?_
  exact t_X9_sow_j37 C hB h hW hS (lv_sub hl [0, 1, 2, 3, 4] rfl)
def f_X9_sow (S : St) (p1 : Int32) (p2 : Int32) (p3 : Int32) (p4 : Int32) : Option (Int32 × St) := cl0 (f_X10_within S p4 0 100000) fun r_2 => if r_2 = 0 then (f_X9_sow_j36 S p1 p2 p3 p4) else (cl0 (f_X10_within S p2 0 p4) fun r_20 => if r_20 = 0 then (f_X9_sow_j36 S p1 p2 p3 p4) else (cl0 (f_X10_within S p3 0 1000) fun r_24 => if r_24 = 0 then (f_X9_sow_j36 S p1 p2 p3 p4) else (f_X9_sow_j37 S p1 p2 p3 p4 1)))
set_option maxHeartbeats 4000000 in
theorem t_X9_sow (C : MC p s m args meth c cX9_sow 6 (some .boolean) RX9 g A) (hB : Lk L) {S : St} {r : Int32} {S9 : St} {p1 : Int32} {p2 : Int32} {p3 : Int32} {p4 : Int32} (h : f_X9_sow S p1 p2 p3 p4 = some (r, S9)) {H : Heap} {locs : List Loc} {ls : Array Slot} (hW : GW g A ad L S H) (hS : va_S A s.heap H locs) (hl : lv_has ls 6 [(0, .ref (ad 1)), (1, .int p1), (2, .int p2), (3, .int p3), (4, .int p4)]) : W p l e (rmk 2) s m args below meth c H locs 0 0 (MQ below (qz g A ad L r S9) args s 0 0 A) (F0 m 0 ls []) := by
  obtain ⟨hx, hb, hml, hown, hts, hr, hlocks, hK, hN, hT⟩ := id C
  unfold f_X9_sow at h
  refine lv_iload hx hb dX9_sow_0 (lv_at hl 4 rfl) ?_
  refine lv_iconst (v := 0) hx hb dX9_sow_2 (by decide) ?_
  refine lv_ldc (v := 100000) hx hb hown (hts _ mw_323) dX9_sow_3 ?_
  obtain ⟨r_2, hc_1, h⟩ := cl0_ex h
  refine g_cz (g_runSN (As := [.int p4, .int 0, .int 100000]) (rest := []) hx hb hml hown hts hK hN hT hS hW (c_X10_within hB hc_1) mw_294 (by decide +kernel) mw_66 mw_293 hs_X10_within rfl rfl rfl (rm_ok (by decide) (by decide)) hl.1 (Nat.le_of_ble_eq_true rfl) dX9_sow_5 rfl ⟨Nat.zero_le _, Nat.zero_le _⟩) hS (fun hz_3 H locs hW hS => ?_)
  refine lv_if_eq (tgt := 36) hx hb dX9_sow_8 (by decide) (fun c_4 => ?_) (fun c_4 => ?_)
  · have h := it_t c_4 h
    exact t_X9_sow_j36 C hB h hW hS (lv_sub hl [0, 1, 2, 3, 4] rfl)
  · have h := it_f c_4 h
    refine lv_iload_n hx hb dX9_sow_11 rfl (lv_at hl 2 rfl) ?_
    refine lv_iconst (v := 0) hx hb dX9_sow_12 (by decide) ?_
    refine lv_iload hx hb dX9_sow_13 (lv_at hl 4 rfl) ?_
    obtain ⟨r_20, hc_19, h⟩ := cl0_ex h
    refine g_cz (g_runSN (As := [.int p2, .int 0, .int p4]) (rest := []) hx hb hml hown hts hK hN hT hS hW (c_X10_within hB hc_19) mw_294 (by decide +kernel) mw_66 mw_293 hs_X10_within rfl rfl rfl (rm_ok (by decide) (by decide)) hl.1 (Nat.le_of_ble_eq_true rfl) dX9_sow_15 rfl ⟨Nat.zero_le _, Nat.zero_le _⟩) hS (fun hz_21 H locs hW hS => ?_)
    refine lv_if_eq (tgt := 36) hx hb dX9_sow_18 (by decide) (fun c_22 => ?_) (fun c_22 => ?_)
    · have h := it_t c_22 h
      exact t_X9_sow_j36 C hB h hW hS (lv_sub hl [0, 1, 2, 3, 4] rfl)
    · have h := it_f c_22 h
      refine lv_iload_n hx hb dX9_sow_21 rfl (lv_at hl 3 rfl) ?_
      refine lv_iconst (v := 0) hx hb dX9_sow_22 (by decide) ?_
      refine lv_sipush (v := 1000) hx hb dX9_sow_23 (by decide) ?_
      obtain ⟨r_24, hc_23, h⟩ := cl0_ex h
      refine g_cz (g_runSN (As := [.int p3, .int 0, .int 1000]) (rest := []) hx hb hml hown hts hK hN hT hS hW (c_X10_within hB hc_23) mw_294 (by decide +kernel) mw_66 mw_293 hs_X10_within rfl rfl rfl (rm_ok (by decide) (by decide)) hl.1 (Nat.le_of_ble_eq_true rfl) dX9_sow_26 rfl ⟨Nat.zero_le _, Nat.zero_le _⟩) hS (fun hz_25 H locs hW hS => ?_)
      refine lv_if_eq (tgt := 36) hx hb dX9_sow_29 (by decide) (fun c_26 => ?_) (fun c_26 => ?_)
      · have h := it_t c_26 h
        exact t_X9_sow_j36 C hB h hW hS (lv_sub hl [0, 1, 2, 3, 4] rfl)
      · have h := it_f c_26 h
        refine lv_iconst (v := 1) hx hb dX9_sow_32 (by decide) ?_
        refine lv_goto (tgt := 37) hx hb dX9_sow_33 (by decide) ?_
        exact t_X9_sow_j37 C hB h hW hS (lv_sub hl [0, 1, 2, 3, 4] rfl)
theorem c_X9_sow (hB : Lk L) {S : St} {r : Int32} {S9 : St} {p1 : Int32} {p2 : Int32} {p3 : Int32} {p4 : Int32} (h : f_X9_sow S p1 p2 p3 p4 = some (r, S9)) : Met l yX9_sow (gws yX9_sow cX9_sow 6 (some .boolean)) (rmk 2) (va_Pc [.ref (ad 1), .int p1, .int p2, .int p3, .int p4] (WU g A ad L S)) (qz g A ad L r S9) 0 0 A :=
  g_met [.ref (ad 1), .int p1, .int p2, .int p3, .int p4] (by decide) (Nat.le_of_ble_eq_true rfl) (fun p e s m below meth c ls C hW hl _ => t_X9_sow C hB h hW va_S.rf hl)
theorem hv_X9_sow : yX9_sow.cls = RX9 ∧ yX9_sow.cls ≠ "java/lang/invoke/MethodHandle" ∧ yX9_sow.cls ≠ "java/lang/invoke/VarHandle" ∧ (parseMethodDescriptor yX9_sow.desc).map (fun d => d.parameters.length) = some 4 := by decide +kernel
/-! DroveRoads$Road.grow -/
def f_X9_grow_l2 (N : Nat) (k : St → Option (St)) : Nat → St → Int32 → Option (St)
  | 0, _, _ => none
  | n + 1, S, v1 => if (gv S 1 0) ≤ v1 then (k S) else (if v1 < 0 ∨ 10 ≤ ix v1 then none else if v1 < 0 ∨ 10 ≤ ix v1 then none else if v1 < 0 ∨ 10 ≤ ix v1 then none else bn (if ((gv S 13 (ix v1)) + (gv S 14 (ix v1))) < (gv S 15 (ix v1)) then ((gv S 13 (ix v1)) + (gv S 14 (ix v1))) else (gv S 15 (ix v1))) fun x_5 => if v1 < 0 ∨ 10 ≤ ix v1 then none else bn (sv S 13 (ix v1) x_5) fun S_7 => bn (v1 + 1) fun x_8 => f_X9_grow_l2 N k n S_7 x_8)
set_option maxHeartbeats 4000000 in
theorem t_X9_grow_l2 (C : MC p s m args meth c cX9_grow 2 none RX9 g A) (hB : Lk L) {S9 : St} {k : St → Option (St)} (hk : ∀ (S : St), k S = some S9 → ∀ (H : Heap) (locs : List Loc) (ls : Array Slot), GW g A ad L S H → va_S A s.heap H locs → lv_has ls 2 [] → W p l e (rmk 1) s m args below meth c H locs 0 0 (MQ below (qv g A ad L S9) args s 0 0 A) (F0 m 44 ls [])) : ∀ (n : Nat) (S : St) (v1 : Int32), f_X9_grow_l2 N k n S v1 = some S9 → ∀ (H : Heap) (locs : List Loc) (ls : Array Slot), GW g A ad L S H → va_S A s.heap H locs → lv_has ls 2 [(0, .ref (ad 1)), (1, .int v1)] → W p l e (rmk 1) s m args below meth c H locs 0 0 (MQ below (qv g A ad L S9) args s 0 0 A) (F0 m 2 ls []) := by
  obtain ⟨hx, hb, hml, hown, hts, hr, hlocks, hK, hN, hT⟩ := id C
  intro n
  induction n with
  | zero =>
    intro S v1 h
    have h : (none : Option (St)) = some S9 := h
    cases h
  | succ n ih =>
    intro S v1 h H locs ls hW hS hl
    rw [f_X9_grow_l2] at h
    refine lv_iload_n hx hb dX9_grow_2 rfl (lv_at hl 1 rfl) ?_
    refine lv_aload_n hx hb dX9_grow_3 rfl (lv_at hl 0 rfl) ?_
    refine g_get (C := RX9) (T := TX9) (N := 7) (ci := 9) hx hb hts inX9 hown hK hW (hB 1 bb_1) kd_1 rfl 0 (by decide) mw_98 rfl rfl dX9_grow_4 ?_
    refine lv_icmp_ge (tgt := 44) hx hb dX9_grow_7 (by decide) (fun c_1 => ?_) (fun c_1 => ?_)
    · have h := it_t c_1 h
      exact hk _ h _ _ _ hW hS (lv_sub hl [] rfl)
    · have h := it_f c_1 h
      refine lv_aload_n hx hb dX9_grow_10 rfl (lv_at hl 0 rfl) ?_
      refine g_get (C := RX9) (T := TX9) (N := 7) (ci := 9) hx hb hts inX9 hown hK hW (hB 1 bb_1) kd_1 rfl 3 (by decide) mw_102 rfl rfl dX9_grow_11 ?_
      refine lv_iload_n hx hb dX9_grow_14 rfl (lv_at hl 1 rfl) ?_
      refine lv_aload_n hx hb dX9_grow_15 rfl (lv_at hl 0 rfl) ?_
      refine g_get (C := RX9) (T := TX9) (N := 7) (ci := 9) hx hb hts inX9 hown hK hW (hB 1 bb_1) kd_1 rfl 5 (by decide) mw_104 rfl rfl dX9_grow_16 ?_
      refine lv_iload_n hx hb dX9_grow_19 rfl (lv_at hl 1 rfl) ?_
      obtain ⟨hi_2, h⟩ := ck_n h
      refine g_iald hx hb hK hW (hB 15 bb_15) kd_15 hi_2 dX9_grow_20 ?_
      refine lv_aload_n hx hb dX9_grow_21 rfl (lv_at hl 0 rfl) ?_
      refine g_get (C := RX9) (T := TX9) (N := 7) (ci := 9) hx hb hts inX9 hown hK hW (hB 1 bb_1) kd_1 rfl 3 (by decide) mw_102 rfl rfl dX9_grow_22 ?_
      refine lv_iload_n hx hb dX9_grow_25 rfl (lv_at hl 1 rfl) ?_
      obtain ⟨hi_3, h⟩ := ck_n h
      refine g_iald hx hb hK hW (hB 13 bb_13) kd_13 hi_3 dX9_grow_26 ?_
      refine lv_aload_n hx hb dX9_grow_27 rfl (lv_at hl 0 rfl) ?_
      refine g_get (C := RX9) (T := TX9) (N := 7) (ci := 9) hx hb hts inX9 hown hK hW (hB 1 bb_1) kd_1 rfl 4 (by decide) mw_103 rfl rfl dX9_grow_28 ?_
      refine lv_iload_n hx hb dX9_grow_31 rfl (lv_at hl 1 rfl) ?_
      obtain ⟨hi_4, h⟩ := ck_n h
      refine g_iald hx hb hK hW (hB 14 bb_14) kd_14 hi_4 dX9_grow_32 ?_
      refine lv_iadd hx hb dX9_grow_33 ?_
      refine g_min (rest := [.int v1, .ref (ad 13)]) hx hb hml hl.1 hown hts mw_713 mw_445 mw_77 mw_cmin (by decide) (Nat.le_of_ble_eq_true rfl) (Nat.zero_le _) (Nat.zero_le _) dX9_grow_34 (fun x_5 ex_5 => ?_)
      have h := bn_at ex_5 h
      obtain ⟨hi_6, h⟩ := ck_n h
      refine g_iast hx hb hK hW hS (hB 13 bb_13) (fun _ => kd_13) hi_6 dX9_grow_37 (fun S_7 eS_7 H locs hW hS => ?_)
      have h := bn_at eS_7 h
      obtain ⟨x_8, ex_8⟩ : ∃ z : Int32, z = v1 + 1 := ⟨_, rfl⟩
      have h := bn_at ex_8 h
      refine lv_iinc (v := x_8) (lv' := [(1, .int x_8), (0, .ref (ad 1))]) hx hb dX9_grow_38 hl (k := 1) rfl (by rw [ex_8]; rfl) (by decide) rfl (fun ls hl => ?_)
      refine lv_goto (tgt := 2) hx hb dX9_grow_41 (by decide) ?_
      exact ih _ _ h _ _ _ hW hS (lv_sub hl [1, 0] rfl)
def f_X9_grow (N : Nat) (S : St) : Option (St) := f_X9_grow_l2 N (fun S_9 => some S_9) N S 0
set_option maxHeartbeats 4000000 in
theorem t_X9_grow (C : MC p s m args meth c cX9_grow 2 none RX9 g A) (hB : Lk L) {S : St} {S9 : St} (h : f_X9_grow N S = some S9) {H : Heap} {locs : List Loc} {ls : Array Slot} (hW : GW g A ad L S H) (hS : va_S A s.heap H locs) (hl : lv_has ls 2 [(0, .ref (ad 1))]) : W p l e (rmk 1) s m args below meth c H locs 0 0 (MQ below (qv g A ad L S9) args s 0 0 A) (F0 m 0 ls []) := by
  obtain ⟨hx, hb, hml, hown, hts, hr, hlocks, hK, hN, hT⟩ := id C
  unfold f_X9_grow at h
  refine lv_iconst (v := 0) hx hb dX9_grow_0 (by decide) ?_
  refine lv_istore_n (lv' := [(1, .int 0), (0, .ref (ad 1))]) hx hb dX9_grow_1 rfl hl (by decide) rfl (fun ls hl => ?_)
  refine t_X9_grow_l2 C hB ?_ _ _ _ h _ _ _ hW hS (lv_sub hl [1, 0] rfl)
  intro S_9 h H locs ls hW hS hl
  cases h
  exact g_vret hx hb hr hlocks hW hS dX9_grow_44
theorem c_X9_grow (hB : Lk L) {S : St} {S9 : St} (h : f_X9_grow N S = some S9) : Met l yX9_grow (gws yX9_grow cX9_grow 2 none) (rmk 1) (va_Pc [.ref (ad 1)] (WU g A ad L S)) (qv g A ad L S9) 0 0 A :=
  g_met [.ref (ad 1)] (by decide) (Nat.le_of_ble_eq_true rfl) (fun p e s m below meth c ls C hW hl _ => t_X9_grow C hB h hW va_S.rf hl)
theorem hv_X9_grow : yX9_grow.cls = RX9 ∧ yX9_grow.cls ≠ "java/lang/invoke/MethodHandle" ∧ yX9_grow.cls ≠ "java/lang/invoke/VarHandle" ∧ (parseMethodDescriptor yX9_grow.desc).map (fun d => d.parameters.length) = some 0 := by decide +kernel
/-! DroveRoads$Road.graze -/
def f_X9_graze (S : St) (p1 : Int32) (p2 : Int32) : Option (Int32 × St) := cl0 (f_X9_grassAt S p1) fun r_2 => bn (if r_2 < p2 then r_2 else p2) fun x_3 => cl0 (f_X9_has S p1) fun r_5 => if r_5 = 0 then (some (x_3, S)) else (if p1 < 0 ∨ 10 ≤ ix p1 then none else if p1 < 0 ∨ 10 ≤ ix p1 then none else bn (sv S 13 (ix p1) ((gv S 13 (ix p1)) - x_3)) fun S_10 => some (x_3, S_10))
set_option maxHeartbeats 4000000 in
theorem t_X9_graze (C : MC p s m args meth c cX9_graze 4 (some .int) RX9 g A) (hB : Lk L) {S : St} {r : Int32} {S9 : St} {p1 : Int32} {p2 : Int32} (h : f_X9_graze S p1 p2 = some (r, S9)) {H : Heap} {locs : List Loc} {ls : Array Slot} (hW : GW g A ad L S H) (hS : va_S A s.heap H locs) (hl : lv_has ls 4 [(0, .ref (ad 1)), (1, .int p1), (2, .int p2)]) : W p l e (rmk 3) s m args below meth c H locs 0 0 (MQ below (qi g A ad L r S9) args s 0 0 A) (F0 m 0 ls []) := by
  obtain ⟨hx, hb, hml, hown, hts, hr, hlocks, hK, hN, hT⟩ := id C
  unfold f_X9_graze at h
  refine lv_iload_n hx hb dX9_graze_0 rfl (lv_at hl 2 rfl) ?_
  refine lv_aload_n hx hb dX9_graze_1 rfl (lv_at hl 0 rfl) ?_
  refine lv_iload_n hx hb dX9_graze_2 rfl (lv_at hl 1 rfl) ?_
  obtain ⟨r_2, hc_1, h⟩ := cl0_ex h
  refine g_ci (g_runV (ci := 9) (o := 1) (As := [.int p1]) (rest := [.int p2]) hx hb hml hown hts hK hN hT hS hW (c_X9_grassAt hB hc_1) (hB 1 bb_1) kd_1 rfl (gw_V mw_795 mw_723 mw_724 mw_67 mw_725) hv_X9_grassAt rfl rfl rfl (rm_ok (by decide) (by decide)) hl.1 (Nat.le_of_ble_eq_true rfl) dX9_graze_3 rfl ⟨Nat.zero_le _, Nat.zero_le _⟩) hS (fun H locs hW hS => ?_)
  refine g_min (rest := []) hx hb hml hl.1 hown hts mw_713 mw_445 mw_77 mw_cmin (by decide) (Nat.le_of_ble_eq_true rfl) (Nat.zero_le _) (Nat.zero_le _) dX9_graze_6 (fun x_3 ex_3 => ?_)
  have h := bn_at ex_3 h
  refine lv_istore_n (lv' := [(3, .int x_3), (0, .ref (ad 1)), (1, .int p1), (2, .int p2)]) hx hb dX9_graze_9 rfl hl (by decide) rfl (fun ls hl => ?_)
  refine lv_aload_n hx hb dX9_graze_10 rfl (lv_at hl 1 rfl) ?_
  refine lv_iload_n hx hb dX9_graze_11 rfl (lv_at hl 2 rfl) ?_
  obtain ⟨r_5, hc_4, h⟩ := cl0_ex h
  refine g_cz (g_runV (ci := 9) (o := 1) (As := [.int p1]) (rest := []) hx hb hml hown hts hK hN hT hS hW (c_X9_has hB hc_4) (hB 1 bb_1) kd_1 rfl (gw_V mw_324 mw_325 mw_326 mw_67 mw_327) hv_X9_has rfl rfl rfl (rm_ok (by decide) (by decide)) hl.1 (Nat.le_of_ble_eq_true rfl) dX9_graze_12 rfl ⟨Nat.zero_le _, Nat.zero_le _⟩) hS (fun hz_6 H locs hW hS => ?_)
  refine lv_if_eq (tgt := 28) hx hb dX9_graze_15 (by decide) (fun c_7 => ?_) (fun c_7 => ?_)
  · have h := it_t c_7 h
    refine lv_iload_n hx hb dX9_graze_28 rfl (lv_at hl 0 rfl) ?_
    cases h
    exact g_iret hx hb hr hlocks hW hS dX9_graze_29
  · have h := it_f c_7 h
    refine lv_aload_n hx hb dX9_graze_18 rfl (lv_at hl 1 rfl) ?_
    refine g_get (C := RX9) (T := TX9) (N := 7) (ci := 9) hx hb hts inX9 hown hK hW (hB 1 bb_1) kd_1 rfl 3 (by decide) mw_102 rfl rfl dX9_graze_19 ?_
    refine lv_iload_n hx hb dX9_graze_22 rfl (lv_at hl 2 rfl) ?_
    refine lv_dup2_11 hx hb dX9_graze_23 rfl rfl ?_
    obtain ⟨hi_8, h⟩ := ck_n h
    refine g_iald hx hb hK hW (hB 13 bb_13) kd_13 hi_8 dX9_graze_24 ?_
    refine lv_iload_n hx hb dX9_graze_25 rfl (lv_at hl 0 rfl) ?_
    refine lv_isub hx hb dX9_graze_26 ?_
    obtain ⟨hi_9, h⟩ := ck_n h
    refine g_iast hx hb hK hW hS (hB 13 bb_13) (fun _ => kd_13) hi_9 dX9_graze_27 (fun S_10 eS_10 H locs hW hS => ?_)
    have h := bn_at eS_10 h
    refine lv_iload_n hx hb dX9_graze_28 rfl (lv_at hl 0 rfl) ?_
    cases h
    exact g_iret hx hb hr hlocks hW hS dX9_graze_29
theorem c_X9_graze (hB : Lk L) {S : St} {r : Int32} {S9 : St} {p1 : Int32} {p2 : Int32} (h : f_X9_graze S p1 p2 = some (r, S9)) : Met l yX9_graze (gws yX9_graze cX9_graze 4 (some .int)) (rmk 3) (va_Pc [.ref (ad 1), .int p1, .int p2] (WU g A ad L S)) (qi g A ad L r S9) 0 0 A :=
  g_met [.ref (ad 1), .int p1, .int p2] (by decide) (Nat.le_of_ble_eq_true rfl) (fun p e s m below meth c ls C hW hl _ => t_X9_graze C hB h hW va_S.rf hl)
theorem hv_X9_graze : yX9_graze.cls = RX9 ∧ yX9_graze.cls ≠ "java/lang/invoke/MethodHandle" ∧ yX9_graze.cls ≠ "java/lang/invoke/VarHandle" ∧ (parseMethodDescriptor yX9_graze.desc).map (fun d => d.parameters.length) = some 2 := by decide +kernel
/-! DroveRoads$Road.noteLeft -/
def f_X9_noteLeft (S : St) (p1 : Int32) (p2 : Int32) : Option (St) := cl0 (f_X9_has S p1) fun r_2 => if r_2 = 0 then (some S) else (if p1 < 0 ∨ 10 ≤ ix p1 then none else if p1 < 0 ∨ 10 ≤ ix p1 then none else bn (sv S 16 (ix p1) ((gv S 16 (ix p1)) + p2)) fun S_7 => some S_7)
set_option maxHeartbeats 4000000 in
theorem t_X9_noteLeft (C : MC p s m args meth c cX9_noteLeft 3 none RX9 g A) (hB : Lk L) {S : St} {S9 : St} {p1 : Int32} {p2 : Int32} (h : f_X9_noteLeft S p1 p2 = some S9) {H : Heap} {locs : List Loc} {ls : Array Slot} (hW : GW g A ad L S H) (hS : va_S A s.heap H locs) (hl : lv_has ls 3 [(0, .ref (ad 1)), (1, .int p1), (2, .int p2)]) : W p l e (rmk 2) s m args below meth c H locs 0 0 (MQ below (qv g A ad L S9) args s 0 0 A) (F0 m 0 ls []) := by
  obtain ⟨hx, hb, hml, hown, hts, hr, hlocks, hK, hN, hT⟩ := id C
  unfold f_X9_noteLeft at h
  refine lv_aload_n hx hb dX9_noteLeft_0 rfl (lv_at hl 0 rfl) ?_
  refine lv_iload_n hx hb dX9_noteLeft_1 rfl (lv_at hl 1 rfl) ?_
  obtain ⟨r_2, hc_1, h⟩ := cl0_ex h
  refine g_cz (g_runV (ci := 9) (o := 1) (As := [.int p1]) (rest := []) hx hb hml hown hts hK hN hT hS hW (c_X9_has hB hc_1) (hB 1 bb_1) kd_1 rfl (gw_V mw_324 mw_325 mw_326 mw_67 mw_327) hv_X9_has rfl rfl rfl (rm_ok (by decide) (by decide)) hl.1 (Nat.le_of_ble_eq_true rfl) dX9_noteLeft_2 rfl ⟨Nat.zero_le _, Nat.zero_le _⟩) hS (fun hz_3 H locs hW hS => ?_)
  refine lv_if_eq (tgt := 18) hx hb dX9_noteLeft_5 (by decide) (fun c_4 => ?_) (fun c_4 => ?_)
  · have h := it_t c_4 h
    cases h
    exact g_vret hx hb hr hlocks hW hS dX9_noteLeft_18
  · have h := it_f c_4 h
    refine lv_aload_n hx hb dX9_noteLeft_8 rfl (lv_at hl 0 rfl) ?_
    refine g_get (C := RX9) (T := TX9) (N := 7) (ci := 9) hx hb hts inX9 hown hK hW (hB 1 bb_1) kd_1 rfl 6 (by decide) mw_105 rfl rfl dX9_noteLeft_9 ?_
    refine lv_iload_n hx hb dX9_noteLeft_12 rfl (lv_at hl 1 rfl) ?_
    refine lv_dup2_11 hx hb dX9_noteLeft_13 rfl rfl ?_
    obtain ⟨hi_5, h⟩ := ck_n h
    refine g_iald hx hb hK hW (hB 16 bb_16) kd_16 hi_5 dX9_noteLeft_14 ?_
    refine lv_iload_n hx hb dX9_noteLeft_15 rfl (lv_at hl 2 rfl) ?_
    refine lv_iadd hx hb dX9_noteLeft_16 ?_
    obtain ⟨hi_6, h⟩ := ck_n h
    refine g_iast hx hb hK hW hS (hB 16 bb_16) (fun _ => kd_16) hi_6 dX9_noteLeft_17 (fun S_7 eS_7 H locs hW hS => ?_)
    have h := bn_at eS_7 h
    cases h
    exact g_vret hx hb hr hlocks hW hS dX9_noteLeft_18
theorem c_X9_noteLeft (hB : Lk L) {S : St} {S9 : St} {p1 : Int32} {p2 : Int32} (h : f_X9_noteLeft S p1 p2 = some S9) : Met l yX9_noteLeft (gws yX9_noteLeft cX9_noteLeft 3 none) (rmk 2) (va_Pc [.ref (ad 1), .int p1, .int p2] (WU g A ad L S)) (qv g A ad L S9) 0 0 A :=
  g_met [.ref (ad 1), .int p1, .int p2] (by decide) (Nat.le_of_ble_eq_true rfl) (fun p e s m below meth c ls C hW hl _ => t_X9_noteLeft C hB h hW va_S.rf hl)
theorem hv_X9_noteLeft : yX9_noteLeft.cls = RX9 ∧ yX9_noteLeft.cls ≠ "java/lang/invoke/MethodHandle" ∧ yX9_noteLeft.cls ≠ "java/lang/invoke/VarHandle" ∧ (parseMethodDescriptor yX9_noteLeft.desc).map (fun d => d.parameters.length) = some 2 := by decide +kernel
/-! DroveRoads$Road.tell -/
def f_X9_tell (S : St) (p1 : Int32) (p2 : Int32) : Option (Int32) := cl0 (f_X9_has S p1) fun r_2 => if r_2 = 0 then (some (-1)) else (if p2 = 0 then (if p1 < 0 ∨ 10 ≤ ix p1 then none else some (gv S 13 (ix p1))) else if p2 = 1 then (if p1 < 0 ∨ 10 ≤ ix p1 then none else some (gv S 14 (ix p1))) else if p2 = 2 then (if p1 < 0 ∨ 10 ≤ ix p1 then none else some (gv S 15 (ix p1))) else if p2 = 3 then (if p1 < 0 ∨ 10 ≤ ix p1 then none else some (gv S 12 (ix p1))) else if p2 = 4 then (if p1 < 0 ∨ 10 ≤ ix p1 then none else some (gv S 16 (ix p1))) else (some (-1)))
set_option maxHeartbeats 4000000 in
theorem t_X9_tell (C : MC p s m args meth c cX9_tell 3 (some .int) RX9 g A) (hB : Lk L) {S : St} {r : Int32} {p1 : Int32} {p2 : Int32} (h : f_X9_tell S p1 p2 = some r) {H : Heap} {locs : List Loc} {ls : Array Slot} (hW : GW g A ad L S H) (hS : va_S A s.heap H locs) (hl : lv_has ls 3 [(0, .ref (ad 1)), (1, .int p1), (2, .int p2)]) : W p l e (rmk 2) s m args below meth c H locs 0 0 (MQ below (qi g A ad L r S) args s 0 0 A) (F0 m 0 ls []) := by
  obtain ⟨hx, hb, hml, hown, hts, hr, hlocks, hK, hN, hT⟩ := id C
  unfold f_X9_tell at h
  refine lv_aload_n hx hb dX9_tell_0 rfl (lv_at hl 0 rfl) ?_
  refine lv_iload_n hx hb dX9_tell_1 rfl (lv_at hl 1 rfl) ?_
  obtain ⟨r_2, hc_1, h⟩ := cl0_ex h
  refine g_cz (g_runV (ci := 9) (o := 1) (As := [.int p1]) (rest := []) hx hb hml hown hts hK hN hT hS hW (c_X9_has hB hc_1) (hB 1 bb_1) kd_1 rfl (gw_V mw_324 mw_325 mw_326 mw_67 mw_327) hv_X9_has rfl rfl rfl (rm_ok (by decide) (by decide)) hl.1 (Nat.le_of_ble_eq_true rfl) dX9_tell_2 rfl ⟨Nat.zero_le _, Nat.zero_le _⟩) hS (fun hz_3 H locs hW hS => ?_)
  refine lv_if_ne (tgt := 10) hx hb dX9_tell_5 (by decide) (fun c_4 => ?_) (fun c_4 => ?_)
  · have h := it_f c_4 h
    refine lv_iload_n hx hb dX9_tell_10 rfl (lv_at hl 2 rfl) ?_
    by_cases c_5 : p2 = 0
    · have h := it_t c_5 h
      refine lv_tableIn (tgt := 44) hx hb dX9_tell_11 (by rw [c_5]; decide) (by rw [c_5]; decide) (by rw [c_5]; rfl) (by decide) ?_
      refine lv_aload_n hx hb dX9_tell_44 rfl (lv_at hl 0 rfl) ?_
      refine g_get (C := RX9) (T := TX9) (N := 7) (ci := 9) hx hb hts inX9 hown hK hW (hB 1 bb_1) kd_1 rfl 3 (by decide) mw_102 rfl rfl dX9_tell_45 ?_
      refine lv_iload_n hx hb dX9_tell_48 rfl (lv_at hl 1 rfl) ?_
      obtain ⟨hi_6, h⟩ := ck_n h
      refine g_iald hx hb hK hW (hB 13 bb_13) kd_13 hi_6 dX9_tell_49 ?_
      cases h
      exact g_iret hx hb hr hlocks hW hS dX9_tell_50
    have h := it_f c_5 h
    by_cases c_7 : p2 = 1
    · have h := it_t c_7 h
      refine lv_tableIn (tgt := 51) hx hb dX9_tell_11 (by rw [c_7]; decide) (by rw [c_7]; decide) (by rw [c_7]; rfl) (by decide) ?_
      refine lv_aload_n hx hb dX9_tell_51 rfl (lv_at hl 0 rfl) ?_
      refine g_get (C := RX9) (T := TX9) (N := 7) (ci := 9) hx hb hts inX9 hown hK hW (hB 1 bb_1) kd_1 rfl 4 (by decide) mw_103 rfl rfl dX9_tell_52 ?_
      refine lv_iload_n hx hb dX9_tell_55 rfl (lv_at hl 1 rfl) ?_
      obtain ⟨hi_8, h⟩ := ck_n h
      refine g_iald hx hb hK hW (hB 14 bb_14) kd_14 hi_8 dX9_tell_56 ?_
      cases h
      exact g_iret hx hb hr hlocks hW hS dX9_tell_57
    have h := it_f c_7 h
    by_cases c_9 : p2 = 2
    · have h := it_t c_9 h
      refine lv_tableIn (tgt := 58) hx hb dX9_tell_11 (by rw [c_9]; decide) (by rw [c_9]; decide) (by rw [c_9]; rfl) (by decide) ?_
      refine lv_aload_n hx hb dX9_tell_58 rfl (lv_at hl 0 rfl) ?_
      refine g_get (C := RX9) (T := TX9) (N := 7) (ci := 9) hx hb hts inX9 hown hK hW (hB 1 bb_1) kd_1 rfl 5 (by decide) mw_104 rfl rfl dX9_tell_59 ?_
      refine lv_iload_n hx hb dX9_tell_62 rfl (lv_at hl 1 rfl) ?_
      obtain ⟨hi_10, h⟩ := ck_n h
      refine g_iald hx hb hK hW (hB 15 bb_15) kd_15 hi_10 dX9_tell_63 ?_
      cases h
      exact g_iret hx hb hr hlocks hW hS dX9_tell_64
    have h := it_f c_9 h
    by_cases c_11 : p2 = 3
    · have h := it_t c_11 h
      refine lv_tableIn (tgt := 65) hx hb dX9_tell_11 (by rw [c_11]; decide) (by rw [c_11]; decide) (by rw [c_11]; rfl) (by decide) ?_
      refine lv_aload_n hx hb dX9_tell_65 rfl (lv_at hl 0 rfl) ?_
      refine g_get (C := RX9) (T := TX9) (N := 7) (ci := 9) hx hb hts inX9 hown hK hW (hB 1 bb_1) kd_1 rfl 2 (by decide) mw_101 rfl rfl dX9_tell_66 ?_
      refine lv_iload_n hx hb dX9_tell_69 rfl (lv_at hl 1 rfl) ?_
      obtain ⟨hi_12, h⟩ := ck_n h
      refine g_iald hx hb hK hW (hB 12 bb_12) kd_12 hi_12 dX9_tell_70 ?_
      cases h
      exact g_iret hx hb hr hlocks hW hS dX9_tell_71
    have h := it_f c_11 h
    by_cases c_13 : p2 = 4
    · have h := it_t c_13 h
      refine lv_tableIn (tgt := 72) hx hb dX9_tell_11 (by rw [c_13]; decide) (by rw [c_13]; decide) (by rw [c_13]; rfl) (by decide) ?_
      refine lv_aload_n hx hb dX9_tell_72 rfl (lv_at hl 0 rfl) ?_
      refine g_get (C := RX9) (T := TX9) (N := 7) (ci := 9) hx hb hts inX9 hown hK hW (hB 1 bb_1) kd_1 rfl 6 (by decide) mw_105 rfl rfl dX9_tell_73 ?_
      refine lv_iload_n hx hb dX9_tell_76 rfl (lv_at hl 1 rfl) ?_
      obtain ⟨hi_14, h⟩ := ck_n h
      refine g_iald hx hb hK hW (hB 16 bb_16) kd_16 hi_14 dX9_tell_77 ?_
      cases h
      exact g_iret hx hb hr hlocks hW hS dX9_tell_78
    have h := it_f c_13 h
    have nc_5 := lv_neT c_5 (a := 0) rfl
    have nc_7 := lv_neT c_7 (a := 1) rfl
    have nc_9 := lv_neT c_9 (a := 2) rfl
    have nc_11 := lv_neT c_11 (a := 3) rfl
    have nc_13 := lv_neT c_13 (a := 4) rfl
    refine lv_tableOut (tgt := 79) hx hb dX9_tell_11 (by omega) (by decide) ?_
    refine lv_iconst (v := (-1)) hx hb dX9_tell_79 (by decide) ?_
    cases h
    exact g_iret hx hb hr hlocks hW hS dX9_tell_80
  · have h := it_t c_4 h
    refine lv_iconst (v := (-1)) hx hb dX9_tell_8 (by decide) ?_
    cases h
    exact g_iret hx hb hr hlocks hW hS dX9_tell_9
theorem c_X9_tell (hB : Lk L) {S : St} {r : Int32} {p1 : Int32} {p2 : Int32} (h : f_X9_tell S p1 p2 = some r) : Met l yX9_tell (gws yX9_tell cX9_tell 3 (some .int)) (rmk 2) (va_Pc [.ref (ad 1), .int p1, .int p2] (WU g A ad L S)) (qi g A ad L r S) 0 0 A :=
  g_met [.ref (ad 1), .int p1, .int p2] (by decide) (Nat.le_of_ble_eq_true rfl) (fun p e s m below meth c ls C hW hl _ => t_X9_tell C hB h hW va_S.rf hl)
theorem hv_X9_tell : yX9_tell.cls = RX9 ∧ yX9_tell.cls ≠ "java/lang/invoke/MethodHandle" ∧ yX9_tell.cls ≠ "java/lang/invoke/VarHandle" ∧ (parseMethodDescriptor yX9_tell.desc).map (fun d => d.parameters.length) = some 2 := by decide +kernel
end S10
