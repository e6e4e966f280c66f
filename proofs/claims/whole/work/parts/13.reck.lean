section S13
variable {p : Program} {l : Launch} {e : Env} {s : State} {m : MethodId} {args : Array Value} {below : List Frame} {meth : Method} {c : Code} {A : Nat → Prop} {g : Cx} {ad : Nat → Nat} {L : List Nat} {N : Nat} {q0 : Nat}
/-! DroveRoads$Orders.clear -/
def f_X5_clear (S : St) (o : Nat) : Option (St) := bn (sv S o 3 0) fun S_1 => bn (sv S_1 o 4 0) fun S_2 => some S_2
set_option maxHeartbeats 4000000 in
theorem t_X5_clear (C : MC p s m args meth c cX5_clear 1 none RX5 g A) (hB : Lk L) {o : Nat} (h_o : oko L o) {S : St} {S9 : St} (h : f_X5_clear S o = some S9) {H : Heap} {locs : List Loc} {ls : Array Slot} (hW : GW g A ad L S H) (hS : va_S A s.heap H locs) (hl : lv_has ls 1 [(0, .ref (ad o))]) : W p l e (rmk 1) s m args below meth c H locs 0 0 (MQ below (qv g A ad L S9) args s 0 0 A) (F0 m 0 ls []) := by
  obtain ⟨hx, hb, hml, hown, hts, hr, hlocks, hK, hN, hT⟩ := id C
  unfold f_X5_clear at h
  refine lv_aload_n hx hb dX5_clear_0 rfl (lv_at hl 0 rfl) ?_
  refine lv_iconst (v := 0) hx hb dX5_clear_1 (by decide) ?_
  refine g_put (C := RX5) (T := TX5) (N := 5) (ci := 5) hx hb hts inX5 tyX5 tyX5_ok nmX5 hown hK hW hS h_o.2.2.1 (kd_ord h_o) rfl 3 (by decide) mw_232 rfl rfl rfl rfl (Nat.le_of_ble_eq_true rfl) (sv S o 3 0) (ps_ord_3 h_o) cellOf_sv dX5_clear_2 (fun S_1 eS_1 H locs hW hS => ?_)
  have h := bn_at eS_1 h
  refine lv_aload_n hx hb dX5_clear_5 rfl (lv_at hl 0 rfl) ?_
  refine lv_iconst (v := 0) hx hb dX5_clear_6 (by decide) ?_
  refine g_put (C := RX5) (T := TX5) (N := 5) (ci := 5) hx hb hts inX5 tyX5 tyX5_ok nmX5 hown hK hW hS h_o.2.2.1 (kd_ord h_o) rfl 4 (by decide) mw_236 rfl rfl rfl rfl (Nat.le_of_ble_eq_true rfl) (sv S_1 o 4 0) (ps_ord_4 h_o) cellOf_sv dX5_clear_7 (fun S_2 eS_2 H locs hW hS => ?_)
  have h := bn_at eS_2 h
  cases h
  exact g_vret hx hb hr hlocks hW hS dX5_clear_10
theorem c_X5_clear (hB : Lk L) {o : Nat} (h_o : oko L o) {S : St} {S9 : St} (h : f_X5_clear S o = some S9) : Met l yX5_clear (gws yX5_clear cX5_clear 1 none) (rmk 1) (va_Pc [.ref (ad o)] (WU g A ad L S)) (qv g A ad L S9) 0 0 A :=
  g_met [.ref (ad o)] (by decide) (Nat.le_of_ble_eq_true rfl) (fun p e s m below meth c ls C hW hl _ => t_X5_clear C hB h_o h hW va_S.rf hl)
theorem hv_X5_clear : yX5_clear.cls = RX5 ∧ yX5_clear.cls ≠ "java/lang/invoke/MethodHandle" ∧ yX5_clear.cls ≠ "java/lang/invoke/VarHandle" ∧ (parseMethodDescriptor yX5_clear.desc).map (fun d => d.parameters.length) = some 0 := by decide +kernel
/-! DroveRoads$Orders.addCell -/
def f_X5_addCell (S : St) (o : Nat) (p1 : Int32) : Option (St) := if 500 ≤ (gv S o 4) then (some S) else (if (gv S o 4) < 0 ∨ 500 ≤ ix (gv S o 4) then none else bn (sv S (o + 10) (ix (gv S o 4)) p1) fun S_3 => bn (sv S_3 o 4 ((gv S_3 o 4) + 1)) fun S_4 => some S_4)
set_option maxHeartbeats 4000000 in
theorem t_X5_addCell (C : MC p s m args meth c cX5_addCell 2 none RX5 g A) (hB : Lk L) {o : Nat} (h_o : oko L o) {S : St} {S9 : St} {p1 : Int32} (h : f_X5_addCell S o p1 = some S9) {H : Heap} {locs : List Loc} {ls : Array Slot} (hW : GW g A ad L S H) (hS : va_S A s.heap H locs) (hl : lv_has ls 2 [(0, .ref (ad o)), (1, .int p1)]) : W p l e (rmk 1) s m args below meth c H locs 0 0 (MQ below (qv g A ad L S9) args s 0 0 A) (F0 m 0 ls []) := by
  obtain ⟨hx, hb, hml, hown, hts, hr, hlocks, hK, hN, hT⟩ := id C
  unfold f_X5_addCell at h
  refine lv_aload_n hx hb dX5_addCell_0 rfl (lv_at hl 0 rfl) ?_
  refine g_get (C := RX5) (T := TX5) (N := 5) (ci := 5) hx hb hts inX5 hown hK hW h_o.2.2.1 (kd_ord h_o) rfl 4 (by decide) mw_236 rfl rfl dX5_addCell_1 ?_
  refine lv_sipush (v := 500) hx hb dX5_addCell_4 (by decide) ?_
  refine lv_icmp_ge (tgt := 30) hx hb dX5_addCell_7 (by decide) (fun c_1 => ?_) (fun c_1 => ?_)
  · have h := it_t c_1 h
    cases h
    exact g_vret hx hb hr hlocks hW hS dX5_addCell_30
  · have h := it_f c_1 h
    refine lv_aload_n hx hb dX5_addCell_10 rfl (lv_at hl 0 rfl) ?_
    refine g_get (C := RX5) (T := TX5) (N := 5) (ci := 5) hx hb hts inX5 hown hK hW h_o.2.2.1 (kd_ord h_o) rfl 0 (by decide) mw_226 rfl rfl dX5_addCell_11 ?_
    refine lv_aload_n hx hb dX5_addCell_14 rfl (lv_at hl 0 rfl) ?_
    refine g_get (C := RX5) (T := TX5) (N := 5) (ci := 5) hx hb hts inX5 hown hK hW h_o.2.2.1 (kd_ord h_o) rfl 4 (by decide) mw_236 rfl rfl dX5_addCell_15 ?_
    refine lv_iload_n hx hb dX5_addCell_18 rfl (lv_at hl 1 rfl) ?_
    obtain ⟨hi_2, h⟩ := ck_n h
    refine g_iast hx hb hK hW hS h_o.2.2.2.1 (fun _ => (kd_ordA h_o)) hi_2 dX5_addCell_19 (fun S_3 eS_3 H locs hW hS => ?_)
    have h := bn_at eS_3 h
    refine lv_aload_n hx hb dX5_addCell_20 rfl (lv_at hl 0 rfl) ?_
    refine lv_dup hx hb dX5_addCell_21 rfl ?_
    refine g_get (C := RX5) (T := TX5) (N := 5) (ci := 5) hx hb hts inX5 hown hK hW h_o.2.2.1 (kd_ord h_o) rfl 4 (by decide) mw_236 rfl rfl dX5_addCell_22 ?_
    refine lv_iconst (v := 1) hx hb dX5_addCell_25 (by decide) ?_
    refine lv_iadd hx hb dX5_addCell_26 ?_
    refine g_put (C := RX5) (T := TX5) (N := 5) (ci := 5) hx hb hts inX5 tyX5 tyX5_ok nmX5 hown hK hW hS h_o.2.2.1 (kd_ord h_o) rfl 4 (by decide) mw_236 rfl rfl rfl rfl (Nat.le_of_ble_eq_true rfl) (sv S_3 o 4 ((gv S_3 o 4) + 1)) (ps_ord_4 h_o) cellOf_sv dX5_addCell_27 (fun S_4 eS_4 H locs hW hS => ?_)
    have h := bn_at eS_4 h
    cases h
    exact g_vret hx hb hr hlocks hW hS dX5_addCell_30
theorem c_X5_addCell (hB : Lk L) {o : Nat} (h_o : oko L o) {S : St} {S9 : St} {p1 : Int32} (h : f_X5_addCell S o p1 = some S9) : Met l yX5_addCell (gws yX5_addCell cX5_addCell 2 none) (rmk 1) (va_Pc [.ref (ad o), .int p1] (WU g A ad L S)) (qv g A ad L S9) 0 0 A :=
  g_met [.ref (ad o), .int p1] (by decide) (Nat.le_of_ble_eq_true rfl) (fun p e s m below meth c ls C hW hl _ => t_X5_addCell C hB h_o h hW va_S.rf hl)
theorem hv_X5_addCell : yX5_addCell.cls = RX5 ∧ yX5_addCell.cls ≠ "java/lang/invoke/MethodHandle" ∧ yX5_addCell.cls ≠ "java/lang/invoke/VarHandle" ∧ (parseMethodDescriptor yX5_addCell.desc).map (fun d => d.parameters.length) = some 1 := by decide +kernel
/-! DroveRoads$Orders.addLine -/
def f_X5_addLine (S : St) (o : Nat) (p1 : Int32) : Option (St) := if 8 ≤ (gv S o 3) then (some S) else (if (gv S o 3) < 0 ∨ 8 ≤ ix (gv S o 3) then none else bn (sv S (o + 20) (ix (gv S o 3)) (gv S o 4)) fun S_3 => if (gv S_3 o 3) < 0 ∨ 8 ≤ ix (gv S_3 o 3) then none else bn (sv S_3 (o + 30) (ix (gv S_3 o 3)) p1) fun S_5 => bn (sv S_5 o 3 ((gv S_5 o 3) + 1)) fun S_6 => some S_6)
set_option maxHeartbeats 4000000 in
theorem t_X5_addLine (C : MC p s m args meth c cX5_addLine 2 none RX5 g A) (hB : Lk L) {o : Nat} (h_o : oko L o) {S : St} {S9 : St} {p1 : Int32} (h : f_X5_addLine S o p1 = some S9) {H : Heap} {locs : List Loc} {ls : Array Slot} (hW : GW g A ad L S H) (hS : va_S A s.heap H locs) (hl : lv_has ls 2 [(0, .ref (ad o)), (1, .int p1)]) : W p l e (rmk 1) s m args below meth c H locs 0 0 (MQ below (qv g A ad L S9) args s 0 0 A) (F0 m 0 ls []) := by
  obtain ⟨hx, hb, hml, hown, hts, hr, hlocks, hK, hN, hT⟩ := id C
  unfold f_X5_addLine at h
  refine lv_aload_n hx hb dX5_addLine_0 rfl (lv_at hl 0 rfl) ?_
  refine g_get (C := RX5) (T := TX5) (N := 5) (ci := 5) hx hb hts inX5 hown hK hW h_o.2.2.1 (kd_ord h_o) rfl 3 (by decide) mw_232 rfl rfl dX5_addLine_1 ?_
  refine lv_bipush (v := 8) hx hb dX5_addLine_4 (by decide) ?_
  refine lv_icmp_ge (tgt := 42) hx hb dX5_addLine_6 (by decide) (fun c_1 => ?_) (fun c_1 => ?_)
  · have h := it_t c_1 h
    cases h
    exact g_vret hx hb hr hlocks hW hS dX5_addLine_42
  · have h := it_f c_1 h
    refine lv_aload_n hx hb dX5_addLine_9 rfl (lv_at hl 0 rfl) ?_
    refine g_get (C := RX5) (T := TX5) (N := 5) (ci := 5) hx hb hts inX5 hown hK hW h_o.2.2.1 (kd_ord h_o) rfl 1 (by decide) mw_228 rfl rfl dX5_addLine_10 ?_
    refine lv_aload_n hx hb dX5_addLine_13 rfl (lv_at hl 0 rfl) ?_
    refine g_get (C := RX5) (T := TX5) (N := 5) (ci := 5) hx hb hts inX5 hown hK hW h_o.2.2.1 (kd_ord h_o) rfl 3 (by decide) mw_232 rfl rfl dX5_addLine_14 ?_
    refine lv_aload_n hx hb dX5_addLine_17 rfl (lv_at hl 0 rfl) ?_
    refine g_get (C := RX5) (T := TX5) (N := 5) (ci := 5) hx hb hts inX5 hown hK hW h_o.2.2.1 (kd_ord h_o) rfl 4 (by decide) mw_236 rfl rfl dX5_addLine_18 ?_
    obtain ⟨hi_2, h⟩ := ck_n h
    refine g_iast hx hb hK hW hS h_o.2.2.2.2.1 (fun _ => (kd_ordB h_o)) hi_2 dX5_addLine_21 (fun S_3 eS_3 H locs hW hS => ?_)
    have h := bn_at eS_3 h
    refine lv_aload_n hx hb dX5_addLine_22 rfl (lv_at hl 0 rfl) ?_
    refine g_get (C := RX5) (T := TX5) (N := 5) (ci := 5) hx hb hts inX5 hown hK hW h_o.2.2.1 (kd_ord h_o) rfl 2 (by decide) mw_230 rfl rfl dX5_addLine_23 ?_
    refine lv_aload_n hx hb dX5_addLine_26 rfl (lv_at hl 0 rfl) ?_
    refine g_get (C := RX5) (T := TX5) (N := 5) (ci := 5) hx hb hts inX5 hown hK hW h_o.2.2.1 (kd_ord h_o) rfl 3 (by decide) mw_232 rfl rfl dX5_addLine_27 ?_
    refine lv_iload_n hx hb dX5_addLine_30 rfl (lv_at hl 1 rfl) ?_
    obtain ⟨hi_4, h⟩ := ck_n h
    refine g_iast hx hb hK hW hS h_o.2.2.2.2.2 (fun _ => (kd_ordC h_o)) hi_4 dX5_addLine_31 (fun S_5 eS_5 H locs hW hS => ?_)
    have h := bn_at eS_5 h
    refine lv_aload_n hx hb dX5_addLine_32 rfl (lv_at hl 0 rfl) ?_
    refine lv_dup hx hb dX5_addLine_33 rfl ?_
    refine g_get (C := RX5) (T := TX5) (N := 5) (ci := 5) hx hb hts inX5 hown hK hW h_o.2.2.1 (kd_ord h_o) rfl 3 (by decide) mw_232 rfl rfl dX5_addLine_34 ?_
    refine lv_iconst (v := 1) hx hb dX5_addLine_37 (by decide) ?_
    refine lv_iadd hx hb dX5_addLine_38 ?_
    refine g_put (C := RX5) (T := TX5) (N := 5) (ci := 5) hx hb hts inX5 tyX5 tyX5_ok nmX5 hown hK hW hS h_o.2.2.1 (kd_ord h_o) rfl 3 (by decide) mw_232 rfl rfl rfl rfl (Nat.le_of_ble_eq_true rfl) (sv S_5 o 3 ((gv S_5 o 3) + 1)) (ps_ord_3 h_o) cellOf_sv dX5_addLine_39 (fun S_6 eS_6 H locs hW hS => ?_)
    have h := bn_at eS_6 h
    cases h
    exact g_vret hx hb hr hlocks hW hS dX5_addLine_42
theorem c_X5_addLine (hB : Lk L) {o : Nat} (h_o : oko L o) {S : St} {S9 : St} {p1 : Int32} (h : f_X5_addLine S o p1 = some S9) : Met l yX5_addLine (gws yX5_addLine cX5_addLine 2 none) (rmk 1) (va_Pc [.ref (ad o), .int p1] (WU g A ad L S)) (qv g A ad L S9) 0 0 A :=
  g_met [.ref (ad o), .int p1] (by decide) (Nat.le_of_ble_eq_true rfl) (fun p e s m below meth c ls C hW hl _ => t_X5_addLine C hB h_o h hW va_S.rf hl)
theorem hv_X5_addLine : yX5_addLine.cls = RX5 ∧ yX5_addLine.cls ≠ "java/lang/invoke/MethodHandle" ∧ yX5_addLine.cls ≠ "java/lang/invoke/VarHandle" ∧ (parseMethodDescriptor yX5_addLine.desc).map (fun d => d.parameters.length) = some 1 := by decide +kernel
/-! DroveRoads$Reckoner.learn -/
def f_X8_learn (S : St) (p1 : Nat) (p3 : Int32) (p4 : Int32) : Option (St) := bn (sv S 50 (ix 0) p3) fun S_1 => bn (sv S_1 50 (ix 1) (gv S_1 p1 2)) fun S_2 => bn (sv S_2 50 (ix 2) (gv S_2 p1 3)) fun S_3 => bn (sv S_3 50 (ix 3) (gv S_3 p1 4)) fun S_4 => cl0 (f_X9_grassAt S_4 (gv S_4 p1 5)) fun r_6 => bn (sv S_4 50 (ix 4) r_6) fun S_7 => cl0 (f_X9_milesOfStage S_7 (gv S_7 p1 5)) fun r_9 => bn (sv S_7 50 (ix 5) r_9) fun S_10 => bn (sv S_10 50 (ix 6) (gv S_10 p1 5)) fun S_11 => bn (sv S_11 50 (ix 7) p4) fun S_12 => cl0 (f_X1_want S_12 p1) fun r_14 => bn (sv S_12 50 (ix 8) r_14) fun S_15 => some S_15
set_option maxHeartbeats 4000000 in
theorem t_X8_learn (C : MC p s m args meth c cX8_learn 5 none RX8 g A) (hB : Lk L) {p1 : Nat} (h_p1 : okh L p1) {S : St} {S9 : St} {p3 : Int32} {p4 : Int32} (h : f_X8_learn S p1 p3 p4 = some S9) {H : Heap} {locs : List Loc} {ls : Array Slot} (hW : GW g A ad L S H) (hS : va_S A s.heap H locs) (hl : lv_has ls 5 [(0, .ref (ad 5)), (1, .ref (ad p1)), (2, .ref (ad 1)), (3, .int p3), (4, .int p4)]) : W p l e (rmk 3) s m args below meth c H locs 0 0 (MQ below (qv g A ad L S9) args s 0 0 A) (F0 m 0 ls []) := by
  obtain ⟨hx, hb, hml, hown, hts, hr, hlocks, hK, hN, hT⟩ := id C
  unfold f_X8_learn at h
  refine lv_aload_n hx hb dX8_learn_0 rfl (lv_at hl 0 rfl) ?_
  refine g_get (C := RX8) (T := TX8) (N := 3) (ci := 8) hx hb hts inX8 hown hK hW (hB 5 bb_5) kd_5 rfl 0 (by decide) mw_209 rfl rfl dX8_learn_1 ?_
  refine lv_iconst (v := 0) hx hb dX8_learn_4 (by decide) ?_
  refine lv_iload_n hx hb dX8_learn_5 rfl (lv_at hl 3 rfl) ?_
  refine g_iast hx hb hK hW hS (hB 50 bb_50) (fun _ => kd_50) (by decide) dX8_learn_6 (fun S_1 eS_1 H locs hW hS => ?_)
  have h := bn_at eS_1 h
  refine lv_aload_n hx hb dX8_learn_7 rfl (lv_at hl 0 rfl) ?_
  refine g_get (C := RX8) (T := TX8) (N := 3) (ci := 8) hx hb hts inX8 hown hK hW (hB 5 bb_5) kd_5 rfl 0 (by decide) mw_209 rfl rfl dX8_learn_8 ?_
  refine lv_iconst (v := 1) hx hb dX8_learn_11 (by decide) ?_
  refine lv_aload_n hx hb dX8_learn_12 rfl (lv_at hl 1 rfl) ?_
  refine g_get (C := RX1) (T := TX1) (N := 12) (ci := 1) hx hb hts inX1 hown hK hW h_p1.2.2 (kd_herd h_p1) rfl 2 (by decide) mw_344 rfl rfl dX8_learn_13 ?_
  refine g_iast hx hb hK hW hS (hB 50 bb_50) (fun _ => kd_50) (by decide) dX8_learn_16 (fun S_2 eS_2 H locs hW hS => ?_)
  have h := bn_at eS_2 h
  refine lv_aload_n hx hb dX8_learn_17 rfl (lv_at hl 0 rfl) ?_
  refine g_get (C := RX8) (T := TX8) (N := 3) (ci := 8) hx hb hts inX8 hown hK hW (hB 5 bb_5) kd_5 rfl 0 (by decide) mw_209 rfl rfl dX8_learn_18 ?_
  refine lv_iconst (v := 2) hx hb dX8_learn_21 (by decide) ?_
  refine lv_aload_n hx hb dX8_learn_22 rfl (lv_at hl 1 rfl) ?_
  refine g_get (C := RX1) (T := TX1) (N := 12) (ci := 1) hx hb hts inX1 hown hK hW h_p1.2.2 (kd_herd h_p1) rfl 3 (by decide) mw_347 rfl rfl dX8_learn_23 ?_
  refine g_iast hx hb hK hW hS (hB 50 bb_50) (fun _ => kd_50) (by decide) dX8_learn_26 (fun S_3 eS_3 H locs hW hS => ?_)
  have h := bn_at eS_3 h
  refine lv_aload_n hx hb dX8_learn_27 rfl (lv_at hl 0 rfl) ?_
  refine g_get (C := RX8) (T := TX8) (N := 3) (ci := 8) hx hb hts inX8 hown hK hW (hB 5 bb_5) kd_5 rfl 0 (by decide) mw_209 rfl rfl dX8_learn_28 ?_
  refine lv_iconst (v := 3) hx hb dX8_learn_31 (by decide) ?_
  refine lv_aload_n hx hb dX8_learn_32 rfl (lv_at hl 1 rfl) ?_
  refine g_get (C := RX1) (T := TX1) (N := 12) (ci := 1) hx hb hts inX1 hown hK hW h_p1.2.2 (kd_herd h_p1) rfl 4 (by decide) mw_349 rfl rfl dX8_learn_33 ?_
  refine g_iast hx hb hK hW hS (hB 50 bb_50) (fun _ => kd_50) (by decide) dX8_learn_36 (fun S_4 eS_4 H locs hW hS => ?_)
  have h := bn_at eS_4 h
  refine lv_aload_n hx hb dX8_learn_37 rfl (lv_at hl 0 rfl) ?_
  refine g_get (C := RX8) (T := TX8) (N := 3) (ci := 8) hx hb hts inX8 hown hK hW (hB 5 bb_5) kd_5 rfl 0 (by decide) mw_209 rfl rfl dX8_learn_38 ?_
  refine lv_iconst (v := 4) hx hb dX8_learn_41 (by decide) ?_
  refine lv_aload_n hx hb dX8_learn_42 rfl (lv_at hl 2 rfl) ?_
  refine lv_aload_n hx hb dX8_learn_43 rfl (lv_at hl 1 rfl) ?_
  refine g_get (C := RX1) (T := TX1) (N := 12) (ci := 1) hx hb hts inX1 hown hK hW h_p1.2.2 (kd_herd h_p1) rfl 5 (by decide) mw_352 rfl rfl dX8_learn_44 ?_
  obtain ⟨r_6, hc_5, h⟩ := cl0_ex h
  refine g_ci (g_runV (ci := 9) (o := 1) (As := [.int (gv S_4 p1 5)]) (rest := [.int 4, .ref (ad 50)]) hx hb hml hown hts hK hN hT hS hW (c_X9_grassAt hB hc_5) (hB 1 bb_1) kd_1 rfl (gw_V mw_722 mw_723 mw_724 mw_67 mw_725) hv_X9_grassAt rfl rfl rfl (rm_ok (by decide) (by decide)) hl.1 (Nat.le_of_ble_eq_true rfl) dX8_learn_47 rfl ⟨Nat.zero_le _, Nat.zero_le _⟩) hS (fun H locs hW hS => ?_)
  refine g_iast hx hb hK hW hS (hB 50 bb_50) (fun _ => kd_50) (by decide) dX8_learn_50 (fun S_7 eS_7 H locs hW hS => ?_)
  have h := bn_at eS_7 h
  refine lv_aload_n hx hb dX8_learn_51 rfl (lv_at hl 0 rfl) ?_
  refine g_get (C := RX8) (T := TX8) (N := 3) (ci := 8) hx hb hts inX8 hown hK hW (hB 5 bb_5) kd_5 rfl 0 (by decide) mw_209 rfl rfl dX8_learn_52 ?_
  refine lv_iconst (v := 5) hx hb dX8_learn_55 (by decide) ?_
  refine lv_aload_n hx hb dX8_learn_56 rfl (lv_at hl 2 rfl) ?_
  refine lv_aload_n hx hb dX8_learn_57 rfl (lv_at hl 1 rfl) ?_
  refine g_get (C := RX1) (T := TX1) (N := 12) (ci := 1) hx hb hts inX1 hown hK hW h_p1.2.2 (kd_herd h_p1) rfl 5 (by decide) mw_352 rfl rfl dX8_learn_58 ?_
  obtain ⟨r_9, hc_8, h⟩ := cl0_ex h
  refine g_ci (g_runV (ci := 9) (o := 1) (As := [.int (gv S_7 p1 5)]) (rest := [.int 5, .ref (ad 50)]) hx hb hml hown hts hK hN hT hS hW (c_X9_milesOfStage hB hc_8) (hB 1 bb_1) kd_1 rfl (gw_V mw_726 mw_727 mw_728 mw_67 mw_729) hv_X9_milesOfStage rfl rfl rfl (rm_ok (by decide) (by decide)) hl.1 (Nat.le_of_ble_eq_true rfl) dX8_learn_61 rfl ⟨Nat.zero_le _, Nat.zero_le _⟩) hS (fun H locs hW hS => ?_)
  refine g_iast hx hb hK hW hS (hB 50 bb_50) (fun _ => kd_50) (by decide) dX8_learn_64 (fun S_10 eS_10 H locs hW hS => ?_)
  have h := bn_at eS_10 h
  refine lv_aload_n hx hb dX8_learn_65 rfl (lv_at hl 0 rfl) ?_
  refine g_get (C := RX8) (T := TX8) (N := 3) (ci := 8) hx hb hts inX8 hown hK hW (hB 5 bb_5) kd_5 rfl 0 (by decide) mw_209 rfl rfl dX8_learn_66 ?_
  refine lv_bipush (v := 6) hx hb dX8_learn_69 (by decide) ?_
  refine lv_aload_n hx hb dX8_learn_71 rfl (lv_at hl 1 rfl) ?_
  refine g_get (C := RX1) (T := TX1) (N := 12) (ci := 1) hx hb hts inX1 hown hK hW h_p1.2.2 (kd_herd h_p1) rfl 5 (by decide) mw_352 rfl rfl dX8_learn_72 ?_
  refine g_iast hx hb hK hW hS (hB 50 bb_50) (fun _ => kd_50) (by decide) dX8_learn_75 (fun S_11 eS_11 H locs hW hS => ?_)
  have h := bn_at eS_11 h
  refine lv_aload_n hx hb dX8_learn_76 rfl (lv_at hl 0 rfl) ?_
  refine g_get (C := RX8) (T := TX8) (N := 3) (ci := 8) hx hb hts inX8 hown hK hW (hB 5 bb_5) kd_5 rfl 0 (by decide) mw_209 rfl rfl dX8_learn_77 ?_
  refine lv_bipush (v := 7) hx hb dX8_learn_80 (by decide) ?_
  refine lv_iload hx hb dX8_learn_82 (lv_at hl 4 rfl) ?_
  refine g_iast hx hb hK hW hS (hB 50 bb_50) (fun _ => kd_50) (by decide) dX8_learn_84 (fun S_12 eS_12 H locs hW hS => ?_)
  have h := bn_at eS_12 h
  refine lv_aload_n hx hb dX8_learn_85 rfl (lv_at hl 0 rfl) ?_
  refine g_get (C := RX8) (T := TX8) (N := 3) (ci := 8) hx hb hts inX8 hown hK hW (hB 5 bb_5) kd_5 rfl 0 (by decide) mw_209 rfl rfl dX8_learn_86 ?_
  refine lv_bipush (v := 8) hx hb dX8_learn_89 (by decide) ?_
  refine lv_aload_n hx hb dX8_learn_91 rfl (lv_at hl 1 rfl) ?_
  obtain ⟨r_14, hc_13, h⟩ := cl0_ex h
  refine g_ci (g_runV (ci := 1) (o := p1) (As := []) (rest := [.int 8, .ref (ad 50)]) hx hb hml hown hts hK hN hT hS hW (c_X1_want hB h_p1 hc_13) h_p1.2.2 (kd_herd h_p1) rfl (gw_V mw_730 mw_731 mw_732 mw_74 mw_733) hv_X1_want rfl rfl rfl (rm_ok (by decide) (by decide)) hl.1 (Nat.le_of_ble_eq_true rfl) dX8_learn_92 rfl ⟨Nat.zero_le _, Nat.zero_le _⟩) hS (fun H locs hW hS => ?_)
  refine g_iast hx hb hK hW hS (hB 50 bb_50) (fun _ => kd_50) (by decide) dX8_learn_95 (fun S_15 eS_15 H locs hW hS => ?_)
  have h := bn_at eS_15 h
  cases h
  exact g_vret hx hb hr hlocks hW hS dX8_learn_96
theorem c_X8_learn (hB : Lk L) {p1 : Nat} (h_p1 : okh L p1) {S : St} {S9 : St} {p3 : Int32} {p4 : Int32} (h : f_X8_learn S p1 p3 p4 = some S9) : Met l yX8_learn (gws yX8_learn cX8_learn 5 none) (rmk 3) (va_Pc [.ref (ad 5), .ref (ad p1), .ref (ad 1), .int p3, .int p4] (WU g A ad L S)) (qv g A ad L S9) 0 0 A :=
  g_met [.ref (ad 5), .ref (ad p1), .ref (ad 1), .int p3, .int p4] (by decide) (Nat.le_of_ble_eq_true rfl) (fun p e s m below meth c ls C hW hl _ => t_X8_learn C hB h_p1 h hW va_S.rf hl)
theorem hv_X8_learn : yX8_learn.cls = RX8 ∧ yX8_learn.cls ≠ "java/lang/invoke/MethodHandle" ∧ yX8_learn.cls ≠ "java/lang/invoke/VarHandle" ∧ (parseMethodDescriptor yX8_learn.desc).map (fun d => d.parameters.length) = some 4 := by decide +kernel
/-! DroveRoads$Reckoner.pop -/
def f_X8_pop (S : St) : Option (Int32 × St) := if (gv S 5 2) ≤ 0 then (some (0, S)) else (if (gv S 5 2) ≤ 80 then (bn (sv S 5 2 ((gv S 5 2) - 1)) fun S_3 => if (gv S_3 5 2) < 0 ∨ 80 ≤ ix (gv S_3 5 2) then none else some ((gv S_3 51 (ix (gv S_3 5 2))), S_3)) else (some (0, S)))
set_option maxHeartbeats 4000000 in
theorem t_X8_pop (C : MC p s m args meth c cX8_pop 1 (some .int) RX8 g A) (hB : Lk L) {S : St} {r : Int32} {S9 : St} (h : f_X8_pop S = some (r, S9)) {H : Heap} {locs : List Loc} {ls : Array Slot} (hW : GW g A ad L S H) (hS : va_S A s.heap H locs) (hl : lv_has ls 1 [(0, .ref (ad 5))]) : W p l e (rmk 1) s m args below meth c H locs 0 0 (MQ below (qi g A ad L r S9) args s 0 0 A) (F0 m 0 ls []) := by
  obtain ⟨hx, hb, hml, hown, hts, hr, hlocks, hK, hN, hT⟩ := id C
  unfold f_X8_pop at h
  refine lv_aload_n hx hb dX8_pop_0 rfl (lv_at hl 0 rfl) ?_
  refine g_get (C := RX8) (T := TX8) (N := 3) (ci := 8) hx hb hts inX8 hown hK hW (hB 5 bb_5) kd_5 rfl 2 (by decide) mw_211 rfl rfl dX8_pop_1 ?_
  refine lv_if_le (tgt := 19) hx hb dX8_pop_4 (by decide) (fun c_1 => ?_) (fun c_1 => ?_)
  · have h := it_t c_1 h
    refine lv_iconst (v := 0) hx hb dX8_pop_19 (by decide) ?_
    cases h
    exact g_iret hx hb hr hlocks hW hS dX8_pop_20
  · have h := it_f c_1 h
    refine lv_aload_n hx hb dX8_pop_7 rfl (lv_at hl 0 rfl) ?_
    refine g_get (C := RX8) (T := TX8) (N := 3) (ci := 8) hx hb hts inX8 hown hK hW (hB 5 bb_5) kd_5 rfl 2 (by decide) mw_211 rfl rfl dX8_pop_8 ?_
    refine lv_aload_n hx hb dX8_pop_11 rfl (lv_at hl 0 rfl) ?_
    refine g_get (C := RX8) (T := TX8) (N := 3) (ci := 8) hx hb hts inX8 hown hK hW (hB 5 bb_5) kd_5 rfl 1 (by decide) mw_210 rfl rfl dX8_pop_12 ?_
    refine g_alen (v := 80) hx hb hK hW (hB 51 bb_51) 1 rfl kd_51 (by decide) dX8_pop_15 ?_
    refine lv_icmp_le (tgt := 21) hx hb dX8_pop_16 (by decide) (fun c_2 => ?_) (fun c_2 => ?_)
    · have h := it_t c_2 h
      refine lv_aload_n hx hb dX8_pop_21 rfl (lv_at hl 0 rfl) ?_
      refine lv_dup hx hb dX8_pop_22 rfl ?_
      refine g_get (C := RX8) (T := TX8) (N := 3) (ci := 8) hx hb hts inX8 hown hK hW (hB 5 bb_5) kd_5 rfl 2 (by decide) mw_211 rfl rfl dX8_pop_23 ?_
      refine lv_iconst (v := 1) hx hb dX8_pop_26 (by decide) ?_
      refine lv_isub hx hb dX8_pop_27 ?_
      refine g_put (C := RX8) (T := TX8) (N := 3) (ci := 8) hx hb hts inX8 tyX8 tyX8_ok nmX8 hown hK hW hS (hB 5 bb_5) kd_5 rfl 2 (by decide) mw_211 rfl rfl rfl rfl (Nat.le_of_ble_eq_true rfl) (sv S 5 2 ((gv S 5 2) - 1)) (ps_5_2) cellOf_sv dX8_pop_28 (fun S_3 eS_3 H locs hW hS => ?_)
      have h := bn_at eS_3 h
      refine lv_aload_n hx hb dX8_pop_31 rfl (lv_at hl 0 rfl) ?_
      refine g_get (C := RX8) (T := TX8) (N := 3) (ci := 8) hx hb hts inX8 hown hK hW (hB 5 bb_5) kd_5 rfl 1 (by decide) mw_210 rfl rfl dX8_pop_32 ?_
      refine lv_aload_n hx hb dX8_pop_35 rfl (lv_at hl 0 rfl) ?_
      refine g_get (C := RX8) (T := TX8) (N := 3) (ci := 8) hx hb hts inX8 hown hK hW (hB 5 bb_5) kd_5 rfl 2 (by decide) mw_211 rfl rfl dX8_pop_36 ?_
      obtain ⟨hi_4, h⟩ := ck_n h
      refine g_iald hx hb hK hW (hB 51 bb_51) kd_51 hi_4 dX8_pop_39 ?_
      cases h
      exact g_iret hx hb hr hlocks hW hS dX8_pop_40
    · have h := it_f c_2 h
      refine lv_iconst (v := 0) hx hb dX8_pop_19 (by decide) ?_
      cases h
      exact g_iret hx hb hr hlocks hW hS dX8_pop_20
theorem c_X8_pop (hB : Lk L) {S : St} {r : Int32} {S9 : St} (h : f_X8_pop S = some (r, S9)) : Met l yX8_pop (gws yX8_pop cX8_pop 1 (some .int)) (rmk 1) (va_Pc [.ref (ad 5)] (WU g A ad L S)) (qi g A ad L r S9) 0 0 A :=
  g_met [.ref (ad 5)] (by decide) (Nat.le_of_ble_eq_true rfl) (fun p e s m below meth c ls C hW hl _ => t_X8_pop C hB h hW va_S.rf hl)
theorem hv_X8_pop : yX8_pop.cls = RX8 ∧ yX8_pop.cls ≠ "java/lang/invoke/MethodHandle" ∧ yX8_pop.cls ≠ "java/lang/invoke/VarHandle" ∧ (parseMethodDescriptor yX8_pop.desc).map (fun d => d.parameters.length) = some 0 := by decide +kernel
/-! DroveRoads$Reckoner.push -/
def f_X8_push (S : St) (p1 : Int32) : Option (St) := if (gv S 5 2) < 0 then (some S) else (if 80 ≤ (gv S 5 2) then (some S) else (if (gv S 5 2) < 0 ∨ 80 ≤ ix (gv S 5 2) then none else bn (sv S 51 (ix (gv S 5 2)) p1) fun S_4 => bn (sv S_4 5 2 ((gv S_4 5 2) + 1)) fun S_5 => some S_5))
set_option maxHeartbeats 4000000 in
theorem t_X8_push (C : MC p s m args meth c cX8_push 2 none RX8 g A) (hB : Lk L) {S : St} {S9 : St} {p1 : Int32} (h : f_X8_push S p1 = some S9) {H : Heap} {locs : List Loc} {ls : Array Slot} (hW : GW g A ad L S H) (hS : va_S A s.heap H locs) (hl : lv_has ls 2 [(0, .ref (ad 5)), (1, .int p1)]) : W p l e (rmk 1) s m args below meth c H locs 0 0 (MQ below (qv g A ad L S9) args s 0 0 A) (F0 m 0 ls []) := by
  obtain ⟨hx, hb, hml, hown, hts, hr, hlocks, hK, hN, hT⟩ := id C
  unfold f_X8_push at h
  refine lv_aload_n hx hb dX8_push_0 rfl (lv_at hl 0 rfl) ?_
  refine g_get (C := RX8) (T := TX8) (N := 3) (ci := 8) hx hb hts inX8 hown hK hW (hB 5 bb_5) kd_5 rfl 2 (by decide) mw_211 rfl rfl dX8_push_1 ?_
  refine lv_if_lt (tgt := 39) hx hb dX8_push_4 (by decide) (fun c_1 => ?_) (fun c_1 => ?_)
  · have h := it_t c_1 h
    cases h
    exact g_vret hx hb hr hlocks hW hS dX8_push_39
  · have h := it_f c_1 h
    refine lv_aload_n hx hb dX8_push_7 rfl (lv_at hl 0 rfl) ?_
    refine g_get (C := RX8) (T := TX8) (N := 3) (ci := 8) hx hb hts inX8 hown hK hW (hB 5 bb_5) kd_5 rfl 2 (by decide) mw_211 rfl rfl dX8_push_8 ?_
    refine lv_aload_n hx hb dX8_push_11 rfl (lv_at hl 0 rfl) ?_
    refine g_get (C := RX8) (T := TX8) (N := 3) (ci := 8) hx hb hts inX8 hown hK hW (hB 5 bb_5) kd_5 rfl 1 (by decide) mw_210 rfl rfl dX8_push_12 ?_
    refine g_alen (v := 80) hx hb hK hW (hB 51 bb_51) 1 rfl kd_51 (by decide) dX8_push_15 ?_
    refine lv_icmp_ge (tgt := 39) hx hb dX8_push_16 (by decide) (fun c_2 => ?_) (fun c_2 => ?_)
    · have h := it_t c_2 h
      cases h
      exact g_vret hx hb hr hlocks hW hS dX8_push_39
    · have h := it_f c_2 h
      refine lv_aload_n hx hb dX8_push_19 rfl (lv_at hl 0 rfl) ?_
      refine g_get (C := RX8) (T := TX8) (N := 3) (ci := 8) hx hb hts inX8 hown hK hW (hB 5 bb_5) kd_5 rfl 1 (by decide) mw_210 rfl rfl dX8_push_20 ?_
      refine lv_aload_n hx hb dX8_push_23 rfl (lv_at hl 0 rfl) ?_
      refine g_get (C := RX8) (T := TX8) (N := 3) (ci := 8) hx hb hts inX8 hown hK hW (hB 5 bb_5) kd_5 rfl 2 (by decide) mw_211 rfl rfl dX8_push_24 ?_
      refine lv_iload_n hx hb dX8_push_27 rfl (lv_at hl 1 rfl) ?_
      obtain ⟨hi_3, h⟩ := ck_n h
      refine g_iast hx hb hK hW hS (hB 51 bb_51) (fun _ => kd_51) hi_3 dX8_push_28 (fun S_4 eS_4 H locs hW hS => ?_)
      have h := bn_at eS_4 h
      refine lv_aload_n hx hb dX8_push_29 rfl (lv_at hl 0 rfl) ?_
      refine lv_dup hx hb dX8_push_30 rfl ?_
      refine g_get (C := RX8) (T := TX8) (N := 3) (ci := 8) hx hb hts inX8 hown hK hW (hB 5 bb_5) kd_5 rfl 2 (by decide) mw_211 rfl rfl dX8_push_31 ?_
      refine lv_iconst (v := 1) hx hb dX8_push_34 (by decide) ?_
      refine lv_iadd hx hb dX8_push_35 ?_
      refine g_put (C := RX8) (T := TX8) (N := 3) (ci := 8) hx hb hts inX8 tyX8 tyX8_ok nmX8 hown hK hW hS (hB 5 bb_5) kd_5 rfl 2 (by decide) mw_211 rfl rfl rfl rfl (Nat.le_of_ble_eq_true rfl) (sv S_4 5 2 ((gv S_4 5 2) + 1)) (ps_5_2) cellOf_sv dX8_push_36 (fun S_5 eS_5 H locs hW hS => ?_)
      have h := bn_at eS_5 h
      cases h
      exact g_vret hx hb hr hlocks hW hS dX8_push_39
theorem c_X8_push (hB : Lk L) {S : St} {S9 : St} {p1 : Int32} (h : f_X8_push S p1 = some S9) : Met l yX8_push (gws yX8_push cX8_push 2 none) (rmk 1) (va_Pc [.ref (ad 5), .int p1] (WU g A ad L S)) (qv g A ad L S9) 0 0 A :=
  g_met [.ref (ad 5), .int p1] (by decide) (Nat.le_of_ble_eq_true rfl) (fun p e s m below meth c ls C hW hl _ => t_X8_push C hB h hW va_S.rf hl)
theorem hv_X8_push : yX8_push.cls = RX8 ∧ yX8_push.cls ≠ "java/lang/invoke/MethodHandle" ∧ yX8_push.cls ≠ "java/lang/invoke/VarHandle" ∧ (parseMethodDescriptor yX8_push.desc).map (fun d => d.parameters.length) = some 1 := by decide +kernel
/-! DroveRoads$Reckoner.join -/
def f_X8_join (S : St) (p1 : Int32) (p2 : Int32) (p3 : Int32) : Option (Int32) := if p1 = 5 then (if p2 = 0 then (if p3 = 0 then (some 0) else (some 1)) else (some 1)) else if p1 = 6 then (if p2 = 0 then (some 0) else (if p3 = 0 then (some 0) else (some 1))) else if p1 = 7 then (some 0) else if p1 = 8 then (some 0) else if p1 = 9 then (some 0) else if p1 = 10 then (some 0) else if p1 = 11 then (some 0) else if p1 = 12 then (some 0) else if p1 = 13 then (some 0) else if p1 = 14 then (some 0) else if p1 = 15 then (some 0) else if p1 = 16 then (some 0) else if p1 = 17 then (some 0) else if p1 = 18 then (if p3 ≤ p2 then (some 0) else (some 1)) else if p1 = 19 then (if p2 ≤ p3 then (some 0) else (some 1)) else if p1 = 20 then (if p2 = p3 then (some 1) else (some 0)) else if p1 = 21 then (some (p2 + p3)) else if p1 = 22 then (some (p2 - p3)) else (some 0)
set_option maxHeartbeats 4000000 in
theorem t_X8_join (C : MC p s m args meth c cX8_join 3 (some .int) RX8 g A) (hB : Lk L) {S : St} {r : Int32} {p1 : Int32} {p2 : Int32} {p3 : Int32} (h : f_X8_join S p1 p2 p3 = some r) {H : Heap} {locs : List Loc} {ls : Array Slot} (hW : GW g A ad L S H) (hS : va_S A s.heap H locs) (hl : lv_has ls 3 [(0, .int p1), (1, .int p2), (2, .int p3)]) : W p l e (rmk 1) s m args below meth c H locs 0 0 (MQ below (qi g A ad L r S) args s 0 0 A) (F0 m 0 ls []) := by
  obtain ⟨hx, hb, hml, hown, hts, hr, hlocks, hK, hN, hT⟩ := id C
  unfold f_X8_join at h
  refine lv_iload_n hx hb dX8_join_0 rfl (lv_at hl 0 rfl) ?_
  by_cases c_1 : p1 = 5
  · have h := it_t c_1 h
    refine lv_tableIn (tgt := 88) hx hb dX8_join_1 (by rw [c_1]; decide) (by rw [c_1]; decide) (by rw [c_1]; rfl) (by decide) ?_
    refine lv_iload_n hx hb dX8_join_88 rfl (lv_at hl 1 rfl) ?_
    refine lv_if_ne (tgt := 96) hx hb dX8_join_89 (by decide) (fun c_2 => ?_) (fun c_2 => ?_)
    · have h := it_f c_2 h
      refine lv_iconst (v := 1) hx hb dX8_join_96 (by decide) ?_
      refine lv_goto (tgt := 101) hx hb dX8_join_97 (by decide) ?_
      cases h
      exact g_iret hx hb hr hlocks hW hS dX8_join_101
    · have h := it_t c_2 h
      refine lv_iload_n hx hb dX8_join_92 rfl (lv_at hl 2 rfl) ?_
      refine lv_if_eq (tgt := 100) hx hb dX8_join_93 (by decide) (fun c_3 => ?_) (fun c_3 => ?_)
      · have h := it_t c_3 h
        refine lv_iconst (v := 0) hx hb dX8_join_100 (by decide) ?_
        cases h
        exact g_iret hx hb hr hlocks hW hS dX8_join_101
      · have h := it_f c_3 h
        refine lv_iconst (v := 1) hx hb dX8_join_96 (by decide) ?_
        refine lv_goto (tgt := 101) hx hb dX8_join_97 (by decide) ?_
        cases h
        exact g_iret hx hb hr hlocks hW hS dX8_join_101
  have h := it_f c_1 h
  by_cases c_4 : p1 = 6
  · have h := it_t c_4 h
    refine lv_tableIn (tgt := 102) hx hb dX8_join_1 (by rw [c_4]; decide) (by rw [c_4]; decide) (by rw [c_4]; rfl) (by decide) ?_
    refine lv_iload_n hx hb dX8_join_102 rfl (lv_at hl 1 rfl) ?_
    refine lv_if_eq (tgt := 114) hx hb dX8_join_103 (by decide) (fun c_5 => ?_) (fun c_5 => ?_)
    · have h := it_t c_5 h
      refine lv_iconst (v := 0) hx hb dX8_join_114 (by decide) ?_
      cases h
      exact g_iret hx hb hr hlocks hW hS dX8_join_115
    · have h := it_f c_5 h
      refine lv_iload_n hx hb dX8_join_106 rfl (lv_at hl 2 rfl) ?_
      refine lv_if_eq (tgt := 114) hx hb dX8_join_107 (by decide) (fun c_6 => ?_) (fun c_6 => ?_)
      · have h := it_t c_6 h
        refine lv_iconst (v := 0) hx hb dX8_join_114 (by decide) ?_
        cases h
        exact g_iret hx hb hr hlocks hW hS dX8_join_115
      · have h := it_f c_6 h
        refine lv_iconst (v := 1) hx hb dX8_join_110 (by decide) ?_
        refine lv_goto (tgt := 115) hx hb dX8_join_111 (by decide) ?_
        cases h
        exact g_iret hx hb hr hlocks hW hS dX8_join_115
  have h := it_f c_4 h
  by_cases c_7 : p1 = 7
  · have h := it_t c_7 h
    refine lv_tableIn (tgt := 157) hx hb dX8_join_1 (by rw [c_7]; decide) (by rw [c_7]; decide) (by rw [c_7]; rfl) (by decide) ?_
    refine lv_iconst (v := 0) hx hb dX8_join_157 (by decide) ?_
    cases h
    exact g_iret hx hb hr hlocks hW hS dX8_join_158
  have h := it_f c_7 h
  by_cases c_8 : p1 = 8
  · have h := it_t c_8 h
    refine lv_tableIn (tgt := 157) hx hb dX8_join_1 (by rw [c_8]; decide) (by rw [c_8]; decide) (by rw [c_8]; rfl) (by decide) ?_
    refine lv_iconst (v := 0) hx hb dX8_join_157 (by decide) ?_
    cases h
    exact g_iret hx hb hr hlocks hW hS dX8_join_158
  have h := it_f c_8 h
  by_cases c_9 : p1 = 9
  · have h := it_t c_9 h
    refine lv_tableIn (tgt := 157) hx hb dX8_join_1 (by rw [c_9]; decide) (by rw [c_9]; decide) (by rw [c_9]; rfl) (by decide) ?_
    refine lv_iconst (v := 0) hx hb dX8_join_157 (by decide) ?_
    cases h
    exact g_iret hx hb hr hlocks hW hS dX8_join_158
  have h := it_f c_9 h
  by_cases c_10 : p1 = 10
  · have h := it_t c_10 h
    refine lv_tableIn (tgt := 157) hx hb dX8_join_1 (by rw [c_10]; decide) (by rw [c_10]; decide) (by rw [c_10]; rfl) (by decide) ?_
    refine lv_iconst (v := 0) hx hb dX8_join_157 (by decide) ?_
    cases h
    exact g_iret hx hb hr hlocks hW hS dX8_join_158
  have h := it_f c_10 h
  by_cases c_11 : p1 = 11
  · have h := it_t c_11 h
    refine lv_tableIn (tgt := 157) hx hb dX8_join_1 (by rw [c_11]; decide) (by rw [c_11]; decide) (by rw [c_11]; rfl) (by decide) ?_
    refine lv_iconst (v := 0) hx hb dX8_join_157 (by decide) ?_
    cases h
    exact g_iret hx hb hr hlocks hW hS dX8_join_158
  have h := it_f c_11 h
  by_cases c_12 : p1 = 12
  · have h := it_t c_12 h
    refine lv_tableIn (tgt := 157) hx hb dX8_join_1 (by rw [c_12]; decide) (by rw [c_12]; decide) (by rw [c_12]; rfl) (by decide) ?_
    refine lv_iconst (v := 0) hx hb dX8_join_157 (by decide) ?_
    cases h
    exact g_iret hx hb hr hlocks hW hS dX8_join_158
  have h := it_f c_12 h
  by_cases c_13 : p1 = 13
  · have h := it_t c_13 h
    refine lv_tableIn (tgt := 157) hx hb dX8_join_1 (by rw [c_13]; decide) (by rw [c_13]; decide) (by rw [c_13]; rfl) (by decide) ?_
    refine lv_iconst (v := 0) hx hb dX8_join_157 (by decide) ?_
    cases h
    exact g_iret hx hb hr hlocks hW hS dX8_join_158
  have h := it_f c_13 h
  by_cases c_14 : p1 = 14
  · have h := it_t c_14 h
    refine lv_tableIn (tgt := 157) hx hb dX8_join_1 (by rw [c_14]; decide) (by rw [c_14]; decide) (by rw [c_14]; rfl) (by decide) ?_
    refine lv_iconst (v := 0) hx hb dX8_join_157 (by decide) ?_
    cases h
    exact g_iret hx hb hr hlocks hW hS dX8_join_158
  have h := it_f c_14 h
  by_cases c_15 : p1 = 15
  · have h := it_t c_15 h
    refine lv_tableIn (tgt := 157) hx hb dX8_join_1 (by rw [c_15]; decide) (by rw [c_15]; decide) (by rw [c_15]; rfl) (by decide) ?_
    refine lv_iconst (v := 0) hx hb dX8_join_157 (by decide) ?_
    cases h
    exact g_iret hx hb hr hlocks hW hS dX8_join_158
  have h := it_f c_15 h
  by_cases c_16 : p1 = 16
  · have h := it_t c_16 h
    refine lv_tableIn (tgt := 157) hx hb dX8_join_1 (by rw [c_16]; decide) (by rw [c_16]; decide) (by rw [c_16]; rfl) (by decide) ?_
    refine lv_iconst (v := 0) hx hb dX8_join_157 (by decide) ?_
    cases h
    exact g_iret hx hb hr hlocks hW hS dX8_join_158
  have h := it_f c_16 h
  by_cases c_17 : p1 = 17
  · have h := it_t c_17 h
    refine lv_tableIn (tgt := 157) hx hb dX8_join_1 (by rw [c_17]; decide) (by rw [c_17]; decide) (by rw [c_17]; rfl) (by decide) ?_
    refine lv_iconst (v := 0) hx hb dX8_join_157 (by decide) ?_
    cases h
    exact g_iret hx hb hr hlocks hW hS dX8_join_158
  have h := it_f c_17 h
  by_cases c_18 : p1 = 18
  · have h := it_t c_18 h
    refine lv_tableIn (tgt := 116) hx hb dX8_join_1 (by rw [c_18]; decide) (by rw [c_18]; decide) (by rw [c_18]; rfl) (by decide) ?_
    refine lv_iload_n hx hb dX8_join_116 rfl (lv_at hl 1 rfl) ?_
    refine lv_iload_n hx hb dX8_join_117 rfl (lv_at hl 2 rfl) ?_
    refine lv_icmp_ge (tgt := 125) hx hb dX8_join_118 (by decide) (fun c_19 => ?_) (fun c_19 => ?_)
    · have h := it_t c_19 h
      refine lv_iconst (v := 0) hx hb dX8_join_125 (by decide) ?_
      cases h
      exact g_iret hx hb hr hlocks hW hS dX8_join_126
    · have h := it_f c_19 h
      refine lv_iconst (v := 1) hx hb dX8_join_121 (by decide) ?_
      refine lv_goto (tgt := 126) hx hb dX8_join_122 (by decide) ?_
      cases h
      exact g_iret hx hb hr hlocks hW hS dX8_join_126
  have h := it_f c_18 h
  by_cases c_20 : p1 = 19
  · have h := it_t c_20 h
    refine lv_tableIn (tgt := 127) hx hb dX8_join_1 (by rw [c_20]; decide) (by rw [c_20]; decide) (by rw [c_20]; rfl) (by decide) ?_
    refine lv_iload_n hx hb dX8_join_127 rfl (lv_at hl 1 rfl) ?_
    refine lv_iload_n hx hb dX8_join_128 rfl (lv_at hl 2 rfl) ?_
    refine lv_icmp_le (tgt := 136) hx hb dX8_join_129 (by decide) (fun c_21 => ?_) (fun c_21 => ?_)
    · have h := it_t c_21 h
      refine lv_iconst (v := 0) hx hb dX8_join_136 (by decide) ?_
      cases h
      exact g_iret hx hb hr hlocks hW hS dX8_join_137
    · have h := it_f c_21 h
      refine lv_iconst (v := 1) hx hb dX8_join_132 (by decide) ?_
      refine lv_goto (tgt := 137) hx hb dX8_join_133 (by decide) ?_
      cases h
      exact g_iret hx hb hr hlocks hW hS dX8_join_137
  have h := it_f c_20 h
  by_cases c_22 : p1 = 20
  · have h := it_t c_22 h
    refine lv_tableIn (tgt := 138) hx hb dX8_join_1 (by rw [c_22]; decide) (by rw [c_22]; decide) (by rw [c_22]; rfl) (by decide) ?_
    refine lv_iload_n hx hb dX8_join_138 rfl (lv_at hl 1 rfl) ?_
    refine lv_iload_n hx hb dX8_join_139 rfl (lv_at hl 2 rfl) ?_
    refine lv_icmp_ne (tgt := 147) hx hb dX8_join_140 (by decide) (fun c_23 => ?_) (fun c_23 => ?_)
    · have h := it_f c_23 h
      refine lv_iconst (v := 0) hx hb dX8_join_147 (by decide) ?_
      cases h
      exact g_iret hx hb hr hlocks hW hS dX8_join_148
    · have h := it_t c_23 h
      refine lv_iconst (v := 1) hx hb dX8_join_143 (by decide) ?_
      refine lv_goto (tgt := 148) hx hb dX8_join_144 (by decide) ?_
      cases h
      exact g_iret hx hb hr hlocks hW hS dX8_join_148
  have h := it_f c_22 h
  by_cases c_24 : p1 = 21
  · have h := it_t c_24 h
    refine lv_tableIn (tgt := 149) hx hb dX8_join_1 (by rw [c_24]; decide) (by rw [c_24]; decide) (by rw [c_24]; rfl) (by decide) ?_
    refine lv_iload_n hx hb dX8_join_149 rfl (lv_at hl 1 rfl) ?_
    refine lv_iload_n hx hb dX8_join_150 rfl (lv_at hl 2 rfl) ?_
    refine lv_iadd hx hb dX8_join_151 ?_
    cases h
    exact g_iret hx hb hr hlocks hW hS dX8_join_152
  have h := it_f c_24 h
  by_cases c_25 : p1 = 22
  · have h := it_t c_25 h
    refine lv_tableIn (tgt := 153) hx hb dX8_join_1 (by rw [c_25]; decide) (by rw [c_25]; decide) (by rw [c_25]; rfl) (by decide) ?_
    refine lv_iload_n hx hb dX8_join_153 rfl (lv_at hl 1 rfl) ?_
    refine lv_iload_n hx hb dX8_join_154 rfl (lv_at hl 2 rfl) ?_
    refine lv_isub hx hb dX8_join_155 ?_
    cases h
    exact g_iret hx hb hr hlocks hW hS dX8_join_156
  have h := it_f c_25 h
  have nc_1 := lv_neT c_1 (a := 5) rfl
  have nc_4 := lv_neT c_4 (a := 6) rfl
  have nc_7 := lv_neT c_7 (a := 7) rfl
  have nc_8 := lv_neT c_8 (a := 8) rfl
  have nc_9 := lv_neT c_9 (a := 9) rfl
  have nc_10 := lv_neT c_10 (a := 10) rfl
  have nc_11 := lv_neT c_11 (a := 11) rfl
  have nc_12 := lv_neT c_12 (a := 12) rfl
  have nc_13 := lv_neT c_13 (a := 13) rfl
  have nc_14 := lv_neT c_14 (a := 14) rfl
  have nc_15 := lv_neT c_15 (a := 15) rfl
  have nc_16 := lv_neT c_16 (a := 16) rfl
  have nc_17 := lv_neT c_17 (a := 17) rfl
  have nc_18 := lv_neT c_18 (a := 18) rfl
  have nc_20 := lv_neT c_20 (a := 19) rfl
  have nc_22 := lv_neT c_22 (a := 20) rfl
  have nc_24 := lv_neT c_24 (a := 21) rfl
  have nc_25 := lv_neT c_25 (a := 22) rfl
  refine lv_tableOut (tgt := 157) hx hb dX8_join_1 (by omega) (by decide) ?_
  refine lv_iconst (v := 0) hx hb dX8_join_157 (by decide) ?_
  cases h
  exact g_iret hx hb hr hlocks hW hS dX8_join_158
theorem c_X8_join (hB : Lk L) {S : St} {r : Int32} {p1 : Int32} {p2 : Int32} {p3 : Int32} (h : f_X8_join S p1 p2 p3 = some r) : Met l yX8_join (gws yX8_join cX8_join 3 (some .int)) (rmk 1) (va_Pc [.int p1, .int p2, .int p3] (WU g A ad L S)) (qi g A ad L r S) 0 0 A :=
  g_met [.int p1, .int p2, .int p3] (by decide) (Nat.le_of_ble_eq_true rfl) (fun p e s m below meth c ls C hW hl _ => t_X8_join C hB h hW va_S.rf hl)
theorem hs_X8_join : yX8_join.cls ≠ "java/lang/invoke/MethodHandle" ∧ yX8_join.cls ≠ "java/lang/invoke/VarHandle" ∧ (parseMethodDescriptor yX8_join.desc).map (fun d => d.parameters.length) = some 3 := by decide +kernel
/-! DroveRoads$Reckoner.reckonToken -/
def f_X8_reckonToken_j28 (S : St) (v1 : Int32) : Option (St) := if v1 = 7 then (cl1 (f_X8_pop S) fun r_15 S_16 => if r_15 = 0 then (cl0 (f_X8_push S_16 1) fun S_21 => some S_21) else (cl0 (f_X8_push S_16 0) fun S_19 => some S_19)) else (cl1 (f_X8_pop S) fun r_5 S_6 => cl1 (f_X8_pop S_6) fun r_8 S_9 => cl0 (f_X8_join S_9 v1 r_8 r_5) fun r_11 => cl0 (f_X8_push S_9 r_11) fun S_13 => some S_13)
set_option maxHeartbeats 4000000 in
theorem t_X8_reckonToken_j28 (C : MC p s m args meth c cX8_reckonToken 5 none RX8 g A) (hB : Lk L) {S : St} {S9 : St} {v1 : Int32} (h : f_X8_reckonToken_j28 S v1 = some S9) {H : Heap} {locs : List Loc} {ls : Array Slot} (hW : GW g A ad L S H) (hS : va_S A s.heap H locs) (hl : lv_has ls 5 [(0, .ref (ad 5)), (1, .int v1)]) : W p l e (rmk 2) s m args below meth c H locs 0 0 (MQ below (qv g A ad L S9) args s 0 0 A) (F0 m 28 ls []) := by
  obtain ⟨hx, hb, hml, hown, hts, hr, hlocks, hK, hN, hT⟩ := id C
  unfold f_X8_reckonToken_j28 at h
  refine lv_iload_n hx hb dX8_reckonToken_28 rfl (lv_at hl 1 rfl) ?_
  refine lv_bipush (v := 7) hx hb dX8_reckonToken_29 (by decide) ?_
  refine lv_icmp_ne (tgt := 53) hx hb dX8_reckonToken_31 (by decide) (fun c_3 => ?_) (fun c_3 => ?_)
  · have h := it_f c_3 h
    refine lv_aload_n hx hb dX8_reckonToken_53 rfl (lv_at hl 0 rfl) ?_
    obtain ⟨r_5, S_6, hc_4, h⟩ := cl1_ex h
    refine g_ci (g_runV (ci := 8) (o := 5) (As := []) (rest := []) hx hb hml hown hts hK hN hT hS hW (c_X8_pop hB hc_4) (hB 5 bb_5) kd_5 rfl (gw_V mw_750 mw_752 mw_27 mw_71 mw_753) hv_X8_pop rfl rfl rfl (rm_ok (by decide) (by decide)) hl.1 (Nat.le_of_ble_eq_true rfl) dX8_reckonToken_54 rfl ⟨Nat.zero_le _, Nat.zero_le _⟩) hS (fun H locs hW hS => ?_)
    refine lv_istore_n (lv' := [(3, .int r_5), (0, .ref (ad 5)), (1, .int v1)]) hx hb dX8_reckonToken_57 rfl hl (by decide) rfl (fun ls hl => ?_)
    refine lv_aload_n hx hb dX8_reckonToken_58 rfl (lv_at hl 1 rfl) ?_
    obtain ⟨r_8, S_9, hc_7, h⟩ := cl1_ex h
    refine g_ci (g_runV (ci := 8) (o := 5) (As := []) (rest := []) hx hb hml hown hts hK hN hT hS hW (c_X8_pop hB hc_7) (hB 5 bb_5) kd_5 rfl (gw_V mw_750 mw_752 mw_27 mw_71 mw_753) hv_X8_pop rfl rfl rfl (rm_ok (by decide) (by decide)) hl.1 (Nat.le_of_ble_eq_true rfl) dX8_reckonToken_59 rfl ⟨Nat.zero_le _, Nat.zero_le _⟩) hS (fun H locs hW hS => ?_)
    refine lv_istore (lv' := [(4, .int r_8), (3, .int r_5), (0, .ref (ad 5)), (1, .int v1)]) hx hb dX8_reckonToken_62 hl (by decide) rfl (fun ls hl => ?_)
    refine lv_aload_n hx hb dX8_reckonToken_64 rfl (lv_at hl 2 rfl) ?_
    refine lv_iload_n hx hb dX8_reckonToken_65 rfl (lv_at hl 3 rfl) ?_
    refine lv_iload hx hb dX8_reckonToken_66 (lv_at hl 0 rfl) ?_
    refine lv_iload_n hx hb dX8_reckonToken_68 rfl (lv_at hl 1 rfl) ?_
    obtain ⟨r_11, hc_10, h⟩ := cl0_ex h
    refine g_ci (g_runS (As := [.int v1, .int r_8, .int r_5]) (rest := [.ref (ad 5)]) hx hb hml hown hts hK hN hT hS hW (c_X8_join hB hc_10) (gw_S mw_754 mw_755 mw_71 mw_756) hs_X8_join rfl rfl rfl (rm_ok (by decide) (by decide)) hl.1 (Nat.le_of_ble_eq_true rfl) dX8_reckonToken_69 rfl ⟨Nat.zero_le _, Nat.zero_le _⟩) hS (fun H locs hW hS => ?_)
    obtain ⟨S_13, hc_12, h⟩ := cl0_ex h
    refine g_cv (g_runV (ci := 8) (o := 5) (As := [.int r_11]) (rest := []) hx hb hml hown hts hK hN hT hS hW (c_X8_push hB hc_12) (hB 5 bb_5) kd_5 rfl (gw_V mw_742 mw_744 mw_25 mw_71 mw_745) hv_X8_push rfl rfl rfl (rm_ok (by decide) (by decide)) hl.1 (Nat.le_of_ble_eq_true rfl) dX8_reckonToken_72 rfl ⟨Nat.zero_le _, Nat.zero_le _⟩) hS (fun H locs hW hS => ?_)
    cases h
    exact g_vret hx hb hr hlocks hW hS dX8_reckonToken_75
  · have h := it_t c_3 h
    refine lv_aload_n hx hb dX8_reckonToken_34 rfl (lv_at hl 0 rfl) ?_
    refine lv_aload_n hx hb dX8_reckonToken_35 rfl (lv_at hl 0 rfl) ?_
    obtain ⟨r_15, S_16, hc_14, h⟩ := cl1_ex h
    refine g_ci (g_runV (ci := 8) (o := 5) (As := []) (rest := [.ref (ad 5)]) hx hb hml hown hts hK hN hT hS hW (c_X8_pop hB hc_14) (hB 5 bb_5) kd_5 rfl (gw_V mw_750 mw_752 mw_27 mw_71 mw_753) hv_X8_pop rfl rfl rfl (rm_ok (by decide) (by decide)) hl.1 (Nat.le_of_ble_eq_true rfl) dX8_reckonToken_36 rfl ⟨Nat.zero_le _, Nat.zero_le _⟩) hS (fun H locs hW hS => ?_)
    refine lv_if_ne (tgt := 46) hx hb dX8_reckonToken_39 (by decide) (fun c_17 => ?_) (fun c_17 => ?_)
    · have h := it_f c_17 h
      refine lv_iconst (v := 0) hx hb dX8_reckonToken_46 (by decide) ?_
      obtain ⟨S_19, hc_18, h⟩ := cl0_ex h
      refine g_cv (g_runV (ci := 8) (o := 5) (As := [.int 0]) (rest := []) hx hb hml hown hts hK hN hT hS hW (c_X8_push hB hc_18) (hB 5 bb_5) kd_5 rfl (gw_V mw_742 mw_744 mw_25 mw_71 mw_745) hv_X8_push rfl rfl rfl (rm_ok (by decide) (by decide)) hl.1 (Nat.le_of_ble_eq_true rfl) dX8_reckonToken_47 rfl ⟨Nat.zero_le _, Nat.zero_le _⟩) hS (fun H locs hW hS => ?_)
      refine lv_goto (tgt := 75) hx hb dX8_reckonToken_50 (by decide) ?_
      cases h
      exact g_vret hx hb hr hlocks hW hS dX8_reckonToken_75
    · have h := it_t c_17 h
      refine lv_iconst (v := 1) hx hb dX8_reckonToken_42 (by decide) ?_
      refine lv_goto (tgt := 47) hx hb dX8_reckonToken_43 (by decide) ?_
      obtain ⟨S_21, hc_20, h⟩ := cl0_ex h
      refine g_cv (g_runV (ci := 8) (o := 5) (As := [.int 1]) (rest := []) hx hb hml hown hts hK hN hT hS hW (c_X8_push hB hc_20) (hB 5 bb_5) kd_5 rfl (gw_V mw_742 mw_744 mw_25 mw_71 mw_745) hv_X8_push rfl rfl rfl (rm_ok (by decide) (by decide)) hl.1 (Nat.le_of_ble_eq_true rfl) dX8_reckonToken_47 rfl ⟨Nat.zero_le _, Nat.zero_le _⟩) hS (fun H locs hW hS => ?_)
      refine lv_goto (tgt := 75) hx hb dX8_reckonToken_50 (by decide) ?_
      cases h
      exact g_vret hx hb hr hlocks hW hS dX8_reckonToken_75
def f_X8_reckonToken (S : St) (p1 : Int32) : Option (St) := bn (p1 - 8) fun x_1 => if x_1 < 0 then (f_X8_reckonToken_j28 S p1) else (if 9 ≤ x_1 then (f_X8_reckonToken_j28 S p1) else (if x_1 < 0 ∨ 9 ≤ ix x_1 then none else cl0 (f_X8_push S (gv S 50 (ix x_1))) fun S_25 => some S_25))
set_option maxHeartbeats 4000000 in
theorem t_X8_reckonToken (C : MC p s m args meth c cX8_reckonToken 5 none RX8 g A) (hB : Lk L) {S : St} {S9 : St} {p1 : Int32} (h : f_X8_reckonToken S p1 = some S9) {H : Heap} {locs : List Loc} {ls : Array Slot} (hW : GW g A ad L S H) (hS : va_S A s.heap H locs) (hl : lv_has ls 5 [(0, .ref (ad 5)), (1, .int p1)]) : W p l e (rmk 2) s m args below meth c H locs 0 0 (MQ below (qv g A ad L S9) args s 0 0 A) (F0 m 0 ls []) := by
  obtain ⟨hx, hb, hml, hown, hts, hr, hlocks, hK, hN, hT⟩ := id C
  unfold f_X8_reckonToken at h
  refine lv_iload_n hx hb dX8_reckonToken_0 rfl (lv_at hl 1 rfl) ?_
  refine lv_bipush (v := 8) hx hb dX8_reckonToken_1 (by decide) ?_
  refine lv_isub hx hb dX8_reckonToken_3 ?_
  refine lv_topi (fun x_1 ex_1 => ?_)
  have h := bn_at ex_1 h
  refine lv_istore_n (lv' := [(2, .int x_1), (0, .ref (ad 5)), (1, .int p1)]) hx hb dX8_reckonToken_4 rfl hl (by decide) rfl (fun ls hl => ?_)
  refine lv_iload_n hx hb dX8_reckonToken_5 rfl (lv_at hl 0 rfl) ?_
  refine lv_if_lt (tgt := 28) hx hb dX8_reckonToken_6 (by decide) (fun c_2 => ?_) (fun c_2 => ?_)
  · have h := it_t c_2 h
    exact t_X8_reckonToken_j28 C hB h hW hS (lv_sub hl [1, 2] rfl)
  · have h := it_f c_2 h
    refine lv_iload_n hx hb dX8_reckonToken_9 rfl (lv_at hl 0 rfl) ?_
    refine lv_bipush (v := 9) hx hb dX8_reckonToken_10 (by decide) ?_
    refine lv_icmp_ge (tgt := 28) hx hb dX8_reckonToken_12 (by decide) (fun c_22 => ?_) (fun c_22 => ?_)
    · have h := it_t c_22 h
      exact t_X8_reckonToken_j28 C hB h hW hS (lv_sub hl [1, 2] rfl)
    · have h := it_f c_22 h
      refine lv_aload_n hx hb dX8_reckonToken_15 rfl (lv_at hl 1 rfl) ?_
      refine lv_aload_n hx hb dX8_reckonToken_16 rfl (lv_at hl 1 rfl) ?_
      refine g_get (C := RX8) (T := TX8) (N := 3) (ci := 8) hx hb hts inX8 hown hK hW (hB 5 bb_5) kd_5 rfl 0 (by decide) mw_209 rfl rfl dX8_reckonToken_17 ?_
      refine lv_iload_n hx hb dX8_reckonToken_20 rfl (lv_at hl 0 rfl) ?_
      obtain ⟨hi_23, h⟩ := ck_n h
      refine g_iald hx hb hK hW (hB 50 bb_50) kd_50 hi_23 dX8_reckonToken_21 ?_
      obtain ⟨S_25, hc_24, h⟩ := cl0_ex h
      refine g_cv (g_runV (ci := 8) (o := 5) (As := [.int (gv S 50 (ix x_1))]) (rest := []) hx hb hml hown hts hK hN hT hS hW (c_X8_push hB hc_24) (hB 5 bb_5) kd_5 rfl (gw_V mw_742 mw_744 mw_25 mw_71 mw_745) hv_X8_push rfl rfl rfl (rm_ok (by decide) (by decide)) hl.1 (Nat.le_of_ble_eq_true rfl) dX8_reckonToken_22 rfl ⟨Nat.zero_le _, Nat.zero_le _⟩) hS (fun H locs hW hS => ?_)
      refine lv_goto (tgt := 75) hx hb dX8_reckonToken_25 (by decide) ?_
      cases h
      exact g_vret hx hb hr hlocks hW hS dX8_reckonToken_75
theorem c_X8_reckonToken (hB : Lk L) {S : St} {S9 : St} {p1 : Int32} (h : f_X8_reckonToken S p1 = some S9) : Met l yX8_reckonToken (gws yX8_reckonToken cX8_reckonToken 5 none) (rmk 2) (va_Pc [.ref (ad 5), .int p1] (WU g A ad L S)) (qv g A ad L S9) 0 0 A :=
  g_met [.ref (ad 5), .int p1] (by decide) (Nat.le_of_ble_eq_true rfl) (fun p e s m below meth c ls C hW hl _ => t_X8_reckonToken C hB h hW va_S.rf hl)
theorem hv_X8_reckonToken : yX8_reckonToken.cls = RX8 ∧ yX8_reckonToken.cls ≠ "java/lang/invoke/MethodHandle" ∧ yX8_reckonToken.cls ≠ "java/lang/invoke/VarHandle" ∧ (parseMethodDescriptor yX8_reckonToken.desc).map (fun d => d.parameters.length) = some 1 := by decide +kernel
/-! DroveRoads$Reckoner.reckon -/
def f_X8_reckon_l8 (N : Nat) (p1 : Nat) (v3 : Int32) (k : St → Option (Int32 × St)) : Nat → St → Int32 → Option (Int32 × St)
  | 0, _, _ => none
  | n + 1, S, v4 => if v3 ≤ v4 then (k S) else (if 500 ≤ v4 then (k S) else (if v4 < 0 ∨ 500 ≤ ix v4 then none else if (gv S (p1 + 10) (ix v4)) < 0 then (if v4 < 0 ∨ 500 ≤ ix v4 then none else cl0 (f_X8_reckonToken S ((-1) - (gv S (p1 + 10) (ix v4)))) fun S_8 => bn (v4 + 1) fun x_9 => f_X8_reckon_l8 N p1 v3 k n S_8 x_9) else (if v4 < 0 ∨ 500 ≤ ix v4 then none else cl0 (f_X8_push S (gv S (p1 + 10) (ix v4))) fun S_12 => bn (v4 + 1) fun x_13 => f_X8_reckon_l8 N p1 v3 k n S_12 x_13)))
set_option maxHeartbeats 4000000 in
theorem t_X8_reckon_l8 (C : MC p s m args meth c cX8_reckon 5 (some .int) RX8 g A) (hB : Lk L) {p1 : Nat} (h_p1 : oko L p1) {v3 : Int32} {r : Int32} {S9 : St} {k : St → Option (Int32 × St)} (hk : ∀ (S : St), k S = some (r, S9) → ∀ (H : Heap) (locs : List Loc) (ls : Array Slot), GW g A ad L S H → va_S A s.heap H locs → lv_has ls 5 [(0, .ref (ad 5))] → W p l e (rmk 3) s m args below meth c H locs 0 0 (MQ below (qi g A ad L r S9) args s 0 0 A) (F0 m 55 ls [])) : ∀ (n : Nat) (S : St) (v4 : Int32), f_X8_reckon_l8 N p1 v3 k n S v4 = some (r, S9) → ∀ (H : Heap) (locs : List Loc) (ls : Array Slot), GW g A ad L S H → va_S A s.heap H locs → lv_has ls 5 [(0, .ref (ad 5)), (1, .ref (ad (p1 + 10))), (3, .int v3), (4, .int v4)] → W p l e (rmk 3) s m args below meth c H locs 0 0 (MQ below (qi g A ad L r S9) args s 0 0 A) (F0 m 8 ls []) := by
  obtain ⟨hx, hb, hml, hown, hts, hr, hlocks, hK, hN, hT⟩ := id C
  intro n
  induction n with
  | zero =>
    intro S v4 h
    have h : (none : Option (Int32 × St)) = some (r, S9) := h
    cases h
  | succ n ih =>
    intro S v4 h H locs ls hW hS hl
    rw [f_X8_reckon_l8] at h
    refine lv_iload hx hb dX8_reckon_8 (lv_at hl 3 rfl) ?_
    refine lv_iload_n hx hb dX8_reckon_10 rfl (lv_at hl 2 rfl) ?_
    refine lv_icmp_ge (tgt := 55) hx hb dX8_reckon_11 (by decide) (fun c_2 => ?_) (fun c_2 => ?_)
    · have h := it_t c_2 h
      exact hk _ h _ _ _ hW hS (lv_sub hl [0] rfl)
    · have h := it_f c_2 h
      refine lv_iload hx hb dX8_reckon_14 (lv_at hl 3 rfl) ?_
      refine lv_aload_n hx hb dX8_reckon_16 rfl (lv_at hl 1 rfl) ?_
      refine g_alen (v := 500) hx hb hK hW h_p1.2.2.2.1 1 rfl (kd_ordA h_p1) (by decide) dX8_reckon_17 ?_
      refine lv_icmp_ge (tgt := 55) hx hb dX8_reckon_18 (by decide) (fun c_3 => ?_) (fun c_3 => ?_)
      · have h := it_t c_3 h
        exact hk _ h _ _ _ hW hS (lv_sub hl [0] rfl)
      · have h := it_f c_3 h
        refine lv_aload_n hx hb dX8_reckon_21 rfl (lv_at hl 1 rfl) ?_
        refine lv_iload hx hb dX8_reckon_22 (lv_at hl 3 rfl) ?_
        obtain ⟨hi_4, h⟩ := ck_n h
        refine g_iald hx hb hK hW h_p1.2.2.2.1 (kd_ordA h_p1) hi_4 dX8_reckon_24 ?_
        refine lv_if_lt (tgt := 39) hx hb dX8_reckon_25 (by decide) (fun c_5 => ?_) (fun c_5 => ?_)
        · have h := it_t c_5 h
          refine lv_aload_n hx hb dX8_reckon_39 rfl (lv_at hl 0 rfl) ?_
          refine lv_iconst (v := (-1)) hx hb dX8_reckon_40 (by decide) ?_
          refine lv_aload_n hx hb dX8_reckon_41 rfl (lv_at hl 1 rfl) ?_
          refine lv_iload hx hb dX8_reckon_42 (lv_at hl 3 rfl) ?_
          obtain ⟨hi_6, h⟩ := ck_n h
          refine g_iald hx hb hK hW h_p1.2.2.2.1 (kd_ordA h_p1) hi_6 dX8_reckon_44 ?_
          refine lv_isub hx hb dX8_reckon_45 ?_
          obtain ⟨S_8, hc_7, h⟩ := cl0_ex h
          refine g_cv (g_runV (ci := 8) (o := 5) (As := [.int ((-1) - (gv S (p1 + 10) (ix v4)))]) (rest := []) hx hb hml hown hts hK hN hT hS hW (c_X8_reckonToken hB hc_7) (hB 5 bb_5) kd_5 rfl (gw_V mw_746 mw_748 mw_26 mw_71 mw_749) hv_X8_reckonToken rfl rfl rfl (rm_ok (by decide) (by decide)) hl.1 (Nat.le_of_ble_eq_true rfl) dX8_reckon_46 rfl ⟨Nat.zero_le _, Nat.zero_le _⟩) hS (fun H locs hW hS => ?_)
          obtain ⟨x_9, ex_9⟩ : ∃ z : Int32, z = v4 + 1 := ⟨_, rfl⟩
          have h := bn_at ex_9 h
          refine lv_iinc (v := x_9) (lv' := [(4, .int x_9), (0, .ref (ad 5)), (1, .ref (ad (p1 + 10))), (3, .int v3)]) hx hb dX8_reckon_49 hl (k := 3) rfl (by rw [ex_9]; rfl) (by decide) rfl (fun ls hl => ?_)
          refine lv_goto (tgt := 8) hx hb dX8_reckon_52 (by decide) ?_
          exact ih _ _ h _ _ _ hW hS (lv_sub hl [1, 2, 3, 0] rfl)
        · have h := it_f c_5 h
          refine lv_aload_n hx hb dX8_reckon_28 rfl (lv_at hl 0 rfl) ?_
          refine lv_aload_n hx hb dX8_reckon_29 rfl (lv_at hl 1 rfl) ?_
          refine lv_iload hx hb dX8_reckon_30 (lv_at hl 3 rfl) ?_
          obtain ⟨hi_10, h⟩ := ck_n h
          refine g_iald hx hb hK hW h_p1.2.2.2.1 (kd_ordA h_p1) hi_10 dX8_reckon_32 ?_
          obtain ⟨S_12, hc_11, h⟩ := cl0_ex h
          refine g_cv (g_runV (ci := 8) (o := 5) (As := [.int (gv S (p1 + 10) (ix v4))]) (rest := []) hx hb hml hown hts hK hN hT hS hW (c_X8_push hB hc_11) (hB 5 bb_5) kd_5 rfl (gw_V mw_742 mw_744 mw_25 mw_71 mw_745) hv_X8_push rfl rfl rfl (rm_ok (by decide) (by decide)) hl.1 (Nat.le_of_ble_eq_true rfl) dX8_reckon_33 rfl ⟨Nat.zero_le _, Nat.zero_le _⟩) hS (fun H locs hW hS => ?_)
          refine lv_goto (tgt := 49) hx hb dX8_reckon_36 (by decide) ?_
          obtain ⟨x_13, ex_13⟩ : ∃ z : Int32, z = v4 + 1 := ⟨_, rfl⟩
          have h := bn_at ex_13 h
          refine lv_iinc (v := x_13) (lv' := [(4, .int x_13), (0, .ref (ad 5)), (1, .ref (ad (p1 + 10))), (3, .int v3)]) hx hb dX8_reckon_49 hl (k := 3) rfl (by rw [ex_13]; rfl) (by decide) rfl (fun ls hl => ?_)
          refine lv_goto (tgt := 8) hx hb dX8_reckon_52 (by decide) ?_
          exact ih _ _ h _ _ _ hW hS (lv_sub hl [1, 2, 3, 0] rfl)
def f_X8_reckon (N : Nat) (S : St) (p1 : Nat) (p2 : Int32) (p3 : Int32) : Option (Int32 × St) := bn (sv S 5 2 0) fun S_1 => f_X8_reckon_l8 N p1 p3 (fun S_14 => cl1 (f_X8_pop S_14) fun r_16 S_17 => some (r_16, S_17)) N S_1 p2
set_option maxHeartbeats 4000000 in
theorem t_X8_reckon (C : MC p s m args meth c cX8_reckon 5 (some .int) RX8 g A) (hB : Lk L) {p1 : Nat} (h_p1 : oko L p1) {S : St} {r : Int32} {S9 : St} {p2 : Int32} {p3 : Int32} (h : f_X8_reckon N S p1 p2 p3 = some (r, S9)) {H : Heap} {locs : List Loc} {ls : Array Slot} (hW : GW g A ad L S H) (hS : va_S A s.heap H locs) (hl : lv_has ls 5 [(0, .ref (ad 5)), (1, .ref (ad (p1 + 10))), (2, .int p2), (3, .int p3)]) : W p l e (rmk 3) s m args below meth c H locs 0 0 (MQ below (qi g A ad L r S9) args s 0 0 A) (F0 m 0 ls []) := by
  obtain ⟨hx, hb, hml, hown, hts, hr, hlocks, hK, hN, hT⟩ := id C
  unfold f_X8_reckon at h
  refine lv_aload_n hx hb dX8_reckon_0 rfl (lv_at hl 0 rfl) ?_
  refine lv_iconst (v := 0) hx hb dX8_reckon_1 (by decide) ?_
  refine g_put (C := RX8) (T := TX8) (N := 3) (ci := 8) hx hb hts inX8 tyX8 tyX8_ok nmX8 hown hK hW hS (hB 5 bb_5) kd_5 rfl 2 (by decide) mw_211 rfl rfl rfl rfl (Nat.le_of_ble_eq_true rfl) (sv S 5 2 0) (ps_5_2) cellOf_sv dX8_reckon_2 (fun S_1 eS_1 H locs hW hS => ?_)
  have h := bn_at eS_1 h
  refine lv_iload_n hx hb dX8_reckon_5 rfl (lv_at hl 2 rfl) ?_
  refine lv_istore (lv' := [(4, .int p2), (0, .ref (ad 5)), (1, .ref (ad (p1 + 10))), (2, .int p2), (3, .int p3)]) hx hb dX8_reckon_6 hl (by decide) rfl (fun ls hl => ?_)
  refine t_X8_reckon_l8 C hB h_p1 ?_ _ _ _ h _ _ _ hW hS (lv_sub hl [1, 2, 4, 0] rfl)
  intro S_14 h H locs ls hW hS hl
  refine lv_aload_n hx hb dX8_reckon_55 rfl (lv_at hl 0 rfl) ?_
  obtain ⟨r_16, S_17, hc_15, h⟩ := cl1_ex h
  refine g_ci (g_runV (ci := 8) (o := 5) (As := []) (rest := []) hx hb hml hown hts hK hN hT hS hW (c_X8_pop hB hc_15) (hB 5 bb_5) kd_5 rfl (gw_V mw_750 mw_752 mw_27 mw_71 mw_753) hv_X8_pop rfl rfl rfl (rm_ok (by decide) (by decide)) hl.1 (Nat.le_of_ble_eq_true rfl) dX8_reckon_56 rfl ⟨Nat.zero_le _, Nat.zero_le _⟩) hS (fun H locs hW hS => ?_)
  cases h
  exact g_iret hx hb hr hlocks hW hS dX8_reckon_59
theorem c_X8_reckon (hB : Lk L) {p1 : Nat} (h_p1 : oko L p1) {S : St} {r : Int32} {S9 : St} {p2 : Int32} {p3 : Int32} (h : f_X8_reckon N S p1 p2 p3 = some (r, S9)) : Met l yX8_reckon (gws yX8_reckon cX8_reckon 5 (some .int)) (rmk 3) (va_Pc [.ref (ad 5), .ref (ad (p1 + 10)), .int p2, .int p3] (WU g A ad L S)) (qi g A ad L r S9) 0 0 A :=
  g_met [.ref (ad 5), .ref (ad (p1 + 10)), .int p2, .int p3] (by decide) (Nat.le_of_ble_eq_true rfl) (fun p e s m below meth c ls C hW hl _ => t_X8_reckon C hB h_p1 h hW va_S.rf hl)
theorem hv_X8_reckon : yX8_reckon.cls = RX8 ∧ yX8_reckon.cls ≠ "java/lang/invoke/MethodHandle" ∧ yX8_reckon.cls ≠ "java/lang/invoke/VarHandle" ∧ (parseMethodDescriptor yX8_reckon.desc).map (fun d => d.parameters.length) = some 3 := by decide +kernel
/-! DroveRoads$Reckoner.choose -/
def f_X8_choose_l4 (N : Nat) (p1 : Nat) (k : St → Int32 → Option (Int32 × St)) : Nat → St → Int32 → Int32 → Option (Int32 × St)
  | 0, _, _, _ => none
  | n + 1, S, v2, v3 => if (gv S p1 3) ≤ v3 then (some ((-1), S)) else (if v3 < 0 ∨ 8 ≤ ix v3 then none else bn (gv S (p1 + 20) (ix v3)) fun x_3 => cl1 (f_X8_reckon N S p1 v2 x_3) fun r_5 S_6 => if r_5 = 0 then (bn (v3 + 1) fun x_8 => f_X8_choose_l4 N p1 k n S_6 x_3 x_8) else (k S_6 v3))
set_option maxHeartbeats 4000000 in
theorem t_X8_choose_l4 (C : MC p s m args meth c cX8_choose 5 (some .int) RX8 g A) (hB : Lk L) {p1 : Nat} (h_p1 : oko L p1) {r : Int32} {S9 : St} {k : St → Int32 → Option (Int32 × St)} (hk : ∀ (S : St) (w3 : Int32), k S w3 = some (r, S9) → ∀ (H : Heap) (locs : List Loc) (ls : Array Slot), GW g A ad L S H → va_S A s.heap H locs → lv_has ls 5 [(1, .ref (ad p1)), (3, .int w3)] → W p l e (rmk 4) s m args below meth c H locs 0 0 (MQ below (qi g A ad L r S9) args s 0 0 A) (F0 m 34 ls [])) : ∀ (n : Nat) (S : St) (v2 : Int32) (v3 : Int32), f_X8_choose_l4 N p1 k n S v2 v3 = some (r, S9) → ∀ (H : Heap) (locs : List Loc) (ls : Array Slot), GW g A ad L S H → va_S A s.heap H locs → lv_has ls 5 [(0, .ref (ad 5)), (1, .ref (ad p1)), (2, .int v2), (3, .int v3)] → W p l e (rmk 4) s m args below meth c H locs 0 0 (MQ below (qi g A ad L r S9) args s 0 0 A) (F0 m 4 ls []) := by
  obtain ⟨hx, hb, hml, hown, hts, hr, hlocks, hK, hN, hT⟩ := id C
  intro n
  induction n with
  | zero =>
    intro S v2 v3 h
    have h : (none : Option (Int32 × St)) = some (r, S9) := h
    cases h
  | succ n ih =>
    intro S v2 v3 h H locs ls hW hS hl
    rw [f_X8_choose_l4] at h
    refine lv_iload_n hx hb dX8_choose_4 rfl (lv_at hl 3 rfl) ?_
    refine lv_aload_n hx hb dX8_choose_5 rfl (lv_at hl 1 rfl) ?_
    refine g_get (C := RX5) (T := TX5) (N := 5) (ci := 5) hx hb hts inX5 hown hK hW h_p1.2.2.1 (kd_ord h_p1) rfl 3 (by decide) mw_233 rfl rfl dX8_choose_6 ?_
    refine lv_icmp_ge (tgt := 50) hx hb dX8_choose_9 (by decide) (fun c_1 => ?_) (fun c_1 => ?_)
    · have h := it_t c_1 h
      refine lv_iconst (v := (-1)) hx hb dX8_choose_50 (by decide) ?_
      cases h
      exact g_iret hx hb hr hlocks hW hS dX8_choose_51
    · have h := it_f c_1 h
      refine lv_aload_n hx hb dX8_choose_12 rfl (lv_at hl 1 rfl) ?_
      refine g_get (C := RX5) (T := TX5) (N := 5) (ci := 5) hx hb hts inX5 hown hK hW h_p1.2.2.1 (kd_ord h_p1) rfl 1 (by decide) mw_229 rfl rfl dX8_choose_13 ?_
      refine lv_iload_n hx hb dX8_choose_16 rfl (lv_at hl 3 rfl) ?_
      obtain ⟨hi_2, h⟩ := ck_n h
      refine g_iald hx hb hK hW h_p1.2.2.2.2.1 (kd_ordB h_p1) hi_2 dX8_choose_17 ?_
      refine lv_topi (fun x_3 ex_3 => ?_)
      have h := bn_at ex_3 h
      refine lv_istore (lv' := [(4, .int x_3), (0, .ref (ad 5)), (1, .ref (ad p1)), (2, .int v2), (3, .int v3)]) hx hb dX8_choose_18 hl (by decide) rfl (fun ls hl => ?_)
      refine lv_aload_n hx hb dX8_choose_20 rfl (lv_at hl 1 rfl) ?_
      refine lv_aload_n hx hb dX8_choose_21 rfl (lv_at hl 2 rfl) ?_
      refine g_get (C := RX5) (T := TX5) (N := 5) (ci := 5) hx hb hts inX5 hown hK hW h_p1.2.2.1 (kd_ord h_p1) rfl 0 (by decide) mw_227 rfl rfl dX8_choose_22 ?_
      refine lv_iload_n hx hb dX8_choose_25 rfl (lv_at hl 3 rfl) ?_
      refine lv_iload hx hb dX8_choose_26 (lv_at hl 0 rfl) ?_
      obtain ⟨r_5, S_6, hc_4, h⟩ := cl1_ex h
      refine g_ci (g_runV (ci := 8) (o := 5) (As := [.ref (ad (p1 + 10)), .int v2, .int x_3]) (rest := []) hx hb hml hown hts hK hN hT hS hW (c_X8_reckon hB h_p1 hc_4) (hB 5 bb_5) kd_5 rfl (gw_V mw_738 mw_740 mw_24 mw_71 mw_741) hv_X8_reckon rfl rfl rfl (rm_ok (by decide) (by decide)) hl.1 (Nat.le_of_ble_eq_true rfl) dX8_choose_28 rfl ⟨Nat.zero_le _, Nat.zero_le _⟩) hS (fun H locs hW hS => ?_)
      refine lv_if_eq (tgt := 41) hx hb dX8_choose_31 (by decide) (fun c_7 => ?_) (fun c_7 => ?_)
      · have h := it_t c_7 h
        refine lv_iload hx hb dX8_choose_41 (lv_at hl 0 rfl) ?_
        refine lv_istore_n (lv' := [(2, .int x_3), (4, .int x_3), (0, .ref (ad 5)), (1, .ref (ad p1)), (3, .int v3)]) hx hb dX8_choose_43 rfl hl (by decide) rfl (fun ls hl => ?_)
        obtain ⟨x_8, ex_8⟩ : ∃ z : Int32, z = v3 + 1 := ⟨_, rfl⟩
        have h := bn_at ex_8 h
        refine lv_iinc (v := x_8) (lv' := [(3, .int x_8), (2, .int x_3), (4, .int x_3), (0, .ref (ad 5)), (1, .ref (ad p1))]) hx hb dX8_choose_44 hl (k := 4) rfl (by rw [ex_8]; rfl) (by decide) rfl (fun ls hl => ?_)
        refine lv_goto (tgt := 4) hx hb dX8_choose_47 (by decide) ?_
        exact ih _ _ _ h _ _ _ hW hS (lv_sub hl [3, 4, 1, 0] rfl)
      · have h := it_f c_7 h
        exact hk _ _ h _ _ _ hW hS (lv_sub hl [2, 4] rfl)
def f_X8_choose (N : Nat) (S : St) (p1 : Nat) : Option (Int32 × St) := f_X8_choose_l4 N p1 (fun S_9 x_10 => if x_10 < 0 ∨ 8 ≤ ix x_10 then none else some ((gv S_9 (p1 + 30) (ix x_10)), S_9)) N S 0 0
set_option maxHeartbeats 4000000 in
theorem t_X8_choose (C : MC p s m args meth c cX8_choose 5 (some .int) RX8 g A) (hB : Lk L) {p1 : Nat} (h_p1 : oko L p1) {S : St} {r : Int32} {S9 : St} (h : f_X8_choose N S p1 = some (r, S9)) {H : Heap} {locs : List Loc} {ls : Array Slot} (hW : GW g A ad L S H) (hS : va_S A s.heap H locs) (hl : lv_has ls 5 [(0, .ref (ad 5)), (1, .ref (ad p1))]) : W p l e (rmk 4) s m args below meth c H locs 0 0 (MQ below (qi g A ad L r S9) args s 0 0 A) (F0 m 0 ls []) := by
  obtain ⟨hx, hb, hml, hown, hts, hr, hlocks, hK, hN, hT⟩ := id C
  unfold f_X8_choose at h
  refine lv_iconst (v := 0) hx hb dX8_choose_0 (by decide) ?_
  refine lv_istore_n (lv' := [(2, .int 0), (0, .ref (ad 5)), (1, .ref (ad p1))]) hx hb dX8_choose_1 rfl hl (by decide) rfl (fun ls hl => ?_)
  refine lv_iconst (v := 0) hx hb dX8_choose_2 (by decide) ?_
  refine lv_istore_n (lv' := [(3, .int 0), (2, .int 0), (0, .ref (ad 5)), (1, .ref (ad p1))]) hx hb dX8_choose_3 rfl hl (by decide) rfl (fun ls hl => ?_)
  refine t_X8_choose_l4 C hB h_p1 ?_ _ _ _ _ h _ _ _ hW hS (lv_sub hl [2, 3, 1, 0] rfl)
  intro S_9 x_10 h H locs ls hW hS hl
  refine lv_aload_n hx hb dX8_choose_34 rfl (lv_at hl 0 rfl) ?_
  refine g_get (C := RX5) (T := TX5) (N := 5) (ci := 5) hx hb hts inX5 hown hK hW h_p1.2.2.1 (kd_ord h_p1) rfl 2 (by decide) mw_231 rfl rfl dX8_choose_35 ?_
  refine lv_iload_n hx hb dX8_choose_38 rfl (lv_at hl 1 rfl) ?_
  obtain ⟨hi_11, h⟩ := ck_n h
  refine g_iald hx hb hK hW h_p1.2.2.2.2.2 (kd_ordC h_p1) hi_11 dX8_choose_39 ?_
  cases h
  exact g_iret hx hb hr hlocks hW hS dX8_choose_40
theorem c_X8_choose (hB : Lk L) {p1 : Nat} (h_p1 : oko L p1) {S : St} {r : Int32} {S9 : St} (h : f_X8_choose N S p1 = some (r, S9)) : Met l yX8_choose (gws yX8_choose cX8_choose 5 (some .int)) (rmk 4) (va_Pc [.ref (ad 5), .ref (ad p1)] (WU g A ad L S)) (qi g A ad L r S9) 0 0 A :=
  g_met [.ref (ad 5), .ref (ad p1)] (by decide) (Nat.le_of_ble_eq_true rfl) (fun p e s m below meth c ls C hW hl _ => t_X8_choose C hB h_p1 h hW va_S.rf hl)
theorem hv_X8_choose : yX8_choose.cls = RX8 ∧ yX8_choose.cls ≠ "java/lang/invoke/MethodHandle" ∧ yX8_choose.cls ≠ "java/lang/invoke/VarHandle" ∧ (parseMethodDescriptor yX8_choose.desc).map (fun d => d.parameters.length) = some 1 := by decide +kernel
end S13
