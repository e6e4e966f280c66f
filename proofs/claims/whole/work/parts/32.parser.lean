section S32
variable {p : Program} {l : Launch} {e : Env} {s : State} {m : MethodId} {args : Array Value} {below : List Frame} {meth : Method} {c : Code} {A : Nat → Prop} {g : Cx} {ad : Nat → Nat} {L : List Nat} {N : Nat} {q0 : Nat}
theorem hv_X6_readE : yX6_readE.cls = RX6 ∧ yX6_readE.cls ≠ "java/lang/invoke/MethodHandle" ∧ yX6_readE.cls ≠ "java/lang/invoke/VarHandle" ∧ (parseMethodDescriptor yX6_readE.desc).map (fun d => d.parameters.length) = some 1 := by decide +kernel
theorem hv_X6_readOne : yX6_readOne.cls = RX6 ∧ yX6_readOne.cls ≠ "java/lang/invoke/MethodHandle" ∧ yX6_readOne.cls ≠ "java/lang/invoke/VarHandle" ∧ (parseMethodDescriptor yX6_readOne.desc).map (fun d => d.parameters.length) = some 1 := by decide +kernel
/-! DroveRoads$Parser.endLine -/
def f_X6_endLine (L : List Nat) (N : Nat) (S : St) (p1 : Int32) : Option (Int32 × St) := oc (gr S 110 3) (none) fun n_1 => if oko L n_1 then (cl0 (f_X5_addLine S n_1 p1) fun S_5 => cl0 (f_X3_advance N S_5) fun S_7 => some (1, S_7)) else none
set_option maxHeartbeats 4000000 in
theorem t_X6_endLine (C : MC p s m args meth c cX6_endLine 2 (some .boolean) RX6 g A) (hB : Lk L) (h110 : 110 ∈ L) (h111 : 111 ∈ L) {S : St} {r : Int32} {S9 : St} {p1 : Int32} (h : f_X6_endLine L N S p1 = some (r, S9)) {H : Heap} {locs : List Loc} {ls : Array Slot} (hW : GW g A ad L S H) (hS : va_S A s.heap H locs) (hl : lv_has ls 2 [(0, .ref (ad 110)), (1, .int p1)]) : W p l e (rmk 8) s m args below meth c H locs 0 0 (MQ below (qz g A ad L r S9) args s 0 0 A) (F0 m 0 ls []) := by
  obtain ⟨hx, hb, hml, hown, hts, hr, hlocks, hK, hN, hT⟩ := id C
  unfold f_X6_endLine at h
  refine lv_aload_n hx hb dX6_endLine_0 rfl (lv_at hl 0 rfl) ?_
  refine g_get (C := RX6) (T := TX6) (N := 5) (ci := 6) hx hb hts inX6 hown hK hW h110 kd_110 rfl 3 (by decide) mw_474 rfl rfl dX6_endLine_1 ?_
  rcases hq_2 : (gr S 110 3) with _ | n_1
  · rw [hq_2] at h
    cases h
  · rw [hq_2] at h
    obtain ⟨hn_3, h⟩ := ck_t h
    refine W.eq (g2 := F0 m 4 ls (.ref (ad n_1) :: [])) rfl ?_
    refine lv_iload_n hx hb dX6_endLine_4 rfl (lv_at hl 1 rfl) ?_
    obtain ⟨S_5, hc_4, h⟩ := cl0_ex h
    refine g_cv (g_runV (ci := 5) (o := n_1) (As := [.int p1]) (rest := []) hx hb hml hown hts hK hN hT hS hW (c_X5_addLine hB hn_3 hc_4) hn_3.2.2.1 (kd_ord hn_3) rfl (gw_V mw_692 mw_693 mw_694 mw_72 mw_695) hv_X5_addLine rfl rfl rfl (rm_ok (by decide) (by decide)) hl.1 (Nat.le_of_ble_eq_true rfl) dX6_endLine_5 rfl ⟨Nat.zero_le _, Nat.zero_le _⟩) hS (fun H locs hW hS => ?_)
    refine lv_aload_n hx hb dX6_endLine_8 rfl (lv_at hl 0 rfl) ?_
    refine g_get (C := RX6) (T := TX6) (N := 5) (ci := 6) hx hb hts inX6 hown hK hW h110 kd_110 rfl 2 (by decide) mw_473 rfl rfl dX6_endLine_9 ?_
    obtain ⟨S_7, hc_6, h⟩ := cl0_ex h
    refine g_cv (g_runV (ci := 3) (o := 111) (As := []) (rest := []) hx hb hml hown hts hK hN hT hS hW (c_X3_advance hB h111 hc_6) h111 kd_111 rfl (gw_V mw_495 mw_496 mw_497 mw_76 mw_498) hv_X3_advance rfl rfl rfl (rm_ok (by decide) (by decide)) hl.1 (Nat.le_of_ble_eq_true rfl) dX6_endLine_12 rfl ⟨Nat.zero_le _, Nat.zero_le _⟩) hS (fun H locs hW hS => ?_)
    refine lv_iconst (v := 1) hx hb dX6_endLine_15 (by decide) ?_
    cases h
    exact g_zret hx hb hr hlocks hW hS (rfl) dX6_endLine_16
theorem c_X6_endLine (hB : Lk L) (h110 : 110 ∈ L) (h111 : 111 ∈ L) {S : St} {r : Int32} {S9 : St} {p1 : Int32} (h : f_X6_endLine L N S p1 = some (r, S9)) : Met l yX6_endLine (gws yX6_endLine cX6_endLine 2 (some .boolean)) (rmk 8) (va_Pc [.ref (ad 110), .int p1] (WU g A ad L S)) (qz g A ad L r S9) 0 0 A :=
  g_met [.ref (ad 110), .int p1] (by decide) (Nat.le_of_ble_eq_true rfl) (fun p e s m below meth c ls C hW hl _ => t_X6_endLine C hB h110 h111 h hW va_S.rf hl)
theorem hv_X6_endLine : yX6_endLine.cls = RX6 ∧ yX6_endLine.cls ≠ "java/lang/invoke/MethodHandle" ∧ yX6_endLine.cls ≠ "java/lang/invoke/VarHandle" ∧ (parseMethodDescriptor yX6_endLine.desc).map (fun d => d.parameters.length) = some 1 := by decide +kernel
/-! DroveRoads$Parser.refuseFor -/
def f_X6_refuseFor (S : St) (p1 : Int32) : Option (Int32 × St) := bn (sv S 110 0 p1) fun S_1 => bn (sv S_1 110 1 (gv S_1 111 1)) fun S_2 => some (0, S_2)
set_option maxHeartbeats 4000000 in
theorem t_X6_refuseFor (C : MC p s m args meth c cX6_refuseFor 2 (some .boolean) RX6 g A) (hB : Lk L) (h110 : 110 ∈ L) (h111 : 111 ∈ L) {S : St} {r : Int32} {S9 : St} {p1 : Int32} (h : f_X6_refuseFor S p1 = some (r, S9)) {H : Heap} {locs : List Loc} {ls : Array Slot} (hW : GW g A ad L S H) (hS : va_S A s.heap H locs) (hl : lv_has ls 2 [(0, .ref (ad 110)), (1, .int p1)]) : W p l e (rmk 1) s m args below meth c H locs 0 0 (MQ below (qz g A ad L r S9) args s 0 0 A) (F0 m 0 ls []) := by
  obtain ⟨hx, hb, hml, hown, hts, hr, hlocks, hK, hN, hT⟩ := id C
  unfold f_X6_refuseFor at h
  refine lv_aload_n hx hb dX6_refuseFor_0 rfl (lv_at hl 0 rfl) ?_
  refine lv_iload_n hx hb dX6_refuseFor_1 rfl (lv_at hl 1 rfl) ?_
  refine g_put (C := RX6) (T := TX6) (N := 5) (ci := 6) hx hb hts inX6 tyX6 tyX6_ok nmX6 hown hK hW hS h110 kd_110 rfl 0 (by decide) mw_469 rfl rfl rfl rfl (Nat.le_of_ble_eq_true rfl) (sv S 110 0 p1) (ps_110_0) cellOf_sv dX6_refuseFor_2 (fun S_1 eS_1 H locs hW hS => ?_)
  have h := bn_at eS_1 h
  refine lv_aload_n hx hb dX6_refuseFor_5 rfl (lv_at hl 0 rfl) ?_
  refine lv_aload_n hx hb dX6_refuseFor_6 rfl (lv_at hl 0 rfl) ?_
  refine g_get (C := RX6) (T := TX6) (N := 5) (ci := 6) hx hb hts inX6 hown hK hW h110 kd_110 rfl 2 (by decide) mw_473 rfl rfl dX6_refuseFor_7 ?_
  refine g_get (C := RX3) (T := TX3) (N := 6) (ci := 3) hx hb hts inX3 hown hK hW h111 kd_111 rfl 1 (by decide) mw_450 rfl rfl dX6_refuseFor_10 ?_
  refine g_put (C := RX6) (T := TX6) (N := 5) (ci := 6) hx hb hts inX6 tyX6 tyX6_ok nmX6 hown hK hW hS h110 kd_110 rfl 1 (by decide) mw_471 rfl rfl rfl rfl (Nat.le_of_ble_eq_true rfl) (sv S_1 110 1 (gv S_1 111 1)) (ps_110_1) cellOf_sv dX6_refuseFor_13 (fun S_2 eS_2 H locs hW hS => ?_)
  have h := bn_at eS_2 h
  refine lv_iconst (v := 0) hx hb dX6_refuseFor_16 (by decide) ?_
  cases h
  exact g_zret hx hb hr hlocks hW hS (rfl) dX6_refuseFor_17
theorem c_X6_refuseFor (hB : Lk L) (h110 : 110 ∈ L) (h111 : 111 ∈ L) {S : St} {r : Int32} {S9 : St} {p1 : Int32} (h : f_X6_refuseFor S p1 = some (r, S9)) : Met l yX6_refuseFor (gws yX6_refuseFor cX6_refuseFor 2 (some .boolean)) (rmk 1) (va_Pc [.ref (ad 110), .int p1] (WU g A ad L S)) (qz g A ad L r S9) 0 0 A :=
  g_met [.ref (ad 110), .int p1] (by decide) (Nat.le_of_ble_eq_true rfl) (fun p e s m below meth c ls C hW hl _ => t_X6_refuseFor C hB h110 h111 h hW va_S.rf hl)
theorem hv_X6_refuseFor : yX6_refuseFor.cls = RX6 ∧ yX6_refuseFor.cls ≠ "java/lang/invoke/MethodHandle" ∧ yX6_refuseFor.cls ≠ "java/lang/invoke/VarHandle" ∧ (parseMethodDescriptor yX6_refuseFor.desc).map (fun d => d.parameters.length) = some 1 := by decide +kernel
/-! DroveRoads$Parser.refuse -/
def f_X6_refuse (S : St) : Option (Int32 × St) := if (gv S 111 0) = 28 then (cl1 (f_X6_refuseFor S 1) fun r_7 S_8 => some (r_7, S_8)) else (cl1 (f_X6_refuseFor S 2) fun r_3 S_4 => some (r_3, S_4))
set_option maxHeartbeats 4000000 in
theorem t_X6_refuse (C : MC p s m args meth c cX6_refuse 1 (some .boolean) RX6 g A) (hB : Lk L) (h110 : 110 ∈ L) (h111 : 111 ∈ L) {S : St} {r : Int32} {S9 : St} (h : f_X6_refuse S = some (r, S9)) {H : Heap} {locs : List Loc} {ls : Array Slot} (hW : GW g A ad L S H) (hS : va_S A s.heap H locs) (hl : lv_has ls 1 [(0, .ref (ad 110))]) : W p l e (rmk 2) s m args below meth c H locs 0 0 (MQ below (qz g A ad L r S9) args s 0 0 A) (F0 m 0 ls []) := by
  obtain ⟨hx, hb, hml, hown, hts, hr, hlocks, hK, hN, hT⟩ := id C
  unfold f_X6_refuse at h
  refine lv_aload_n hx hb dX6_refuse_0 rfl (lv_at hl 0 rfl) ?_
  refine lv_aload_n hx hb dX6_refuse_1 rfl (lv_at hl 0 rfl) ?_
  refine g_get (C := RX6) (T := TX6) (N := 5) (ci := 6) hx hb hts inX6 hown hK hW h110 kd_110 rfl 2 (by decide) mw_473 rfl rfl dX6_refuse_2 ?_
  refine g_get (C := RX3) (T := TX3) (N := 6) (ci := 3) hx hb hts inX3 hown hK hW h111 kd_111 rfl 0 (by decide) mw_448 rfl rfl dX6_refuse_5 ?_
  refine lv_bipush (v := 28) hx hb dX6_refuse_8 (by decide) ?_
  refine lv_icmp_ne (tgt := 17) hx hb dX6_refuse_10 (by decide) (fun c_1 => ?_) (fun c_1 => ?_)
  · have h := it_f c_1 h
    refine lv_iconst (v := 2) hx hb dX6_refuse_17 (by decide) ?_
    obtain ⟨r_3, S_4, hc_2, h⟩ := cl1_ex h
    refine g_cz (g_runV (ci := 6) (o := 110) (As := [.int 2]) (rest := []) hx hb hml hown hts hK hN hT hS hW (c_X6_refuseFor hB h110 h111 hc_2) h110 kd_110 rfl (gw_V mw_647 mw_649 mw_12 mw_75 mw_650) hv_X6_refuseFor rfl rfl rfl (rm_ok (by decide) (by decide)) hl.1 (Nat.le_of_ble_eq_true rfl) dX6_refuse_18 rfl ⟨Nat.zero_le _, Nat.zero_le _⟩) hS (fun hz_5 H locs hW hS => ?_)
    cases h
    exact g_zret hx hb hr hlocks hW hS hz_5 dX6_refuse_21
  · have h := it_t c_1 h
    refine lv_iconst (v := 1) hx hb dX6_refuse_13 (by decide) ?_
    refine lv_goto (tgt := 18) hx hb dX6_refuse_14 (by decide) ?_
    obtain ⟨r_7, S_8, hc_6, h⟩ := cl1_ex h
    refine g_cz (g_runV (ci := 6) (o := 110) (As := [.int 1]) (rest := []) hx hb hml hown hts hK hN hT hS hW (c_X6_refuseFor hB h110 h111 hc_6) h110 kd_110 rfl (gw_V mw_647 mw_649 mw_12 mw_75 mw_650) hv_X6_refuseFor rfl rfl rfl (rm_ok (by decide) (by decide)) hl.1 (Nat.le_of_ble_eq_true rfl) dX6_refuse_18 rfl ⟨Nat.zero_le _, Nat.zero_le _⟩) hS (fun hz_9 H locs hW hS => ?_)
    cases h
    exact g_zret hx hb hr hlocks hW hS hz_9 dX6_refuse_21
theorem c_X6_refuse (hB : Lk L) (h110 : 110 ∈ L) (h111 : 111 ∈ L) {S : St} {r : Int32} {S9 : St} (h : f_X6_refuse S = some (r, S9)) : Met l yX6_refuse (gws yX6_refuse cX6_refuse 1 (some .boolean)) (rmk 2) (va_Pc [.ref (ad 110)] (WU g A ad L S)) (qz g A ad L r S9) 0 0 A :=
  g_met [.ref (ad 110)] (by decide) (Nat.le_of_ble_eq_true rfl) (fun p e s m below meth c ls C hW hl _ => t_X6_refuse C hB h110 h111 h hW va_S.rf hl)
theorem hv_X6_refuse : yX6_refuse.cls = RX6 ∧ yX6_refuse.cls ≠ "java/lang/invoke/MethodHandle" ∧ yX6_refuse.cls ≠ "java/lang/invoke/VarHandle" ∧ (parseMethodDescriptor yX6_refuse.desc).map (fun d => d.parameters.length) = some 0 := by decide +kernel
/-! DroveRoads$Parser.take -/
def f_X6_take (N : Nat) (S : St) (p1 : Int32) : Option (Int32 × St) := if (gv S 111 0) = p1 then (cl0 (f_X3_advance N S) fun S_3 => some (1, S_3)) else (cl1 (f_X6_refuse S) fun r_5 S_6 => some (r_5, S_6))
set_option maxHeartbeats 4000000 in
theorem t_X6_take (C : MC p s m args meth c cX6_take 2 (some .boolean) RX6 g A) (hB : Lk L) (h110 : 110 ∈ L) (h111 : 111 ∈ L) {S : St} {r : Int32} {S9 : St} {p1 : Int32} (h : f_X6_take N S p1 = some (r, S9)) {H : Heap} {locs : List Loc} {ls : Array Slot} (hW : GW g A ad L S H) (hS : va_S A s.heap H locs) (hl : lv_has ls 2 [(0, .ref (ad 110)), (1, .int p1)]) : W p l e (rmk 8) s m args below meth c H locs 0 0 (MQ below (qz g A ad L r S9) args s 0 0 A) (F0 m 0 ls []) := by
  obtain ⟨hx, hb, hml, hown, hts, hr, hlocks, hK, hN, hT⟩ := id C
  unfold f_X6_take at h
  refine lv_aload_n hx hb dX6_take_0 rfl (lv_at hl 0 rfl) ?_
  refine g_get (C := RX6) (T := TX6) (N := 5) (ci := 6) hx hb hts inX6 hown hK hW h110 kd_110 rfl 2 (by decide) mw_473 rfl rfl dX6_take_1 ?_
  refine g_get (C := RX3) (T := TX3) (N := 6) (ci := 3) hx hb hts inX3 hown hK hW h111 kd_111 rfl 0 (by decide) mw_448 rfl rfl dX6_take_4 ?_
  refine lv_iload_n hx hb dX6_take_7 rfl (lv_at hl 1 rfl) ?_
  refine lv_icmp_eq (tgt := 16) hx hb dX6_take_8 (by decide) (fun c_1 => ?_) (fun c_1 => ?_)
  · have h := it_t c_1 h
    refine lv_aload_n hx hb dX6_take_16 rfl (lv_at hl 0 rfl) ?_
    refine g_get (C := RX6) (T := TX6) (N := 5) (ci := 6) hx hb hts inX6 hown hK hW h110 kd_110 rfl 2 (by decide) mw_473 rfl rfl dX6_take_17 ?_
    obtain ⟨S_3, hc_2, h⟩ := cl0_ex h
    refine g_cv (g_runV (ci := 3) (o := 111) (As := []) (rest := []) hx hb hml hown hts hK hN hT hS hW (c_X3_advance hB h111 hc_2) h111 kd_111 rfl (gw_V mw_495 mw_496 mw_497 mw_76 mw_498) hv_X3_advance rfl rfl rfl (rm_ok (by decide) (by decide)) hl.1 (Nat.le_of_ble_eq_true rfl) dX6_take_20 rfl ⟨Nat.zero_le _, Nat.zero_le _⟩) hS (fun H locs hW hS => ?_)
    refine lv_iconst (v := 1) hx hb dX6_take_23 (by decide) ?_
    cases h
    exact g_zret hx hb hr hlocks hW hS (rfl) dX6_take_24
  · have h := it_f c_1 h
    refine lv_aload_n hx hb dX6_take_11 rfl (lv_at hl 0 rfl) ?_
    obtain ⟨r_5, S_6, hc_4, h⟩ := cl1_ex h
    refine g_cz (g_runV (ci := 6) (o := 110) (As := []) (rest := []) hx hb hml hown hts hK hN hT hS hW (c_X6_refuse hB h110 h111 hc_4) h110 kd_110 rfl (gw_V mw_643 mw_645 mw_11 mw_75 mw_646) hv_X6_refuse rfl rfl rfl (rm_ok (by decide) (by decide)) hl.1 (Nat.le_of_ble_eq_true rfl) dX6_take_12 rfl ⟨Nat.zero_le _, Nat.zero_le _⟩) hS (fun hz_7 H locs hW hS => ?_)
    cases h
    exact g_zret hx hb hr hlocks hW hS hz_7 dX6_take_15
theorem c_X6_take (hB : Lk L) (h110 : 110 ∈ L) (h111 : 111 ∈ L) {S : St} {r : Int32} {S9 : St} {p1 : Int32} (h : f_X6_take N S p1 = some (r, S9)) : Met l yX6_take (gws yX6_take cX6_take 2 (some .boolean)) (rmk 8) (va_Pc [.ref (ad 110), .int p1] (WU g A ad L S)) (qz g A ad L r S9) 0 0 A :=
  g_met [.ref (ad 110), .int p1] (by decide) (Nat.le_of_ble_eq_true rfl) (fun p e s m below meth c ls C hW hl _ => t_X6_take C hB h110 h111 h hW va_S.rf hl)
theorem hv_X6_take : yX6_take.cls = RX6 ∧ yX6_take.cls ≠ "java/lang/invoke/MethodHandle" ∧ yX6_take.cls ≠ "java/lang/invoke/VarHandle" ∧ (parseMethodDescriptor yX6_take.desc).map (fun d => d.parameters.length) = some 1 := by decide +kernel
/-! DroveRoads$Parser.readAct -/
def f_X6_readAct (L : List Nat) (N : Nat) (S : St) : Option (Int32 × St) := if (gv S 111 0) = 2 then (cl1 (f_X6_endLine L N S (-1)) fun r_22 S_23 => some (r_22, S_23)) else (if (gv S 111 0) = 3 then (cl1 (f_X6_endLine L N S 0) fun r_18 S_19 => some (r_18, S_19)) else (cl1 (f_X6_take N S 4) fun r_4 S_5 => if r_4 = 0 then (some (0, S_5)) else (if (gv S_5 111 0) = 25 then (cl1 (f_X6_endLine L N S_5 (gv S_5 111 2)) fun r_14 S_15 => some (r_14, S_15)) else (cl1 (f_X6_refuse S_5) fun r_10 S_11 => some (r_10, S_11)))))
set_option maxHeartbeats 4000000 in
theorem t_X6_readAct (C : MC p s m args meth c cX6_readAct 1 (some .boolean) RX6 g A) (hB : Lk L) (h110 : 110 ∈ L) (h111 : 111 ∈ L) {S : St} {r : Int32} {S9 : St} (h : f_X6_readAct L N S = some (r, S9)) {H : Heap} {locs : List Loc} {ls : Array Slot} (hW : GW g A ad L S H) (hS : va_S A s.heap H locs) (hl : lv_has ls 1 [(0, .ref (ad 110))]) : W p l e (rmk 9) s m args below meth c H locs 0 0 (MQ below (qz g A ad L r S9) args s 0 0 A) (F0 m 0 ls []) := by
  obtain ⟨hx, hb, hml, hown, hts, hr, hlocks, hK, hN, hT⟩ := id C
  unfold f_X6_readAct at h
  refine lv_aload_n hx hb dX6_readAct_0 rfl (lv_at hl 0 rfl) ?_
  refine g_get (C := RX6) (T := TX6) (N := 5) (ci := 6) hx hb hts inX6 hown hK hW h110 kd_110 rfl 2 (by decide) mw_473 rfl rfl dX6_readAct_1 ?_
  refine g_get (C := RX3) (T := TX3) (N := 6) (ci := 3) hx hb hts inX3 hown hK hW h111 kd_111 rfl 0 (by decide) mw_448 rfl rfl dX6_readAct_4 ?_
  refine lv_iconst (v := 2) hx hb dX6_readAct_7 (by decide) ?_
  refine lv_icmp_ne (tgt := 17) hx hb dX6_readAct_8 (by decide) (fun c_1 => ?_) (fun c_1 => ?_)
  · have h := it_f c_1 h
    refine lv_aload_n hx hb dX6_readAct_17 rfl (lv_at hl 0 rfl) ?_
    refine g_get (C := RX6) (T := TX6) (N := 5) (ci := 6) hx hb hts inX6 hown hK hW h110 kd_110 rfl 2 (by decide) mw_473 rfl rfl dX6_readAct_18 ?_
    refine g_get (C := RX3) (T := TX3) (N := 6) (ci := 3) hx hb hts inX3 hown hK hW h111 kd_111 rfl 0 (by decide) mw_448 rfl rfl dX6_readAct_21 ?_
    refine lv_iconst (v := 3) hx hb dX6_readAct_24 (by decide) ?_
    refine lv_icmp_ne (tgt := 34) hx hb dX6_readAct_25 (by decide) (fun c_2 => ?_) (fun c_2 => ?_)
    · have h := it_f c_2 h
      refine lv_aload_n hx hb dX6_readAct_34 rfl (lv_at hl 0 rfl) ?_
      refine lv_iconst (v := 4) hx hb dX6_readAct_35 (by decide) ?_
      obtain ⟨r_4, S_5, hc_3, h⟩ := cl1_ex h
      refine g_cz (g_runV (ci := 6) (o := 110) (As := [.int 4]) (rest := []) hx hb hml hown hts hK hN hT hS hW (c_X6_take hB h110 h111 hc_3) h110 kd_110 rfl (gw_V mw_639 mw_641 mw_10 mw_75 mw_642) hv_X6_take rfl rfl rfl (rm_ok (by decide) (by decide)) hl.1 (Nat.le_of_ble_eq_true rfl) dX6_readAct_36 rfl ⟨Nat.zero_le _, Nat.zero_le _⟩) hS (fun hz_6 H locs hW hS => ?_)
      refine lv_if_ne (tgt := 44) hx hb dX6_readAct_39 (by decide) (fun c_7 => ?_) (fun c_7 => ?_)
      · have h := it_f c_7 h
        refine lv_aload_n hx hb dX6_readAct_44 rfl (lv_at hl 0 rfl) ?_
        refine g_get (C := RX6) (T := TX6) (N := 5) (ci := 6) hx hb hts inX6 hown hK hW h110 kd_110 rfl 2 (by decide) mw_473 rfl rfl dX6_readAct_45 ?_
        refine g_get (C := RX3) (T := TX3) (N := 6) (ci := 3) hx hb hts inX3 hown hK hW h111 kd_111 rfl 0 (by decide) mw_448 rfl rfl dX6_readAct_48 ?_
        refine lv_bipush (v := 25) hx hb dX6_readAct_51 (by decide) ?_
        refine lv_icmp_ne (tgt := 70) hx hb dX6_readAct_53 (by decide) (fun c_8 => ?_) (fun c_8 => ?_)
        · have h := it_f c_8 h
          refine lv_aload_n hx hb dX6_readAct_70 rfl (lv_at hl 0 rfl) ?_
          obtain ⟨r_10, S_11, hc_9, h⟩ := cl1_ex h
          refine g_cz (g_runV (ci := 6) (o := 110) (As := []) (rest := []) hx hb hml hown hts hK hN hT hS hW (c_X6_refuse hB h110 h111 hc_9) h110 kd_110 rfl (gw_V mw_643 mw_645 mw_11 mw_75 mw_646) hv_X6_refuse rfl rfl rfl (rm_ok (by decide) (by decide)) hl.1 (Nat.le_of_ble_eq_true rfl) dX6_readAct_71 rfl ⟨Nat.zero_le _, Nat.zero_le _⟩) hS (fun hz_12 H locs hW hS => ?_)
          cases h
          exact g_zret hx hb hr hlocks hW hS hz_12 dX6_readAct_74
        · have h := it_t c_8 h
          refine lv_aload_n hx hb dX6_readAct_56 rfl (lv_at hl 0 rfl) ?_
          refine lv_aload_n hx hb dX6_readAct_57 rfl (lv_at hl 0 rfl) ?_
          refine g_get (C := RX6) (T := TX6) (N := 5) (ci := 6) hx hb hts inX6 hown hK hW h110 kd_110 rfl 2 (by decide) mw_473 rfl rfl dX6_readAct_58 ?_
          refine g_get (C := RX3) (T := TX3) (N := 6) (ci := 3) hx hb hts inX3 hown hK hW h111 kd_111 rfl 2 (by decide) mw_452 rfl rfl dX6_readAct_61 ?_
          obtain ⟨r_14, S_15, hc_13, h⟩ := cl1_ex h
          refine g_cz (g_runV (ci := 6) (o := 110) (As := [.int (gv S_5 111 2)]) (rest := []) hx hb hml hown hts hK hN hT hS hW (c_X6_endLine hB h110 h111 hc_13) h110 kd_110 rfl (gw_V mw_688 mw_690 mw_21 mw_75 mw_691) hv_X6_endLine rfl rfl rfl (rm_ok (by decide) (by decide)) hl.1 (Nat.le_of_ble_eq_true rfl) dX6_readAct_64 rfl ⟨Nat.zero_le _, Nat.zero_le _⟩) hS (fun hz_16 H locs hW hS => ?_)
          refine lv_goto (tgt := 74) hx hb dX6_readAct_67 (by decide) ?_
          cases h
          exact g_zret hx hb hr hlocks hW hS hz_16 dX6_readAct_74
      · have h := it_t c_7 h
        refine lv_iconst (v := 0) hx hb dX6_readAct_42 (by decide) ?_
        cases h
        exact g_zret hx hb hr hlocks hW hS (rfl) dX6_readAct_43
    · have h := it_t c_2 h
      refine lv_aload_n hx hb dX6_readAct_28 rfl (lv_at hl 0 rfl) ?_
      refine lv_iconst (v := 0) hx hb dX6_readAct_29 (by decide) ?_
      obtain ⟨r_18, S_19, hc_17, h⟩ := cl1_ex h
      refine g_cz (g_runV (ci := 6) (o := 110) (As := [.int 0]) (rest := []) hx hb hml hown hts hK hN hT hS hW (c_X6_endLine hB h110 h111 hc_17) h110 kd_110 rfl (gw_V mw_688 mw_690 mw_21 mw_75 mw_691) hv_X6_endLine rfl rfl rfl (rm_ok (by decide) (by decide)) hl.1 (Nat.le_of_ble_eq_true rfl) dX6_readAct_30 rfl ⟨Nat.zero_le _, Nat.zero_le _⟩) hS (fun hz_20 H locs hW hS => ?_)
      cases h
      exact g_zret hx hb hr hlocks hW hS hz_20 dX6_readAct_33
  · have h := it_t c_1 h
    refine lv_aload_n hx hb dX6_readAct_11 rfl (lv_at hl 0 rfl) ?_
    refine lv_iconst (v := (-1)) hx hb dX6_readAct_12 (by decide) ?_
    obtain ⟨r_22, S_23, hc_21, h⟩ := cl1_ex h
    refine g_cz (g_runV (ci := 6) (o := 110) (As := [.int (-1)]) (rest := []) hx hb hml hown hts hK hN hT hS hW (c_X6_endLine hB h110 h111 hc_21) h110 kd_110 rfl (gw_V mw_688 mw_690 mw_21 mw_75 mw_691) hv_X6_endLine rfl rfl rfl (rm_ok (by decide) (by decide)) hl.1 (Nat.le_of_ble_eq_true rfl) dX6_readAct_13 rfl ⟨Nat.zero_le _, Nat.zero_le _⟩) hS (fun hz_24 H locs hW hS => ?_)
    cases h
    exact g_zret hx hb hr hlocks hW hS hz_24 dX6_readAct_16
theorem c_X6_readAct (hB : Lk L) (h110 : 110 ∈ L) (h111 : 111 ∈ L) {S : St} {r : Int32} {S9 : St} (h : f_X6_readAct L N S = some (r, S9)) : Met l yX6_readAct (gws yX6_readAct cX6_readAct 1 (some .boolean)) (rmk 9) (va_Pc [.ref (ad 110)] (WU g A ad L S)) (qz g A ad L r S9) 0 0 A :=
  g_met [.ref (ad 110)] (by decide) (Nat.le_of_ble_eq_true rfl) (fun p e s m below meth c ls C hW hl _ => t_X6_readAct C hB h110 h111 h hW va_S.rf hl)
theorem hv_X6_readAct : yX6_readAct.cls = RX6 ∧ yX6_readAct.cls ≠ "java/lang/invoke/MethodHandle" ∧ yX6_readAct.cls ≠ "java/lang/invoke/VarHandle" ∧ (parseMethodDescriptor yX6_readAct.desc).map (fun d => d.parameters.length) = some 0 := by decide +kernel
/-! DroveRoads$Parser.readOperand -/
def f_X6_readOperand_j38 (L : List Nat) (N : Nat) (S : St) (v1 : Int32) (v2 : Int32) (w100 : Int32) : Option (Int32 × St) := if w100 = 0 then (cl1 (f_X6_refuse S) fun r_8 S_9 => some (r_8, S_9)) else (if (gv S 110 4) < 80 then (if v1 = 26 then (cl1 (f_X6_refuseFor S 3) fun r_27 S_28 => some (r_27, S_28)) else (bn (sv S 110 4 ((gv S 110 4) + 1)) fun S_13 => oc (gr S_13 110 3) (none) fun n_14 => if oko L n_14 then (if v2 = 0 then (cl0 (f_X5_addCell S_13 n_14 (gv S_13 111 2)) fun S_19 => cl0 (f_X3_advance N S_19) fun S_21 => some (1, S_21)) else (cl0 (f_X5_addCell S_13 n_14 ((-1) - v1)) fun S_23 => cl0 (f_X3_advance N S_23) fun S_25 => some (1, S_25))) else none)) else (cl1 (f_X6_refuse S) fun r_31 S_32 => some (r_31, S_32)))
set_option maxHeartbeats 4000000 in
theorem t_X6_readOperand_j38 (C : MC p s m args meth c cX6_readOperand 4 (some .boolean) RX6 g A) (hB : Lk L) (h110 : 110 ∈ L) (h111 : 111 ∈ L) {S : St} {r : Int32} {S9 : St} {v1 : Int32} {v2 : Int32} {w100 : Int32} (h : f_X6_readOperand_j38 L N S v1 v2 w100 = some (r, S9)) {H : Heap} {locs : List Loc} {ls : Array Slot} (hW : GW g A ad L S H) (hS : va_S A s.heap H locs) (hl : lv_has ls 4 [(0, .ref (ad 110)), (1, .int v1), (2, .int v2)]) : W p l e (rmk 8) s m args below meth c H locs 0 0 (MQ below (qz g A ad L r S9) args s 0 0 A) (F0 m 38 ls [.int w100]) := by
  obtain ⟨hx, hb, hml, hown, hts, hr, hlocks, hK, hN, hT⟩ := id C
  unfold f_X6_readOperand_j38 at h
  refine lv_istore_n (lv' := [(3, .int w100), (0, .ref (ad 110)), (1, .int v1), (2, .int v2)]) hx hb dX6_readOperand_38 rfl hl (by decide) rfl (fun ls hl => ?_)
  refine lv_iload_n hx hb dX6_readOperand_39 rfl (lv_at hl 0 rfl) ?_
  refine lv_if_eq (tgt := 52) hx hb dX6_readOperand_40 (by decide) (fun c_6 => ?_) (fun c_6 => ?_)
  · have h := it_t c_6 h
    refine lv_aload_n hx hb dX6_readOperand_52 rfl (lv_at hl 1 rfl) ?_
    obtain ⟨r_8, S_9, hc_7, h⟩ := cl1_ex h
    refine g_cz (g_runV (ci := 6) (o := 110) (As := []) (rest := []) hx hb hml hown hts hK hN hT hS hW (c_X6_refuse hB h110 h111 hc_7) h110 kd_110 rfl (gw_V mw_643 mw_645 mw_11 mw_75 mw_646) hv_X6_refuse rfl rfl rfl (rm_ok (by decide) (by decide)) hl.1 (Nat.le_of_ble_eq_true rfl) dX6_readOperand_53 rfl ⟨Nat.zero_le _, Nat.zero_le _⟩) hS (fun hz_10 H locs hW hS => ?_)
    cases h
    exact g_zret hx hb hr hlocks hW hS hz_10 dX6_readOperand_56
  · have h := it_f c_6 h
    refine lv_aload_n hx hb dX6_readOperand_43 rfl (lv_at hl 1 rfl) ?_
    refine g_get (C := RX6) (T := TX6) (N := 5) (ci := 6) hx hb hts inX6 hown hK hW h110 kd_110 rfl 4 (by decide) mw_475 rfl rfl dX6_readOperand_44 ?_
    refine lv_bipush (v := 80) hx hb dX6_readOperand_47 (by decide) ?_
    refine lv_icmp_lt (tgt := 57) hx hb dX6_readOperand_49 (by decide) (fun c_11 => ?_) (fun c_11 => ?_)
    · have h := it_t c_11 h
      refine lv_iload_n hx hb dX6_readOperand_57 rfl (lv_at hl 2 rfl) ?_
      refine lv_bipush (v := 26) hx hb dX6_readOperand_58 (by decide) ?_
      refine lv_icmp_ne (tgt := 69) hx hb dX6_readOperand_60 (by decide) (fun c_12 => ?_) (fun c_12 => ?_)
      · have h := it_f c_12 h
        refine lv_aload_n hx hb dX6_readOperand_69 rfl (lv_at hl 1 rfl) ?_
        refine lv_dup hx hb dX6_readOperand_70 rfl ?_
        refine g_get (C := RX6) (T := TX6) (N := 5) (ci := 6) hx hb hts inX6 hown hK hW h110 kd_110 rfl 4 (by decide) mw_475 rfl rfl dX6_readOperand_71 ?_
        refine lv_iconst (v := 1) hx hb dX6_readOperand_74 (by decide) ?_
        refine lv_iadd hx hb dX6_readOperand_75 ?_
        refine g_put (C := RX6) (T := TX6) (N := 5) (ci := 6) hx hb hts inX6 tyX6 tyX6_ok nmX6 hown hK hW hS h110 kd_110 rfl 4 (by decide) mw_475 rfl rfl rfl rfl (Nat.le_of_ble_eq_true rfl) (sv S 110 4 ((gv S 110 4) + 1)) (ps_110_4) cellOf_sv dX6_readOperand_76 (fun S_13 eS_13 H locs hW hS => ?_)
        have h := bn_at eS_13 h
        refine lv_aload_n hx hb dX6_readOperand_79 rfl (lv_at hl 1 rfl) ?_
        refine g_get (C := RX6) (T := TX6) (N := 5) (ci := 6) hx hb hts inX6 hown hK hW h110 kd_110 rfl 3 (by decide) mw_474 rfl rfl dX6_readOperand_80 ?_
        rcases hq_15 : (gr S_13 110 3) with _ | n_14
        · rw [hq_15] at h
          cases h
        · rw [hq_15] at h
          obtain ⟨hn_16, h⟩ := ck_t h
          refine W.eq (g2 := F0 m 83 ls (.ref (ad n_14) :: [])) rfl ?_
          refine lv_iload_n hx hb dX6_readOperand_83 rfl (lv_at hl 3 rfl) ?_
          refine lv_if_eq (tgt := 93) hx hb dX6_readOperand_84 (by decide) (fun c_17 => ?_) (fun c_17 => ?_)
          · have h := it_t c_17 h
            refine lv_aload_n hx hb dX6_readOperand_93 rfl (lv_at hl 1 rfl) ?_
            refine g_get (C := RX6) (T := TX6) (N := 5) (ci := 6) hx hb hts inX6 hown hK hW h110 kd_110 rfl 2 (by decide) mw_473 rfl rfl dX6_readOperand_94 ?_
            refine g_get (C := RX3) (T := TX3) (N := 6) (ci := 3) hx hb hts inX3 hown hK hW h111 kd_111 rfl 2 (by decide) mw_452 rfl rfl dX6_readOperand_97 ?_
            obtain ⟨S_19, hc_18, h⟩ := cl0_ex h
            refine g_cv (g_runV (ci := 5) (o := n_14) (As := [.int (gv S_13 111 2)]) (rest := []) hx hb hml hown hts hK hN hT hS hW (c_X5_addCell hB hn_16 hc_18) hn_16.2.2.1 (kd_ord hn_16) rfl (gw_V mw_667 mw_668 mw_669 mw_72 mw_670) hv_X5_addCell rfl rfl rfl (rm_ok (by decide) (by decide)) hl.1 (Nat.le_of_ble_eq_true rfl) dX6_readOperand_100 rfl ⟨Nat.zero_le _, Nat.zero_le _⟩) hS (fun H locs hW hS => ?_)
            refine lv_aload_n hx hb dX6_readOperand_103 rfl (lv_at hl 1 rfl) ?_
            refine g_get (C := RX6) (T := TX6) (N := 5) (ci := 6) hx hb hts inX6 hown hK hW h110 kd_110 rfl 2 (by decide) mw_473 rfl rfl dX6_readOperand_104 ?_
            obtain ⟨S_21, hc_20, h⟩ := cl0_ex h
            refine g_cv (g_runV (ci := 3) (o := 111) (As := []) (rest := []) hx hb hml hown hts hK hN hT hS hW (c_X3_advance hB h111 hc_20) h111 kd_111 rfl (gw_V mw_495 mw_496 mw_497 mw_76 mw_498) hv_X3_advance rfl rfl rfl (rm_ok (by decide) (by decide)) hl.1 (Nat.le_of_ble_eq_true rfl) dX6_readOperand_107 rfl ⟨Nat.zero_le _, Nat.zero_le _⟩) hS (fun H locs hW hS => ?_)
            refine lv_iconst (v := 1) hx hb dX6_readOperand_110 (by decide) ?_
            cases h
            exact g_zret hx hb hr hlocks hW hS (rfl) dX6_readOperand_111
          · have h := it_f c_17 h
            refine lv_iconst (v := (-1)) hx hb dX6_readOperand_87 (by decide) ?_
            refine lv_iload_n hx hb dX6_readOperand_88 rfl (lv_at hl 2 rfl) ?_
            refine lv_isub hx hb dX6_readOperand_89 ?_
            refine lv_goto (tgt := 100) hx hb dX6_readOperand_90 (by decide) ?_
            obtain ⟨S_23, hc_22, h⟩ := cl0_ex h
            refine g_cv (g_runV (ci := 5) (o := n_14) (As := [.int ((-1) - v1)]) (rest := []) hx hb hml hown hts hK hN hT hS hW (c_X5_addCell hB hn_16 hc_22) hn_16.2.2.1 (kd_ord hn_16) rfl (gw_V mw_667 mw_668 mw_669 mw_72 mw_670) hv_X5_addCell rfl rfl rfl (rm_ok (by decide) (by decide)) hl.1 (Nat.le_of_ble_eq_true rfl) dX6_readOperand_100 rfl ⟨Nat.zero_le _, Nat.zero_le _⟩) hS (fun H locs hW hS => ?_)
            refine lv_aload_n hx hb dX6_readOperand_103 rfl (lv_at hl 1 rfl) ?_
            refine g_get (C := RX6) (T := TX6) (N := 5) (ci := 6) hx hb hts inX6 hown hK hW h110 kd_110 rfl 2 (by decide) mw_473 rfl rfl dX6_readOperand_104 ?_
            obtain ⟨S_25, hc_24, h⟩ := cl0_ex h
            refine g_cv (g_runV (ci := 3) (o := 111) (As := []) (rest := []) hx hb hml hown hts hK hN hT hS hW (c_X3_advance hB h111 hc_24) h111 kd_111 rfl (gw_V mw_495 mw_496 mw_497 mw_76 mw_498) hv_X3_advance rfl rfl rfl (rm_ok (by decide) (by decide)) hl.1 (Nat.le_of_ble_eq_true rfl) dX6_readOperand_107 rfl ⟨Nat.zero_le _, Nat.zero_le _⟩) hS (fun H locs hW hS => ?_)
            refine lv_iconst (v := 1) hx hb dX6_readOperand_110 (by decide) ?_
            cases h
            exact g_zret hx hb hr hlocks hW hS (rfl) dX6_readOperand_111
      · have h := it_t c_12 h
        refine lv_aload_n hx hb dX6_readOperand_63 rfl (lv_at hl 1 rfl) ?_
        refine lv_iconst (v := 3) hx hb dX6_readOperand_64 (by decide) ?_
        obtain ⟨r_27, S_28, hc_26, h⟩ := cl1_ex h
        refine g_cz (g_runV (ci := 6) (o := 110) (As := [.int 3]) (rest := []) hx hb hml hown hts hK hN hT hS hW (c_X6_refuseFor hB h110 h111 hc_26) h110 kd_110 rfl (gw_V mw_647 mw_649 mw_12 mw_75 mw_650) hv_X6_refuseFor rfl rfl rfl (rm_ok (by decide) (by decide)) hl.1 (Nat.le_of_ble_eq_true rfl) dX6_readOperand_65 rfl ⟨Nat.zero_le _, Nat.zero_le _⟩) hS (fun hz_29 H locs hW hS => ?_)
        cases h
        exact g_zret hx hb hr hlocks hW hS hz_29 dX6_readOperand_68
    · have h := it_f c_11 h
      refine lv_aload_n hx hb dX6_readOperand_52 rfl (lv_at hl 1 rfl) ?_
      obtain ⟨r_31, S_32, hc_30, h⟩ := cl1_ex h
      refine g_cz (g_runV (ci := 6) (o := 110) (As := []) (rest := []) hx hb hml hown hts hK hN hT hS hW (c_X6_refuse hB h110 h111 hc_30) h110 kd_110 rfl (gw_V mw_643 mw_645 mw_11 mw_75 mw_646) hv_X6_refuse rfl rfl rfl (rm_ok (by decide) (by decide)) hl.1 (Nat.le_of_ble_eq_true rfl) dX6_readOperand_53 rfl ⟨Nat.zero_le _, Nat.zero_le _⟩) hS (fun hz_33 H locs hW hS => ?_)
      cases h
      exact g_zret hx hb hr hlocks hW hS hz_33 dX6_readOperand_56
def f_X6_readOperand_j33 (L : List Nat) (N : Nat) (S : St) (v1 : Int32) (v2 : Int32) : Option (Int32 × St) := f_X6_readOperand_j38 L N S v1 v2 1
set_option maxHeartbeats 4000000 in
theorem t_X6_readOperand_j33 (C : MC p s m args meth c cX6_readOperand 4 (some .boolean) RX6 g A) (hB : Lk L) (h110 : 110 ∈ L) (h111 : 111 ∈ L) {S : St} {r : Int32} {S9 : St} {v1 : Int32} {v2 : Int32} (h : f_X6_readOperand_j33 L N S v1 v2 = some (r, S9)) {H : Heap} {locs : List Loc} {ls : Array Slot} (hW : GW g A ad L S H) (hS : va_S A s.heap H locs) (hl : lv_has ls 4 [(0, .ref (ad 110)), (1, .int v1), (2, .int v2)]) : W p l e (rmk 8) s m args below meth c H locs 0 0 (MQ below (qz g A ad L r S9) args s 0 0 A) (F0 m 33 ls []) := by
  obtain ⟨hx, hb, hml, hown, hts, hr, hlocks, hK, hN, hT⟩ := id C
  unfold f_X6_readOperand_j33 at h
  refine lv_iconst (v := 1) hx hb dX6_readOperand_33 (by decide) ?_
  refine lv_goto (tgt := 38) hx hb dX6_readOperand_34 (by decide) ?_
  exact t_X6_readOperand_j38 C hB h110 h111 h hW hS (lv_sub hl [0, 1, 2] rfl)
def f_X6_readOperand (L : List Nat) (N : Nat) (S : St) : Option (Int32 × St) := bn (gv S 111 0) fun x_1 => cl0 (f_X10_within S x_1 8 16) fun r_3 => if r_3 = 0 then (if x_1 = 25 then (f_X6_readOperand_j33 L N S x_1 r_3) else (if x_1 = 26 then (f_X6_readOperand_j33 L N S x_1 r_3) else (f_X6_readOperand_j38 L N S x_1 r_3 0))) else (f_X6_readOperand_j33 L N S x_1 r_3)
set_option maxHeartbeats 4000000 in
theorem t_X6_readOperand (C : MC p s m args meth c cX6_readOperand 4 (some .boolean) RX6 g A) (hB : Lk L) (h110 : 110 ∈ L) (h111 : 111 ∈ L) {S : St} {r : Int32} {S9 : St} (h : f_X6_readOperand L N S = some (r, S9)) {H : Heap} {locs : List Loc} {ls : Array Slot} (hW : GW g A ad L S H) (hS : va_S A s.heap H locs) (hl : lv_has ls 4 [(0, .ref (ad 110))]) : W p l e (rmk 8) s m args below meth c H locs 0 0 (MQ below (qz g A ad L r S9) args s 0 0 A) (F0 m 0 ls []) := by
  obtain ⟨hx, hb, hml, hown, hts, hr, hlocks, hK, hN, hT⟩ := id C
  unfold f_X6_readOperand at h
  refine lv_aload_n hx hb dX6_readOperand_0 rfl (lv_at hl 0 rfl) ?_
  refine g_get (C := RX6) (T := TX6) (N := 5) (ci := 6) hx hb hts inX6 hown hK hW h110 kd_110 rfl 2 (by decide) mw_473 rfl rfl dX6_readOperand_1 ?_
  refine g_get (C := RX3) (T := TX3) (N := 6) (ci := 3) hx hb hts inX3 hown hK hW h111 kd_111 rfl 0 (by decide) mw_448 rfl rfl dX6_readOperand_4 ?_
  refine lv_topi (fun x_1 ex_1 => ?_)
  have h := bn_at ex_1 h
  refine lv_istore_n (lv' := [(1, .int x_1), (0, .ref (ad 110))]) hx hb dX6_readOperand_7 rfl hl (by decide) rfl (fun ls hl => ?_)
  refine lv_iload_n hx hb dX6_readOperand_8 rfl (lv_at hl 0 rfl) ?_
  refine lv_bipush (v := 8) hx hb dX6_readOperand_9 (by decide) ?_
  refine lv_bipush (v := 16) hx hb dX6_readOperand_11 (by decide) ?_
  obtain ⟨r_3, hc_2, h⟩ := cl0_ex h
  refine g_cz (g_runSN (As := [.int x_1, .int 8, .int 16]) (rest := []) hx hb hml hown hts hK hN hT hS hW (c_X10_within hB hc_2) mw_294 (by decide +kernel) mw_66 mw_293 hs_X10_within rfl rfl rfl (rm_ok (by decide) (by decide)) hl.1 (Nat.le_of_ble_eq_true rfl) dX6_readOperand_13 rfl ⟨Nat.zero_le _, Nat.zero_le _⟩) hS (fun hz_4 H locs hW hS => ?_)
  refine lv_istore_n (lv' := [(2, .int r_3), (1, .int x_1), (0, .ref (ad 110))]) hx hb dX6_readOperand_16 rfl hl (by decide) rfl (fun ls hl => ?_)
  refine lv_iload_n hx hb dX6_readOperand_17 rfl (lv_at hl 0 rfl) ?_
  refine lv_if_ne (tgt := 33) hx hb dX6_readOperand_18 (by decide) (fun c_5 => ?_) (fun c_5 => ?_)
  · have h := it_f c_5 h
    exact t_X6_readOperand_j33 C hB h110 h111 h hW hS (lv_sub hl [2, 1, 0] rfl)
  · have h := it_t c_5 h
    refine lv_iload_n hx hb dX6_readOperand_21 rfl (lv_at hl 1 rfl) ?_
    refine lv_bipush (v := 25) hx hb dX6_readOperand_22 (by decide) ?_
    refine lv_icmp_eq (tgt := 33) hx hb dX6_readOperand_24 (by decide) (fun c_34 => ?_) (fun c_34 => ?_)
    · have h := it_t c_34 h
      exact t_X6_readOperand_j33 C hB h110 h111 h hW hS (lv_sub hl [2, 1, 0] rfl)
    · have h := it_f c_34 h
      refine lv_iload_n hx hb dX6_readOperand_27 rfl (lv_at hl 1 rfl) ?_
      refine lv_bipush (v := 26) hx hb dX6_readOperand_28 (by decide) ?_
      refine lv_icmp_ne (tgt := 37) hx hb dX6_readOperand_30 (by decide) (fun c_35 => ?_) (fun c_35 => ?_)
      · have h := it_f c_35 h
        refine lv_iconst (v := 0) hx hb dX6_readOperand_37 (by decide) ?_
        exact t_X6_readOperand_j38 C hB h110 h111 h hW hS (lv_sub hl [2, 1, 0] rfl)
      · have h := it_t c_35 h
        exact t_X6_readOperand_j33 C hB h110 h111 h hW hS (lv_sub hl [2, 1, 0] rfl)
theorem c_X6_readOperand (hB : Lk L) (h110 : 110 ∈ L) (h111 : 111 ∈ L) {S : St} {r : Int32} {S9 : St} (h : f_X6_readOperand L N S = some (r, S9)) : Met l yX6_readOperand (gws yX6_readOperand cX6_readOperand 4 (some .boolean)) (rmk 8) (va_Pc [.ref (ad 110)] (WU g A ad L S)) (qz g A ad L r S9) 0 0 A :=
  g_met [.ref (ad 110)] (by decide) (Nat.le_of_ble_eq_true rfl) (fun p e s m below meth c ls C hW hl _ => t_X6_readOperand C hB h110 h111 h hW va_S.rf hl)
theorem hv_X6_readOperand : yX6_readOperand.cls = RX6 ∧ yX6_readOperand.cls ≠ "java/lang/invoke/MethodHandle" ∧ yX6_readOperand.cls ≠ "java/lang/invoke/VarHandle" ∧ (parseMethodDescriptor yX6_readOperand.desc).map (fun d => d.parameters.length) = some 0 := by decide +kernel
/-! DroveRoads$Parser.readTerm -/
def f_X6_readTerm (L : List Nat) (N : Nat) (rE rO : St → Int32 → Option (Int32 × St)) (S : St) (p1 : Int32) : Option (Int32 × St) := if (gv S 111 0) = 23 then (cl0 (f_X3_advance N S) fun S_3 => cl1 (rE S_3 (p1 + 1)) fun r_5 S_6 => if r_5 = 0 then (some (0, S_6)) else (cl1 (f_X6_take N S_6 24) fun r_10 S_11 => if r_10 = 0 then (some (0, S_11)) else (some (1, S_11)))) else (cl1 (f_X6_readOperand L N S) fun r_15 S_16 => some (r_15, S_16))
set_option maxHeartbeats 4000000 in
theorem t_X6_readTerm (C : MC p s m args meth c cX6_readTerm 2 (some .boolean) RX6 g A) (hB : Lk L) (h110 : 110 ∈ L) (h111 : 111 ∈ L) {rE rO : St → Int32 → Option (Int32 × St)} (hE : ∀ {S S9 : St} {p1 r : Int32}, rE S p1 = some (r, S9) → Met l yX6_readE (gws yX6_readE cX6_readE 4 (some .boolean)) (rmk (q0 + 2)) (va_Pc [.ref (ad 110), .int p1] (WU g A ad L S)) (qz g A ad L r S9) 0 0 A) (hO : ∀ {S S9 : St} {p1 r : Int32}, rO S p1 = some (r, S9) → Met l yX6_readOne (gws yX6_readOne cX6_readOne 3 (some .boolean)) (rmk q0) (va_Pc [.ref (ad 110), .int p1] (WU g A ad L S)) (qz g A ad L r S9) 0 0 A) {S : St} {r : Int32} {S9 : St} {p1 : Int32} (h : f_X6_readTerm L N rE rO S p1 = some (r, S9)) {H : Heap} {locs : List Loc} {ls : Array Slot} (hW : GW g A ad L S H) (hS : va_S A s.heap H locs) (hl : lv_has ls 2 [(0, .ref (ad 110)), (1, .int p1)]) : W p l e (rmk (q0 + 21)) s m args below meth c H locs 0 0 (MQ below (qz g A ad L r S9) args s 0 0 A) (F0 m 0 ls []) := by
  obtain ⟨hx, hb, hml, hown, hts, hr, hlocks, hK, hN, hT⟩ := id C
  unfold f_X6_readTerm at h
  refine lv_aload_n hx hb dX6_readTerm_0 rfl (lv_at hl 0 rfl) ?_
  refine g_get (C := RX6) (T := TX6) (N := 5) (ci := 6) hx hb hts inX6 hown hK hW h110 kd_110 rfl 2 (by decide) mw_473 rfl rfl dX6_readTerm_1 ?_
  refine g_get (C := RX3) (T := TX3) (N := 6) (ci := 3) hx hb hts inX3 hown hK hW h111 kd_111 rfl 0 (by decide) mw_448 rfl rfl dX6_readTerm_4 ?_
  refine lv_bipush (v := 23) hx hb dX6_readTerm_7 (by decide) ?_
  refine lv_icmp_eq (tgt := 17) hx hb dX6_readTerm_9 (by decide) (fun c_1 => ?_) (fun c_1 => ?_)
  · have h := it_t c_1 h
    refine lv_aload_n hx hb dX6_readTerm_17 rfl (lv_at hl 0 rfl) ?_
    refine g_get (C := RX6) (T := TX6) (N := 5) (ci := 6) hx hb hts inX6 hown hK hW h110 kd_110 rfl 2 (by decide) mw_473 rfl rfl dX6_readTerm_18 ?_
    obtain ⟨S_3, hc_2, h⟩ := cl0_ex h
    refine g_cv (g_runV (ci := 3) (o := 111) (As := []) (rest := []) hx hb hml hown hts hK hN hT hS hW (c_X3_advance hB h111 hc_2) h111 kd_111 rfl (gw_V mw_495 mw_496 mw_497 mw_76 mw_498) hv_X3_advance rfl rfl rfl (rm_ok (by omega) (by decide)) hl.1 (Nat.le_of_ble_eq_true rfl) dX6_readTerm_21 rfl ⟨Nat.zero_le _, Nat.zero_le _⟩) hS (fun H locs hW hS => ?_)
    refine lv_aload_n hx hb dX6_readTerm_24 rfl (lv_at hl 0 rfl) ?_
    refine lv_iload_n hx hb dX6_readTerm_25 rfl (lv_at hl 1 rfl) ?_
    refine lv_iconst (v := 1) hx hb dX6_readTerm_26 (by decide) ?_
    refine lv_iadd hx hb dX6_readTerm_27 ?_
    obtain ⟨r_5, S_6, hc_4, h⟩ := cl1_ex h
    refine g_cz (g_runV (ci := 6) (o := 110) (As := [.int (p1 + 1)]) (rest := []) hx hb hml hown hts hK hN hT hS hW (hE hc_4) h110 kd_110 rfl (gw_V mw_651 mw_653 mw_13 mw_75 mw_654) hv_X6_readE rfl rfl rfl (rm_ok (by omega) (by decide)) hl.1 (Nat.le_of_ble_eq_true rfl) dX6_readTerm_28 rfl ⟨Nat.zero_le _, Nat.zero_le _⟩) hS (fun hz_7 H locs hW hS => ?_)
    refine lv_if_eq (tgt := 47) hx hb dX6_readTerm_31 (by decide) (fun c_8 => ?_) (fun c_8 => ?_)
    · have h := it_t c_8 h
      refine lv_iconst (v := 0) hx hb dX6_readTerm_47 (by decide) ?_
      cases h
      exact g_zret hx hb hr hlocks hW hS (rfl) dX6_readTerm_48
    · have h := it_f c_8 h
      refine lv_aload_n hx hb dX6_readTerm_34 rfl (lv_at hl 0 rfl) ?_
      refine lv_bipush (v := 24) hx hb dX6_readTerm_35 (by decide) ?_
      obtain ⟨r_10, S_11, hc_9, h⟩ := cl1_ex h
      refine g_cz (g_runV (ci := 6) (o := 110) (As := [.int 24]) (rest := []) hx hb hml hown hts hK hN hT hS hW (c_X6_take hB h110 h111 hc_9) h110 kd_110 rfl (gw_V mw_639 mw_641 mw_10 mw_75 mw_642) hv_X6_take rfl rfl rfl (rm_ok (by omega) (by decide)) hl.1 (Nat.le_of_ble_eq_true rfl) dX6_readTerm_37 rfl ⟨Nat.zero_le _, Nat.zero_le _⟩) hS (fun hz_12 H locs hW hS => ?_)
      refine lv_if_eq (tgt := 47) hx hb dX6_readTerm_40 (by decide) (fun c_13 => ?_) (fun c_13 => ?_)
      · have h := it_t c_13 h
        refine lv_iconst (v := 0) hx hb dX6_readTerm_47 (by decide) ?_
        cases h
        exact g_zret hx hb hr hlocks hW hS (rfl) dX6_readTerm_48
      · have h := it_f c_13 h
        refine lv_iconst (v := 1) hx hb dX6_readTerm_43 (by decide) ?_
        refine lv_goto (tgt := 48) hx hb dX6_readTerm_44 (by decide) ?_
        cases h
        exact g_zret hx hb hr hlocks hW hS (rfl) dX6_readTerm_48
  · have h := it_f c_1 h
    refine lv_aload_n hx hb dX6_readTerm_12 rfl (lv_at hl 0 rfl) ?_
    obtain ⟨r_15, S_16, hc_14, h⟩ := cl1_ex h
    refine g_cz (g_runV (ci := 6) (o := 110) (As := []) (rest := []) hx hb hml hown hts hK hN hT hS hW (c_X6_readOperand hB h110 h111 hc_14) h110 kd_110 rfl (gw_V mw_679 mw_681 mw_19 mw_75 mw_682) hv_X6_readOperand rfl rfl rfl (rm_ok (by omega) (by decide)) hl.1 (Nat.le_of_ble_eq_true rfl) dX6_readTerm_13 rfl ⟨Nat.zero_le _, Nat.zero_le _⟩) hS (fun hz_17 H locs hW hS => ?_)
    cases h
    exact g_zret hx hb hr hlocks hW hS hz_17 dX6_readTerm_16
theorem c_X6_readTerm (hB : Lk L) (h110 : 110 ∈ L) (h111 : 111 ∈ L) {rE rO : St → Int32 → Option (Int32 × St)} (hE : ∀ {S S9 : St} {p1 r : Int32}, rE S p1 = some (r, S9) → Met l yX6_readE (gws yX6_readE cX6_readE 4 (some .boolean)) (rmk (q0 + 2)) (va_Pc [.ref (ad 110), .int p1] (WU g A ad L S)) (qz g A ad L r S9) 0 0 A) (hO : ∀ {S S9 : St} {p1 r : Int32}, rO S p1 = some (r, S9) → Met l yX6_readOne (gws yX6_readOne cX6_readOne 3 (some .boolean)) (rmk q0) (va_Pc [.ref (ad 110), .int p1] (WU g A ad L S)) (qz g A ad L r S9) 0 0 A) {S : St} {r : Int32} {S9 : St} {p1 : Int32} (h : f_X6_readTerm L N rE rO S p1 = some (r, S9)) : Met l yX6_readTerm (gws yX6_readTerm cX6_readTerm 2 (some .boolean)) (rmk (q0 + 21)) (va_Pc [.ref (ad 110), .int p1] (WU g A ad L S)) (qz g A ad L r S9) 0 0 A :=
  g_met [.ref (ad 110), .int p1] (by decide) (Nat.le_of_ble_eq_true rfl) (fun p e s m below meth c ls C hW hl _ => t_X6_readTerm C hB h110 h111 hE hO h hW va_S.rf hl)
theorem hv_X6_readTerm : yX6_readTerm.cls = RX6 ∧ yX6_readTerm.cls ≠ "java/lang/invoke/MethodHandle" ∧ yX6_readTerm.cls ≠ "java/lang/invoke/VarHandle" ∧ (parseMethodDescriptor yX6_readTerm.desc).map (fun d => d.parameters.length) = some 1 := by decide +kernel
/-! DroveRoads$Parser.write -/
def f_X6_write (L : List Nat) (S : St) (p1 : Int32) : Option (Int32 × St) := oc (gr S 110 3) (none) fun n_1 => if oko L n_1 then (cl0 (f_X5_addCell S n_1 ((-1) - p1)) fun S_5 => some (1, S_5)) else none
set_option maxHeartbeats 4000000 in
theorem t_X6_write (C : MC p s m args meth c cX6_write 2 (some .boolean) RX6 g A) (hB : Lk L) (h110 : 110 ∈ L) (h111 : 111 ∈ L) {S : St} {r : Int32} {S9 : St} {p1 : Int32} (h : f_X6_write L S p1 = some (r, S9)) {H : Heap} {locs : List Loc} {ls : Array Slot} (hW : GW g A ad L S H) (hS : va_S A s.heap H locs) (hl : lv_has ls 2 [(0, .ref (ad 110)), (1, .int p1)]) : W p l e (rmk 2) s m args below meth c H locs 0 0 (MQ below (qz g A ad L r S9) args s 0 0 A) (F0 m 0 ls []) := by
  obtain ⟨hx, hb, hml, hown, hts, hr, hlocks, hK, hN, hT⟩ := id C
  unfold f_X6_write at h
  refine lv_aload_n hx hb dX6_write_0 rfl (lv_at hl 0 rfl) ?_
  refine g_get (C := RX6) (T := TX6) (N := 5) (ci := 6) hx hb hts inX6 hown hK hW h110 kd_110 rfl 3 (by decide) mw_474 rfl rfl dX6_write_1 ?_
  rcases hq_2 : (gr S 110 3) with _ | n_1
  · rw [hq_2] at h
    cases h
  · rw [hq_2] at h
    obtain ⟨hn_3, h⟩ := ck_t h
    refine W.eq (g2 := F0 m 4 ls (.ref (ad n_1) :: [])) rfl ?_
    refine lv_iconst (v := (-1)) hx hb dX6_write_4 (by decide) ?_
    refine lv_iload_n hx hb dX6_write_5 rfl (lv_at hl 1 rfl) ?_
    refine lv_isub hx hb dX6_write_6 ?_
    obtain ⟨S_5, hc_4, h⟩ := cl0_ex h
    refine g_cv (g_runV (ci := 5) (o := n_1) (As := [.int ((-1) - p1)]) (rest := []) hx hb hml hown hts hK hN hT hS hW (c_X5_addCell hB hn_3 hc_4) hn_3.2.2.1 (kd_ord hn_3) rfl (gw_V mw_667 mw_668 mw_669 mw_72 mw_670) hv_X5_addCell rfl rfl rfl (rm_ok (by decide) (by decide)) hl.1 (Nat.le_of_ble_eq_true rfl) dX6_write_7 rfl ⟨Nat.zero_le _, Nat.zero_le _⟩) hS (fun H locs hW hS => ?_)
    refine lv_iconst (v := 1) hx hb dX6_write_10 (by decide) ?_
    cases h
    exact g_zret hx hb hr hlocks hW hS (rfl) dX6_write_11
theorem c_X6_write (hB : Lk L) (h110 : 110 ∈ L) (h111 : 111 ∈ L) {S : St} {r : Int32} {S9 : St} {p1 : Int32} (h : f_X6_write L S p1 = some (r, S9)) : Met l yX6_write (gws yX6_write cX6_write 2 (some .boolean)) (rmk 2) (va_Pc [.ref (ad 110), .int p1] (WU g A ad L S)) (qz g A ad L r S9) 0 0 A :=
  g_met [.ref (ad 110), .int p1] (by decide) (Nat.le_of_ble_eq_true rfl) (fun p e s m below meth c ls C hW hl _ => t_X6_write C hB h110 h111 h hW va_S.rf hl)
theorem hv_X6_write : yX6_write.cls = RX6 ∧ yX6_write.cls ≠ "java/lang/invoke/MethodHandle" ∧ yX6_write.cls ≠ "java/lang/invoke/VarHandle" ∧ (parseMethodDescriptor yX6_write.desc).map (fun d => d.parameters.length) = some 1 := by decide +kernel
/-! DroveRoads$Parser.readSum -/
def f_X6_readSum_j44 (L : List Nat) (N : Nat) (rE rO : St → Int32 → Option (Int32 × St)) (kb : St → Int32 → Int32 → Option (Int32 × St)) (k : St → Int32 → Option (Int32 × St)) (S : St) (v1 : Int32) (v3 : Int32) (v4 : Int32) : Option (Int32 × St) := cl0 (f_X3_advance N S) fun S_10 => cl1 (f_X6_readTerm L N rE rO S_10 v1) fun r_12 S_13 => if r_12 = 0 then (bn (v3 + 1) fun x_16 => kb S_13 0 x_16) else (cl1 (f_X6_write L S_13 v4) fun r_18 S_19 => if r_18 = 0 then (bn (v3 + 1) fun x_22 => kb S_19 0 x_22) else (bn (v3 + 1) fun x_23 => kb S_19 1 x_23))
set_option maxHeartbeats 4000000 in
theorem t_X6_readSum_j44 (C : MC p s m args meth c cX6_readSum 5 (some .boolean) RX6 g A) (hB : Lk L) (h110 : 110 ∈ L) (h111 : 111 ∈ L) {rE rO : St → Int32 → Option (Int32 × St)} (hE : ∀ {S S9 : St} {p1 r : Int32}, rE S p1 = some (r, S9) → Met l yX6_readE (gws yX6_readE cX6_readE 4 (some .boolean)) (rmk (q0 + 2)) (va_Pc [.ref (ad 110), .int p1] (WU g A ad L S)) (qz g A ad L r S9) 0 0 A) (hO : ∀ {S S9 : St} {p1 r : Int32}, rO S p1 = some (r, S9) → Met l yX6_readOne (gws yX6_readOne cX6_readOne 3 (some .boolean)) (rmk q0) (va_Pc [.ref (ad 110), .int p1] (WU g A ad L S)) (qz g A ad L r S9) 0 0 A) {S : St} {r : Int32} {S9 : St} {v1 : Int32} {v3 : Int32} {v4 : Int32} {kb : St → Int32 → Int32 → Option (Int32 × St)} {k : St → Int32 → Option (Int32 × St)} (hkb : ∀ (S : St) (u2 : Int32) (u3 : Int32), kb S u2 u3 = some (r, S9) → ∀ (H : Heap) (locs : List Loc) (ls : Array Slot), GW g A ad L S H → va_S A s.heap H locs → lv_has ls 5 [(0, .ref (ad 110)), (1, .int v1), (2, .int u2), (3, .int u3)] → W p l e (rmk (q0 + 22)) s m args below meth c H locs 0 0 (MQ below (qz g A ad L r S9) args s 0 0 A) (F0 m 8 ls [])) (hk : ∀ (S : St) (u2 : Int32), k S u2 = some (r, S9) → ∀ (H : Heap) (locs : List Loc) (ls : Array Slot), GW g A ad L S H → va_S A s.heap H locs → lv_has ls 5 [(2, .int u2)] → W p l e (rmk (q0 + 22)) s m args below meth c H locs 0 0 (MQ below (qz g A ad L r S9) args s 0 0 A) (F0 m 80 ls [])) (h : f_X6_readSum_j44 L N rE rO kb k S v1 v3 v4 = some (r, S9)) {H : Heap} {locs : List Loc} {ls : Array Slot} (hW : GW g A ad L S H) (hS : va_S A s.heap H locs) (hl : lv_has ls 5 [(0, .ref (ad 110)), (1, .int v1), (3, .int v3), (4, .int v4)]) : W p l e (rmk (q0 + 22)) s m args below meth c H locs 0 0 (MQ below (qz g A ad L r S9) args s 0 0 A) (F0 m 44 ls []) := by
  obtain ⟨hx, hb, hml, hown, hts, hr, hlocks, hK, hN, hT⟩ := id C
  unfold f_X6_readSum_j44 at h
  refine lv_aload_n hx hb dX6_readSum_44 rfl (lv_at hl 0 rfl) ?_
  refine g_get (C := RX6) (T := TX6) (N := 5) (ci := 6) hx hb hts inX6 hown hK hW h110 kd_110 rfl 2 (by decide) mw_473 rfl rfl dX6_readSum_45 ?_
  obtain ⟨S_10, hc_9, h⟩ := cl0_ex h
  refine g_cv (g_runV (ci := 3) (o := 111) (As := []) (rest := []) hx hb hml hown hts hK hN hT hS hW (c_X3_advance hB h111 hc_9) h111 kd_111 rfl (gw_V mw_495 mw_496 mw_497 mw_76 mw_498) hv_X3_advance rfl rfl rfl (rm_ok (by omega) (by decide)) hl.1 (Nat.le_of_ble_eq_true rfl) dX6_readSum_48 rfl ⟨Nat.zero_le _, Nat.zero_le _⟩) hS (fun H locs hW hS => ?_)
  refine lv_aload_n hx hb dX6_readSum_51 rfl (lv_at hl 0 rfl) ?_
  refine lv_iload_n hx hb dX6_readSum_52 rfl (lv_at hl 1 rfl) ?_
  obtain ⟨r_12, S_13, hc_11, h⟩ := cl1_ex h
  refine g_cz (g_runV (ci := 6) (o := 110) (As := [.int v1]) (rest := []) hx hb hml hown hts hK hN hT hS hW (c_X6_readTerm hB h110 h111 hE hO hc_11) h110 kd_110 rfl (gw_V mw_675 mw_677 mw_18 mw_75 mw_678) hv_X6_readTerm rfl rfl rfl (rm_ok (by omega) (by decide)) hl.1 (Nat.le_of_ble_eq_true rfl) dX6_readSum_53 rfl ⟨Nat.zero_le _, Nat.zero_le _⟩) hS (fun hz_14 H locs hW hS => ?_)
  refine lv_if_eq (tgt := 72) hx hb dX6_readSum_56 (by decide) (fun c_15 => ?_) (fun c_15 => ?_)
  · have h := it_t c_15 h
    refine lv_iconst (v := 0) hx hb dX6_readSum_72 (by decide) ?_
    refine lv_istore_n (lv' := [(2, .int 0), (0, .ref (ad 110)), (1, .int v1), (3, .int v3), (4, .int v4)]) hx hb dX6_readSum_73 rfl hl (by decide) rfl (fun ls hl => ?_)
    obtain ⟨x_16, ex_16⟩ : ∃ z : Int32, z = v3 + 1 := ⟨_, rfl⟩
    have h := bn_at ex_16 h
    refine lv_iinc (v := x_16) (lv' := [(3, .int x_16), (2, .int 0), (0, .ref (ad 110)), (1, .int v1), (4, .int v4)]) hx hb dX6_readSum_74 hl (k := 3) rfl (by rw [ex_16]; rfl) (by decide) rfl (fun ls hl => ?_)
    refine lv_goto (tgt := 8) hx hb dX6_readSum_77 (by decide) ?_
    exact hkb _ _ _ h _ _ _ hW hS (lv_sub hl [2, 3, 1, 0] rfl)
  · have h := it_f c_15 h
    refine lv_aload_n hx hb dX6_readSum_59 rfl (lv_at hl 0 rfl) ?_
    refine lv_iload hx hb dX6_readSum_60 (lv_at hl 3 rfl) ?_
    obtain ⟨r_18, S_19, hc_17, h⟩ := cl1_ex h
    refine g_cz (g_runV (ci := 6) (o := 110) (As := [.int v4]) (rest := []) hx hb hml hown hts hK hN hT hS hW (c_X6_write hB h110 h111 hc_17) h110 kd_110 rfl (gw_V mw_663 mw_665 mw_16 mw_75 mw_666) hv_X6_write rfl rfl rfl (rm_ok (by omega) (by decide)) hl.1 (Nat.le_of_ble_eq_true rfl) dX6_readSum_62 rfl ⟨Nat.zero_le _, Nat.zero_le _⟩) hS (fun hz_20 H locs hW hS => ?_)
    refine lv_if_eq (tgt := 72) hx hb dX6_readSum_65 (by decide) (fun c_21 => ?_) (fun c_21 => ?_)
    · have h := it_t c_21 h
      refine lv_iconst (v := 0) hx hb dX6_readSum_72 (by decide) ?_
      refine lv_istore_n (lv' := [(2, .int 0), (0, .ref (ad 110)), (1, .int v1), (3, .int v3), (4, .int v4)]) hx hb dX6_readSum_73 rfl hl (by decide) rfl (fun ls hl => ?_)
      obtain ⟨x_22, ex_22⟩ : ∃ z : Int32, z = v3 + 1 := ⟨_, rfl⟩
      have h := bn_at ex_22 h
      refine lv_iinc (v := x_22) (lv' := [(3, .int x_22), (2, .int 0), (0, .ref (ad 110)), (1, .int v1), (4, .int v4)]) hx hb dX6_readSum_74 hl (k := 3) rfl (by rw [ex_22]; rfl) (by decide) rfl (fun ls hl => ?_)
      refine lv_goto (tgt := 8) hx hb dX6_readSum_77 (by decide) ?_
      exact hkb _ _ _ h _ _ _ hW hS (lv_sub hl [2, 3, 1, 0] rfl)
    · have h := it_f c_21 h
      refine lv_iconst (v := 1) hx hb dX6_readSum_68 (by decide) ?_
      refine lv_goto (tgt := 73) hx hb dX6_readSum_69 (by decide) ?_
      refine lv_istore_n (lv' := [(2, .int 1), (0, .ref (ad 110)), (1, .int v1), (3, .int v3), (4, .int v4)]) hx hb dX6_readSum_73 rfl hl (by decide) rfl (fun ls hl => ?_)
      obtain ⟨x_23, ex_23⟩ : ∃ z : Int32, z = v3 + 1 := ⟨_, rfl⟩
      have h := bn_at ex_23 h
      refine lv_iinc (v := x_23) (lv' := [(3, .int x_23), (2, .int 1), (0, .ref (ad 110)), (1, .int v1), (4, .int v4)]) hx hb dX6_readSum_74 hl (k := 3) rfl (by rw [ex_23]; rfl) (by decide) rfl (fun ls hl => ?_)
      refine lv_goto (tgt := 8) hx hb dX6_readSum_77 (by decide) ?_
      exact hkb _ _ _ h _ _ _ hW hS (lv_sub hl [2, 3, 1, 0] rfl)
def f_X6_readSum_l8 (L : List Nat) (N : Nat) (rE rO : St → Int32 → Option (Int32 × St)) (v1 : Int32) (k : St → Int32 → Option (Int32 × St)) : Nat → St → Int32 → Int32 → Option (Int32 × St)
  | 0, _, _, _ => none
  | n + 1, S, v2, v3 => if 500 ≤ v3 then (k S v2) else (if v2 = 0 then (k S v2) else (bn (gv S 111 0) fun x_7 => if x_7 = 21 then (f_X6_readSum_j44 L N rE rO (f_X6_readSum_l8 L N rE rO v1 k n) k S v1 v3 x_7) else (if x_7 = 22 then (f_X6_readSum_j44 L N rE rO (f_X6_readSum_l8 L N rE rO v1 k n) k S v1 v3 x_7) else (some (1, S)))))
set_option maxHeartbeats 4000000 in
theorem t_X6_readSum_l8 (C : MC p s m args meth c cX6_readSum 5 (some .boolean) RX6 g A) (hB : Lk L) (h110 : 110 ∈ L) (h111 : 111 ∈ L) {rE rO : St → Int32 → Option (Int32 × St)} (hE : ∀ {S S9 : St} {p1 r : Int32}, rE S p1 = some (r, S9) → Met l yX6_readE (gws yX6_readE cX6_readE 4 (some .boolean)) (rmk (q0 + 2)) (va_Pc [.ref (ad 110), .int p1] (WU g A ad L S)) (qz g A ad L r S9) 0 0 A) (hO : ∀ {S S9 : St} {p1 r : Int32}, rO S p1 = some (r, S9) → Met l yX6_readOne (gws yX6_readOne cX6_readOne 3 (some .boolean)) (rmk q0) (va_Pc [.ref (ad 110), .int p1] (WU g A ad L S)) (qz g A ad L r S9) 0 0 A) {v1 : Int32} {r : Int32} {S9 : St} {k : St → Int32 → Option (Int32 × St)} (hk : ∀ (S : St) (w2 : Int32), k S w2 = some (r, S9) → ∀ (H : Heap) (locs : List Loc) (ls : Array Slot), GW g A ad L S H → va_S A s.heap H locs → lv_has ls 5 [(2, .int w2)] → W p l e (rmk (q0 + 22)) s m args below meth c H locs 0 0 (MQ below (qz g A ad L r S9) args s 0 0 A) (F0 m 80 ls [])) : ∀ (n : Nat) (S : St) (v2 : Int32) (v3 : Int32), f_X6_readSum_l8 L N rE rO v1 k n S v2 v3 = some (r, S9) → ∀ (H : Heap) (locs : List Loc) (ls : Array Slot), GW g A ad L S H → va_S A s.heap H locs → lv_has ls 5 [(0, .ref (ad 110)), (1, .int v1), (2, .int v2), (3, .int v3)] → W p l e (rmk (q0 + 22)) s m args below meth c H locs 0 0 (MQ below (qz g A ad L r S9) args s 0 0 A) (F0 m 8 ls []) := by
  obtain ⟨hx, hb, hml, hown, hts, hr, hlocks, hK, hN, hT⟩ := id C
  intro n
  induction n with
  | zero =>
    intro S v2 v3 h
    have h : (none : Option (Int32 × St)) = some (r, S9) := h
    cases h
  | succ n ih =>
    intro S v2 v3 h H locs ls hW hS hl
    rw [f_X6_readSum_l8] at h
    refine lv_iload_n hx hb dX6_readSum_8 rfl (lv_at hl 3 rfl) ?_
    refine lv_sipush (v := 500) hx hb dX6_readSum_9 (by decide) ?_
    refine lv_icmp_ge (tgt := 80) hx hb dX6_readSum_12 (by decide) (fun c_5 => ?_) (fun c_5 => ?_)
    · have h := it_t c_5 h
      exact hk _ _ h _ _ _ hW hS (lv_sub hl [2] rfl)
    · have h := it_f c_5 h
      refine lv_iload_n hx hb dX6_readSum_15 rfl (lv_at hl 2 rfl) ?_
      refine lv_if_eq (tgt := 80) hx hb dX6_readSum_16 (by decide) (fun c_6 => ?_) (fun c_6 => ?_)
      · have h := it_t c_6 h
        exact hk _ _ h _ _ _ hW hS (lv_sub hl [2] rfl)
      · have h := it_f c_6 h
        refine lv_aload_n hx hb dX6_readSum_19 rfl (lv_at hl 0 rfl) ?_
        refine g_get (C := RX6) (T := TX6) (N := 5) (ci := 6) hx hb hts inX6 hown hK hW h110 kd_110 rfl 2 (by decide) mw_473 rfl rfl dX6_readSum_20 ?_
        refine g_get (C := RX3) (T := TX3) (N := 6) (ci := 3) hx hb hts inX3 hown hK hW h111 kd_111 rfl 0 (by decide) mw_448 rfl rfl dX6_readSum_23 ?_
        refine lv_topi (fun x_7 ex_7 => ?_)
        have h := bn_at ex_7 h
        refine lv_istore (lv' := [(4, .int x_7), (0, .ref (ad 110)), (1, .int v1), (2, .int v2), (3, .int v3)]) hx hb dX6_readSum_26 hl (by decide) rfl (fun ls hl => ?_)
        refine lv_iload hx hb dX6_readSum_28 (lv_at hl 0 rfl) ?_
        refine lv_bipush (v := 21) hx hb dX6_readSum_30 (by decide) ?_
        refine lv_icmp_eq (tgt := 44) hx hb dX6_readSum_32 (by decide) (fun c_8 => ?_) (fun c_8 => ?_)
        · have h := it_t c_8 h
          exact t_X6_readSum_j44 C hB h110 h111 hE hO ih hk h hW hS (lv_sub hl [1, 2, 4, 0] rfl)
        · have h := it_f c_8 h
          refine lv_iload hx hb dX6_readSum_35 (lv_at hl 0 rfl) ?_
          refine lv_bipush (v := 22) hx hb dX6_readSum_37 (by decide) ?_
          refine lv_icmp_eq (tgt := 44) hx hb dX6_readSum_39 (by decide) (fun c_24 => ?_) (fun c_24 => ?_)
          · have h := it_t c_24 h
            exact t_X6_readSum_j44 C hB h110 h111 hE hO ih hk h hW hS (lv_sub hl [1, 2, 4, 0] rfl)
          · have h := it_f c_24 h
            refine lv_iconst (v := 1) hx hb dX6_readSum_42 (by decide) ?_
            cases h
            exact g_zret hx hb hr hlocks hW hS (rfl) dX6_readSum_43
def f_X6_readSum (L : List Nat) (N : Nat) (rE rO : St → Int32 → Option (Int32 × St)) (S : St) (p1 : Int32) : Option (Int32 × St) := cl1 (f_X6_readTerm L N rE rO S p1) fun r_2 S_3 => f_X6_readSum_l8 L N rE rO p1 (fun S_25 x_26 => if x_26 = 0 ∨ x_26 = 1 then (some (x_26, S_25)) else none) N S_3 r_2 0
set_option maxHeartbeats 4000000 in
theorem t_X6_readSum (C : MC p s m args meth c cX6_readSum 5 (some .boolean) RX6 g A) (hB : Lk L) (h110 : 110 ∈ L) (h111 : 111 ∈ L) {rE rO : St → Int32 → Option (Int32 × St)} (hE : ∀ {S S9 : St} {p1 r : Int32}, rE S p1 = some (r, S9) → Met l yX6_readE (gws yX6_readE cX6_readE 4 (some .boolean)) (rmk (q0 + 2)) (va_Pc [.ref (ad 110), .int p1] (WU g A ad L S)) (qz g A ad L r S9) 0 0 A) (hO : ∀ {S S9 : St} {p1 r : Int32}, rO S p1 = some (r, S9) → Met l yX6_readOne (gws yX6_readOne cX6_readOne 3 (some .boolean)) (rmk q0) (va_Pc [.ref (ad 110), .int p1] (WU g A ad L S)) (qz g A ad L r S9) 0 0 A) {S : St} {r : Int32} {S9 : St} {p1 : Int32} (h : f_X6_readSum L N rE rO S p1 = some (r, S9)) {H : Heap} {locs : List Loc} {ls : Array Slot} (hW : GW g A ad L S H) (hS : va_S A s.heap H locs) (hl : lv_has ls 5 [(0, .ref (ad 110)), (1, .int p1)]) : W p l e (rmk (q0 + 22)) s m args below meth c H locs 0 0 (MQ below (qz g A ad L r S9) args s 0 0 A) (F0 m 0 ls []) := by
  obtain ⟨hx, hb, hml, hown, hts, hr, hlocks, hK, hN, hT⟩ := id C
  unfold f_X6_readSum at h
  refine lv_aload_n hx hb dX6_readSum_0 rfl (lv_at hl 0 rfl) ?_
  refine lv_iload_n hx hb dX6_readSum_1 rfl (lv_at hl 1 rfl) ?_
  obtain ⟨r_2, S_3, hc_1, h⟩ := cl1_ex h
  refine g_cz (g_runV (ci := 6) (o := 110) (As := [.int p1]) (rest := []) hx hb hml hown hts hK hN hT hS hW (c_X6_readTerm hB h110 h111 hE hO hc_1) h110 kd_110 rfl (gw_V mw_675 mw_677 mw_18 mw_75 mw_678) hv_X6_readTerm rfl rfl rfl (rm_ok (by omega) (by decide)) hl.1 (Nat.le_of_ble_eq_true rfl) dX6_readSum_2 rfl ⟨Nat.zero_le _, Nat.zero_le _⟩) hS (fun hz_4 H locs hW hS => ?_)
  refine lv_istore_n (lv' := [(2, .int r_2), (0, .ref (ad 110)), (1, .int p1)]) hx hb dX6_readSum_5 rfl hl (by decide) rfl (fun ls hl => ?_)
  refine lv_iconst (v := 0) hx hb dX6_readSum_6 (by decide) ?_
  refine lv_istore_n (lv' := [(3, .int 0), (2, .int r_2), (0, .ref (ad 110)), (1, .int p1)]) hx hb dX6_readSum_7 rfl hl (by decide) rfl (fun ls hl => ?_)
  refine t_X6_readSum_l8 C hB h110 h111 hE hO ?_ _ _ _ _ h _ _ _ hW hS (lv_sub hl [2, 3, 1, 0] rfl)
  intro S_25 x_26 h H locs ls hW hS hl
  refine lv_iload_n hx hb dX6_readSum_80 rfl (lv_at hl 0 rfl) ?_
  obtain ⟨hz_27, h⟩ := ck_t h
  cases h
  exact g_zret hx hb hr hlocks hW hS (bz_of hz_27) dX6_readSum_81
theorem c_X6_readSum (hB : Lk L) (h110 : 110 ∈ L) (h111 : 111 ∈ L) {rE rO : St → Int32 → Option (Int32 × St)} (hE : ∀ {S S9 : St} {p1 r : Int32}, rE S p1 = some (r, S9) → Met l yX6_readE (gws yX6_readE cX6_readE 4 (some .boolean)) (rmk (q0 + 2)) (va_Pc [.ref (ad 110), .int p1] (WU g A ad L S)) (qz g A ad L r S9) 0 0 A) (hO : ∀ {S S9 : St} {p1 r : Int32}, rO S p1 = some (r, S9) → Met l yX6_readOne (gws yX6_readOne cX6_readOne 3 (some .boolean)) (rmk q0) (va_Pc [.ref (ad 110), .int p1] (WU g A ad L S)) (qz g A ad L r S9) 0 0 A) {S : St} {r : Int32} {S9 : St} {p1 : Int32} (h : f_X6_readSum L N rE rO S p1 = some (r, S9)) : Met l yX6_readSum (gws yX6_readSum cX6_readSum 5 (some .boolean)) (rmk (q0 + 22)) (va_Pc [.ref (ad 110), .int p1] (WU g A ad L S)) (qz g A ad L r S9) 0 0 A :=
  g_met [.ref (ad 110), .int p1] (by decide) (Nat.le_of_ble_eq_true rfl) (fun p e s m below meth c ls C hW hl _ => t_X6_readSum C hB h110 h111 hE hO h hW va_S.rf hl)
theorem hv_X6_readSum : yX6_readSum.cls = RX6 ∧ yX6_readSum.cls ≠ "java/lang/invoke/MethodHandle" ∧ yX6_readSum.cls ≠ "java/lang/invoke/VarHandle" ∧ (parseMethodDescriptor yX6_readSum.desc).map (fun d => d.parameters.length) = some 1 := by decide +kernel
/-! DroveRoads$Parser.readOne -/
def f_X6_readOne_j93 (L : List Nat) (N : Nat) (rE rO : St → Int32 → Option (Int32 × St)) (S : St) (v1 : Int32) (v2 : Int32) : Option (Int32 × St) := cl0 (f_X3_advance N S) fun S_11 => cl1 (f_X6_readSum L N rE rO S_11 v1) fun r_13 S_14 => if r_13 = 0 then (some (0, S_14)) else (cl1 (f_X6_write L S_14 v2) fun r_18 S_19 => if r_18 = 0 then (some (0, S_19)) else (some (1, S_19)))
set_option maxHeartbeats 4000000 in
theorem t_X6_readOne_j93 (C : MC p s m args meth c cX6_readOne 3 (some .boolean) RX6 g A) (hB : Lk L) (h110 : 110 ∈ L) (h111 : 111 ∈ L) {rE rO : St → Int32 → Option (Int32 × St)} (hE : ∀ {S S9 : St} {p1 r : Int32}, rE S p1 = some (r, S9) → Met l yX6_readE (gws yX6_readE cX6_readE 4 (some .boolean)) (rmk (q0 + 2)) (va_Pc [.ref (ad 110), .int p1] (WU g A ad L S)) (qz g A ad L r S9) 0 0 A) (hO : ∀ {S S9 : St} {p1 r : Int32}, rO S p1 = some (r, S9) → Met l yX6_readOne (gws yX6_readOne cX6_readOne 3 (some .boolean)) (rmk q0) (va_Pc [.ref (ad 110), .int p1] (WU g A ad L S)) (qz g A ad L r S9) 0 0 A) {S : St} {r : Int32} {S9 : St} {v1 : Int32} {v2 : Int32} (h : f_X6_readOne_j93 L N rE rO S v1 v2 = some (r, S9)) {H : Heap} {locs : List Loc} {ls : Array Slot} (hW : GW g A ad L S H) (hS : va_S A s.heap H locs) (hl : lv_has ls 3 [(0, .ref (ad 110)), (1, .int v1), (2, .int v2)]) : W p l e (rmk (q0 + 23)) s m args below meth c H locs 0 0 (MQ below (qz g A ad L r S9) args s 0 0 A) (F0 m 93 ls []) := by
  obtain ⟨hx, hb, hml, hown, hts, hr, hlocks, hK, hN, hT⟩ := id C
  unfold f_X6_readOne_j93 at h
  refine lv_aload_n hx hb dX6_readOne_93 rfl (lv_at hl 0 rfl) ?_
  refine g_get (C := RX6) (T := TX6) (N := 5) (ci := 6) hx hb hts inX6 hown hK hW h110 kd_110 rfl 2 (by decide) mw_473 rfl rfl dX6_readOne_94 ?_
  obtain ⟨S_11, hc_10, h⟩ := cl0_ex h
  refine g_cv (g_runV (ci := 3) (o := 111) (As := []) (rest := []) hx hb hml hown hts hK hN hT hS hW (c_X3_advance hB h111 hc_10) h111 kd_111 rfl (gw_V mw_495 mw_496 mw_497 mw_76 mw_498) hv_X3_advance rfl rfl rfl (rm_ok (by omega) (by decide)) hl.1 (Nat.le_of_ble_eq_true rfl) dX6_readOne_97 rfl ⟨Nat.zero_le _, Nat.zero_le _⟩) hS (fun H locs hW hS => ?_)
  refine lv_aload_n hx hb dX6_readOne_100 rfl (lv_at hl 0 rfl) ?_
  refine lv_iload_n hx hb dX6_readOne_101 rfl (lv_at hl 1 rfl) ?_
  obtain ⟨r_13, S_14, hc_12, h⟩ := cl1_ex h
  refine g_cz (g_runV (ci := 6) (o := 110) (As := [.int v1]) (rest := []) hx hb hml hown hts hK hN hT hS hW (c_X6_readSum hB h110 h111 hE hO hc_12) h110 kd_110 rfl (gw_V mw_671 mw_673 mw_17 mw_75 mw_674) hv_X6_readSum rfl rfl rfl (rm_ok (by omega) (by decide)) hl.1 (Nat.le_of_ble_eq_true rfl) dX6_readOne_102 rfl ⟨Nat.zero_le _, Nat.zero_le _⟩) hS (fun hz_15 H locs hW hS => ?_)
  refine lv_if_eq (tgt := 120) hx hb dX6_readOne_105 (by decide) (fun c_16 => ?_) (fun c_16 => ?_)
  · have h := it_t c_16 h
    refine lv_iconst (v := 0) hx hb dX6_readOne_120 (by decide) ?_
    cases h
    exact g_zret hx hb hr hlocks hW hS (rfl) dX6_readOne_121
  · have h := it_f c_16 h
    refine lv_aload_n hx hb dX6_readOne_108 rfl (lv_at hl 0 rfl) ?_
    refine lv_iload_n hx hb dX6_readOne_109 rfl (lv_at hl 2 rfl) ?_
    obtain ⟨r_18, S_19, hc_17, h⟩ := cl1_ex h
    refine g_cz (g_runV (ci := 6) (o := 110) (As := [.int v2]) (rest := []) hx hb hml hown hts hK hN hT hS hW (c_X6_write hB h110 h111 hc_17) h110 kd_110 rfl (gw_V mw_663 mw_665 mw_16 mw_75 mw_666) hv_X6_write rfl rfl rfl (rm_ok (by omega) (by decide)) hl.1 (Nat.le_of_ble_eq_true rfl) dX6_readOne_110 rfl ⟨Nat.zero_le _, Nat.zero_le _⟩) hS (fun hz_20 H locs hW hS => ?_)
    refine lv_if_eq (tgt := 120) hx hb dX6_readOne_113 (by decide) (fun c_21 => ?_) (fun c_21 => ?_)
    · have h := it_t c_21 h
      refine lv_iconst (v := 0) hx hb dX6_readOne_120 (by decide) ?_
      cases h
      exact g_zret hx hb hr hlocks hW hS (rfl) dX6_readOne_121
    · have h := it_f c_21 h
      refine lv_iconst (v := 1) hx hb dX6_readOne_116 (by decide) ?_
      refine lv_goto (tgt := 121) hx hb dX6_readOne_117 (by decide) ?_
      cases h
      exact g_zret hx hb hr hlocks hW hS (rfl) dX6_readOne_121
def f_X6_readOne (L : List Nat) (N : Nat) (rE rO : St → Int32 → Option (Int32 × St)) (S : St) (p1 : Int32) : Option (Int32 × St) := if p1 < 8 then (if (gv S 111 0) = 7 then (cl0 (f_X3_advance N S) fun S_25 => cl1 (rO S_25 (p1 + 1)) fun r_27 S_28 => if r_27 = 0 then (some (0, S_28)) else (cl1 (f_X6_write L S_28 7) fun r_32 S_33 => if r_32 = 0 then (some (0, S_33)) else (some (1, S_33)))) else (cl1 (f_X6_readSum L N rE rO S p1) fun r_4 S_5 => if r_4 = 0 then (some (0, S_5)) else (bn (gv S_5 111 0) fun x_8 => if x_8 = 18 then (f_X6_readOne_j93 L N rE rO S_5 p1 x_8) else (if x_8 = 19 then (f_X6_readOne_j93 L N rE rO S_5 p1 x_8) else (if x_8 = 20 then (f_X6_readOne_j93 L N rE rO S_5 p1 x_8) else (some (1, S_5))))))) else (cl1 (f_X6_refuse S) fun r_37 S_38 => some (r_37, S_38))
set_option maxHeartbeats 4000000 in
theorem t_X6_readOne (C : MC p s m args meth c cX6_readOne 3 (some .boolean) RX6 g A) (hB : Lk L) (h110 : 110 ∈ L) (h111 : 111 ∈ L) {rE rO : St → Int32 → Option (Int32 × St)} (hE : ∀ {S S9 : St} {p1 r : Int32}, rE S p1 = some (r, S9) → Met l yX6_readE (gws yX6_readE cX6_readE 4 (some .boolean)) (rmk (q0 + 2)) (va_Pc [.ref (ad 110), .int p1] (WU g A ad L S)) (qz g A ad L r S9) 0 0 A) (hO : ∀ {S S9 : St} {p1 r : Int32}, rO S p1 = some (r, S9) → Met l yX6_readOne (gws yX6_readOne cX6_readOne 3 (some .boolean)) (rmk q0) (va_Pc [.ref (ad 110), .int p1] (WU g A ad L S)) (qz g A ad L r S9) 0 0 A) {S : St} {r : Int32} {S9 : St} {p1 : Int32} (h : f_X6_readOne L N rE rO S p1 = some (r, S9)) {H : Heap} {locs : List Loc} {ls : Array Slot} (hW : GW g A ad L S H) (hS : va_S A s.heap H locs) (hl : lv_has ls 3 [(0, .ref (ad 110)), (1, .int p1)]) : W p l e (rmk (q0 + 23)) s m args below meth c H locs 0 0 (MQ below (qz g A ad L r S9) args s 0 0 A) (F0 m 0 ls []) := by
  obtain ⟨hx, hb, hml, hown, hts, hr, hlocks, hK, hN, hT⟩ := id C
  unfold f_X6_readOne at h
  refine lv_iload_n hx hb dX6_readOne_0 rfl (lv_at hl 1 rfl) ?_
  refine lv_bipush (v := 8) hx hb dX6_readOne_1 (by decide) ?_
  refine lv_icmp_lt (tgt := 11) hx hb dX6_readOne_3 (by decide) (fun c_1 => ?_) (fun c_1 => ?_)
  · have h := it_t c_1 h
    refine lv_aload_n hx hb dX6_readOne_11 rfl (lv_at hl 0 rfl) ?_
    refine g_get (C := RX6) (T := TX6) (N := 5) (ci := 6) hx hb hts inX6 hown hK hW h110 kd_110 rfl 2 (by decide) mw_473 rfl rfl dX6_readOne_12 ?_
    refine g_get (C := RX3) (T := TX3) (N := 6) (ci := 3) hx hb hts inX3 hown hK hW h111 kd_111 rfl 0 (by decide) mw_448 rfl rfl dX6_readOne_15 ?_
    refine lv_bipush (v := 7) hx hb dX6_readOne_18 (by decide) ?_
    refine lv_icmp_ne (tgt := 55) hx hb dX6_readOne_20 (by decide) (fun c_2 => ?_) (fun c_2 => ?_)
    · have h := it_f c_2 h
      refine lv_aload_n hx hb dX6_readOne_55 rfl (lv_at hl 0 rfl) ?_
      refine lv_iload_n hx hb dX6_readOne_56 rfl (lv_at hl 1 rfl) ?_
      obtain ⟨r_4, S_5, hc_3, h⟩ := cl1_ex h
      refine g_cz (g_runV (ci := 6) (o := 110) (As := [.int p1]) (rest := []) hx hb hml hown hts hK hN hT hS hW (c_X6_readSum hB h110 h111 hE hO hc_3) h110 kd_110 rfl (gw_V mw_671 mw_673 mw_17 mw_75 mw_674) hv_X6_readSum rfl rfl rfl (rm_ok (by omega) (by decide)) hl.1 (Nat.le_of_ble_eq_true rfl) dX6_readOne_57 rfl ⟨Nat.zero_le _, Nat.zero_le _⟩) hS (fun hz_6 H locs hW hS => ?_)
      refine lv_if_ne (tgt := 65) hx hb dX6_readOne_60 (by decide) (fun c_7 => ?_) (fun c_7 => ?_)
      · have h := it_f c_7 h
        refine lv_aload_n hx hb dX6_readOne_65 rfl (lv_at hl 0 rfl) ?_
        refine g_get (C := RX6) (T := TX6) (N := 5) (ci := 6) hx hb hts inX6 hown hK hW h110 kd_110 rfl 2 (by decide) mw_473 rfl rfl dX6_readOne_66 ?_
        refine g_get (C := RX3) (T := TX3) (N := 6) (ci := 3) hx hb hts inX3 hown hK hW h111 kd_111 rfl 0 (by decide) mw_448 rfl rfl dX6_readOne_69 ?_
        refine lv_topi (fun x_8 ex_8 => ?_)
        have h := bn_at ex_8 h
        refine lv_istore_n (lv' := [(2, .int x_8), (0, .ref (ad 110)), (1, .int p1)]) hx hb dX6_readOne_72 rfl hl (by decide) rfl (fun ls hl => ?_)
        refine lv_iload_n hx hb dX6_readOne_73 rfl (lv_at hl 0 rfl) ?_
        refine lv_bipush (v := 18) hx hb dX6_readOne_74 (by decide) ?_
        refine lv_icmp_eq (tgt := 93) hx hb dX6_readOne_76 (by decide) (fun c_9 => ?_) (fun c_9 => ?_)
        · have h := it_t c_9 h
          exact t_X6_readOne_j93 C hB h110 h111 hE hO h hW hS (lv_sub hl [1, 2, 0] rfl)
        · have h := it_f c_9 h
          refine lv_iload_n hx hb dX6_readOne_79 rfl (lv_at hl 0 rfl) ?_
          refine lv_bipush (v := 19) hx hb dX6_readOne_80 (by decide) ?_
          refine lv_icmp_eq (tgt := 93) hx hb dX6_readOne_82 (by decide) (fun c_22 => ?_) (fun c_22 => ?_)
          · have h := it_t c_22 h
            exact t_X6_readOne_j93 C hB h110 h111 hE hO h hW hS (lv_sub hl [1, 2, 0] rfl)
          · have h := it_f c_22 h
            refine lv_iload_n hx hb dX6_readOne_85 rfl (lv_at hl 0 rfl) ?_
            refine lv_bipush (v := 20) hx hb dX6_readOne_86 (by decide) ?_
            refine lv_icmp_eq (tgt := 93) hx hb dX6_readOne_88 (by decide) (fun c_23 => ?_) (fun c_23 => ?_)
            · have h := it_t c_23 h
              exact t_X6_readOne_j93 C hB h110 h111 hE hO h hW hS (lv_sub hl [1, 2, 0] rfl)
            · have h := it_f c_23 h
              refine lv_iconst (v := 1) hx hb dX6_readOne_91 (by decide) ?_
              cases h
              exact g_zret hx hb hr hlocks hW hS (rfl) dX6_readOne_92
      · have h := it_t c_7 h
        refine lv_iconst (v := 0) hx hb dX6_readOne_63 (by decide) ?_
        cases h
        exact g_zret hx hb hr hlocks hW hS (rfl) dX6_readOne_64
    · have h := it_t c_2 h
      refine lv_aload_n hx hb dX6_readOne_23 rfl (lv_at hl 0 rfl) ?_
      refine g_get (C := RX6) (T := TX6) (N := 5) (ci := 6) hx hb hts inX6 hown hK hW h110 kd_110 rfl 2 (by decide) mw_473 rfl rfl dX6_readOne_24 ?_
      obtain ⟨S_25, hc_24, h⟩ := cl0_ex h
      refine g_cv (g_runV (ci := 3) (o := 111) (As := []) (rest := []) hx hb hml hown hts hK hN hT hS hW (c_X3_advance hB h111 hc_24) h111 kd_111 rfl (gw_V mw_495 mw_496 mw_497 mw_76 mw_498) hv_X3_advance rfl rfl rfl (rm_ok (by omega) (by decide)) hl.1 (Nat.le_of_ble_eq_true rfl) dX6_readOne_27 rfl ⟨Nat.zero_le _, Nat.zero_le _⟩) hS (fun H locs hW hS => ?_)
      refine lv_aload_n hx hb dX6_readOne_30 rfl (lv_at hl 0 rfl) ?_
      refine lv_iload_n hx hb dX6_readOne_31 rfl (lv_at hl 1 rfl) ?_
      refine lv_iconst (v := 1) hx hb dX6_readOne_32 (by decide) ?_
      refine lv_iadd hx hb dX6_readOne_33 ?_
      obtain ⟨r_27, S_28, hc_26, h⟩ := cl1_ex h
      refine g_cz (g_runV (ci := 6) (o := 110) (As := [.int (p1 + 1)]) (rest := []) hx hb hml hown hts hK hN hT hS hW (hO hc_26) h110 kd_110 rfl (gw_V mw_659 mw_661 mw_15 mw_75 mw_662) hv_X6_readOne rfl rfl rfl (rm_ok (by omega) (by decide)) hl.1 (Nat.le_of_ble_eq_true rfl) dX6_readOne_34 rfl ⟨Nat.zero_le _, Nat.zero_le _⟩) hS (fun hz_29 H locs hW hS => ?_)
      refine lv_if_eq (tgt := 53) hx hb dX6_readOne_37 (by decide) (fun c_30 => ?_) (fun c_30 => ?_)
      · have h := it_t c_30 h
        refine lv_iconst (v := 0) hx hb dX6_readOne_53 (by decide) ?_
        cases h
        exact g_zret hx hb hr hlocks hW hS (rfl) dX6_readOne_54
      · have h := it_f c_30 h
        refine lv_aload_n hx hb dX6_readOne_40 rfl (lv_at hl 0 rfl) ?_
        refine lv_bipush (v := 7) hx hb dX6_readOne_41 (by decide) ?_
        obtain ⟨r_32, S_33, hc_31, h⟩ := cl1_ex h
        refine g_cz (g_runV (ci := 6) (o := 110) (As := [.int 7]) (rest := []) hx hb hml hown hts hK hN hT hS hW (c_X6_write hB h110 h111 hc_31) h110 kd_110 rfl (gw_V mw_663 mw_665 mw_16 mw_75 mw_666) hv_X6_write rfl rfl rfl (rm_ok (by omega) (by decide)) hl.1 (Nat.le_of_ble_eq_true rfl) dX6_readOne_43 rfl ⟨Nat.zero_le _, Nat.zero_le _⟩) hS (fun hz_34 H locs hW hS => ?_)
        refine lv_if_eq (tgt := 53) hx hb dX6_readOne_46 (by decide) (fun c_35 => ?_) (fun c_35 => ?_)
        · have h := it_t c_35 h
          refine lv_iconst (v := 0) hx hb dX6_readOne_53 (by decide) ?_
          cases h
          exact g_zret hx hb hr hlocks hW hS (rfl) dX6_readOne_54
        · have h := it_f c_35 h
          refine lv_iconst (v := 1) hx hb dX6_readOne_49 (by decide) ?_
          refine lv_goto (tgt := 54) hx hb dX6_readOne_50 (by decide) ?_
          cases h
          exact g_zret hx hb hr hlocks hW hS (rfl) dX6_readOne_54
  · have h := it_f c_1 h
    refine lv_aload_n hx hb dX6_readOne_6 rfl (lv_at hl 0 rfl) ?_
    obtain ⟨r_37, S_38, hc_36, h⟩ := cl1_ex h
    refine g_cz (g_runV (ci := 6) (o := 110) (As := []) (rest := []) hx hb hml hown hts hK hN hT hS hW (c_X6_refuse hB h110 h111 hc_36) h110 kd_110 rfl (gw_V mw_643 mw_645 mw_11 mw_75 mw_646) hv_X6_refuse rfl rfl rfl (rm_ok (by omega) (by decide)) hl.1 (Nat.le_of_ble_eq_true rfl) dX6_readOne_7 rfl ⟨Nat.zero_le _, Nat.zero_le _⟩) hS (fun hz_39 H locs hW hS => ?_)
    cases h
    exact g_zret hx hb hr hlocks hW hS hz_39 dX6_readOne_10
theorem c_X6_readOne (hB : Lk L) (h110 : 110 ∈ L) (h111 : 111 ∈ L) {rE rO : St → Int32 → Option (Int32 × St)} (hE : ∀ {S S9 : St} {p1 r : Int32}, rE S p1 = some (r, S9) → Met l yX6_readE (gws yX6_readE cX6_readE 4 (some .boolean)) (rmk (q0 + 2)) (va_Pc [.ref (ad 110), .int p1] (WU g A ad L S)) (qz g A ad L r S9) 0 0 A) (hO : ∀ {S S9 : St} {p1 r : Int32}, rO S p1 = some (r, S9) → Met l yX6_readOne (gws yX6_readOne cX6_readOne 3 (some .boolean)) (rmk q0) (va_Pc [.ref (ad 110), .int p1] (WU g A ad L S)) (qz g A ad L r S9) 0 0 A) {S : St} {r : Int32} {S9 : St} {p1 : Int32} (h : f_X6_readOne L N rE rO S p1 = some (r, S9)) : Met l yX6_readOne (gws yX6_readOne cX6_readOne 3 (some .boolean)) (rmk (q0 + 23)) (va_Pc [.ref (ad 110), .int p1] (WU g A ad L S)) (qz g A ad L r S9) 0 0 A :=
  g_met [.ref (ad 110), .int p1] (by decide) (Nat.le_of_ble_eq_true rfl) (fun p e s m below meth c ls C hW hl _ => t_X6_readOne C hB h110 h111 hE hO h hW va_S.rf hl)
/-! DroveRoads$Parser.readBoth -/
def f_X6_readBoth_l8 (L : List Nat) (N : Nat) (rE rO : St → Int32 → Option (Int32 × St)) (v1 : Int32) (k : St → Int32 → Option (Int32 × St)) : Nat → St → Int32 → Int32 → Option (Int32 × St)
  | 0, _, _, _ => none
  | n + 1, S, v2, v3 => if 500 ≤ v3 then (k S v2) else (if v2 = 0 then (k S v2) else (if (gv S 111 0) = 6 then (cl0 (f_X3_advance N S) fun S_9 => cl1 (f_X6_readOne L N rE rO S_9 v1) fun r_11 S_12 => if r_11 = 0 then (bn (v3 + 1) fun x_15 => f_X6_readBoth_l8 L N rE rO v1 k n S_12 0 x_15) else (cl1 (f_X6_write L S_12 6) fun r_17 S_18 => if r_17 = 0 then (bn (v3 + 1) fun x_21 => f_X6_readBoth_l8 L N rE rO v1 k n S_18 0 x_21) else (bn (v3 + 1) fun x_22 => f_X6_readBoth_l8 L N rE rO v1 k n S_18 1 x_22))) else (k S v2)))
set_option maxHeartbeats 4000000 in
theorem t_X6_readBoth_l8 (C : MC p s m args meth c cX6_readBoth 4 (some .boolean) RX6 g A) (hB : Lk L) (h110 : 110 ∈ L) (h111 : 111 ∈ L) {rE rO : St → Int32 → Option (Int32 × St)} (hE : ∀ {S S9 : St} {p1 r : Int32}, rE S p1 = some (r, S9) → Met l yX6_readE (gws yX6_readE cX6_readE 4 (some .boolean)) (rmk (q0 + 2)) (va_Pc [.ref (ad 110), .int p1] (WU g A ad L S)) (qz g A ad L r S9) 0 0 A) (hO : ∀ {S S9 : St} {p1 r : Int32}, rO S p1 = some (r, S9) → Met l yX6_readOne (gws yX6_readOne cX6_readOne 3 (some .boolean)) (rmk q0) (va_Pc [.ref (ad 110), .int p1] (WU g A ad L S)) (qz g A ad L r S9) 0 0 A) {v1 : Int32} {r : Int32} {S9 : St} {k : St → Int32 → Option (Int32 × St)} (hk : ∀ (S : St) (w2 : Int32), k S w2 = some (r, S9) → ∀ (H : Heap) (locs : List Loc) (ls : Array Slot), GW g A ad L S H → va_S A s.heap H locs → lv_has ls 4 [(2, .int w2)] → W p l e (rmk (q0 + 24)) s m args below meth c H locs 0 0 (MQ below (qz g A ad L r S9) args s 0 0 A) (F0 m 67 ls [])) : ∀ (n : Nat) (S : St) (v2 : Int32) (v3 : Int32), f_X6_readBoth_l8 L N rE rO v1 k n S v2 v3 = some (r, S9) → ∀ (H : Heap) (locs : List Loc) (ls : Array Slot), GW g A ad L S H → va_S A s.heap H locs → lv_has ls 4 [(0, .ref (ad 110)), (1, .int v1), (2, .int v2), (3, .int v3)] → W p l e (rmk (q0 + 24)) s m args below meth c H locs 0 0 (MQ below (qz g A ad L r S9) args s 0 0 A) (F0 m 8 ls []) := by
  obtain ⟨hx, hb, hml, hown, hts, hr, hlocks, hK, hN, hT⟩ := id C
  intro n
  induction n with
  | zero =>
    intro S v2 v3 h
    have h : (none : Option (Int32 × St)) = some (r, S9) := h
    cases h
  | succ n ih =>
    intro S v2 v3 h H locs ls hW hS hl
    rw [f_X6_readBoth_l8] at h
    refine lv_iload_n hx hb dX6_readBoth_8 rfl (lv_at hl 3 rfl) ?_
    refine lv_sipush (v := 500) hx hb dX6_readBoth_9 (by decide) ?_
    refine lv_icmp_ge (tgt := 67) hx hb dX6_readBoth_12 (by decide) (fun c_5 => ?_) (fun c_5 => ?_)
    · have h := it_t c_5 h
      exact hk _ _ h _ _ _ hW hS (lv_sub hl [2] rfl)
    · have h := it_f c_5 h
      refine lv_iload_n hx hb dX6_readBoth_15 rfl (lv_at hl 2 rfl) ?_
      refine lv_if_eq (tgt := 67) hx hb dX6_readBoth_16 (by decide) (fun c_6 => ?_) (fun c_6 => ?_)
      · have h := it_t c_6 h
        exact hk _ _ h _ _ _ hW hS (lv_sub hl [2] rfl)
      · have h := it_f c_6 h
        refine lv_aload_n hx hb dX6_readBoth_19 rfl (lv_at hl 0 rfl) ?_
        refine g_get (C := RX6) (T := TX6) (N := 5) (ci := 6) hx hb hts inX6 hown hK hW h110 kd_110 rfl 2 (by decide) mw_473 rfl rfl dX6_readBoth_20 ?_
        refine g_get (C := RX3) (T := TX3) (N := 6) (ci := 3) hx hb hts inX3 hown hK hW h111 kd_111 rfl 0 (by decide) mw_448 rfl rfl dX6_readBoth_23 ?_
        refine lv_bipush (v := 6) hx hb dX6_readBoth_26 (by decide) ?_
        refine lv_icmp_ne (tgt := 67) hx hb dX6_readBoth_28 (by decide) (fun c_7 => ?_) (fun c_7 => ?_)
        · have h := it_f c_7 h
          exact hk _ _ h _ _ _ hW hS (lv_sub hl [2] rfl)
        · have h := it_t c_7 h
          refine lv_aload_n hx hb dX6_readBoth_31 rfl (lv_at hl 0 rfl) ?_
          refine g_get (C := RX6) (T := TX6) (N := 5) (ci := 6) hx hb hts inX6 hown hK hW h110 kd_110 rfl 2 (by decide) mw_473 rfl rfl dX6_readBoth_32 ?_
          obtain ⟨S_9, hc_8, h⟩ := cl0_ex h
          refine g_cv (g_runV (ci := 3) (o := 111) (As := []) (rest := []) hx hb hml hown hts hK hN hT hS hW (c_X3_advance hB h111 hc_8) h111 kd_111 rfl (gw_V mw_495 mw_496 mw_497 mw_76 mw_498) hv_X3_advance rfl rfl rfl (rm_ok (by omega) (by decide)) hl.1 (Nat.le_of_ble_eq_true rfl) dX6_readBoth_35 rfl ⟨Nat.zero_le _, Nat.zero_le _⟩) hS (fun H locs hW hS => ?_)
          refine lv_aload_n hx hb dX6_readBoth_38 rfl (lv_at hl 0 rfl) ?_
          refine lv_iload_n hx hb dX6_readBoth_39 rfl (lv_at hl 1 rfl) ?_
          obtain ⟨r_11, S_12, hc_10, h⟩ := cl1_ex h
          refine g_cz (g_runV (ci := 6) (o := 110) (As := [.int v1]) (rest := []) hx hb hml hown hts hK hN hT hS hW (c_X6_readOne hB h110 h111 hE hO hc_10) h110 kd_110 rfl (gw_V mw_659 mw_661 mw_15 mw_75 mw_662) hv_X6_readOne rfl rfl rfl (rm_ok (by omega) (by decide)) hl.1 (Nat.le_of_ble_eq_true rfl) dX6_readBoth_40 rfl ⟨Nat.zero_le _, Nat.zero_le _⟩) hS (fun hz_13 H locs hW hS => ?_)
          refine lv_if_eq (tgt := 59) hx hb dX6_readBoth_43 (by decide) (fun c_14 => ?_) (fun c_14 => ?_)
          · have h := it_t c_14 h
            refine lv_iconst (v := 0) hx hb dX6_readBoth_59 (by decide) ?_
            refine lv_istore_n (lv' := [(2, .int 0), (0, .ref (ad 110)), (1, .int v1), (3, .int v3)]) hx hb dX6_readBoth_60 rfl hl (by decide) rfl (fun ls hl => ?_)
            obtain ⟨x_15, ex_15⟩ : ∃ z : Int32, z = v3 + 1 := ⟨_, rfl⟩
            have h := bn_at ex_15 h
            refine lv_iinc (v := x_15) (lv' := [(3, .int x_15), (2, .int 0), (0, .ref (ad 110)), (1, .int v1)]) hx hb dX6_readBoth_61 hl (k := 3) rfl (by rw [ex_15]; rfl) (by decide) rfl (fun ls hl => ?_)
            refine lv_goto (tgt := 8) hx hb dX6_readBoth_64 (by decide) ?_
            exact ih _ _ _ h _ _ _ hW hS (lv_sub hl [2, 3, 1, 0] rfl)
          · have h := it_f c_14 h
            refine lv_aload_n hx hb dX6_readBoth_46 rfl (lv_at hl 0 rfl) ?_
            refine lv_bipush (v := 6) hx hb dX6_readBoth_47 (by decide) ?_
            obtain ⟨r_17, S_18, hc_16, h⟩ := cl1_ex h
            refine g_cz (g_runV (ci := 6) (o := 110) (As := [.int 6]) (rest := []) hx hb hml hown hts hK hN hT hS hW (c_X6_write hB h110 h111 hc_16) h110 kd_110 rfl (gw_V mw_663 mw_665 mw_16 mw_75 mw_666) hv_X6_write rfl rfl rfl (rm_ok (by omega) (by decide)) hl.1 (Nat.le_of_ble_eq_true rfl) dX6_readBoth_49 rfl ⟨Nat.zero_le _, Nat.zero_le _⟩) hS (fun hz_19 H locs hW hS => ?_)
            refine lv_if_eq (tgt := 59) hx hb dX6_readBoth_52 (by decide) (fun c_20 => ?_) (fun c_20 => ?_)
            · have h := it_t c_20 h
              refine lv_iconst (v := 0) hx hb dX6_readBoth_59 (by decide) ?_
              refine lv_istore_n (lv' := [(2, .int 0), (0, .ref (ad 110)), (1, .int v1), (3, .int v3)]) hx hb dX6_readBoth_60 rfl hl (by decide) rfl (fun ls hl => ?_)
              obtain ⟨x_21, ex_21⟩ : ∃ z : Int32, z = v3 + 1 := ⟨_, rfl⟩
              have h := bn_at ex_21 h
              refine lv_iinc (v := x_21) (lv' := [(3, .int x_21), (2, .int 0), (0, .ref (ad 110)), (1, .int v1)]) hx hb dX6_readBoth_61 hl (k := 3) rfl (by rw [ex_21]; rfl) (by decide) rfl (fun ls hl => ?_)
              refine lv_goto (tgt := 8) hx hb dX6_readBoth_64 (by decide) ?_
              exact ih _ _ _ h _ _ _ hW hS (lv_sub hl [2, 3, 1, 0] rfl)
            · have h := it_f c_20 h
              refine lv_iconst (v := 1) hx hb dX6_readBoth_55 (by decide) ?_
              refine lv_goto (tgt := 60) hx hb dX6_readBoth_56 (by decide) ?_
              refine lv_istore_n (lv' := [(2, .int 1), (0, .ref (ad 110)), (1, .int v1), (3, .int v3)]) hx hb dX6_readBoth_60 rfl hl (by decide) rfl (fun ls hl => ?_)
              obtain ⟨x_22, ex_22⟩ : ∃ z : Int32, z = v3 + 1 := ⟨_, rfl⟩
              have h := bn_at ex_22 h
              refine lv_iinc (v := x_22) (lv' := [(3, .int x_22), (2, .int 1), (0, .ref (ad 110)), (1, .int v1)]) hx hb dX6_readBoth_61 hl (k := 3) rfl (by rw [ex_22]; rfl) (by decide) rfl (fun ls hl => ?_)
              refine lv_goto (tgt := 8) hx hb dX6_readBoth_64 (by decide) ?_
              exact ih _ _ _ h _ _ _ hW hS (lv_sub hl [2, 3, 1, 0] rfl)
def f_X6_readBoth (L : List Nat) (N : Nat) (rE rO : St → Int32 → Option (Int32 × St)) (S : St) (p1 : Int32) : Option (Int32 × St) := cl1 (f_X6_readOne L N rE rO S p1) fun r_2 S_3 => f_X6_readBoth_l8 L N rE rO p1 (fun S_23 x_24 => if x_24 = 0 ∨ x_24 = 1 then (some (x_24, S_23)) else none) N S_3 r_2 0
set_option maxHeartbeats 4000000 in
theorem t_X6_readBoth (C : MC p s m args meth c cX6_readBoth 4 (some .boolean) RX6 g A) (hB : Lk L) (h110 : 110 ∈ L) (h111 : 111 ∈ L) {rE rO : St → Int32 → Option (Int32 × St)} (hE : ∀ {S S9 : St} {p1 r : Int32}, rE S p1 = some (r, S9) → Met l yX6_readE (gws yX6_readE cX6_readE 4 (some .boolean)) (rmk (q0 + 2)) (va_Pc [.ref (ad 110), .int p1] (WU g A ad L S)) (qz g A ad L r S9) 0 0 A) (hO : ∀ {S S9 : St} {p1 r : Int32}, rO S p1 = some (r, S9) → Met l yX6_readOne (gws yX6_readOne cX6_readOne 3 (some .boolean)) (rmk q0) (va_Pc [.ref (ad 110), .int p1] (WU g A ad L S)) (qz g A ad L r S9) 0 0 A) {S : St} {r : Int32} {S9 : St} {p1 : Int32} (h : f_X6_readBoth L N rE rO S p1 = some (r, S9)) {H : Heap} {locs : List Loc} {ls : Array Slot} (hW : GW g A ad L S H) (hS : va_S A s.heap H locs) (hl : lv_has ls 4 [(0, .ref (ad 110)), (1, .int p1)]) : W p l e (rmk (q0 + 24)) s m args below meth c H locs 0 0 (MQ below (qz g A ad L r S9) args s 0 0 A) (F0 m 0 ls []) := by
  obtain ⟨hx, hb, hml, hown, hts, hr, hlocks, hK, hN, hT⟩ := id C
  unfold f_X6_readBoth at h
  refine lv_aload_n hx hb dX6_readBoth_0 rfl (lv_at hl 0 rfl) ?_
  refine lv_iload_n hx hb dX6_readBoth_1 rfl (lv_at hl 1 rfl) ?_
  obtain ⟨r_2, S_3, hc_1, h⟩ := cl1_ex h
  refine g_cz (g_runV (ci := 6) (o := 110) (As := [.int p1]) (rest := []) hx hb hml hown hts hK hN hT hS hW (c_X6_readOne hB h110 h111 hE hO hc_1) h110 kd_110 rfl (gw_V mw_659 mw_661 mw_15 mw_75 mw_662) hv_X6_readOne rfl rfl rfl (rm_ok (by omega) (by decide)) hl.1 (Nat.le_of_ble_eq_true rfl) dX6_readBoth_2 rfl ⟨Nat.zero_le _, Nat.zero_le _⟩) hS (fun hz_4 H locs hW hS => ?_)
  refine lv_istore_n (lv' := [(2, .int r_2), (0, .ref (ad 110)), (1, .int p1)]) hx hb dX6_readBoth_5 rfl hl (by decide) rfl (fun ls hl => ?_)
  refine lv_iconst (v := 0) hx hb dX6_readBoth_6 (by decide) ?_
  refine lv_istore_n (lv' := [(3, .int 0), (2, .int r_2), (0, .ref (ad 110)), (1, .int p1)]) hx hb dX6_readBoth_7 rfl hl (by decide) rfl (fun ls hl => ?_)
  refine t_X6_readBoth_l8 C hB h110 h111 hE hO ?_ _ _ _ _ h _ _ _ hW hS (lv_sub hl [2, 3, 1, 0] rfl)
  intro S_23 x_24 h H locs ls hW hS hl
  refine lv_iload_n hx hb dX6_readBoth_67 rfl (lv_at hl 0 rfl) ?_
  obtain ⟨hz_25, h⟩ := ck_t h
  cases h
  exact g_zret hx hb hr hlocks hW hS (bz_of hz_25) dX6_readBoth_68
theorem c_X6_readBoth (hB : Lk L) (h110 : 110 ∈ L) (h111 : 111 ∈ L) {rE rO : St → Int32 → Option (Int32 × St)} (hE : ∀ {S S9 : St} {p1 r : Int32}, rE S p1 = some (r, S9) → Met l yX6_readE (gws yX6_readE cX6_readE 4 (some .boolean)) (rmk (q0 + 2)) (va_Pc [.ref (ad 110), .int p1] (WU g A ad L S)) (qz g A ad L r S9) 0 0 A) (hO : ∀ {S S9 : St} {p1 r : Int32}, rO S p1 = some (r, S9) → Met l yX6_readOne (gws yX6_readOne cX6_readOne 3 (some .boolean)) (rmk q0) (va_Pc [.ref (ad 110), .int p1] (WU g A ad L S)) (qz g A ad L r S9) 0 0 A) {S : St} {r : Int32} {S9 : St} {p1 : Int32} (h : f_X6_readBoth L N rE rO S p1 = some (r, S9)) : Met l yX6_readBoth (gws yX6_readBoth cX6_readBoth 4 (some .boolean)) (rmk (q0 + 24)) (va_Pc [.ref (ad 110), .int p1] (WU g A ad L S)) (qz g A ad L r S9) 0 0 A :=
  g_met [.ref (ad 110), .int p1] (by decide) (Nat.le_of_ble_eq_true rfl) (fun p e s m below meth c ls C hW hl _ => t_X6_readBoth C hB h110 h111 hE hO h hW va_S.rf hl)
theorem hv_X6_readBoth : yX6_readBoth.cls = RX6 ∧ yX6_readBoth.cls ≠ "java/lang/invoke/MethodHandle" ∧ yX6_readBoth.cls ≠ "java/lang/invoke/VarHandle" ∧ (parseMethodDescriptor yX6_readBoth.desc).map (fun d => d.parameters.length) = some 1 := by decide +kernel
/-! DroveRoads$Parser.readE -/
def f_X6_readE_l8 (L : List Nat) (N : Nat) (rE rO : St → Int32 → Option (Int32 × St)) (v1 : Int32) (k : St → Int32 → Option (Int32 × St)) : Nat → St → Int32 → Int32 → Option (Int32 × St)
  | 0, _, _, _ => none
  | n + 1, S, v2, v3 => if 500 ≤ v3 then (k S v2) else (if v2 = 0 then (k S v2) else (if (gv S 111 0) = 5 then (cl0 (f_X3_advance N S) fun S_9 => cl1 (f_X6_readBoth L N rE rO S_9 v1) fun r_11 S_12 => if r_11 = 0 then (bn (v3 + 1) fun x_15 => f_X6_readE_l8 L N rE rO v1 k n S_12 0 x_15) else (cl1 (f_X6_write L S_12 5) fun r_17 S_18 => if r_17 = 0 then (bn (v3 + 1) fun x_21 => f_X6_readE_l8 L N rE rO v1 k n S_18 0 x_21) else (bn (v3 + 1) fun x_22 => f_X6_readE_l8 L N rE rO v1 k n S_18 1 x_22))) else (k S v2)))
set_option maxHeartbeats 4000000 in
theorem t_X6_readE_l8 (C : MC p s m args meth c cX6_readE 4 (some .boolean) RX6 g A) (hB : Lk L) (h110 : 110 ∈ L) (h111 : 111 ∈ L) {rE rO : St → Int32 → Option (Int32 × St)} (hE : ∀ {S S9 : St} {p1 r : Int32}, rE S p1 = some (r, S9) → Met l yX6_readE (gws yX6_readE cX6_readE 4 (some .boolean)) (rmk (q0 + 2)) (va_Pc [.ref (ad 110), .int p1] (WU g A ad L S)) (qz g A ad L r S9) 0 0 A) (hO : ∀ {S S9 : St} {p1 r : Int32}, rO S p1 = some (r, S9) → Met l yX6_readOne (gws yX6_readOne cX6_readOne 3 (some .boolean)) (rmk q0) (va_Pc [.ref (ad 110), .int p1] (WU g A ad L S)) (qz g A ad L r S9) 0 0 A) {v1 : Int32} {r : Int32} {S9 : St} {k : St → Int32 → Option (Int32 × St)} (hk : ∀ (S : St) (w2 : Int32), k S w2 = some (r, S9) → ∀ (H : Heap) (locs : List Loc) (ls : Array Slot), GW g A ad L S H → va_S A s.heap H locs → lv_has ls 4 [(2, .int w2)] → W p l e (rmk (q0 + 25)) s m args below meth c H locs 0 0 (MQ below (qz g A ad L r S9) args s 0 0 A) (F0 m 65 ls [])) : ∀ (n : Nat) (S : St) (v2 : Int32) (v3 : Int32), f_X6_readE_l8 L N rE rO v1 k n S v2 v3 = some (r, S9) → ∀ (H : Heap) (locs : List Loc) (ls : Array Slot), GW g A ad L S H → va_S A s.heap H locs → lv_has ls 4 [(0, .ref (ad 110)), (1, .int v1), (2, .int v2), (3, .int v3)] → W p l e (rmk (q0 + 25)) s m args below meth c H locs 0 0 (MQ below (qz g A ad L r S9) args s 0 0 A) (F0 m 8 ls []) := by
  obtain ⟨hx, hb, hml, hown, hts, hr, hlocks, hK, hN, hT⟩ := id C
  intro n
  induction n with
  | zero =>
    intro S v2 v3 h
    have h : (none : Option (Int32 × St)) = some (r, S9) := h
    cases h
  | succ n ih =>
    intro S v2 v3 h H locs ls hW hS hl
    rw [f_X6_readE_l8] at h
    refine lv_iload_n hx hb dX6_readE_8 rfl (lv_at hl 3 rfl) ?_
    refine lv_sipush (v := 500) hx hb dX6_readE_9 (by decide) ?_
    refine lv_icmp_ge (tgt := 65) hx hb dX6_readE_12 (by decide) (fun c_5 => ?_) (fun c_5 => ?_)
    · have h := it_t c_5 h
      exact hk _ _ h _ _ _ hW hS (lv_sub hl [2] rfl)
    · have h := it_f c_5 h
      refine lv_iload_n hx hb dX6_readE_15 rfl (lv_at hl 2 rfl) ?_
      refine lv_if_eq (tgt := 65) hx hb dX6_readE_16 (by decide) (fun c_6 => ?_) (fun c_6 => ?_)
      · have h := it_t c_6 h
        exact hk _ _ h _ _ _ hW hS (lv_sub hl [2] rfl)
      · have h := it_f c_6 h
        refine lv_aload_n hx hb dX6_readE_19 rfl (lv_at hl 0 rfl) ?_
        refine g_get (C := RX6) (T := TX6) (N := 5) (ci := 6) hx hb hts inX6 hown hK hW h110 kd_110 rfl 2 (by decide) mw_473 rfl rfl dX6_readE_20 ?_
        refine g_get (C := RX3) (T := TX3) (N := 6) (ci := 3) hx hb hts inX3 hown hK hW h111 kd_111 rfl 0 (by decide) mw_448 rfl rfl dX6_readE_23 ?_
        refine lv_iconst (v := 5) hx hb dX6_readE_26 (by decide) ?_
        refine lv_icmp_ne (tgt := 65) hx hb dX6_readE_27 (by decide) (fun c_7 => ?_) (fun c_7 => ?_)
        · have h := it_f c_7 h
          exact hk _ _ h _ _ _ hW hS (lv_sub hl [2] rfl)
        · have h := it_t c_7 h
          refine lv_aload_n hx hb dX6_readE_30 rfl (lv_at hl 0 rfl) ?_
          refine g_get (C := RX6) (T := TX6) (N := 5) (ci := 6) hx hb hts inX6 hown hK hW h110 kd_110 rfl 2 (by decide) mw_473 rfl rfl dX6_readE_31 ?_
          obtain ⟨S_9, hc_8, h⟩ := cl0_ex h
          refine g_cv (g_runV (ci := 3) (o := 111) (As := []) (rest := []) hx hb hml hown hts hK hN hT hS hW (c_X3_advance hB h111 hc_8) h111 kd_111 rfl (gw_V mw_495 mw_496 mw_497 mw_76 mw_498) hv_X3_advance rfl rfl rfl (rm_ok (by omega) (by decide)) hl.1 (Nat.le_of_ble_eq_true rfl) dX6_readE_34 rfl ⟨Nat.zero_le _, Nat.zero_le _⟩) hS (fun H locs hW hS => ?_)
          refine lv_aload_n hx hb dX6_readE_37 rfl (lv_at hl 0 rfl) ?_
          refine lv_iload_n hx hb dX6_readE_38 rfl (lv_at hl 1 rfl) ?_
          obtain ⟨r_11, S_12, hc_10, h⟩ := cl1_ex h
          refine g_cz (g_runV (ci := 6) (o := 110) (As := [.int v1]) (rest := []) hx hb hml hown hts hK hN hT hS hW (c_X6_readBoth hB h110 h111 hE hO hc_10) h110 kd_110 rfl (gw_V mw_655 mw_657 mw_14 mw_75 mw_658) hv_X6_readBoth rfl rfl rfl (rm_ok (by omega) (by decide)) hl.1 (Nat.le_of_ble_eq_true rfl) dX6_readE_39 rfl ⟨Nat.zero_le _, Nat.zero_le _⟩) hS (fun hz_13 H locs hW hS => ?_)
          refine lv_if_eq (tgt := 57) hx hb dX6_readE_42 (by decide) (fun c_14 => ?_) (fun c_14 => ?_)
          · have h := it_t c_14 h
            refine lv_iconst (v := 0) hx hb dX6_readE_57 (by decide) ?_
            refine lv_istore_n (lv' := [(2, .int 0), (0, .ref (ad 110)), (1, .int v1), (3, .int v3)]) hx hb dX6_readE_58 rfl hl (by decide) rfl (fun ls hl => ?_)
            obtain ⟨x_15, ex_15⟩ : ∃ z : Int32, z = v3 + 1 := ⟨_, rfl⟩
            have h := bn_at ex_15 h
            refine lv_iinc (v := x_15) (lv' := [(3, .int x_15), (2, .int 0), (0, .ref (ad 110)), (1, .int v1)]) hx hb dX6_readE_59 hl (k := 3) rfl (by rw [ex_15]; rfl) (by decide) rfl (fun ls hl => ?_)
            refine lv_goto (tgt := 8) hx hb dX6_readE_62 (by decide) ?_
            exact ih _ _ _ h _ _ _ hW hS (lv_sub hl [2, 3, 1, 0] rfl)
          · have h := it_f c_14 h
            refine lv_aload_n hx hb dX6_readE_45 rfl (lv_at hl 0 rfl) ?_
            refine lv_iconst (v := 5) hx hb dX6_readE_46 (by decide) ?_
            obtain ⟨r_17, S_18, hc_16, h⟩ := cl1_ex h
            refine g_cz (g_runV (ci := 6) (o := 110) (As := [.int 5]) (rest := []) hx hb hml hown hts hK hN hT hS hW (c_X6_write hB h110 h111 hc_16) h110 kd_110 rfl (gw_V mw_663 mw_665 mw_16 mw_75 mw_666) hv_X6_write rfl rfl rfl (rm_ok (by omega) (by decide)) hl.1 (Nat.le_of_ble_eq_true rfl) dX6_readE_47 rfl ⟨Nat.zero_le _, Nat.zero_le _⟩) hS (fun hz_19 H locs hW hS => ?_)
            refine lv_if_eq (tgt := 57) hx hb dX6_readE_50 (by decide) (fun c_20 => ?_) (fun c_20 => ?_)
            · have h := it_t c_20 h
              refine lv_iconst (v := 0) hx hb dX6_readE_57 (by decide) ?_
              refine lv_istore_n (lv' := [(2, .int 0), (0, .ref (ad 110)), (1, .int v1), (3, .int v3)]) hx hb dX6_readE_58 rfl hl (by decide) rfl (fun ls hl => ?_)
              obtain ⟨x_21, ex_21⟩ : ∃ z : Int32, z = v3 + 1 := ⟨_, rfl⟩
              have h := bn_at ex_21 h
              refine lv_iinc (v := x_21) (lv' := [(3, .int x_21), (2, .int 0), (0, .ref (ad 110)), (1, .int v1)]) hx hb dX6_readE_59 hl (k := 3) rfl (by rw [ex_21]; rfl) (by decide) rfl (fun ls hl => ?_)
              refine lv_goto (tgt := 8) hx hb dX6_readE_62 (by decide) ?_
              exact ih _ _ _ h _ _ _ hW hS (lv_sub hl [2, 3, 1, 0] rfl)
            · have h := it_f c_20 h
              refine lv_iconst (v := 1) hx hb dX6_readE_53 (by decide) ?_
              refine lv_goto (tgt := 58) hx hb dX6_readE_54 (by decide) ?_
              refine lv_istore_n (lv' := [(2, .int 1), (0, .ref (ad 110)), (1, .int v1), (3, .int v3)]) hx hb dX6_readE_58 rfl hl (by decide) rfl (fun ls hl => ?_)
              obtain ⟨x_22, ex_22⟩ : ∃ z : Int32, z = v3 + 1 := ⟨_, rfl⟩
              have h := bn_at ex_22 h
              refine lv_iinc (v := x_22) (lv' := [(3, .int x_22), (2, .int 1), (0, .ref (ad 110)), (1, .int v1)]) hx hb dX6_readE_59 hl (k := 3) rfl (by rw [ex_22]; rfl) (by decide) rfl (fun ls hl => ?_)
              refine lv_goto (tgt := 8) hx hb dX6_readE_62 (by decide) ?_
              exact ih _ _ _ h _ _ _ hW hS (lv_sub hl [2, 3, 1, 0] rfl)
def f_X6_readE (L : List Nat) (N : Nat) (rE rO : St → Int32 → Option (Int32 × St)) (S : St) (p1 : Int32) : Option (Int32 × St) := cl1 (f_X6_readBoth L N rE rO S p1) fun r_2 S_3 => f_X6_readE_l8 L N rE rO p1 (fun S_23 x_24 => if x_24 = 0 ∨ x_24 = 1 then (some (x_24, S_23)) else none) N S_3 r_2 0
set_option maxHeartbeats 4000000 in
theorem t_X6_readE (C : MC p s m args meth c cX6_readE 4 (some .boolean) RX6 g A) (hB : Lk L) (h110 : 110 ∈ L) (h111 : 111 ∈ L) {rE rO : St → Int32 → Option (Int32 × St)} (hE : ∀ {S S9 : St} {p1 r : Int32}, rE S p1 = some (r, S9) → Met l yX6_readE (gws yX6_readE cX6_readE 4 (some .boolean)) (rmk (q0 + 2)) (va_Pc [.ref (ad 110), .int p1] (WU g A ad L S)) (qz g A ad L r S9) 0 0 A) (hO : ∀ {S S9 : St} {p1 r : Int32}, rO S p1 = some (r, S9) → Met l yX6_readOne (gws yX6_readOne cX6_readOne 3 (some .boolean)) (rmk q0) (va_Pc [.ref (ad 110), .int p1] (WU g A ad L S)) (qz g A ad L r S9) 0 0 A) {S : St} {r : Int32} {S9 : St} {p1 : Int32} (h : f_X6_readE L N rE rO S p1 = some (r, S9)) {H : Heap} {locs : List Loc} {ls : Array Slot} (hW : GW g A ad L S H) (hS : va_S A s.heap H locs) (hl : lv_has ls 4 [(0, .ref (ad 110)), (1, .int p1)]) : W p l e (rmk (q0 + 25)) s m args below meth c H locs 0 0 (MQ below (qz g A ad L r S9) args s 0 0 A) (F0 m 0 ls []) := by
  obtain ⟨hx, hb, hml, hown, hts, hr, hlocks, hK, hN, hT⟩ := id C
  unfold f_X6_readE at h
  refine lv_aload_n hx hb dX6_readE_0 rfl (lv_at hl 0 rfl) ?_
  refine lv_iload_n hx hb dX6_readE_1 rfl (lv_at hl 1 rfl) ?_
  obtain ⟨r_2, S_3, hc_1, h⟩ := cl1_ex h
  refine g_cz (g_runV (ci := 6) (o := 110) (As := [.int p1]) (rest := []) hx hb hml hown hts hK hN hT hS hW (c_X6_readBoth hB h110 h111 hE hO hc_1) h110 kd_110 rfl (gw_V mw_655 mw_657 mw_14 mw_75 mw_658) hv_X6_readBoth rfl rfl rfl (rm_ok (by omega) (by decide)) hl.1 (Nat.le_of_ble_eq_true rfl) dX6_readE_2 rfl ⟨Nat.zero_le _, Nat.zero_le _⟩) hS (fun hz_4 H locs hW hS => ?_)
  refine lv_istore_n (lv' := [(2, .int r_2), (0, .ref (ad 110)), (1, .int p1)]) hx hb dX6_readE_5 rfl hl (by decide) rfl (fun ls hl => ?_)
  refine lv_iconst (v := 0) hx hb dX6_readE_6 (by decide) ?_
  refine lv_istore_n (lv' := [(3, .int 0), (2, .int r_2), (0, .ref (ad 110)), (1, .int p1)]) hx hb dX6_readE_7 rfl hl (by decide) rfl (fun ls hl => ?_)
  refine t_X6_readE_l8 C hB h110 h111 hE hO ?_ _ _ _ _ h _ _ _ hW hS (lv_sub hl [2, 3, 1, 0] rfl)
  intro S_23 x_24 h H locs ls hW hS hl
  refine lv_iload_n hx hb dX6_readE_65 rfl (lv_at hl 0 rfl) ?_
  obtain ⟨hz_25, h⟩ := ck_t h
  cases h
  exact g_zret hx hb hr hlocks hW hS (bz_of hz_25) dX6_readE_66
theorem c_X6_readE (hB : Lk L) (h110 : 110 ∈ L) (h111 : 111 ∈ L) {rE rO : St → Int32 → Option (Int32 × St)} (hE : ∀ {S S9 : St} {p1 r : Int32}, rE S p1 = some (r, S9) → Met l yX6_readE (gws yX6_readE cX6_readE 4 (some .boolean)) (rmk (q0 + 2)) (va_Pc [.ref (ad 110), .int p1] (WU g A ad L S)) (qz g A ad L r S9) 0 0 A) (hO : ∀ {S S9 : St} {p1 r : Int32}, rO S p1 = some (r, S9) → Met l yX6_readOne (gws yX6_readOne cX6_readOne 3 (some .boolean)) (rmk q0) (va_Pc [.ref (ad 110), .int p1] (WU g A ad L S)) (qz g A ad L r S9) 0 0 A) {S : St} {r : Int32} {S9 : St} {p1 : Int32} (h : f_X6_readE L N rE rO S p1 = some (r, S9)) : Met l yX6_readE (gws yX6_readE cX6_readE 4 (some .boolean)) (rmk (q0 + 25)) (va_Pc [.ref (ad 110), .int p1] (WU g A ad L S)) (qz g A ad L r S9) 0 0 A :=
  g_met [.ref (ad 110), .int p1] (by decide) (Nat.le_of_ble_eq_true rfl) (fun p e s m below meth c ls C hW hl _ => t_X6_readE C hB h110 h111 hE hO h hW va_S.rf hl)
/-- the recursion, by its depth -/
def lev (L : List Nat) (N : Nat) : Nat → (St → Int32 → Option (Int32 × St)) × (St → Int32 → Option (Int32 × St))
  | 0 => (fun _ _ => none, fun _ _ => none)
  | d + 1 => (f_X6_readE L N (lev L N d).1 (lev L N d).2, f_X6_readOne L N (lev L N d).1 (lev L N d).2)
theorem lev_ok (hB : Lk L) (h110 : 110 ∈ L) (h111 : 111 ∈ L) : ∀ d : Nat, (∀ {S S9 : St} {p1 r : Int32}, (lev L N d).1 S p1 = some (r, S9) → Met l yX6_readE (gws yX6_readE cX6_readE 4 (some .boolean)) (rmk (23 * d + 2)) (va_Pc [.ref (ad 110), .int p1] (WU g A ad L S)) (qz g A ad L r S9) 0 0 A) ∧ (∀ {S S9 : St} {p1 r : Int32}, (lev L N d).2 S p1 = some (r, S9) → Met l yX6_readOne (gws yX6_readOne cX6_readOne 3 (some .boolean)) (rmk (23 * d)) (va_Pc [.ref (ad 110), .int p1] (WU g A ad L S)) (qz g A ad L r S9) 0 0 A) := by
  intro d
  induction d with
  | zero => exact ⟨fun h => (by cases h), fun h => (by cases h)⟩
  | succ d ih => exact ⟨fun h => c_X6_readE hB h110 h111 ih.1 ih.2 h, fun h => c_X6_readOne hB h110 h111 ih.1 ih.2 h⟩

end S32
