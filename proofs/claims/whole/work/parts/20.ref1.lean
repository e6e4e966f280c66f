section S20
variable {p : Program} {l : Launch} {e : Env} {s : State} {m : MethodId} {args : Array Value} {below : List Frame} {meth : Method} {c : Code} {A : Nat → Prop} {g : Cx} {ad : Nat → Nat} {L : List Nat} {N : Nat} {q0 : Nat}
/-! DroveRoadsModel.areMiles -/
def f_X11_areMiles (S : St) (p1 : Int32) : Option (Int32) := if p1 < 1 then (some 0) else (if 30 < p1 then (some 0) else (some 1))
set_option maxHeartbeats 4000000 in
theorem t_X11_areMiles (C : MC p s m args meth c cX11_areMiles 1 (some .boolean) RX11 g A) (hB : Lk L) {S : St} {r : Int32} {p1 : Int32} (h : f_X11_areMiles S p1 = some r) {H : Heap} {locs : List Loc} {ls : Array Slot} (hW : GW g A ad L S H) (hS : va_S A s.heap H locs) (hl : lv_has ls 1 [(0, .int p1)]) : W p l e (rmk 1) s m args below meth c H locs 0 0 (MQ below (qz g A ad L r S) args s 0 0 A) (F0 m 0 ls []) := by
  obtain ⟨hx, hb, hml, hown, hts, hr, hlocks, hK, hN, hT⟩ := id C
  unfold f_X11_areMiles at h
  refine lv_iload_n hx hb dX11_areMiles_0 rfl (lv_at hl 0 rfl) ?_
  refine lv_iconst (v := 1) hx hb dX11_areMiles_1 (by decide) ?_
  refine lv_icmp_lt (tgt := 15) hx hb dX11_areMiles_2 (by decide) (fun c_1 => ?_) (fun c_1 => ?_)
  · have h := it_t c_1 h
    refine lv_iconst (v := 0) hx hb dX11_areMiles_15 (by decide) ?_
    cases h
    exact g_zret hx hb hr hlocks hW hS (rfl) dX11_areMiles_16
  · have h := it_f c_1 h
    refine lv_iload_n hx hb dX11_areMiles_5 rfl (lv_at hl 0 rfl) ?_
    refine lv_bipush (v := 30) hx hb dX11_areMiles_6 (by decide) ?_
    refine lv_icmp_gt (tgt := 15) hx hb dX11_areMiles_8 (by decide) (fun c_2 => ?_) (fun c_2 => ?_)
    · have h := it_t c_2 h
      refine lv_iconst (v := 0) hx hb dX11_areMiles_15 (by decide) ?_
      cases h
      exact g_zret hx hb hr hlocks hW hS (rfl) dX11_areMiles_16
    · have h := it_f c_2 h
      refine lv_iconst (v := 1) hx hb dX11_areMiles_11 (by decide) ?_
      refine lv_goto (tgt := 16) hx hb dX11_areMiles_12 (by decide) ?_
      cases h
      exact g_zret hx hb hr hlocks hW hS (rfl) dX11_areMiles_16
theorem c_X11_areMiles (hB : Lk L) {S : St} {r : Int32} {p1 : Int32} (h : f_X11_areMiles S p1 = some r) : Met l yX11_areMiles (gws yX11_areMiles cX11_areMiles 1 (some .boolean)) (rmk 1) (va_Pc [.int p1] (WU g A ad L S)) (qz g A ad L r S) 0 0 A :=
  g_met [.int p1] (by decide) (Nat.le_of_ble_eq_true rfl) (fun p e s m below meth c ls C hW hl _ => t_X11_areMiles C hB h hW va_S.rf hl)
theorem hs_X11_areMiles : yX11_areMiles.cls ≠ "java/lang/invoke/MethodHandle" ∧ yX11_areMiles.cls ≠ "java/lang/invoke/VarHandle" ∧ (parseMethodDescriptor yX11_areMiles.desc).map (fun d => d.parameters.length) = some 1 := by decide +kernel
/-! DroveRoadsModel.stance -/
def f_X11_stance (S : St) (p1 : Int32) : Option (Int32 × St) := if (gv S 200 1) = 10 then (some ((-1), S)) else (if 0 < (gv S 200 10) then (some ((-1), S)) else (cl0 (f_X11_areMiles S p1) fun r_4 => if r_4 = 0 then (some ((-1), S)) else (if ((gv S 200 1) - 1) < 0 ∨ 10 ≤ ix ((gv S 200 1) - 1) then none else bn (sv S 203 (ix ((gv S 200 1) - 1)) p1) fun S_8 => bn (sv S_8 200 1 ((gv S_8 200 1) + 1)) fun S_9 => some (((gv S_9 200 1) - 1), S_9))))
set_option maxHeartbeats 4000000 in
theorem t_X11_stance (C : MC p s m args meth c cX11_stance 2 (some .int) RX11 g A) (hB : Lk L) {S : St} {r : Int32} {S9 : St} {p1 : Int32} (h : f_X11_stance S p1 = some (r, S9)) {H : Heap} {locs : List Loc} {ls : Array Slot} (hW : GW g A ad L S H) (hS : va_S A s.heap H locs) (hl : lv_has ls 2 [(0, .ref (ad 200)), (1, .int p1)]) : W p l e (rmk 2) s m args below meth c H locs 0 0 (MQ below (qi g A ad L r S9) args s 0 0 A) (F0 m 0 ls []) := by
  obtain ⟨hx, hb, hml, hown, hts, hr, hlocks, hK, hN, hT⟩ := id C
  unfold f_X11_stance at h
  refine lv_aload_n hx hb dX11_stance_0 rfl (lv_at hl 0 rfl) ?_
  refine g_get (C := RX11) (T := TX11) (N := 67) (ci := 11) hx hb hts inX11 hown hK hW (hB 200 bb_200) kd_200 rfl 1 (by decide) mw_962 rfl rfl dX11_stance_1 ?_
  refine lv_bipush (v := 10) hx hb dX11_stance_4 (by decide) ?_
  refine lv_icmp_eq (tgt := 23) hx hb dX11_stance_6 (by decide) (fun c_1 => ?_) (fun c_1 => ?_)
  · have h := it_t c_1 h
    refine lv_iconst (v := (-1)) hx hb dX11_stance_23 (by decide) ?_
    cases h
    exact g_iret hx hb hr hlocks hW hS dX11_stance_24
  · have h := it_f c_1 h
    refine lv_aload_n hx hb dX11_stance_9 rfl (lv_at hl 0 rfl) ?_
    refine g_get (C := RX11) (T := TX11) (N := 67) (ci := 11) hx hb hts inX11 hown hK hW (hB 200 bb_200) kd_200 rfl 10 (by decide) mw_971 rfl rfl dX11_stance_10 ?_
    refine lv_if_gt (tgt := 23) hx hb dX11_stance_13 (by decide) (fun c_2 => ?_) (fun c_2 => ?_)
    · have h := it_t c_2 h
      refine lv_iconst (v := (-1)) hx hb dX11_stance_23 (by decide) ?_
      cases h
      exact g_iret hx hb hr hlocks hW hS dX11_stance_24
    · have h := it_f c_2 h
      refine lv_iload_n hx hb dX11_stance_16 rfl (lv_at hl 1 rfl) ?_
      obtain ⟨r_4, hc_3, h⟩ := cl0_ex h
      refine g_cz (g_runS (As := [.int p1]) (rest := []) hx hb hml hown hts hK hN hT hS hW (c_X11_areMiles hB hc_3) (gw_S mw_1168 mw_1169 mw_73 mw_1170) hs_X11_areMiles rfl rfl rfl (rm_ok (by decide) (by decide)) hl.1 (Nat.le_of_ble_eq_true rfl) dX11_stance_17 rfl ⟨Nat.zero_le _, Nat.zero_le _⟩) hS (fun hz_5 H locs hW hS => ?_)
      refine lv_if_ne (tgt := 25) hx hb dX11_stance_20 (by decide) (fun c_6 => ?_) (fun c_6 => ?_)
      · have h := it_f c_6 h
        refine lv_aload_n hx hb dX11_stance_25 rfl (lv_at hl 0 rfl) ?_
        refine g_get (C := RX11) (T := TX11) (N := 67) (ci := 11) hx hb hts inX11 hown hK hW (hB 200 bb_200) kd_200 rfl 2 (by decide) mw_963 rfl rfl dX11_stance_26 ?_
        refine lv_aload_n hx hb dX11_stance_29 rfl (lv_at hl 0 rfl) ?_
        refine g_get (C := RX11) (T := TX11) (N := 67) (ci := 11) hx hb hts inX11 hown hK hW (hB 200 bb_200) kd_200 rfl 1 (by decide) mw_962 rfl rfl dX11_stance_30 ?_
        refine lv_iconst (v := 1) hx hb dX11_stance_33 (by decide) ?_
        refine lv_isub hx hb dX11_stance_34 ?_
        refine lv_iload_n hx hb dX11_stance_35 rfl (lv_at hl 1 rfl) ?_
        obtain ⟨hi_7, h⟩ := ck_n h
        refine g_iast hx hb hK hW hS (hB 203 bb_203) (fun _ => kd_203) hi_7 dX11_stance_36 (fun S_8 eS_8 H locs hW hS => ?_)
        have h := bn_at eS_8 h
        refine lv_aload_n hx hb dX11_stance_37 rfl (lv_at hl 0 rfl) ?_
        refine lv_dup hx hb dX11_stance_38 rfl ?_
        refine g_get (C := RX11) (T := TX11) (N := 67) (ci := 11) hx hb hts inX11 hown hK hW (hB 200 bb_200) kd_200 rfl 1 (by decide) mw_962 rfl rfl dX11_stance_39 ?_
        refine lv_iconst (v := 1) hx hb dX11_stance_42 (by decide) ?_
        refine lv_iadd hx hb dX11_stance_43 ?_
        refine g_put (C := RX11) (T := TX11) (N := 67) (ci := 11) hx hb hts inX11 tyX11 tyX11_ok nmX11 hown hK hW hS (hB 200 bb_200) kd_200 rfl 1 (by decide) mw_962 rfl rfl rfl rfl (Nat.le_of_ble_eq_true rfl) (sv S_8 200 1 ((gv S_8 200 1) + 1)) (ps_200_1) cellOf_sv dX11_stance_44 (fun S_9 eS_9 H locs hW hS => ?_)
        have h := bn_at eS_9 h
        refine lv_aload_n hx hb dX11_stance_47 rfl (lv_at hl 0 rfl) ?_
        refine g_get (C := RX11) (T := TX11) (N := 67) (ci := 11) hx hb hts inX11 hown hK hW (hB 200 bb_200) kd_200 rfl 1 (by decide) mw_962 rfl rfl dX11_stance_48 ?_
        refine lv_iconst (v := 1) hx hb dX11_stance_51 (by decide) ?_
        refine lv_isub hx hb dX11_stance_52 ?_
        cases h
        exact g_iret hx hb hr hlocks hW hS dX11_stance_53
      · have h := it_t c_6 h
        refine lv_iconst (v := (-1)) hx hb dX11_stance_23 (by decide) ?_
        cases h
        exact g_iret hx hb hr hlocks hW hS dX11_stance_24
theorem c_X11_stance (hB : Lk L) {S : St} {r : Int32} {S9 : St} {p1 : Int32} (h : f_X11_stance S p1 = some (r, S9)) : Met l yX11_stance (gws yX11_stance cX11_stance 2 (some .int)) (rmk 2) (va_Pc [.ref (ad 200), .int p1] (WU g A ad L S)) (qi g A ad L r S9) 0 0 A :=
  g_met [.ref (ad 200), .int p1] (by decide) (Nat.le_of_ble_eq_true rfl) (fun p e s m below meth c ls C hW hl _ => t_X11_stance C hB h hW va_S.rf hl)
theorem hv_X11_stance : yX11_stance.cls = RX11 ∧ yX11_stance.cls ≠ "java/lang/invoke/MethodHandle" ∧ yX11_stance.cls ≠ "java/lang/invoke/VarHandle" ∧ (parseMethodDescriptor yX11_stance.desc).map (fun d => d.parameters.length) = some 1 := by decide +kernel
/-! DroveRoadsModel.first -/
def f_X11_first (S : St) (p1 : Int32) : Option (Int32 × St) := if 0 < (gv S 200 10) then (some (0, S)) else (cl0 (f_X11_areMiles S p1) fun r_3 => if r_3 = 0 then (some (0, S)) else (bn (sv S 203 (ix 0) p1) fun S_6 => some (1, S_6)))
set_option maxHeartbeats 4000000 in
theorem t_X11_first (C : MC p s m args meth c cX11_first 2 (some .boolean) RX11 g A) (hB : Lk L) {S : St} {r : Int32} {S9 : St} {p1 : Int32} (h : f_X11_first S p1 = some (r, S9)) {H : Heap} {locs : List Loc} {ls : Array Slot} (hW : GW g A ad L S H) (hS : va_S A s.heap H locs) (hl : lv_has ls 2 [(0, .ref (ad 200)), (1, .int p1)]) : W p l e (rmk 2) s m args below meth c H locs 0 0 (MQ below (qz g A ad L r S9) args s 0 0 A) (F0 m 0 ls []) := by
  obtain ⟨hx, hb, hml, hown, hts, hr, hlocks, hK, hN, hT⟩ := id C
  unfold f_X11_first at h
  refine lv_aload_n hx hb dX11_first_0 rfl (lv_at hl 0 rfl) ?_
  refine g_get (C := RX11) (T := TX11) (N := 67) (ci := 11) hx hb hts inX11 hown hK hW (hB 200 bb_200) kd_200 rfl 10 (by decide) mw_971 rfl rfl dX11_first_1 ?_
  refine lv_if_gt (tgt := 14) hx hb dX11_first_4 (by decide) (fun c_1 => ?_) (fun c_1 => ?_)
  · have h := it_t c_1 h
    refine lv_iconst (v := 0) hx hb dX11_first_14 (by decide) ?_
    cases h
    exact g_zret hx hb hr hlocks hW hS (rfl) dX11_first_15
  · have h := it_f c_1 h
    refine lv_iload_n hx hb dX11_first_7 rfl (lv_at hl 1 rfl) ?_
    obtain ⟨r_3, hc_2, h⟩ := cl0_ex h
    refine g_cz (g_runS (As := [.int p1]) (rest := []) hx hb hml hown hts hK hN hT hS hW (c_X11_areMiles hB hc_2) (gw_S mw_1168 mw_1169 mw_73 mw_1170) hs_X11_areMiles rfl rfl rfl (rm_ok (by decide) (by decide)) hl.1 (Nat.le_of_ble_eq_true rfl) dX11_first_8 rfl ⟨Nat.zero_le _, Nat.zero_le _⟩) hS (fun hz_4 H locs hW hS => ?_)
    refine lv_if_ne (tgt := 16) hx hb dX11_first_11 (by decide) (fun c_5 => ?_) (fun c_5 => ?_)
    · have h := it_f c_5 h
      refine lv_aload_n hx hb dX11_first_16 rfl (lv_at hl 0 rfl) ?_
      refine g_get (C := RX11) (T := TX11) (N := 67) (ci := 11) hx hb hts inX11 hown hK hW (hB 200 bb_200) kd_200 rfl 2 (by decide) mw_963 rfl rfl dX11_first_17 ?_
      refine lv_iconst (v := 0) hx hb dX11_first_20 (by decide) ?_
      refine lv_iload_n hx hb dX11_first_21 rfl (lv_at hl 1 rfl) ?_
      refine g_iast hx hb hK hW hS (hB 203 bb_203) (fun _ => kd_203) (by decide) dX11_first_22 (fun S_6 eS_6 H locs hW hS => ?_)
      have h := bn_at eS_6 h
      refine lv_iconst (v := 1) hx hb dX11_first_23 (by decide) ?_
      cases h
      exact g_zret hx hb hr hlocks hW hS (rfl) dX11_first_24
    · have h := it_t c_5 h
      refine lv_iconst (v := 0) hx hb dX11_first_14 (by decide) ?_
      cases h
      exact g_zret hx hb hr hlocks hW hS (rfl) dX11_first_15
theorem c_X11_first (hB : Lk L) {S : St} {r : Int32} {S9 : St} {p1 : Int32} (h : f_X11_first S p1 = some (r, S9)) : Met l yX11_first (gws yX11_first cX11_first 2 (some .boolean)) (rmk 2) (va_Pc [.ref (ad 200), .int p1] (WU g A ad L S)) (qz g A ad L r S9) 0 0 A :=
  g_met [.ref (ad 200), .int p1] (by decide) (Nat.le_of_ble_eq_true rfl) (fun p e s m below meth c ls C hW hl _ => t_X11_first C hB h hW va_S.rf hl)
theorem hv_X11_first : yX11_first.cls = RX11 ∧ yX11_first.cls ≠ "java/lang/invoke/MethodHandle" ∧ yX11_first.cls ≠ "java/lang/invoke/VarHandle" ∧ (parseMethodDescriptor yX11_first.desc).map (fun d => d.parameters.length) = some 1 := by decide +kernel
/-! DroveRoadsModel.fair -/
def f_X11_fair (S : St) : Option (Int32) := some ((gv S 200 1) - 1)
set_option maxHeartbeats 4000000 in
theorem t_X11_fair (C : MC p s m args meth c cX11_fair 1 (some .int) RX11 g A) (hB : Lk L) {S : St} {r : Int32} (h : f_X11_fair S = some r) {H : Heap} {locs : List Loc} {ls : Array Slot} (hW : GW g A ad L S H) (hS : va_S A s.heap H locs) (hl : lv_has ls 1 [(0, .ref (ad 200))]) : W p l e (rmk 1) s m args below meth c H locs 0 0 (MQ below (qi g A ad L r S) args s 0 0 A) (F0 m 0 ls []) := by
  obtain ⟨hx, hb, hml, hown, hts, hr, hlocks, hK, hN, hT⟩ := id C
  unfold f_X11_fair at h
  refine lv_aload_n hx hb dX11_fair_0 rfl (lv_at hl 0 rfl) ?_
  refine g_get (C := RX11) (T := TX11) (N := 67) (ci := 11) hx hb hts inX11 hown hK hW (hB 200 bb_200) kd_200 rfl 1 (by decide) mw_962 rfl rfl dX11_fair_1 ?_
  refine lv_iconst (v := 1) hx hb dX11_fair_4 (by decide) ?_
  refine lv_isub hx hb dX11_fair_5 ?_
  cases h
  exact g_iret hx hb hr hlocks hW hS dX11_fair_6
theorem c_X11_fair (hB : Lk L) {S : St} {r : Int32} (h : f_X11_fair S = some r) : Met l yX11_fair (gws yX11_fair cX11_fair 1 (some .int)) (rmk 1) (va_Pc [.ref (ad 200)] (WU g A ad L S)) (qi g A ad L r S) 0 0 A :=
  g_met [.ref (ad 200)] (by decide) (Nat.le_of_ble_eq_true rfl) (fun p e s m below meth c ls C hW hl _ => t_X11_fair C hB h hW va_S.rf hl)
theorem hv_X11_fair : yX11_fair.cls = RX11 ∧ yX11_fair.cls ≠ "java/lang/invoke/MethodHandle" ∧ yX11_fair.cls ≠ "java/lang/invoke/VarHandle" ∧ (parseMethodDescriptor yX11_fair.desc).map (fun d => d.parameters.length) = some 0 := by decide +kernel
/-! DroveRoadsModel.isStance -/
def f_X11_isStance (S : St) (p1 : Int32) : Option (Int32) := if p1 < 0 then (some 0) else (if (gv S 200 1) ≤ p1 then (some 0) else (some 1))
set_option maxHeartbeats 4000000 in
theorem t_X11_isStance (C : MC p s m args meth c cX11_isStance 2 (some .boolean) RX11 g A) (hB : Lk L) {S : St} {r : Int32} {p1 : Int32} (h : f_X11_isStance S p1 = some r) {H : Heap} {locs : List Loc} {ls : Array Slot} (hW : GW g A ad L S H) (hS : va_S A s.heap H locs) (hl : lv_has ls 2 [(0, .ref (ad 200)), (1, .int p1)]) : W p l e (rmk 1) s m args below meth c H locs 0 0 (MQ below (qz g A ad L r S) args s 0 0 A) (F0 m 0 ls []) := by
  obtain ⟨hx, hb, hml, hown, hts, hr, hlocks, hK, hN, hT⟩ := id C
  unfold f_X11_isStance at h
  refine lv_iload_n hx hb dX11_isStance_0 rfl (lv_at hl 1 rfl) ?_
  refine lv_if_lt (tgt := 16) hx hb dX11_isStance_1 (by decide) (fun c_1 => ?_) (fun c_1 => ?_)
  · have h := it_t c_1 h
    refine lv_iconst (v := 0) hx hb dX11_isStance_16 (by decide) ?_
    cases h
    exact g_zret hx hb hr hlocks hW hS (rfl) dX11_isStance_17
  · have h := it_f c_1 h
    refine lv_iload_n hx hb dX11_isStance_4 rfl (lv_at hl 1 rfl) ?_
    refine lv_aload_n hx hb dX11_isStance_5 rfl (lv_at hl 0 rfl) ?_
    refine g_get (C := RX11) (T := TX11) (N := 67) (ci := 11) hx hb hts inX11 hown hK hW (hB 200 bb_200) kd_200 rfl 1 (by decide) mw_962 rfl rfl dX11_isStance_6 ?_
    refine lv_icmp_ge (tgt := 16) hx hb dX11_isStance_9 (by decide) (fun c_2 => ?_) (fun c_2 => ?_)
    · have h := it_t c_2 h
      refine lv_iconst (v := 0) hx hb dX11_isStance_16 (by decide) ?_
      cases h
      exact g_zret hx hb hr hlocks hW hS (rfl) dX11_isStance_17
    · have h := it_f c_2 h
      refine lv_iconst (v := 1) hx hb dX11_isStance_12 (by decide) ?_
      refine lv_goto (tgt := 17) hx hb dX11_isStance_13 (by decide) ?_
      cases h
      exact g_zret hx hb hr hlocks hW hS (rfl) dX11_isStance_17
theorem c_X11_isStance (hB : Lk L) {S : St} {r : Int32} {p1 : Int32} (h : f_X11_isStance S p1 = some r) : Met l yX11_isStance (gws yX11_isStance cX11_isStance 2 (some .boolean)) (rmk 1) (va_Pc [.ref (ad 200), .int p1] (WU g A ad L S)) (qz g A ad L r S) 0 0 A :=
  g_met [.ref (ad 200), .int p1] (by decide) (Nat.le_of_ble_eq_true rfl) (fun p e s m below meth c ls C hW hl _ => t_X11_isStance C hB h hW va_S.rf hl)
theorem hv_X11_isStance : yX11_isStance.cls = RX11 ∧ yX11_isStance.cls ≠ "java/lang/invoke/MethodHandle" ∧ yX11_isStance.cls ≠ "java/lang/invoke/VarHandle" ∧ (parseMethodDescriptor yX11_isStance.desc).map (fun d => d.parameters.length) = some 1 := by decide +kernel
/-! DroveRoadsModel.grass -/
def f_X11_grass (S : St) (p1 : Int32) (p2 : Int32) (p3 : Int32) (p4 : Int32) : Option (Int32 × St) := cl0 (f_X11_isStance S p1) fun r_2 => if r_2 = 0 then (some (0, S)) else (cl0 (f_X11_fair S) fun r_6 => if p1 = r_6 then (some (0, S)) else (if p3 < 0 then (some (0, S)) else (if 1000 < p3 then (some (0, S)) else (if p4 < 0 then (some (0, S)) else (if 100000 < p4 then (some (0, S)) else (if p2 < 0 then (some (0, S)) else (if p2 ≤ p4 then (if p1 < 0 ∨ 10 ≤ ix p1 then none else bn (sv S 204 (ix p1) p2) fun S_15 => if p1 < 0 ∨ 10 ≤ ix p1 then none else bn (sv S_15 205 (ix p1) p3) fun S_17 => if p1 < 0 ∨ 10 ≤ ix p1 then none else bn (sv S_17 206 (ix p1) p4) fun S_19 => some (1, S_19)) else (some (0, S)))))))))
set_option maxHeartbeats 4000000 in
theorem t_X11_grass (C : MC p s m args meth c cX11_grass 5 (some .boolean) RX11 g A) (hB : Lk L) {S : St} {r : Int32} {S9 : St} {p1 : Int32} {p2 : Int32} {p3 : Int32} {p4 : Int32} (h : f_X11_grass S p1 p2 p3 p4 = some (r, S9)) {H : Heap} {locs : List Loc} {ls : Array Slot} (hW : GW g A ad L S H) (hS : va_S A s.heap H locs) (hl : lv_has ls 5 [(0, .ref (ad 200)), (1, .int p1), (2, .int p2), (3, .int p3), (4, .int p4)]) : W p l e (rmk 2) s m args below meth c H locs 0 0 (MQ below (qz g A ad L r S9) args s 0 0 A) (F0 m 0 ls []) := by
  obtain ⟨hx, hb, hml, hown, hts, hr, hlocks, hK, hN, hT⟩ := id C
  unfold f_X11_grass at h
  refine lv_aload_n hx hb dX11_grass_0 rfl (lv_at hl 0 rfl) ?_
  refine lv_iload_n hx hb dX11_grass_1 rfl (lv_at hl 1 rfl) ?_
  obtain ⟨r_2, hc_1, h⟩ := cl0_ex h
  refine g_cz (g_runV (ci := 11) (o := 200) (As := [.int p1]) (rest := []) hx hb hml hown hts hK hN hT hS hW (c_X11_isStance hB hc_1) (hB 200 bb_200) kd_200 rfl (gw_V mw_1179 mw_1181 mw_35 mw_73 mw_1182) hv_X11_isStance rfl rfl rfl (rm_ok (by decide) (by decide)) hl.1 (Nat.le_of_ble_eq_true rfl) dX11_grass_2 rfl ⟨Nat.zero_le _, Nat.zero_le _⟩) hS (fun hz_3 H locs hW hS => ?_)
  refine lv_if_eq (tgt := 49) hx hb dX11_grass_5 (by decide) (fun c_4 => ?_) (fun c_4 => ?_)
  · have h := it_t c_4 h
    refine lv_iconst (v := 0) hx hb dX11_grass_49 (by decide) ?_
    cases h
    exact g_zret hx hb hr hlocks hW hS (rfl) dX11_grass_50
  · have h := it_f c_4 h
    refine lv_iload_n hx hb dX11_grass_8 rfl (lv_at hl 1 rfl) ?_
    refine lv_aload_n hx hb dX11_grass_9 rfl (lv_at hl 0 rfl) ?_
    obtain ⟨r_6, hc_5, h⟩ := cl0_ex h
    refine g_ci (g_runV (ci := 11) (o := 200) (As := []) (rest := [.int p1]) hx hb hml hown hts hK hN hT hS hW (c_X11_fair hB hc_5) (hB 200 bb_200) kd_200 rfl (gw_V mw_1183 mw_1185 mw_36 mw_73 mw_1186) hv_X11_fair rfl rfl rfl (rm_ok (by decide) (by decide)) hl.1 (Nat.le_of_ble_eq_true rfl) dX11_grass_10 rfl ⟨Nat.zero_le _, Nat.zero_le _⟩) hS (fun H locs hW hS => ?_)
    refine lv_icmp_eq (tgt := 49) hx hb dX11_grass_13 (by decide) (fun c_7 => ?_) (fun c_7 => ?_)
    · have h := it_t c_7 h
      refine lv_iconst (v := 0) hx hb dX11_grass_49 (by decide) ?_
      cases h
      exact g_zret hx hb hr hlocks hW hS (rfl) dX11_grass_50
    · have h := it_f c_7 h
      refine lv_iload_n hx hb dX11_grass_16 rfl (lv_at hl 3 rfl) ?_
      refine lv_if_lt (tgt := 49) hx hb dX11_grass_17 (by decide) (fun c_8 => ?_) (fun c_8 => ?_)
      · have h := it_t c_8 h
        refine lv_iconst (v := 0) hx hb dX11_grass_49 (by decide) ?_
        cases h
        exact g_zret hx hb hr hlocks hW hS (rfl) dX11_grass_50
      · have h := it_f c_8 h
        refine lv_iload_n hx hb dX11_grass_20 rfl (lv_at hl 3 rfl) ?_
        refine lv_sipush (v := 1000) hx hb dX11_grass_21 (by decide) ?_
        refine lv_icmp_gt (tgt := 49) hx hb dX11_grass_24 (by decide) (fun c_9 => ?_) (fun c_9 => ?_)
        · have h := it_t c_9 h
          refine lv_iconst (v := 0) hx hb dX11_grass_49 (by decide) ?_
          cases h
          exact g_zret hx hb hr hlocks hW hS (rfl) dX11_grass_50
        · have h := it_f c_9 h
          refine lv_iload hx hb dX11_grass_27 (lv_at hl 4 rfl) ?_
          refine lv_if_lt (tgt := 49) hx hb dX11_grass_29 (by decide) (fun c_10 => ?_) (fun c_10 => ?_)
          · have h := it_t c_10 h
            refine lv_iconst (v := 0) hx hb dX11_grass_49 (by decide) ?_
            cases h
            exact g_zret hx hb hr hlocks hW hS (rfl) dX11_grass_50
          · have h := it_f c_10 h
            refine lv_iload hx hb dX11_grass_32 (lv_at hl 4 rfl) ?_
            refine lv_ldc (v := 100000) hx hb hown (hts _ mw_1187) dX11_grass_34 ?_
            refine lv_icmp_gt (tgt := 49) hx hb dX11_grass_36 (by decide) (fun c_11 => ?_) (fun c_11 => ?_)
            · have h := it_t c_11 h
              refine lv_iconst (v := 0) hx hb dX11_grass_49 (by decide) ?_
              cases h
              exact g_zret hx hb hr hlocks hW hS (rfl) dX11_grass_50
            · have h := it_f c_11 h
              refine lv_iload_n hx hb dX11_grass_39 rfl (lv_at hl 2 rfl) ?_
              refine lv_if_lt (tgt := 49) hx hb dX11_grass_40 (by decide) (fun c_12 => ?_) (fun c_12 => ?_)
              · have h := it_t c_12 h
                refine lv_iconst (v := 0) hx hb dX11_grass_49 (by decide) ?_
                cases h
                exact g_zret hx hb hr hlocks hW hS (rfl) dX11_grass_50
              · have h := it_f c_12 h
                refine lv_iload_n hx hb dX11_grass_43 rfl (lv_at hl 2 rfl) ?_
                refine lv_iload hx hb dX11_grass_44 (lv_at hl 4 rfl) ?_
                refine lv_icmp_le (tgt := 51) hx hb dX11_grass_46 (by decide) (fun c_13 => ?_) (fun c_13 => ?_)
                · have h := it_t c_13 h
                  refine lv_aload_n hx hb dX11_grass_51 rfl (lv_at hl 0 rfl) ?_
                  refine g_get (C := RX11) (T := TX11) (N := 67) (ci := 11) hx hb hts inX11 hown hK hW (hB 200 bb_200) kd_200 rfl 3 (by decide) mw_964 rfl rfl dX11_grass_52 ?_
                  refine lv_iload_n hx hb dX11_grass_55 rfl (lv_at hl 1 rfl) ?_
                  refine lv_iload_n hx hb dX11_grass_56 rfl (lv_at hl 2 rfl) ?_
                  obtain ⟨hi_14, h⟩ := ck_n h
                  refine g_iast hx hb hK hW hS (hB 204 bb_204) (fun _ => kd_204) hi_14 dX11_grass_57 (fun S_15 eS_15 H locs hW hS => ?_)
                  have h := bn_at eS_15 h
                  refine lv_aload_n hx hb dX11_grass_58 rfl (lv_at hl 0 rfl) ?_
                  refine g_get (C := RX11) (T := TX11) (N := 67) (ci := 11) hx hb hts inX11 hown hK hW (hB 200 bb_200) kd_200 rfl 4 (by decide) mw_965 rfl rfl dX11_grass_59 ?_
                  refine lv_iload_n hx hb dX11_grass_62 rfl (lv_at hl 1 rfl) ?_
                  refine lv_iload_n hx hb dX11_grass_63 rfl (lv_at hl 3 rfl) ?_
                  obtain ⟨hi_16, h⟩ := ck_n h
                  refine g_iast hx hb hK hW hS (hB 205 bb_205) (fun _ => kd_205) hi_16 dX11_grass_64 (fun S_17 eS_17 H locs hW hS => ?_)
                  have h := bn_at eS_17 h
                  refine lv_aload_n hx hb dX11_grass_65 rfl (lv_at hl 0 rfl) ?_
                  refine g_get (C := RX11) (T := TX11) (N := 67) (ci := 11) hx hb hts inX11 hown hK hW (hB 200 bb_200) kd_200 rfl 5 (by decide) mw_966 rfl rfl dX11_grass_66 ?_
                  refine lv_iload_n hx hb dX11_grass_69 rfl (lv_at hl 1 rfl) ?_
                  refine lv_iload hx hb dX11_grass_70 (lv_at hl 4 rfl) ?_
                  obtain ⟨hi_18, h⟩ := ck_n h
                  refine g_iast hx hb hK hW hS (hB 206 bb_206) (fun _ => kd_206) hi_18 dX11_grass_72 (fun S_19 eS_19 H locs hW hS => ?_)
                  have h := bn_at eS_19 h
                  refine lv_iconst (v := 1) hx hb dX11_grass_73 (by decide) ?_
                  cases h
                  exact g_zret hx hb hr hlocks hW hS (rfl) dX11_grass_74
                · have h := it_f c_13 h
                  refine lv_iconst (v := 0) hx hb dX11_grass_49 (by decide) ?_
                  cases h
                  exact g_zret hx hb hr hlocks hW hS (rfl) dX11_grass_50
theorem c_X11_grass (hB : Lk L) {S : St} {r : Int32} {S9 : St} {p1 : Int32} {p2 : Int32} {p3 : Int32} {p4 : Int32} (h : f_X11_grass S p1 p2 p3 p4 = some (r, S9)) : Met l yX11_grass (gws yX11_grass cX11_grass 5 (some .boolean)) (rmk 2) (va_Pc [.ref (ad 200), .int p1, .int p2, .int p3, .int p4] (WU g A ad L S)) (qz g A ad L r S9) 0 0 A :=
  g_met [.ref (ad 200), .int p1, .int p2, .int p3, .int p4] (by decide) (Nat.le_of_ble_eq_true rfl) (fun p e s m below meth c ls C hW hl _ => t_X11_grass C hB h hW va_S.rf hl)
theorem hv_X11_grass : yX11_grass.cls = RX11 ∧ yX11_grass.cls ≠ "java/lang/invoke/MethodHandle" ∧ yX11_grass.cls ≠ "java/lang/invoke/VarHandle" ∧ (parseMethodDescriptor yX11_grass.desc).map (fun d => d.parameters.length) = some 4 := by decide +kernel
/-! DroveRoadsModel.letter -/
def f_X11_letter (S : St) (p1 : Int32) : Option (Int32 × St) := if (gv S 200 7) = 30 then (some ((-1), S)) else (if p1 < 0 then (some ((-1), S)) else (if p1 ≤ 1000 then (if (gv S 200 7) < 0 ∨ 30 ≤ ix (gv S 200 7) then none else bn (sv S 209 (ix (gv S 200 7)) p1) fun S_5 => if (gv S_5 200 7) < 0 ∨ 30 ≤ ix (gv S_5 200 7) then none else bn (sv S_5 210 (ix (gv S_5 200 7)) (gv S_5 200 0)) fun S_7 => bn (sv S_7 200 7 ((gv S_7 200 7) + 1)) fun S_8 => some ((gv S_8 200 7), S_8)) else (some ((-1), S))))
set_option maxHeartbeats 4000000 in
theorem t_X11_letter (C : MC p s m args meth c cX11_letter 2 (some .int) RX11 g A) (hB : Lk L) {S : St} {r : Int32} {S9 : St} {p1 : Int32} (h : f_X11_letter S p1 = some (r, S9)) {H : Heap} {locs : List Loc} {ls : Array Slot} (hW : GW g A ad L S H) (hS : va_S A s.heap H locs) (hl : lv_has ls 2 [(0, .ref (ad 200)), (1, .int p1)]) : W p l e (rmk 1) s m args below meth c H locs 0 0 (MQ below (qi g A ad L r S9) args s 0 0 A) (F0 m 0 ls []) := by
  obtain ⟨hx, hb, hml, hown, hts, hr, hlocks, hK, hN, hT⟩ := id C
  unfold f_X11_letter at h
  refine lv_aload_n hx hb dX11_letter_0 rfl (lv_at hl 0 rfl) ?_
  refine g_get (C := RX11) (T := TX11) (N := 67) (ci := 11) hx hb hts inX11 hown hK hW (hB 200 bb_200) kd_200 rfl 7 (by decide) mw_968 rfl rfl dX11_letter_1 ?_
  refine lv_bipush (v := 30) hx hb dX11_letter_4 (by decide) ?_
  refine lv_icmp_eq (tgt := 20) hx hb dX11_letter_6 (by decide) (fun c_1 => ?_) (fun c_1 => ?_)
  · have h := it_t c_1 h
    refine lv_iconst (v := (-1)) hx hb dX11_letter_20 (by decide) ?_
    cases h
    exact g_iret hx hb hr hlocks hW hS dX11_letter_21
  · have h := it_f c_1 h
    refine lv_iload_n hx hb dX11_letter_9 rfl (lv_at hl 1 rfl) ?_
    refine lv_if_lt (tgt := 20) hx hb dX11_letter_10 (by decide) (fun c_2 => ?_) (fun c_2 => ?_)
    · have h := it_t c_2 h
      refine lv_iconst (v := (-1)) hx hb dX11_letter_20 (by decide) ?_
      cases h
      exact g_iret hx hb hr hlocks hW hS dX11_letter_21
    · have h := it_f c_2 h
      refine lv_iload_n hx hb dX11_letter_13 rfl (lv_at hl 1 rfl) ?_
      refine lv_sipush (v := 1000) hx hb dX11_letter_14 (by decide) ?_
      refine lv_icmp_le (tgt := 22) hx hb dX11_letter_17 (by decide) (fun c_3 => ?_) (fun c_3 => ?_)
      · have h := it_t c_3 h
        refine lv_aload_n hx hb dX11_letter_22 rfl (lv_at hl 0 rfl) ?_
        refine g_get (C := RX11) (T := TX11) (N := 67) (ci := 11) hx hb hts inX11 hown hK hW (hB 200 bb_200) kd_200 rfl 8 (by decide) mw_969 rfl rfl dX11_letter_23 ?_
        refine lv_aload_n hx hb dX11_letter_26 rfl (lv_at hl 0 rfl) ?_
        refine g_get (C := RX11) (T := TX11) (N := 67) (ci := 11) hx hb hts inX11 hown hK hW (hB 200 bb_200) kd_200 rfl 7 (by decide) mw_968 rfl rfl dX11_letter_27 ?_
        refine lv_iload_n hx hb dX11_letter_30 rfl (lv_at hl 1 rfl) ?_
        obtain ⟨hi_4, h⟩ := ck_n h
        refine g_iast hx hb hK hW hS (hB 209 bb_209) (fun _ => kd_209) hi_4 dX11_letter_31 (fun S_5 eS_5 H locs hW hS => ?_)
        have h := bn_at eS_5 h
        refine lv_aload_n hx hb dX11_letter_32 rfl (lv_at hl 0 rfl) ?_
        refine g_get (C := RX11) (T := TX11) (N := 67) (ci := 11) hx hb hts inX11 hown hK hW (hB 200 bb_200) kd_200 rfl 9 (by decide) mw_970 rfl rfl dX11_letter_33 ?_
        refine lv_aload_n hx hb dX11_letter_36 rfl (lv_at hl 0 rfl) ?_
        refine g_get (C := RX11) (T := TX11) (N := 67) (ci := 11) hx hb hts inX11 hown hK hW (hB 200 bb_200) kd_200 rfl 7 (by decide) mw_968 rfl rfl dX11_letter_37 ?_
        refine lv_aload_n hx hb dX11_letter_40 rfl (lv_at hl 0 rfl) ?_
        refine g_get (C := RX11) (T := TX11) (N := 67) (ci := 11) hx hb hts inX11 hown hK hW (hB 200 bb_200) kd_200 rfl 0 (by decide) mw_961 rfl rfl dX11_letter_41 ?_
        obtain ⟨hi_6, h⟩ := ck_n h
        refine g_iast hx hb hK hW hS (hB 210 bb_210) (fun _ => kd_210) hi_6 dX11_letter_44 (fun S_7 eS_7 H locs hW hS => ?_)
        have h := bn_at eS_7 h
        refine lv_aload_n hx hb dX11_letter_45 rfl (lv_at hl 0 rfl) ?_
        refine lv_dup hx hb dX11_letter_46 rfl ?_
        refine g_get (C := RX11) (T := TX11) (N := 67) (ci := 11) hx hb hts inX11 hown hK hW (hB 200 bb_200) kd_200 rfl 7 (by decide) mw_968 rfl rfl dX11_letter_47 ?_
        refine lv_iconst (v := 1) hx hb dX11_letter_50 (by decide) ?_
        refine lv_iadd hx hb dX11_letter_51 ?_
        refine g_put (C := RX11) (T := TX11) (N := 67) (ci := 11) hx hb hts inX11 tyX11 tyX11_ok nmX11 hown hK hW hS (hB 200 bb_200) kd_200 rfl 7 (by decide) mw_968 rfl rfl rfl rfl (Nat.le_of_ble_eq_true rfl) (sv S_7 200 7 ((gv S_7 200 7) + 1)) (ps_200_7) cellOf_sv dX11_letter_52 (fun S_8 eS_8 H locs hW hS => ?_)
        have h := bn_at eS_8 h
        refine lv_aload_n hx hb dX11_letter_55 rfl (lv_at hl 0 rfl) ?_
        refine g_get (C := RX11) (T := TX11) (N := 67) (ci := 11) hx hb hts inX11 hown hK hW (hB 200 bb_200) kd_200 rfl 7 (by decide) mw_968 rfl rfl dX11_letter_56 ?_
        cases h
        exact g_iret hx hb hr hlocks hW hS dX11_letter_59
      · have h := it_f c_3 h
        refine lv_iconst (v := (-1)) hx hb dX11_letter_20 (by decide) ?_
        cases h
        exact g_iret hx hb hr hlocks hW hS dX11_letter_21
theorem c_X11_letter (hB : Lk L) {S : St} {r : Int32} {S9 : St} {p1 : Int32} (h : f_X11_letter S p1 = some (r, S9)) : Met l yX11_letter (gws yX11_letter cX11_letter 2 (some .int)) (rmk 1) (va_Pc [.ref (ad 200), .int p1] (WU g A ad L S)) (qi g A ad L r S9) 0 0 A :=
  g_met [.ref (ad 200), .int p1] (by decide) (Nat.le_of_ble_eq_true rfl) (fun p e s m below meth c ls C hW hl _ => t_X11_letter C hB h hW va_S.rf hl)
theorem hv_X11_letter : yX11_letter.cls = RX11 ∧ yX11_letter.cls ≠ "java/lang/invoke/MethodHandle" ∧ yX11_letter.cls ≠ "java/lang/invoke/VarHandle" ∧ (parseMethodDescriptor yX11_letter.desc).map (fun d => d.parameters.length) = some 1 := by decide +kernel
/-! DroveRoadsModel.toFair -/
def f_X11_toFair_l4 (N : Nat) (S : St) (k : Int32 → Option (Int32)) : Nat → Int32 → Int32 → Option (Int32)
  | 0, _, _ => none
  | n + 1, v2, v3 => cl0 (f_X11_fair S) fun r_2 => if r_2 ≤ v3 then (k v2) else (if v3 < 0 ∨ 10 ≤ ix v3 then none else bn (v2 + (gv S 203 (ix v3))) fun x_5 => bn (v3 + 1) fun x_6 => f_X11_toFair_l4 N S k n x_5 x_6)
set_option maxHeartbeats 4000000 in
theorem t_X11_toFair_l4 (C : MC p s m args meth c cX11_toFair 4 (some .int) RX11 g A) (hB : Lk L) {S : St} {r : Int32} {k : Int32 → Option (Int32)} (hk : ∀ (w2 : Int32), k w2 = some r → ∀ (H : Heap) (locs : List Loc) (ls : Array Slot), GW g A ad L S H → va_S A s.heap H locs → lv_has ls 4 [(2, .int w2)] → W p l e (rmk 2) s m args below meth c H locs 0 0 (MQ below (qi g A ad L r S) args s 0 0 A) (F0 m 27 ls [])) : ∀ (n : Nat) (v2 : Int32) (v3 : Int32), f_X11_toFair_l4 N S k n v2 v3 = some r → ∀ (H : Heap) (locs : List Loc) (ls : Array Slot), GW g A ad L S H → va_S A s.heap H locs → lv_has ls 4 [(0, .ref (ad 200)), (2, .int v2), (3, .int v3)] → W p l e (rmk 2) s m args below meth c H locs 0 0 (MQ below (qi g A ad L r S) args s 0 0 A) (F0 m 4 ls []) := by
  obtain ⟨hx, hb, hml, hown, hts, hr, hlocks, hK, hN, hT⟩ := id C
  intro n
  induction n with
  | zero =>
    intro v2 v3 h
    have h : (none : Option (Int32)) = some r := h
    cases h
  | succ n ih =>
    intro v2 v3 h H locs ls hW hS hl
    rw [f_X11_toFair_l4] at h
    refine lv_iload_n hx hb dX11_toFair_4 rfl (lv_at hl 2 rfl) ?_
    refine lv_aload_n hx hb dX11_toFair_5 rfl (lv_at hl 0 rfl) ?_
    obtain ⟨r_2, hc_1, h⟩ := cl0_ex h
    refine g_ci (g_runV (ci := 11) (o := 200) (As := []) (rest := [.int v3]) hx hb hml hown hts hK hN hT hS hW (c_X11_fair hB hc_1) (hB 200 bb_200) kd_200 rfl (gw_V mw_1183 mw_1185 mw_36 mw_73 mw_1186) hv_X11_fair rfl rfl rfl (rm_ok (by decide) (by decide)) hl.1 (Nat.le_of_ble_eq_true rfl) dX11_toFair_6 rfl ⟨Nat.zero_le _, Nat.zero_le _⟩) hS (fun H locs hW hS => ?_)
    refine lv_icmp_ge (tgt := 27) hx hb dX11_toFair_9 (by decide) (fun c_3 => ?_) (fun c_3 => ?_)
    · have h := it_t c_3 h
      exact hk _ h _ _ _ hW hS (lv_sub hl [1] rfl)
    · have h := it_f c_3 h
      refine lv_iload_n hx hb dX11_toFair_12 rfl (lv_at hl 1 rfl) ?_
      refine lv_aload_n hx hb dX11_toFair_13 rfl (lv_at hl 0 rfl) ?_
      refine g_get (C := RX11) (T := TX11) (N := 67) (ci := 11) hx hb hts inX11 hown hK hW (hB 200 bb_200) kd_200 rfl 2 (by decide) mw_963 rfl rfl dX11_toFair_14 ?_
      refine lv_iload_n hx hb dX11_toFair_17 rfl (lv_at hl 2 rfl) ?_
      obtain ⟨hi_4, h⟩ := ck_n h
      refine g_iald hx hb hK hW (hB 203 bb_203) kd_203 hi_4 dX11_toFair_18 ?_
      refine lv_iadd hx hb dX11_toFair_19 ?_
      refine lv_topi (fun x_5 ex_5 => ?_)
      have h := bn_at ex_5 h
      refine lv_istore_n (lv' := [(2, .int x_5), (0, .ref (ad 200)), (3, .int v3)]) hx hb dX11_toFair_20 rfl hl (by decide) rfl (fun ls hl => ?_)
      obtain ⟨x_6, ex_6⟩ : ∃ z : Int32, z = v3 + 1 := ⟨_, rfl⟩
      have h := bn_at ex_6 h
      refine lv_iinc (v := x_6) (lv' := [(3, .int x_6), (2, .int x_5), (0, .ref (ad 200))]) hx hb dX11_toFair_21 hl (k := 2) rfl (by rw [ex_6]; rfl) (by decide) rfl (fun ls hl => ?_)
      refine lv_goto (tgt := 4) hx hb dX11_toFair_24 (by decide) ?_
      exact ih _ _ h _ _ _ hW hS (lv_sub hl [2, 1, 0] rfl)
def f_X11_toFair (N : Nat) (S : St) (p1 : Int32) : Option (Int32) := f_X11_toFair_l4 N S (fun x_7 => some x_7) N 0 p1
set_option maxHeartbeats 4000000 in
theorem t_X11_toFair (C : MC p s m args meth c cX11_toFair 4 (some .int) RX11 g A) (hB : Lk L) {S : St} {r : Int32} {p1 : Int32} (h : f_X11_toFair N S p1 = some r) {H : Heap} {locs : List Loc} {ls : Array Slot} (hW : GW g A ad L S H) (hS : va_S A s.heap H locs) (hl : lv_has ls 4 [(0, .ref (ad 200)), (1, .int p1)]) : W p l e (rmk 2) s m args below meth c H locs 0 0 (MQ below (qi g A ad L r S) args s 0 0 A) (F0 m 0 ls []) := by
  obtain ⟨hx, hb, hml, hown, hts, hr, hlocks, hK, hN, hT⟩ := id C
  unfold f_X11_toFair at h
  refine lv_iconst (v := 0) hx hb dX11_toFair_0 (by decide) ?_
  refine lv_istore_n (lv' := [(2, .int 0), (0, .ref (ad 200)), (1, .int p1)]) hx hb dX11_toFair_1 rfl hl (by decide) rfl (fun ls hl => ?_)
  refine lv_iload_n hx hb dX11_toFair_2 rfl (lv_at hl 2 rfl) ?_
  refine lv_istore_n (lv' := [(3, .int p1), (2, .int 0), (0, .ref (ad 200)), (1, .int p1)]) hx hb dX11_toFair_3 rfl hl (by decide) rfl (fun ls hl => ?_)
  refine t_X11_toFair_l4 C hB ?_ _ _ _ h _ _ _ hW hS (lv_sub hl [2, 1, 0] rfl)
  intro x_7 h H locs ls hW hS hl
  refine lv_iload_n hx hb dX11_toFair_27 rfl (lv_at hl 0 rfl) ?_
  cases h
  exact g_iret hx hb hr hlocks hW hS dX11_toFair_28
theorem c_X11_toFair (hB : Lk L) {S : St} {r : Int32} {p1 : Int32} (h : f_X11_toFair N S p1 = some r) : Met l yX11_toFair (gws yX11_toFair cX11_toFair 4 (some .int)) (rmk 2) (va_Pc [.ref (ad 200), .int p1] (WU g A ad L S)) (qi g A ad L r S) 0 0 A :=
  g_met [.ref (ad 200), .int p1] (by decide) (Nat.le_of_ble_eq_true rfl) (fun p e s m below meth c ls C hW hl _ => t_X11_toFair C hB h hW va_S.rf hl)
theorem hv_X11_toFair : yX11_toFair.cls = RX11 ∧ yX11_toFair.cls ≠ "java/lang/invoke/MethodHandle" ∧ yX11_toFair.cls ≠ "java/lang/invoke/VarHandle" ∧ (parseMethodDescriptor yX11_toFair.desc).map (fun d => d.parameters.length) = some 1 := by decide +kernel
/-! DroveRoadsModel.knownAt -/
def f_X11_knownAt_l18 (N : Nat) (v2 : Int32) (v3 : Int32) (S : St) (k : Int32 → Option (Int32)) : Nat → Int32 → Int32 → Option (Int32)
  | 0, _, _ => none
  | n + 1, v4, v5 => if (gv S 200 7) ≤ v5 then (k v4) else (if v5 < 0 ∨ 30 ≤ ix v5 then none else if v2 < ((gv S 210 (ix v5)) + v3) then (bn (v5 + 1) fun x_7 => f_X11_knownAt_l18 N v2 v3 S k n v4 x_7) else (if v5 < 0 ∨ 30 ≤ ix v5 then none else bn (gv S 209 (ix v5)) fun x_9 => bn (v5 + 1) fun x_10 => f_X11_knownAt_l18 N v2 v3 S k n x_9 x_10))
set_option maxHeartbeats 4000000 in
theorem t_X11_knownAt_l18 (C : MC p s m args meth c cX11_knownAt 6 (some .int) RX11 g A) (hB : Lk L) {v2 : Int32} {v3 : Int32} {S : St} {r : Int32} {k : Int32 → Option (Int32)} (hk : ∀ (w4 : Int32), k w4 = some r → ∀ (H : Heap) (locs : List Loc) (ls : Array Slot), GW g A ad L S H → va_S A s.heap H locs → lv_has ls 6 [(4, .int w4)] → W p l e (rmk 3) s m args below meth c H locs 0 0 (MQ below (qi g A ad L r S) args s 0 0 A) (F0 m 60 ls [])) : ∀ (n : Nat) (v4 : Int32) (v5 : Int32), f_X11_knownAt_l18 N v2 v3 S k n v4 v5 = some r → ∀ (H : Heap) (locs : List Loc) (ls : Array Slot), GW g A ad L S H → va_S A s.heap H locs → lv_has ls 6 [(0, .ref (ad 200)), (2, .int v2), (3, .int v3), (4, .int v4), (5, .int v5)] → W p l e (rmk 3) s m args below meth c H locs 0 0 (MQ below (qi g A ad L r S) args s 0 0 A) (F0 m 18 ls []) := by
  obtain ⟨hx, hb, hml, hown, hts, hr, hlocks, hK, hN, hT⟩ := id C
  intro n
  induction n with
  | zero =>
    intro v4 v5 h
    have h : (none : Option (Int32)) = some r := h
    cases h
  | succ n ih =>
    intro v4 v5 h H locs ls hW hS hl
    rw [f_X11_knownAt_l18] at h
    refine lv_iload hx hb dX11_knownAt_18 (lv_at hl 4 rfl) ?_
    refine lv_aload_n hx hb dX11_knownAt_20 rfl (lv_at hl 0 rfl) ?_
    refine g_get (C := RX11) (T := TX11) (N := 67) (ci := 11) hx hb hts inX11 hown hK hW (hB 200 bb_200) kd_200 rfl 7 (by decide) mw_968 rfl rfl dX11_knownAt_21 ?_
    refine lv_icmp_ge (tgt := 60) hx hb dX11_knownAt_24 (by decide) (fun c_4 => ?_) (fun c_4 => ?_)
    · have h := it_t c_4 h
      exact hk _ h _ _ _ hW hS (lv_sub hl [3] rfl)
    · have h := it_f c_4 h
      refine lv_aload_n hx hb dX11_knownAt_27 rfl (lv_at hl 0 rfl) ?_
      refine g_get (C := RX11) (T := TX11) (N := 67) (ci := 11) hx hb hts inX11 hown hK hW (hB 200 bb_200) kd_200 rfl 9 (by decide) mw_970 rfl rfl dX11_knownAt_28 ?_
      refine lv_iload hx hb dX11_knownAt_31 (lv_at hl 4 rfl) ?_
      obtain ⟨hi_5, h⟩ := ck_n h
      refine g_iald hx hb hK hW (hB 210 bb_210) kd_210 hi_5 dX11_knownAt_33 ?_
      refine lv_iload_n hx hb dX11_knownAt_34 rfl (lv_at hl 2 rfl) ?_
      refine lv_iadd hx hb dX11_knownAt_35 ?_
      refine lv_iload_n hx hb dX11_knownAt_36 rfl (lv_at hl 1 rfl) ?_
      refine lv_icmp_gt (tgt := 50) hx hb dX11_knownAt_37 (by decide) (fun c_6 => ?_) (fun c_6 => ?_)
      · have h := it_t c_6 h
        refine lv_iload hx hb dX11_knownAt_50 (lv_at hl 3 rfl) ?_
        refine lv_istore (lv' := [(4, .int v4), (0, .ref (ad 200)), (2, .int v2), (3, .int v3), (5, .int v5)]) hx hb dX11_knownAt_52 hl (by decide) rfl (fun ls hl => ?_)
        obtain ⟨x_7, ex_7⟩ : ∃ z : Int32, z = v5 + 1 := ⟨_, rfl⟩
        have h := bn_at ex_7 h
        refine lv_iinc (v := x_7) (lv' := [(5, .int x_7), (4, .int v4), (0, .ref (ad 200)), (2, .int v2), (3, .int v3)]) hx hb dX11_knownAt_54 hl (k := 4) rfl (by rw [ex_7]; rfl) (by decide) rfl (fun ls hl => ?_)
        refine lv_goto (tgt := 18) hx hb dX11_knownAt_57 (by decide) ?_
        exact ih _ _ h _ _ _ hW hS (lv_sub hl [2, 3, 4, 1, 0] rfl)
      · have h := it_f c_6 h
        refine lv_aload_n hx hb dX11_knownAt_40 rfl (lv_at hl 0 rfl) ?_
        refine g_get (C := RX11) (T := TX11) (N := 67) (ci := 11) hx hb hts inX11 hown hK hW (hB 200 bb_200) kd_200 rfl 8 (by decide) mw_969 rfl rfl dX11_knownAt_41 ?_
        refine lv_iload hx hb dX11_knownAt_44 (lv_at hl 4 rfl) ?_
        obtain ⟨hi_8, h⟩ := ck_n h
        refine g_iald hx hb hK hW (hB 209 bb_209) kd_209 hi_8 dX11_knownAt_46 ?_
        refine lv_goto (tgt := 52) hx hb dX11_knownAt_47 (by decide) ?_
        refine lv_topi (fun x_9 ex_9 => ?_)
        have h := bn_at ex_9 h
        refine lv_istore (lv' := [(4, .int x_9), (0, .ref (ad 200)), (2, .int v2), (3, .int v3), (5, .int v5)]) hx hb dX11_knownAt_52 hl (by decide) rfl (fun ls hl => ?_)
        obtain ⟨x_10, ex_10⟩ : ∃ z : Int32, z = v5 + 1 := ⟨_, rfl⟩
        have h := bn_at ex_10 h
        refine lv_iinc (v := x_10) (lv' := [(5, .int x_10), (4, .int x_9), (0, .ref (ad 200)), (2, .int v2), (3, .int v3)]) hx hb dX11_knownAt_54 hl (k := 4) rfl (by rw [ex_10]; rfl) (by decide) rfl (fun ls hl => ?_)
        refine lv_goto (tgt := 18) hx hb dX11_knownAt_57 (by decide) ?_
        exact ih _ _ h _ _ _ hW hS (lv_sub hl [2, 3, 4, 1, 0] rfl)
def f_X11_knownAt (N : Nat) (S : St) (p1 : Int32) (p2 : Int32) : Option (Int32) := cl0 (f_X11_toFair N S p1) fun r_2 => bn ((r_2 + 39) / 40) fun x_3 => f_X11_knownAt_l18 N p2 x_3 S (fun x_11 => some x_11) N 0 0
set_option maxHeartbeats 4000000 in
theorem t_X11_knownAt (C : MC p s m args meth c cX11_knownAt 6 (some .int) RX11 g A) (hB : Lk L) {S : St} {r : Int32} {p1 : Int32} {p2 : Int32} (h : f_X11_knownAt N S p1 p2 = some r) {H : Heap} {locs : List Loc} {ls : Array Slot} (hW : GW g A ad L S H) (hS : va_S A s.heap H locs) (hl : lv_has ls 6 [(0, .ref (ad 200)), (1, .int p1), (2, .int p2)]) : W p l e (rmk 3) s m args below meth c H locs 0 0 (MQ below (qi g A ad L r S) args s 0 0 A) (F0 m 0 ls []) := by
  obtain ⟨hx, hb, hml, hown, hts, hr, hlocks, hK, hN, hT⟩ := id C
  unfold f_X11_knownAt at h
  refine lv_aload_n hx hb dX11_knownAt_0 rfl (lv_at hl 0 rfl) ?_
  refine lv_iload_n hx hb dX11_knownAt_1 rfl (lv_at hl 1 rfl) ?_
  obtain ⟨r_2, hc_1, h⟩ := cl0_ex h
  refine g_ci (g_runV (ci := 11) (o := 200) (As := [.int p1]) (rest := []) hx hb hml hown hts hK hN hT hS hW (c_X11_toFair hB hc_1) (hB 200 bb_200) kd_200 rfl (gw_V mw_1200 mw_1202 mw_38 mw_73 mw_1203) hv_X11_toFair rfl rfl rfl (rm_ok (by decide) (by decide)) hl.1 (Nat.le_of_ble_eq_true rfl) dX11_knownAt_2 rfl ⟨Nat.zero_le _, Nat.zero_le _⟩) hS (fun H locs hW hS => ?_)
  refine lv_bipush (v := 39) hx hb dX11_knownAt_5 (by decide) ?_
  refine lv_iadd hx hb dX11_knownAt_7 ?_
  refine lv_bipush (v := 40) hx hb dX11_knownAt_8 (by decide) ?_
  refine lv_idiv hx hb dX11_knownAt_10 (by decide) ?_
  refine lv_topi (fun x_3 ex_3 => ?_)
  have h := bn_at ex_3 h
  refine lv_istore_n (lv' := [(3, .int x_3), (0, .ref (ad 200)), (1, .int p1), (2, .int p2)]) hx hb dX11_knownAt_11 rfl hl (by decide) rfl (fun ls hl => ?_)
  refine lv_iconst (v := 0) hx hb dX11_knownAt_12 (by decide) ?_
  refine lv_istore (lv' := [(4, .int 0), (3, .int x_3), (0, .ref (ad 200)), (1, .int p1), (2, .int p2)]) hx hb dX11_knownAt_13 hl (by decide) rfl (fun ls hl => ?_)
  refine lv_iconst (v := 0) hx hb dX11_knownAt_15 (by decide) ?_
  refine lv_istore (lv' := [(5, .int 0), (4, .int 0), (3, .int x_3), (0, .ref (ad 200)), (1, .int p1), (2, .int p2)]) hx hb dX11_knownAt_16 hl (by decide) rfl (fun ls hl => ?_)
  refine t_X11_knownAt_l18 C hB ?_ _ _ _ h _ _ _ hW hS (lv_sub hl [3, 5, 2, 1, 0] rfl)
  intro x_11 h H locs ls hW hS hl
  refine lv_iload hx hb dX11_knownAt_60 (lv_at hl 0 rfl) ?_
  cases h
  exact g_iret hx hb hr hlocks hW hS dX11_knownAt_62
theorem c_X11_knownAt (hB : Lk L) {S : St} {r : Int32} {p1 : Int32} {p2 : Int32} (h : f_X11_knownAt N S p1 p2 = some r) : Met l yX11_knownAt (gws yX11_knownAt cX11_knownAt 6 (some .int)) (rmk 3) (va_Pc [.ref (ad 200), .int p1, .int p2] (WU g A ad L S)) (qi g A ad L r S) 0 0 A :=
  g_met [.ref (ad 200), .int p1, .int p2] (by decide) (Nat.le_of_ble_eq_true rfl) (fun p e s m below meth c ls C hW hl _ => t_X11_knownAt C hB h hW va_S.rf hl)
theorem hv_X11_knownAt : yX11_knownAt.cls = RX11 ∧ yX11_knownAt.cls ≠ "java/lang/invoke/MethodHandle" ∧ yX11_knownAt.cls ≠ "java/lang/invoke/VarHandle" ∧ (parseMethodDescriptor yX11_knownAt.desc).map (fun d => d.parameters.length) = some 2 := by decide +kernel
/-! DroveRoadsModel.known -/
def f_X11_known (N : Nat) (S : St) (p1 : Int32) : Option (Int32) := cl0 (f_X11_isStance S p1) fun r_2 => if r_2 = 0 then (some (-1)) else (cl0 (f_X11_knownAt N S p1 (gv S 200 0)) fun r_6 => some r_6)
set_option maxHeartbeats 4000000 in
theorem t_X11_known (C : MC p s m args meth c cX11_known 2 (some .int) RX11 g A) (hB : Lk L) {S : St} {r : Int32} {p1 : Int32} (h : f_X11_known N S p1 = some r) {H : Heap} {locs : List Loc} {ls : Array Slot} (hW : GW g A ad L S H) (hS : va_S A s.heap H locs) (hl : lv_has ls 2 [(0, .ref (ad 200)), (1, .int p1)]) : W p l e (rmk 4) s m args below meth c H locs 0 0 (MQ below (qi g A ad L r S) args s 0 0 A) (F0 m 0 ls []) := by
  obtain ⟨hx, hb, hml, hown, hts, hr, hlocks, hK, hN, hT⟩ := id C
  unfold f_X11_known at h
  refine lv_aload_n hx hb dX11_known_0 rfl (lv_at hl 0 rfl) ?_
  refine lv_iload_n hx hb dX11_known_1 rfl (lv_at hl 1 rfl) ?_
  obtain ⟨r_2, hc_1, h⟩ := cl0_ex h
  refine g_cz (g_runV (ci := 11) (o := 200) (As := [.int p1]) (rest := []) hx hb hml hown hts hK hN hT hS hW (c_X11_isStance hB hc_1) (hB 200 bb_200) kd_200 rfl (gw_V mw_1179 mw_1181 mw_35 mw_73 mw_1182) hv_X11_isStance rfl rfl rfl (rm_ok (by decide) (by decide)) hl.1 (Nat.le_of_ble_eq_true rfl) dX11_known_2 rfl ⟨Nat.zero_le _, Nat.zero_le _⟩) hS (fun hz_3 H locs hW hS => ?_)
  refine lv_if_eq (tgt := 20) hx hb dX11_known_5 (by decide) (fun c_4 => ?_) (fun c_4 => ?_)
  · have h := it_t c_4 h
    refine lv_iconst (v := (-1)) hx hb dX11_known_20 (by decide) ?_
    cases h
    exact g_iret hx hb hr hlocks hW hS dX11_known_21
  · have h := it_f c_4 h
    refine lv_aload_n hx hb dX11_known_8 rfl (lv_at hl 0 rfl) ?_
    refine lv_iload_n hx hb dX11_known_9 rfl (lv_at hl 1 rfl) ?_
    refine lv_aload_n hx hb dX11_known_10 rfl (lv_at hl 0 rfl) ?_
    refine g_get (C := RX11) (T := TX11) (N := 67) (ci := 11) hx hb hts inX11 hown hK hW (hB 200 bb_200) kd_200 rfl 0 (by decide) mw_961 rfl rfl dX11_known_11 ?_
    obtain ⟨r_6, hc_5, h⟩ := cl0_ex h
    refine g_ci (g_runV (ci := 11) (o := 200) (As := [.int p1, .int (gv S 200 0)]) (rest := []) hx hb hml hown hts hK hN hT hS hW (c_X11_knownAt hB hc_5) (hB 200 bb_200) kd_200 rfl (gw_V mw_1196 mw_1198 mw_37 mw_73 mw_1199) hv_X11_knownAt rfl rfl rfl (rm_ok (by decide) (by decide)) hl.1 (Nat.le_of_ble_eq_true rfl) dX11_known_14 rfl ⟨Nat.zero_le _, Nat.zero_le _⟩) hS (fun H locs hW hS => ?_)
    refine lv_goto (tgt := 21) hx hb dX11_known_17 (by decide) ?_
    cases h
    exact g_iret hx hb hr hlocks hW hS dX11_known_21
theorem c_X11_known (hB : Lk L) {S : St} {r : Int32} {p1 : Int32} (h : f_X11_known N S p1 = some r) : Met l yX11_known (gws yX11_known cX11_known 2 (some .int)) (rmk 4) (va_Pc [.ref (ad 200), .int p1] (WU g A ad L S)) (qi g A ad L r S) 0 0 A :=
  g_met [.ref (ad 200), .int p1] (by decide) (Nat.le_of_ble_eq_true rfl) (fun p e s m below meth c ls C hW hl _ => t_X11_known C hB h hW va_S.rf hl)
theorem hv_X11_known : yX11_known.cls = RX11 ∧ yX11_known.cls ≠ "java/lang/invoke/MethodHandle" ∧ yX11_known.cls ≠ "java/lang/invoke/VarHandle" ∧ (parseMethodDescriptor yX11_known.desc).map (fun d => d.parameters.length) = some 1 := by decide +kernel
/-! DroveRoadsModel.herd -/
def f_X11_herd (S : St) (p1 : Int32) (p2 : Int32) (p3 : Int32) (p4 : Int32) : Option (Int32 × St) := if (gv S 200 10) = 6 then (some ((-1), S)) else (if p1 < 1 then (some ((-1), S)) else (if 500 < p1 then (some ((-1), S)) else (if p2 < 100 then (some ((-1), S)) else (if 600 < p2 then (some ((-1), S)) else (if p3 < 1 then (some ((-1), S)) else (if 20 < p3 then (some ((-1), S)) else (if p4 < (gv S 200 0) then (some ((-1), S)) else (if p4 ≤ 10000 then (bn (gv S 200 10) fun x_10 => if x_10 < 0 ∨ 6 ≤ ix x_10 then none else bn (sv S 212 (ix x_10) p1) fun S_12 => if x_10 < 0 ∨ 6 ≤ ix x_10 then none else bn (sv S_12 213 (ix x_10) p2) fun S_14 => if x_10 < 0 ∨ 6 ≤ ix x_10 then none else bn (sv S_14 214 (ix x_10) p3) fun S_16 => if x_10 < 0 ∨ 6 ≤ ix x_10 then none else bn (sv S_16 215 (ix x_10) p4) fun S_18 => bn (sv S_18 200 10 ((gv S_18 200 10) + 1)) fun S_19 => some (x_10, S_19)) else (some ((-1), S))))))))))
set_option maxHeartbeats 4000000 in
theorem t_X11_herd (C : MC p s m args meth c cX11_herd 6 (some .int) RX11 g A) (hB : Lk L) {S : St} {r : Int32} {S9 : St} {p1 : Int32} {p2 : Int32} {p3 : Int32} {p4 : Int32} (h : f_X11_herd S p1 p2 p3 p4 = some (r, S9)) {H : Heap} {locs : List Loc} {ls : Array Slot} (hW : GW g A ad L S H) (hS : va_S A s.heap H locs) (hl : lv_has ls 6 [(0, .ref (ad 200)), (1, .int p1), (2, .int p2), (3, .int p3), (4, .int p4)]) : W p l e (rmk 1) s m args below meth c H locs 0 0 (MQ below (qi g A ad L r S9) args s 0 0 A) (F0 m 0 ls []) := by
  obtain ⟨hx, hb, hml, hown, hts, hr, hlocks, hK, hN, hT⟩ := id C
  unfold f_X11_herd at h
  refine lv_aload_n hx hb dX11_herd_0 rfl (lv_at hl 0 rfl) ?_
  refine g_get (C := RX11) (T := TX11) (N := 67) (ci := 11) hx hb hts inX11 hown hK hW (hB 200 bb_200) kd_200 rfl 10 (by decide) mw_971 rfl rfl dX11_herd_1 ?_
  refine lv_bipush (v := 6) hx hb dX11_herd_4 (by decide) ?_
  refine lv_icmp_eq (tgt := 62) hx hb dX11_herd_6 (by decide) (fun c_1 => ?_) (fun c_1 => ?_)
  · have h := it_t c_1 h
    refine lv_iconst (v := (-1)) hx hb dX11_herd_62 (by decide) ?_
    cases h
    exact g_iret hx hb hr hlocks hW hS dX11_herd_63
  · have h := it_f c_1 h
    refine lv_iload_n hx hb dX11_herd_9 rfl (lv_at hl 1 rfl) ?_
    refine lv_iconst (v := 1) hx hb dX11_herd_10 (by decide) ?_
    refine lv_icmp_lt (tgt := 62) hx hb dX11_herd_11 (by decide) (fun c_2 => ?_) (fun c_2 => ?_)
    · have h := it_t c_2 h
      refine lv_iconst (v := (-1)) hx hb dX11_herd_62 (by decide) ?_
      cases h
      exact g_iret hx hb hr hlocks hW hS dX11_herd_63
    · have h := it_f c_2 h
      refine lv_iload_n hx hb dX11_herd_14 rfl (lv_at hl 1 rfl) ?_
      refine lv_sipush (v := 500) hx hb dX11_herd_15 (by decide) ?_
      refine lv_icmp_gt (tgt := 62) hx hb dX11_herd_18 (by decide) (fun c_3 => ?_) (fun c_3 => ?_)
      · have h := it_t c_3 h
        refine lv_iconst (v := (-1)) hx hb dX11_herd_62 (by decide) ?_
        cases h
        exact g_iret hx hb hr hlocks hW hS dX11_herd_63
      · have h := it_f c_3 h
        refine lv_iload_n hx hb dX11_herd_21 rfl (lv_at hl 2 rfl) ?_
        refine lv_bipush (v := 100) hx hb dX11_herd_22 (by decide) ?_
        refine lv_icmp_lt (tgt := 62) hx hb dX11_herd_24 (by decide) (fun c_4 => ?_) (fun c_4 => ?_)
        · have h := it_t c_4 h
          refine lv_iconst (v := (-1)) hx hb dX11_herd_62 (by decide) ?_
          cases h
          exact g_iret hx hb hr hlocks hW hS dX11_herd_63
        · have h := it_f c_4 h
          refine lv_iload_n hx hb dX11_herd_27 rfl (lv_at hl 2 rfl) ?_
          refine lv_sipush (v := 600) hx hb dX11_herd_28 (by decide) ?_
          refine lv_icmp_gt (tgt := 62) hx hb dX11_herd_31 (by decide) (fun c_5 => ?_) (fun c_5 => ?_)
          · have h := it_t c_5 h
            refine lv_iconst (v := (-1)) hx hb dX11_herd_62 (by decide) ?_
            cases h
            exact g_iret hx hb hr hlocks hW hS dX11_herd_63
          · have h := it_f c_5 h
            refine lv_iload_n hx hb dX11_herd_34 rfl (lv_at hl 3 rfl) ?_
            refine lv_iconst (v := 1) hx hb dX11_herd_35 (by decide) ?_
            refine lv_icmp_lt (tgt := 62) hx hb dX11_herd_36 (by decide) (fun c_6 => ?_) (fun c_6 => ?_)
            · have h := it_t c_6 h
              refine lv_iconst (v := (-1)) hx hb dX11_herd_62 (by decide) ?_
              cases h
              exact g_iret hx hb hr hlocks hW hS dX11_herd_63
            · have h := it_f c_6 h
              refine lv_iload_n hx hb dX11_herd_39 rfl (lv_at hl 3 rfl) ?_
              refine lv_bipush (v := 20) hx hb dX11_herd_40 (by decide) ?_
              refine lv_icmp_gt (tgt := 62) hx hb dX11_herd_42 (by decide) (fun c_7 => ?_) (fun c_7 => ?_)
              · have h := it_t c_7 h
                refine lv_iconst (v := (-1)) hx hb dX11_herd_62 (by decide) ?_
                cases h
                exact g_iret hx hb hr hlocks hW hS dX11_herd_63
              · have h := it_f c_7 h
                refine lv_iload hx hb dX11_herd_45 (lv_at hl 4 rfl) ?_
                refine lv_aload_n hx hb dX11_herd_47 rfl (lv_at hl 0 rfl) ?_
                refine g_get (C := RX11) (T := TX11) (N := 67) (ci := 11) hx hb hts inX11 hown hK hW (hB 200 bb_200) kd_200 rfl 0 (by decide) mw_961 rfl rfl dX11_herd_48 ?_
                refine lv_icmp_lt (tgt := 62) hx hb dX11_herd_51 (by decide) (fun c_8 => ?_) (fun c_8 => ?_)
                · have h := it_t c_8 h
                  refine lv_iconst (v := (-1)) hx hb dX11_herd_62 (by decide) ?_
                  cases h
                  exact g_iret hx hb hr hlocks hW hS dX11_herd_63
                · have h := it_f c_8 h
                  refine lv_iload hx hb dX11_herd_54 (lv_at hl 4 rfl) ?_
                  refine lv_sipush (v := 10000) hx hb dX11_herd_56 (by decide) ?_
                  refine lv_icmp_le (tgt := 64) hx hb dX11_herd_59 (by decide) (fun c_9 => ?_) (fun c_9 => ?_)
                  · have h := it_t c_9 h
                    refine lv_aload_n hx hb dX11_herd_64 rfl (lv_at hl 0 rfl) ?_
                    refine g_get (C := RX11) (T := TX11) (N := 67) (ci := 11) hx hb hts inX11 hown hK hW (hB 200 bb_200) kd_200 rfl 10 (by decide) mw_971 rfl rfl dX11_herd_65 ?_
                    refine lv_topi (fun x_10 ex_10 => ?_)
                    have h := bn_at ex_10 h
                    refine lv_istore (lv' := [(5, .int x_10), (0, .ref (ad 200)), (1, .int p1), (2, .int p2), (3, .int p3), (4, .int p4)]) hx hb dX11_herd_68 hl (by decide) rfl (fun ls hl => ?_)
                    refine lv_aload_n hx hb dX11_herd_70 rfl (lv_at hl 1 rfl) ?_
                    refine g_get (C := RX11) (T := TX11) (N := 67) (ci := 11) hx hb hts inX11 hown hK hW (hB 200 bb_200) kd_200 rfl 11 (by decide) mw_972 rfl rfl dX11_herd_71 ?_
                    refine lv_iload hx hb dX11_herd_74 (lv_at hl 0 rfl) ?_
                    refine lv_iload_n hx hb dX11_herd_76 rfl (lv_at hl 2 rfl) ?_
                    obtain ⟨hi_11, h⟩ := ck_n h
                    refine g_iast hx hb hK hW hS (hB 212 bb_212) (fun _ => kd_212) hi_11 dX11_herd_77 (fun S_12 eS_12 H locs hW hS => ?_)
                    have h := bn_at eS_12 h
                    refine lv_aload_n hx hb dX11_herd_78 rfl (lv_at hl 1 rfl) ?_
                    refine g_get (C := RX11) (T := TX11) (N := 67) (ci := 11) hx hb hts inX11 hown hK hW (hB 200 bb_200) kd_200 rfl 12 (by decide) mw_973 rfl rfl dX11_herd_79 ?_
                    refine lv_iload hx hb dX11_herd_82 (lv_at hl 0 rfl) ?_
                    refine lv_iload_n hx hb dX11_herd_84 rfl (lv_at hl 3 rfl) ?_
                    obtain ⟨hi_13, h⟩ := ck_n h
                    refine g_iast hx hb hK hW hS (hB 213 bb_213) (fun _ => kd_213) hi_13 dX11_herd_85 (fun S_14 eS_14 H locs hW hS => ?_)
                    have h := bn_at eS_14 h
                    refine lv_aload_n hx hb dX11_herd_86 rfl (lv_at hl 1 rfl) ?_
                    refine g_get (C := RX11) (T := TX11) (N := 67) (ci := 11) hx hb hts inX11 hown hK hW (hB 200 bb_200) kd_200 rfl 13 (by decide) mw_974 rfl rfl dX11_herd_87 ?_
                    refine lv_iload hx hb dX11_herd_90 (lv_at hl 0 rfl) ?_
                    refine lv_iload_n hx hb dX11_herd_92 rfl (lv_at hl 4 rfl) ?_
                    obtain ⟨hi_15, h⟩ := ck_n h
                    refine g_iast hx hb hK hW hS (hB 214 bb_214) (fun _ => kd_214) hi_15 dX11_herd_93 (fun S_16 eS_16 H locs hW hS => ?_)
                    have h := bn_at eS_16 h
                    refine lv_aload_n hx hb dX11_herd_94 rfl (lv_at hl 1 rfl) ?_
                    refine g_get (C := RX11) (T := TX11) (N := 67) (ci := 11) hx hb hts inX11 hown hK hW (hB 200 bb_200) kd_200 rfl 14 (by decide) mw_975 rfl rfl dX11_herd_95 ?_
                    refine lv_iload hx hb dX11_herd_98 (lv_at hl 0 rfl) ?_
                    refine lv_iload hx hb dX11_herd_100 (lv_at hl 5 rfl) ?_
                    obtain ⟨hi_17, h⟩ := ck_n h
                    refine g_iast hx hb hK hW hS (hB 215 bb_215) (fun _ => kd_215) hi_17 dX11_herd_102 (fun S_18 eS_18 H locs hW hS => ?_)
                    have h := bn_at eS_18 h
                    refine lv_aload_n hx hb dX11_herd_103 rfl (lv_at hl 1 rfl) ?_
                    refine lv_dup hx hb dX11_herd_104 rfl ?_
                    refine g_get (C := RX11) (T := TX11) (N := 67) (ci := 11) hx hb hts inX11 hown hK hW (hB 200 bb_200) kd_200 rfl 10 (by decide) mw_971 rfl rfl dX11_herd_105 ?_
                    refine lv_iconst (v := 1) hx hb dX11_herd_108 (by decide) ?_
                    refine lv_iadd hx hb dX11_herd_109 ?_
                    refine g_put (C := RX11) (T := TX11) (N := 67) (ci := 11) hx hb hts inX11 tyX11 tyX11_ok nmX11 hown hK hW hS (hB 200 bb_200) kd_200 rfl 10 (by decide) mw_971 rfl rfl rfl rfl (Nat.le_of_ble_eq_true rfl) (sv S_18 200 10 ((gv S_18 200 10) + 1)) (ps_200_10) cellOf_sv dX11_herd_110 (fun S_19 eS_19 H locs hW hS => ?_)
                    have h := bn_at eS_19 h
                    refine lv_iload hx hb dX11_herd_113 (lv_at hl 0 rfl) ?_
                    cases h
                    exact g_iret hx hb hr hlocks hW hS dX11_herd_115
                  · have h := it_f c_9 h
                    refine lv_iconst (v := (-1)) hx hb dX11_herd_62 (by decide) ?_
                    cases h
                    exact g_iret hx hb hr hlocks hW hS dX11_herd_63
theorem c_X11_herd (hB : Lk L) {S : St} {r : Int32} {S9 : St} {p1 : Int32} {p2 : Int32} {p3 : Int32} {p4 : Int32} (h : f_X11_herd S p1 p2 p3 p4 = some (r, S9)) : Met l yX11_herd (gws yX11_herd cX11_herd 6 (some .int)) (rmk 1) (va_Pc [.ref (ad 200), .int p1, .int p2, .int p3, .int p4] (WU g A ad L S)) (qi g A ad L r S9) 0 0 A :=
  g_met [.ref (ad 200), .int p1, .int p2, .int p3, .int p4] (by decide) (Nat.le_of_ble_eq_true rfl) (fun p e s m below meth c ls C hW hl _ => t_X11_herd C hB h hW va_S.rf hl)
theorem hv_X11_herd : yX11_herd.cls = RX11 ∧ yX11_herd.cls ≠ "java/lang/invoke/MethodHandle" ∧ yX11_herd.cls ≠ "java/lang/invoke/VarHandle" ∧ (parseMethodDescriptor yX11_herd.desc).map (fun d => d.parameters.length) = some 4 := by decide +kernel
/-! DroveRoadsModel.isHerd -/
def f_X11_isHerd (S : St) (p1 : Int32) : Option (Int32) := if p1 < 0 then (some 0) else (if (gv S 200 10) ≤ p1 then (some 0) else (some 1))
set_option maxHeartbeats 4000000 in
theorem t_X11_isHerd (C : MC p s m args meth c cX11_isHerd 2 (some .boolean) RX11 g A) (hB : Lk L) {S : St} {r : Int32} {p1 : Int32} (h : f_X11_isHerd S p1 = some r) {H : Heap} {locs : List Loc} {ls : Array Slot} (hW : GW g A ad L S H) (hS : va_S A s.heap H locs) (hl : lv_has ls 2 [(0, .ref (ad 200)), (1, .int p1)]) : W p l e (rmk 1) s m args below meth c H locs 0 0 (MQ below (qz g A ad L r S) args s 0 0 A) (F0 m 0 ls []) := by
  obtain ⟨hx, hb, hml, hown, hts, hr, hlocks, hK, hN, hT⟩ := id C
  unfold f_X11_isHerd at h
  refine lv_iload_n hx hb dX11_isHerd_0 rfl (lv_at hl 1 rfl) ?_
  refine lv_if_lt (tgt := 16) hx hb dX11_isHerd_1 (by decide) (fun c_1 => ?_) (fun c_1 => ?_)
  · have h := it_t c_1 h
    refine lv_iconst (v := 0) hx hb dX11_isHerd_16 (by decide) ?_
    cases h
    exact g_zret hx hb hr hlocks hW hS (rfl) dX11_isHerd_17
  · have h := it_f c_1 h
    refine lv_iload_n hx hb dX11_isHerd_4 rfl (lv_at hl 1 rfl) ?_
    refine lv_aload_n hx hb dX11_isHerd_5 rfl (lv_at hl 0 rfl) ?_
    refine g_get (C := RX11) (T := TX11) (N := 67) (ci := 11) hx hb hts inX11 hown hK hW (hB 200 bb_200) kd_200 rfl 10 (by decide) mw_971 rfl rfl dX11_isHerd_6 ?_
    refine lv_icmp_ge (tgt := 16) hx hb dX11_isHerd_9 (by decide) (fun c_2 => ?_) (fun c_2 => ?_)
    · have h := it_t c_2 h
      refine lv_iconst (v := 0) hx hb dX11_isHerd_16 (by decide) ?_
      cases h
      exact g_zret hx hb hr hlocks hW hS (rfl) dX11_isHerd_17
    · have h := it_f c_2 h
      refine lv_iconst (v := 1) hx hb dX11_isHerd_12 (by decide) ?_
      refine lv_goto (tgt := 17) hx hb dX11_isHerd_13 (by decide) ?_
      cases h
      exact g_zret hx hb hr hlocks hW hS (rfl) dX11_isHerd_17
theorem c_X11_isHerd (hB : Lk L) {S : St} {r : Int32} {p1 : Int32} (h : f_X11_isHerd S p1 = some r) : Met l yX11_isHerd (gws yX11_isHerd cX11_isHerd 2 (some .boolean)) (rmk 1) (va_Pc [.ref (ad 200), .int p1] (WU g A ad L S)) (qz g A ad L r S) 0 0 A :=
  g_met [.ref (ad 200), .int p1] (by decide) (Nat.le_of_ble_eq_true rfl) (fun p e s m below meth c ls C hW hl _ => t_X11_isHerd C hB h hW va_S.rf hl)
theorem hv_X11_isHerd : yX11_isHerd.cls = RX11 ∧ yX11_isHerd.cls ≠ "java/lang/invoke/MethodHandle" ∧ yX11_isHerd.cls ≠ "java/lang/invoke/VarHandle" ∧ (parseMethodDescriptor yX11_isHerd.desc).map (fun d => d.parameters.length) = some 1 := by decide +kernel
/-! DroveRoadsModel.of -/
def f_X11_of (S : St) (p1 : Int32) (p2 : Int32) : Option (Int32) := cl0 (f_X11_isHerd S p1) fun r_2 => if r_2 = 0 then (some (-1)) else (if p2 = 0 then (if p1 < 0 ∨ 6 ≤ ix p1 then none else some (gv S 212 (ix p1))) else if p2 = 1 then (if p1 < 0 ∨ 6 ≤ ix p1 then none else some (gv S 213 (ix p1))) else if p2 = 2 then (if p1 < 0 ∨ 6 ≤ ix p1 then none else some (gv S 216 (ix p1))) else if p2 = 3 then (if p1 < 0 ∨ 6 ≤ ix p1 then none else some (gv S 217 (ix p1))) else if p2 = 4 then (if p1 < 0 ∨ 6 ≤ ix p1 then none else some (gv S 218 (ix p1))) else if p2 = 5 then (if p1 < 0 ∨ 6 ≤ ix p1 then none else some (gv S 219 (ix p1))) else if p2 = 6 then (if p1 < 0 ∨ 6 ≤ ix p1 then none else some (gv S 220 (ix p1))) else if p2 = 7 then (if p1 < 0 ∨ 6 ≤ ix p1 then none else some (gv S 221 (ix p1))) else if p2 = 8 then (if p1 < 0 ∨ 6 ≤ ix p1 then none else some (gv S 228 (ix p1))) else if p2 = 9 then (if p1 < 0 ∨ 6 ≤ ix p1 then none else some (gv S 222 (ix p1))) else (some (-1)))
set_option maxHeartbeats 4000000 in
theorem t_X11_of (C : MC p s m args meth c cX11_of 3 (some .int) RX11 g A) (hB : Lk L) {S : St} {r : Int32} {p1 : Int32} {p2 : Int32} (h : f_X11_of S p1 p2 = some r) {H : Heap} {locs : List Loc} {ls : Array Slot} (hW : GW g A ad L S H) (hS : va_S A s.heap H locs) (hl : lv_has ls 3 [(0, .ref (ad 200)), (1, .int p1), (2, .int p2)]) : W p l e (rmk 2) s m args below meth c H locs 0 0 (MQ below (qi g A ad L r S) args s 0 0 A) (F0 m 0 ls []) := by
  obtain ⟨hx, hb, hml, hown, hts, hr, hlocks, hK, hN, hT⟩ := id C
  unfold f_X11_of at h
  refine lv_aload_n hx hb dX11_of_0 rfl (lv_at hl 0 rfl) ?_
  refine lv_iload_n hx hb dX11_of_1 rfl (lv_at hl 1 rfl) ?_
  obtain ⟨r_2, hc_1, h⟩ := cl0_ex h
  refine g_cz (g_runV (ci := 11) (o := 200) (As := [.int p1]) (rest := []) hx hb hml hown hts hK hN hT hS hW (c_X11_isHerd hB hc_1) (hB 200 bb_200) kd_200 rfl (gw_V mw_1212 mw_1214 mw_39 mw_73 mw_1215) hv_X11_isHerd rfl rfl rfl (rm_ok (by decide) (by decide)) hl.1 (Nat.le_of_ble_eq_true rfl) dX11_of_2 rfl ⟨Nat.zero_le _, Nat.zero_le _⟩) hS (fun hz_3 H locs hW hS => ?_)
  refine lv_if_ne (tgt := 10) hx hb dX11_of_5 (by decide) (fun c_4 => ?_) (fun c_4 => ?_)
  · have h := it_f c_4 h
    refine lv_iload_n hx hb dX11_of_10 rfl (lv_at hl 2 rfl) ?_
    by_cases c_5 : p2 = 0
    · have h := it_t c_5 h
      refine lv_tableIn (tgt := 64) hx hb dX11_of_11 (by rw [c_5]; decide) (by rw [c_5]; decide) (by rw [c_5]; rfl) (by decide) ?_
      refine lv_aload_n hx hb dX11_of_64 rfl (lv_at hl 0 rfl) ?_
      refine g_get (C := RX11) (T := TX11) (N := 67) (ci := 11) hx hb hts inX11 hown hK hW (hB 200 bb_200) kd_200 rfl 11 (by decide) mw_972 rfl rfl dX11_of_65 ?_
      refine lv_iload_n hx hb dX11_of_68 rfl (lv_at hl 1 rfl) ?_
      obtain ⟨hi_6, h⟩ := ck_n h
      refine g_iald hx hb hK hW (hB 212 bb_212) kd_212 hi_6 dX11_of_69 ?_
      cases h
      exact g_iret hx hb hr hlocks hW hS dX11_of_70
    have h := it_f c_5 h
    by_cases c_7 : p2 = 1
    · have h := it_t c_7 h
      refine lv_tableIn (tgt := 71) hx hb dX11_of_11 (by rw [c_7]; decide) (by rw [c_7]; decide) (by rw [c_7]; rfl) (by decide) ?_
      refine lv_aload_n hx hb dX11_of_71 rfl (lv_at hl 0 rfl) ?_
      refine g_get (C := RX11) (T := TX11) (N := 67) (ci := 11) hx hb hts inX11 hown hK hW (hB 200 bb_200) kd_200 rfl 12 (by decide) mw_973 rfl rfl dX11_of_72 ?_
      refine lv_iload_n hx hb dX11_of_75 rfl (lv_at hl 1 rfl) ?_
      obtain ⟨hi_8, h⟩ := ck_n h
      refine g_iald hx hb hK hW (hB 213 bb_213) kd_213 hi_8 dX11_of_76 ?_
      cases h
      exact g_iret hx hb hr hlocks hW hS dX11_of_77
    have h := it_f c_7 h
    by_cases c_9 : p2 = 2
    · have h := it_t c_9 h
      refine lv_tableIn (tgt := 78) hx hb dX11_of_11 (by rw [c_9]; decide) (by rw [c_9]; decide) (by rw [c_9]; rfl) (by decide) ?_
      refine lv_aload_n hx hb dX11_of_78 rfl (lv_at hl 0 rfl) ?_
      refine g_get (C := RX11) (T := TX11) (N := 67) (ci := 11) hx hb hts inX11 hown hK hW (hB 200 bb_200) kd_200 rfl 15 (by decide) mw_976 rfl rfl dX11_of_79 ?_
      refine lv_iload_n hx hb dX11_of_82 rfl (lv_at hl 1 rfl) ?_
      obtain ⟨hi_10, h⟩ := ck_n h
      refine g_iald hx hb hK hW (hB 216 bb_216) kd_216 hi_10 dX11_of_83 ?_
      cases h
      exact g_iret hx hb hr hlocks hW hS dX11_of_84
    have h := it_f c_9 h
    by_cases c_11 : p2 = 3
    · have h := it_t c_11 h
      refine lv_tableIn (tgt := 85) hx hb dX11_of_11 (by rw [c_11]; decide) (by rw [c_11]; decide) (by rw [c_11]; rfl) (by decide) ?_
      refine lv_aload_n hx hb dX11_of_85 rfl (lv_at hl 0 rfl) ?_
      refine g_get (C := RX11) (T := TX11) (N := 67) (ci := 11) hx hb hts inX11 hown hK hW (hB 200 bb_200) kd_200 rfl 16 (by decide) mw_977 rfl rfl dX11_of_86 ?_
      refine lv_iload_n hx hb dX11_of_89 rfl (lv_at hl 1 rfl) ?_
      obtain ⟨hi_12, h⟩ := ck_n h
      refine g_iald hx hb hK hW (hB 217 bb_217) kd_217 hi_12 dX11_of_90 ?_
      cases h
      exact g_iret hx hb hr hlocks hW hS dX11_of_91
    have h := it_f c_11 h
    by_cases c_13 : p2 = 4
    · have h := it_t c_13 h
      refine lv_tableIn (tgt := 92) hx hb dX11_of_11 (by rw [c_13]; decide) (by rw [c_13]; decide) (by rw [c_13]; rfl) (by decide) ?_
      refine lv_aload_n hx hb dX11_of_92 rfl (lv_at hl 0 rfl) ?_
      refine g_get (C := RX11) (T := TX11) (N := 67) (ci := 11) hx hb hts inX11 hown hK hW (hB 200 bb_200) kd_200 rfl 17 (by decide) mw_978 rfl rfl dX11_of_93 ?_
      refine lv_iload_n hx hb dX11_of_96 rfl (lv_at hl 1 rfl) ?_
      obtain ⟨hi_14, h⟩ := ck_n h
      refine g_iald hx hb hK hW (hB 218 bb_218) kd_218 hi_14 dX11_of_97 ?_
      cases h
      exact g_iret hx hb hr hlocks hW hS dX11_of_98
    have h := it_f c_13 h
    by_cases c_15 : p2 = 5
    · have h := it_t c_15 h
      refine lv_tableIn (tgt := 99) hx hb dX11_of_11 (by rw [c_15]; decide) (by rw [c_15]; decide) (by rw [c_15]; rfl) (by decide) ?_
      refine lv_aload_n hx hb dX11_of_99 rfl (lv_at hl 0 rfl) ?_
      refine g_get (C := RX11) (T := TX11) (N := 67) (ci := 11) hx hb hts inX11 hown hK hW (hB 200 bb_200) kd_200 rfl 18 (by decide) mw_979 rfl rfl dX11_of_100 ?_
      refine lv_iload_n hx hb dX11_of_103 rfl (lv_at hl 1 rfl) ?_
      obtain ⟨hi_16, h⟩ := ck_n h
      refine g_iald hx hb hK hW (hB 219 bb_219) kd_219 hi_16 dX11_of_104 ?_
      cases h
      exact g_iret hx hb hr hlocks hW hS dX11_of_105
    have h := it_f c_15 h
    by_cases c_17 : p2 = 6
    · have h := it_t c_17 h
      refine lv_tableIn (tgt := 106) hx hb dX11_of_11 (by rw [c_17]; decide) (by rw [c_17]; decide) (by rw [c_17]; rfl) (by decide) ?_
      refine lv_aload_n hx hb dX11_of_106 rfl (lv_at hl 0 rfl) ?_
      refine g_get (C := RX11) (T := TX11) (N := 67) (ci := 11) hx hb hts inX11 hown hK hW (hB 200 bb_200) kd_200 rfl 19 (by decide) mw_980 rfl rfl dX11_of_107 ?_
      refine lv_iload_n hx hb dX11_of_110 rfl (lv_at hl 1 rfl) ?_
      obtain ⟨hi_18, h⟩ := ck_n h
      refine g_iald hx hb hK hW (hB 220 bb_220) kd_220 hi_18 dX11_of_111 ?_
      cases h
      exact g_iret hx hb hr hlocks hW hS dX11_of_112
    have h := it_f c_17 h
    by_cases c_19 : p2 = 7
    · have h := it_t c_19 h
      refine lv_tableIn (tgt := 113) hx hb dX11_of_11 (by rw [c_19]; decide) (by rw [c_19]; decide) (by rw [c_19]; rfl) (by decide) ?_
      refine lv_aload_n hx hb dX11_of_113 rfl (lv_at hl 0 rfl) ?_
      refine g_get (C := RX11) (T := TX11) (N := 67) (ci := 11) hx hb hts inX11 hown hK hW (hB 200 bb_200) kd_200 rfl 20 (by decide) mw_981 rfl rfl dX11_of_114 ?_
      refine lv_iload_n hx hb dX11_of_117 rfl (lv_at hl 1 rfl) ?_
      obtain ⟨hi_20, h⟩ := ck_n h
      refine g_iald hx hb hK hW (hB 221 bb_221) kd_221 hi_20 dX11_of_118 ?_
      cases h
      exact g_iret hx hb hr hlocks hW hS dX11_of_119
    have h := it_f c_19 h
    by_cases c_21 : p2 = 8
    · have h := it_t c_21 h
      refine lv_tableIn (tgt := 120) hx hb dX11_of_11 (by rw [c_21]; decide) (by rw [c_21]; decide) (by rw [c_21]; rfl) (by decide) ?_
      refine lv_aload_n hx hb dX11_of_120 rfl (lv_at hl 0 rfl) ?_
      refine g_get (C := RX11) (T := TX11) (N := 67) (ci := 11) hx hb hts inX11 hown hK hW (hB 200 bb_200) kd_200 rfl 27 (by decide) mw_988 rfl rfl dX11_of_121 ?_
      refine lv_iload_n hx hb dX11_of_124 rfl (lv_at hl 1 rfl) ?_
      obtain ⟨hi_22, h⟩ := ck_n h
      refine g_iald hx hb hK hW (hB 228 bb_228) kd_228 hi_22 dX11_of_125 ?_
      cases h
      exact g_iret hx hb hr hlocks hW hS dX11_of_126
    have h := it_f c_21 h
    by_cases c_23 : p2 = 9
    · have h := it_t c_23 h
      refine lv_tableIn (tgt := 127) hx hb dX11_of_11 (by rw [c_23]; decide) (by rw [c_23]; decide) (by rw [c_23]; rfl) (by decide) ?_
      refine lv_aload_n hx hb dX11_of_127 rfl (lv_at hl 0 rfl) ?_
      refine g_get (C := RX11) (T := TX11) (N := 67) (ci := 11) hx hb hts inX11 hown hK hW (hB 200 bb_200) kd_200 rfl 21 (by decide) mw_982 rfl rfl dX11_of_128 ?_
      refine lv_iload_n hx hb dX11_of_131 rfl (lv_at hl 1 rfl) ?_
      obtain ⟨hi_24, h⟩ := ck_n h
      refine g_iald hx hb hK hW (hB 222 bb_222) kd_222 hi_24 dX11_of_132 ?_
      cases h
      exact g_iret hx hb hr hlocks hW hS dX11_of_133
    have h := it_f c_23 h
    have nc_5 := lv_neT c_5 (a := 0) rfl
    have nc_7 := lv_neT c_7 (a := 1) rfl
    have nc_9 := lv_neT c_9 (a := 2) rfl
    have nc_11 := lv_neT c_11 (a := 3) rfl
    have nc_13 := lv_neT c_13 (a := 4) rfl
    have nc_15 := lv_neT c_15 (a := 5) rfl
    have nc_17 := lv_neT c_17 (a := 6) rfl
    have nc_19 := lv_neT c_19 (a := 7) rfl
    have nc_21 := lv_neT c_21 (a := 8) rfl
    have nc_23 := lv_neT c_23 (a := 9) rfl
    refine lv_tableOut (tgt := 134) hx hb dX11_of_11 (by omega) (by decide) ?_
    refine lv_iconst (v := (-1)) hx hb dX11_of_134 (by decide) ?_
    cases h
    exact g_iret hx hb hr hlocks hW hS dX11_of_135
  · have h := it_t c_4 h
    refine lv_iconst (v := (-1)) hx hb dX11_of_8 (by decide) ?_
    cases h
    exact g_iret hx hb hr hlocks hW hS dX11_of_9
theorem c_X11_of (hB : Lk L) {S : St} {r : Int32} {p1 : Int32} {p2 : Int32} (h : f_X11_of S p1 p2 = some r) : Met l yX11_of (gws yX11_of cX11_of 3 (some .int)) (rmk 2) (va_Pc [.ref (ad 200), .int p1, .int p2] (WU g A ad L S)) (qi g A ad L r S) 0 0 A :=
  g_met [.ref (ad 200), .int p1, .int p2] (by decide) (Nat.le_of_ble_eq_true rfl) (fun p e s m below meth c ls C hW hl _ => t_X11_of C hB h hW va_S.rf hl)
theorem hv_X11_of : yX11_of.cls = RX11 ∧ yX11_of.cls ≠ "java/lang/invoke/MethodHandle" ∧ yX11_of.cls ≠ "java/lang/invoke/VarHandle" ∧ (parseMethodDescriptor yX11_of.desc).map (fun d => d.parameters.length) = some 2 := by decide +kernel
/-! DroveRoadsModel.at -/
def f_X11_at (N : Nat) (S : St) (p1 : Int32) (p2 : Int32) : Option (Int32) := cl0 (f_X11_isStance S p1) fun r_2 => if r_2 = 0 then (some (-1)) else (if p2 = 0 then (if p1 < 0 ∨ 10 ≤ ix p1 then none else some (gv S 204 (ix p1))) else if p2 = 1 then (if p1 < 0 ∨ 10 ≤ ix p1 then none else some (gv S 205 (ix p1))) else if p2 = 2 then (if p1 < 0 ∨ 10 ≤ ix p1 then none else some (gv S 206 (ix p1))) else if p2 = 3 then (cl0 (f_X11_toFair N S p1) fun r_13 => some r_13) else if p2 = 4 then (if p1 < 0 ∨ 10 ≤ ix p1 then none else some (gv S 207 (ix p1))) else (some (-1)))
set_option maxHeartbeats 4000000 in
theorem t_X11_at (C : MC p s m args meth c cX11_at 3 (some .int) RX11 g A) (hB : Lk L) {S : St} {r : Int32} {p1 : Int32} {p2 : Int32} (h : f_X11_at N S p1 p2 = some r) {H : Heap} {locs : List Loc} {ls : Array Slot} (hW : GW g A ad L S H) (hS : va_S A s.heap H locs) (hl : lv_has ls 3 [(0, .ref (ad 200)), (1, .int p1), (2, .int p2)]) : W p l e (rmk 3) s m args below meth c H locs 0 0 (MQ below (qi g A ad L r S) args s 0 0 A) (F0 m 0 ls []) := by
  obtain ⟨hx, hb, hml, hown, hts, hr, hlocks, hK, hN, hT⟩ := id C
  unfold f_X11_at at h
  refine lv_aload_n hx hb dX11_at_0 rfl (lv_at hl 0 rfl) ?_
  refine lv_iload_n hx hb dX11_at_1 rfl (lv_at hl 1 rfl) ?_
  obtain ⟨r_2, hc_1, h⟩ := cl0_ex h
  refine g_cz (g_runV (ci := 11) (o := 200) (As := [.int p1]) (rest := []) hx hb hml hown hts hK hN hT hS hW (c_X11_isStance hB hc_1) (hB 200 bb_200) kd_200 rfl (gw_V mw_1179 mw_1181 mw_35 mw_73 mw_1182) hv_X11_isStance rfl rfl rfl (rm_ok (by decide) (by decide)) hl.1 (Nat.le_of_ble_eq_true rfl) dX11_at_2 rfl ⟨Nat.zero_le _, Nat.zero_le _⟩) hS (fun hz_3 H locs hW hS => ?_)
  refine lv_if_ne (tgt := 10) hx hb dX11_at_5 (by decide) (fun c_4 => ?_) (fun c_4 => ?_)
  · have h := it_f c_4 h
    refine lv_iload_n hx hb dX11_at_10 rfl (lv_at hl 2 rfl) ?_
    by_cases c_5 : p2 = 0
    · have h := it_t c_5 h
      refine lv_tableIn (tgt := 44) hx hb dX11_at_11 (by rw [c_5]; decide) (by rw [c_5]; decide) (by rw [c_5]; rfl) (by decide) ?_
      refine lv_aload_n hx hb dX11_at_44 rfl (lv_at hl 0 rfl) ?_
      refine g_get (C := RX11) (T := TX11) (N := 67) (ci := 11) hx hb hts inX11 hown hK hW (hB 200 bb_200) kd_200 rfl 3 (by decide) mw_964 rfl rfl dX11_at_45 ?_
      refine lv_iload_n hx hb dX11_at_48 rfl (lv_at hl 1 rfl) ?_
      obtain ⟨hi_6, h⟩ := ck_n h
      refine g_iald hx hb hK hW (hB 204 bb_204) kd_204 hi_6 dX11_at_49 ?_
      cases h
      exact g_iret hx hb hr hlocks hW hS dX11_at_50
    have h := it_f c_5 h
    by_cases c_7 : p2 = 1
    · have h := it_t c_7 h
      refine lv_tableIn (tgt := 51) hx hb dX11_at_11 (by rw [c_7]; decide) (by rw [c_7]; decide) (by rw [c_7]; rfl) (by decide) ?_
      refine lv_aload_n hx hb dX11_at_51 rfl (lv_at hl 0 rfl) ?_
      refine g_get (C := RX11) (T := TX11) (N := 67) (ci := 11) hx hb hts inX11 hown hK hW (hB 200 bb_200) kd_200 rfl 4 (by decide) mw_965 rfl rfl dX11_at_52 ?_
      refine lv_iload_n hx hb dX11_at_55 rfl (lv_at hl 1 rfl) ?_
      obtain ⟨hi_8, h⟩ := ck_n h
      refine g_iald hx hb hK hW (hB 205 bb_205) kd_205 hi_8 dX11_at_56 ?_
      cases h
      exact g_iret hx hb hr hlocks hW hS dX11_at_57
    have h := it_f c_7 h
    by_cases c_9 : p2 = 2
    · have h := it_t c_9 h
      refine lv_tableIn (tgt := 58) hx hb dX11_at_11 (by rw [c_9]; decide) (by rw [c_9]; decide) (by rw [c_9]; rfl) (by decide) ?_
      refine lv_aload_n hx hb dX11_at_58 rfl (lv_at hl 0 rfl) ?_
      refine g_get (C := RX11) (T := TX11) (N := 67) (ci := 11) hx hb hts inX11 hown hK hW (hB 200 bb_200) kd_200 rfl 5 (by decide) mw_966 rfl rfl dX11_at_59 ?_
      refine lv_iload_n hx hb dX11_at_62 rfl (lv_at hl 1 rfl) ?_
      obtain ⟨hi_10, h⟩ := ck_n h
      refine g_iald hx hb hK hW (hB 206 bb_206) kd_206 hi_10 dX11_at_63 ?_
      cases h
      exact g_iret hx hb hr hlocks hW hS dX11_at_64
    have h := it_f c_9 h
    by_cases c_11 : p2 = 3
    · have h := it_t c_11 h
      refine lv_tableIn (tgt := 65) hx hb dX11_at_11 (by rw [c_11]; decide) (by rw [c_11]; decide) (by rw [c_11]; rfl) (by decide) ?_
      refine lv_aload_n hx hb dX11_at_65 rfl (lv_at hl 0 rfl) ?_
      refine lv_iload_n hx hb dX11_at_66 rfl (lv_at hl 1 rfl) ?_
      obtain ⟨r_13, hc_12, h⟩ := cl0_ex h
      refine g_ci (g_runV (ci := 11) (o := 200) (As := [.int p1]) (rest := []) hx hb hml hown hts hK hN hT hS hW (c_X11_toFair hB hc_12) (hB 200 bb_200) kd_200 rfl (gw_V mw_1200 mw_1202 mw_38 mw_73 mw_1203) hv_X11_toFair rfl rfl rfl (rm_ok (by decide) (by decide)) hl.1 (Nat.le_of_ble_eq_true rfl) dX11_at_67 rfl ⟨Nat.zero_le _, Nat.zero_le _⟩) hS (fun H locs hW hS => ?_)
      cases h
      exact g_iret hx hb hr hlocks hW hS dX11_at_70
    have h := it_f c_11 h
    by_cases c_14 : p2 = 4
    · have h := it_t c_14 h
      refine lv_tableIn (tgt := 71) hx hb dX11_at_11 (by rw [c_14]; decide) (by rw [c_14]; decide) (by rw [c_14]; rfl) (by decide) ?_
      refine lv_aload_n hx hb dX11_at_71 rfl (lv_at hl 0 rfl) ?_
      refine g_get (C := RX11) (T := TX11) (N := 67) (ci := 11) hx hb hts inX11 hown hK hW (hB 200 bb_200) kd_200 rfl 6 (by decide) mw_967 rfl rfl dX11_at_72 ?_
      refine lv_iload_n hx hb dX11_at_75 rfl (lv_at hl 1 rfl) ?_
      obtain ⟨hi_15, h⟩ := ck_n h
      refine g_iald hx hb hK hW (hB 207 bb_207) kd_207 hi_15 dX11_at_76 ?_
      cases h
      exact g_iret hx hb hr hlocks hW hS dX11_at_77
    have h := it_f c_14 h
    have nc_5 := lv_neT c_5 (a := 0) rfl
    have nc_7 := lv_neT c_7 (a := 1) rfl
    have nc_9 := lv_neT c_9 (a := 2) rfl
    have nc_11 := lv_neT c_11 (a := 3) rfl
    have nc_14 := lv_neT c_14 (a := 4) rfl
    refine lv_tableOut (tgt := 78) hx hb dX11_at_11 (by omega) (by decide) ?_
    refine lv_iconst (v := (-1)) hx hb dX11_at_78 (by decide) ?_
    cases h
    exact g_iret hx hb hr hlocks hW hS dX11_at_79
  · have h := it_t c_4 h
    refine lv_iconst (v := (-1)) hx hb dX11_at_8 (by decide) ?_
    cases h
    exact g_iret hx hb hr hlocks hW hS dX11_at_9
theorem c_X11_at (hB : Lk L) {S : St} {r : Int32} {p1 : Int32} {p2 : Int32} (h : f_X11_at N S p1 p2 = some r) : Met l yX11_at (gws yX11_at cX11_at 3 (some .int)) (rmk 3) (va_Pc [.ref (ad 200), .int p1, .int p2] (WU g A ad L S)) (qi g A ad L r S) 0 0 A :=
  g_met [.ref (ad 200), .int p1, .int p2] (by decide) (Nat.le_of_ble_eq_true rfl) (fun p e s m below meth c ls C hW hl _ => t_X11_at C hB h hW va_S.rf hl)
theorem hv_X11_at : yX11_at.cls = RX11 ∧ yX11_at.cls ≠ "java/lang/invoke/MethodHandle" ∧ yX11_at.cls ≠ "java/lang/invoke/VarHandle" ∧ (parseMethodDescriptor yX11_at.desc).map (fun d => d.parameters.length) = some 2 := by decide +kernel
/-! DroveRoadsModel.four -/
def f_X11_four_l3 (N : Nat) (v1 : Int32) (k : St → Option (St)) : Nat → St → Int32 → Option (St)
  | 0, _, _ => none
  | n + 1, S, v2 => if v2 < 0 then (k S) else (if (gv S 200 37) < 0 ∨ 500 ≤ ix (gv S 200 37) then none else bn (sv S 237 (ix (gv S 200 37)) ((v1 >>> (v2 &&& 31)) &&& 255)) fun S_3 => bn (sv S_3 200 37 ((gv S_3 200 37) + 1)) fun S_4 => bn (v2 + (-8)) fun x_5 => f_X11_four_l3 N v1 k n S_4 x_5)
set_option maxHeartbeats 4000000 in
theorem t_X11_four_l3 (C : MC p s m args meth c cX11_four 3 none RX11 g A) (hB : Lk L) {v1 : Int32} {S9 : St} {k : St → Option (St)} (hk : ∀ (S : St), k S = some S9 → ∀ (H : Heap) (locs : List Loc) (ls : Array Slot), GW g A ad L S H → va_S A s.heap H locs → lv_has ls 3 [] → W p l e (rmk 1) s m args below meth c H locs 0 0 (MQ below (qv g A ad L S9) args s 0 0 A) (F0 m 39 ls [])) : ∀ (n : Nat) (S : St) (v2 : Int32), f_X11_four_l3 N v1 k n S v2 = some S9 → ∀ (H : Heap) (locs : List Loc) (ls : Array Slot), GW g A ad L S H → va_S A s.heap H locs → lv_has ls 3 [(0, .ref (ad 200)), (1, .int v1), (2, .int v2)] → W p l e (rmk 1) s m args below meth c H locs 0 0 (MQ below (qv g A ad L S9) args s 0 0 A) (F0 m 3 ls []) := by
  obtain ⟨hx, hb, hml, hown, hts, hr, hlocks, hK, hN, hT⟩ := id C
  intro n
  induction n with
  | zero =>
    intro S v2 h
    have h : (none : Option (St)) = some S9 := h
    cases h
  | succ n ih =>
    intro S v2 h H locs ls hW hS hl
    rw [f_X11_four_l3] at h
    refine lv_iload_n hx hb dX11_four_3 rfl (lv_at hl 2 rfl) ?_
    refine lv_if_lt (tgt := 39) hx hb dX11_four_4 (by decide) (fun c_1 => ?_) (fun c_1 => ?_)
    · have h := it_t c_1 h
      exact hk _ h _ _ _ hW hS (lv_sub hl [] rfl)
    · have h := it_f c_1 h
      refine lv_aload_n hx hb dX11_four_7 rfl (lv_at hl 0 rfl) ?_
      refine g_get (C := RX11) (T := TX11) (N := 67) (ci := 11) hx hb hts inX11 hown hK hW (hB 200 bb_200) kd_200 rfl 36 (by decide) mw_997 rfl rfl dX11_four_8 ?_
      refine lv_aload_n hx hb dX11_four_11 rfl (lv_at hl 0 rfl) ?_
      refine g_get (C := RX11) (T := TX11) (N := 67) (ci := 11) hx hb hts inX11 hown hK hW (hB 200 bb_200) kd_200 rfl 37 (by decide) mw_998 rfl rfl dX11_four_12 ?_
      refine lv_iload_n hx hb dX11_four_15 rfl (lv_at hl 1 rfl) ?_
      refine lv_iload_n hx hb dX11_four_16 rfl (lv_at hl 2 rfl) ?_
      refine lv_ishr hx hb dX11_four_17 ?_
      refine lv_sipush (v := 255) hx hb dX11_four_18 (by decide) ?_
      refine lv_iand hx hb dX11_four_21 ?_
      obtain ⟨hi_2, h⟩ := ck_n h
      refine g_iast hx hb hK hW hS (hB 237 bb_237) (fun _ => kd_237) hi_2 dX11_four_22 (fun S_3 eS_3 H locs hW hS => ?_)
      have h := bn_at eS_3 h
      refine lv_aload_n hx hb dX11_four_23 rfl (lv_at hl 0 rfl) ?_
      refine lv_dup hx hb dX11_four_24 rfl ?_
      refine g_get (C := RX11) (T := TX11) (N := 67) (ci := 11) hx hb hts inX11 hown hK hW (hB 200 bb_200) kd_200 rfl 37 (by decide) mw_998 rfl rfl dX11_four_25 ?_
      refine lv_iconst (v := 1) hx hb dX11_four_28 (by decide) ?_
      refine lv_iadd hx hb dX11_four_29 ?_
      refine g_put (C := RX11) (T := TX11) (N := 67) (ci := 11) hx hb hts inX11 tyX11 tyX11_ok nmX11 hown hK hW hS (hB 200 bb_200) kd_200 rfl 37 (by decide) mw_998 rfl rfl rfl rfl (Nat.le_of_ble_eq_true rfl) (sv S_3 200 37 ((gv S_3 200 37) + 1)) (ps_200_37) cellOf_sv dX11_four_30 (fun S_4 eS_4 H locs hW hS => ?_)
      have h := bn_at eS_4 h
      obtain ⟨x_5, ex_5⟩ : ∃ z : Int32, z = v2 + (-8) := ⟨_, rfl⟩
      have h := bn_at ex_5 h
      refine lv_iinc (v := x_5) (lv' := [(2, .int x_5), (0, .ref (ad 200)), (1, .int v1)]) hx hb dX11_four_33 hl (k := 2) rfl (by rw [ex_5]; rfl) (by decide) rfl (fun ls hl => ?_)
      refine lv_goto (tgt := 3) hx hb dX11_four_36 (by decide) ?_
      exact ih _ _ h _ _ _ hW hS (lv_sub hl [1, 2, 0] rfl)
def f_X11_four (N : Nat) (S : St) (p1 : Int32) : Option (St) := f_X11_four_l3 N p1 (fun S_6 => some S_6) N S 24
set_option maxHeartbeats 4000000 in
theorem t_X11_four (C : MC p s m args meth c cX11_four 3 none RX11 g A) (hB : Lk L) {S : St} {S9 : St} {p1 : Int32} (h : f_X11_four N S p1 = some S9) {H : Heap} {locs : List Loc} {ls : Array Slot} (hW : GW g A ad L S H) (hS : va_S A s.heap H locs) (hl : lv_has ls 3 [(0, .ref (ad 200)), (1, .int p1)]) : W p l e (rmk 1) s m args below meth c H locs 0 0 (MQ below (qv g A ad L S9) args s 0 0 A) (F0 m 0 ls []) := by
  obtain ⟨hx, hb, hml, hown, hts, hr, hlocks, hK, hN, hT⟩ := id C
  unfold f_X11_four at h
  refine lv_bipush (v := 24) hx hb dX11_four_0 (by decide) ?_
  refine lv_istore_n (lv' := [(2, .int 24), (0, .ref (ad 200)), (1, .int p1)]) hx hb dX11_four_2 rfl hl (by decide) rfl (fun ls hl => ?_)
  refine t_X11_four_l3 C hB ?_ _ _ _ h _ _ _ hW hS (lv_sub hl [1, 2, 0] rfl)
  intro S_6 h H locs ls hW hS hl
  cases h
  exact g_vret hx hb hr hlocks hW hS dX11_four_39
theorem c_X11_four (hB : Lk L) {S : St} {S9 : St} {p1 : Int32} (h : f_X11_four N S p1 = some S9) : Met l yX11_four (gws yX11_four cX11_four 3 none) (rmk 1) (va_Pc [.ref (ad 200), .int p1] (WU g A ad L S)) (qv g A ad L S9) 0 0 A :=
  g_met [.ref (ad 200), .int p1] (by decide) (Nat.le_of_ble_eq_true rfl) (fun p e s m below meth c ls C hW hl _ => t_X11_four C hB h hW va_S.rf hl)
theorem hv_X11_four : yX11_four.cls = RX11 ∧ yX11_four.cls ≠ "java/lang/invoke/MethodHandle" ∧ yX11_four.cls ≠ "java/lang/invoke/VarHandle" ∧ (parseMethodDescriptor yX11_four.desc).map (fun d => d.parameters.length) = some 1 := by decide +kernel
/-! DroveRoadsModel.feed -/
def f_X11_feed (N : Nat) (S : St) (p1 : Int32) (p2 : Int32) (p3 : Int32) (p4 : Int32) (p5 : Int32) : Option (Int32 × St) := if ((gv S 200 37) + 20) ≤ 500 then (cl0 (f_X11_four N S p1) fun S_3 => cl0 (f_X11_four N S_3 p2) fun S_5 => cl0 (f_X11_four N S_5 p3) fun S_7 => cl0 (f_X11_four N S_7 p4) fun S_9 => cl0 (f_X11_four N S_9 p5) fun S_11 => some ((gv S_11 200 37), S_11)) else (some ((-1), S))
set_option maxHeartbeats 4000000 in
theorem t_X11_feed (C : MC p s m args meth c cX11_feed 6 (some .int) RX11 g A) (hB : Lk L) {S : St} {r : Int32} {S9 : St} {p1 : Int32} {p2 : Int32} {p3 : Int32} {p4 : Int32} {p5 : Int32} (h : f_X11_feed N S p1 p2 p3 p4 p5 = some (r, S9)) {H : Heap} {locs : List Loc} {ls : Array Slot} (hW : GW g A ad L S H) (hS : va_S A s.heap H locs) (hl : lv_has ls 6 [(0, .ref (ad 200)), (1, .int p1), (2, .int p2), (3, .int p3), (4, .int p4), (5, .int p5)]) : W p l e (rmk 2) s m args below meth c H locs 0 0 (MQ below (qi g A ad L r S9) args s 0 0 A) (F0 m 0 ls []) := by
  obtain ⟨hx, hb, hml, hown, hts, hr, hlocks, hK, hN, hT⟩ := id C
  unfold f_X11_feed at h
  refine lv_aload_n hx hb dX11_feed_0 rfl (lv_at hl 0 rfl) ?_
  refine g_get (C := RX11) (T := TX11) (N := 67) (ci := 11) hx hb hts inX11 hown hK hW (hB 200 bb_200) kd_200 rfl 37 (by decide) mw_998 rfl rfl dX11_feed_1 ?_
  refine lv_bipush (v := 20) hx hb dX11_feed_4 (by decide) ?_
  refine lv_iadd hx hb dX11_feed_6 ?_
  refine lv_sipush (v := 500) hx hb dX11_feed_7 (by decide) ?_
  refine lv_icmp_le (tgt := 15) hx hb dX11_feed_10 (by decide) (fun c_1 => ?_) (fun c_1 => ?_)
  · have h := it_t c_1 h
    refine lv_aload_n hx hb dX11_feed_15 rfl (lv_at hl 0 rfl) ?_
    refine lv_iload_n hx hb dX11_feed_16 rfl (lv_at hl 1 rfl) ?_
    obtain ⟨S_3, hc_2, h⟩ := cl0_ex h
    refine g_cv (g_runV (ci := 11) (o := 200) (As := [.int p1]) (rest := []) hx hb hml hown hts hK hN hT hS hW (c_X11_four hB hc_2) (hB 200 bb_200) kd_200 rfl (gw_V mw_1224 mw_1226 mw_40 mw_73 mw_1227) hv_X11_four rfl rfl rfl (rm_ok (by decide) (by decide)) hl.1 (Nat.le_of_ble_eq_true rfl) dX11_feed_17 rfl ⟨Nat.zero_le _, Nat.zero_le _⟩) hS (fun H locs hW hS => ?_)
    refine lv_aload_n hx hb dX11_feed_20 rfl (lv_at hl 0 rfl) ?_
    refine lv_iload_n hx hb dX11_feed_21 rfl (lv_at hl 2 rfl) ?_
    obtain ⟨S_5, hc_4, h⟩ := cl0_ex h
    refine g_cv (g_runV (ci := 11) (o := 200) (As := [.int p2]) (rest := []) hx hb hml hown hts hK hN hT hS hW (c_X11_four hB hc_4) (hB 200 bb_200) kd_200 rfl (gw_V mw_1224 mw_1226 mw_40 mw_73 mw_1227) hv_X11_four rfl rfl rfl (rm_ok (by decide) (by decide)) hl.1 (Nat.le_of_ble_eq_true rfl) dX11_feed_22 rfl ⟨Nat.zero_le _, Nat.zero_le _⟩) hS (fun H locs hW hS => ?_)
    refine lv_aload_n hx hb dX11_feed_25 rfl (lv_at hl 0 rfl) ?_
    refine lv_iload_n hx hb dX11_feed_26 rfl (lv_at hl 3 rfl) ?_
    obtain ⟨S_7, hc_6, h⟩ := cl0_ex h
    refine g_cv (g_runV (ci := 11) (o := 200) (As := [.int p3]) (rest := []) hx hb hml hown hts hK hN hT hS hW (c_X11_four hB hc_6) (hB 200 bb_200) kd_200 rfl (gw_V mw_1224 mw_1226 mw_40 mw_73 mw_1227) hv_X11_four rfl rfl rfl (rm_ok (by decide) (by decide)) hl.1 (Nat.le_of_ble_eq_true rfl) dX11_feed_27 rfl ⟨Nat.zero_le _, Nat.zero_le _⟩) hS (fun H locs hW hS => ?_)
    refine lv_aload_n hx hb dX11_feed_30 rfl (lv_at hl 0 rfl) ?_
    refine lv_iload hx hb dX11_feed_31 (lv_at hl 4 rfl) ?_
    obtain ⟨S_9, hc_8, h⟩ := cl0_ex h
    refine g_cv (g_runV (ci := 11) (o := 200) (As := [.int p4]) (rest := []) hx hb hml hown hts hK hN hT hS hW (c_X11_four hB hc_8) (hB 200 bb_200) kd_200 rfl (gw_V mw_1224 mw_1226 mw_40 mw_73 mw_1227) hv_X11_four rfl rfl rfl (rm_ok (by decide) (by decide)) hl.1 (Nat.le_of_ble_eq_true rfl) dX11_feed_33 rfl ⟨Nat.zero_le _, Nat.zero_le _⟩) hS (fun H locs hW hS => ?_)
    refine lv_aload_n hx hb dX11_feed_36 rfl (lv_at hl 0 rfl) ?_
    refine lv_iload hx hb dX11_feed_37 (lv_at hl 5 rfl) ?_
    obtain ⟨S_11, hc_10, h⟩ := cl0_ex h
    refine g_cv (g_runV (ci := 11) (o := 200) (As := [.int p5]) (rest := []) hx hb hml hown hts hK hN hT hS hW (c_X11_four hB hc_10) (hB 200 bb_200) kd_200 rfl (gw_V mw_1224 mw_1226 mw_40 mw_73 mw_1227) hv_X11_four rfl rfl rfl (rm_ok (by decide) (by decide)) hl.1 (Nat.le_of_ble_eq_true rfl) dX11_feed_39 rfl ⟨Nat.zero_le _, Nat.zero_le _⟩) hS (fun H locs hW hS => ?_)
    refine lv_aload_n hx hb dX11_feed_42 rfl (lv_at hl 0 rfl) ?_
    refine g_get (C := RX11) (T := TX11) (N := 67) (ci := 11) hx hb hts inX11 hown hK hW (hB 200 bb_200) kd_200 rfl 37 (by decide) mw_998 rfl rfl dX11_feed_43 ?_
    cases h
    exact g_iret hx hb hr hlocks hW hS dX11_feed_46
  · have h := it_f c_1 h
    refine lv_iconst (v := (-1)) hx hb dX11_feed_13 (by decide) ?_
    cases h
    exact g_iret hx hb hr hlocks hW hS dX11_feed_14
theorem c_X11_feed (hB : Lk L) {S : St} {r : Int32} {S9 : St} {p1 : Int32} {p2 : Int32} {p3 : Int32} {p4 : Int32} {p5 : Int32} (h : f_X11_feed N S p1 p2 p3 p4 p5 = some (r, S9)) : Met l yX11_feed (gws yX11_feed cX11_feed 6 (some .int)) (rmk 2) (va_Pc [.ref (ad 200), .int p1, .int p2, .int p3, .int p4, .int p5] (WU g A ad L S)) (qi g A ad L r S9) 0 0 A :=
  g_met [.ref (ad 200), .int p1, .int p2, .int p3, .int p4, .int p5] (by decide) (Nat.le_of_ble_eq_true rfl) (fun p e s m below meth c ls C hW hl _ => t_X11_feed C hB h hW va_S.rf hl)
theorem hv_X11_feed : yX11_feed.cls = RX11 ∧ yX11_feed.cls ≠ "java/lang/invoke/MethodHandle" ∧ yX11_feed.cls ≠ "java/lang/invoke/VarHandle" ∧ (parseMethodDescriptor yX11_feed.desc).map (fun d => d.parameters.length) = some 5 := by decide +kernel
/-! DroveRoadsModel.end -/
def f_X11_end (S : St) (p1 : Int32) : Option (Int32 × St) := if p1 < 0 then (some ((-1), S)) else (if p1 ≤ (gv S 200 37) then (bn (sv S 200 37 p1) fun S_3 => some (p1, S_3)) else (some ((-1), S)))
set_option maxHeartbeats 4000000 in
theorem t_X11_end (C : MC p s m args meth c cX11_end 2 (some .int) RX11 g A) (hB : Lk L) {S : St} {r : Int32} {S9 : St} {p1 : Int32} (h : f_X11_end S p1 = some (r, S9)) {H : Heap} {locs : List Loc} {ls : Array Slot} (hW : GW g A ad L S H) (hS : va_S A s.heap H locs) (hl : lv_has ls 2 [(0, .ref (ad 200)), (1, .int p1)]) : W p l e (rmk 1) s m args below meth c H locs 0 0 (MQ below (qi g A ad L r S9) args s 0 0 A) (F0 m 0 ls []) := by
  obtain ⟨hx, hb, hml, hown, hts, hr, hlocks, hK, hN, hT⟩ := id C
  unfold f_X11_end at h
  refine lv_iload_n hx hb dX11_end_0 rfl (lv_at hl 1 rfl) ?_
  refine lv_if_lt (tgt := 12) hx hb dX11_end_1 (by decide) (fun c_1 => ?_) (fun c_1 => ?_)
  · have h := it_t c_1 h
    refine lv_iconst (v := (-1)) hx hb dX11_end_12 (by decide) ?_
    cases h
    exact g_iret hx hb hr hlocks hW hS dX11_end_13
  · have h := it_f c_1 h
    refine lv_iload_n hx hb dX11_end_4 rfl (lv_at hl 1 rfl) ?_
    refine lv_aload_n hx hb dX11_end_5 rfl (lv_at hl 0 rfl) ?_
    refine g_get (C := RX11) (T := TX11) (N := 67) (ci := 11) hx hb hts inX11 hown hK hW (hB 200 bb_200) kd_200 rfl 37 (by decide) mw_998 rfl rfl dX11_end_6 ?_
    refine lv_icmp_le (tgt := 14) hx hb dX11_end_9 (by decide) (fun c_2 => ?_) (fun c_2 => ?_)
    · have h := it_t c_2 h
      refine lv_aload_n hx hb dX11_end_14 rfl (lv_at hl 0 rfl) ?_
      refine lv_iload_n hx hb dX11_end_15 rfl (lv_at hl 1 rfl) ?_
      refine g_put (C := RX11) (T := TX11) (N := 67) (ci := 11) hx hb hts inX11 tyX11 tyX11_ok nmX11 hown hK hW hS (hB 200 bb_200) kd_200 rfl 37 (by decide) mw_998 rfl rfl rfl rfl (Nat.le_of_ble_eq_true rfl) (sv S 200 37 p1) (ps_200_37) cellOf_sv dX11_end_16 (fun S_3 eS_3 H locs hW hS => ?_)
      have h := bn_at eS_3 h
      refine lv_iload_n hx hb dX11_end_19 rfl (lv_at hl 1 rfl) ?_
      cases h
      exact g_iret hx hb hr hlocks hW hS dX11_end_20
    · have h := it_f c_2 h
      refine lv_iconst (v := (-1)) hx hb dX11_end_12 (by decide) ?_
      cases h
      exact g_iret hx hb hr hlocks hW hS dX11_end_13
theorem c_X11_end (hB : Lk L) {S : St} {r : Int32} {S9 : St} {p1 : Int32} (h : f_X11_end S p1 = some (r, S9)) : Met l yX11_end (gws yX11_end cX11_end 2 (some .int)) (rmk 1) (va_Pc [.ref (ad 200), .int p1] (WU g A ad L S)) (qi g A ad L r S9) 0 0 A :=
  g_met [.ref (ad 200), .int p1] (by decide) (Nat.le_of_ble_eq_true rfl) (fun p e s m below meth c ls C hW hl _ => t_X11_end C hB h hW va_S.rf hl)
theorem hv_X11_end : yX11_end.cls = RX11 ∧ yX11_end.cls ≠ "java/lang/invoke/MethodHandle" ∧ yX11_end.cls ≠ "java/lang/invoke/VarHandle" ∧ (parseMethodDescriptor yX11_end.desc).map (fun d => d.parameters.length) = some 1 := by decide +kernel
/-! DroveRoadsModel.fault -/
def f_X11_fault (S : St) (p1 : Int32) : Option (Int32) := if p1 = 0 then (some (gv S 200 38)) else (if p1 = 1 then (some (gv S 200 39)) else (some (-1)))
set_option maxHeartbeats 4000000 in
theorem t_X11_fault (C : MC p s m args meth c cX11_fault 2 (some .int) RX11 g A) (hB : Lk L) {S : St} {r : Int32} {p1 : Int32} (h : f_X11_fault S p1 = some r) {H : Heap} {locs : List Loc} {ls : Array Slot} (hW : GW g A ad L S H) (hS : va_S A s.heap H locs) (hl : lv_has ls 2 [(0, .ref (ad 200)), (1, .int p1)]) : W p l e (rmk 1) s m args below meth c H locs 0 0 (MQ below (qi g A ad L r S) args s 0 0 A) (F0 m 0 ls []) := by
  obtain ⟨hx, hb, hml, hown, hts, hr, hlocks, hK, hN, hT⟩ := id C
  unfold f_X11_fault at h
  refine lv_iload_n hx hb dX11_fault_0 rfl (lv_at hl 1 rfl) ?_
  refine lv_if_ne (tgt := 11) hx hb dX11_fault_1 (by decide) (fun c_1 => ?_) (fun c_1 => ?_)
  · have h := it_f c_1 h
    refine lv_iload_n hx hb dX11_fault_11 rfl (lv_at hl 1 rfl) ?_
    refine lv_iconst (v := 1) hx hb dX11_fault_12 (by decide) ?_
    refine lv_icmp_ne (tgt := 23) hx hb dX11_fault_13 (by decide) (fun c_2 => ?_) (fun c_2 => ?_)
    · have h := it_f c_2 h
      refine lv_iconst (v := (-1)) hx hb dX11_fault_23 (by decide) ?_
      cases h
      exact g_iret hx hb hr hlocks hW hS dX11_fault_24
    · have h := it_t c_2 h
      refine lv_aload_n hx hb dX11_fault_16 rfl (lv_at hl 0 rfl) ?_
      refine g_get (C := RX11) (T := TX11) (N := 67) (ci := 11) hx hb hts inX11 hown hK hW (hB 200 bb_200) kd_200 rfl 39 (by decide) mw_1000 rfl rfl dX11_fault_17 ?_
      refine lv_goto (tgt := 24) hx hb dX11_fault_20 (by decide) ?_
      cases h
      exact g_iret hx hb hr hlocks hW hS dX11_fault_24
  · have h := it_t c_1 h
    refine lv_aload_n hx hb dX11_fault_4 rfl (lv_at hl 0 rfl) ?_
    refine g_get (C := RX11) (T := TX11) (N := 67) (ci := 11) hx hb hts inX11 hown hK hW (hB 200 bb_200) kd_200 rfl 38 (by decide) mw_999 rfl rfl dX11_fault_5 ?_
    refine lv_goto (tgt := 24) hx hb dX11_fault_8 (by decide) ?_
    cases h
    exact g_iret hx hb hr hlocks hW hS dX11_fault_24
theorem c_X11_fault (hB : Lk L) {S : St} {r : Int32} {p1 : Int32} (h : f_X11_fault S p1 = some r) : Met l yX11_fault (gws yX11_fault cX11_fault 2 (some .int)) (rmk 1) (va_Pc [.ref (ad 200), .int p1] (WU g A ad L S)) (qi g A ad L r S) 0 0 A :=
  g_met [.ref (ad 200), .int p1] (by decide) (Nat.le_of_ble_eq_true rfl) (fun p e s m below meth c ls C hW hl _ => t_X11_fault C hB h hW va_S.rf hl)
theorem hv_X11_fault : yX11_fault.cls = RX11 ∧ yX11_fault.cls ≠ "java/lang/invoke/MethodHandle" ∧ yX11_fault.cls ≠ "java/lang/invoke/VarHandle" ∧ (parseMethodDescriptor yX11_fault.desc).map (fun d => d.parameters.length) = some 1 := by decide +kernel
/-! DroveRoadsModel.about -/
def f_X11_about (S : St) (p1 : Int32) : Option (Int32) := if p1 = 0 then (some (gv S 200 0)) else if p1 = 1 then (some (gv S 200 1)) else if p1 = 2 then (some (gv S 200 10)) else if p1 = 3 then (some (gv S 200 7)) else if p1 = 4 then (some (gv S 200 54)) else if p1 = 5 then (some (gv S 200 55)) else if p1 = 6 then (some (gv S 200 37)) else (some (-1))
set_option maxHeartbeats 4000000 in
theorem t_X11_about (C : MC p s m args meth c cX11_about 2 (some .int) RX11 g A) (hB : Lk L) {S : St} {r : Int32} {p1 : Int32} (h : f_X11_about S p1 = some r) {H : Heap} {locs : List Loc} {ls : Array Slot} (hW : GW g A ad L S H) (hS : va_S A s.heap H locs) (hl : lv_has ls 2 [(0, .ref (ad 200)), (1, .int p1)]) : W p l e (rmk 1) s m args below meth c H locs 0 0 (MQ below (qi g A ad L r S) args s 0 0 A) (F0 m 0 ls []) := by
  obtain ⟨hx, hb, hml, hown, hts, hr, hlocks, hK, hN, hT⟩ := id C
  unfold f_X11_about at h
  refine lv_iload_n hx hb dX11_about_0 rfl (lv_at hl 1 rfl) ?_
  by_cases c_1 : p1 = 0
  · have h := it_t c_1 h
    refine lv_tableIn (tgt := 44) hx hb dX11_about_1 (by rw [c_1]; decide) (by rw [c_1]; decide) (by rw [c_1]; rfl) (by decide) ?_
    refine lv_aload_n hx hb dX11_about_44 rfl (lv_at hl 0 rfl) ?_
    refine g_get (C := RX11) (T := TX11) (N := 67) (ci := 11) hx hb hts inX11 hown hK hW (hB 200 bb_200) kd_200 rfl 0 (by decide) mw_961 rfl rfl dX11_about_45 ?_
    cases h
    exact g_iret hx hb hr hlocks hW hS dX11_about_48
  have h := it_f c_1 h
  by_cases c_2 : p1 = 1
  · have h := it_t c_2 h
    refine lv_tableIn (tgt := 49) hx hb dX11_about_1 (by rw [c_2]; decide) (by rw [c_2]; decide) (by rw [c_2]; rfl) (by decide) ?_
    refine lv_aload_n hx hb dX11_about_49 rfl (lv_at hl 0 rfl) ?_
    refine g_get (C := RX11) (T := TX11) (N := 67) (ci := 11) hx hb hts inX11 hown hK hW (hB 200 bb_200) kd_200 rfl 1 (by decide) mw_962 rfl rfl dX11_about_50 ?_
    cases h
    exact g_iret hx hb hr hlocks hW hS dX11_about_53
  have h := it_f c_2 h
  by_cases c_3 : p1 = 2
  · have h := it_t c_3 h
    refine lv_tableIn (tgt := 54) hx hb dX11_about_1 (by rw [c_3]; decide) (by rw [c_3]; decide) (by rw [c_3]; rfl) (by decide) ?_
    refine lv_aload_n hx hb dX11_about_54 rfl (lv_at hl 0 rfl) ?_
    refine g_get (C := RX11) (T := TX11) (N := 67) (ci := 11) hx hb hts inX11 hown hK hW (hB 200 bb_200) kd_200 rfl 10 (by decide) mw_971 rfl rfl dX11_about_55 ?_
    cases h
    exact g_iret hx hb hr hlocks hW hS dX11_about_58
  have h := it_f c_3 h
  by_cases c_4 : p1 = 3
  · have h := it_t c_4 h
    refine lv_tableIn (tgt := 59) hx hb dX11_about_1 (by rw [c_4]; decide) (by rw [c_4]; decide) (by rw [c_4]; rfl) (by decide) ?_
    refine lv_aload_n hx hb dX11_about_59 rfl (lv_at hl 0 rfl) ?_
    refine g_get (C := RX11) (T := TX11) (N := 67) (ci := 11) hx hb hts inX11 hown hK hW (hB 200 bb_200) kd_200 rfl 7 (by decide) mw_968 rfl rfl dX11_about_60 ?_
    cases h
    exact g_iret hx hb hr hlocks hW hS dX11_about_63
  have h := it_f c_4 h
  by_cases c_5 : p1 = 4
  · have h := it_t c_5 h
    refine lv_tableIn (tgt := 64) hx hb dX11_about_1 (by rw [c_5]; decide) (by rw [c_5]; decide) (by rw [c_5]; rfl) (by decide) ?_
    refine lv_aload_n hx hb dX11_about_64 rfl (lv_at hl 0 rfl) ?_
    refine g_get (C := RX11) (T := TX11) (N := 67) (ci := 11) hx hb hts inX11 hown hK hW (hB 200 bb_200) kd_200 rfl 54 (by decide) mw_1015 rfl rfl dX11_about_65 ?_
    cases h
    exact g_iret hx hb hr hlocks hW hS dX11_about_68
  have h := it_f c_5 h
  by_cases c_6 : p1 = 5
  · have h := it_t c_6 h
    refine lv_tableIn (tgt := 69) hx hb dX11_about_1 (by rw [c_6]; decide) (by rw [c_6]; decide) (by rw [c_6]; rfl) (by decide) ?_
    refine lv_aload_n hx hb dX11_about_69 rfl (lv_at hl 0 rfl) ?_
    refine g_get (C := RX11) (T := TX11) (N := 67) (ci := 11) hx hb hts inX11 hown hK hW (hB 200 bb_200) kd_200 rfl 55 (by decide) mw_1016 rfl rfl dX11_about_70 ?_
    cases h
    exact g_iret hx hb hr hlocks hW hS dX11_about_73
  have h := it_f c_6 h
  by_cases c_7 : p1 = 6
  · have h := it_t c_7 h
    refine lv_tableIn (tgt := 74) hx hb dX11_about_1 (by rw [c_7]; decide) (by rw [c_7]; decide) (by rw [c_7]; rfl) (by decide) ?_
    refine lv_aload_n hx hb dX11_about_74 rfl (lv_at hl 0 rfl) ?_
    refine g_get (C := RX11) (T := TX11) (N := 67) (ci := 11) hx hb hts inX11 hown hK hW (hB 200 bb_200) kd_200 rfl 37 (by decide) mw_998 rfl rfl dX11_about_75 ?_
    cases h
    exact g_iret hx hb hr hlocks hW hS dX11_about_78
  have h := it_f c_7 h
  have nc_1 := lv_neT c_1 (a := 0) rfl
  have nc_2 := lv_neT c_2 (a := 1) rfl
  have nc_3 := lv_neT c_3 (a := 2) rfl
  have nc_4 := lv_neT c_4 (a := 3) rfl
  have nc_5 := lv_neT c_5 (a := 4) rfl
  have nc_6 := lv_neT c_6 (a := 5) rfl
  have nc_7 := lv_neT c_7 (a := 6) rfl
  refine lv_tableOut (tgt := 79) hx hb dX11_about_1 (by omega) (by decide) ?_
  refine lv_iconst (v := (-1)) hx hb dX11_about_79 (by decide) ?_
  cases h
  exact g_iret hx hb hr hlocks hW hS dX11_about_80
theorem c_X11_about (hB : Lk L) {S : St} {r : Int32} {p1 : Int32} (h : f_X11_about S p1 = some r) : Met l yX11_about (gws yX11_about cX11_about 2 (some .int)) (rmk 1) (va_Pc [.ref (ad 200), .int p1] (WU g A ad L S)) (qi g A ad L r S) 0 0 A :=
  g_met [.ref (ad 200), .int p1] (by decide) (Nat.le_of_ble_eq_true rfl) (fun p e s m below meth c ls C hW hl _ => t_X11_about C hB h hW va_S.rf hl)
theorem hv_X11_about : yX11_about.cls = RX11 ∧ yX11_about.cls ≠ "java/lang/invoke/MethodHandle" ∧ yX11_about.cls ≠ "java/lang/invoke/VarHandle" ∧ (parseMethodDescriptor yX11_about.desc).map (fun d => d.parameters.length) = some 1 := by decide +kernel
end S20
