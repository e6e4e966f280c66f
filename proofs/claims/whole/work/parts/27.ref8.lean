section S27
variable {p : Program} {l : Launch} {e : Env} {s : State} {m : MethodId} {args : Array Value} {below : List Frame} {meth : Method} {c : Code} {A : Nat → Prop} {g : Cx} {ad : Nat → Nat} {L : List Nat} {N : Nat} {q0 : Nat}
/-! DroveRoadsModel.isHand -/
def f_X11_isHand (S : St) (p1 : Int32) : Option (Int32) := if p1 < 0 then (some 0) else (if 9 < p1 then (some 0) else (some 1))
set_option maxHeartbeats 4000000 in
theorem t_X11_isHand (C : MC p s m args meth c cX11_isHand 1 (some .boolean) RX11 g A) (hB : Lk L) {S : St} {r : Int32} {p1 : Int32} (h : f_X11_isHand S p1 = some r) {H : Heap} {locs : List Loc} {ls : Array Slot} (hW : GW g A ad L S H) (hS : va_S A s.heap H locs) (hl : lv_has ls 1 [(0, .int p1)]) : W p l e (rmk 1) s m args below meth c H locs 0 0 (MQ below (qz g A ad L r S) args s 0 0 A) (F0 m 0 ls []) := by
  obtain ⟨hx, hb, hml, hown, hts, hr, hlocks, hK, hN, hT⟩ := id C
  unfold f_X11_isHand at h
  refine lv_iload_n hx hb dX11_isHand_0 rfl (lv_at hl 0 rfl) ?_
  refine lv_if_lt (tgt := 14) hx hb dX11_isHand_1 (by decide) (fun c_1 => ?_) (fun c_1 => ?_)
  · have h := it_t c_1 h
    refine lv_iconst (v := 0) hx hb dX11_isHand_14 (by decide) ?_
    cases h
    exact g_zret hx hb hr hlocks hW hS (rfl) dX11_isHand_15
  · have h := it_f c_1 h
    refine lv_iload_n hx hb dX11_isHand_4 rfl (lv_at hl 0 rfl) ?_
    refine lv_bipush (v := 9) hx hb dX11_isHand_5 (by decide) ?_
    refine lv_icmp_gt (tgt := 14) hx hb dX11_isHand_7 (by decide) (fun c_2 => ?_) (fun c_2 => ?_)
    · have h := it_t c_2 h
      refine lv_iconst (v := 0) hx hb dX11_isHand_14 (by decide) ?_
      cases h
      exact g_zret hx hb hr hlocks hW hS (rfl) dX11_isHand_15
    · have h := it_f c_2 h
      refine lv_iconst (v := 1) hx hb dX11_isHand_10 (by decide) ?_
      refine lv_goto (tgt := 15) hx hb dX11_isHand_11 (by decide) ?_
      cases h
      exact g_zret hx hb hr hlocks hW hS (rfl) dX11_isHand_15
theorem c_X11_isHand (hB : Lk L) {S : St} {r : Int32} {p1 : Int32} (h : f_X11_isHand S p1 = some r) : Met l yX11_isHand (gws yX11_isHand cX11_isHand 1 (some .boolean)) (rmk 1) (va_Pc [.int p1] (WU g A ad L S)) (qz g A ad L r S) 0 0 A :=
  g_met [.int p1] (by decide) (Nat.le_of_ble_eq_true rfl) (fun p e s m below meth c ls C hW hl _ => t_X11_isHand C hB h hW va_S.rf hl)
theorem hs_X11_isHand : yX11_isHand.cls ≠ "java/lang/invoke/MethodHandle" ∧ yX11_isHand.cls ≠ "java/lang/invoke/VarHandle" ∧ (parseMethodDescriptor yX11_isHand.desc).map (fun d => d.parameters.length) = some 1 := by decide +kernel
/-! DroveRoadsModel.bill -/
def f_X11_bill (S : St) (p1 : Int32) (p2 : Int32) (p3 : Int32) : Option (Int32 × St) := if (gv S 200 54) = 20 then (some ((-1), S)) else (if p1 < 1 then (some ((-1), S)) else (if 1000000 < p1 then (some ((-1), S)) else (cl0 (f_X11_isHand S p2) fun r_5 => if r_5 = 0 then (some ((-1), S)) else (if p3 < 0 then (some ((-1), S)) else (if p3 ≤ 100000 then (if (gv S 200 54) < 0 ∨ 20 ≤ ix (gv S 200 54) then none else bn (sv S 257 (ix (gv S 200 54)) p1) fun S_11 => if (gv S_11 200 54) < 0 ∨ 20 ≤ ix (gv S_11 200 54) then none else bn (sv S_11 258 (ix (gv S_11 200 54)) p2) fun S_13 => if (gv S_13 200 54) < 0 ∨ 20 ≤ ix (gv S_13 200 54) then none else bn (sv S_13 259 (ix (gv S_13 200 54)) p3) fun S_15 => if (gv S_15 200 54) < 0 ∨ 20 ≤ ix (gv S_15 200 54) then none else bn (sv S_15 260 (ix (gv S_15 200 54)) (-1)) fun S_17 => if (gv S_17 200 54) < 0 ∨ 20 ≤ ix (gv S_17 200 54) then none else bn (sv S_17 261 (ix (gv S_17 200 54)) (-1)) fun S_19 => bn (sv S_19 200 54 ((gv S_19 200 54) + 1)) fun S_20 => some (((gv S_20 200 54) - 1), S_20)) else (some ((-1), S)))))))
set_option maxHeartbeats 4000000 in
theorem t_X11_bill (C : MC p s m args meth c cX11_bill 4 (some .int) RX11 g A) (hB : Lk L) {S : St} {r : Int32} {S9 : St} {p1 : Int32} {p2 : Int32} {p3 : Int32} (h : f_X11_bill S p1 p2 p3 = some (r, S9)) {H : Heap} {locs : List Loc} {ls : Array Slot} (hW : GW g A ad L S H) (hS : va_S A s.heap H locs) (hl : lv_has ls 4 [(0, .ref (ad 200)), (1, .int p1), (2, .int p2), (3, .int p3)]) : W p l e (rmk 2) s m args below meth c H locs 0 0 (MQ below (qi g A ad L r S9) args s 0 0 A) (F0 m 0 ls []) := by
  obtain ⟨hx, hb, hml, hown, hts, hr, hlocks, hK, hN, hT⟩ := id C
  unfold f_X11_bill at h
  refine lv_aload_n hx hb dX11_bill_0 rfl (lv_at hl 0 rfl) ?_
  refine g_get (C := RX11) (T := TX11) (N := 67) (ci := 11) hx hb hts inX11 hown hK hW (hB 200 bb_200) kd_200 rfl 54 (by decide) mw_1015 rfl rfl dX11_bill_1 ?_
  refine lv_bipush (v := 20) hx hb dX11_bill_4 (by decide) ?_
  refine lv_icmp_eq (tgt := 38) hx hb dX11_bill_6 (by decide) (fun c_1 => ?_) (fun c_1 => ?_)
  · have h := it_t c_1 h
    refine lv_iconst (v := (-1)) hx hb dX11_bill_38 (by decide) ?_
    cases h
    exact g_iret hx hb hr hlocks hW hS dX11_bill_39
  · have h := it_f c_1 h
    refine lv_iload_n hx hb dX11_bill_9 rfl (lv_at hl 1 rfl) ?_
    refine lv_iconst (v := 1) hx hb dX11_bill_10 (by decide) ?_
    refine lv_icmp_lt (tgt := 38) hx hb dX11_bill_11 (by decide) (fun c_2 => ?_) (fun c_2 => ?_)
    · have h := it_t c_2 h
      refine lv_iconst (v := (-1)) hx hb dX11_bill_38 (by decide) ?_
      cases h
      exact g_iret hx hb hr hlocks hW hS dX11_bill_39
    · have h := it_f c_2 h
      refine lv_iload_n hx hb dX11_bill_14 rfl (lv_at hl 1 rfl) ?_
      refine lv_ldcw (v := 1000000) hx hb hown (hts _ mw_1384) dX11_bill_15 ?_
      refine lv_icmp_gt (tgt := 38) hx hb dX11_bill_18 (by decide) (fun c_3 => ?_) (fun c_3 => ?_)
      · have h := it_t c_3 h
        refine lv_iconst (v := (-1)) hx hb dX11_bill_38 (by decide) ?_
        cases h
        exact g_iret hx hb hr hlocks hW hS dX11_bill_39
      · have h := it_f c_3 h
        refine lv_iload_n hx hb dX11_bill_21 rfl (lv_at hl 2 rfl) ?_
        obtain ⟨r_5, hc_4, h⟩ := cl0_ex h
        refine g_cz (g_runS (As := [.int p2]) (rest := []) hx hb hml hown hts hK hN hT hS hW (c_X11_isHand hB hc_4) (gw_S mw_1385 mw_1386 mw_73 mw_1387) hs_X11_isHand rfl rfl rfl (rm_ok (by decide) (by decide)) hl.1 (Nat.le_of_ble_eq_true rfl) dX11_bill_22 rfl ⟨Nat.zero_le _, Nat.zero_le _⟩) hS (fun hz_6 H locs hW hS => ?_)
        refine lv_if_eq (tgt := 38) hx hb dX11_bill_25 (by decide) (fun c_7 => ?_) (fun c_7 => ?_)
        · have h := it_t c_7 h
          refine lv_iconst (v := (-1)) hx hb dX11_bill_38 (by decide) ?_
          cases h
          exact g_iret hx hb hr hlocks hW hS dX11_bill_39
        · have h := it_f c_7 h
          refine lv_iload_n hx hb dX11_bill_28 rfl (lv_at hl 3 rfl) ?_
          refine lv_if_lt (tgt := 38) hx hb dX11_bill_29 (by decide) (fun c_8 => ?_) (fun c_8 => ?_)
          · have h := it_t c_8 h
            refine lv_iconst (v := (-1)) hx hb dX11_bill_38 (by decide) ?_
            cases h
            exact g_iret hx hb hr hlocks hW hS dX11_bill_39
          · have h := it_f c_8 h
            refine lv_iload_n hx hb dX11_bill_32 rfl (lv_at hl 3 rfl) ?_
            refine lv_ldc (v := 100000) hx hb hown (hts _ mw_1187) dX11_bill_33 ?_
            refine lv_icmp_le (tgt := 40) hx hb dX11_bill_35 (by decide) (fun c_9 => ?_) (fun c_9 => ?_)
            · have h := it_t c_9 h
              refine lv_aload_n hx hb dX11_bill_40 rfl (lv_at hl 0 rfl) ?_
              refine g_get (C := RX11) (T := TX11) (N := 67) (ci := 11) hx hb hts inX11 hown hK hW (hB 200 bb_200) kd_200 rfl 56 (by decide) mw_1017 rfl rfl dX11_bill_41 ?_
              refine lv_aload_n hx hb dX11_bill_44 rfl (lv_at hl 0 rfl) ?_
              refine g_get (C := RX11) (T := TX11) (N := 67) (ci := 11) hx hb hts inX11 hown hK hW (hB 200 bb_200) kd_200 rfl 54 (by decide) mw_1015 rfl rfl dX11_bill_45 ?_
              refine lv_iload_n hx hb dX11_bill_48 rfl (lv_at hl 1 rfl) ?_
              obtain ⟨hi_10, h⟩ := ck_n h
              refine g_iast hx hb hK hW hS (hB 257 bb_257) (fun _ => kd_257) hi_10 dX11_bill_49 (fun S_11 eS_11 H locs hW hS => ?_)
              have h := bn_at eS_11 h
              refine lv_aload_n hx hb dX11_bill_50 rfl (lv_at hl 0 rfl) ?_
              refine g_get (C := RX11) (T := TX11) (N := 67) (ci := 11) hx hb hts inX11 hown hK hW (hB 200 bb_200) kd_200 rfl 57 (by decide) mw_1018 rfl rfl dX11_bill_51 ?_
              refine lv_aload_n hx hb dX11_bill_54 rfl (lv_at hl 0 rfl) ?_
              refine g_get (C := RX11) (T := TX11) (N := 67) (ci := 11) hx hb hts inX11 hown hK hW (hB 200 bb_200) kd_200 rfl 54 (by decide) mw_1015 rfl rfl dX11_bill_55 ?_
              refine lv_iload_n hx hb dX11_bill_58 rfl (lv_at hl 2 rfl) ?_
              obtain ⟨hi_12, h⟩ := ck_n h
              refine g_iast hx hb hK hW hS (hB 258 bb_258) (fun _ => kd_258) hi_12 dX11_bill_59 (fun S_13 eS_13 H locs hW hS => ?_)
              have h := bn_at eS_13 h
              refine lv_aload_n hx hb dX11_bill_60 rfl (lv_at hl 0 rfl) ?_
              refine g_get (C := RX11) (T := TX11) (N := 67) (ci := 11) hx hb hts inX11 hown hK hW (hB 200 bb_200) kd_200 rfl 58 (by decide) mw_1019 rfl rfl dX11_bill_61 ?_
              refine lv_aload_n hx hb dX11_bill_64 rfl (lv_at hl 0 rfl) ?_
              refine g_get (C := RX11) (T := TX11) (N := 67) (ci := 11) hx hb hts inX11 hown hK hW (hB 200 bb_200) kd_200 rfl 54 (by decide) mw_1015 rfl rfl dX11_bill_65 ?_
              refine lv_iload_n hx hb dX11_bill_68 rfl (lv_at hl 3 rfl) ?_
              obtain ⟨hi_14, h⟩ := ck_n h
              refine g_iast hx hb hK hW hS (hB 259 bb_259) (fun _ => kd_259) hi_14 dX11_bill_69 (fun S_15 eS_15 H locs hW hS => ?_)
              have h := bn_at eS_15 h
              refine lv_aload_n hx hb dX11_bill_70 rfl (lv_at hl 0 rfl) ?_
              refine g_get (C := RX11) (T := TX11) (N := 67) (ci := 11) hx hb hts inX11 hown hK hW (hB 200 bb_200) kd_200 rfl 59 (by decide) mw_1020 rfl rfl dX11_bill_71 ?_
              refine lv_aload_n hx hb dX11_bill_74 rfl (lv_at hl 0 rfl) ?_
              refine g_get (C := RX11) (T := TX11) (N := 67) (ci := 11) hx hb hts inX11 hown hK hW (hB 200 bb_200) kd_200 rfl 54 (by decide) mw_1015 rfl rfl dX11_bill_75 ?_
              refine lv_iconst (v := (-1)) hx hb dX11_bill_78 (by decide) ?_
              obtain ⟨hi_16, h⟩ := ck_n h
              refine g_iast hx hb hK hW hS (hB 260 bb_260) (fun _ => kd_260) hi_16 dX11_bill_79 (fun S_17 eS_17 H locs hW hS => ?_)
              have h := bn_at eS_17 h
              refine lv_aload_n hx hb dX11_bill_80 rfl (lv_at hl 0 rfl) ?_
              refine g_get (C := RX11) (T := TX11) (N := 67) (ci := 11) hx hb hts inX11 hown hK hW (hB 200 bb_200) kd_200 rfl 60 (by decide) mw_1021 rfl rfl dX11_bill_81 ?_
              refine lv_aload_n hx hb dX11_bill_84 rfl (lv_at hl 0 rfl) ?_
              refine g_get (C := RX11) (T := TX11) (N := 67) (ci := 11) hx hb hts inX11 hown hK hW (hB 200 bb_200) kd_200 rfl 54 (by decide) mw_1015 rfl rfl dX11_bill_85 ?_
              refine lv_iconst (v := (-1)) hx hb dX11_bill_88 (by decide) ?_
              obtain ⟨hi_18, h⟩ := ck_n h
              refine g_iast hx hb hK hW hS (hB 261 bb_261) (fun _ => kd_261) hi_18 dX11_bill_89 (fun S_19 eS_19 H locs hW hS => ?_)
              have h := bn_at eS_19 h
              refine lv_aload_n hx hb dX11_bill_90 rfl (lv_at hl 0 rfl) ?_
              refine lv_dup hx hb dX11_bill_91 rfl ?_
              refine g_get (C := RX11) (T := TX11) (N := 67) (ci := 11) hx hb hts inX11 hown hK hW (hB 200 bb_200) kd_200 rfl 54 (by decide) mw_1015 rfl rfl dX11_bill_92 ?_
              refine lv_iconst (v := 1) hx hb dX11_bill_95 (by decide) ?_
              refine lv_iadd hx hb dX11_bill_96 ?_
              refine g_put (C := RX11) (T := TX11) (N := 67) (ci := 11) hx hb hts inX11 tyX11 tyX11_ok nmX11 hown hK hW hS (hB 200 bb_200) kd_200 rfl 54 (by decide) mw_1015 rfl rfl rfl rfl (Nat.le_of_ble_eq_true rfl) (sv S_19 200 54 ((gv S_19 200 54) + 1)) (ps_200_54) cellOf_sv dX11_bill_97 (fun S_20 eS_20 H locs hW hS => ?_)
              have h := bn_at eS_20 h
              refine lv_aload_n hx hb dX11_bill_100 rfl (lv_at hl 0 rfl) ?_
              refine g_get (C := RX11) (T := TX11) (N := 67) (ci := 11) hx hb hts inX11 hown hK hW (hB 200 bb_200) kd_200 rfl 54 (by decide) mw_1015 rfl rfl dX11_bill_101 ?_
              refine lv_iconst (v := 1) hx hb dX11_bill_104 (by decide) ?_
              refine lv_isub hx hb dX11_bill_105 ?_
              cases h
              exact g_iret hx hb hr hlocks hW hS dX11_bill_106
            · have h := it_f c_9 h
              refine lv_iconst (v := (-1)) hx hb dX11_bill_38 (by decide) ?_
              cases h
              exact g_iret hx hb hr hlocks hW hS dX11_bill_39
theorem c_X11_bill (hB : Lk L) {S : St} {r : Int32} {S9 : St} {p1 : Int32} {p2 : Int32} {p3 : Int32} (h : f_X11_bill S p1 p2 p3 = some (r, S9)) : Met l yX11_bill (gws yX11_bill cX11_bill 4 (some .int)) (rmk 2) (va_Pc [.ref (ad 200), .int p1, .int p2, .int p3] (WU g A ad L S)) (qi g A ad L r S9) 0 0 A :=
  g_met [.ref (ad 200), .int p1, .int p2, .int p3] (by decide) (Nat.le_of_ble_eq_true rfl) (fun p e s m below meth c ls C hW hl _ => t_X11_bill C hB h hW va_S.rf hl)
theorem hv_X11_bill : yX11_bill.cls = RX11 ∧ yX11_bill.cls ≠ "java/lang/invoke/MethodHandle" ∧ yX11_bill.cls ≠ "java/lang/invoke/VarHandle" ∧ (parseMethodDescriptor yX11_bill.desc).map (fun d => d.parameters.length) = some 3 := by decide +kernel
/-! DroveRoadsModel.isBill -/
def f_X11_isBill (S : St) (p1 : Int32) : Option (Int32) := if p1 < 0 then (some 0) else (if (gv S 200 54) ≤ p1 then (some 0) else (some 1))
set_option maxHeartbeats 4000000 in
theorem t_X11_isBill (C : MC p s m args meth c cX11_isBill 2 (some .boolean) RX11 g A) (hB : Lk L) {S : St} {r : Int32} {p1 : Int32} (h : f_X11_isBill S p1 = some r) {H : Heap} {locs : List Loc} {ls : Array Slot} (hW : GW g A ad L S H) (hS : va_S A s.heap H locs) (hl : lv_has ls 2 [(0, .ref (ad 200)), (1, .int p1)]) : W p l e (rmk 1) s m args below meth c H locs 0 0 (MQ below (qz g A ad L r S) args s 0 0 A) (F0 m 0 ls []) := by
  obtain ⟨hx, hb, hml, hown, hts, hr, hlocks, hK, hN, hT⟩ := id C
  unfold f_X11_isBill at h
  refine lv_iload_n hx hb dX11_isBill_0 rfl (lv_at hl 1 rfl) ?_
  refine lv_if_lt (tgt := 16) hx hb dX11_isBill_1 (by decide) (fun c_1 => ?_) (fun c_1 => ?_)
  · have h := it_t c_1 h
    refine lv_iconst (v := 0) hx hb dX11_isBill_16 (by decide) ?_
    cases h
    exact g_zret hx hb hr hlocks hW hS (rfl) dX11_isBill_17
  · have h := it_f c_1 h
    refine lv_iload_n hx hb dX11_isBill_4 rfl (lv_at hl 1 rfl) ?_
    refine lv_aload_n hx hb dX11_isBill_5 rfl (lv_at hl 0 rfl) ?_
    refine g_get (C := RX11) (T := TX11) (N := 67) (ci := 11) hx hb hts inX11 hown hK hW (hB 200 bb_200) kd_200 rfl 54 (by decide) mw_1015 rfl rfl dX11_isBill_6 ?_
    refine lv_icmp_ge (tgt := 16) hx hb dX11_isBill_9 (by decide) (fun c_2 => ?_) (fun c_2 => ?_)
    · have h := it_t c_2 h
      refine lv_iconst (v := 0) hx hb dX11_isBill_16 (by decide) ?_
      cases h
      exact g_zret hx hb hr hlocks hW hS (rfl) dX11_isBill_17
    · have h := it_f c_2 h
      refine lv_iconst (v := 1) hx hb dX11_isBill_12 (by decide) ?_
      refine lv_goto (tgt := 17) hx hb dX11_isBill_13 (by decide) ?_
      cases h
      exact g_zret hx hb hr hlocks hW hS (rfl) dX11_isBill_17
theorem c_X11_isBill (hB : Lk L) {S : St} {r : Int32} {p1 : Int32} (h : f_X11_isBill S p1 = some r) : Met l yX11_isBill (gws yX11_isBill cX11_isBill 2 (some .boolean)) (rmk 1) (va_Pc [.ref (ad 200), .int p1] (WU g A ad L S)) (qz g A ad L r S) 0 0 A :=
  g_met [.ref (ad 200), .int p1] (by decide) (Nat.le_of_ble_eq_true rfl) (fun p e s m below meth c ls C hW hl _ => t_X11_isBill C hB h hW va_S.rf hl)
theorem hv_X11_isBill : yX11_isBill.cls = RX11 ∧ yX11_isBill.cls ≠ "java/lang/invoke/MethodHandle" ∧ yX11_isBill.cls ≠ "java/lang/invoke/VarHandle" ∧ (parseMethodDescriptor yX11_isBill.desc).map (fun d => d.parameters.length) = some 1 := by decide +kernel
/-! DroveRoadsModel.pass -/
def f_X11_pass (S : St) (p1 : Int32) (p2 : Int32) (p3 : Int32) (p4 : Int32) : Option (Int32 × St) := if (gv S 200 55) = 60 then (some ((-1), S)) else (cl0 (f_X11_isBill S p1) fun r_3 => if r_3 = 0 then (some ((-1), S)) else (cl0 (f_X11_isHand S p2) fun r_7 => if r_7 = 0 then (some ((-1), S)) else (cl0 (f_X11_isHand S p3) fun r_11 => if r_11 = 0 then (some ((-1), S)) else (if p2 = p3 then (some ((-1), S)) else (if p4 < 0 then (some ((-1), S)) else (if p4 ≤ (gv S 200 0) then (if (gv S 200 55) < 0 ∨ 60 ≤ ix (gv S 200 55) then none else bn (sv S 262 (ix (gv S 200 55)) p1) fun S_18 => if (gv S_18 200 55) < 0 ∨ 60 ≤ ix (gv S_18 200 55) then none else bn (sv S_18 263 (ix (gv S_18 200 55)) p2) fun S_20 => if (gv S_20 200 55) < 0 ∨ 60 ≤ ix (gv S_20 200 55) then none else bn (sv S_20 264 (ix (gv S_20 200 55)) p3) fun S_22 => if (gv S_22 200 55) < 0 ∨ 60 ≤ ix (gv S_22 200 55) then none else bn (sv S_22 265 (ix (gv S_22 200 55)) p4) fun S_24 => if (gv S_24 200 55) < 0 ∨ 60 ≤ ix (gv S_24 200 55) then none else bn (sv S_24 266 (ix (gv S_24 200 55)) (gv S_24 200 0)) fun S_26 => if (gv S_26 200 55) < 0 ∨ 60 ≤ ix (gv S_26 200 55) then none else bn (sv S_26 267 (ix (gv S_26 200 55)) (-1)) fun S_28 => bn (sv S_28 200 55 ((gv S_28 200 55) + 1)) fun S_29 => some (((gv S_29 200 55) - 1), S_29)) else (some ((-1), S))))))))
set_option maxHeartbeats 4000000 in
theorem t_X11_pass (C : MC p s m args meth c cX11_pass 5 (some .int) RX11 g A) (hB : Lk L) {S : St} {r : Int32} {S9 : St} {p1 : Int32} {p2 : Int32} {p3 : Int32} {p4 : Int32} (h : f_X11_pass S p1 p2 p3 p4 = some (r, S9)) {H : Heap} {locs : List Loc} {ls : Array Slot} (hW : GW g A ad L S H) (hS : va_S A s.heap H locs) (hl : lv_has ls 5 [(0, .ref (ad 200)), (1, .int p1), (2, .int p2), (3, .int p3), (4, .int p4)]) : W p l e (rmk 2) s m args below meth c H locs 0 0 (MQ below (qi g A ad L r S9) args s 0 0 A) (F0 m 0 ls []) := by
  obtain ⟨hx, hb, hml, hown, hts, hr, hlocks, hK, hN, hT⟩ := id C
  unfold f_X11_pass at h
  refine lv_aload_n hx hb dX11_pass_0 rfl (lv_at hl 0 rfl) ?_
  refine g_get (C := RX11) (T := TX11) (N := 67) (ci := 11) hx hb hts inX11 hown hK hW (hB 200 bb_200) kd_200 rfl 55 (by decide) mw_1016 rfl rfl dX11_pass_1 ?_
  refine lv_bipush (v := 60) hx hb dX11_pass_4 (by decide) ?_
  refine lv_icmp_eq (tgt := 50) hx hb dX11_pass_6 (by decide) (fun c_1 => ?_) (fun c_1 => ?_)
  · have h := it_t c_1 h
    refine lv_iconst (v := (-1)) hx hb dX11_pass_50 (by decide) ?_
    cases h
    exact g_iret hx hb hr hlocks hW hS dX11_pass_51
  · have h := it_f c_1 h
    refine lv_aload_n hx hb dX11_pass_9 rfl (lv_at hl 0 rfl) ?_
    refine lv_iload_n hx hb dX11_pass_10 rfl (lv_at hl 1 rfl) ?_
    obtain ⟨r_3, hc_2, h⟩ := cl0_ex h
    refine g_cz (g_runV (ci := 11) (o := 200) (As := [.int p1]) (rest := []) hx hb hml hown hts hK hN hT hS hW (c_X11_isBill hB hc_2) (hB 200 bb_200) kd_200 rfl (gw_V mw_1392 mw_1394 mw_64 mw_73 mw_1395) hv_X11_isBill rfl rfl rfl (rm_ok (by decide) (by decide)) hl.1 (Nat.le_of_ble_eq_true rfl) dX11_pass_11 rfl ⟨Nat.zero_le _, Nat.zero_le _⟩) hS (fun hz_4 H locs hW hS => ?_)
    refine lv_if_eq (tgt := 50) hx hb dX11_pass_14 (by decide) (fun c_5 => ?_) (fun c_5 => ?_)
    · have h := it_t c_5 h
      refine lv_iconst (v := (-1)) hx hb dX11_pass_50 (by decide) ?_
      cases h
      exact g_iret hx hb hr hlocks hW hS dX11_pass_51
    · have h := it_f c_5 h
      refine lv_iload_n hx hb dX11_pass_17 rfl (lv_at hl 2 rfl) ?_
      obtain ⟨r_7, hc_6, h⟩ := cl0_ex h
      refine g_cz (g_runS (As := [.int p2]) (rest := []) hx hb hml hown hts hK hN hT hS hW (c_X11_isHand hB hc_6) (gw_S mw_1385 mw_1386 mw_73 mw_1387) hs_X11_isHand rfl rfl rfl (rm_ok (by decide) (by decide)) hl.1 (Nat.le_of_ble_eq_true rfl) dX11_pass_18 rfl ⟨Nat.zero_le _, Nat.zero_le _⟩) hS (fun hz_8 H locs hW hS => ?_)
      refine lv_if_eq (tgt := 50) hx hb dX11_pass_21 (by decide) (fun c_9 => ?_) (fun c_9 => ?_)
      · have h := it_t c_9 h
        refine lv_iconst (v := (-1)) hx hb dX11_pass_50 (by decide) ?_
        cases h
        exact g_iret hx hb hr hlocks hW hS dX11_pass_51
      · have h := it_f c_9 h
        refine lv_iload_n hx hb dX11_pass_24 rfl (lv_at hl 3 rfl) ?_
        obtain ⟨r_11, hc_10, h⟩ := cl0_ex h
        refine g_cz (g_runS (As := [.int p3]) (rest := []) hx hb hml hown hts hK hN hT hS hW (c_X11_isHand hB hc_10) (gw_S mw_1385 mw_1386 mw_73 mw_1387) hs_X11_isHand rfl rfl rfl (rm_ok (by decide) (by decide)) hl.1 (Nat.le_of_ble_eq_true rfl) dX11_pass_25 rfl ⟨Nat.zero_le _, Nat.zero_le _⟩) hS (fun hz_12 H locs hW hS => ?_)
        refine lv_if_eq (tgt := 50) hx hb dX11_pass_28 (by decide) (fun c_13 => ?_) (fun c_13 => ?_)
        · have h := it_t c_13 h
          refine lv_iconst (v := (-1)) hx hb dX11_pass_50 (by decide) ?_
          cases h
          exact g_iret hx hb hr hlocks hW hS dX11_pass_51
        · have h := it_f c_13 h
          refine lv_iload_n hx hb dX11_pass_31 rfl (lv_at hl 2 rfl) ?_
          refine lv_iload_n hx hb dX11_pass_32 rfl (lv_at hl 3 rfl) ?_
          refine lv_icmp_eq (tgt := 50) hx hb dX11_pass_33 (by decide) (fun c_14 => ?_) (fun c_14 => ?_)
          · have h := it_t c_14 h
            refine lv_iconst (v := (-1)) hx hb dX11_pass_50 (by decide) ?_
            cases h
            exact g_iret hx hb hr hlocks hW hS dX11_pass_51
          · have h := it_f c_14 h
            refine lv_iload hx hb dX11_pass_36 (lv_at hl 4 rfl) ?_
            refine lv_if_lt (tgt := 50) hx hb dX11_pass_38 (by decide) (fun c_15 => ?_) (fun c_15 => ?_)
            · have h := it_t c_15 h
              refine lv_iconst (v := (-1)) hx hb dX11_pass_50 (by decide) ?_
              cases h
              exact g_iret hx hb hr hlocks hW hS dX11_pass_51
            · have h := it_f c_15 h
              refine lv_iload hx hb dX11_pass_41 (lv_at hl 4 rfl) ?_
              refine lv_aload_n hx hb dX11_pass_43 rfl (lv_at hl 0 rfl) ?_
              refine g_get (C := RX11) (T := TX11) (N := 67) (ci := 11) hx hb hts inX11 hown hK hW (hB 200 bb_200) kd_200 rfl 0 (by decide) mw_961 rfl rfl dX11_pass_44 ?_
              refine lv_icmp_le (tgt := 52) hx hb dX11_pass_47 (by decide) (fun c_16 => ?_) (fun c_16 => ?_)
              · have h := it_t c_16 h
                refine lv_aload_n hx hb dX11_pass_52 rfl (lv_at hl 0 rfl) ?_
                refine g_get (C := RX11) (T := TX11) (N := 67) (ci := 11) hx hb hts inX11 hown hK hW (hB 200 bb_200) kd_200 rfl 61 (by decide) mw_1022 rfl rfl dX11_pass_53 ?_
                refine lv_aload_n hx hb dX11_pass_56 rfl (lv_at hl 0 rfl) ?_
                refine g_get (C := RX11) (T := TX11) (N := 67) (ci := 11) hx hb hts inX11 hown hK hW (hB 200 bb_200) kd_200 rfl 55 (by decide) mw_1016 rfl rfl dX11_pass_57 ?_
                refine lv_iload_n hx hb dX11_pass_60 rfl (lv_at hl 1 rfl) ?_
                obtain ⟨hi_17, h⟩ := ck_n h
                refine g_iast hx hb hK hW hS (hB 262 bb_262) (fun _ => kd_262) hi_17 dX11_pass_61 (fun S_18 eS_18 H locs hW hS => ?_)
                have h := bn_at eS_18 h
                refine lv_aload_n hx hb dX11_pass_62 rfl (lv_at hl 0 rfl) ?_
                refine g_get (C := RX11) (T := TX11) (N := 67) (ci := 11) hx hb hts inX11 hown hK hW (hB 200 bb_200) kd_200 rfl 62 (by decide) mw_1023 rfl rfl dX11_pass_63 ?_
                refine lv_aload_n hx hb dX11_pass_66 rfl (lv_at hl 0 rfl) ?_
                refine g_get (C := RX11) (T := TX11) (N := 67) (ci := 11) hx hb hts inX11 hown hK hW (hB 200 bb_200) kd_200 rfl 55 (by decide) mw_1016 rfl rfl dX11_pass_67 ?_
                refine lv_iload_n hx hb dX11_pass_70 rfl (lv_at hl 2 rfl) ?_
                obtain ⟨hi_19, h⟩ := ck_n h
                refine g_iast hx hb hK hW hS (hB 263 bb_263) (fun _ => kd_263) hi_19 dX11_pass_71 (fun S_20 eS_20 H locs hW hS => ?_)
                have h := bn_at eS_20 h
                refine lv_aload_n hx hb dX11_pass_72 rfl (lv_at hl 0 rfl) ?_
                refine g_get (C := RX11) (T := TX11) (N := 67) (ci := 11) hx hb hts inX11 hown hK hW (hB 200 bb_200) kd_200 rfl 63 (by decide) mw_1024 rfl rfl dX11_pass_73 ?_
                refine lv_aload_n hx hb dX11_pass_76 rfl (lv_at hl 0 rfl) ?_
                refine g_get (C := RX11) (T := TX11) (N := 67) (ci := 11) hx hb hts inX11 hown hK hW (hB 200 bb_200) kd_200 rfl 55 (by decide) mw_1016 rfl rfl dX11_pass_77 ?_
                refine lv_iload_n hx hb dX11_pass_80 rfl (lv_at hl 3 rfl) ?_
                obtain ⟨hi_21, h⟩ := ck_n h
                refine g_iast hx hb hK hW hS (hB 264 bb_264) (fun _ => kd_264) hi_21 dX11_pass_81 (fun S_22 eS_22 H locs hW hS => ?_)
                have h := bn_at eS_22 h
                refine lv_aload_n hx hb dX11_pass_82 rfl (lv_at hl 0 rfl) ?_
                refine g_get (C := RX11) (T := TX11) (N := 67) (ci := 11) hx hb hts inX11 hown hK hW (hB 200 bb_200) kd_200 rfl 64 (by decide) mw_1025 rfl rfl dX11_pass_83 ?_
                refine lv_aload_n hx hb dX11_pass_86 rfl (lv_at hl 0 rfl) ?_
                refine g_get (C := RX11) (T := TX11) (N := 67) (ci := 11) hx hb hts inX11 hown hK hW (hB 200 bb_200) kd_200 rfl 55 (by decide) mw_1016 rfl rfl dX11_pass_87 ?_
                refine lv_iload hx hb dX11_pass_90 (lv_at hl 4 rfl) ?_
                obtain ⟨hi_23, h⟩ := ck_n h
                refine g_iast hx hb hK hW hS (hB 265 bb_265) (fun _ => kd_265) hi_23 dX11_pass_92 (fun S_24 eS_24 H locs hW hS => ?_)
                have h := bn_at eS_24 h
                refine lv_aload_n hx hb dX11_pass_93 rfl (lv_at hl 0 rfl) ?_
                refine g_get (C := RX11) (T := TX11) (N := 67) (ci := 11) hx hb hts inX11 hown hK hW (hB 200 bb_200) kd_200 rfl 65 (by decide) mw_1026 rfl rfl dX11_pass_94 ?_
                refine lv_aload_n hx hb dX11_pass_97 rfl (lv_at hl 0 rfl) ?_
                refine g_get (C := RX11) (T := TX11) (N := 67) (ci := 11) hx hb hts inX11 hown hK hW (hB 200 bb_200) kd_200 rfl 55 (by decide) mw_1016 rfl rfl dX11_pass_98 ?_
                refine lv_aload_n hx hb dX11_pass_101 rfl (lv_at hl 0 rfl) ?_
                refine g_get (C := RX11) (T := TX11) (N := 67) (ci := 11) hx hb hts inX11 hown hK hW (hB 200 bb_200) kd_200 rfl 0 (by decide) mw_961 rfl rfl dX11_pass_102 ?_
                obtain ⟨hi_25, h⟩ := ck_n h
                refine g_iast hx hb hK hW hS (hB 266 bb_266) (fun _ => kd_266) hi_25 dX11_pass_105 (fun S_26 eS_26 H locs hW hS => ?_)
                have h := bn_at eS_26 h
                refine lv_aload_n hx hb dX11_pass_106 rfl (lv_at hl 0 rfl) ?_
                refine g_get (C := RX11) (T := TX11) (N := 67) (ci := 11) hx hb hts inX11 hown hK hW (hB 200 bb_200) kd_200 rfl 66 (by decide) mw_1027 rfl rfl dX11_pass_107 ?_
                refine lv_aload_n hx hb dX11_pass_110 rfl (lv_at hl 0 rfl) ?_
                refine g_get (C := RX11) (T := TX11) (N := 67) (ci := 11) hx hb hts inX11 hown hK hW (hB 200 bb_200) kd_200 rfl 55 (by decide) mw_1016 rfl rfl dX11_pass_111 ?_
                refine lv_iconst (v := (-1)) hx hb dX11_pass_114 (by decide) ?_
                obtain ⟨hi_27, h⟩ := ck_n h
                refine g_iast hx hb hK hW hS (hB 267 bb_267) (fun _ => kd_267) hi_27 dX11_pass_115 (fun S_28 eS_28 H locs hW hS => ?_)
                have h := bn_at eS_28 h
                refine lv_aload_n hx hb dX11_pass_116 rfl (lv_at hl 0 rfl) ?_
                refine lv_dup hx hb dX11_pass_117 rfl ?_
                refine g_get (C := RX11) (T := TX11) (N := 67) (ci := 11) hx hb hts inX11 hown hK hW (hB 200 bb_200) kd_200 rfl 55 (by decide) mw_1016 rfl rfl dX11_pass_118 ?_
                refine lv_iconst (v := 1) hx hb dX11_pass_121 (by decide) ?_
                refine lv_iadd hx hb dX11_pass_122 ?_
                refine g_put (C := RX11) (T := TX11) (N := 67) (ci := 11) hx hb hts inX11 tyX11 tyX11_ok nmX11 hown hK hW hS (hB 200 bb_200) kd_200 rfl 55 (by decide) mw_1016 rfl rfl rfl rfl (Nat.le_of_ble_eq_true rfl) (sv S_28 200 55 ((gv S_28 200 55) + 1)) (ps_200_55) cellOf_sv dX11_pass_123 (fun S_29 eS_29 H locs hW hS => ?_)
                have h := bn_at eS_29 h
                refine lv_aload_n hx hb dX11_pass_126 rfl (lv_at hl 0 rfl) ?_
                refine g_get (C := RX11) (T := TX11) (N := 67) (ci := 11) hx hb hts inX11 hown hK hW (hB 200 bb_200) kd_200 rfl 55 (by decide) mw_1016 rfl rfl dX11_pass_127 ?_
                refine lv_iconst (v := 1) hx hb dX11_pass_130 (by decide) ?_
                refine lv_isub hx hb dX11_pass_131 ?_
                cases h
                exact g_iret hx hb hr hlocks hW hS dX11_pass_132
              · have h := it_f c_16 h
                refine lv_iconst (v := (-1)) hx hb dX11_pass_50 (by decide) ?_
                cases h
                exact g_iret hx hb hr hlocks hW hS dX11_pass_51
theorem c_X11_pass (hB : Lk L) {S : St} {r : Int32} {S9 : St} {p1 : Int32} {p2 : Int32} {p3 : Int32} {p4 : Int32} (h : f_X11_pass S p1 p2 p3 p4 = some (r, S9)) : Met l yX11_pass (gws yX11_pass cX11_pass 5 (some .int)) (rmk 2) (va_Pc [.ref (ad 200), .int p1, .int p2, .int p3, .int p4] (WU g A ad L S)) (qi g A ad L r S9) 0 0 A :=
  g_met [.ref (ad 200), .int p1, .int p2, .int p3, .int p4] (by decide) (Nat.le_of_ble_eq_true rfl) (fun p e s m below meth c ls C hW hl _ => t_X11_pass C hB h hW va_S.rf hl)
theorem hv_X11_pass : yX11_pass.cls = RX11 ∧ yX11_pass.cls ≠ "java/lang/invoke/MethodHandle" ∧ yX11_pass.cls ≠ "java/lang/invoke/VarHandle" ∧ (parseMethodDescriptor yX11_pass.desc).map (fun d => d.parameters.length) = some 4 := by decide +kernel
/-! DroveRoadsModel.untell -/
def f_X11_untell (S : St) (p1 : Int32) : Option (Int32 × St) := if p1 < 0 then (some (0, S)) else (if (gv S 200 55) ≤ p1 then (some (0, S)) else (if p1 < 0 ∨ 60 ≤ ix p1 then none else if (gv S 267 (ix p1)) < 0 then (if p1 < 0 ∨ 60 ≤ ix p1 then none else bn (sv S 267 (ix p1) (gv S 200 0)) fun S_6 => some (1, S_6)) else (some (0, S))))
set_option maxHeartbeats 4000000 in
theorem t_X11_untell (C : MC p s m args meth c cX11_untell 2 (some .boolean) RX11 g A) (hB : Lk L) {S : St} {r : Int32} {S9 : St} {p1 : Int32} (h : f_X11_untell S p1 = some (r, S9)) {H : Heap} {locs : List Loc} {ls : Array Slot} (hW : GW g A ad L S H) (hS : va_S A s.heap H locs) (hl : lv_has ls 2 [(0, .ref (ad 200)), (1, .int p1)]) : W p l e (rmk 1) s m args below meth c H locs 0 0 (MQ below (qz g A ad L r S9) args s 0 0 A) (F0 m 0 ls []) := by
  obtain ⟨hx, hb, hml, hown, hts, hr, hlocks, hK, hN, hT⟩ := id C
  unfold f_X11_untell at h
  refine lv_iload_n hx hb dX11_untell_0 rfl (lv_at hl 1 rfl) ?_
  refine lv_if_lt (tgt := 21) hx hb dX11_untell_1 (by decide) (fun c_1 => ?_) (fun c_1 => ?_)
  · have h := it_t c_1 h
    refine lv_iconst (v := 0) hx hb dX11_untell_21 (by decide) ?_
    cases h
    exact g_zret hx hb hr hlocks hW hS (rfl) dX11_untell_22
  · have h := it_f c_1 h
    refine lv_iload_n hx hb dX11_untell_4 rfl (lv_at hl 1 rfl) ?_
    refine lv_aload_n hx hb dX11_untell_5 rfl (lv_at hl 0 rfl) ?_
    refine g_get (C := RX11) (T := TX11) (N := 67) (ci := 11) hx hb hts inX11 hown hK hW (hB 200 bb_200) kd_200 rfl 55 (by decide) mw_1016 rfl rfl dX11_untell_6 ?_
    refine lv_icmp_ge (tgt := 21) hx hb dX11_untell_9 (by decide) (fun c_2 => ?_) (fun c_2 => ?_)
    · have h := it_t c_2 h
      refine lv_iconst (v := 0) hx hb dX11_untell_21 (by decide) ?_
      cases h
      exact g_zret hx hb hr hlocks hW hS (rfl) dX11_untell_22
    · have h := it_f c_2 h
      refine lv_aload_n hx hb dX11_untell_12 rfl (lv_at hl 0 rfl) ?_
      refine g_get (C := RX11) (T := TX11) (N := 67) (ci := 11) hx hb hts inX11 hown hK hW (hB 200 bb_200) kd_200 rfl 66 (by decide) mw_1027 rfl rfl dX11_untell_13 ?_
      refine lv_iload_n hx hb dX11_untell_16 rfl (lv_at hl 1 rfl) ?_
      obtain ⟨hi_3, h⟩ := ck_n h
      refine g_iald hx hb hK hW (hB 267 bb_267) kd_267 hi_3 dX11_untell_17 ?_
      refine lv_if_lt (tgt := 23) hx hb dX11_untell_18 (by decide) (fun c_4 => ?_) (fun c_4 => ?_)
      · have h := it_t c_4 h
        refine lv_aload_n hx hb dX11_untell_23 rfl (lv_at hl 0 rfl) ?_
        refine g_get (C := RX11) (T := TX11) (N := 67) (ci := 11) hx hb hts inX11 hown hK hW (hB 200 bb_200) kd_200 rfl 66 (by decide) mw_1027 rfl rfl dX11_untell_24 ?_
        refine lv_iload_n hx hb dX11_untell_27 rfl (lv_at hl 1 rfl) ?_
        refine lv_aload_n hx hb dX11_untell_28 rfl (lv_at hl 0 rfl) ?_
        refine g_get (C := RX11) (T := TX11) (N := 67) (ci := 11) hx hb hts inX11 hown hK hW (hB 200 bb_200) kd_200 rfl 0 (by decide) mw_961 rfl rfl dX11_untell_29 ?_
        obtain ⟨hi_5, h⟩ := ck_n h
        refine g_iast hx hb hK hW hS (hB 267 bb_267) (fun _ => kd_267) hi_5 dX11_untell_32 (fun S_6 eS_6 H locs hW hS => ?_)
        have h := bn_at eS_6 h
        refine lv_iconst (v := 1) hx hb dX11_untell_33 (by decide) ?_
        cases h
        exact g_zret hx hb hr hlocks hW hS (rfl) dX11_untell_34
      · have h := it_f c_4 h
        refine lv_iconst (v := 0) hx hb dX11_untell_21 (by decide) ?_
        cases h
        exact g_zret hx hb hr hlocks hW hS (rfl) dX11_untell_22
theorem c_X11_untell (hB : Lk L) {S : St} {r : Int32} {S9 : St} {p1 : Int32} (h : f_X11_untell S p1 = some (r, S9)) : Met l yX11_untell (gws yX11_untell cX11_untell 2 (some .boolean)) (rmk 1) (va_Pc [.ref (ad 200), .int p1] (WU g A ad L S)) (qz g A ad L r S9) 0 0 A :=
  g_met [.ref (ad 200), .int p1] (by decide) (Nat.le_of_ble_eq_true rfl) (fun p e s m below meth c ls C hW hl _ => t_X11_untell C hB h hW va_S.rf hl)
theorem hv_X11_untell : yX11_untell.cls = RX11 ∧ yX11_untell.cls ≠ "java/lang/invoke/MethodHandle" ∧ yX11_untell.cls ≠ "java/lang/invoke/VarHandle" ∧ (parseMethodDescriptor yX11_untell.desc).map (fun d => d.parameters.length) = some 1 := by decide +kernel
/-! DroveRoadsModel.holder -/
def f_X11_holder_j144 (N : Nat) (kb : Int32 → Int32 → Option (Int32)) (k : Int32 → Option (Int32)) (S : St) (v1 : Int32) (v2 : Int32) (v3 : Int32) (v4 : Int32) (v5 : Int32) (v6 : Int32) (v8 : Int32) (v9 : Int32) (v10 : Int32) (w100 : Int32) : Option (Int32) := if v10 = 0 then (bn (v9 + 1) fun x_14 => kb v8 x_14) else (if w100 = 0 then (bn (v9 + 1) fun x_16 => kb v8 x_16) else (if v8 < 0 then (bn (v9 + 1) fun x_18 => kb v9 x_18) else (if v9 < 0 ∨ 60 ≤ ix v9 then none else if v8 < 0 ∨ 60 ≤ ix v8 then none else if (gv S 265 (ix v8)) ≤ (gv S 265 (ix v9)) then (bn (v9 + 1) fun x_22 => kb v8 x_22) else (bn (v9 + 1) fun x_23 => kb v9 x_23))))
set_option maxHeartbeats 4000000 in
theorem t_X11_holder_j144 (C : MC p s m args meth c cX11_holder 12 (some .int) RX11 g A) (hB : Lk L) {S : St} {r : Int32} {v1 : Int32} {v2 : Int32} {v3 : Int32} {v4 : Int32} {v5 : Int32} {v6 : Int32} {v8 : Int32} {v9 : Int32} {v10 : Int32} {w100 : Int32} {kb : Int32 → Int32 → Option (Int32)} {k : Int32 → Option (Int32)} (hkb : ∀ (u8 : Int32) (u9 : Int32), kb u8 u9 = some r → ∀ (H : Heap) (locs : List Loc) (ls : Array Slot), GW g A ad L S H → va_S A s.heap H locs → lv_has ls 12 [(0, .ref (ad 200)), (1, .int v1), (2, .int v2), (3, .int v3), (4, .int v4), (5, .int v5), (6, .int v6), (8, .int u8), (9, .int u9)] → W p l e (rmk 2) s m args below meth c H locs 0 0 (MQ below (qi g A ad L r S) args s 0 0 A) (F0 m 38 ls [])) (hk : ∀ (u8 : Int32), k u8 = some r → ∀ (H : Heap) (locs : List Loc) (ls : Array Slot), GW g A ad L S H → va_S A s.heap H locs → lv_has ls 12 [(0, .ref (ad 200)), (1, .int v1), (2, .int v2), (3, .int v3), (4, .int v4), (5, .int v5), (6, .int v6), (8, .int u8)] → W p l e (rmk 2) s m args below meth c H locs 0 0 (MQ below (qi g A ad L r S) args s 0 0 A) (F0 m 188 ls [])) (h : f_X11_holder_j144 N kb k S v1 v2 v3 v4 v5 v6 v8 v9 v10 w100 = some r) {H : Heap} {locs : List Loc} {ls : Array Slot} (hW : GW g A ad L S H) (hS : va_S A s.heap H locs) (hl : lv_has ls 12 [(0, .ref (ad 200)), (1, .int v1), (2, .int v2), (3, .int v3), (4, .int v4), (5, .int v5), (6, .int v6), (8, .int v8), (9, .int v9), (10, .int v10)]) : W p l e (rmk 2) s m args below meth c H locs 0 0 (MQ below (qi g A ad L r S) args s 0 0 A) (F0 m 144 ls [.int w100]) := by
  obtain ⟨hx, hb, hml, hown, hts, hr, hlocks, hK, hN, hT⟩ := id C
  unfold f_X11_holder_j144 at h
  refine lv_istore (lv' := [(11, .int w100), (0, .ref (ad 200)), (1, .int v1), (2, .int v2), (3, .int v3), (4, .int v4), (5, .int v5), (6, .int v6), (8, .int v8), (9, .int v9), (10, .int v10)]) hx hb dX11_holder_144 hl (by decide) rfl (fun ls hl => ?_)
  refine lv_iload hx hb dX11_holder_146 (lv_at hl 10 rfl) ?_
  refine lv_if_eq (tgt := 182) hx hb dX11_holder_148 (by decide) (fun c_13 => ?_) (fun c_13 => ?_)
  · have h := it_t c_13 h
    obtain ⟨x_14, ex_14⟩ : ∃ z : Int32, z = v9 + 1 := ⟨_, rfl⟩
    have h := bn_at ex_14 h
    refine lv_iinc (v := x_14) (lv' := [(9, .int x_14), (11, .int w100), (0, .ref (ad 200)), (1, .int v1), (2, .int v2), (3, .int v3), (4, .int v4), (5, .int v5), (6, .int v6), (8, .int v8), (10, .int v10)]) hx hb dX11_holder_182 hl (k := 9) rfl (by rw [ex_14]; rfl) (by decide) rfl (fun ls hl => ?_)
    refine lv_goto (tgt := 38) hx hb dX11_holder_185 (by decide) ?_
    exact hkb _ _ h _ _ _ hW hS (lv_sub hl [2, 3, 4, 5, 6, 7, 8, 9, 0] rfl)
  · have h := it_f c_13 h
    refine lv_iload hx hb dX11_holder_151 (lv_at hl 0 rfl) ?_
    refine lv_if_eq (tgt := 182) hx hb dX11_holder_153 (by decide) (fun c_15 => ?_) (fun c_15 => ?_)
    · have h := it_t c_15 h
      obtain ⟨x_16, ex_16⟩ : ∃ z : Int32, z = v9 + 1 := ⟨_, rfl⟩
      have h := bn_at ex_16 h
      refine lv_iinc (v := x_16) (lv' := [(9, .int x_16), (11, .int w100), (0, .ref (ad 200)), (1, .int v1), (2, .int v2), (3, .int v3), (4, .int v4), (5, .int v5), (6, .int v6), (8, .int v8), (10, .int v10)]) hx hb dX11_holder_182 hl (k := 9) rfl (by rw [ex_16]; rfl) (by decide) rfl (fun ls hl => ?_)
      refine lv_goto (tgt := 38) hx hb dX11_holder_185 (by decide) ?_
      exact hkb _ _ h _ _ _ hW hS (lv_sub hl [2, 3, 4, 5, 6, 7, 8, 9, 0] rfl)
    · have h := it_f c_15 h
      refine lv_iload hx hb dX11_holder_156 (lv_at hl 8 rfl) ?_
      refine lv_if_lt (tgt := 178) hx hb dX11_holder_158 (by decide) (fun c_17 => ?_) (fun c_17 => ?_)
      · have h := it_t c_17 h
        refine lv_iload hx hb dX11_holder_178 (lv_at hl 9 rfl) ?_
        refine lv_istore (lv' := [(8, .int v9), (11, .int w100), (0, .ref (ad 200)), (1, .int v1), (2, .int v2), (3, .int v3), (4, .int v4), (5, .int v5), (6, .int v6), (9, .int v9), (10, .int v10)]) hx hb dX11_holder_180 hl (by decide) rfl (fun ls hl => ?_)
        obtain ⟨x_18, ex_18⟩ : ∃ z : Int32, z = v9 + 1 := ⟨_, rfl⟩
        have h := bn_at ex_18 h
        refine lv_iinc (v := x_18) (lv' := [(9, .int x_18), (8, .int v9), (11, .int w100), (0, .ref (ad 200)), (1, .int v1), (2, .int v2), (3, .int v3), (4, .int v4), (5, .int v5), (6, .int v6), (10, .int v10)]) hx hb dX11_holder_182 hl (k := 9) rfl (by rw [ex_18]; rfl) (by decide) rfl (fun ls hl => ?_)
        refine lv_goto (tgt := 38) hx hb dX11_holder_185 (by decide) ?_
        exact hkb _ _ h _ _ _ hW hS (lv_sub hl [3, 4, 5, 6, 7, 8, 9, 1, 0] rfl)
      · have h := it_f c_17 h
        refine lv_aload_n hx hb dX11_holder_161 rfl (lv_at hl 1 rfl) ?_
        refine g_get (C := RX11) (T := TX11) (N := 67) (ci := 11) hx hb hts inX11 hown hK hW (hB 200 bb_200) kd_200 rfl 64 (by decide) mw_1025 rfl rfl dX11_holder_162 ?_
        refine lv_iload hx hb dX11_holder_165 (lv_at hl 9 rfl) ?_
        obtain ⟨hi_19, h⟩ := ck_n h
        refine g_iald hx hb hK hW (hB 265 bb_265) kd_265 hi_19 dX11_holder_167 ?_
        refine lv_aload_n hx hb dX11_holder_168 rfl (lv_at hl 1 rfl) ?_
        refine g_get (C := RX11) (T := TX11) (N := 67) (ci := 11) hx hb hts inX11 hown hK hW (hB 200 bb_200) kd_200 rfl 64 (by decide) mw_1025 rfl rfl dX11_holder_169 ?_
        refine lv_iload hx hb dX11_holder_172 (lv_at hl 8 rfl) ?_
        obtain ⟨hi_20, h⟩ := ck_n h
        refine g_iald hx hb hK hW (hB 265 bb_265) kd_265 hi_20 dX11_holder_174 ?_
        refine lv_icmp_ge (tgt := 182) hx hb dX11_holder_175 (by decide) (fun c_21 => ?_) (fun c_21 => ?_)
        · have h := it_t c_21 h
          obtain ⟨x_22, ex_22⟩ : ∃ z : Int32, z = v9 + 1 := ⟨_, rfl⟩
          have h := bn_at ex_22 h
          refine lv_iinc (v := x_22) (lv' := [(9, .int x_22), (11, .int w100), (0, .ref (ad 200)), (1, .int v1), (2, .int v2), (3, .int v3), (4, .int v4), (5, .int v5), (6, .int v6), (8, .int v8), (10, .int v10)]) hx hb dX11_holder_182 hl (k := 9) rfl (by rw [ex_22]; rfl) (by decide) rfl (fun ls hl => ?_)
          refine lv_goto (tgt := 38) hx hb dX11_holder_185 (by decide) ?_
          exact hkb _ _ h _ _ _ hW hS (lv_sub hl [2, 3, 4, 5, 6, 7, 8, 9, 0] rfl)
        · have h := it_f c_21 h
          refine lv_iload hx hb dX11_holder_178 (lv_at hl 9 rfl) ?_
          refine lv_istore (lv' := [(8, .int v9), (11, .int w100), (0, .ref (ad 200)), (1, .int v1), (2, .int v2), (3, .int v3), (4, .int v4), (5, .int v5), (6, .int v6), (9, .int v9), (10, .int v10)]) hx hb dX11_holder_180 hl (by decide) rfl (fun ls hl => ?_)
          obtain ⟨x_23, ex_23⟩ : ∃ z : Int32, z = v9 + 1 := ⟨_, rfl⟩
          have h := bn_at ex_23 h
          refine lv_iinc (v := x_23) (lv' := [(9, .int x_23), (8, .int v9), (11, .int w100), (0, .ref (ad 200)), (1, .int v1), (2, .int v2), (3, .int v3), (4, .int v4), (5, .int v5), (6, .int v6), (10, .int v10)]) hx hb dX11_holder_182 hl (k := 9) rfl (by rw [ex_23]; rfl) (by decide) rfl (fun ls hl => ?_)
          refine lv_goto (tgt := 38) hx hb dX11_holder_185 (by decide) ?_
          exact hkb _ _ h _ _ _ hW hS (lv_sub hl [3, 4, 5, 6, 7, 8, 9, 1, 0] rfl)
def f_X11_holder_j139 (N : Nat) (kb : Int32 → Int32 → Option (Int32)) (k : Int32 → Option (Int32)) (S : St) (v1 : Int32) (v2 : Int32) (v3 : Int32) (v4 : Int32) (v5 : Int32) (v6 : Int32) (v8 : Int32) (v9 : Int32) (v10 : Int32) : Option (Int32) := f_X11_holder_j144 N (kb) k S v1 v2 v3 v4 v5 v6 v8 v9 v10 1
set_option maxHeartbeats 4000000 in
theorem t_X11_holder_j139 (C : MC p s m args meth c cX11_holder 12 (some .int) RX11 g A) (hB : Lk L) {S : St} {r : Int32} {v1 : Int32} {v2 : Int32} {v3 : Int32} {v4 : Int32} {v5 : Int32} {v6 : Int32} {v8 : Int32} {v9 : Int32} {v10 : Int32} {kb : Int32 → Int32 → Option (Int32)} {k : Int32 → Option (Int32)} (hkb : ∀ (u8 : Int32) (u9 : Int32), kb u8 u9 = some r → ∀ (H : Heap) (locs : List Loc) (ls : Array Slot), GW g A ad L S H → va_S A s.heap H locs → lv_has ls 12 [(0, .ref (ad 200)), (1, .int v1), (2, .int v2), (3, .int v3), (4, .int v4), (5, .int v5), (6, .int v6), (8, .int u8), (9, .int u9)] → W p l e (rmk 2) s m args below meth c H locs 0 0 (MQ below (qi g A ad L r S) args s 0 0 A) (F0 m 38 ls [])) (hk : ∀ (u8 : Int32), k u8 = some r → ∀ (H : Heap) (locs : List Loc) (ls : Array Slot), GW g A ad L S H → va_S A s.heap H locs → lv_has ls 12 [(0, .ref (ad 200)), (1, .int v1), (2, .int v2), (3, .int v3), (4, .int v4), (5, .int v5), (6, .int v6), (8, .int u8)] → W p l e (rmk 2) s m args below meth c H locs 0 0 (MQ below (qi g A ad L r S) args s 0 0 A) (F0 m 188 ls [])) (h : f_X11_holder_j139 N kb k S v1 v2 v3 v4 v5 v6 v8 v9 v10 = some r) {H : Heap} {locs : List Loc} {ls : Array Slot} (hW : GW g A ad L S H) (hS : va_S A s.heap H locs) (hl : lv_has ls 12 [(0, .ref (ad 200)), (1, .int v1), (2, .int v2), (3, .int v3), (4, .int v4), (5, .int v5), (6, .int v6), (8, .int v8), (9, .int v9), (10, .int v10)]) : W p l e (rmk 2) s m args below meth c H locs 0 0 (MQ below (qi g A ad L r S) args s 0 0 A) (F0 m 139 ls []) := by
  obtain ⟨hx, hb, hml, hown, hts, hr, hlocks, hK, hN, hT⟩ := id C
  unfold f_X11_holder_j139 at h
  refine lv_iconst (v := 1) hx hb dX11_holder_139 (by decide) ?_
  refine lv_goto (tgt := 144) hx hb dX11_holder_140 (by decide) ?_
  exact t_X11_holder_j144 C hB hkb hk h hW hS (lv_sub hl [0, 1, 2, 3, 4, 5, 6, 7, 8, 9] rfl)
def f_X11_holder_j143 (N : Nat) (kb : Int32 → Int32 → Option (Int32)) (k : Int32 → Option (Int32)) (S : St) (v1 : Int32) (v2 : Int32) (v3 : Int32) (v4 : Int32) (v5 : Int32) (v6 : Int32) (v8 : Int32) (v9 : Int32) (v10 : Int32) : Option (Int32) := f_X11_holder_j144 N (kb) k S v1 v2 v3 v4 v5 v6 v8 v9 v10 0
set_option maxHeartbeats 4000000 in
theorem t_X11_holder_j143 (C : MC p s m args meth c cX11_holder 12 (some .int) RX11 g A) (hB : Lk L) {S : St} {r : Int32} {v1 : Int32} {v2 : Int32} {v3 : Int32} {v4 : Int32} {v5 : Int32} {v6 : Int32} {v8 : Int32} {v9 : Int32} {v10 : Int32} {kb : Int32 → Int32 → Option (Int32)} {k : Int32 → Option (Int32)} (hkb : ∀ (u8 : Int32) (u9 : Int32), kb u8 u9 = some r → ∀ (H : Heap) (locs : List Loc) (ls : Array Slot), GW g A ad L S H → va_S A s.heap H locs → lv_has ls 12 [(0, .ref (ad 200)), (1, .int v1), (2, .int v2), (3, .int v3), (4, .int v4), (5, .int v5), (6, .int v6), (8, .int u8), (9, .int u9)] → W p l e (rmk 2) s m args below meth c H locs 0 0 (MQ below (qi g A ad L r S) args s 0 0 A) (F0 m 38 ls [])) (hk : ∀ (u8 : Int32), k u8 = some r → ∀ (H : Heap) (locs : List Loc) (ls : Array Slot), GW g A ad L S H → va_S A s.heap H locs → lv_has ls 12 [(0, .ref (ad 200)), (1, .int v1), (2, .int v2), (3, .int v3), (4, .int v4), (5, .int v5), (6, .int v6), (8, .int u8)] → W p l e (rmk 2) s m args below meth c H locs 0 0 (MQ below (qi g A ad L r S) args s 0 0 A) (F0 m 188 ls [])) (h : f_X11_holder_j143 N kb k S v1 v2 v3 v4 v5 v6 v8 v9 v10 = some r) {H : Heap} {locs : List Loc} {ls : Array Slot} (hW : GW g A ad L S H) (hS : va_S A s.heap H locs) (hl : lv_has ls 12 [(0, .ref (ad 200)), (1, .int v1), (2, .int v2), (3, .int v3), (4, .int v4), (5, .int v5), (6, .int v6), (8, .int v8), (9, .int v9), (10, .int v10)]) : W p l e (rmk 2) s m args below meth c H locs 0 0 (MQ below (qi g A ad L r S) args s 0 0 A) (F0 m 143 ls []) := by
  obtain ⟨hx, hb, hml, hown, hts, hr, hlocks, hK, hN, hT⟩ := id C
  unfold f_X11_holder_j143 at h
  refine lv_iconst (v := 0) hx hb dX11_holder_143 (by decide) ?_
  exact t_X11_holder_j144 C hB hkb hk h hW hS (lv_sub hl [0, 1, 2, 3, 4, 5, 6, 7, 8, 9] rfl)
def f_X11_holder_j106 (N : Nat) (kb : Int32 → Int32 → Option (Int32)) (k : Int32 → Option (Int32)) (S : St) (v1 : Int32) (v2 : Int32) (v3 : Int32) (v4 : Int32) (v5 : Int32) (v6 : Int32) (v8 : Int32) (v9 : Int32) (w100 : Int32) : Option (Int32) := if v9 < 0 ∨ 60 ≤ ix v9 then none else if v5 < (gv S 265 (ix v9)) then (f_X11_holder_j139 N (kb) k S v1 v2 v3 v4 v5 v6 v8 v9 w100) else (if v9 < 0 ∨ 60 ≤ ix v9 then none else if (gv S 265 (ix v9)) = v5 then (if v9 ≤ v6 then (f_X11_holder_j143 N (kb) k S v1 v2 v3 v4 v5 v6 v8 v9 w100) else (f_X11_holder_j139 N (kb) k S v1 v2 v3 v4 v5 v6 v8 v9 w100)) else (f_X11_holder_j143 N (kb) k S v1 v2 v3 v4 v5 v6 v8 v9 w100))
set_option maxHeartbeats 4000000 in
theorem t_X11_holder_j106 (C : MC p s m args meth c cX11_holder 12 (some .int) RX11 g A) (hB : Lk L) {S : St} {r : Int32} {v1 : Int32} {v2 : Int32} {v3 : Int32} {v4 : Int32} {v5 : Int32} {v6 : Int32} {v8 : Int32} {v9 : Int32} {w100 : Int32} {kb : Int32 → Int32 → Option (Int32)} {k : Int32 → Option (Int32)} (hkb : ∀ (u8 : Int32) (u9 : Int32), kb u8 u9 = some r → ∀ (H : Heap) (locs : List Loc) (ls : Array Slot), GW g A ad L S H → va_S A s.heap H locs → lv_has ls 12 [(0, .ref (ad 200)), (1, .int v1), (2, .int v2), (3, .int v3), (4, .int v4), (5, .int v5), (6, .int v6), (8, .int u8), (9, .int u9)] → W p l e (rmk 2) s m args below meth c H locs 0 0 (MQ below (qi g A ad L r S) args s 0 0 A) (F0 m 38 ls [])) (hk : ∀ (u8 : Int32), k u8 = some r → ∀ (H : Heap) (locs : List Loc) (ls : Array Slot), GW g A ad L S H → va_S A s.heap H locs → lv_has ls 12 [(0, .ref (ad 200)), (1, .int v1), (2, .int v2), (3, .int v3), (4, .int v4), (5, .int v5), (6, .int v6), (8, .int u8)] → W p l e (rmk 2) s m args below meth c H locs 0 0 (MQ below (qi g A ad L r S) args s 0 0 A) (F0 m 188 ls [])) (h : f_X11_holder_j106 N kb k S v1 v2 v3 v4 v5 v6 v8 v9 w100 = some r) {H : Heap} {locs : List Loc} {ls : Array Slot} (hW : GW g A ad L S H) (hS : va_S A s.heap H locs) (hl : lv_has ls 12 [(0, .ref (ad 200)), (1, .int v1), (2, .int v2), (3, .int v3), (4, .int v4), (5, .int v5), (6, .int v6), (8, .int v8), (9, .int v9)]) : W p l e (rmk 2) s m args below meth c H locs 0 0 (MQ below (qi g A ad L r S) args s 0 0 A) (F0 m 106 ls [.int w100]) := by
  obtain ⟨hx, hb, hml, hown, hts, hr, hlocks, hK, hN, hT⟩ := id C
  unfold f_X11_holder_j106 at h
  refine lv_istore (lv' := [(10, .int w100), (0, .ref (ad 200)), (1, .int v1), (2, .int v2), (3, .int v3), (4, .int v4), (5, .int v5), (6, .int v6), (8, .int v8), (9, .int v9)]) hx hb dX11_holder_106 hl (by decide) rfl (fun ls hl => ?_)
  refine lv_aload_n hx hb dX11_holder_108 rfl (lv_at hl 1 rfl) ?_
  refine g_get (C := RX11) (T := TX11) (N := 67) (ci := 11) hx hb hts inX11 hown hK hW (hB 200 bb_200) kd_200 rfl 64 (by decide) mw_1025 rfl rfl dX11_holder_109 ?_
  refine lv_iload hx hb dX11_holder_112 (lv_at hl 9 rfl) ?_
  obtain ⟨hi_11, h⟩ := ck_n h
  refine g_iald hx hb hK hW (hB 265 bb_265) kd_265 hi_11 dX11_holder_114 ?_
  refine lv_iload hx hb dX11_holder_115 (lv_at hl 6 rfl) ?_
  refine lv_icmp_gt (tgt := 139) hx hb dX11_holder_117 (by decide) (fun c_12 => ?_) (fun c_12 => ?_)
  · have h := it_t c_12 h
    exact t_X11_holder_j139 C hB hkb hk h hW hS (lv_sub hl [1, 2, 3, 4, 5, 6, 7, 8, 9, 0] rfl)
  · have h := it_f c_12 h
    refine lv_aload_n hx hb dX11_holder_120 rfl (lv_at hl 1 rfl) ?_
    refine g_get (C := RX11) (T := TX11) (N := 67) (ci := 11) hx hb hts inX11 hown hK hW (hB 200 bb_200) kd_200 rfl 64 (by decide) mw_1025 rfl rfl dX11_holder_121 ?_
    refine lv_iload hx hb dX11_holder_124 (lv_at hl 9 rfl) ?_
    obtain ⟨hi_24, h⟩ := ck_n h
    refine g_iald hx hb hK hW (hB 265 bb_265) kd_265 hi_24 dX11_holder_126 ?_
    refine lv_iload hx hb dX11_holder_127 (lv_at hl 6 rfl) ?_
    refine lv_icmp_ne (tgt := 143) hx hb dX11_holder_129 (by decide) (fun c_25 => ?_) (fun c_25 => ?_)
    · have h := it_f c_25 h
      exact t_X11_holder_j143 C hB hkb hk h hW hS (lv_sub hl [1, 2, 3, 4, 5, 6, 7, 8, 9, 0] rfl)
    · have h := it_t c_25 h
      refine lv_iload hx hb dX11_holder_132 (lv_at hl 9 rfl) ?_
      refine lv_iload hx hb dX11_holder_134 (lv_at hl 7 rfl) ?_
      refine lv_icmp_le (tgt := 143) hx hb dX11_holder_136 (by decide) (fun c_26 => ?_) (fun c_26 => ?_)
      · have h := it_t c_26 h
        exact t_X11_holder_j143 C hB hkb hk h hW hS (lv_sub hl [1, 2, 3, 4, 5, 6, 7, 8, 9, 0] rfl)
      · have h := it_f c_26 h
        exact t_X11_holder_j139 C hB hkb hk h hW hS (lv_sub hl [1, 2, 3, 4, 5, 6, 7, 8, 9, 0] rfl)
def f_X11_holder_j105 (N : Nat) (kb : Int32 → Int32 → Option (Int32)) (k : Int32 → Option (Int32)) (S : St) (v1 : Int32) (v2 : Int32) (v3 : Int32) (v4 : Int32) (v5 : Int32) (v6 : Int32) (v8 : Int32) (v9 : Int32) : Option (Int32) := f_X11_holder_j106 N (kb) k S v1 v2 v3 v4 v5 v6 v8 v9 0
set_option maxHeartbeats 4000000 in
theorem t_X11_holder_j105 (C : MC p s m args meth c cX11_holder 12 (some .int) RX11 g A) (hB : Lk L) {S : St} {r : Int32} {v1 : Int32} {v2 : Int32} {v3 : Int32} {v4 : Int32} {v5 : Int32} {v6 : Int32} {v8 : Int32} {v9 : Int32} {kb : Int32 → Int32 → Option (Int32)} {k : Int32 → Option (Int32)} (hkb : ∀ (u8 : Int32) (u9 : Int32), kb u8 u9 = some r → ∀ (H : Heap) (locs : List Loc) (ls : Array Slot), GW g A ad L S H → va_S A s.heap H locs → lv_has ls 12 [(0, .ref (ad 200)), (1, .int v1), (2, .int v2), (3, .int v3), (4, .int v4), (5, .int v5), (6, .int v6), (8, .int u8), (9, .int u9)] → W p l e (rmk 2) s m args below meth c H locs 0 0 (MQ below (qi g A ad L r S) args s 0 0 A) (F0 m 38 ls [])) (hk : ∀ (u8 : Int32), k u8 = some r → ∀ (H : Heap) (locs : List Loc) (ls : Array Slot), GW g A ad L S H → va_S A s.heap H locs → lv_has ls 12 [(0, .ref (ad 200)), (1, .int v1), (2, .int v2), (3, .int v3), (4, .int v4), (5, .int v5), (6, .int v6), (8, .int u8)] → W p l e (rmk 2) s m args below meth c H locs 0 0 (MQ below (qi g A ad L r S) args s 0 0 A) (F0 m 188 ls [])) (h : f_X11_holder_j105 N kb k S v1 v2 v3 v4 v5 v6 v8 v9 = some r) {H : Heap} {locs : List Loc} {ls : Array Slot} (hW : GW g A ad L S H) (hS : va_S A s.heap H locs) (hl : lv_has ls 12 [(0, .ref (ad 200)), (1, .int v1), (2, .int v2), (3, .int v3), (4, .int v4), (5, .int v5), (6, .int v6), (8, .int v8), (9, .int v9)]) : W p l e (rmk 2) s m args below meth c H locs 0 0 (MQ below (qi g A ad L r S) args s 0 0 A) (F0 m 105 ls []) := by
  obtain ⟨hx, hb, hml, hown, hts, hr, hlocks, hK, hN, hT⟩ := id C
  unfold f_X11_holder_j105 at h
  refine lv_iconst (v := 0) hx hb dX11_holder_105 (by decide) ?_
  exact t_X11_holder_j106 C hB hkb hk h hW hS (lv_sub hl [0, 1, 2, 3, 4, 5, 6, 7, 8] rfl)
def f_X11_holder_j101 (N : Nat) (kb : Int32 → Int32 → Option (Int32)) (k : Int32 → Option (Int32)) (S : St) (v1 : Int32) (v2 : Int32) (v3 : Int32) (v4 : Int32) (v5 : Int32) (v6 : Int32) (v8 : Int32) (v9 : Int32) : Option (Int32) := f_X11_holder_j106 N (kb) k S v1 v2 v3 v4 v5 v6 v8 v9 1
set_option maxHeartbeats 4000000 in
theorem t_X11_holder_j101 (C : MC p s m args meth c cX11_holder 12 (some .int) RX11 g A) (hB : Lk L) {S : St} {r : Int32} {v1 : Int32} {v2 : Int32} {v3 : Int32} {v4 : Int32} {v5 : Int32} {v6 : Int32} {v8 : Int32} {v9 : Int32} {kb : Int32 → Int32 → Option (Int32)} {k : Int32 → Option (Int32)} (hkb : ∀ (u8 : Int32) (u9 : Int32), kb u8 u9 = some r → ∀ (H : Heap) (locs : List Loc) (ls : Array Slot), GW g A ad L S H → va_S A s.heap H locs → lv_has ls 12 [(0, .ref (ad 200)), (1, .int v1), (2, .int v2), (3, .int v3), (4, .int v4), (5, .int v5), (6, .int v6), (8, .int u8), (9, .int u9)] → W p l e (rmk 2) s m args below meth c H locs 0 0 (MQ below (qi g A ad L r S) args s 0 0 A) (F0 m 38 ls [])) (hk : ∀ (u8 : Int32), k u8 = some r → ∀ (H : Heap) (locs : List Loc) (ls : Array Slot), GW g A ad L S H → va_S A s.heap H locs → lv_has ls 12 [(0, .ref (ad 200)), (1, .int v1), (2, .int v2), (3, .int v3), (4, .int v4), (5, .int v5), (6, .int v6), (8, .int u8)] → W p l e (rmk 2) s m args below meth c H locs 0 0 (MQ below (qi g A ad L r S) args s 0 0 A) (F0 m 188 ls [])) (h : f_X11_holder_j101 N kb k S v1 v2 v3 v4 v5 v6 v8 v9 = some r) {H : Heap} {locs : List Loc} {ls : Array Slot} (hW : GW g A ad L S H) (hS : va_S A s.heap H locs) (hl : lv_has ls 12 [(0, .ref (ad 200)), (1, .int v1), (2, .int v2), (3, .int v3), (4, .int v4), (5, .int v5), (6, .int v6), (8, .int v8), (9, .int v9)]) : W p l e (rmk 2) s m args below meth c H locs 0 0 (MQ below (qi g A ad L r S) args s 0 0 A) (F0 m 101 ls []) := by
  obtain ⟨hx, hb, hml, hown, hts, hr, hlocks, hK, hN, hT⟩ := id C
  unfold f_X11_holder_j101 at h
  refine lv_iconst (v := 1) hx hb dX11_holder_101 (by decide) ?_
  refine lv_goto (tgt := 106) hx hb dX11_holder_102 (by decide) ?_
  exact t_X11_holder_j106 C hB hkb hk h hW hS (lv_sub hl [0, 1, 2, 3, 4, 5, 6, 7, 8] rfl)
def f_X11_holder_l38 (N : Nat) (v1 : Int32) (v2 : Int32) (v3 : Int32) (v4 : Int32) (v5 : Int32) (v6 : Int32) (S : St) (k : Int32 → Option (Int32)) : Nat → Int32 → Int32 → Option (Int32)
  | 0, _, _ => none
  | n + 1, v8, v9 => if (gv S 200 55) ≤ v9 then (k v8) else (if v9 < 0 ∨ 60 ≤ ix v9 then none else if (gv S 262 (ix v9)) = v1 then (if v9 < 0 ∨ 60 ≤ ix v9 then none else if v2 < (gv S 265 (ix v9)) then (f_X11_holder_j105 N (f_X11_holder_l38 N v1 v2 v3 v4 v5 v6 S k n) k S v1 v2 v3 v4 v5 v6 v8 v9) else (if v9 < 0 ∨ 60 ≤ ix v9 then none else if v3 < (gv S 266 (ix v9)) then (f_X11_holder_j105 N (f_X11_holder_l38 N v1 v2 v3 v4 v5 v6 S k n) k S v1 v2 v3 v4 v5 v6 v8 v9) else (if v9 < 0 ∨ 60 ≤ ix v9 then none else if (gv S 267 (ix v9)) < 0 then (f_X11_holder_j101 N (f_X11_holder_l38 N v1 v2 v3 v4 v5 v6 S k n) k S v1 v2 v3 v4 v5 v6 v8 v9) else (if v9 < 0 ∨ 60 ≤ ix v9 then none else if (gv S 267 (ix v9)) ≤ v3 then (f_X11_holder_j105 N (f_X11_holder_l38 N v1 v2 v3 v4 v5 v6 S k n) k S v1 v2 v3 v4 v5 v6 v8 v9) else (f_X11_holder_j101 N (f_X11_holder_l38 N v1 v2 v3 v4 v5 v6 S k n) k S v1 v2 v3 v4 v5 v6 v8 v9))))) else (f_X11_holder_j105 N (f_X11_holder_l38 N v1 v2 v3 v4 v5 v6 S k n) k S v1 v2 v3 v4 v5 v6 v8 v9))
set_option maxHeartbeats 4000000 in
theorem t_X11_holder_l38 (C : MC p s m args meth c cX11_holder 12 (some .int) RX11 g A) (hB : Lk L) {v1 : Int32} {v2 : Int32} {v3 : Int32} {v4 : Int32} {v5 : Int32} {v6 : Int32} {S : St} {r : Int32} {k : Int32 → Option (Int32)} (hk : ∀ (w8 : Int32), k w8 = some r → ∀ (H : Heap) (locs : List Loc) (ls : Array Slot), GW g A ad L S H → va_S A s.heap H locs → lv_has ls 12 [(0, .ref (ad 200)), (1, .int v1), (2, .int v2), (3, .int v3), (4, .int v4), (5, .int v5), (6, .int v6), (8, .int w8)] → W p l e (rmk 2) s m args below meth c H locs 0 0 (MQ below (qi g A ad L r S) args s 0 0 A) (F0 m 188 ls [])) : ∀ (n : Nat) (v8 : Int32) (v9 : Int32), f_X11_holder_l38 N v1 v2 v3 v4 v5 v6 S k n v8 v9 = some r → ∀ (H : Heap) (locs : List Loc) (ls : Array Slot), GW g A ad L S H → va_S A s.heap H locs → lv_has ls 12 [(0, .ref (ad 200)), (1, .int v1), (2, .int v2), (3, .int v3), (4, .int v4), (5, .int v5), (6, .int v6), (8, .int v8), (9, .int v9)] → W p l e (rmk 2) s m args below meth c H locs 0 0 (MQ below (qi g A ad L r S) args s 0 0 A) (F0 m 38 ls []) := by
  obtain ⟨hx, hb, hml, hown, hts, hr, hlocks, hK, hN, hT⟩ := id C
  intro n
  induction n with
  | zero =>
    intro v8 v9 h
    have h : (none : Option (Int32)) = some r := h
    cases h
  | succ n ih =>
    intro v8 v9 h H locs ls hW hS hl
    rw [f_X11_holder_l38] at h
    refine lv_iload hx hb dX11_holder_38 (lv_at hl 8 rfl) ?_
    refine lv_aload_n hx hb dX11_holder_40 rfl (lv_at hl 0 rfl) ?_
    refine g_get (C := RX11) (T := TX11) (N := 67) (ci := 11) hx hb hts inX11 hown hK hW (hB 200 bb_200) kd_200 rfl 55 (by decide) mw_1016 rfl rfl dX11_holder_41 ?_
    refine lv_icmp_ge (tgt := 188) hx hb dX11_holder_44 (by decide) (fun c_8 => ?_) (fun c_8 => ?_)
    · have h := it_t c_8 h
      exact hk _ h _ _ _ hW hS (lv_sub hl [0, 1, 2, 3, 4, 5, 6, 7] rfl)
    · have h := it_f c_8 h
      refine lv_aload_n hx hb dX11_holder_47 rfl (lv_at hl 0 rfl) ?_
      refine g_get (C := RX11) (T := TX11) (N := 67) (ci := 11) hx hb hts inX11 hown hK hW (hB 200 bb_200) kd_200 rfl 61 (by decide) mw_1022 rfl rfl dX11_holder_48 ?_
      refine lv_iload hx hb dX11_holder_51 (lv_at hl 8 rfl) ?_
      obtain ⟨hi_9, h⟩ := ck_n h
      refine g_iald hx hb hK hW (hB 262 bb_262) kd_262 hi_9 dX11_holder_53 ?_
      refine lv_iload_n hx hb dX11_holder_54 rfl (lv_at hl 1 rfl) ?_
      refine lv_icmp_ne (tgt := 105) hx hb dX11_holder_55 (by decide) (fun c_10 => ?_) (fun c_10 => ?_)
      · have h := it_f c_10 h
        exact t_X11_holder_j105 C hB ih hk h hW hS (lv_sub hl [0, 1, 2, 3, 4, 5, 6, 7, 8] rfl)
      · have h := it_t c_10 h
        refine lv_aload_n hx hb dX11_holder_58 rfl (lv_at hl 0 rfl) ?_
        refine g_get (C := RX11) (T := TX11) (N := 67) (ci := 11) hx hb hts inX11 hown hK hW (hB 200 bb_200) kd_200 rfl 64 (by decide) mw_1025 rfl rfl dX11_holder_59 ?_
        refine lv_iload hx hb dX11_holder_62 (lv_at hl 8 rfl) ?_
        obtain ⟨hi_27, h⟩ := ck_n h
        refine g_iald hx hb hK hW (hB 265 bb_265) kd_265 hi_27 dX11_holder_64 ?_
        refine lv_iload_n hx hb dX11_holder_65 rfl (lv_at hl 2 rfl) ?_
        refine lv_icmp_gt (tgt := 105) hx hb dX11_holder_66 (by decide) (fun c_28 => ?_) (fun c_28 => ?_)
        · have h := it_t c_28 h
          exact t_X11_holder_j105 C hB ih hk h hW hS (lv_sub hl [0, 1, 2, 3, 4, 5, 6, 7, 8] rfl)
        · have h := it_f c_28 h
          refine lv_aload_n hx hb dX11_holder_69 rfl (lv_at hl 0 rfl) ?_
          refine g_get (C := RX11) (T := TX11) (N := 67) (ci := 11) hx hb hts inX11 hown hK hW (hB 200 bb_200) kd_200 rfl 65 (by decide) mw_1026 rfl rfl dX11_holder_70 ?_
          refine lv_iload hx hb dX11_holder_73 (lv_at hl 8 rfl) ?_
          obtain ⟨hi_29, h⟩ := ck_n h
          refine g_iald hx hb hK hW (hB 266 bb_266) kd_266 hi_29 dX11_holder_75 ?_
          refine lv_iload_n hx hb dX11_holder_76 rfl (lv_at hl 3 rfl) ?_
          refine lv_icmp_gt (tgt := 105) hx hb dX11_holder_77 (by decide) (fun c_30 => ?_) (fun c_30 => ?_)
          · have h := it_t c_30 h
            exact t_X11_holder_j105 C hB ih hk h hW hS (lv_sub hl [0, 1, 2, 3, 4, 5, 6, 7, 8] rfl)
          · have h := it_f c_30 h
            refine lv_aload_n hx hb dX11_holder_80 rfl (lv_at hl 0 rfl) ?_
            refine g_get (C := RX11) (T := TX11) (N := 67) (ci := 11) hx hb hts inX11 hown hK hW (hB 200 bb_200) kd_200 rfl 66 (by decide) mw_1027 rfl rfl dX11_holder_81 ?_
            refine lv_iload hx hb dX11_holder_84 (lv_at hl 8 rfl) ?_
            obtain ⟨hi_31, h⟩ := ck_n h
            refine g_iald hx hb hK hW (hB 267 bb_267) kd_267 hi_31 dX11_holder_86 ?_
            refine lv_if_lt (tgt := 101) hx hb dX11_holder_87 (by decide) (fun c_32 => ?_) (fun c_32 => ?_)
            · have h := it_t c_32 h
              exact t_X11_holder_j101 C hB ih hk h hW hS (lv_sub hl [0, 1, 2, 3, 4, 5, 6, 7, 8] rfl)
            · have h := it_f c_32 h
              refine lv_aload_n hx hb dX11_holder_90 rfl (lv_at hl 0 rfl) ?_
              refine g_get (C := RX11) (T := TX11) (N := 67) (ci := 11) hx hb hts inX11 hown hK hW (hB 200 bb_200) kd_200 rfl 66 (by decide) mw_1027 rfl rfl dX11_holder_91 ?_
              refine lv_iload hx hb dX11_holder_94 (lv_at hl 8 rfl) ?_
              obtain ⟨hi_33, h⟩ := ck_n h
              refine g_iald hx hb hK hW (hB 267 bb_267) kd_267 hi_33 dX11_holder_96 ?_
              refine lv_iload_n hx hb dX11_holder_97 rfl (lv_at hl 3 rfl) ?_
              refine lv_icmp_le (tgt := 105) hx hb dX11_holder_98 (by decide) (fun c_34 => ?_) (fun c_34 => ?_)
              · have h := it_t c_34 h
                exact t_X11_holder_j105 C hB ih hk h hW hS (lv_sub hl [0, 1, 2, 3, 4, 5, 6, 7, 8] rfl)
              · have h := it_f c_34 h
                exact t_X11_holder_j101 C hB ih hk h hW hS (lv_sub hl [0, 1, 2, 3, 4, 5, 6, 7, 8] rfl)
def f_X11_holder_j198 (N : Nat) (kb : Int32 → Int32 → Int32 → Int32 → Option (Int32)) (k : Int32 → Option (Int32)) (S : St) (v1 : Int32) (v2 : Int32) (v3 : Int32) (v4 : Int32) (v5 : Int32) (v6 : Int32) (v8 : Int32) (w100 : Int32) : Option (Int32) := if w100 = 0 then (kb v4 v5 v6 w100) else (if v8 < 0 ∨ 60 ≤ ix v8 then none else if (gv S 263 (ix v8)) = v4 then (if v8 < 0 ∨ 60 ≤ ix v8 then none else bn (gv S 264 (ix v8)) fun x_43 => if v8 < 0 ∨ 60 ≤ ix v8 then none else bn (gv S 265 (ix v8)) fun x_45 => kb x_43 x_45 v8 w100) else (if v8 < 0 ∨ 60 ≤ ix v8 then none else bn (gv S 265 (ix v8)) fun x_41 => kb v4 x_41 v8 w100))
set_option maxHeartbeats 4000000 in
theorem t_X11_holder_j198 (C : MC p s m args meth c cX11_holder 12 (some .int) RX11 g A) (hB : Lk L) {S : St} {r : Int32} {v1 : Int32} {v2 : Int32} {v3 : Int32} {v4 : Int32} {v5 : Int32} {v6 : Int32} {v8 : Int32} {w100 : Int32} {kb : Int32 → Int32 → Int32 → Int32 → Option (Int32)} {k : Int32 → Option (Int32)} (hkb : ∀ (u4 : Int32) (u5 : Int32) (u6 : Int32) (u7 : Int32), kb u4 u5 u6 u7 = some r → ∀ (H : Heap) (locs : List Loc) (ls : Array Slot), GW g A ad L S H → va_S A s.heap H locs → lv_has ls 12 [(0, .ref (ad 200)), (1, .int v1), (2, .int v2), (3, .int v3), (4, .int u4), (5, .int u5), (6, .int u6), (7, .int u7)] → W p l e (rmk 2) s m args below meth c H locs 0 0 (MQ below (qi g A ad L r S) args s 0 0 A) (F0 m 27 ls [])) (hk : ∀ (u4 : Int32), k u4 = some r → ∀ (H : Heap) (locs : List Loc) (ls : Array Slot), GW g A ad L S H → va_S A s.heap H locs → lv_has ls 12 [(4, .int u4)] → W p l e (rmk 2) s m args below meth c H locs 0 0 (MQ below (qi g A ad L r S) args s 0 0 A) (F0 m 245 ls [])) (h : f_X11_holder_j198 N kb k S v1 v2 v3 v4 v5 v6 v8 w100 = some r) {H : Heap} {locs : List Loc} {ls : Array Slot} (hW : GW g A ad L S H) (hS : va_S A s.heap H locs) (hl : lv_has ls 12 [(0, .ref (ad 200)), (1, .int v1), (2, .int v2), (3, .int v3), (4, .int v4), (5, .int v5), (6, .int v6), (8, .int v8)]) : W p l e (rmk 2) s m args below meth c H locs 0 0 (MQ below (qi g A ad L r S) args s 0 0 A) (F0 m 198 ls [.int w100]) := by
  obtain ⟨hx, hb, hml, hown, hts, hr, hlocks, hK, hN, hT⟩ := id C
  unfold f_X11_holder_j198 at h
  refine lv_istore (lv' := [(7, .int w100), (0, .ref (ad 200)), (1, .int v1), (2, .int v2), (3, .int v3), (4, .int v4), (5, .int v5), (6, .int v6), (8, .int v8)]) hx hb dX11_holder_198 hl (by decide) rfl (fun ls hl => ?_)
  refine lv_iload hx hb dX11_holder_200 (lv_at hl 0 rfl) ?_
  refine lv_if_ne (tgt := 208) hx hb dX11_holder_202 (by decide) (fun c_37 => ?_) (fun c_37 => ?_)
  · have h := it_f c_37 h
    refine lv_aload_n hx hb dX11_holder_208 rfl (lv_at hl 1 rfl) ?_
    refine g_get (C := RX11) (T := TX11) (N := 67) (ci := 11) hx hb hts inX11 hown hK hW (hB 200 bb_200) kd_200 rfl 62 (by decide) mw_1023 rfl rfl dX11_holder_209 ?_
    refine lv_iload hx hb dX11_holder_212 (lv_at hl 8 rfl) ?_
    obtain ⟨hi_38, h⟩ := ck_n h
    refine g_iald hx hb hK hW (hB 263 bb_263) kd_263 hi_38 dX11_holder_214 ?_
    refine lv_iload hx hb dX11_holder_215 (lv_at hl 5 rfl) ?_
    refine lv_icmp_ne (tgt := 229) hx hb dX11_holder_217 (by decide) (fun c_39 => ?_) (fun c_39 => ?_)
    · have h := it_f c_39 h
      refine lv_aload_n hx hb dX11_holder_229 rfl (lv_at hl 1 rfl) ?_
      refine g_get (C := RX11) (T := TX11) (N := 67) (ci := 11) hx hb hts inX11 hown hK hW (hB 200 bb_200) kd_200 rfl 64 (by decide) mw_1025 rfl rfl dX11_holder_230 ?_
      refine lv_iload hx hb dX11_holder_233 (lv_at hl 8 rfl) ?_
      obtain ⟨hi_40, h⟩ := ck_n h
      refine g_iald hx hb hK hW (hB 265 bb_265) kd_265 hi_40 dX11_holder_235 ?_
      refine lv_topi (fun x_41 ex_41 => ?_)
      have h := bn_at ex_41 h
      refine lv_istore (lv' := [(5, .int x_41), (7, .int w100), (0, .ref (ad 200)), (1, .int v1), (2, .int v2), (3, .int v3), (4, .int v4), (6, .int v6), (8, .int v8)]) hx hb dX11_holder_236 hl (by decide) rfl (fun ls hl => ?_)
      refine lv_iload hx hb dX11_holder_238 (lv_at hl 8 rfl) ?_
      refine lv_istore (lv' := [(6, .int v8), (5, .int x_41), (7, .int w100), (0, .ref (ad 200)), (1, .int v1), (2, .int v2), (3, .int v3), (4, .int v4), (8, .int v8)]) hx hb dX11_holder_240 hl (by decide) rfl (fun ls hl => ?_)
      refine lv_goto (tgt := 27) hx hb dX11_holder_242 (by decide) ?_
      exact hkb _ _ _ _ h _ _ _ hW hS (lv_sub hl [3, 4, 5, 6, 7, 1, 0, 2] rfl)
    · have h := it_t c_39 h
      refine lv_aload_n hx hb dX11_holder_220 rfl (lv_at hl 1 rfl) ?_
      refine g_get (C := RX11) (T := TX11) (N := 67) (ci := 11) hx hb hts inX11 hown hK hW (hB 200 bb_200) kd_200 rfl 63 (by decide) mw_1024 rfl rfl dX11_holder_221 ?_
      refine lv_iload hx hb dX11_holder_224 (lv_at hl 8 rfl) ?_
      obtain ⟨hi_42, h⟩ := ck_n h
      refine g_iald hx hb hK hW (hB 264 bb_264) kd_264 hi_42 dX11_holder_226 ?_
      refine lv_topi (fun x_43 ex_43 => ?_)
      have h := bn_at ex_43 h
      refine lv_istore (lv' := [(4, .int x_43), (7, .int w100), (0, .ref (ad 200)), (1, .int v1), (2, .int v2), (3, .int v3), (5, .int v5), (6, .int v6), (8, .int v8)]) hx hb dX11_holder_227 hl (by decide) rfl (fun ls hl => ?_)
      refine lv_aload_n hx hb dX11_holder_229 rfl (lv_at hl 2 rfl) ?_
      refine g_get (C := RX11) (T := TX11) (N := 67) (ci := 11) hx hb hts inX11 hown hK hW (hB 200 bb_200) kd_200 rfl 64 (by decide) mw_1025 rfl rfl dX11_holder_230 ?_
      refine lv_iload hx hb dX11_holder_233 (lv_at hl 8 rfl) ?_
      obtain ⟨hi_44, h⟩ := ck_n h
      refine g_iald hx hb hK hW (hB 265 bb_265) kd_265 hi_44 dX11_holder_235 ?_
      refine lv_topi (fun x_45 ex_45 => ?_)
      have h := bn_at ex_45 h
      refine lv_istore (lv' := [(5, .int x_45), (4, .int x_43), (7, .int w100), (0, .ref (ad 200)), (1, .int v1), (2, .int v2), (3, .int v3), (6, .int v6), (8, .int v8)]) hx hb dX11_holder_236 hl (by decide) rfl (fun ls hl => ?_)
      refine lv_iload hx hb dX11_holder_238 (lv_at hl 8 rfl) ?_
      refine lv_istore (lv' := [(6, .int v8), (5, .int x_45), (4, .int x_43), (7, .int w100), (0, .ref (ad 200)), (1, .int v1), (2, .int v2), (3, .int v3), (8, .int v8)]) hx hb dX11_holder_240 hl (by decide) rfl (fun ls hl => ?_)
      refine lv_goto (tgt := 27) hx hb dX11_holder_242 (by decide) ?_
      exact hkb _ _ _ _ h _ _ _ hW hS (lv_sub hl [4, 5, 6, 7, 2, 1, 0, 3] rfl)
  · have h := it_t c_37 h
    refine lv_goto (tgt := 27) hx hb dX11_holder_205 (by decide) ?_
    exact hkb _ _ _ _ h _ _ _ hW hS (lv_sub hl [1, 2, 3, 4, 5, 6, 7, 0] rfl)
def f_X11_holder_l27 (N : Nat) (v1 : Int32) (v2 : Int32) (v3 : Int32) (S : St) (k : Int32 → Option (Int32)) : Nat → Int32 → Int32 → Int32 → Int32 → Option (Int32)
  | 0, _, _, _, _ => none
  | n + 1, v4, v5, v6, v7 => if v7 = 0 then (k v4) else (f_X11_holder_l38 N v1 v2 v3 v4 v5 v6 S (fun x_35 => if x_35 < 0 then (f_X11_holder_j198 N (f_X11_holder_l27 N v1 v2 v3 S k n) k S v1 v2 v3 v4 v5 v6 x_35 0) else (f_X11_holder_j198 N (f_X11_holder_l27 N v1 v2 v3 S k n) k S v1 v2 v3 v4 v5 v6 x_35 1)) N (-1) 0)
set_option maxHeartbeats 4000000 in
theorem t_X11_holder_l27 (C : MC p s m args meth c cX11_holder 12 (some .int) RX11 g A) (hB : Lk L) {v1 : Int32} {v2 : Int32} {v3 : Int32} {S : St} {r : Int32} {k : Int32 → Option (Int32)} (hk : ∀ (w4 : Int32), k w4 = some r → ∀ (H : Heap) (locs : List Loc) (ls : Array Slot), GW g A ad L S H → va_S A s.heap H locs → lv_has ls 12 [(4, .int w4)] → W p l e (rmk 2) s m args below meth c H locs 0 0 (MQ below (qi g A ad L r S) args s 0 0 A) (F0 m 245 ls [])) : ∀ (n : Nat) (v4 : Int32) (v5 : Int32) (v6 : Int32) (v7 : Int32), f_X11_holder_l27 N v1 v2 v3 S k n v4 v5 v6 v7 = some r → ∀ (H : Heap) (locs : List Loc) (ls : Array Slot), GW g A ad L S H → va_S A s.heap H locs → lv_has ls 12 [(0, .ref (ad 200)), (1, .int v1), (2, .int v2), (3, .int v3), (4, .int v4), (5, .int v5), (6, .int v6), (7, .int v7)] → W p l e (rmk 2) s m args below meth c H locs 0 0 (MQ below (qi g A ad L r S) args s 0 0 A) (F0 m 27 ls []) := by
  obtain ⟨hx, hb, hml, hown, hts, hr, hlocks, hK, hN, hT⟩ := id C
  intro n
  induction n with
  | zero =>
    intro v4 v5 v6 v7 h
    have h : (none : Option (Int32)) = some r := h
    cases h
  | succ n ih =>
    intro v4 v5 v6 v7 h H locs ls hW hS hl
    rw [f_X11_holder_l27] at h
    refine lv_iload hx hb dX11_holder_27 (lv_at hl 7 rfl) ?_
    refine lv_if_eq (tgt := 245) hx hb dX11_holder_29 (by decide) (fun c_7 => ?_) (fun c_7 => ?_)
    · have h := it_t c_7 h
      exact hk _ h _ _ _ hW hS (lv_sub hl [4] rfl)
    · have h := it_f c_7 h
      refine lv_iconst (v := (-1)) hx hb dX11_holder_32 (by decide) ?_
      refine lv_istore (lv' := [(8, .int (-1)), (0, .ref (ad 200)), (1, .int v1), (2, .int v2), (3, .int v3), (4, .int v4), (5, .int v5), (6, .int v6), (7, .int v7)]) hx hb dX11_holder_33 hl (by decide) rfl (fun ls hl => ?_)
      refine lv_iconst (v := 0) hx hb dX11_holder_35 (by decide) ?_
      refine lv_istore (lv' := [(9, .int 0), (8, .int (-1)), (0, .ref (ad 200)), (1, .int v1), (2, .int v2), (3, .int v3), (4, .int v4), (5, .int v5), (6, .int v6), (7, .int v7)]) hx hb dX11_holder_36 hl (by decide) rfl (fun ls hl => ?_)
      refine t_X11_holder_l38 C hB ?_ _ _ _ h _ _ _ hW hS (lv_sub hl [2, 3, 4, 5, 6, 7, 8, 1, 0] rfl)
      intro x_35 h H locs ls hW hS hl
      refine lv_iload hx hb dX11_holder_188 (lv_at hl 7 rfl) ?_
      refine lv_if_lt (tgt := 197) hx hb dX11_holder_190 (by decide) (fun c_36 => ?_) (fun c_36 => ?_)
      · have h := it_t c_36 h
        refine lv_iconst (v := 0) hx hb dX11_holder_197 (by decide) ?_
        exact t_X11_holder_j198 C hB ih hk h hW hS (lv_sub hl [0, 1, 2, 3, 4, 5, 6, 7] rfl)
      · have h := it_f c_36 h
        refine lv_iconst (v := 1) hx hb dX11_holder_193 (by decide) ?_
        refine lv_goto (tgt := 198) hx hb dX11_holder_194 (by decide) ?_
        exact t_X11_holder_j198 C hB ih hk h hW hS (lv_sub hl [0, 1, 2, 3, 4, 5, 6, 7] rfl)
def f_X11_holder (N : Nat) (S : St) (p1 : Int32) (p2 : Int32) (p3 : Int32) : Option (Int32) := cl0 (f_X11_isBill S p1) fun r_2 => if r_2 = 0 then (some (-1)) else (if p1 < 0 ∨ 20 ≤ ix p1 then none else bn (gv S 258 (ix p1)) fun x_6 => f_X11_holder_l27 N p1 p2 p3 S (fun x_46 => some x_46) N x_6 (-1) (-1) 1)
set_option maxHeartbeats 4000000 in
theorem t_X11_holder (C : MC p s m args meth c cX11_holder 12 (some .int) RX11 g A) (hB : Lk L) {S : St} {r : Int32} {p1 : Int32} {p2 : Int32} {p3 : Int32} (h : f_X11_holder N S p1 p2 p3 = some r) {H : Heap} {locs : List Loc} {ls : Array Slot} (hW : GW g A ad L S H) (hS : va_S A s.heap H locs) (hl : lv_has ls 12 [(0, .ref (ad 200)), (1, .int p1), (2, .int p2), (3, .int p3)]) : W p l e (rmk 2) s m args below meth c H locs 0 0 (MQ below (qi g A ad L r S) args s 0 0 A) (F0 m 0 ls []) := by
  obtain ⟨hx, hb, hml, hown, hts, hr, hlocks, hK, hN, hT⟩ := id C
  unfold f_X11_holder at h
  refine lv_aload_n hx hb dX11_holder_0 rfl (lv_at hl 0 rfl) ?_
  refine lv_iload_n hx hb dX11_holder_1 rfl (lv_at hl 1 rfl) ?_
  obtain ⟨r_2, hc_1, h⟩ := cl0_ex h
  refine g_cz (g_runV (ci := 11) (o := 200) (As := [.int p1]) (rest := []) hx hb hml hown hts hK hN hT hS hW (c_X11_isBill hB hc_1) (hB 200 bb_200) kd_200 rfl (gw_V mw_1392 mw_1394 mw_64 mw_73 mw_1395) hv_X11_isBill rfl rfl rfl (rm_ok (by decide) (by decide)) hl.1 (Nat.le_of_ble_eq_true rfl) dX11_holder_2 rfl ⟨Nat.zero_le _, Nat.zero_le _⟩) hS (fun hz_3 H locs hW hS => ?_)
  refine lv_if_ne (tgt := 10) hx hb dX11_holder_5 (by decide) (fun c_4 => ?_) (fun c_4 => ?_)
  · have h := it_f c_4 h
    refine lv_aload_n hx hb dX11_holder_10 rfl (lv_at hl 0 rfl) ?_
    refine g_get (C := RX11) (T := TX11) (N := 67) (ci := 11) hx hb hts inX11 hown hK hW (hB 200 bb_200) kd_200 rfl 57 (by decide) mw_1018 rfl rfl dX11_holder_11 ?_
    refine lv_iload_n hx hb dX11_holder_14 rfl (lv_at hl 1 rfl) ?_
    obtain ⟨hi_5, h⟩ := ck_n h
    refine g_iald hx hb hK hW (hB 258 bb_258) kd_258 hi_5 dX11_holder_15 ?_
    refine lv_topi (fun x_6 ex_6 => ?_)
    have h := bn_at ex_6 h
    refine lv_istore (lv' := [(4, .int x_6), (0, .ref (ad 200)), (1, .int p1), (2, .int p2), (3, .int p3)]) hx hb dX11_holder_16 hl (by decide) rfl (fun ls hl => ?_)
    refine lv_iconst (v := (-1)) hx hb dX11_holder_18 (by decide) ?_
    refine lv_istore (lv' := [(5, .int (-1)), (4, .int x_6), (0, .ref (ad 200)), (1, .int p1), (2, .int p2), (3, .int p3)]) hx hb dX11_holder_19 hl (by decide) rfl (fun ls hl => ?_)
    refine lv_iconst (v := (-1)) hx hb dX11_holder_21 (by decide) ?_
    refine lv_istore (lv' := [(6, .int (-1)), (5, .int (-1)), (4, .int x_6), (0, .ref (ad 200)), (1, .int p1), (2, .int p2), (3, .int p3)]) hx hb dX11_holder_22 hl (by decide) rfl (fun ls hl => ?_)
    refine lv_iconst (v := 1) hx hb dX11_holder_24 (by decide) ?_
    refine lv_istore (lv' := [(7, .int 1), (6, .int (-1)), (5, .int (-1)), (4, .int x_6), (0, .ref (ad 200)), (1, .int p1), (2, .int p2), (3, .int p3)]) hx hb dX11_holder_25 hl (by decide) rfl (fun ls hl => ?_)
    refine t_X11_holder_l27 C hB ?_ _ _ _ _ _ h _ _ _ hW hS (lv_sub hl [4, 5, 6, 7, 3, 2, 1, 0] rfl)
    intro x_46 h H locs ls hW hS hl
    refine lv_iload hx hb dX11_holder_245 (lv_at hl 0 rfl) ?_
    cases h
    exact g_iret hx hb hr hlocks hW hS dX11_holder_247
  · have h := it_t c_4 h
    refine lv_iconst (v := (-1)) hx hb dX11_holder_8 (by decide) ?_
    cases h
    exact g_iret hx hb hr hlocks hW hS dX11_holder_9
theorem c_X11_holder (hB : Lk L) {S : St} {r : Int32} {p1 : Int32} {p2 : Int32} {p3 : Int32} (h : f_X11_holder N S p1 p2 p3 = some r) : Met l yX11_holder (gws yX11_holder cX11_holder 12 (some .int)) (rmk 2) (va_Pc [.ref (ad 200), .int p1, .int p2, .int p3] (WU g A ad L S)) (qi g A ad L r S) 0 0 A :=
  g_met [.ref (ad 200), .int p1, .int p2, .int p3] (by decide) (Nat.le_of_ble_eq_true rfl) (fun p e s m below meth c ls C hW hl _ => t_X11_holder C hB h hW va_S.rf hl)
theorem hv_X11_holder : yX11_holder.cls = RX11 ∧ yX11_holder.cls ≠ "java/lang/invoke/MethodHandle" ∧ yX11_holder.cls ≠ "java/lang/invoke/VarHandle" ∧ (parseMethodDescriptor yX11_holder.desc).map (fun d => d.parameters.length) = some 3 := by decide +kernel
/-! DroveRoadsModel.pay -/
def f_X11_pay (N : Nat) (S : St) (p1 : Int32) : Option (Int32 × St) := cl0 (f_X11_isBill S p1) fun r_2 => if r_2 = 0 then (some ((-1), S)) else (if p1 < 0 ∨ 20 ≤ ix p1 then none else if (gv S 200 0) < (gv S 259 (ix p1)) then (some ((-1), S)) else (if p1 < 0 ∨ 20 ≤ ix p1 then none else if (gv S 260 (ix p1)) < 0 then (if p1 < 0 ∨ 20 ≤ ix p1 then none else bn (sv S 260 (ix p1) (gv S 200 0)) fun S_10 => cl0 (f_X11_holder N S_10 p1 (gv S_10 200 0) (gv S_10 200 0)) fun r_12 => if p1 < 0 ∨ 20 ≤ ix p1 then none else bn (sv S_10 261 (ix p1) r_12) fun S_14 => if p1 < 0 ∨ 20 ≤ ix p1 then none else some ((gv S_14 261 (ix p1)), S_14)) else (some ((-1), S))))
set_option maxHeartbeats 4000000 in
theorem t_X11_pay (C : MC p s m args meth c cX11_pay 2 (some .int) RX11 g A) (hB : Lk L) {S : St} {r : Int32} {S9 : St} {p1 : Int32} (h : f_X11_pay N S p1 = some (r, S9)) {H : Heap} {locs : List Loc} {ls : Array Slot} (hW : GW g A ad L S H) (hS : va_S A s.heap H locs) (hl : lv_has ls 2 [(0, .ref (ad 200)), (1, .int p1)]) : W p l e (rmk 3) s m args below meth c H locs 0 0 (MQ below (qi g A ad L r S9) args s 0 0 A) (F0 m 0 ls []) := by
  obtain ⟨hx, hb, hml, hown, hts, hr, hlocks, hK, hN, hT⟩ := id C
  unfold f_X11_pay at h
  refine lv_aload_n hx hb dX11_pay_0 rfl (lv_at hl 0 rfl) ?_
  refine lv_iload_n hx hb dX11_pay_1 rfl (lv_at hl 1 rfl) ?_
  obtain ⟨r_2, hc_1, h⟩ := cl0_ex h
  refine g_cz (g_runV (ci := 11) (o := 200) (As := [.int p1]) (rest := []) hx hb hml hown hts hK hN hT hS hW (c_X11_isBill hB hc_1) (hB 200 bb_200) kd_200 rfl (gw_V mw_1392 mw_1394 mw_64 mw_73 mw_1395) hv_X11_isBill rfl rfl rfl (rm_ok (by decide) (by decide)) hl.1 (Nat.le_of_ble_eq_true rfl) dX11_pay_2 rfl ⟨Nat.zero_le _, Nat.zero_le _⟩) hS (fun hz_3 H locs hW hS => ?_)
  refine lv_if_eq (tgt := 30) hx hb dX11_pay_5 (by decide) (fun c_4 => ?_) (fun c_4 => ?_)
  · have h := it_t c_4 h
    refine lv_iconst (v := (-1)) hx hb dX11_pay_30 (by decide) ?_
    cases h
    exact g_iret hx hb hr hlocks hW hS dX11_pay_31
  · have h := it_f c_4 h
    refine lv_aload_n hx hb dX11_pay_8 rfl (lv_at hl 0 rfl) ?_
    refine g_get (C := RX11) (T := TX11) (N := 67) (ci := 11) hx hb hts inX11 hown hK hW (hB 200 bb_200) kd_200 rfl 0 (by decide) mw_961 rfl rfl dX11_pay_9 ?_
    refine lv_aload_n hx hb dX11_pay_12 rfl (lv_at hl 0 rfl) ?_
    refine g_get (C := RX11) (T := TX11) (N := 67) (ci := 11) hx hb hts inX11 hown hK hW (hB 200 bb_200) kd_200 rfl 58 (by decide) mw_1019 rfl rfl dX11_pay_13 ?_
    refine lv_iload_n hx hb dX11_pay_16 rfl (lv_at hl 1 rfl) ?_
    obtain ⟨hi_5, h⟩ := ck_n h
    refine g_iald hx hb hK hW (hB 259 bb_259) kd_259 hi_5 dX11_pay_17 ?_
    refine lv_icmp_lt (tgt := 30) hx hb dX11_pay_18 (by decide) (fun c_6 => ?_) (fun c_6 => ?_)
    · have h := it_t c_6 h
      refine lv_iconst (v := (-1)) hx hb dX11_pay_30 (by decide) ?_
      cases h
      exact g_iret hx hb hr hlocks hW hS dX11_pay_31
    · have h := it_f c_6 h
      refine lv_aload_n hx hb dX11_pay_21 rfl (lv_at hl 0 rfl) ?_
      refine g_get (C := RX11) (T := TX11) (N := 67) (ci := 11) hx hb hts inX11 hown hK hW (hB 200 bb_200) kd_200 rfl 59 (by decide) mw_1020 rfl rfl dX11_pay_22 ?_
      refine lv_iload_n hx hb dX11_pay_25 rfl (lv_at hl 1 rfl) ?_
      obtain ⟨hi_7, h⟩ := ck_n h
      refine g_iald hx hb hK hW (hB 260 bb_260) kd_260 hi_7 dX11_pay_26 ?_
      refine lv_if_lt (tgt := 32) hx hb dX11_pay_27 (by decide) (fun c_8 => ?_) (fun c_8 => ?_)
      · have h := it_t c_8 h
        refine lv_aload_n hx hb dX11_pay_32 rfl (lv_at hl 0 rfl) ?_
        refine g_get (C := RX11) (T := TX11) (N := 67) (ci := 11) hx hb hts inX11 hown hK hW (hB 200 bb_200) kd_200 rfl 59 (by decide) mw_1020 rfl rfl dX11_pay_33 ?_
        refine lv_iload_n hx hb dX11_pay_36 rfl (lv_at hl 1 rfl) ?_
        refine lv_aload_n hx hb dX11_pay_37 rfl (lv_at hl 0 rfl) ?_
        refine g_get (C := RX11) (T := TX11) (N := 67) (ci := 11) hx hb hts inX11 hown hK hW (hB 200 bb_200) kd_200 rfl 0 (by decide) mw_961 rfl rfl dX11_pay_38 ?_
        obtain ⟨hi_9, h⟩ := ck_n h
        refine g_iast hx hb hK hW hS (hB 260 bb_260) (fun _ => kd_260) hi_9 dX11_pay_41 (fun S_10 eS_10 H locs hW hS => ?_)
        have h := bn_at eS_10 h
        refine lv_aload_n hx hb dX11_pay_42 rfl (lv_at hl 0 rfl) ?_
        refine g_get (C := RX11) (T := TX11) (N := 67) (ci := 11) hx hb hts inX11 hown hK hW (hB 200 bb_200) kd_200 rfl 60 (by decide) mw_1021 rfl rfl dX11_pay_43 ?_
        refine lv_iload_n hx hb dX11_pay_46 rfl (lv_at hl 1 rfl) ?_
        refine lv_aload_n hx hb dX11_pay_47 rfl (lv_at hl 0 rfl) ?_
        refine lv_iload_n hx hb dX11_pay_48 rfl (lv_at hl 1 rfl) ?_
        refine lv_aload_n hx hb dX11_pay_49 rfl (lv_at hl 0 rfl) ?_
        refine g_get (C := RX11) (T := TX11) (N := 67) (ci := 11) hx hb hts inX11 hown hK hW (hB 200 bb_200) kd_200 rfl 0 (by decide) mw_961 rfl rfl dX11_pay_50 ?_
        refine lv_aload_n hx hb dX11_pay_53 rfl (lv_at hl 0 rfl) ?_
        refine g_get (C := RX11) (T := TX11) (N := 67) (ci := 11) hx hb hts inX11 hown hK hW (hB 200 bb_200) kd_200 rfl 0 (by decide) mw_961 rfl rfl dX11_pay_54 ?_
        obtain ⟨r_12, hc_11, h⟩ := cl0_ex h
        refine g_ci (g_runV (ci := 11) (o := 200) (As := [.int p1, .int (gv S_10 200 0), .int (gv S_10 200 0)]) (rest := [.int p1, .ref (ad 261)]) hx hb hml hown hts hK hN hT hS hW (c_X11_holder hB hc_11) (hB 200 bb_200) kd_200 rfl (gw_V mw_1408 mw_1401 mw_1402 mw_73 mw_1403) hv_X11_holder rfl rfl rfl (rm_ok (by decide) (by decide)) hl.1 (Nat.le_of_ble_eq_true rfl) dX11_pay_57 rfl ⟨Nat.zero_le _, Nat.zero_le _⟩) hS (fun H locs hW hS => ?_)
        obtain ⟨hi_13, h⟩ := ck_n h
        refine g_iast hx hb hK hW hS (hB 261 bb_261) (fun _ => kd_261) hi_13 dX11_pay_60 (fun S_14 eS_14 H locs hW hS => ?_)
        have h := bn_at eS_14 h
        refine lv_aload_n hx hb dX11_pay_61 rfl (lv_at hl 0 rfl) ?_
        refine g_get (C := RX11) (T := TX11) (N := 67) (ci := 11) hx hb hts inX11 hown hK hW (hB 200 bb_200) kd_200 rfl 60 (by decide) mw_1021 rfl rfl dX11_pay_62 ?_
        refine lv_iload_n hx hb dX11_pay_65 rfl (lv_at hl 1 rfl) ?_
        obtain ⟨hi_15, h⟩ := ck_n h
        refine g_iald hx hb hK hW (hB 261 bb_261) kd_261 hi_15 dX11_pay_66 ?_
        cases h
        exact g_iret hx hb hr hlocks hW hS dX11_pay_67
      · have h := it_f c_8 h
        refine lv_iconst (v := (-1)) hx hb dX11_pay_30 (by decide) ?_
        cases h
        exact g_iret hx hb hr hlocks hW hS dX11_pay_31
theorem c_X11_pay (hB : Lk L) {S : St} {r : Int32} {S9 : St} {p1 : Int32} (h : f_X11_pay N S p1 = some (r, S9)) : Met l yX11_pay (gws yX11_pay cX11_pay 2 (some .int)) (rmk 3) (va_Pc [.ref (ad 200), .int p1] (WU g A ad L S)) (qi g A ad L r S9) 0 0 A :=
  g_met [.ref (ad 200), .int p1] (by decide) (Nat.le_of_ble_eq_true rfl) (fun p e s m below meth c ls C hW hl _ => t_X11_pay C hB h hW va_S.rf hl)
theorem hv_X11_pay : yX11_pay.cls = RX11 ∧ yX11_pay.cls ≠ "java/lang/invoke/MethodHandle" ∧ yX11_pay.cls ≠ "java/lang/invoke/VarHandle" ∧ (parseMethodDescriptor yX11_pay.desc).map (fun d => d.parameters.length) = some 1 := by decide +kernel
/-! DroveRoadsModel.paid -/
def f_X11_paid (S : St) (p1 : Int32) (p2 : Int32) : Option (Int32) := cl0 (f_X11_isBill S p1) fun r_2 => if r_2 = 0 then (some (-1)) else (if p2 = 0 then (if p1 < 0 ∨ 20 ≤ ix p1 then none else some (gv S 257 (ix p1))) else (if p2 = 1 then (if p1 < 0 ∨ 20 ≤ ix p1 then none else some (gv S 260 (ix p1))) else (if p2 = 2 then (if p1 < 0 ∨ 20 ≤ ix p1 then none else some (gv S 261 (ix p1))) else (some (-1)))))
set_option maxHeartbeats 4000000 in
theorem t_X11_paid (C : MC p s m args meth c cX11_paid 3 (some .int) RX11 g A) (hB : Lk L) {S : St} {r : Int32} {p1 : Int32} {p2 : Int32} (h : f_X11_paid S p1 p2 = some r) {H : Heap} {locs : List Loc} {ls : Array Slot} (hW : GW g A ad L S H) (hS : va_S A s.heap H locs) (hl : lv_has ls 3 [(0, .ref (ad 200)), (1, .int p1), (2, .int p2)]) : W p l e (rmk 2) s m args below meth c H locs 0 0 (MQ below (qi g A ad L r S) args s 0 0 A) (F0 m 0 ls []) := by
  obtain ⟨hx, hb, hml, hown, hts, hr, hlocks, hK, hN, hT⟩ := id C
  unfold f_X11_paid at h
  refine lv_aload_n hx hb dX11_paid_0 rfl (lv_at hl 0 rfl) ?_
  refine lv_iload_n hx hb dX11_paid_1 rfl (lv_at hl 1 rfl) ?_
  obtain ⟨r_2, hc_1, h⟩ := cl0_ex h
  refine g_cz (g_runV (ci := 11) (o := 200) (As := [.int p1]) (rest := []) hx hb hml hown hts hK hN hT hS hW (c_X11_isBill hB hc_1) (hB 200 bb_200) kd_200 rfl (gw_V mw_1392 mw_1394 mw_64 mw_73 mw_1395) hv_X11_isBill rfl rfl rfl (rm_ok (by decide) (by decide)) hl.1 (Nat.le_of_ble_eq_true rfl) dX11_paid_2 rfl ⟨Nat.zero_le _, Nat.zero_le _⟩) hS (fun hz_3 H locs hW hS => ?_)
  refine lv_if_ne (tgt := 10) hx hb dX11_paid_5 (by decide) (fun c_4 => ?_) (fun c_4 => ?_)
  · have h := it_f c_4 h
    refine lv_iload_n hx hb dX11_paid_10 rfl (lv_at hl 2 rfl) ?_
    refine lv_if_ne (tgt := 23) hx hb dX11_paid_11 (by decide) (fun c_5 => ?_) (fun c_5 => ?_)
    · have h := it_f c_5 h
      refine lv_iload_n hx hb dX11_paid_23 rfl (lv_at hl 2 rfl) ?_
      refine lv_iconst (v := 1) hx hb dX11_paid_24 (by decide) ?_
      refine lv_icmp_ne (tgt := 37) hx hb dX11_paid_25 (by decide) (fun c_6 => ?_) (fun c_6 => ?_)
      · have h := it_f c_6 h
        refine lv_iload_n hx hb dX11_paid_37 rfl (lv_at hl 2 rfl) ?_
        refine lv_iconst (v := 2) hx hb dX11_paid_38 (by decide) ?_
        refine lv_icmp_ne (tgt := 51) hx hb dX11_paid_39 (by decide) (fun c_7 => ?_) (fun c_7 => ?_)
        · have h := it_f c_7 h
          refine lv_iconst (v := (-1)) hx hb dX11_paid_51 (by decide) ?_
          cases h
          exact g_iret hx hb hr hlocks hW hS dX11_paid_52
        · have h := it_t c_7 h
          refine lv_aload_n hx hb dX11_paid_42 rfl (lv_at hl 0 rfl) ?_
          refine g_get (C := RX11) (T := TX11) (N := 67) (ci := 11) hx hb hts inX11 hown hK hW (hB 200 bb_200) kd_200 rfl 60 (by decide) mw_1021 rfl rfl dX11_paid_43 ?_
          refine lv_iload_n hx hb dX11_paid_46 rfl (lv_at hl 1 rfl) ?_
          obtain ⟨hi_8, h⟩ := ck_n h
          refine g_iald hx hb hK hW (hB 261 bb_261) kd_261 hi_8 dX11_paid_47 ?_
          refine lv_goto (tgt := 52) hx hb dX11_paid_48 (by decide) ?_
          cases h
          exact g_iret hx hb hr hlocks hW hS dX11_paid_52
      · have h := it_t c_6 h
        refine lv_aload_n hx hb dX11_paid_28 rfl (lv_at hl 0 rfl) ?_
        refine g_get (C := RX11) (T := TX11) (N := 67) (ci := 11) hx hb hts inX11 hown hK hW (hB 200 bb_200) kd_200 rfl 59 (by decide) mw_1020 rfl rfl dX11_paid_29 ?_
        refine lv_iload_n hx hb dX11_paid_32 rfl (lv_at hl 1 rfl) ?_
        obtain ⟨hi_9, h⟩ := ck_n h
        refine g_iald hx hb hK hW (hB 260 bb_260) kd_260 hi_9 dX11_paid_33 ?_
        refine lv_goto (tgt := 52) hx hb dX11_paid_34 (by decide) ?_
        cases h
        exact g_iret hx hb hr hlocks hW hS dX11_paid_52
    · have h := it_t c_5 h
      refine lv_aload_n hx hb dX11_paid_14 rfl (lv_at hl 0 rfl) ?_
      refine g_get (C := RX11) (T := TX11) (N := 67) (ci := 11) hx hb hts inX11 hown hK hW (hB 200 bb_200) kd_200 rfl 56 (by decide) mw_1017 rfl rfl dX11_paid_15 ?_
      refine lv_iload_n hx hb dX11_paid_18 rfl (lv_at hl 1 rfl) ?_
      obtain ⟨hi_10, h⟩ := ck_n h
      refine g_iald hx hb hK hW (hB 257 bb_257) kd_257 hi_10 dX11_paid_19 ?_
      refine lv_goto (tgt := 52) hx hb dX11_paid_20 (by decide) ?_
      cases h
      exact g_iret hx hb hr hlocks hW hS dX11_paid_52
  · have h := it_t c_4 h
    refine lv_iconst (v := (-1)) hx hb dX11_paid_8 (by decide) ?_
    cases h
    exact g_iret hx hb hr hlocks hW hS dX11_paid_9
theorem c_X11_paid (hB : Lk L) {S : St} {r : Int32} {p1 : Int32} {p2 : Int32} (h : f_X11_paid S p1 p2 = some r) : Met l yX11_paid (gws yX11_paid cX11_paid 3 (some .int)) (rmk 2) (va_Pc [.ref (ad 200), .int p1, .int p2] (WU g A ad L S)) (qi g A ad L r S) 0 0 A :=
  g_met [.ref (ad 200), .int p1, .int p2] (by decide) (Nat.le_of_ble_eq_true rfl) (fun p e s m below meth c ls C hW hl _ => t_X11_paid C hB h hW va_S.rf hl)
theorem hv_X11_paid : yX11_paid.cls = RX11 ∧ yX11_paid.cls ≠ "java/lang/invoke/MethodHandle" ∧ yX11_paid.cls ≠ "java/lang/invoke/VarHandle" ∧ (parseMethodDescriptor yX11_paid.desc).map (fun d => d.parameters.length) = some 2 := by decide +kernel
end S27
