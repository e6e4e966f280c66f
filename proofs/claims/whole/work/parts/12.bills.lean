section S12
variable {p : Program} {l : Launch} {e : Env} {s : State} {m : MethodId} {args : Array Value} {below : List Frame} {meth : Method} {c : Code} {A : Nat → Prop} {g : Cx} {ad : Nat → Nat} {L : List Nat} {N : Nat} {q0 : Nat}
/-! DroveRoads$Passings.isHand -/
def f_X7_isHand (S : St) (p1 : Int32) : Option (Int32) := cl0 (f_X10_within S p1 0 9) fun r_2 => some r_2
set_option maxHeartbeats 4000000 in
theorem t_X7_isHand (C : MC p s m args meth c cX7_isHand 1 (some .boolean) RX7 g A) (hB : Lk L) {S : St} {r : Int32} {p1 : Int32} (h : f_X7_isHand S p1 = some r) {H : Heap} {locs : List Loc} {ls : Array Slot} (hW : GW g A ad L S H) (hS : va_S A s.heap H locs) (hl : lv_has ls 1 [(0, .int p1)]) : W p l e (rmk 2) s m args below meth c H locs 0 0 (MQ below (qz g A ad L r S) args s 0 0 A) (F0 m 0 ls []) := by
  obtain ⟨hx, hb, hml, hown, hts, hr, hlocks, hK, hN, hT⟩ := id C
  unfold f_X7_isHand at h
  refine lv_iload_n hx hb dX7_isHand_0 rfl (lv_at hl 0 rfl) ?_
  refine lv_iconst (v := 0) hx hb dX7_isHand_1 (by decide) ?_
  refine lv_bipush (v := 9) hx hb dX7_isHand_2 (by decide) ?_
  obtain ⟨r_2, hc_1, h⟩ := cl0_ex h
  refine g_cz (g_runSN (As := [.int p1, .int 0, .int 9]) (rest := []) hx hb hml hown hts hK hN hT hS hW (c_X10_within hB hc_1) mw_294 (by decide +kernel) mw_66 mw_293 hs_X10_within rfl rfl rfl (rm_ok (by decide) (by decide)) hl.1 (Nat.le_of_ble_eq_true rfl) dX7_isHand_4 rfl ⟨Nat.zero_le _, Nat.zero_le _⟩) hS (fun hz_3 H locs hW hS => ?_)
  cases h
  exact g_zret hx hb hr hlocks hW hS hz_3 dX7_isHand_7
theorem c_X7_isHand (hB : Lk L) {S : St} {r : Int32} {p1 : Int32} (h : f_X7_isHand S p1 = some r) : Met l yX7_isHand (gws yX7_isHand cX7_isHand 1 (some .boolean)) (rmk 2) (va_Pc [.int p1] (WU g A ad L S)) (qz g A ad L r S) 0 0 A :=
  g_met [.int p1] (by decide) (Nat.le_of_ble_eq_true rfl) (fun p e s m below meth c ls C hW hl _ => t_X7_isHand C hB h hW va_S.rf hl)
theorem hs_X7_isHand : yX7_isHand.cls ≠ "java/lang/invoke/MethodHandle" ∧ yX7_isHand.cls ≠ "java/lang/invoke/VarHandle" ∧ (parseMethodDescriptor yX7_isHand.desc).map (fun d => d.parameters.length) = some 1 := by decide +kernel
/-! DroveRoads$Passings.placeByDay -/
def f_X7_placeByDay_l2 (N : Nat) (v1 : Int32) (k : St → Int32 → Option (St)) : Nat → St → Int32 → Option (St)
  | 0, _, _ => none
  | n + 1, S, v2 => if v2 ≤ 0 then (k S v2) else (if (v2 - 1) < 0 ∨ 60 ≤ ix (v2 - 1) then none else if (gv S 47 (ix (v2 - 1))) < 0 ∨ 60 ≤ ix (gv S 47 (ix (v2 - 1))) then none else if v1 < 0 ∨ 60 ≤ ix v1 then none else if (gv S 44 (ix (gv S 47 (ix (v2 - 1))))) ≤ (gv S 44 (ix v1)) then (k S v2) else (if (v2 - 1) < 0 ∨ 60 ≤ ix (v2 - 1) then none else if v2 < 0 ∨ 60 ≤ ix v2 then none else bn (sv S 47 (ix v2) (gv S 47 (ix (v2 - 1)))) fun S_8 => bn (v2 + (-1)) fun x_9 => f_X7_placeByDay_l2 N v1 k n S_8 x_9))
set_option maxHeartbeats 4000000 in
theorem t_X7_placeByDay_l2 (C : MC p s m args meth c cX7_placeByDay 3 none RX7 g A) (hB : Lk L) {v1 : Int32} {S9 : St} {k : St → Int32 → Option (St)} (hk : ∀ (S : St) (w2 : Int32), k S w2 = some S9 → ∀ (H : Heap) (locs : List Loc) (ls : Array Slot), GW g A ad L S H → va_S A s.heap H locs → lv_has ls 3 [(0, .ref (ad 4)), (1, .int v1), (2, .int w2)] → W p l e (rmk 1) s m args below meth c H locs 0 0 (MQ below (qv g A ad L S9) args s 0 0 A) (F0 m 48 ls [])) : ∀ (n : Nat) (S : St) (v2 : Int32), f_X7_placeByDay_l2 N v1 k n S v2 = some S9 → ∀ (H : Heap) (locs : List Loc) (ls : Array Slot), GW g A ad L S H → va_S A s.heap H locs → lv_has ls 3 [(0, .ref (ad 4)), (1, .int v1), (2, .int v2)] → W p l e (rmk 1) s m args below meth c H locs 0 0 (MQ below (qv g A ad L S9) args s 0 0 A) (F0 m 2 ls []) := by
  obtain ⟨hx, hb, hml, hown, hts, hr, hlocks, hK, hN, hT⟩ := id C
  intro n
  induction n with
  | zero =>
    intro S v2 h
    have h : (none : Option (St)) = some S9 := h
    cases h
  | succ n ih =>
    intro S v2 h H locs ls hW hS hl
    rw [f_X7_placeByDay_l2] at h
    refine lv_iload_n hx hb dX7_placeByDay_2 rfl (lv_at hl 2 rfl) ?_
    refine lv_if_le (tgt := 48) hx hb dX7_placeByDay_3 (by decide) (fun c_1 => ?_) (fun c_1 => ?_)
    · have h := it_t c_1 h
      exact hk _ _ h _ _ _ hW hS (lv_sub hl [0, 1, 2] rfl)
    · have h := it_f c_1 h
      refine lv_aload_n hx hb dX7_placeByDay_6 rfl (lv_at hl 0 rfl) ?_
      refine g_get (C := RX7) (T := TX7) (N := 8) (ci := 7) hx hb hts inX7 hown hK hW (hB 4 bb_4) kd_4 rfl 4 (by decide) mw_156 rfl rfl dX7_placeByDay_7 ?_
      refine lv_aload_n hx hb dX7_placeByDay_10 rfl (lv_at hl 0 rfl) ?_
      refine g_get (C := RX7) (T := TX7) (N := 8) (ci := 7) hx hb hts inX7 hown hK hW (hB 4 bb_4) kd_4 rfl 7 (by decide) mw_159 rfl rfl dX7_placeByDay_11 ?_
      refine lv_iload_n hx hb dX7_placeByDay_14 rfl (lv_at hl 2 rfl) ?_
      refine lv_iconst (v := 1) hx hb dX7_placeByDay_15 (by decide) ?_
      refine lv_isub hx hb dX7_placeByDay_16 ?_
      obtain ⟨hi_2, h⟩ := ck_n h
      refine g_iald hx hb hK hW (hB 47 bb_47) kd_47 hi_2 dX7_placeByDay_17 ?_
      obtain ⟨hi_3, h⟩ := ck_n h
      refine g_iald hx hb hK hW (hB 44 bb_44) kd_44 hi_3 dX7_placeByDay_18 ?_
      refine lv_aload_n hx hb dX7_placeByDay_19 rfl (lv_at hl 0 rfl) ?_
      refine g_get (C := RX7) (T := TX7) (N := 8) (ci := 7) hx hb hts inX7 hown hK hW (hB 4 bb_4) kd_4 rfl 4 (by decide) mw_156 rfl rfl dX7_placeByDay_20 ?_
      refine lv_iload_n hx hb dX7_placeByDay_23 rfl (lv_at hl 1 rfl) ?_
      obtain ⟨hi_4, h⟩ := ck_n h
      refine g_iald hx hb hK hW (hB 44 bb_44) kd_44 hi_4 dX7_placeByDay_24 ?_
      refine lv_icmp_le (tgt := 48) hx hb dX7_placeByDay_25 (by decide) (fun c_5 => ?_) (fun c_5 => ?_)
      · have h := it_t c_5 h
        exact hk _ _ h _ _ _ hW hS (lv_sub hl [0, 1, 2] rfl)
      · have h := it_f c_5 h
        refine lv_aload_n hx hb dX7_placeByDay_28 rfl (lv_at hl 0 rfl) ?_
        refine g_get (C := RX7) (T := TX7) (N := 8) (ci := 7) hx hb hts inX7 hown hK hW (hB 4 bb_4) kd_4 rfl 7 (by decide) mw_159 rfl rfl dX7_placeByDay_29 ?_
        refine lv_iload_n hx hb dX7_placeByDay_32 rfl (lv_at hl 2 rfl) ?_
        refine lv_aload_n hx hb dX7_placeByDay_33 rfl (lv_at hl 0 rfl) ?_
        refine g_get (C := RX7) (T := TX7) (N := 8) (ci := 7) hx hb hts inX7 hown hK hW (hB 4 bb_4) kd_4 rfl 7 (by decide) mw_159 rfl rfl dX7_placeByDay_34 ?_
        refine lv_iload_n hx hb dX7_placeByDay_37 rfl (lv_at hl 2 rfl) ?_
        refine lv_iconst (v := 1) hx hb dX7_placeByDay_38 (by decide) ?_
        refine lv_isub hx hb dX7_placeByDay_39 ?_
        obtain ⟨hi_6, h⟩ := ck_n h
        refine g_iald hx hb hK hW (hB 47 bb_47) kd_47 hi_6 dX7_placeByDay_40 ?_
        obtain ⟨hi_7, h⟩ := ck_n h
        refine g_iast hx hb hK hW hS (hB 47 bb_47) (fun _ => kd_47) hi_7 dX7_placeByDay_41 (fun S_8 eS_8 H locs hW hS => ?_)
        have h := bn_at eS_8 h
        obtain ⟨x_9, ex_9⟩ : ∃ z : Int32, z = v2 + (-1) := ⟨_, rfl⟩
        have h := bn_at ex_9 h
        refine lv_iinc (v := x_9) (lv' := [(2, .int x_9), (0, .ref (ad 4)), (1, .int v1)]) hx hb dX7_placeByDay_42 hl (k := 2) rfl (by rw [ex_9]; rfl) (by decide) rfl (fun ls hl => ?_)
        refine lv_goto (tgt := 2) hx hb dX7_placeByDay_45 (by decide) ?_
        exact ih _ _ h _ _ _ hW hS (lv_sub hl [1, 2, 0] rfl)
def f_X7_placeByDay (N : Nat) (S : St) (p1 : Int32) : Option (St) := f_X7_placeByDay_l2 N p1 (fun S_10 x_11 => if x_11 < 0 ∨ 60 ≤ ix x_11 then none else bn (sv S_10 47 (ix x_11) p1) fun S_13 => some S_13) N S p1
set_option maxHeartbeats 4000000 in
theorem t_X7_placeByDay (C : MC p s m args meth c cX7_placeByDay 3 none RX7 g A) (hB : Lk L) {S : St} {S9 : St} {p1 : Int32} (h : f_X7_placeByDay N S p1 = some S9) {H : Heap} {locs : List Loc} {ls : Array Slot} (hW : GW g A ad L S H) (hS : va_S A s.heap H locs) (hl : lv_has ls 3 [(0, .ref (ad 4)), (1, .int p1)]) : W p l e (rmk 1) s m args below meth c H locs 0 0 (MQ below (qv g A ad L S9) args s 0 0 A) (F0 m 0 ls []) := by
  obtain ⟨hx, hb, hml, hown, hts, hr, hlocks, hK, hN, hT⟩ := id C
  unfold f_X7_placeByDay at h
  refine lv_iload_n hx hb dX7_placeByDay_0 rfl (lv_at hl 1 rfl) ?_
  refine lv_istore_n (lv' := [(2, .int p1), (0, .ref (ad 4)), (1, .int p1)]) hx hb dX7_placeByDay_1 rfl hl (by decide) rfl (fun ls hl => ?_)
  refine t_X7_placeByDay_l2 C hB ?_ _ _ _ h _ _ _ hW hS (lv_sub hl [1, 2, 0] rfl)
  intro S_10 x_11 h H locs ls hW hS hl
  refine lv_aload_n hx hb dX7_placeByDay_48 rfl (lv_at hl 0 rfl) ?_
  refine g_get (C := RX7) (T := TX7) (N := 8) (ci := 7) hx hb hts inX7 hown hK hW (hB 4 bb_4) kd_4 rfl 7 (by decide) mw_159 rfl rfl dX7_placeByDay_49 ?_
  refine lv_iload_n hx hb dX7_placeByDay_52 rfl (lv_at hl 2 rfl) ?_
  refine lv_iload_n hx hb dX7_placeByDay_53 rfl (lv_at hl 1 rfl) ?_
  obtain ⟨hi_12, h⟩ := ck_n h
  refine g_iast hx hb hK hW hS (hB 47 bb_47) (fun _ => kd_47) hi_12 dX7_placeByDay_54 (fun S_13 eS_13 H locs hW hS => ?_)
  have h := bn_at eS_13 h
  cases h
  exact g_vret hx hb hr hlocks hW hS dX7_placeByDay_55
theorem c_X7_placeByDay (hB : Lk L) {S : St} {S9 : St} {p1 : Int32} (h : f_X7_placeByDay N S p1 = some S9) : Met l yX7_placeByDay (gws yX7_placeByDay cX7_placeByDay 3 none) (rmk 1) (va_Pc [.ref (ad 4), .int p1] (WU g A ad L S)) (qv g A ad L S9) 0 0 A :=
  g_met [.ref (ad 4), .int p1] (by decide) (Nat.le_of_ble_eq_true rfl) (fun p e s m below meth c ls C hW hl _ => t_X7_placeByDay C hB h hW va_S.rf hl)
theorem hv_X7_placeByDay : yX7_placeByDay.cls = RX7 ∧ yX7_placeByDay.cls ≠ "java/lang/invoke/MethodHandle" ∧ yX7_placeByDay.cls ≠ "java/lang/invoke/VarHandle" ∧ (parseMethodDescriptor yX7_placeByDay.desc).map (fun d => d.parameters.length) = some 1 := by decide +kernel
/-! DroveRoads$Passings.add -/
def f_X7_add (N : Nat) (S : St) (p1 : Int32) (p2 : Int32) (p3 : Int32) (p4 : Int32) (p5 : Int32) : Option (Int32 × St) := cl0 (f_X7_isHand S p2) fun r_2 => if r_2 = 0 then (some ((-1), S)) else (cl0 (f_X7_isHand S p3) fun r_6 => if r_6 = 0 then (some ((-1), S)) else (if p2 = p3 then (some ((-1), S)) else (if (gv S 4 0) < 60 then (if (gv S 4 0) < 0 ∨ 60 ≤ ix (gv S 4 0) then none else bn (sv S 41 (ix (gv S 4 0)) p1) fun S_12 => if (gv S_12 4 0) < 0 ∨ 60 ≤ ix (gv S_12 4 0) then none else bn (sv S_12 42 (ix (gv S_12 4 0)) p2) fun S_14 => if (gv S_14 4 0) < 0 ∨ 60 ≤ ix (gv S_14 4 0) then none else bn (sv S_14 43 (ix (gv S_14 4 0)) p3) fun S_16 => if (gv S_16 4 0) < 0 ∨ 60 ≤ ix (gv S_16 4 0) then none else bn (sv S_16 44 (ix (gv S_16 4 0)) p4) fun S_18 => if (gv S_18 4 0) < 0 ∨ 60 ≤ ix (gv S_18 4 0) then none else bn (sv S_18 45 (ix (gv S_18 4 0)) p5) fun S_20 => if (gv S_20 4 0) < 0 ∨ 60 ≤ ix (gv S_20 4 0) then none else bn (sv S_20 46 (ix (gv S_20 4 0)) (-1)) fun S_22 => cl0 (f_X7_placeByDay N S_22 (gv S_22 4 0)) fun S_24 => bn (sv S_24 4 0 ((gv S_24 4 0) + 1)) fun S_25 => some (((gv S_25 4 0) - 1), S_25)) else (some ((-1), S)))))
set_option maxHeartbeats 4000000 in
theorem t_X7_add (C : MC p s m args meth c cX7_add 6 (some .int) RX7 g A) (hB : Lk L) {S : St} {r : Int32} {S9 : St} {p1 : Int32} {p2 : Int32} {p3 : Int32} {p4 : Int32} {p5 : Int32} (h : f_X7_add N S p1 p2 p3 p4 p5 = some (r, S9)) {H : Heap} {locs : List Loc} {ls : Array Slot} (hW : GW g A ad L S H) (hS : va_S A s.heap H locs) (hl : lv_has ls 6 [(0, .ref (ad 4)), (1, .int p1), (2, .int p2), (3, .int p3), (4, .int p4), (5, .int p5)]) : W p l e (rmk 3) s m args below meth c H locs 0 0 (MQ below (qi g A ad L r S9) args s 0 0 A) (F0 m 0 ls []) := by
  obtain ⟨hx, hb, hml, hown, hts, hr, hlocks, hK, hN, hT⟩ := id C
  unfold f_X7_add at h
  refine lv_iload_n hx hb dX7_add_0 rfl (lv_at hl 2 rfl) ?_
  obtain ⟨r_2, hc_1, h⟩ := cl0_ex h
  refine g_cz (g_runS (As := [.int p2]) (rest := []) hx hb hml hown hts hK hN hT hS hW (c_X7_isHand hB hc_1) (gw_S mw_903 mw_887 mw_70 mw_888) hs_X7_isHand rfl rfl rfl (rm_ok (by decide) (by decide)) hl.1 (Nat.le_of_ble_eq_true rfl) dX7_add_1 rfl ⟨Nat.zero_le _, Nat.zero_le _⟩) hS (fun hz_3 H locs hW hS => ?_)
  refine lv_if_eq (tgt := 28) hx hb dX7_add_4 (by decide) (fun c_4 => ?_) (fun c_4 => ?_)
  · have h := it_t c_4 h
    refine lv_iconst (v := (-1)) hx hb dX7_add_28 (by decide) ?_
    cases h
    exact g_iret hx hb hr hlocks hW hS dX7_add_29
  · have h := it_f c_4 h
    refine lv_iload_n hx hb dX7_add_7 rfl (lv_at hl 3 rfl) ?_
    obtain ⟨r_6, hc_5, h⟩ := cl0_ex h
    refine g_cz (g_runS (As := [.int p3]) (rest := []) hx hb hml hown hts hK hN hT hS hW (c_X7_isHand hB hc_5) (gw_S mw_903 mw_887 mw_70 mw_888) hs_X7_isHand rfl rfl rfl (rm_ok (by decide) (by decide)) hl.1 (Nat.le_of_ble_eq_true rfl) dX7_add_8 rfl ⟨Nat.zero_le _, Nat.zero_le _⟩) hS (fun hz_7 H locs hW hS => ?_)
    refine lv_if_eq (tgt := 28) hx hb dX7_add_11 (by decide) (fun c_8 => ?_) (fun c_8 => ?_)
    · have h := it_t c_8 h
      refine lv_iconst (v := (-1)) hx hb dX7_add_28 (by decide) ?_
      cases h
      exact g_iret hx hb hr hlocks hW hS dX7_add_29
    · have h := it_f c_8 h
      refine lv_iload_n hx hb dX7_add_14 rfl (lv_at hl 2 rfl) ?_
      refine lv_iload_n hx hb dX7_add_15 rfl (lv_at hl 3 rfl) ?_
      refine lv_icmp_eq (tgt := 28) hx hb dX7_add_16 (by decide) (fun c_9 => ?_) (fun c_9 => ?_)
      · have h := it_t c_9 h
        refine lv_iconst (v := (-1)) hx hb dX7_add_28 (by decide) ?_
        cases h
        exact g_iret hx hb hr hlocks hW hS dX7_add_29
      · have h := it_f c_9 h
        refine lv_aload_n hx hb dX7_add_19 rfl (lv_at hl 0 rfl) ?_
        refine g_get (C := RX7) (T := TX7) (N := 8) (ci := 7) hx hb hts inX7 hown hK hW (hB 4 bb_4) kd_4 rfl 0 (by decide) mw_151 rfl rfl dX7_add_20 ?_
        refine lv_bipush (v := 60) hx hb dX7_add_23 (by decide) ?_
        refine lv_icmp_lt (tgt := 30) hx hb dX7_add_25 (by decide) (fun c_10 => ?_) (fun c_10 => ?_)
        · have h := it_t c_10 h
          refine lv_aload_n hx hb dX7_add_30 rfl (lv_at hl 0 rfl) ?_
          refine g_get (C := RX7) (T := TX7) (N := 8) (ci := 7) hx hb hts inX7 hown hK hW (hB 4 bb_4) kd_4 rfl 1 (by decide) mw_153 rfl rfl dX7_add_31 ?_
          refine lv_aload_n hx hb dX7_add_34 rfl (lv_at hl 0 rfl) ?_
          refine g_get (C := RX7) (T := TX7) (N := 8) (ci := 7) hx hb hts inX7 hown hK hW (hB 4 bb_4) kd_4 rfl 0 (by decide) mw_151 rfl rfl dX7_add_35 ?_
          refine lv_iload_n hx hb dX7_add_38 rfl (lv_at hl 1 rfl) ?_
          obtain ⟨hi_11, h⟩ := ck_n h
          refine g_iast hx hb hK hW hS (hB 41 bb_41) (fun _ => kd_41) hi_11 dX7_add_39 (fun S_12 eS_12 H locs hW hS => ?_)
          have h := bn_at eS_12 h
          refine lv_aload_n hx hb dX7_add_40 rfl (lv_at hl 0 rfl) ?_
          refine g_get (C := RX7) (T := TX7) (N := 8) (ci := 7) hx hb hts inX7 hown hK hW (hB 4 bb_4) kd_4 rfl 2 (by decide) mw_154 rfl rfl dX7_add_41 ?_
          refine lv_aload_n hx hb dX7_add_44 rfl (lv_at hl 0 rfl) ?_
          refine g_get (C := RX7) (T := TX7) (N := 8) (ci := 7) hx hb hts inX7 hown hK hW (hB 4 bb_4) kd_4 rfl 0 (by decide) mw_151 rfl rfl dX7_add_45 ?_
          refine lv_iload_n hx hb dX7_add_48 rfl (lv_at hl 2 rfl) ?_
          obtain ⟨hi_13, h⟩ := ck_n h
          refine g_iast hx hb hK hW hS (hB 42 bb_42) (fun _ => kd_42) hi_13 dX7_add_49 (fun S_14 eS_14 H locs hW hS => ?_)
          have h := bn_at eS_14 h
          refine lv_aload_n hx hb dX7_add_50 rfl (lv_at hl 0 rfl) ?_
          refine g_get (C := RX7) (T := TX7) (N := 8) (ci := 7) hx hb hts inX7 hown hK hW (hB 4 bb_4) kd_4 rfl 3 (by decide) mw_155 rfl rfl dX7_add_51 ?_
          refine lv_aload_n hx hb dX7_add_54 rfl (lv_at hl 0 rfl) ?_
          refine g_get (C := RX7) (T := TX7) (N := 8) (ci := 7) hx hb hts inX7 hown hK hW (hB 4 bb_4) kd_4 rfl 0 (by decide) mw_151 rfl rfl dX7_add_55 ?_
          refine lv_iload_n hx hb dX7_add_58 rfl (lv_at hl 3 rfl) ?_
          obtain ⟨hi_15, h⟩ := ck_n h
          refine g_iast hx hb hK hW hS (hB 43 bb_43) (fun _ => kd_43) hi_15 dX7_add_59 (fun S_16 eS_16 H locs hW hS => ?_)
          have h := bn_at eS_16 h
          refine lv_aload_n hx hb dX7_add_60 rfl (lv_at hl 0 rfl) ?_
          refine g_get (C := RX7) (T := TX7) (N := 8) (ci := 7) hx hb hts inX7 hown hK hW (hB 4 bb_4) kd_4 rfl 4 (by decide) mw_156 rfl rfl dX7_add_61 ?_
          refine lv_aload_n hx hb dX7_add_64 rfl (lv_at hl 0 rfl) ?_
          refine g_get (C := RX7) (T := TX7) (N := 8) (ci := 7) hx hb hts inX7 hown hK hW (hB 4 bb_4) kd_4 rfl 0 (by decide) mw_151 rfl rfl dX7_add_65 ?_
          refine lv_iload hx hb dX7_add_68 (lv_at hl 4 rfl) ?_
          obtain ⟨hi_17, h⟩ := ck_n h
          refine g_iast hx hb hK hW hS (hB 44 bb_44) (fun _ => kd_44) hi_17 dX7_add_70 (fun S_18 eS_18 H locs hW hS => ?_)
          have h := bn_at eS_18 h
          refine lv_aload_n hx hb dX7_add_71 rfl (lv_at hl 0 rfl) ?_
          refine g_get (C := RX7) (T := TX7) (N := 8) (ci := 7) hx hb hts inX7 hown hK hW (hB 4 bb_4) kd_4 rfl 5 (by decide) mw_157 rfl rfl dX7_add_72 ?_
          refine lv_aload_n hx hb dX7_add_75 rfl (lv_at hl 0 rfl) ?_
          refine g_get (C := RX7) (T := TX7) (N := 8) (ci := 7) hx hb hts inX7 hown hK hW (hB 4 bb_4) kd_4 rfl 0 (by decide) mw_151 rfl rfl dX7_add_76 ?_
          refine lv_iload hx hb dX7_add_79 (lv_at hl 5 rfl) ?_
          obtain ⟨hi_19, h⟩ := ck_n h
          refine g_iast hx hb hK hW hS (hB 45 bb_45) (fun _ => kd_45) hi_19 dX7_add_81 (fun S_20 eS_20 H locs hW hS => ?_)
          have h := bn_at eS_20 h
          refine lv_aload_n hx hb dX7_add_82 rfl (lv_at hl 0 rfl) ?_
          refine g_get (C := RX7) (T := TX7) (N := 8) (ci := 7) hx hb hts inX7 hown hK hW (hB 4 bb_4) kd_4 rfl 6 (by decide) mw_158 rfl rfl dX7_add_83 ?_
          refine lv_aload_n hx hb dX7_add_86 rfl (lv_at hl 0 rfl) ?_
          refine g_get (C := RX7) (T := TX7) (N := 8) (ci := 7) hx hb hts inX7 hown hK hW (hB 4 bb_4) kd_4 rfl 0 (by decide) mw_151 rfl rfl dX7_add_87 ?_
          refine lv_iconst (v := (-1)) hx hb dX7_add_90 (by decide) ?_
          obtain ⟨hi_21, h⟩ := ck_n h
          refine g_iast hx hb hK hW hS (hB 46 bb_46) (fun _ => kd_46) hi_21 dX7_add_91 (fun S_22 eS_22 H locs hW hS => ?_)
          have h := bn_at eS_22 h
          refine lv_aload_n hx hb dX7_add_92 rfl (lv_at hl 0 rfl) ?_
          refine lv_aload_n hx hb dX7_add_93 rfl (lv_at hl 0 rfl) ?_
          refine g_get (C := RX7) (T := TX7) (N := 8) (ci := 7) hx hb hts inX7 hown hK hW (hB 4 bb_4) kd_4 rfl 0 (by decide) mw_151 rfl rfl dX7_add_94 ?_
          obtain ⟨S_24, hc_23, h⟩ := cl0_ex h
          refine g_cv (g_runV (ci := 7) (o := 4) (As := [.int (gv S_22 4 0)]) (rest := []) hx hb hml hown hts hK hN hT hS hW (c_X7_placeByDay hB hc_23) (hB 4 bb_4) kd_4 rfl (gw_V mw_904 mw_906 mw_33 mw_70 mw_907) hv_X7_placeByDay rfl rfl rfl (rm_ok (by decide) (by decide)) hl.1 (Nat.le_of_ble_eq_true rfl) dX7_add_97 rfl ⟨Nat.zero_le _, Nat.zero_le _⟩) hS (fun H locs hW hS => ?_)
          refine lv_aload_n hx hb dX7_add_100 rfl (lv_at hl 0 rfl) ?_
          refine lv_dup hx hb dX7_add_101 rfl ?_
          refine g_get (C := RX7) (T := TX7) (N := 8) (ci := 7) hx hb hts inX7 hown hK hW (hB 4 bb_4) kd_4 rfl 0 (by decide) mw_151 rfl rfl dX7_add_102 ?_
          refine lv_iconst (v := 1) hx hb dX7_add_105 (by decide) ?_
          refine lv_iadd hx hb dX7_add_106 ?_
          refine g_put (C := RX7) (T := TX7) (N := 8) (ci := 7) hx hb hts inX7 tyX7 tyX7_ok nmX7 hown hK hW hS (hB 4 bb_4) kd_4 rfl 0 (by decide) mw_151 rfl rfl rfl rfl (Nat.le_of_ble_eq_true rfl) (sv S_24 4 0 ((gv S_24 4 0) + 1)) (ps_4_0) cellOf_sv dX7_add_107 (fun S_25 eS_25 H locs hW hS => ?_)
          have h := bn_at eS_25 h
          refine lv_aload_n hx hb dX7_add_110 rfl (lv_at hl 0 rfl) ?_
          refine g_get (C := RX7) (T := TX7) (N := 8) (ci := 7) hx hb hts inX7 hown hK hW (hB 4 bb_4) kd_4 rfl 0 (by decide) mw_151 rfl rfl dX7_add_111 ?_
          refine lv_iconst (v := 1) hx hb dX7_add_114 (by decide) ?_
          refine lv_isub hx hb dX7_add_115 ?_
          cases h
          exact g_iret hx hb hr hlocks hW hS dX7_add_116
        · have h := it_f c_10 h
          refine lv_iconst (v := (-1)) hx hb dX7_add_28 (by decide) ?_
          cases h
          exact g_iret hx hb hr hlocks hW hS dX7_add_29
theorem c_X7_add (hB : Lk L) {S : St} {r : Int32} {S9 : St} {p1 : Int32} {p2 : Int32} {p3 : Int32} {p4 : Int32} {p5 : Int32} (h : f_X7_add N S p1 p2 p3 p4 p5 = some (r, S9)) : Met l yX7_add (gws yX7_add cX7_add 6 (some .int)) (rmk 3) (va_Pc [.ref (ad 4), .int p1, .int p2, .int p3, .int p4, .int p5] (WU g A ad L S)) (qi g A ad L r S9) 0 0 A :=
  g_met [.ref (ad 4), .int p1, .int p2, .int p3, .int p4, .int p5] (by decide) (Nat.le_of_ble_eq_true rfl) (fun p e s m below meth c ls C hW hl _ => t_X7_add C hB h hW va_S.rf hl)
theorem hv_X7_add : yX7_add.cls = RX7 ∧ yX7_add.cls ≠ "java/lang/invoke/MethodHandle" ∧ yX7_add.cls ≠ "java/lang/invoke/VarHandle" ∧ (parseMethodDescriptor yX7_add.desc).map (fun d => d.parameters.length) = some 5 := by decide +kernel
/-! DroveRoads$Passings.takeBack -/
def f_X7_takeBack (S : St) (p1 : Int32) (p2 : Int32) : Option (Int32 × St) := if p1 < 0 then (some (0, S)) else (if (gv S 4 0) ≤ p1 then (some (0, S)) else (if p1 < 0 ∨ 60 ≤ ix p1 then none else if (gv S 46 (ix p1)) = (-1) then (if p1 < 0 ∨ 60 ≤ ix p1 then none else bn (sv S 46 (ix p1) p2) fun S_6 => some (1, S_6)) else (some (0, S))))
set_option maxHeartbeats 4000000 in
theorem t_X7_takeBack (C : MC p s m args meth c cX7_takeBack 3 (some .boolean) RX7 g A) (hB : Lk L) {S : St} {r : Int32} {S9 : St} {p1 : Int32} {p2 : Int32} (h : f_X7_takeBack S p1 p2 = some (r, S9)) {H : Heap} {locs : List Loc} {ls : Array Slot} (hW : GW g A ad L S H) (hS : va_S A s.heap H locs) (hl : lv_has ls 3 [(0, .ref (ad 4)), (1, .int p1), (2, .int p2)]) : W p l e (rmk 1) s m args below meth c H locs 0 0 (MQ below (qz g A ad L r S9) args s 0 0 A) (F0 m 0 ls []) := by
  obtain ⟨hx, hb, hml, hown, hts, hr, hlocks, hK, hN, hT⟩ := id C
  unfold f_X7_takeBack at h
  refine lv_iload_n hx hb dX7_takeBack_0 rfl (lv_at hl 1 rfl) ?_
  refine lv_if_lt (tgt := 22) hx hb dX7_takeBack_1 (by decide) (fun c_1 => ?_) (fun c_1 => ?_)
  · have h := it_t c_1 h
    refine lv_iconst (v := 0) hx hb dX7_takeBack_22 (by decide) ?_
    cases h
    exact g_zret hx hb hr hlocks hW hS (rfl) dX7_takeBack_23
  · have h := it_f c_1 h
    refine lv_iload_n hx hb dX7_takeBack_4 rfl (lv_at hl 1 rfl) ?_
    refine lv_aload_n hx hb dX7_takeBack_5 rfl (lv_at hl 0 rfl) ?_
    refine g_get (C := RX7) (T := TX7) (N := 8) (ci := 7) hx hb hts inX7 hown hK hW (hB 4 bb_4) kd_4 rfl 0 (by decide) mw_151 rfl rfl dX7_takeBack_6 ?_
    refine lv_icmp_ge (tgt := 22) hx hb dX7_takeBack_9 (by decide) (fun c_2 => ?_) (fun c_2 => ?_)
    · have h := it_t c_2 h
      refine lv_iconst (v := 0) hx hb dX7_takeBack_22 (by decide) ?_
      cases h
      exact g_zret hx hb hr hlocks hW hS (rfl) dX7_takeBack_23
    · have h := it_f c_2 h
      refine lv_aload_n hx hb dX7_takeBack_12 rfl (lv_at hl 0 rfl) ?_
      refine g_get (C := RX7) (T := TX7) (N := 8) (ci := 7) hx hb hts inX7 hown hK hW (hB 4 bb_4) kd_4 rfl 6 (by decide) mw_158 rfl rfl dX7_takeBack_13 ?_
      refine lv_iload_n hx hb dX7_takeBack_16 rfl (lv_at hl 1 rfl) ?_
      obtain ⟨hi_3, h⟩ := ck_n h
      refine g_iald hx hb hK hW (hB 46 bb_46) kd_46 hi_3 dX7_takeBack_17 ?_
      refine lv_iconst (v := (-1)) hx hb dX7_takeBack_18 (by decide) ?_
      refine lv_icmp_eq (tgt := 24) hx hb dX7_takeBack_19 (by decide) (fun c_4 => ?_) (fun c_4 => ?_)
      · have h := it_t c_4 h
        refine lv_aload_n hx hb dX7_takeBack_24 rfl (lv_at hl 0 rfl) ?_
        refine g_get (C := RX7) (T := TX7) (N := 8) (ci := 7) hx hb hts inX7 hown hK hW (hB 4 bb_4) kd_4 rfl 6 (by decide) mw_158 rfl rfl dX7_takeBack_25 ?_
        refine lv_iload_n hx hb dX7_takeBack_28 rfl (lv_at hl 1 rfl) ?_
        refine lv_iload_n hx hb dX7_takeBack_29 rfl (lv_at hl 2 rfl) ?_
        obtain ⟨hi_5, h⟩ := ck_n h
        refine g_iast hx hb hK hW hS (hB 46 bb_46) (fun _ => kd_46) hi_5 dX7_takeBack_30 (fun S_6 eS_6 H locs hW hS => ?_)
        have h := bn_at eS_6 h
        refine lv_iconst (v := 1) hx hb dX7_takeBack_31 (by decide) ?_
        cases h
        exact g_zret hx hb hr hlocks hW hS (rfl) dX7_takeBack_32
      · have h := it_f c_4 h
        refine lv_iconst (v := 0) hx hb dX7_takeBack_22 (by decide) ?_
        cases h
        exact g_zret hx hb hr hlocks hW hS (rfl) dX7_takeBack_23
theorem c_X7_takeBack (hB : Lk L) {S : St} {r : Int32} {S9 : St} {p1 : Int32} {p2 : Int32} (h : f_X7_takeBack S p1 p2 = some (r, S9)) : Met l yX7_takeBack (gws yX7_takeBack cX7_takeBack 3 (some .boolean)) (rmk 1) (va_Pc [.ref (ad 4), .int p1, .int p2] (WU g A ad L S)) (qz g A ad L r S9) 0 0 A :=
  g_met [.ref (ad 4), .int p1, .int p2] (by decide) (Nat.le_of_ble_eq_true rfl) (fun p e s m below meth c ls C hW hl _ => t_X7_takeBack C hB h hW va_S.rf hl)
theorem hv_X7_takeBack : yX7_takeBack.cls = RX7 ∧ yX7_takeBack.cls ≠ "java/lang/invoke/MethodHandle" ∧ yX7_takeBack.cls ≠ "java/lang/invoke/VarHandle" ∧ (parseMethodDescriptor yX7_takeBack.desc).map (fun d => d.parameters.length) = some 2 := by decide +kernel
/-! DroveRoads$Passings.isKnown -/
def f_X7_isKnown (S : St) (p1 : Int32) (p2 : Int32) : Option (Int32) := if p1 < 0 ∨ 60 ≤ ix p1 then none else if (gv S 46 (ix p1)) = (-1) then (if p1 < 0 ∨ 60 ≤ ix p1 then none else if p2 < (gv S 45 (ix p1)) then (some 0) else (some 1)) else (if p1 < 0 ∨ 60 ≤ ix p1 then none else if p2 < (gv S 46 (ix p1)) then (if p1 < 0 ∨ 60 ≤ ix p1 then none else if p2 < (gv S 45 (ix p1)) then (some 0) else (some 1)) else (if p1 < 0 ∨ 60 ≤ ix p1 then none else if p2 < (gv S 45 (ix p1)) then (some 0) else (some 0)))
set_option maxHeartbeats 4000000 in
theorem t_X7_isKnown (C : MC p s m args meth c cX7_isKnown 4 (some .boolean) RX7 g A) (hB : Lk L) {S : St} {r : Int32} {p1 : Int32} {p2 : Int32} (h : f_X7_isKnown S p1 p2 = some r) {H : Heap} {locs : List Loc} {ls : Array Slot} (hW : GW g A ad L S H) (hS : va_S A s.heap H locs) (hl : lv_has ls 4 [(0, .ref (ad 4)), (1, .int p1), (2, .int p2)]) : W p l e (rmk 1) s m args below meth c H locs 0 0 (MQ below (qz g A ad L r S) args s 0 0 A) (F0 m 0 ls []) := by
  obtain ⟨hx, hb, hml, hown, hts, hr, hlocks, hK, hN, hT⟩ := id C
  unfold f_X7_isKnown at h
  refine lv_aload_n hx hb dX7_isKnown_0 rfl (lv_at hl 0 rfl) ?_
  refine g_get (C := RX7) (T := TX7) (N := 8) (ci := 7) hx hb hts inX7 hown hK hW (hB 4 bb_4) kd_4 rfl 6 (by decide) mw_158 rfl rfl dX7_isKnown_1 ?_
  refine lv_iload_n hx hb dX7_isKnown_4 rfl (lv_at hl 1 rfl) ?_
  obtain ⟨hi_1, h⟩ := ck_n h
  refine g_iald hx hb hK hW (hB 46 bb_46) kd_46 hi_1 dX7_isKnown_5 ?_
  refine lv_iconst (v := (-1)) hx hb dX7_isKnown_6 (by decide) ?_
  refine lv_icmp_eq (tgt := 24) hx hb dX7_isKnown_7 (by decide) (fun c_2 => ?_) (fun c_2 => ?_)
  · have h := it_t c_2 h
    refine lv_iconst (v := 0) hx hb dX7_isKnown_24 (by decide) ?_
    refine lv_istore_n (lv' := [(3, .int 0), (0, .ref (ad 4)), (1, .int p1), (2, .int p2)]) hx hb dX7_isKnown_25 rfl hl (by decide) rfl (fun ls hl => ?_)
    refine lv_aload_n hx hb dX7_isKnown_26 rfl (lv_at hl 1 rfl) ?_
    refine g_get (C := RX7) (T := TX7) (N := 8) (ci := 7) hx hb hts inX7 hown hK hW (hB 4 bb_4) kd_4 rfl 5 (by decide) mw_157 rfl rfl dX7_isKnown_27 ?_
    refine lv_iload_n hx hb dX7_isKnown_30 rfl (lv_at hl 2 rfl) ?_
    obtain ⟨hi_3, h⟩ := ck_n h
    refine g_iald hx hb hK hW (hB 45 bb_45) kd_45 hi_3 dX7_isKnown_31 ?_
    refine lv_iload_n hx hb dX7_isKnown_32 rfl (lv_at hl 3 rfl) ?_
    refine lv_icmp_gt (tgt := 44) hx hb dX7_isKnown_33 (by decide) (fun c_4 => ?_) (fun c_4 => ?_)
    · have h := it_t c_4 h
      refine lv_iconst (v := 0) hx hb dX7_isKnown_44 (by decide) ?_
      cases h
      exact g_zret hx hb hr hlocks hW hS (rfl) dX7_isKnown_45
    · have h := it_f c_4 h
      refine lv_iload_n hx hb dX7_isKnown_36 rfl (lv_at hl 0 rfl) ?_
      refine lv_if_ne (tgt := 44) hx hb dX7_isKnown_37 (by decide) (fun c9 => absurd c9 (by decide)) (fun _ => ?_)
      refine lv_iconst (v := 1) hx hb dX7_isKnown_40 (by decide) ?_
      refine lv_goto (tgt := 45) hx hb dX7_isKnown_41 (by decide) ?_
      cases h
      exact g_zret hx hb hr hlocks hW hS (rfl) dX7_isKnown_45
  · have h := it_f c_2 h
    refine lv_aload_n hx hb dX7_isKnown_10 rfl (lv_at hl 0 rfl) ?_
    refine g_get (C := RX7) (T := TX7) (N := 8) (ci := 7) hx hb hts inX7 hown hK hW (hB 4 bb_4) kd_4 rfl 6 (by decide) mw_158 rfl rfl dX7_isKnown_11 ?_
    refine lv_iload_n hx hb dX7_isKnown_14 rfl (lv_at hl 1 rfl) ?_
    obtain ⟨hi_5, h⟩ := ck_n h
    refine g_iald hx hb hK hW (hB 46 bb_46) kd_46 hi_5 dX7_isKnown_15 ?_
    refine lv_iload_n hx hb dX7_isKnown_16 rfl (lv_at hl 2 rfl) ?_
    refine lv_icmp_gt (tgt := 24) hx hb dX7_isKnown_17 (by decide) (fun c_6 => ?_) (fun c_6 => ?_)
    · have h := it_t c_6 h
      refine lv_iconst (v := 0) hx hb dX7_isKnown_24 (by decide) ?_
      refine lv_istore_n (lv' := [(3, .int 0), (0, .ref (ad 4)), (1, .int p1), (2, .int p2)]) hx hb dX7_isKnown_25 rfl hl (by decide) rfl (fun ls hl => ?_)
      refine lv_aload_n hx hb dX7_isKnown_26 rfl (lv_at hl 1 rfl) ?_
      refine g_get (C := RX7) (T := TX7) (N := 8) (ci := 7) hx hb hts inX7 hown hK hW (hB 4 bb_4) kd_4 rfl 5 (by decide) mw_157 rfl rfl dX7_isKnown_27 ?_
      refine lv_iload_n hx hb dX7_isKnown_30 rfl (lv_at hl 2 rfl) ?_
      obtain ⟨hi_7, h⟩ := ck_n h
      refine g_iald hx hb hK hW (hB 45 bb_45) kd_45 hi_7 dX7_isKnown_31 ?_
      refine lv_iload_n hx hb dX7_isKnown_32 rfl (lv_at hl 3 rfl) ?_
      refine lv_icmp_gt (tgt := 44) hx hb dX7_isKnown_33 (by decide) (fun c_8 => ?_) (fun c_8 => ?_)
      · have h := it_t c_8 h
        refine lv_iconst (v := 0) hx hb dX7_isKnown_44 (by decide) ?_
        cases h
        exact g_zret hx hb hr hlocks hW hS (rfl) dX7_isKnown_45
      · have h := it_f c_8 h
        refine lv_iload_n hx hb dX7_isKnown_36 rfl (lv_at hl 0 rfl) ?_
        refine lv_if_ne (tgt := 44) hx hb dX7_isKnown_37 (by decide) (fun c9 => absurd c9 (by decide)) (fun _ => ?_)
        refine lv_iconst (v := 1) hx hb dX7_isKnown_40 (by decide) ?_
        refine lv_goto (tgt := 45) hx hb dX7_isKnown_41 (by decide) ?_
        cases h
        exact g_zret hx hb hr hlocks hW hS (rfl) dX7_isKnown_45
    · have h := it_f c_6 h
      refine lv_iconst (v := 1) hx hb dX7_isKnown_20 (by decide) ?_
      refine lv_goto (tgt := 25) hx hb dX7_isKnown_21 (by decide) ?_
      refine lv_istore_n (lv' := [(3, .int 1), (0, .ref (ad 4)), (1, .int p1), (2, .int p2)]) hx hb dX7_isKnown_25 rfl hl (by decide) rfl (fun ls hl => ?_)
      refine lv_aload_n hx hb dX7_isKnown_26 rfl (lv_at hl 1 rfl) ?_
      refine g_get (C := RX7) (T := TX7) (N := 8) (ci := 7) hx hb hts inX7 hown hK hW (hB 4 bb_4) kd_4 rfl 5 (by decide) mw_157 rfl rfl dX7_isKnown_27 ?_
      refine lv_iload_n hx hb dX7_isKnown_30 rfl (lv_at hl 2 rfl) ?_
      obtain ⟨hi_9, h⟩ := ck_n h
      refine g_iald hx hb hK hW (hB 45 bb_45) kd_45 hi_9 dX7_isKnown_31 ?_
      refine lv_iload_n hx hb dX7_isKnown_32 rfl (lv_at hl 3 rfl) ?_
      refine lv_icmp_gt (tgt := 44) hx hb dX7_isKnown_33 (by decide) (fun c_10 => ?_) (fun c_10 => ?_)
      · have h := it_t c_10 h
        refine lv_iconst (v := 0) hx hb dX7_isKnown_44 (by decide) ?_
        cases h
        exact g_zret hx hb hr hlocks hW hS (rfl) dX7_isKnown_45
      · have h := it_f c_10 h
        refine lv_iload_n hx hb dX7_isKnown_36 rfl (lv_at hl 0 rfl) ?_
        refine lv_if_ne (tgt := 44) hx hb dX7_isKnown_37 (by decide) (fun _ => ?_) (fun c9 => absurd c9 (by decide))
        refine lv_iconst (v := 0) hx hb dX7_isKnown_44 (by decide) ?_
        cases h
        exact g_zret hx hb hr hlocks hW hS (rfl) dX7_isKnown_45
theorem c_X7_isKnown (hB : Lk L) {S : St} {r : Int32} {p1 : Int32} {p2 : Int32} (h : f_X7_isKnown S p1 p2 = some r) : Met l yX7_isKnown (gws yX7_isKnown cX7_isKnown 4 (some .boolean)) (rmk 1) (va_Pc [.ref (ad 4), .int p1, .int p2] (WU g A ad L S)) (qz g A ad L r S) 0 0 A :=
  g_met [.ref (ad 4), .int p1, .int p2] (by decide) (Nat.le_of_ble_eq_true rfl) (fun p e s m below meth c ls C hW hl _ => t_X7_isKnown C hB h hW va_S.rf hl)
theorem hv_X7_isKnown : yX7_isKnown.cls = RX7 ∧ yX7_isKnown.cls ≠ "java/lang/invoke/MethodHandle" ∧ yX7_isKnown.cls ≠ "java/lang/invoke/VarHandle" ∧ (parseMethodDescriptor yX7_isKnown.desc).map (fun d => d.parameters.length) = some 2 := by decide +kernel
/-! DroveRoads$Passings.follow -/
def f_X7_follow_j51 (N : Nat) (kb : Int32 → Int32 → Option (Int32)) (k : Int32 → Option (Int32)) (S : St) (v1 : Int32) (v3 : Int32) (v4 : Int32) (v5 : Int32) (v6 : Int32) (v7 : Int32) (w100 : Int32) : Option (Int32) := if w100 = 0 then (bn (v6 + 1) fun x_7 => kb v5 x_7) else (cl0 (f_X7_isKnown S v7 v4) fun r_9 => if r_9 = 0 then (bn (v6 + 1) fun x_12 => kb v5 x_12) else (if v7 < 0 ∨ 60 ≤ ix v7 then none else if (gv S 42 (ix v7)) = v5 then (if v7 < 0 ∨ 60 ≤ ix v7 then none else bn (gv S 43 (ix v7)) fun x_17 => bn (v6 + 1) fun x_18 => kb x_17 x_18) else (bn (v6 + 1) fun x_15 => kb v5 x_15)))
set_option maxHeartbeats 4000000 in
theorem t_X7_follow_j51 (C : MC p s m args meth c cX7_follow 9 (some .int) RX7 g A) (hB : Lk L) {S : St} {r : Int32} {v1 : Int32} {v3 : Int32} {v4 : Int32} {v5 : Int32} {v6 : Int32} {v7 : Int32} {w100 : Int32} {kb : Int32 → Int32 → Option (Int32)} {k : Int32 → Option (Int32)} (hkb : ∀ (u5 : Int32) (u6 : Int32), kb u5 u6 = some r → ∀ (H : Heap) (locs : List Loc) (ls : Array Slot), GW g A ad L S H → va_S A s.heap H locs → lv_has ls 9 [(0, .ref (ad 4)), (1, .int v1), (3, .int v3), (4, .int v4), (5, .int u5), (6, .int u6)] → W p l e (rmk 2) s m args below meth c H locs 0 0 (MQ below (qi g A ad L r S) args s 0 0 A) (F0 m 6 ls [])) (hk : ∀ (u5 : Int32), k u5 = some r → ∀ (H : Heap) (locs : List Loc) (ls : Array Slot), GW g A ad L S H → va_S A s.heap H locs → lv_has ls 9 [(5, .int u5)] → W p l e (rmk 2) s m args below meth c H locs 0 0 (MQ below (qi g A ad L r S) args s 0 0 A) (F0 m 96 ls [])) (h : f_X7_follow_j51 N kb k S v1 v3 v4 v5 v6 v7 w100 = some r) {H : Heap} {locs : List Loc} {ls : Array Slot} (hW : GW g A ad L S H) (hS : va_S A s.heap H locs) (hl : lv_has ls 9 [(0, .ref (ad 4)), (1, .int v1), (3, .int v3), (4, .int v4), (5, .int v5), (6, .int v6), (7, .int v7)]) : W p l e (rmk 2) s m args below meth c H locs 0 0 (MQ below (qi g A ad L r S) args s 0 0 A) (F0 m 51 ls [.int w100]) := by
  obtain ⟨hx, hb, hml, hown, hts, hr, hlocks, hK, hN, hT⟩ := id C
  unfold f_X7_follow_j51 at h
  refine lv_istore (lv' := [(8, .int w100), (0, .ref (ad 4)), (1, .int v1), (3, .int v3), (4, .int v4), (5, .int v5), (6, .int v6), (7, .int v7)]) hx hb dX7_follow_51 hl (by decide) rfl (fun ls hl => ?_)
  refine lv_iload hx hb dX7_follow_53 (lv_at hl 0 rfl) ?_
  refine lv_if_eq (tgt := 90) hx hb dX7_follow_55 (by decide) (fun c_6 => ?_) (fun c_6 => ?_)
  · have h := it_t c_6 h
    obtain ⟨x_7, ex_7⟩ : ∃ z : Int32, z = v6 + 1 := ⟨_, rfl⟩
    have h := bn_at ex_7 h
    refine lv_iinc (v := x_7) (lv' := [(6, .int x_7), (8, .int w100), (0, .ref (ad 4)), (1, .int v1), (3, .int v3), (4, .int v4), (5, .int v5), (7, .int v7)]) hx hb dX7_follow_90 hl (k := 6) rfl (by rw [ex_7]; rfl) (by decide) rfl (fun ls hl => ?_)
    refine lv_goto (tgt := 6) hx hb dX7_follow_93 (by decide) ?_
    exact hkb _ _ h _ _ _ hW hS (lv_sub hl [2, 3, 4, 5, 6, 0] rfl)
  · have h := it_f c_6 h
    refine lv_aload_n hx hb dX7_follow_58 rfl (lv_at hl 1 rfl) ?_
    refine lv_iload hx hb dX7_follow_59 (lv_at hl 7 rfl) ?_
    refine lv_iload hx hb dX7_follow_61 (lv_at hl 4 rfl) ?_
    obtain ⟨r_9, hc_8, h⟩ := cl0_ex h
    refine g_cz (g_runV (ci := 7) (o := 4) (As := [.int v7, .int v4]) (rest := []) hx hb hml hown hts hK hN hT hS hW (c_X7_isKnown hB hc_8) (hB 4 bb_4) kd_4 rfl (gw_V mw_929 mw_931 mw_34 mw_70 mw_932) hv_X7_isKnown rfl rfl rfl (rm_ok (by decide) (by decide)) hl.1 (Nat.le_of_ble_eq_true rfl) dX7_follow_63 rfl ⟨Nat.zero_le _, Nat.zero_le _⟩) hS (fun hz_10 H locs hW hS => ?_)
    refine lv_if_eq (tgt := 90) hx hb dX7_follow_66 (by decide) (fun c_11 => ?_) (fun c_11 => ?_)
    · have h := it_t c_11 h
      obtain ⟨x_12, ex_12⟩ : ∃ z : Int32, z = v6 + 1 := ⟨_, rfl⟩
      have h := bn_at ex_12 h
      refine lv_iinc (v := x_12) (lv' := [(6, .int x_12), (8, .int w100), (0, .ref (ad 4)), (1, .int v1), (3, .int v3), (4, .int v4), (5, .int v5), (7, .int v7)]) hx hb dX7_follow_90 hl (k := 6) rfl (by rw [ex_12]; rfl) (by decide) rfl (fun ls hl => ?_)
      refine lv_goto (tgt := 6) hx hb dX7_follow_93 (by decide) ?_
      exact hkb _ _ h _ _ _ hW hS (lv_sub hl [2, 3, 4, 5, 6, 0] rfl)
    · have h := it_f c_11 h
      refine lv_aload_n hx hb dX7_follow_69 rfl (lv_at hl 1 rfl) ?_
      refine g_get (C := RX7) (T := TX7) (N := 8) (ci := 7) hx hb hts inX7 hown hK hW (hB 4 bb_4) kd_4 rfl 2 (by decide) mw_154 rfl rfl dX7_follow_70 ?_
      refine lv_iload hx hb dX7_follow_73 (lv_at hl 7 rfl) ?_
      obtain ⟨hi_13, h⟩ := ck_n h
      refine g_iald hx hb hK hW (hB 42 bb_42) kd_42 hi_13 dX7_follow_75 ?_
      refine lv_iload hx hb dX7_follow_76 (lv_at hl 5 rfl) ?_
      refine lv_icmp_ne (tgt := 90) hx hb dX7_follow_78 (by decide) (fun c_14 => ?_) (fun c_14 => ?_)
      · have h := it_f c_14 h
        obtain ⟨x_15, ex_15⟩ : ∃ z : Int32, z = v6 + 1 := ⟨_, rfl⟩
        have h := bn_at ex_15 h
        refine lv_iinc (v := x_15) (lv' := [(6, .int x_15), (8, .int w100), (0, .ref (ad 4)), (1, .int v1), (3, .int v3), (4, .int v4), (5, .int v5), (7, .int v7)]) hx hb dX7_follow_90 hl (k := 6) rfl (by rw [ex_15]; rfl) (by decide) rfl (fun ls hl => ?_)
        refine lv_goto (tgt := 6) hx hb dX7_follow_93 (by decide) ?_
        exact hkb _ _ h _ _ _ hW hS (lv_sub hl [2, 3, 4, 5, 6, 0] rfl)
      · have h := it_t c_14 h
        refine lv_aload_n hx hb dX7_follow_81 rfl (lv_at hl 1 rfl) ?_
        refine g_get (C := RX7) (T := TX7) (N := 8) (ci := 7) hx hb hts inX7 hown hK hW (hB 4 bb_4) kd_4 rfl 3 (by decide) mw_155 rfl rfl dX7_follow_82 ?_
        refine lv_iload hx hb dX7_follow_85 (lv_at hl 7 rfl) ?_
        obtain ⟨hi_16, h⟩ := ck_n h
        refine g_iald hx hb hK hW (hB 43 bb_43) kd_43 hi_16 dX7_follow_87 ?_
        refine lv_topi (fun x_17 ex_17 => ?_)
        have h := bn_at ex_17 h
        refine lv_istore (lv' := [(5, .int x_17), (8, .int w100), (0, .ref (ad 4)), (1, .int v1), (3, .int v3), (4, .int v4), (6, .int v6), (7, .int v7)]) hx hb dX7_follow_88 hl (by decide) rfl (fun ls hl => ?_)
        obtain ⟨x_18, ex_18⟩ : ∃ z : Int32, z = v6 + 1 := ⟨_, rfl⟩
        have h := bn_at ex_18 h
        refine lv_iinc (v := x_18) (lv' := [(6, .int x_18), (5, .int x_17), (8, .int w100), (0, .ref (ad 4)), (1, .int v1), (3, .int v3), (4, .int v4), (7, .int v7)]) hx hb dX7_follow_90 hl (k := 6) rfl (by rw [ex_18]; rfl) (by decide) rfl (fun ls hl => ?_)
        refine lv_goto (tgt := 6) hx hb dX7_follow_93 (by decide) ?_
        exact hkb _ _ h _ _ _ hW hS (lv_sub hl [3, 4, 5, 6, 1, 0] rfl)
def f_X7_follow_j50 (N : Nat) (kb : Int32 → Int32 → Option (Int32)) (k : Int32 → Option (Int32)) (S : St) (v1 : Int32) (v3 : Int32) (v4 : Int32) (v5 : Int32) (v6 : Int32) (v7 : Int32) : Option (Int32) := f_X7_follow_j51 N (kb) k S v1 v3 v4 v5 v6 v7 0
set_option maxHeartbeats 4000000 in
theorem t_X7_follow_j50 (C : MC p s m args meth c cX7_follow 9 (some .int) RX7 g A) (hB : Lk L) {S : St} {r : Int32} {v1 : Int32} {v3 : Int32} {v4 : Int32} {v5 : Int32} {v6 : Int32} {v7 : Int32} {kb : Int32 → Int32 → Option (Int32)} {k : Int32 → Option (Int32)} (hkb : ∀ (u5 : Int32) (u6 : Int32), kb u5 u6 = some r → ∀ (H : Heap) (locs : List Loc) (ls : Array Slot), GW g A ad L S H → va_S A s.heap H locs → lv_has ls 9 [(0, .ref (ad 4)), (1, .int v1), (3, .int v3), (4, .int v4), (5, .int u5), (6, .int u6)] → W p l e (rmk 2) s m args below meth c H locs 0 0 (MQ below (qi g A ad L r S) args s 0 0 A) (F0 m 6 ls [])) (hk : ∀ (u5 : Int32), k u5 = some r → ∀ (H : Heap) (locs : List Loc) (ls : Array Slot), GW g A ad L S H → va_S A s.heap H locs → lv_has ls 9 [(5, .int u5)] → W p l e (rmk 2) s m args below meth c H locs 0 0 (MQ below (qi g A ad L r S) args s 0 0 A) (F0 m 96 ls [])) (h : f_X7_follow_j50 N kb k S v1 v3 v4 v5 v6 v7 = some r) {H : Heap} {locs : List Loc} {ls : Array Slot} (hW : GW g A ad L S H) (hS : va_S A s.heap H locs) (hl : lv_has ls 9 [(0, .ref (ad 4)), (1, .int v1), (3, .int v3), (4, .int v4), (5, .int v5), (6, .int v6), (7, .int v7)]) : W p l e (rmk 2) s m args below meth c H locs 0 0 (MQ below (qi g A ad L r S) args s 0 0 A) (F0 m 50 ls []) := by
  obtain ⟨hx, hb, hml, hown, hts, hr, hlocks, hK, hN, hT⟩ := id C
  unfold f_X7_follow_j50 at h
  refine lv_iconst (v := 0) hx hb dX7_follow_50 (by decide) ?_
  exact t_X7_follow_j51 C hB hkb hk h hW hS (lv_sub hl [0, 1, 2, 3, 4, 5, 6] rfl)
def f_X7_follow_l6 (N : Nat) (v1 : Int32) (v3 : Int32) (v4 : Int32) (S : St) (k : Int32 → Option (Int32)) : Nat → Int32 → Int32 → Option (Int32)
  | 0, _, _ => none
  | n + 1, v5, v6 => if (gv S 4 0) ≤ v6 then (k v5) else (if v6 < 0 ∨ 60 ≤ ix v6 then none else bn (gv S 47 (ix v6)) fun x_3 => if x_3 < 0 ∨ 60 ≤ ix x_3 then none else if (gv S 41 (ix x_3)) = v1 then (if x_3 < 0 ∨ 60 ≤ ix x_3 then none else if v3 < (gv S 44 (ix x_3)) then (f_X7_follow_j50 N (f_X7_follow_l6 N v1 v3 v4 S k n) k S v1 v3 v4 v5 v6 x_3) else (f_X7_follow_j51 N (f_X7_follow_l6 N v1 v3 v4 S k n) k S v1 v3 v4 v5 v6 x_3 1)) else (f_X7_follow_j50 N (f_X7_follow_l6 N v1 v3 v4 S k n) k S v1 v3 v4 v5 v6 x_3))
set_option maxHeartbeats 4000000 in
theorem t_X7_follow_l6 (C : MC p s m args meth c cX7_follow 9 (some .int) RX7 g A) (hB : Lk L) {v1 : Int32} {v3 : Int32} {v4 : Int32} {S : St} {r : Int32} {k : Int32 → Option (Int32)} (hk : ∀ (w5 : Int32), k w5 = some r → ∀ (H : Heap) (locs : List Loc) (ls : Array Slot), GW g A ad L S H → va_S A s.heap H locs → lv_has ls 9 [(5, .int w5)] → W p l e (rmk 2) s m args below meth c H locs 0 0 (MQ below (qi g A ad L r S) args s 0 0 A) (F0 m 96 ls [])) : ∀ (n : Nat) (v5 : Int32) (v6 : Int32), f_X7_follow_l6 N v1 v3 v4 S k n v5 v6 = some r → ∀ (H : Heap) (locs : List Loc) (ls : Array Slot), GW g A ad L S H → va_S A s.heap H locs → lv_has ls 9 [(0, .ref (ad 4)), (1, .int v1), (3, .int v3), (4, .int v4), (5, .int v5), (6, .int v6)] → W p l e (rmk 2) s m args below meth c H locs 0 0 (MQ below (qi g A ad L r S) args s 0 0 A) (F0 m 6 ls []) := by
  obtain ⟨hx, hb, hml, hown, hts, hr, hlocks, hK, hN, hT⟩ := id C
  intro n
  induction n with
  | zero =>
    intro v5 v6 h
    have h : (none : Option (Int32)) = some r := h
    cases h
  | succ n ih =>
    intro v5 v6 h H locs ls hW hS hl
    rw [f_X7_follow_l6] at h
    refine lv_iload hx hb dX7_follow_6 (lv_at hl 5 rfl) ?_
    refine lv_aload_n hx hb dX7_follow_8 rfl (lv_at hl 0 rfl) ?_
    refine g_get (C := RX7) (T := TX7) (N := 8) (ci := 7) hx hb hts inX7 hown hK hW (hB 4 bb_4) kd_4 rfl 0 (by decide) mw_151 rfl rfl dX7_follow_9 ?_
    refine lv_icmp_ge (tgt := 96) hx hb dX7_follow_12 (by decide) (fun c_1 => ?_) (fun c_1 => ?_)
    · have h := it_t c_1 h
      exact hk _ h _ _ _ hW hS (lv_sub hl [4] rfl)
    · have h := it_f c_1 h
      refine lv_aload_n hx hb dX7_follow_15 rfl (lv_at hl 0 rfl) ?_
      refine g_get (C := RX7) (T := TX7) (N := 8) (ci := 7) hx hb hts inX7 hown hK hW (hB 4 bb_4) kd_4 rfl 7 (by decide) mw_159 rfl rfl dX7_follow_16 ?_
      refine lv_iload hx hb dX7_follow_19 (lv_at hl 5 rfl) ?_
      obtain ⟨hi_2, h⟩ := ck_n h
      refine g_iald hx hb hK hW (hB 47 bb_47) kd_47 hi_2 dX7_follow_21 ?_
      refine lv_topi (fun x_3 ex_3 => ?_)
      have h := bn_at ex_3 h
      refine lv_istore (lv' := [(7, .int x_3), (0, .ref (ad 4)), (1, .int v1), (3, .int v3), (4, .int v4), (5, .int v5), (6, .int v6)]) hx hb dX7_follow_22 hl (by decide) rfl (fun ls hl => ?_)
      refine lv_aload_n hx hb dX7_follow_24 rfl (lv_at hl 1 rfl) ?_
      refine g_get (C := RX7) (T := TX7) (N := 8) (ci := 7) hx hb hts inX7 hown hK hW (hB 4 bb_4) kd_4 rfl 1 (by decide) mw_153 rfl rfl dX7_follow_25 ?_
      refine lv_iload hx hb dX7_follow_28 (lv_at hl 0 rfl) ?_
      obtain ⟨hi_4, h⟩ := ck_n h
      refine g_iald hx hb hK hW (hB 41 bb_41) kd_41 hi_4 dX7_follow_30 ?_
      refine lv_iload_n hx hb dX7_follow_31 rfl (lv_at hl 2 rfl) ?_
      refine lv_icmp_ne (tgt := 50) hx hb dX7_follow_32 (by decide) (fun c_5 => ?_) (fun c_5 => ?_)
      · have h := it_f c_5 h
        exact t_X7_follow_j50 C hB ih hk h hW hS (lv_sub hl [1, 2, 3, 4, 5, 6, 0] rfl)
      · have h := it_t c_5 h
        refine lv_aload_n hx hb dX7_follow_35 rfl (lv_at hl 1 rfl) ?_
        refine g_get (C := RX7) (T := TX7) (N := 8) (ci := 7) hx hb hts inX7 hown hK hW (hB 4 bb_4) kd_4 rfl 4 (by decide) mw_156 rfl rfl dX7_follow_36 ?_
        refine lv_iload hx hb dX7_follow_39 (lv_at hl 0 rfl) ?_
        obtain ⟨hi_19, h⟩ := ck_n h
        refine g_iald hx hb hK hW (hB 44 bb_44) kd_44 hi_19 dX7_follow_41 ?_
        refine lv_iload_n hx hb dX7_follow_42 rfl (lv_at hl 3 rfl) ?_
        refine lv_icmp_gt (tgt := 50) hx hb dX7_follow_43 (by decide) (fun c_20 => ?_) (fun c_20 => ?_)
        · have h := it_t c_20 h
          exact t_X7_follow_j50 C hB ih hk h hW hS (lv_sub hl [1, 2, 3, 4, 5, 6, 0] rfl)
        · have h := it_f c_20 h
          refine lv_iconst (v := 1) hx hb dX7_follow_46 (by decide) ?_
          refine lv_goto (tgt := 51) hx hb dX7_follow_47 (by decide) ?_
          exact t_X7_follow_j51 C hB ih hk h hW hS (lv_sub hl [1, 2, 3, 4, 5, 6, 0] rfl)
def f_X7_follow (N : Nat) (S : St) (p1 : Int32) (p2 : Int32) (p3 : Int32) (p4 : Int32) : Option (Int32) := f_X7_follow_l6 N p1 p3 p4 S (fun x_21 => some x_21) N p2 0
set_option maxHeartbeats 4000000 in
theorem t_X7_follow (C : MC p s m args meth c cX7_follow 9 (some .int) RX7 g A) (hB : Lk L) {S : St} {r : Int32} {p1 : Int32} {p2 : Int32} {p3 : Int32} {p4 : Int32} (h : f_X7_follow N S p1 p2 p3 p4 = some r) {H : Heap} {locs : List Loc} {ls : Array Slot} (hW : GW g A ad L S H) (hS : va_S A s.heap H locs) (hl : lv_has ls 9 [(0, .ref (ad 4)), (1, .int p1), (2, .int p2), (3, .int p3), (4, .int p4)]) : W p l e (rmk 2) s m args below meth c H locs 0 0 (MQ below (qi g A ad L r S) args s 0 0 A) (F0 m 0 ls []) := by
  obtain ⟨hx, hb, hml, hown, hts, hr, hlocks, hK, hN, hT⟩ := id C
  unfold f_X7_follow at h
  refine lv_iload_n hx hb dX7_follow_0 rfl (lv_at hl 2 rfl) ?_
  refine lv_istore (lv' := [(5, .int p2), (0, .ref (ad 4)), (1, .int p1), (2, .int p2), (3, .int p3), (4, .int p4)]) hx hb dX7_follow_1 hl (by decide) rfl (fun ls hl => ?_)
  refine lv_iconst (v := 0) hx hb dX7_follow_3 (by decide) ?_
  refine lv_istore (lv' := [(6, .int 0), (5, .int p2), (0, .ref (ad 4)), (1, .int p1), (2, .int p2), (3, .int p3), (4, .int p4)]) hx hb dX7_follow_4 hl (by decide) rfl (fun ls hl => ?_)
  refine t_X7_follow_l6 C hB ?_ _ _ _ h _ _ _ hW hS (lv_sub hl [2, 3, 5, 6, 1, 0] rfl)
  intro x_21 h H locs ls hW hS hl
  refine lv_iload hx hb dX7_follow_96 (lv_at hl 0 rfl) ?_
  cases h
  exact g_iret hx hb hr hlocks hW hS dX7_follow_98
theorem c_X7_follow (hB : Lk L) {S : St} {r : Int32} {p1 : Int32} {p2 : Int32} {p3 : Int32} {p4 : Int32} (h : f_X7_follow N S p1 p2 p3 p4 = some r) : Met l yX7_follow (gws yX7_follow cX7_follow 9 (some .int)) (rmk 2) (va_Pc [.ref (ad 4), .int p1, .int p2, .int p3, .int p4] (WU g A ad L S)) (qi g A ad L r S) 0 0 A :=
  g_met [.ref (ad 4), .int p1, .int p2, .int p3, .int p4] (by decide) (Nat.le_of_ble_eq_true rfl) (fun p e s m below meth c ls C hW hl _ => t_X7_follow C hB h hW va_S.rf hl)
theorem hv_X7_follow : yX7_follow.cls = RX7 ∧ yX7_follow.cls ≠ "java/lang/invoke/MethodHandle" ∧ yX7_follow.cls ≠ "java/lang/invoke/VarHandle" ∧ (parseMethodDescriptor yX7_follow.desc).map (fun d => d.parameters.length) = some 4 := by decide +kernel
/-! DroveRoads$Bills.has -/
def f_X0_has (S : St) (p1 : Int32) : Option (Int32) := if p1 < 0 then (some 0) else (if (gv S 3 0) ≤ p1 then (some 0) else (some 1))
set_option maxHeartbeats 4000000 in
theorem t_X0_has (C : MC p s m args meth c cX0_has 2 (some .boolean) RX0 g A) (hB : Lk L) {S : St} {r : Int32} {p1 : Int32} (h : f_X0_has S p1 = some r) {H : Heap} {locs : List Loc} {ls : Array Slot} (hW : GW g A ad L S H) (hS : va_S A s.heap H locs) (hl : lv_has ls 2 [(0, .ref (ad 3)), (1, .int p1)]) : W p l e (rmk 1) s m args below meth c H locs 0 0 (MQ below (qz g A ad L r S) args s 0 0 A) (F0 m 0 ls []) := by
  obtain ⟨hx, hb, hml, hown, hts, hr, hlocks, hK, hN, hT⟩ := id C
  unfold f_X0_has at h
  refine lv_iload_n hx hb dX0_has_0 rfl (lv_at hl 1 rfl) ?_
  refine lv_if_lt (tgt := 16) hx hb dX0_has_1 (by decide) (fun c_1 => ?_) (fun c_1 => ?_)
  · have h := it_t c_1 h
    refine lv_iconst (v := 0) hx hb dX0_has_16 (by decide) ?_
    cases h
    exact g_zret hx hb hr hlocks hW hS (rfl) dX0_has_17
  · have h := it_f c_1 h
    refine lv_iload_n hx hb dX0_has_4 rfl (lv_at hl 1 rfl) ?_
    refine lv_aload_n hx hb dX0_has_5 rfl (lv_at hl 0 rfl) ?_
    refine g_get (C := RX0) (T := TX0) (N := 7) (ci := 0) hx hb hts inX0 hown hK hW (hB 3 bb_3) kd_3 rfl 0 (by decide) mw_177 rfl rfl dX0_has_6 ?_
    refine lv_icmp_ge (tgt := 16) hx hb dX0_has_9 (by decide) (fun c_2 => ?_) (fun c_2 => ?_)
    · have h := it_t c_2 h
      refine lv_iconst (v := 0) hx hb dX0_has_16 (by decide) ?_
      cases h
      exact g_zret hx hb hr hlocks hW hS (rfl) dX0_has_17
    · have h := it_f c_2 h
      refine lv_iconst (v := 1) hx hb dX0_has_12 (by decide) ?_
      refine lv_goto (tgt := 17) hx hb dX0_has_13 (by decide) ?_
      cases h
      exact g_zret hx hb hr hlocks hW hS (rfl) dX0_has_17
theorem c_X0_has (hB : Lk L) {S : St} {r : Int32} {p1 : Int32} (h : f_X0_has S p1 = some r) : Met l yX0_has (gws yX0_has cX0_has 2 (some .boolean)) (rmk 1) (va_Pc [.ref (ad 3), .int p1] (WU g A ad L S)) (qz g A ad L r S) 0 0 A :=
  g_met [.ref (ad 3), .int p1] (by decide) (Nat.le_of_ble_eq_true rfl) (fun p e s m below meth c ls C hW hl _ => t_X0_has C hB h hW va_S.rf hl)
theorem hv_X0_has : yX0_has.cls = RX0 ∧ yX0_has.cls ≠ "java/lang/invoke/MethodHandle" ∧ yX0_has.cls ≠ "java/lang/invoke/VarHandle" ∧ (parseMethodDescriptor yX0_has.desc).map (fun d => d.parameters.length) = some 1 := by decide +kernel
/-! DroveRoads$Bills.make -/
def f_X0_make_j32 (S : St) (v1 : Int32) (v2 : Int32) (v3 : Int32) (w100 : Int32) : Option (Int32 × St) := if w100 = 0 then (some ((-1), S)) else (if (gv S 3 0) < 20 then (if (gv S 3 0) < 0 ∨ 20 ≤ ix (gv S 3 0) then none else bn (sv S 32 (ix (gv S 3 0)) v1) fun S_8 => if (gv S_8 3 0) < 0 ∨ 20 ≤ ix (gv S_8 3 0) then none else bn (sv S_8 33 (ix (gv S_8 3 0)) v2) fun S_10 => if (gv S_10 3 0) < 0 ∨ 20 ≤ ix (gv S_10 3 0) then none else bn (sv S_10 34 (ix (gv S_10 3 0)) v3) fun S_12 => if (gv S_12 3 0) < 0 ∨ 20 ≤ ix (gv S_12 3 0) then none else bn (sv S_12 35 (ix (gv S_12 3 0)) (-1)) fun S_14 => if (gv S_14 3 0) < 0 ∨ 20 ≤ ix (gv S_14 3 0) then none else bn (sv S_14 36 (ix (gv S_14 3 0)) (-1)) fun S_16 => bn (sv S_16 3 0 ((gv S_16 3 0) + 1)) fun S_17 => some (((gv S_17 3 0) - 1), S_17)) else (some ((-1), S)))
set_option maxHeartbeats 4000000 in
theorem t_X0_make_j32 (C : MC p s m args meth c cX0_make 5 (some .int) RX0 g A) (hB : Lk L) {S : St} {r : Int32} {S9 : St} {v1 : Int32} {v2 : Int32} {v3 : Int32} {w100 : Int32} (h : f_X0_make_j32 S v1 v2 v3 w100 = some (r, S9)) {H : Heap} {locs : List Loc} {ls : Array Slot} (hW : GW g A ad L S H) (hS : va_S A s.heap H locs) (hl : lv_has ls 5 [(0, .ref (ad 3)), (1, .int v1), (2, .int v2), (3, .int v3)]) : W p l e (rmk 3) s m args below meth c H locs 0 0 (MQ below (qi g A ad L r S9) args s 0 0 A) (F0 m 32 ls [.int w100]) := by
  obtain ⟨hx, hb, hml, hown, hts, hr, hlocks, hK, hN, hT⟩ := id C
  unfold f_X0_make_j32 at h
  refine lv_istore (lv' := [(4, .int w100), (0, .ref (ad 3)), (1, .int v1), (2, .int v2), (3, .int v3)]) hx hb dX0_make_32 hl (by decide) rfl (fun ls hl => ?_)
  refine lv_iload hx hb dX0_make_34 (lv_at hl 0 rfl) ?_
  refine lv_if_eq (tgt := 48) hx hb dX0_make_36 (by decide) (fun c_5 => ?_) (fun c_5 => ?_)
  · have h := it_t c_5 h
    refine lv_iconst (v := (-1)) hx hb dX0_make_48 (by decide) ?_
    cases h
    exact g_iret hx hb hr hlocks hW hS dX0_make_49
  · have h := it_f c_5 h
    refine lv_aload_n hx hb dX0_make_39 rfl (lv_at hl 1 rfl) ?_
    refine g_get (C := RX0) (T := TX0) (N := 7) (ci := 0) hx hb hts inX0 hown hK hW (hB 3 bb_3) kd_3 rfl 0 (by decide) mw_177 rfl rfl dX0_make_40 ?_
    refine lv_bipush (v := 20) hx hb dX0_make_43 (by decide) ?_
    refine lv_icmp_lt (tgt := 50) hx hb dX0_make_45 (by decide) (fun c_6 => ?_) (fun c_6 => ?_)
    · have h := it_t c_6 h
      refine lv_aload_n hx hb dX0_make_50 rfl (lv_at hl 1 rfl) ?_
      refine g_get (C := RX0) (T := TX0) (N := 7) (ci := 0) hx hb hts inX0 hown hK hW (hB 3 bb_3) kd_3 rfl 2 (by decide) mw_181 rfl rfl dX0_make_51 ?_
      refine lv_aload_n hx hb dX0_make_54 rfl (lv_at hl 1 rfl) ?_
      refine g_get (C := RX0) (T := TX0) (N := 7) (ci := 0) hx hb hts inX0 hown hK hW (hB 3 bb_3) kd_3 rfl 0 (by decide) mw_177 rfl rfl dX0_make_55 ?_
      refine lv_iload_n hx hb dX0_make_58 rfl (lv_at hl 2 rfl) ?_
      obtain ⟨hi_7, h⟩ := ck_n h
      refine g_iast hx hb hK hW hS (hB 32 bb_32) (fun _ => kd_32) hi_7 dX0_make_59 (fun S_8 eS_8 H locs hW hS => ?_)
      have h := bn_at eS_8 h
      refine lv_aload_n hx hb dX0_make_60 rfl (lv_at hl 1 rfl) ?_
      refine g_get (C := RX0) (T := TX0) (N := 7) (ci := 0) hx hb hts inX0 hown hK hW (hB 3 bb_3) kd_3 rfl 3 (by decide) mw_182 rfl rfl dX0_make_61 ?_
      refine lv_aload_n hx hb dX0_make_64 rfl (lv_at hl 1 rfl) ?_
      refine g_get (C := RX0) (T := TX0) (N := 7) (ci := 0) hx hb hts inX0 hown hK hW (hB 3 bb_3) kd_3 rfl 0 (by decide) mw_177 rfl rfl dX0_make_65 ?_
      refine lv_iload_n hx hb dX0_make_68 rfl (lv_at hl 3 rfl) ?_
      obtain ⟨hi_9, h⟩ := ck_n h
      refine g_iast hx hb hK hW hS (hB 33 bb_33) (fun _ => kd_33) hi_9 dX0_make_69 (fun S_10 eS_10 H locs hW hS => ?_)
      have h := bn_at eS_10 h
      refine lv_aload_n hx hb dX0_make_70 rfl (lv_at hl 1 rfl) ?_
      refine g_get (C := RX0) (T := TX0) (N := 7) (ci := 0) hx hb hts inX0 hown hK hW (hB 3 bb_3) kd_3 rfl 4 (by decide) mw_183 rfl rfl dX0_make_71 ?_
      refine lv_aload_n hx hb dX0_make_74 rfl (lv_at hl 1 rfl) ?_
      refine g_get (C := RX0) (T := TX0) (N := 7) (ci := 0) hx hb hts inX0 hown hK hW (hB 3 bb_3) kd_3 rfl 0 (by decide) mw_177 rfl rfl dX0_make_75 ?_
      refine lv_iload_n hx hb dX0_make_78 rfl (lv_at hl 4 rfl) ?_
      obtain ⟨hi_11, h⟩ := ck_n h
      refine g_iast hx hb hK hW hS (hB 34 bb_34) (fun _ => kd_34) hi_11 dX0_make_79 (fun S_12 eS_12 H locs hW hS => ?_)
      have h := bn_at eS_12 h
      refine lv_aload_n hx hb dX0_make_80 rfl (lv_at hl 1 rfl) ?_
      refine g_get (C := RX0) (T := TX0) (N := 7) (ci := 0) hx hb hts inX0 hown hK hW (hB 3 bb_3) kd_3 rfl 5 (by decide) mw_184 rfl rfl dX0_make_81 ?_
      refine lv_aload_n hx hb dX0_make_84 rfl (lv_at hl 1 rfl) ?_
      refine g_get (C := RX0) (T := TX0) (N := 7) (ci := 0) hx hb hts inX0 hown hK hW (hB 3 bb_3) kd_3 rfl 0 (by decide) mw_177 rfl rfl dX0_make_85 ?_
      refine lv_iconst (v := (-1)) hx hb dX0_make_88 (by decide) ?_
      obtain ⟨hi_13, h⟩ := ck_n h
      refine g_iast hx hb hK hW hS (hB 35 bb_35) (fun _ => kd_35) hi_13 dX0_make_89 (fun S_14 eS_14 H locs hW hS => ?_)
      have h := bn_at eS_14 h
      refine lv_aload_n hx hb dX0_make_90 rfl (lv_at hl 1 rfl) ?_
      refine g_get (C := RX0) (T := TX0) (N := 7) (ci := 0) hx hb hts inX0 hown hK hW (hB 3 bb_3) kd_3 rfl 6 (by decide) mw_185 rfl rfl dX0_make_91 ?_
      refine lv_aload_n hx hb dX0_make_94 rfl (lv_at hl 1 rfl) ?_
      refine g_get (C := RX0) (T := TX0) (N := 7) (ci := 0) hx hb hts inX0 hown hK hW (hB 3 bb_3) kd_3 rfl 0 (by decide) mw_177 rfl rfl dX0_make_95 ?_
      refine lv_iconst (v := (-1)) hx hb dX0_make_98 (by decide) ?_
      obtain ⟨hi_15, h⟩ := ck_n h
      refine g_iast hx hb hK hW hS (hB 36 bb_36) (fun _ => kd_36) hi_15 dX0_make_99 (fun S_16 eS_16 H locs hW hS => ?_)
      have h := bn_at eS_16 h
      refine lv_aload_n hx hb dX0_make_100 rfl (lv_at hl 1 rfl) ?_
      refine lv_dup hx hb dX0_make_101 rfl ?_
      refine g_get (C := RX0) (T := TX0) (N := 7) (ci := 0) hx hb hts inX0 hown hK hW (hB 3 bb_3) kd_3 rfl 0 (by decide) mw_177 rfl rfl dX0_make_102 ?_
      refine lv_iconst (v := 1) hx hb dX0_make_105 (by decide) ?_
      refine lv_iadd hx hb dX0_make_106 ?_
      refine g_put (C := RX0) (T := TX0) (N := 7) (ci := 0) hx hb hts inX0 tyX0 tyX0_ok nmX0 hown hK hW hS (hB 3 bb_3) kd_3 rfl 0 (by decide) mw_177 rfl rfl rfl rfl (Nat.le_of_ble_eq_true rfl) (sv S_16 3 0 ((gv S_16 3 0) + 1)) (ps_3_0) cellOf_sv dX0_make_107 (fun S_17 eS_17 H locs hW hS => ?_)
      have h := bn_at eS_17 h
      refine lv_aload_n hx hb dX0_make_110 rfl (lv_at hl 1 rfl) ?_
      refine g_get (C := RX0) (T := TX0) (N := 7) (ci := 0) hx hb hts inX0 hown hK hW (hB 3 bb_3) kd_3 rfl 0 (by decide) mw_177 rfl rfl dX0_make_111 ?_
      refine lv_iconst (v := 1) hx hb dX0_make_114 (by decide) ?_
      refine lv_isub hx hb dX0_make_115 ?_
      cases h
      exact g_iret hx hb hr hlocks hW hS dX0_make_116
    · have h := it_f c_6 h
      refine lv_iconst (v := (-1)) hx hb dX0_make_48 (by decide) ?_
      cases h
      exact g_iret hx hb hr hlocks hW hS dX0_make_49
def f_X0_make_j31 (S : St) (v1 : Int32) (v2 : Int32) (v3 : Int32) : Option (Int32 × St) := f_X0_make_j32 S v1 v2 v3 0
set_option maxHeartbeats 4000000 in
theorem t_X0_make_j31 (C : MC p s m args meth c cX0_make 5 (some .int) RX0 g A) (hB : Lk L) {S : St} {r : Int32} {S9 : St} {v1 : Int32} {v2 : Int32} {v3 : Int32} (h : f_X0_make_j31 S v1 v2 v3 = some (r, S9)) {H : Heap} {locs : List Loc} {ls : Array Slot} (hW : GW g A ad L S H) (hS : va_S A s.heap H locs) (hl : lv_has ls 5 [(0, .ref (ad 3)), (1, .int v1), (2, .int v2), (3, .int v3)]) : W p l e (rmk 3) s m args below meth c H locs 0 0 (MQ below (qi g A ad L r S9) args s 0 0 A) (F0 m 31 ls []) := by
  obtain ⟨hx, hb, hml, hown, hts, hr, hlocks, hK, hN, hT⟩ := id C
  unfold f_X0_make_j31 at h
  refine lv_iconst (v := 0) hx hb dX0_make_31 (by decide) ?_
  exact t_X0_make_j32 C hB h hW hS (lv_sub hl [0, 1, 2, 3] rfl)
def f_X0_make (S : St) (p1 : Int32) (p2 : Int32) (p3 : Int32) : Option (Int32 × St) := cl0 (f_X10_within S p1 1 1000000) fun r_2 => if r_2 = 0 then (f_X0_make_j31 S p1 p2 p3) else (cl0 (f_X7_isHand S p2) fun r_19 => if r_19 = 0 then (f_X0_make_j31 S p1 p2 p3) else (cl0 (f_X10_within S p3 0 100000) fun r_23 => if r_23 = 0 then (f_X0_make_j31 S p1 p2 p3) else (f_X0_make_j32 S p1 p2 p3 1)))
set_option maxHeartbeats 4000000 in
theorem t_X0_make (C : MC p s m args meth c cX0_make 5 (some .int) RX0 g A) (hB : Lk L) {S : St} {r : Int32} {S9 : St} {p1 : Int32} {p2 : Int32} {p3 : Int32} (h : f_X0_make S p1 p2 p3 = some (r, S9)) {H : Heap} {locs : List Loc} {ls : Array Slot} (hW : GW g A ad L S H) (hS : va_S A s.heap H locs) (hl : lv_has ls 5 [(0, .ref (ad 3)), (1, .int p1), (2, .int p2), (3, .int p3)]) : W p l e (rmk 3) s m args below meth c H locs 0 0 (MQ below (qi g A ad L r S9) args s 0 0 A) (F0 m 0 ls []) := by
  obtain ⟨hx, hb, hml, hown, hts, hr, hlocks, hK, hN, hT⟩ := id C
  unfold f_X0_make at h
  refine lv_iload_n hx hb dX0_make_0 rfl (lv_at hl 1 rfl) ?_
  refine lv_iconst (v := 1) hx hb dX0_make_1 (by decide) ?_
  refine lv_ldc (v := 1000000) hx hb hown (hts _ mw_884) dX0_make_2 ?_
  obtain ⟨r_2, hc_1, h⟩ := cl0_ex h
  refine g_cz (g_runSN (As := [.int p1, .int 1, .int 1000000]) (rest := []) hx hb hml hown hts hK hN hT hS hW (c_X10_within hB hc_1) mw_294 (by decide +kernel) mw_66 mw_293 hs_X10_within rfl rfl rfl (rm_ok (by decide) (by decide)) hl.1 (Nat.le_of_ble_eq_true rfl) dX0_make_4 rfl ⟨Nat.zero_le _, Nat.zero_le _⟩) hS (fun hz_3 H locs hW hS => ?_)
  refine lv_if_eq (tgt := 31) hx hb dX0_make_7 (by decide) (fun c_4 => ?_) (fun c_4 => ?_)
  · have h := it_t c_4 h
    exact t_X0_make_j31 C hB h hW hS (lv_sub hl [0, 1, 2, 3] rfl)
  · have h := it_f c_4 h
    refine lv_iload_n hx hb dX0_make_10 rfl (lv_at hl 2 rfl) ?_
    obtain ⟨r_19, hc_18, h⟩ := cl0_ex h
    refine g_cz (g_runS (As := [.int p2]) (rest := []) hx hb hml hown hts hK hN hT hS hW (c_X7_isHand hB hc_18) (gw_S mw_886 mw_887 mw_70 mw_888) hs_X7_isHand rfl rfl rfl (rm_ok (by decide) (by decide)) hl.1 (Nat.le_of_ble_eq_true rfl) dX0_make_11 rfl ⟨Nat.zero_le _, Nat.zero_le _⟩) hS (fun hz_20 H locs hW hS => ?_)
    refine lv_if_eq (tgt := 31) hx hb dX0_make_14 (by decide) (fun c_21 => ?_) (fun c_21 => ?_)
    · have h := it_t c_21 h
      exact t_X0_make_j31 C hB h hW hS (lv_sub hl [0, 1, 2, 3] rfl)
    · have h := it_f c_21 h
      refine lv_iload_n hx hb dX0_make_17 rfl (lv_at hl 3 rfl) ?_
      refine lv_iconst (v := 0) hx hb dX0_make_18 (by decide) ?_
      refine lv_ldc (v := 100000) hx hb hown (hts _ mw_890) dX0_make_19 ?_
      obtain ⟨r_23, hc_22, h⟩ := cl0_ex h
      refine g_cz (g_runSN (As := [.int p3, .int 0, .int 100000]) (rest := []) hx hb hml hown hts hK hN hT hS hW (c_X10_within hB hc_22) mw_294 (by decide +kernel) mw_66 mw_293 hs_X10_within rfl rfl rfl (rm_ok (by decide) (by decide)) hl.1 (Nat.le_of_ble_eq_true rfl) dX0_make_21 rfl ⟨Nat.zero_le _, Nat.zero_le _⟩) hS (fun hz_24 H locs hW hS => ?_)
      refine lv_if_eq (tgt := 31) hx hb dX0_make_24 (by decide) (fun c_25 => ?_) (fun c_25 => ?_)
      · have h := it_t c_25 h
        exact t_X0_make_j31 C hB h hW hS (lv_sub hl [0, 1, 2, 3] rfl)
      · have h := it_f c_25 h
        refine lv_iconst (v := 1) hx hb dX0_make_27 (by decide) ?_
        refine lv_goto (tgt := 32) hx hb dX0_make_28 (by decide) ?_
        exact t_X0_make_j32 C hB h hW hS (lv_sub hl [0, 1, 2, 3] rfl)
theorem c_X0_make (hB : Lk L) {S : St} {r : Int32} {S9 : St} {p1 : Int32} {p2 : Int32} {p3 : Int32} (h : f_X0_make S p1 p2 p3 = some (r, S9)) : Met l yX0_make (gws yX0_make cX0_make 5 (some .int)) (rmk 3) (va_Pc [.ref (ad 3), .int p1, .int p2, .int p3] (WU g A ad L S)) (qi g A ad L r S9) 0 0 A :=
  g_met [.ref (ad 3), .int p1, .int p2, .int p3] (by decide) (Nat.le_of_ble_eq_true rfl) (fun p e s m below meth c ls C hW hl _ => t_X0_make C hB h hW va_S.rf hl)
theorem hv_X0_make : yX0_make.cls = RX0 ∧ yX0_make.cls ≠ "java/lang/invoke/MethodHandle" ∧ yX0_make.cls ≠ "java/lang/invoke/VarHandle" ∧ (parseMethodDescriptor yX0_make.desc).map (fun d => d.parameters.length) = some 3 := by decide +kernel
/-! DroveRoads$Bills.holderKnown -/
def f_X0_holderKnown (N : Nat) (S : St) (p1 : Int32) (p2 : Int32) (p3 : Int32) : Option (Int32) := cl0 (f_X0_has S p1) fun r_2 => if r_2 = 0 then (some (-1)) else (if p1 < 0 ∨ 20 ≤ ix p1 then none else cl0 (f_X7_follow N S p1 (gv S 33 (ix p1)) p2 p3) fun r_7 => some r_7)
set_option maxHeartbeats 4000000 in
theorem t_X0_holderKnown (C : MC p s m args meth c cX0_holderKnown 4 (some .int) RX0 g A) (hB : Lk L) {S : St} {r : Int32} {p1 : Int32} {p2 : Int32} {p3 : Int32} (h : f_X0_holderKnown N S p1 p2 p3 = some r) {H : Heap} {locs : List Loc} {ls : Array Slot} (hW : GW g A ad L S H) (hS : va_S A s.heap H locs) (hl : lv_has ls 4 [(0, .ref (ad 3)), (1, .int p1), (2, .int p2), (3, .int p3)]) : W p l e (rmk 3) s m args below meth c H locs 0 0 (MQ below (qi g A ad L r S) args s 0 0 A) (F0 m 0 ls []) := by
  obtain ⟨hx, hb, hml, hown, hts, hr, hlocks, hK, hN, hT⟩ := id C
  unfold f_X0_holderKnown at h
  refine lv_aload_n hx hb dX0_holderKnown_0 rfl (lv_at hl 0 rfl) ?_
  refine lv_iload_n hx hb dX0_holderKnown_1 rfl (lv_at hl 1 rfl) ?_
  obtain ⟨r_2, hc_1, h⟩ := cl0_ex h
  refine g_cz (g_runV (ci := 0) (o := 3) (As := [.int p1]) (rest := []) hx hb hml hown hts hK hN hT hS hW (c_X0_has hB hc_1) (hB 3 bb_3) kd_3 rfl (gw_V mw_924 mw_896 mw_897 mw_69 mw_898) hv_X0_has rfl rfl rfl (rm_ok (by decide) (by decide)) hl.1 (Nat.le_of_ble_eq_true rfl) dX0_holderKnown_2 rfl ⟨Nat.zero_le _, Nat.zero_le _⟩) hS (fun hz_3 H locs hW hS => ?_)
  refine lv_if_eq (tgt := 27) hx hb dX0_holderKnown_5 (by decide) (fun c_4 => ?_) (fun c_4 => ?_)
  · have h := it_t c_4 h
    refine lv_iconst (v := (-1)) hx hb dX0_holderKnown_27 (by decide) ?_
    cases h
    exact g_iret hx hb hr hlocks hW hS dX0_holderKnown_28
  · have h := it_f c_4 h
    refine lv_aload_n hx hb dX0_holderKnown_8 rfl (lv_at hl 0 rfl) ?_
    refine g_get (C := RX0) (T := TX0) (N := 7) (ci := 0) hx hb hts inX0 hown hK hW (hB 3 bb_3) kd_3 rfl 1 (by decide) mw_179 rfl rfl dX0_holderKnown_9 ?_
    refine lv_iload_n hx hb dX0_holderKnown_12 rfl (lv_at hl 1 rfl) ?_
    refine lv_aload_n hx hb dX0_holderKnown_13 rfl (lv_at hl 0 rfl) ?_
    refine g_get (C := RX0) (T := TX0) (N := 7) (ci := 0) hx hb hts inX0 hown hK hW (hB 3 bb_3) kd_3 rfl 3 (by decide) mw_182 rfl rfl dX0_holderKnown_14 ?_
    refine lv_iload_n hx hb dX0_holderKnown_17 rfl (lv_at hl 1 rfl) ?_
    obtain ⟨hi_5, h⟩ := ck_n h
    refine g_iald hx hb hK hW (hB 33 bb_33) kd_33 hi_5 dX0_holderKnown_18 ?_
    refine lv_iload_n hx hb dX0_holderKnown_19 rfl (lv_at hl 2 rfl) ?_
    refine lv_iload_n hx hb dX0_holderKnown_20 rfl (lv_at hl 3 rfl) ?_
    obtain ⟨r_7, hc_6, h⟩ := cl0_ex h
    refine g_ci (g_runV (ci := 7) (o := 4) (As := [.int p1, .int (gv S 33 (ix p1)), .int p2, .int p3]) (rest := []) hx hb hml hown hts hK hN hT hS hW (c_X7_follow hB hc_6) (hB 4 bb_4) kd_4 rfl (gw_V mw_925 mw_926 mw_927 mw_70 mw_928) hv_X7_follow rfl rfl rfl (rm_ok (by decide) (by decide)) hl.1 (Nat.le_of_ble_eq_true rfl) dX0_holderKnown_21 rfl ⟨Nat.zero_le _, Nat.zero_le _⟩) hS (fun H locs hW hS => ?_)
    refine lv_goto (tgt := 28) hx hb dX0_holderKnown_24 (by decide) ?_
    cases h
    exact g_iret hx hb hr hlocks hW hS dX0_holderKnown_28
theorem c_X0_holderKnown (hB : Lk L) {S : St} {r : Int32} {p1 : Int32} {p2 : Int32} {p3 : Int32} (h : f_X0_holderKnown N S p1 p2 p3 = some r) : Met l yX0_holderKnown (gws yX0_holderKnown cX0_holderKnown 4 (some .int)) (rmk 3) (va_Pc [.ref (ad 3), .int p1, .int p2, .int p3] (WU g A ad L S)) (qi g A ad L r S) 0 0 A :=
  g_met [.ref (ad 3), .int p1, .int p2, .int p3] (by decide) (Nat.le_of_ble_eq_true rfl) (fun p e s m below meth c ls C hW hl _ => t_X0_holderKnown C hB h hW va_S.rf hl)
theorem hv_X0_holderKnown : yX0_holderKnown.cls = RX0 ∧ yX0_holderKnown.cls ≠ "java/lang/invoke/MethodHandle" ∧ yX0_holderKnown.cls ≠ "java/lang/invoke/VarHandle" ∧ (parseMethodDescriptor yX0_holderKnown.desc).map (fun d => d.parameters.length) = some 3 := by decide +kernel
/-! DroveRoads$Bills.settle -/
def f_X0_settle (N : Nat) (S : St) (p1 : Int32) (p2 : Int32) : Option (Int32 × St) := cl0 (f_X0_has S p1) fun r_2 => if r_2 = 0 then (some ((-1), S)) else (if p1 < 0 ∨ 20 ≤ ix p1 then none else if p2 < (gv S 34 (ix p1)) then (some ((-1), S)) else (if p1 < 0 ∨ 20 ≤ ix p1 then none else if (gv S 35 (ix p1)) = (-1) then (if p1 < 0 ∨ 20 ≤ ix p1 then none else bn (sv S 35 (ix p1) p2) fun S_10 => cl0 (f_X0_holderKnown N S_10 p1 p2 p2) fun r_12 => if p1 < 0 ∨ 20 ≤ ix p1 then none else bn (sv S_10 36 (ix p1) r_12) fun S_14 => if p1 < 0 ∨ 20 ≤ ix p1 then none else some ((gv S_14 36 (ix p1)), S_14)) else (some ((-1), S))))
set_option maxHeartbeats 4000000 in
theorem t_X0_settle (C : MC p s m args meth c cX0_settle 3 (some .int) RX0 g A) (hB : Lk L) {S : St} {r : Int32} {S9 : St} {p1 : Int32} {p2 : Int32} (h : f_X0_settle N S p1 p2 = some (r, S9)) {H : Heap} {locs : List Loc} {ls : Array Slot} (hW : GW g A ad L S H) (hS : va_S A s.heap H locs) (hl : lv_has ls 3 [(0, .ref (ad 3)), (1, .int p1), (2, .int p2)]) : W p l e (rmk 4) s m args below meth c H locs 0 0 (MQ below (qi g A ad L r S9) args s 0 0 A) (F0 m 0 ls []) := by
  obtain ⟨hx, hb, hml, hown, hts, hr, hlocks, hK, hN, hT⟩ := id C
  unfold f_X0_settle at h
  refine lv_aload_n hx hb dX0_settle_0 rfl (lv_at hl 0 rfl) ?_
  refine lv_iload_n hx hb dX0_settle_1 rfl (lv_at hl 1 rfl) ?_
  obtain ⟨r_2, hc_1, h⟩ := cl0_ex h
  refine g_cz (g_runV (ci := 0) (o := 3) (As := [.int p1]) (rest := []) hx hb hml hown hts hK hN hT hS hW (c_X0_has hB hc_1) (hB 3 bb_3) kd_3 rfl (gw_V mw_924 mw_896 mw_897 mw_69 mw_898) hv_X0_has rfl rfl rfl (rm_ok (by decide) (by decide)) hl.1 (Nat.le_of_ble_eq_true rfl) dX0_settle_2 rfl ⟨Nat.zero_le _, Nat.zero_le _⟩) hS (fun hz_3 H locs hW hS => ?_)
  refine lv_if_eq (tgt := 28) hx hb dX0_settle_5 (by decide) (fun c_4 => ?_) (fun c_4 => ?_)
  · have h := it_t c_4 h
    refine lv_iconst (v := (-1)) hx hb dX0_settle_28 (by decide) ?_
    cases h
    exact g_iret hx hb hr hlocks hW hS dX0_settle_29
  · have h := it_f c_4 h
    refine lv_aload_n hx hb dX0_settle_8 rfl (lv_at hl 0 rfl) ?_
    refine g_get (C := RX0) (T := TX0) (N := 7) (ci := 0) hx hb hts inX0 hown hK hW (hB 3 bb_3) kd_3 rfl 4 (by decide) mw_183 rfl rfl dX0_settle_9 ?_
    refine lv_iload_n hx hb dX0_settle_12 rfl (lv_at hl 1 rfl) ?_
    obtain ⟨hi_5, h⟩ := ck_n h
    refine g_iald hx hb hK hW (hB 34 bb_34) kd_34 hi_5 dX0_settle_13 ?_
    refine lv_iload_n hx hb dX0_settle_14 rfl (lv_at hl 2 rfl) ?_
    refine lv_icmp_gt (tgt := 28) hx hb dX0_settle_15 (by decide) (fun c_6 => ?_) (fun c_6 => ?_)
    · have h := it_t c_6 h
      refine lv_iconst (v := (-1)) hx hb dX0_settle_28 (by decide) ?_
      cases h
      exact g_iret hx hb hr hlocks hW hS dX0_settle_29
    · have h := it_f c_6 h
      refine lv_aload_n hx hb dX0_settle_18 rfl (lv_at hl 0 rfl) ?_
      refine g_get (C := RX0) (T := TX0) (N := 7) (ci := 0) hx hb hts inX0 hown hK hW (hB 3 bb_3) kd_3 rfl 5 (by decide) mw_184 rfl rfl dX0_settle_19 ?_
      refine lv_iload_n hx hb dX0_settle_22 rfl (lv_at hl 1 rfl) ?_
      obtain ⟨hi_7, h⟩ := ck_n h
      refine g_iald hx hb hK hW (hB 35 bb_35) kd_35 hi_7 dX0_settle_23 ?_
      refine lv_iconst (v := (-1)) hx hb dX0_settle_24 (by decide) ?_
      refine lv_icmp_eq (tgt := 30) hx hb dX0_settle_25 (by decide) (fun c_8 => ?_) (fun c_8 => ?_)
      · have h := it_t c_8 h
        refine lv_aload_n hx hb dX0_settle_30 rfl (lv_at hl 0 rfl) ?_
        refine g_get (C := RX0) (T := TX0) (N := 7) (ci := 0) hx hb hts inX0 hown hK hW (hB 3 bb_3) kd_3 rfl 5 (by decide) mw_184 rfl rfl dX0_settle_31 ?_
        refine lv_iload_n hx hb dX0_settle_34 rfl (lv_at hl 1 rfl) ?_
        refine lv_iload_n hx hb dX0_settle_35 rfl (lv_at hl 2 rfl) ?_
        obtain ⟨hi_9, h⟩ := ck_n h
        refine g_iast hx hb hK hW hS (hB 35 bb_35) (fun _ => kd_35) hi_9 dX0_settle_36 (fun S_10 eS_10 H locs hW hS => ?_)
        have h := bn_at eS_10 h
        refine lv_aload_n hx hb dX0_settle_37 rfl (lv_at hl 0 rfl) ?_
        refine g_get (C := RX0) (T := TX0) (N := 7) (ci := 0) hx hb hts inX0 hown hK hW (hB 3 bb_3) kd_3 rfl 6 (by decide) mw_185 rfl rfl dX0_settle_38 ?_
        refine lv_iload_n hx hb dX0_settle_41 rfl (lv_at hl 1 rfl) ?_
        refine lv_aload_n hx hb dX0_settle_42 rfl (lv_at hl 0 rfl) ?_
        refine lv_iload_n hx hb dX0_settle_43 rfl (lv_at hl 1 rfl) ?_
        refine lv_iload_n hx hb dX0_settle_44 rfl (lv_at hl 2 rfl) ?_
        refine lv_iload_n hx hb dX0_settle_45 rfl (lv_at hl 2 rfl) ?_
        obtain ⟨r_12, hc_11, h⟩ := cl0_ex h
        refine g_ci (g_runV (ci := 0) (o := 3) (As := [.int p1, .int p2, .int p2]) (rest := [.int p1, .ref (ad 36)]) hx hb hml hown hts hK hN hT hS hW (c_X0_holderKnown hB hc_11) (hB 3 bb_3) kd_3 rfl (gw_V mw_941 mw_921 mw_922 mw_69 mw_923) hv_X0_holderKnown rfl rfl rfl (rm_ok (by decide) (by decide)) hl.1 (Nat.le_of_ble_eq_true rfl) dX0_settle_46 rfl ⟨Nat.zero_le _, Nat.zero_le _⟩) hS (fun H locs hW hS => ?_)
        obtain ⟨hi_13, h⟩ := ck_n h
        refine g_iast hx hb hK hW hS (hB 36 bb_36) (fun _ => kd_36) hi_13 dX0_settle_49 (fun S_14 eS_14 H locs hW hS => ?_)
        have h := bn_at eS_14 h
        refine lv_aload_n hx hb dX0_settle_50 rfl (lv_at hl 0 rfl) ?_
        refine g_get (C := RX0) (T := TX0) (N := 7) (ci := 0) hx hb hts inX0 hown hK hW (hB 3 bb_3) kd_3 rfl 6 (by decide) mw_185 rfl rfl dX0_settle_51 ?_
        refine lv_iload_n hx hb dX0_settle_54 rfl (lv_at hl 1 rfl) ?_
        obtain ⟨hi_15, h⟩ := ck_n h
        refine g_iald hx hb hK hW (hB 36 bb_36) kd_36 hi_15 dX0_settle_55 ?_
        cases h
        exact g_iret hx hb hr hlocks hW hS dX0_settle_56
      · have h := it_f c_8 h
        refine lv_iconst (v := (-1)) hx hb dX0_settle_28 (by decide) ?_
        cases h
        exact g_iret hx hb hr hlocks hW hS dX0_settle_29
theorem c_X0_settle (hB : Lk L) {S : St} {r : Int32} {S9 : St} {p1 : Int32} {p2 : Int32} (h : f_X0_settle N S p1 p2 = some (r, S9)) : Met l yX0_settle (gws yX0_settle cX0_settle 3 (some .int)) (rmk 4) (va_Pc [.ref (ad 3), .int p1, .int p2] (WU g A ad L S)) (qi g A ad L r S9) 0 0 A :=
  g_met [.ref (ad 3), .int p1, .int p2] (by decide) (Nat.le_of_ble_eq_true rfl) (fun p e s m below meth c ls C hW hl _ => t_X0_settle C hB h hW va_S.rf hl)
theorem hv_X0_settle : yX0_settle.cls = RX0 ∧ yX0_settle.cls ≠ "java/lang/invoke/MethodHandle" ∧ yX0_settle.cls ≠ "java/lang/invoke/VarHandle" ∧ (parseMethodDescriptor yX0_settle.desc).map (fun d => d.parameters.length) = some 2 := by decide +kernel
/-! DroveRoads$Bills.tell -/
def f_X0_tell (S : St) (p1 : Int32) (p2 : Int32) : Option (Int32) := cl0 (f_X0_has S p1) fun r_2 => if r_2 = 0 then (some (-1)) else (if p2 = 0 then (if p1 < 0 ∨ 20 ≤ ix p1 then none else some (gv S 32 (ix p1))) else if p2 = 1 then (if p1 < 0 ∨ 20 ≤ ix p1 then none else some (gv S 35 (ix p1))) else if p2 = 2 then (if p1 < 0 ∨ 20 ≤ ix p1 then none else some (gv S 36 (ix p1))) else (some (-1)))
set_option maxHeartbeats 4000000 in
theorem t_X0_tell (C : MC p s m args meth c cX0_tell 3 (some .int) RX0 g A) (hB : Lk L) {S : St} {r : Int32} {p1 : Int32} {p2 : Int32} (h : f_X0_tell S p1 p2 = some r) {H : Heap} {locs : List Loc} {ls : Array Slot} (hW : GW g A ad L S H) (hS : va_S A s.heap H locs) (hl : lv_has ls 3 [(0, .ref (ad 3)), (1, .int p1), (2, .int p2)]) : W p l e (rmk 2) s m args below meth c H locs 0 0 (MQ below (qi g A ad L r S) args s 0 0 A) (F0 m 0 ls []) := by
  obtain ⟨hx, hb, hml, hown, hts, hr, hlocks, hK, hN, hT⟩ := id C
  unfold f_X0_tell at h
  refine lv_aload_n hx hb dX0_tell_0 rfl (lv_at hl 0 rfl) ?_
  refine lv_iload_n hx hb dX0_tell_1 rfl (lv_at hl 1 rfl) ?_
  obtain ⟨r_2, hc_1, h⟩ := cl0_ex h
  refine g_cz (g_runV (ci := 0) (o := 3) (As := [.int p1]) (rest := []) hx hb hml hown hts hK hN hT hS hW (c_X0_has hB hc_1) (hB 3 bb_3) kd_3 rfl (gw_V mw_924 mw_896 mw_897 mw_69 mw_898) hv_X0_has rfl rfl rfl (rm_ok (by decide) (by decide)) hl.1 (Nat.le_of_ble_eq_true rfl) dX0_tell_2 rfl ⟨Nat.zero_le _, Nat.zero_le _⟩) hS (fun hz_3 H locs hW hS => ?_)
  refine lv_if_ne (tgt := 10) hx hb dX0_tell_5 (by decide) (fun c_4 => ?_) (fun c_4 => ?_)
  · have h := it_f c_4 h
    refine lv_iload_n hx hb dX0_tell_10 rfl (lv_at hl 2 rfl) ?_
    by_cases c_5 : p2 = 0
    · have h := it_t c_5 h
      refine lv_tableIn (tgt := 36) hx hb dX0_tell_11 (by rw [c_5]; decide) (by rw [c_5]; decide) (by rw [c_5]; rfl) (by decide) ?_
      refine lv_aload_n hx hb dX0_tell_36 rfl (lv_at hl 0 rfl) ?_
      refine g_get (C := RX0) (T := TX0) (N := 7) (ci := 0) hx hb hts inX0 hown hK hW (hB 3 bb_3) kd_3 rfl 2 (by decide) mw_181 rfl rfl dX0_tell_37 ?_
      refine lv_iload_n hx hb dX0_tell_40 rfl (lv_at hl 1 rfl) ?_
      obtain ⟨hi_6, h⟩ := ck_n h
      refine g_iald hx hb hK hW (hB 32 bb_32) kd_32 hi_6 dX0_tell_41 ?_
      cases h
      exact g_iret hx hb hr hlocks hW hS dX0_tell_42
    have h := it_f c_5 h
    by_cases c_7 : p2 = 1
    · have h := it_t c_7 h
      refine lv_tableIn (tgt := 43) hx hb dX0_tell_11 (by rw [c_7]; decide) (by rw [c_7]; decide) (by rw [c_7]; rfl) (by decide) ?_
      refine lv_aload_n hx hb dX0_tell_43 rfl (lv_at hl 0 rfl) ?_
      refine g_get (C := RX0) (T := TX0) (N := 7) (ci := 0) hx hb hts inX0 hown hK hW (hB 3 bb_3) kd_3 rfl 5 (by decide) mw_184 rfl rfl dX0_tell_44 ?_
      refine lv_iload_n hx hb dX0_tell_47 rfl (lv_at hl 1 rfl) ?_
      obtain ⟨hi_8, h⟩ := ck_n h
      refine g_iald hx hb hK hW (hB 35 bb_35) kd_35 hi_8 dX0_tell_48 ?_
      cases h
      exact g_iret hx hb hr hlocks hW hS dX0_tell_49
    have h := it_f c_7 h
    by_cases c_9 : p2 = 2
    · have h := it_t c_9 h
      refine lv_tableIn (tgt := 50) hx hb dX0_tell_11 (by rw [c_9]; decide) (by rw [c_9]; decide) (by rw [c_9]; rfl) (by decide) ?_
      refine lv_aload_n hx hb dX0_tell_50 rfl (lv_at hl 0 rfl) ?_
      refine g_get (C := RX0) (T := TX0) (N := 7) (ci := 0) hx hb hts inX0 hown hK hW (hB 3 bb_3) kd_3 rfl 6 (by decide) mw_185 rfl rfl dX0_tell_51 ?_
      refine lv_iload_n hx hb dX0_tell_54 rfl (lv_at hl 1 rfl) ?_
      obtain ⟨hi_10, h⟩ := ck_n h
      refine g_iald hx hb hK hW (hB 36 bb_36) kd_36 hi_10 dX0_tell_55 ?_
      cases h
      exact g_iret hx hb hr hlocks hW hS dX0_tell_56
    have h := it_f c_9 h
    have nc_5 := lv_neT c_5 (a := 0) rfl
    have nc_7 := lv_neT c_7 (a := 1) rfl
    have nc_9 := lv_neT c_9 (a := 2) rfl
    refine lv_tableOut (tgt := 57) hx hb dX0_tell_11 (by omega) (by decide) ?_
    refine lv_iconst (v := (-1)) hx hb dX0_tell_57 (by decide) ?_
    cases h
    exact g_iret hx hb hr hlocks hW hS dX0_tell_58
  · have h := it_t c_4 h
    refine lv_iconst (v := (-1)) hx hb dX0_tell_8 (by decide) ?_
    cases h
    exact g_iret hx hb hr hlocks hW hS dX0_tell_9
theorem c_X0_tell (hB : Lk L) {S : St} {r : Int32} {p1 : Int32} {p2 : Int32} (h : f_X0_tell S p1 p2 = some r) : Met l yX0_tell (gws yX0_tell cX0_tell 3 (some .int)) (rmk 2) (va_Pc [.ref (ad 3), .int p1, .int p2] (WU g A ad L S)) (qi g A ad L r S) 0 0 A :=
  g_met [.ref (ad 3), .int p1, .int p2] (by decide) (Nat.le_of_ble_eq_true rfl) (fun p e s m below meth c ls C hW hl _ => t_X0_tell C hB h hW va_S.rf hl)
theorem hv_X0_tell : yX0_tell.cls = RX0 ∧ yX0_tell.cls ≠ "java/lang/invoke/MethodHandle" ∧ yX0_tell.cls ≠ "java/lang/invoke/VarHandle" ∧ (parseMethodDescriptor yX0_tell.desc).map (fun d => d.parameters.length) = some 2 := by decide +kernel
end S12
