section S14
variable {p : Program} {l : Launch} {e : Env} {s : State} {m : MethodId} {args : Array Value} {below : List Frame} {meth : Method} {c : Code} {A : Nat → Prop} {g : Cx} {ad : Nat → Nat} {L : List Nat} {N : Nat} {q0 : Nat}
/-! DroveRoads$LoneWay.mayWalk -/
def f_X4_mayWalk (S : St) (p1 : Int32) (p2 : Int32) : Option (Int32) := cl0 (f_X9_milesOfStage S p1) fun r_2 => if 60 < (p2 + r_2) then (some 0) else (some 1)
set_option maxHeartbeats 4000000 in
theorem t_X4_mayWalk (C : MC p s m args meth c cX4_mayWalk 3 (some .boolean) RX4 g A) (hB : Lk L) (h112 : 112 ∈ L) {S : St} {r : Int32} {p1 : Int32} {p2 : Int32} (h : f_X4_mayWalk S p1 p2 = some r) {H : Heap} {locs : List Loc} {ls : Array Slot} (hW : GW g A ad L S H) (hS : va_S A s.heap H locs) (hl : lv_has ls 3 [(0, .ref (ad 112)), (1, .int p1), (2, .int p2)]) : W p l e (rmk 3) s m args below meth c H locs 0 0 (MQ below (qz g A ad L r S) args s 0 0 A) (F0 m 0 ls []) := by
  obtain ⟨hx, hb, hml, hown, hts, hr, hlocks, hK, hN, hT⟩ := id C
  unfold f_X4_mayWalk at h
  refine lv_iload_n hx hb dX4_mayWalk_0 rfl (lv_at hl 2 rfl) ?_
  refine lv_aload_n hx hb dX4_mayWalk_1 rfl (lv_at hl 0 rfl) ?_
  refine g_get (C := RX4) (T := TX4) (N := 4) (ci := 4) hx hb hts inX4 hown hK hW h112 kd_112 rfl 1 (by decide) mw_833 rfl rfl dX4_mayWalk_2 ?_
  refine lv_iload_n hx hb dX4_mayWalk_5 rfl (lv_at hl 1 rfl) ?_
  obtain ⟨r_2, hc_1, h⟩ := cl0_ex h
  refine g_ci (g_runV (ci := 9) (o := 1) (As := [.int p1]) (rest := [.int p2]) hx hb hml hown hts hK hN hT hS hW (c_X9_milesOfStage hB hc_1) (hB 1 bb_1) kd_1 rfl (gw_V mw_854 mw_727 mw_728 mw_67 mw_729) hv_X9_milesOfStage rfl rfl rfl (rm_ok (by decide) (by decide)) hl.1 (Nat.le_of_ble_eq_true rfl) dX4_mayWalk_6 rfl ⟨Nat.zero_le _, Nat.zero_le _⟩) hS (fun H locs hW hS => ?_)
  refine lv_iadd hx hb dX4_mayWalk_9 ?_
  refine lv_bipush (v := 60) hx hb dX4_mayWalk_10 (by decide) ?_
  refine lv_icmp_gt (tgt := 19) hx hb dX4_mayWalk_12 (by decide) (fun c_3 => ?_) (fun c_3 => ?_)
  · have h := it_t c_3 h
    refine lv_iconst (v := 0) hx hb dX4_mayWalk_19 (by decide) ?_
    cases h
    exact g_zret hx hb hr hlocks hW hS (rfl) dX4_mayWalk_20
  · have h := it_f c_3 h
    refine lv_iconst (v := 1) hx hb dX4_mayWalk_15 (by decide) ?_
    refine lv_goto (tgt := 20) hx hb dX4_mayWalk_16 (by decide) ?_
    cases h
    exact g_zret hx hb hr hlocks hW hS (rfl) dX4_mayWalk_20
theorem c_X4_mayWalk (hB : Lk L) (h112 : 112 ∈ L) {S : St} {r : Int32} {p1 : Int32} {p2 : Int32} (h : f_X4_mayWalk S p1 p2 = some r) : Met l yX4_mayWalk (gws yX4_mayWalk cX4_mayWalk 3 (some .boolean)) (rmk 3) (va_Pc [.ref (ad 112), .int p1, .int p2] (WU g A ad L S)) (qz g A ad L r S) 0 0 A :=
  g_met [.ref (ad 112), .int p1, .int p2] (by decide) (Nat.le_of_ble_eq_true rfl) (fun p e s m below meth c ls C hW hl _ => t_X4_mayWalk C hB h112 h hW va_S.rf hl)
theorem hv_X4_mayWalk : yX4_mayWalk.cls = RX4 ∧ yX4_mayWalk.cls ≠ "java/lang/invoke/MethodHandle" ∧ yX4_mayWalk.cls ≠ "java/lang/invoke/VarHandle" ∧ (parseMethodDescriptor yX4_mayWalk.desc).map (fun d => d.parameters.length) = some 2 := by decide +kernel
/-! DroveRoads$LoneWay.rested -/
def f_X4_rested (S : St) (p1 : Int32) : Option (Int32) := bn (if 0 < (p1 - 15) then (p1 - 15) else 0) fun x_1 => some x_1
set_option maxHeartbeats 4000000 in
theorem t_X4_rested (C : MC p s m args meth c cX4_rested 1 (some .int) RX4 g A) (hB : Lk L) (h112 : 112 ∈ L) {S : St} {r : Int32} {p1 : Int32} (h : f_X4_rested S p1 = some r) {H : Heap} {locs : List Loc} {ls : Array Slot} (hW : GW g A ad L S H) (hS : va_S A s.heap H locs) (hl : lv_has ls 1 [(0, .int p1)]) : W p l e (rmk 1) s m args below meth c H locs 0 0 (MQ below (qi g A ad L r S) args s 0 0 A) (F0 m 0 ls []) := by
  obtain ⟨hx, hb, hml, hown, hts, hr, hlocks, hK, hN, hT⟩ := id C
  unfold f_X4_rested at h
  refine lv_iconst (v := 0) hx hb dX4_rested_0 (by decide) ?_
  refine lv_iload_n hx hb dX4_rested_1 rfl (lv_at hl 0 rfl) ?_
  refine lv_bipush (v := 15) hx hb dX4_rested_2 (by decide) ?_
  refine lv_isub hx hb dX4_rested_4 ?_
  refine g_max (rest := []) hx hb hml hl.1 hown hts mw_858 mw_598 mw_77 mw_cmax (by decide) (Nat.le_of_ble_eq_true rfl) (Nat.zero_le _) (Nat.zero_le _) dX4_rested_5 (fun x_1 ex_1 => ?_)
  have h := bn_at ex_1 h
  cases h
  exact g_iret hx hb hr hlocks hW hS dX4_rested_8
theorem c_X4_rested (hB : Lk L) (h112 : 112 ∈ L) {S : St} {r : Int32} {p1 : Int32} (h : f_X4_rested S p1 = some r) : Met l yX4_rested (gws yX4_rested cX4_rested 1 (some .int)) (rmk 1) (va_Pc [.int p1] (WU g A ad L S)) (qi g A ad L r S) 0 0 A :=
  g_met [.int p1] (by decide) (Nat.le_of_ble_eq_true rfl) (fun p e s m below meth c ls C hW hl _ => t_X4_rested C hB h112 h hW va_S.rf hl)
theorem hs_X4_rested : yX4_rested.cls ≠ "java/lang/invoke/MethodHandle" ∧ yX4_rested.cls ≠ "java/lang/invoke/VarHandle" ∧ (parseMethodDescriptor yX4_rested.desc).map (fun d => d.parameters.length) = some 1 := by decide +kernel
/-! DroveRoads$LoneWay.comesToFair -/
def f_X4_comesToFair_l12 (N : Nat) (S : St) (k : Int32 → Option (Int32)) : Nat → Int32 → Int32 → Int32 → Option (Int32)
  | 0, _, _, _ => none
  | n + 1, v1, v2, v3 => if (gv S 112 0) ≤ v3 then (k v1) else (cl0 (f_X9_fair S) fun r_5 => if r_5 ≤ v1 then (k v1) else (cl0 (f_X4_mayWalk S v1 v2) fun r_8 => if r_8 = 0 then (cl0 (f_X4_rested S v2) fun r_12 => bn (v3 + 1) fun x_13 => f_X4_comesToFair_l12 N S k n v1 r_12 x_13) else (cl0 (f_X9_milesOfStage S v1) fun r_15 => bn (v2 + r_15) fun x_16 => bn (v1 + 1) fun x_17 => bn (v3 + 1) fun x_18 => f_X4_comesToFair_l12 N S k n x_17 x_16 x_18)))
set_option maxHeartbeats 4000000 in
theorem t_X4_comesToFair_l12 (C : MC p s m args meth c cX4_comesToFair 4 (some .boolean) RX4 g A) (hB : Lk L) (h112 : 112 ∈ L) {S : St} {r : Int32} {k : Int32 → Option (Int32)} (hk : ∀ (w1 : Int32), k w1 = some r → ∀ (H : Heap) (locs : List Loc) (ls : Array Slot), GW g A ad L S H → va_S A s.heap H locs → lv_has ls 4 [(0, .ref (ad 112)), (1, .int w1)] → W p l e (rmk 4) s m args below meth c H locs 0 0 (MQ below (qz g A ad L r S) args s 0 0 A) (F0 m 68 ls [])) : ∀ (n : Nat) (v1 : Int32) (v2 : Int32) (v3 : Int32), f_X4_comesToFair_l12 N S k n v1 v2 v3 = some r → ∀ (H : Heap) (locs : List Loc) (ls : Array Slot), GW g A ad L S H → va_S A s.heap H locs → lv_has ls 4 [(0, .ref (ad 112)), (1, .int v1), (2, .int v2), (3, .int v3)] → W p l e (rmk 4) s m args below meth c H locs 0 0 (MQ below (qz g A ad L r S) args s 0 0 A) (F0 m 12 ls []) := by
  obtain ⟨hx, hb, hml, hown, hts, hr, hlocks, hK, hN, hT⟩ := id C
  intro n
  induction n with
  | zero =>
    intro v1 v2 v3 h
    have h : (none : Option (Int32)) = some r := h
    cases h
  | succ n ih =>
    intro v1 v2 v3 h H locs ls hW hS hl
    rw [f_X4_comesToFair_l12] at h
    refine lv_iload_n hx hb dX4_comesToFair_12 rfl (lv_at hl 3 rfl) ?_
    refine lv_aload_n hx hb dX4_comesToFair_13 rfl (lv_at hl 0 rfl) ?_
    refine g_get (C := RX4) (T := TX4) (N := 4) (ci := 4) hx hb hts inX4 hown hK hW h112 kd_112 rfl 0 (by decide) mw_831 rfl rfl dX4_comesToFair_14 ?_
    refine lv_icmp_ge (tgt := 68) hx hb dX4_comesToFair_17 (by decide) (fun c_3 => ?_) (fun c_3 => ?_)
    · have h := it_t c_3 h
      exact hk _ h _ _ _ hW hS (lv_sub hl [0, 1] rfl)
    · have h := it_f c_3 h
      refine lv_iload_n hx hb dX4_comesToFair_20 rfl (lv_at hl 1 rfl) ?_
      refine lv_aload_n hx hb dX4_comesToFair_21 rfl (lv_at hl 0 rfl) ?_
      refine g_get (C := RX4) (T := TX4) (N := 4) (ci := 4) hx hb hts inX4 hown hK hW h112 kd_112 rfl 1 (by decide) mw_833 rfl rfl dX4_comesToFair_22 ?_
      obtain ⟨r_5, hc_4, h⟩ := cl0_ex h
      refine g_ci (g_runV (ci := 9) (o := 1) (As := []) (rest := [.int v1]) hx hb hml hown hts hK hN hT hS hW (c_X9_fair hB hc_4) (hB 1 bb_1) kd_1 rfl (gw_V mw_849 mw_304 mw_305 mw_67 mw_306) hv_X9_fair rfl rfl rfl (rm_ok (by decide) (by decide)) hl.1 (Nat.le_of_ble_eq_true rfl) dX4_comesToFair_25 rfl ⟨Nat.zero_le _, Nat.zero_le _⟩) hS (fun H locs hW hS => ?_)
      refine lv_icmp_ge (tgt := 68) hx hb dX4_comesToFair_28 (by decide) (fun c_6 => ?_) (fun c_6 => ?_)
      · have h := it_t c_6 h
        exact hk _ h _ _ _ hW hS (lv_sub hl [0, 1] rfl)
      · have h := it_f c_6 h
        refine lv_aload_n hx hb dX4_comesToFair_31 rfl (lv_at hl 0 rfl) ?_
        refine lv_iload_n hx hb dX4_comesToFair_32 rfl (lv_at hl 1 rfl) ?_
        refine lv_iload_n hx hb dX4_comesToFair_33 rfl (lv_at hl 2 rfl) ?_
        obtain ⟨r_8, hc_7, h⟩ := cl0_ex h
        refine g_cz (g_runV (ci := 4) (o := 112) (As := [.int v1, .int v2]) (rest := []) hx hb hml hown hts hK hN hT hS hW (c_X4_mayWalk hB h112 hc_7) h112 kd_112 rfl (gw_V mw_850 mw_852 mw_32 mw_83 mw_853) hv_X4_mayWalk rfl rfl rfl (rm_ok (by decide) (by decide)) hl.1 (Nat.le_of_ble_eq_true rfl) dX4_comesToFair_34 rfl ⟨Nat.zero_le _, Nat.zero_le _⟩) hS (fun hz_9 H locs hW hS => ?_)
        refine lv_if_eq (tgt := 57) hx hb dX4_comesToFair_37 (by decide) (fun c_10 => ?_) (fun c_10 => ?_)
        · have h := it_t c_10 h
          refine lv_iload_n hx hb dX4_comesToFair_57 rfl (lv_at hl 2 rfl) ?_
          obtain ⟨r_12, hc_11, h⟩ := cl0_ex h
          refine g_ci (g_runS (As := [.int v2]) (rest := []) hx hb hml hown hts hK hN hT hS hW (c_X4_rested hB h112 hc_11) (gw_S mw_855 mw_856 mw_83 mw_857) hs_X4_rested rfl rfl rfl (rm_ok (by decide) (by decide)) hl.1 (Nat.le_of_ble_eq_true rfl) dX4_comesToFair_58 rfl ⟨Nat.zero_le _, Nat.zero_le _⟩) hS (fun H locs hW hS => ?_)
          refine lv_istore_n (lv' := [(2, .int r_12), (0, .ref (ad 112)), (1, .int v1), (3, .int v3)]) hx hb dX4_comesToFair_61 rfl hl (by decide) rfl (fun ls hl => ?_)
          obtain ⟨x_13, ex_13⟩ : ∃ z : Int32, z = v3 + 1 := ⟨_, rfl⟩
          have h := bn_at ex_13 h
          refine lv_iinc (v := x_13) (lv' := [(3, .int x_13), (2, .int r_12), (0, .ref (ad 112)), (1, .int v1)]) hx hb dX4_comesToFair_62 hl (k := 3) rfl (by rw [ex_13]; rfl) (by decide) rfl (fun ls hl => ?_)
          refine lv_goto (tgt := 12) hx hb dX4_comesToFair_65 (by decide) ?_
          exact ih _ _ _ h _ _ _ hW hS (lv_sub hl [2, 3, 1, 0] rfl)
        · have h := it_f c_10 h
          refine lv_iload_n hx hb dX4_comesToFair_40 rfl (lv_at hl 2 rfl) ?_
          refine lv_aload_n hx hb dX4_comesToFair_41 rfl (lv_at hl 0 rfl) ?_
          refine g_get (C := RX4) (T := TX4) (N := 4) (ci := 4) hx hb hts inX4 hown hK hW h112 kd_112 rfl 1 (by decide) mw_833 rfl rfl dX4_comesToFair_42 ?_
          refine lv_iload_n hx hb dX4_comesToFair_45 rfl (lv_at hl 1 rfl) ?_
          obtain ⟨r_15, hc_14, h⟩ := cl0_ex h
          refine g_ci (g_runV (ci := 9) (o := 1) (As := [.int v1]) (rest := [.int v2]) hx hb hml hown hts hK hN hT hS hW (c_X9_milesOfStage hB hc_14) (hB 1 bb_1) kd_1 rfl (gw_V mw_854 mw_727 mw_728 mw_67 mw_729) hv_X9_milesOfStage rfl rfl rfl (rm_ok (by decide) (by decide)) hl.1 (Nat.le_of_ble_eq_true rfl) dX4_comesToFair_46 rfl ⟨Nat.zero_le _, Nat.zero_le _⟩) hS (fun H locs hW hS => ?_)
          refine lv_iadd hx hb dX4_comesToFair_49 ?_
          refine lv_topi (fun x_16 ex_16 => ?_)
          have h := bn_at ex_16 h
          refine lv_istore_n (lv' := [(2, .int x_16), (0, .ref (ad 112)), (1, .int v1), (3, .int v3)]) hx hb dX4_comesToFair_50 rfl hl (by decide) rfl (fun ls hl => ?_)
          obtain ⟨x_17, ex_17⟩ : ∃ z : Int32, z = v1 + 1 := ⟨_, rfl⟩
          have h := bn_at ex_17 h
          refine lv_iinc (v := x_17) (lv' := [(1, .int x_17), (2, .int x_16), (0, .ref (ad 112)), (3, .int v3)]) hx hb dX4_comesToFair_51 hl (k := 2) rfl (by rw [ex_17]; rfl) (by decide) rfl (fun ls hl => ?_)
          refine lv_goto (tgt := 62) hx hb dX4_comesToFair_54 (by decide) ?_
          obtain ⟨x_18, ex_18⟩ : ∃ z : Int32, z = v3 + 1 := ⟨_, rfl⟩
          have h := bn_at ex_18 h
          refine lv_iinc (v := x_18) (lv' := [(3, .int x_18), (1, .int x_17), (2, .int x_16), (0, .ref (ad 112))]) hx hb dX4_comesToFair_62 hl (k := 3) rfl (by rw [ex_18]; rfl) (by decide) rfl (fun ls hl => ?_)
          refine lv_goto (tgt := 12) hx hb dX4_comesToFair_65 (by decide) ?_
          exact ih _ _ _ h _ _ _ hW hS (lv_sub hl [3, 1, 2, 0] rfl)
def f_X4_comesToFair (N : Nat) (S : St) : Option (Int32) := bn (gv S 112 2) fun x_1 => bn (gv S 112 3) fun x_2 => f_X4_comesToFair_l12 N S (fun x_19 => cl0 (f_X9_fair S) fun r_21 => if x_19 = r_21 then (some 1) else (some 0)) N x_1 x_2 0
set_option maxHeartbeats 4000000 in
theorem t_X4_comesToFair (C : MC p s m args meth c cX4_comesToFair 4 (some .boolean) RX4 g A) (hB : Lk L) (h112 : 112 ∈ L) {S : St} {r : Int32} (h : f_X4_comesToFair N S = some r) {H : Heap} {locs : List Loc} {ls : Array Slot} (hW : GW g A ad L S H) (hS : va_S A s.heap H locs) (hl : lv_has ls 4 [(0, .ref (ad 112))]) : W p l e (rmk 4) s m args below meth c H locs 0 0 (MQ below (qz g A ad L r S) args s 0 0 A) (F0 m 0 ls []) := by
  obtain ⟨hx, hb, hml, hown, hts, hr, hlocks, hK, hN, hT⟩ := id C
  unfold f_X4_comesToFair at h
  refine lv_aload_n hx hb dX4_comesToFair_0 rfl (lv_at hl 0 rfl) ?_
  refine g_get (C := RX4) (T := TX4) (N := 4) (ci := 4) hx hb hts inX4 hown hK hW h112 kd_112 rfl 2 (by decide) mw_834 rfl rfl dX4_comesToFair_1 ?_
  refine lv_topi (fun x_1 ex_1 => ?_)
  have h := bn_at ex_1 h
  refine lv_istore_n (lv' := [(1, .int x_1), (0, .ref (ad 112))]) hx hb dX4_comesToFair_4 rfl hl (by decide) rfl (fun ls hl => ?_)
  refine lv_aload_n hx hb dX4_comesToFair_5 rfl (lv_at hl 1 rfl) ?_
  refine g_get (C := RX4) (T := TX4) (N := 4) (ci := 4) hx hb hts inX4 hown hK hW h112 kd_112 rfl 3 (by decide) mw_835 rfl rfl dX4_comesToFair_6 ?_
  refine lv_topi (fun x_2 ex_2 => ?_)
  have h := bn_at ex_2 h
  refine lv_istore_n (lv' := [(2, .int x_2), (1, .int x_1), (0, .ref (ad 112))]) hx hb dX4_comesToFair_9 rfl hl (by decide) rfl (fun ls hl => ?_)
  refine lv_iconst (v := 0) hx hb dX4_comesToFair_10 (by decide) ?_
  refine lv_istore_n (lv' := [(3, .int 0), (2, .int x_2), (1, .int x_1), (0, .ref (ad 112))]) hx hb dX4_comesToFair_11 rfl hl (by decide) rfl (fun ls hl => ?_)
  refine t_X4_comesToFair_l12 C hB h112 ?_ _ _ _ _ h _ _ _ hW hS (lv_sub hl [3, 2, 1, 0] rfl)
  intro x_19 h H locs ls hW hS hl
  refine lv_iload_n hx hb dX4_comesToFair_68 rfl (lv_at hl 1 rfl) ?_
  refine lv_aload_n hx hb dX4_comesToFair_69 rfl (lv_at hl 0 rfl) ?_
  refine g_get (C := RX4) (T := TX4) (N := 4) (ci := 4) hx hb hts inX4 hown hK hW h112 kd_112 rfl 1 (by decide) mw_833 rfl rfl dX4_comesToFair_70 ?_
  obtain ⟨r_21, hc_20, h⟩ := cl0_ex h
  refine g_ci (g_runV (ci := 9) (o := 1) (As := []) (rest := [.int x_19]) hx hb hml hown hts hK hN hT hS hW (c_X9_fair hB hc_20) (hB 1 bb_1) kd_1 rfl (gw_V mw_849 mw_304 mw_305 mw_67 mw_306) hv_X9_fair rfl rfl rfl (rm_ok (by decide) (by decide)) hl.1 (Nat.le_of_ble_eq_true rfl) dX4_comesToFair_73 rfl ⟨Nat.zero_le _, Nat.zero_le _⟩) hS (fun H locs hW hS => ?_)
  refine lv_icmp_ne (tgt := 83) hx hb dX4_comesToFair_76 (by decide) (fun c_22 => ?_) (fun c_22 => ?_)
  · have h := it_f c_22 h
    refine lv_iconst (v := 0) hx hb dX4_comesToFair_83 (by decide) ?_
    cases h
    exact g_zret hx hb hr hlocks hW hS (rfl) dX4_comesToFair_84
  · have h := it_t c_22 h
    refine lv_iconst (v := 1) hx hb dX4_comesToFair_79 (by decide) ?_
    refine lv_goto (tgt := 84) hx hb dX4_comesToFair_80 (by decide) ?_
    cases h
    exact g_zret hx hb hr hlocks hW hS (rfl) dX4_comesToFair_84
theorem c_X4_comesToFair (hB : Lk L) (h112 : 112 ∈ L) {S : St} {r : Int32} (h : f_X4_comesToFair N S = some r) : Met l yX4_comesToFair (gws yX4_comesToFair cX4_comesToFair 4 (some .boolean)) (rmk 4) (va_Pc [.ref (ad 112)] (WU g A ad L S)) (qz g A ad L r S) 0 0 A :=
  g_met [.ref (ad 112)] (by decide) (Nat.le_of_ble_eq_true rfl) (fun p e s m below meth c ls C hW hl _ => t_X4_comesToFair C hB h112 h hW va_S.rf hl)
theorem hv_X4_comesToFair : yX4_comesToFair.cls = RX4 ∧ yX4_comesToFair.cls ≠ "java/lang/invoke/MethodHandle" ∧ yX4_comesToFair.cls ≠ "java/lang/invoke/VarHandle" ∧ (parseMethodDescriptor yX4_comesToFair.desc).map (fun d => d.parameters.length) = some 0 := by decide +kernel
/-! DroveRoads$LoneWay.bestGain -/
def f_X4_bestGain_l7 (N : Nat) (S : St) (k : Int32 → Option (Int32)) : Nat → Int32 → Int32 → Option (Int32)
  | 0, _, _ => none
  | n + 1, v1, v2 => cl0 (f_X9_fair S) fun r_3 => if r_3 ≤ v2 then (k v1) else (cl0 (f_X9_milesOfStage S v2) fun r_6 => bn (v1 - (r_6 / 5)) fun x_7 => bn (v2 + 1) fun x_8 => f_X4_bestGain_l7 N S k n x_7 x_8)
set_option maxHeartbeats 4000000 in
theorem t_X4_bestGain_l7 (C : MC p s m args meth c cX4_bestGain 3 (some .int) RX4 g A) (hB : Lk L) (h112 : 112 ∈ L) {S : St} {r : Int32} {k : Int32 → Option (Int32)} (hk : ∀ (w1 : Int32), k w1 = some r → ∀ (H : Heap) (locs : List Loc) (ls : Array Slot), GW g A ad L S H → va_S A s.heap H locs → lv_has ls 3 [(0, .ref (ad 112)), (1, .int w1)] → W p l e (rmk 3) s m args below meth c H locs 0 0 (MQ below (qi g A ad L r S) args s 0 0 A) (F0 m 37 ls [])) : ∀ (n : Nat) (v1 : Int32) (v2 : Int32), f_X4_bestGain_l7 N S k n v1 v2 = some r → ∀ (H : Heap) (locs : List Loc) (ls : Array Slot), GW g A ad L S H → va_S A s.heap H locs → lv_has ls 3 [(0, .ref (ad 112)), (1, .int v1), (2, .int v2)] → W p l e (rmk 3) s m args below meth c H locs 0 0 (MQ below (qi g A ad L r S) args s 0 0 A) (F0 m 7 ls []) := by
  obtain ⟨hx, hb, hml, hown, hts, hr, hlocks, hK, hN, hT⟩ := id C
  intro n
  induction n with
  | zero =>
    intro v1 v2 h
    have h : (none : Option (Int32)) = some r := h
    cases h
  | succ n ih =>
    intro v1 v2 h H locs ls hW hS hl
    rw [f_X4_bestGain_l7] at h
    refine lv_iload_n hx hb dX4_bestGain_7 rfl (lv_at hl 2 rfl) ?_
    refine lv_aload_n hx hb dX4_bestGain_8 rfl (lv_at hl 0 rfl) ?_
    refine g_get (C := RX4) (T := TX4) (N := 4) (ci := 4) hx hb hts inX4 hown hK hW h112 kd_112 rfl 1 (by decide) mw_833 rfl rfl dX4_bestGain_9 ?_
    obtain ⟨r_3, hc_2, h⟩ := cl0_ex h
    refine g_ci (g_runV (ci := 9) (o := 1) (As := []) (rest := [.int v2]) hx hb hml hown hts hK hN hT hS hW (c_X9_fair hB hc_2) (hB 1 bb_1) kd_1 rfl (gw_V mw_849 mw_304 mw_305 mw_67 mw_306) hv_X9_fair rfl rfl rfl (rm_ok (by decide) (by decide)) hl.1 (Nat.le_of_ble_eq_true rfl) dX4_bestGain_12 rfl ⟨Nat.zero_le _, Nat.zero_le _⟩) hS (fun H locs hW hS => ?_)
    refine lv_icmp_ge (tgt := 37) hx hb dX4_bestGain_15 (by decide) (fun c_4 => ?_) (fun c_4 => ?_)
    · have h := it_t c_4 h
      exact hk _ h _ _ _ hW hS (lv_sub hl [0, 1] rfl)
    · have h := it_f c_4 h
      refine lv_iload_n hx hb dX4_bestGain_18 rfl (lv_at hl 1 rfl) ?_
      refine lv_aload_n hx hb dX4_bestGain_19 rfl (lv_at hl 0 rfl) ?_
      refine g_get (C := RX4) (T := TX4) (N := 4) (ci := 4) hx hb hts inX4 hown hK hW h112 kd_112 rfl 1 (by decide) mw_833 rfl rfl dX4_bestGain_20 ?_
      refine lv_iload_n hx hb dX4_bestGain_23 rfl (lv_at hl 2 rfl) ?_
      obtain ⟨r_6, hc_5, h⟩ := cl0_ex h
      refine g_ci (g_runV (ci := 9) (o := 1) (As := [.int v2]) (rest := [.int v1]) hx hb hml hown hts hK hN hT hS hW (c_X9_milesOfStage hB hc_5) (hB 1 bb_1) kd_1 rfl (gw_V mw_854 mw_727 mw_728 mw_67 mw_729) hv_X9_milesOfStage rfl rfl rfl (rm_ok (by decide) (by decide)) hl.1 (Nat.le_of_ble_eq_true rfl) dX4_bestGain_24 rfl ⟨Nat.zero_le _, Nat.zero_le _⟩) hS (fun H locs hW hS => ?_)
      refine lv_iconst (v := 5) hx hb dX4_bestGain_27 (by decide) ?_
      refine lv_idiv hx hb dX4_bestGain_28 (by decide) ?_
      refine lv_isub hx hb dX4_bestGain_29 ?_
      refine lv_topi (fun x_7 ex_7 => ?_)
      have h := bn_at ex_7 h
      refine lv_istore_n (lv' := [(1, .int x_7), (0, .ref (ad 112)), (2, .int v2)]) hx hb dX4_bestGain_30 rfl hl (by decide) rfl (fun ls hl => ?_)
      obtain ⟨x_8, ex_8⟩ : ∃ z : Int32, z = v2 + 1 := ⟨_, rfl⟩
      have h := bn_at ex_8 h
      refine lv_iinc (v := x_8) (lv' := [(2, .int x_8), (1, .int x_7), (0, .ref (ad 112))]) hx hb dX4_bestGain_31 hl (k := 2) rfl (by rw [ex_8]; rfl) (by decide) rfl (fun ls hl => ?_)
      refine lv_goto (tgt := 7) hx hb dX4_bestGain_34 (by decide) ?_
      exact ih _ _ h _ _ _ hW hS (lv_sub hl [2, 1, 0] rfl)
def f_X4_bestGain (N : Nat) (S : St) : Option (Int32) := bn (gv S 112 2) fun x_1 => f_X4_bestGain_l7 N S (fun x_9 => cl0 (f_X9_fair S) fun r_11 => bn (r_11 - (gv S 112 2)) fun x_12 => some ((x_9 + (x_12 - 1)) + (3 * ((gv S 112 0) - x_12)))) N 0 x_1
set_option maxHeartbeats 4000000 in
theorem t_X4_bestGain (C : MC p s m args meth c cX4_bestGain 3 (some .int) RX4 g A) (hB : Lk L) (h112 : 112 ∈ L) {S : St} {r : Int32} (h : f_X4_bestGain N S = some r) {H : Heap} {locs : List Loc} {ls : Array Slot} (hW : GW g A ad L S H) (hS : va_S A s.heap H locs) (hl : lv_has ls 3 [(0, .ref (ad 112))]) : W p l e (rmk 3) s m args below meth c H locs 0 0 (MQ below (qi g A ad L r S) args s 0 0 A) (F0 m 0 ls []) := by
  obtain ⟨hx, hb, hml, hown, hts, hr, hlocks, hK, hN, hT⟩ := id C
  unfold f_X4_bestGain at h
  refine lv_iconst (v := 0) hx hb dX4_bestGain_0 (by decide) ?_
  refine lv_istore_n (lv' := [(1, .int 0), (0, .ref (ad 112))]) hx hb dX4_bestGain_1 rfl hl (by decide) rfl (fun ls hl => ?_)
  refine lv_aload_n hx hb dX4_bestGain_2 rfl (lv_at hl 1 rfl) ?_
  refine g_get (C := RX4) (T := TX4) (N := 4) (ci := 4) hx hb hts inX4 hown hK hW h112 kd_112 rfl 2 (by decide) mw_834 rfl rfl dX4_bestGain_3 ?_
  refine lv_topi (fun x_1 ex_1 => ?_)
  have h := bn_at ex_1 h
  refine lv_istore_n (lv' := [(2, .int x_1), (1, .int 0), (0, .ref (ad 112))]) hx hb dX4_bestGain_6 rfl hl (by decide) rfl (fun ls hl => ?_)
  refine t_X4_bestGain_l7 C hB h112 ?_ _ _ _ h _ _ _ hW hS (lv_sub hl [2, 1, 0] rfl)
  intro x_9 h H locs ls hW hS hl
  refine lv_aload_n hx hb dX4_bestGain_37 rfl (lv_at hl 0 rfl) ?_
  refine g_get (C := RX4) (T := TX4) (N := 4) (ci := 4) hx hb hts inX4 hown hK hW h112 kd_112 rfl 1 (by decide) mw_833 rfl rfl dX4_bestGain_38 ?_
  obtain ⟨r_11, hc_10, h⟩ := cl0_ex h
  refine g_ci (g_runV (ci := 9) (o := 1) (As := []) (rest := []) hx hb hml hown hts hK hN hT hS hW (c_X9_fair hB hc_10) (hB 1 bb_1) kd_1 rfl (gw_V mw_849 mw_304 mw_305 mw_67 mw_306) hv_X9_fair rfl rfl rfl (rm_ok (by decide) (by decide)) hl.1 (Nat.le_of_ble_eq_true rfl) dX4_bestGain_41 rfl ⟨Nat.zero_le _, Nat.zero_le _⟩) hS (fun H locs hW hS => ?_)
  refine lv_aload_n hx hb dX4_bestGain_44 rfl (lv_at hl 0 rfl) ?_
  refine g_get (C := RX4) (T := TX4) (N := 4) (ci := 4) hx hb hts inX4 hown hK hW h112 kd_112 rfl 2 (by decide) mw_834 rfl rfl dX4_bestGain_45 ?_
  refine lv_isub hx hb dX4_bestGain_48 ?_
  refine lv_topi (fun x_12 ex_12 => ?_)
  have h := bn_at ex_12 h
  refine lv_istore_n (lv' := [(2, .int x_12), (0, .ref (ad 112)), (1, .int x_9)]) hx hb dX4_bestGain_49 rfl hl (by decide) rfl (fun ls hl => ?_)
  refine lv_iload_n hx hb dX4_bestGain_50 rfl (lv_at hl 2 rfl) ?_
  refine lv_iload_n hx hb dX4_bestGain_51 rfl (lv_at hl 0 rfl) ?_
  refine lv_iconst (v := 1) hx hb dX4_bestGain_52 (by decide) ?_
  refine lv_isub hx hb dX4_bestGain_53 ?_
  refine lv_iadd hx hb dX4_bestGain_54 ?_
  refine lv_iconst (v := 3) hx hb dX4_bestGain_55 (by decide) ?_
  refine lv_aload_n hx hb dX4_bestGain_56 rfl (lv_at hl 1 rfl) ?_
  refine g_get (C := RX4) (T := TX4) (N := 4) (ci := 4) hx hb hts inX4 hown hK hW h112 kd_112 rfl 0 (by decide) mw_831 rfl rfl dX4_bestGain_57 ?_
  refine lv_iload_n hx hb dX4_bestGain_60 rfl (lv_at hl 0 rfl) ?_
  refine lv_isub hx hb dX4_bestGain_61 ?_
  refine lv_imul hx hb dX4_bestGain_62 ?_
  refine lv_iadd hx hb dX4_bestGain_63 ?_
  cases h
  exact g_iret hx hb hr hlocks hW hS dX4_bestGain_64
theorem c_X4_bestGain (hB : Lk L) (h112 : 112 ∈ L) {S : St} {r : Int32} (h : f_X4_bestGain N S = some r) : Met l yX4_bestGain (gws yX4_bestGain cX4_bestGain 3 (some .int)) (rmk 3) (va_Pc [.ref (ad 112)] (WU g A ad L S)) (qi g A ad L r S) 0 0 A :=
  g_met [.ref (ad 112)] (by decide) (Nat.le_of_ble_eq_true rfl) (fun p e s m below meth c ls C hW hl _ => t_X4_bestGain C hB h112 h hW va_S.rf hl)
theorem hv_X4_bestGain : yX4_bestGain.cls = RX4 ∧ yX4_bestGain.cls ≠ "java/lang/invoke/MethodHandle" ∧ yX4_bestGain.cls ≠ "java/lang/invoke/VarHandle" ∧ (parseMethodDescriptor yX4_bestGain.desc).map (fun d => d.parameters.length) = some 0 := by decide +kernel
/-! DroveRoads$LoneWay.bestAct -/
def f_X4_bestAct_j72 (N : Nat) (kb : Int32 → Int32 → Int32 → Option (Int32)) (k : Int32 → Option (Int32)) (S : St) (v1 : Int32) (v2 : Int32) (v3 : Int32) (v4 : Int32) (w100 : Int32) : Option (Int32) := if v4 = v1 then (k w100) else (if w100 = 0 then (cl0 (f_X4_rested S v3) fun r_14 => bn (v4 + 1) fun x_15 => kb v2 r_14 x_15) else (cl0 (f_X9_milesOfStage S v2) fun r_17 => bn (v3 + r_17) fun x_18 => bn (v2 + 1) fun x_19 => bn (v4 + 1) fun x_20 => kb x_19 x_18 x_20))
set_option maxHeartbeats 4000000 in
theorem t_X4_bestAct_j72 (C : MC p s m args meth c cX4_bestAct 7 (some .int) RX4 g A) (hB : Lk L) (h112 : 112 ∈ L) {S : St} {r : Int32} {v1 : Int32} {v2 : Int32} {v3 : Int32} {v4 : Int32} {w100 : Int32} {kb : Int32 → Int32 → Int32 → Option (Int32)} {k : Int32 → Option (Int32)} (hkb : ∀ (u2 : Int32) (u3 : Int32) (u4 : Int32), kb u2 u3 u4 = some r → ∀ (H : Heap) (locs : List Loc) (ls : Array Slot), GW g A ad L S H → va_S A s.heap H locs → lv_has ls 7 [(0, .ref (ad 112)), (1, .int v1), (2, .int u2), (3, .int u3), (4, .int u4)] → W p l e (rmk 4) s m args below meth c H locs 0 0 (MQ below (qi g A ad L r S) args s 0 0 A) (F0 m 13 ls [])) (hk : ∀ (u6 : Int32), k u6 = some r → ∀ (H : Heap) (locs : List Loc) (ls : Array Slot), GW g A ad L S H → va_S A s.heap H locs → lv_has ls 7 [(6, .int u6)] → W p l e (rmk 4) s m args below meth c H locs 0 0 (MQ below (qi g A ad L r S) args s 0 0 A) (F0 m 80 ls [])) (h : f_X4_bestAct_j72 N kb k S v1 v2 v3 v4 w100 = some r) {H : Heap} {locs : List Loc} {ls : Array Slot} (hW : GW g A ad L S H) (hS : va_S A s.heap H locs) (hl : lv_has ls 7 [(0, .ref (ad 112)), (1, .int v1), (2, .int v2), (3, .int v3), (4, .int v4)]) : W p l e (rmk 4) s m args below meth c H locs 0 0 (MQ below (qi g A ad L r S) args s 0 0 A) (F0 m 72 ls [.int w100]) := by
  obtain ⟨hx, hb, hml, hown, hts, hr, hlocks, hK, hN, hT⟩ := id C
  unfold f_X4_bestAct_j72 at h
  refine lv_istore (lv' := [(6, .int w100), (0, .ref (ad 112)), (1, .int v1), (2, .int v2), (3, .int v3), (4, .int v4)]) hx hb dX4_bestAct_72 hl (by decide) rfl (fun ls hl => ?_)
  refine lv_iload hx hb dX4_bestAct_74 (lv_at hl 5 rfl) ?_
  refine lv_iload_n hx hb dX4_bestAct_76 rfl (lv_at hl 2 rfl) ?_
  refine lv_icmp_ne (tgt := 91) hx hb dX4_bestAct_77 (by decide) (fun c_11 => ?_) (fun c_11 => ?_)
  · have h := it_f c_11 h
    refine lv_iload hx hb dX4_bestAct_91 (lv_at hl 0 rfl) ?_
    refine lv_if_eq (tgt := 113) hx hb dX4_bestAct_93 (by decide) (fun c_12 => ?_) (fun c_12 => ?_)
    · have h := it_t c_12 h
      refine lv_iload_n hx hb dX4_bestAct_113 rfl (lv_at hl 4 rfl) ?_
      obtain ⟨r_14, hc_13, h⟩ := cl0_ex h
      refine g_ci (g_runS (As := [.int v3]) (rest := []) hx hb hml hown hts hK hN hT hS hW (c_X4_rested hB h112 hc_13) (gw_S mw_855 mw_856 mw_83 mw_857) hs_X4_rested rfl rfl rfl (rm_ok (by decide) (by decide)) hl.1 (Nat.le_of_ble_eq_true rfl) dX4_bestAct_114 rfl ⟨Nat.zero_le _, Nat.zero_le _⟩) hS (fun H locs hW hS => ?_)
      refine lv_istore_n (lv' := [(3, .int r_14), (6, .int w100), (0, .ref (ad 112)), (1, .int v1), (2, .int v2), (4, .int v4)]) hx hb dX4_bestAct_117 rfl hl (by decide) rfl (fun ls hl => ?_)
      obtain ⟨x_15, ex_15⟩ : ∃ z : Int32, z = v4 + 1 := ⟨_, rfl⟩
      have h := bn_at ex_15 h
      refine lv_iinc (v := x_15) (lv' := [(4, .int x_15), (3, .int r_14), (6, .int w100), (0, .ref (ad 112)), (1, .int v1), (2, .int v2)]) hx hb dX4_bestAct_118 hl (k := 5) rfl (by rw [ex_15]; rfl) (by decide) rfl (fun ls hl => ?_)
      refine lv_goto (tgt := 13) hx hb dX4_bestAct_121 (by decide) ?_
      exact hkb _ _ _ h _ _ _ hW hS (lv_sub hl [3, 4, 5, 1, 0] rfl)
    · have h := it_f c_12 h
      refine lv_iload_n hx hb dX4_bestAct_96 rfl (lv_at hl 4 rfl) ?_
      refine lv_aload_n hx hb dX4_bestAct_97 rfl (lv_at hl 1 rfl) ?_
      refine g_get (C := RX4) (T := TX4) (N := 4) (ci := 4) hx hb hts inX4 hown hK hW h112 kd_112 rfl 1 (by decide) mw_833 rfl rfl dX4_bestAct_98 ?_
      refine lv_iload_n hx hb dX4_bestAct_101 rfl (lv_at hl 3 rfl) ?_
      obtain ⟨r_17, hc_16, h⟩ := cl0_ex h
      refine g_ci (g_runV (ci := 9) (o := 1) (As := [.int v2]) (rest := [.int v3]) hx hb hml hown hts hK hN hT hS hW (c_X9_milesOfStage hB hc_16) (hB 1 bb_1) kd_1 rfl (gw_V mw_854 mw_727 mw_728 mw_67 mw_729) hv_X9_milesOfStage rfl rfl rfl (rm_ok (by decide) (by decide)) hl.1 (Nat.le_of_ble_eq_true rfl) dX4_bestAct_102 rfl ⟨Nat.zero_le _, Nat.zero_le _⟩) hS (fun H locs hW hS => ?_)
      refine lv_iadd hx hb dX4_bestAct_105 ?_
      refine lv_topi (fun x_18 ex_18 => ?_)
      have h := bn_at ex_18 h
      refine lv_istore_n (lv' := [(3, .int x_18), (6, .int w100), (0, .ref (ad 112)), (1, .int v1), (2, .int v2), (4, .int v4)]) hx hb dX4_bestAct_106 rfl hl (by decide) rfl (fun ls hl => ?_)
      obtain ⟨x_19, ex_19⟩ : ∃ z : Int32, z = v2 + 1 := ⟨_, rfl⟩
      have h := bn_at ex_19 h
      refine lv_iinc (v := x_19) (lv' := [(2, .int x_19), (3, .int x_18), (6, .int w100), (0, .ref (ad 112)), (1, .int v1), (4, .int v4)]) hx hb dX4_bestAct_107 hl (k := 4) rfl (by rw [ex_19]; rfl) (by decide) rfl (fun ls hl => ?_)
      refine lv_goto (tgt := 118) hx hb dX4_bestAct_110 (by decide) ?_
      obtain ⟨x_20, ex_20⟩ : ∃ z : Int32, z = v4 + 1 := ⟨_, rfl⟩
      have h := bn_at ex_20 h
      refine lv_iinc (v := x_20) (lv' := [(4, .int x_20), (2, .int x_19), (3, .int x_18), (6, .int w100), (0, .ref (ad 112)), (1, .int v1)]) hx hb dX4_bestAct_118 hl (k := 5) rfl (by rw [ex_20]; rfl) (by decide) rfl (fun ls hl => ?_)
      refine lv_goto (tgt := 13) hx hb dX4_bestAct_121 (by decide) ?_
      exact hkb _ _ _ h _ _ _ hW hS (lv_sub hl [4, 5, 1, 2, 0] rfl)
  · have h := it_t c_11 h
    exact hk _ h _ _ _ hW hS (lv_sub hl [0] rfl)
def f_X4_bestAct_j71 (N : Nat) (kb : Int32 → Int32 → Int32 → Option (Int32)) (k : Int32 → Option (Int32)) (S : St) (v1 : Int32) (v2 : Int32) (v3 : Int32) (v4 : Int32) : Option (Int32) := f_X4_bestAct_j72 N (kb) k S v1 v2 v3 v4 0
set_option maxHeartbeats 4000000 in
theorem t_X4_bestAct_j71 (C : MC p s m args meth c cX4_bestAct 7 (some .int) RX4 g A) (hB : Lk L) (h112 : 112 ∈ L) {S : St} {r : Int32} {v1 : Int32} {v2 : Int32} {v3 : Int32} {v4 : Int32} {kb : Int32 → Int32 → Int32 → Option (Int32)} {k : Int32 → Option (Int32)} (hkb : ∀ (u2 : Int32) (u3 : Int32) (u4 : Int32), kb u2 u3 u4 = some r → ∀ (H : Heap) (locs : List Loc) (ls : Array Slot), GW g A ad L S H → va_S A s.heap H locs → lv_has ls 7 [(0, .ref (ad 112)), (1, .int v1), (2, .int u2), (3, .int u3), (4, .int u4)] → W p l e (rmk 4) s m args below meth c H locs 0 0 (MQ below (qi g A ad L r S) args s 0 0 A) (F0 m 13 ls [])) (hk : ∀ (u6 : Int32), k u6 = some r → ∀ (H : Heap) (locs : List Loc) (ls : Array Slot), GW g A ad L S H → va_S A s.heap H locs → lv_has ls 7 [(6, .int u6)] → W p l e (rmk 4) s m args below meth c H locs 0 0 (MQ below (qi g A ad L r S) args s 0 0 A) (F0 m 80 ls [])) (h : f_X4_bestAct_j71 N kb k S v1 v2 v3 v4 = some r) {H : Heap} {locs : List Loc} {ls : Array Slot} (hW : GW g A ad L S H) (hS : va_S A s.heap H locs) (hl : lv_has ls 7 [(0, .ref (ad 112)), (1, .int v1), (2, .int v2), (3, .int v3), (4, .int v4)]) : W p l e (rmk 4) s m args below meth c H locs 0 0 (MQ below (qi g A ad L r S) args s 0 0 A) (F0 m 71 ls []) := by
  obtain ⟨hx, hb, hml, hown, hts, hr, hlocks, hK, hN, hT⟩ := id C
  unfold f_X4_bestAct_j71 at h
  refine lv_iconst (v := 0) hx hb dX4_bestAct_71 (by decide) ?_
  exact t_X4_bestAct_j72 C hB h112 hkb hk h hW hS (lv_sub hl [0, 1, 2, 3, 4] rfl)
def f_X4_bestAct_j51 (N : Nat) (kb : Int32 → Int32 → Int32 → Option (Int32)) (k : Int32 → Option (Int32)) (S : St) (v1 : Int32) (v2 : Int32) (v3 : Int32) (v4 : Int32) (w100 : Int32) : Option (Int32) := cl0 (f_X4_mayWalk S v2 v3) fun r_8 => if r_8 = 0 then (f_X4_bestAct_j71 N (kb) k S v1 v2 v3 v4) else (if w100 = 0 then (f_X4_bestAct_j72 N (kb) k S v1 v2 v3 v4 1) else (f_X4_bestAct_j71 N (kb) k S v1 v2 v3 v4))
set_option maxHeartbeats 4000000 in
theorem t_X4_bestAct_j51 (C : MC p s m args meth c cX4_bestAct 7 (some .int) RX4 g A) (hB : Lk L) (h112 : 112 ∈ L) {S : St} {r : Int32} {v1 : Int32} {v2 : Int32} {v3 : Int32} {v4 : Int32} {w100 : Int32} {kb : Int32 → Int32 → Int32 → Option (Int32)} {k : Int32 → Option (Int32)} (hkb : ∀ (u2 : Int32) (u3 : Int32) (u4 : Int32), kb u2 u3 u4 = some r → ∀ (H : Heap) (locs : List Loc) (ls : Array Slot), GW g A ad L S H → va_S A s.heap H locs → lv_has ls 7 [(0, .ref (ad 112)), (1, .int v1), (2, .int u2), (3, .int u3), (4, .int u4)] → W p l e (rmk 4) s m args below meth c H locs 0 0 (MQ below (qi g A ad L r S) args s 0 0 A) (F0 m 13 ls [])) (hk : ∀ (u6 : Int32), k u6 = some r → ∀ (H : Heap) (locs : List Loc) (ls : Array Slot), GW g A ad L S H → va_S A s.heap H locs → lv_has ls 7 [(6, .int u6)] → W p l e (rmk 4) s m args below meth c H locs 0 0 (MQ below (qi g A ad L r S) args s 0 0 A) (F0 m 80 ls [])) (h : f_X4_bestAct_j51 N kb k S v1 v2 v3 v4 w100 = some r) {H : Heap} {locs : List Loc} {ls : Array Slot} (hW : GW g A ad L S H) (hS : va_S A s.heap H locs) (hl : lv_has ls 7 [(0, .ref (ad 112)), (1, .int v1), (2, .int v2), (3, .int v3), (4, .int v4)]) : W p l e (rmk 4) s m args below meth c H locs 0 0 (MQ below (qi g A ad L r S) args s 0 0 A) (F0 m 51 ls [.int w100]) := by
  obtain ⟨hx, hb, hml, hown, hts, hr, hlocks, hK, hN, hT⟩ := id C
  unfold f_X4_bestAct_j51 at h
  refine lv_istore (lv' := [(5, .int w100), (0, .ref (ad 112)), (1, .int v1), (2, .int v2), (3, .int v3), (4, .int v4)]) hx hb dX4_bestAct_51 hl (by decide) rfl (fun ls hl => ?_)
  refine lv_aload_n hx hb dX4_bestAct_53 rfl (lv_at hl 1 rfl) ?_
  refine lv_iload_n hx hb dX4_bestAct_54 rfl (lv_at hl 3 rfl) ?_
  refine lv_iload_n hx hb dX4_bestAct_55 rfl (lv_at hl 4 rfl) ?_
  obtain ⟨r_8, hc_7, h⟩ := cl0_ex h
  refine g_cz (g_runV (ci := 4) (o := 112) (As := [.int v2, .int v3]) (rest := []) hx hb hml hown hts hK hN hT hS hW (c_X4_mayWalk hB h112 hc_7) h112 kd_112 rfl (gw_V mw_850 mw_852 mw_32 mw_83 mw_853) hv_X4_mayWalk rfl rfl rfl (rm_ok (by decide) (by decide)) hl.1 (Nat.le_of_ble_eq_true rfl) dX4_bestAct_56 rfl ⟨Nat.zero_le _, Nat.zero_le _⟩) hS (fun hz_9 H locs hW hS => ?_)
  refine lv_if_eq (tgt := 71) hx hb dX4_bestAct_59 (by decide) (fun c_10 => ?_) (fun c_10 => ?_)
  · have h := it_t c_10 h
    exact t_X4_bestAct_j71 C hB h112 hkb hk h hW hS (lv_sub hl [1, 2, 3, 4, 5] rfl)
  · have h := it_f c_10 h
    refine lv_iload hx hb dX4_bestAct_62 (lv_at hl 0 rfl) ?_
    refine lv_if_ne (tgt := 71) hx hb dX4_bestAct_64 (by decide) (fun c_21 => ?_) (fun c_21 => ?_)
    · have h := it_f c_21 h
      exact t_X4_bestAct_j71 C hB h112 hkb hk h hW hS (lv_sub hl [1, 2, 3, 4, 5] rfl)
    · have h := it_t c_21 h
      refine lv_iconst (v := 1) hx hb dX4_bestAct_67 (by decide) ?_
      refine lv_goto (tgt := 72) hx hb dX4_bestAct_68 (by decide) ?_
      exact t_X4_bestAct_j72 C hB h112 hkb hk h hW hS (lv_sub hl [1, 2, 3, 4, 5] rfl)
def f_X4_bestAct_j50 (N : Nat) (kb : Int32 → Int32 → Int32 → Option (Int32)) (k : Int32 → Option (Int32)) (S : St) (v1 : Int32) (v2 : Int32) (v3 : Int32) (v4 : Int32) : Option (Int32) := f_X4_bestAct_j51 N (kb) k S v1 v2 v3 v4 0
set_option maxHeartbeats 4000000 in
theorem t_X4_bestAct_j50 (C : MC p s m args meth c cX4_bestAct 7 (some .int) RX4 g A) (hB : Lk L) (h112 : 112 ∈ L) {S : St} {r : Int32} {v1 : Int32} {v2 : Int32} {v3 : Int32} {v4 : Int32} {kb : Int32 → Int32 → Int32 → Option (Int32)} {k : Int32 → Option (Int32)} (hkb : ∀ (u2 : Int32) (u3 : Int32) (u4 : Int32), kb u2 u3 u4 = some r → ∀ (H : Heap) (locs : List Loc) (ls : Array Slot), GW g A ad L S H → va_S A s.heap H locs → lv_has ls 7 [(0, .ref (ad 112)), (1, .int v1), (2, .int u2), (3, .int u3), (4, .int u4)] → W p l e (rmk 4) s m args below meth c H locs 0 0 (MQ below (qi g A ad L r S) args s 0 0 A) (F0 m 13 ls [])) (hk : ∀ (u6 : Int32), k u6 = some r → ∀ (H : Heap) (locs : List Loc) (ls : Array Slot), GW g A ad L S H → va_S A s.heap H locs → lv_has ls 7 [(6, .int u6)] → W p l e (rmk 4) s m args below meth c H locs 0 0 (MQ below (qi g A ad L r S) args s 0 0 A) (F0 m 80 ls [])) (h : f_X4_bestAct_j50 N kb k S v1 v2 v3 v4 = some r) {H : Heap} {locs : List Loc} {ls : Array Slot} (hW : GW g A ad L S H) (hS : va_S A s.heap H locs) (hl : lv_has ls 7 [(0, .ref (ad 112)), (1, .int v1), (2, .int v2), (3, .int v3), (4, .int v4)]) : W p l e (rmk 4) s m args below meth c H locs 0 0 (MQ below (qi g A ad L r S) args s 0 0 A) (F0 m 50 ls []) := by
  obtain ⟨hx, hb, hml, hown, hts, hr, hlocks, hK, hN, hT⟩ := id C
  unfold f_X4_bestAct_j50 at h
  refine lv_iconst (v := 0) hx hb dX4_bestAct_50 (by decide) ?_
  exact t_X4_bestAct_j51 C hB h112 hkb hk h hW hS (lv_sub hl [0, 1, 2, 3, 4] rfl)
def f_X4_bestAct_l13 (N : Nat) (v1 : Int32) (S : St) (k : Int32 → Option (Int32)) : Nat → Int32 → Int32 → Int32 → Option (Int32)
  | 0, _, _, _ => none
  | n + 1, v2, v3, v4 => if (gv S 112 0) ≤ v4 then (some (-1)) else (cl0 (f_X9_fair S) fun r_5 => if (v2 + 1) = r_5 then (if (gv S 112 0) ≤ (v4 + 1) then (f_X4_bestAct_j50 N (f_X4_bestAct_l13 N v1 S k n) k S v1 v2 v3 v4) else (f_X4_bestAct_j51 N (f_X4_bestAct_l13 N v1 S k n) k S v1 v2 v3 v4 1)) else (f_X4_bestAct_j50 N (f_X4_bestAct_l13 N v1 S k n) k S v1 v2 v3 v4))
set_option maxHeartbeats 4000000 in
theorem t_X4_bestAct_l13 (C : MC p s m args meth c cX4_bestAct 7 (some .int) RX4 g A) (hB : Lk L) (h112 : 112 ∈ L) {v1 : Int32} {S : St} {r : Int32} {k : Int32 → Option (Int32)} (hk : ∀ (w6 : Int32), k w6 = some r → ∀ (H : Heap) (locs : List Loc) (ls : Array Slot), GW g A ad L S H → va_S A s.heap H locs → lv_has ls 7 [(6, .int w6)] → W p l e (rmk 4) s m args below meth c H locs 0 0 (MQ below (qi g A ad L r S) args s 0 0 A) (F0 m 80 ls [])) : ∀ (n : Nat) (v2 : Int32) (v3 : Int32) (v4 : Int32), f_X4_bestAct_l13 N v1 S k n v2 v3 v4 = some r → ∀ (H : Heap) (locs : List Loc) (ls : Array Slot), GW g A ad L S H → va_S A s.heap H locs → lv_has ls 7 [(0, .ref (ad 112)), (1, .int v1), (2, .int v2), (3, .int v3), (4, .int v4)] → W p l e (rmk 4) s m args below meth c H locs 0 0 (MQ below (qi g A ad L r S) args s 0 0 A) (F0 m 13 ls []) := by
  obtain ⟨hx, hb, hml, hown, hts, hr, hlocks, hK, hN, hT⟩ := id C
  intro n
  induction n with
  | zero =>
    intro v2 v3 v4 h
    have h : (none : Option (Int32)) = some r := h
    cases h
  | succ n ih =>
    intro v2 v3 v4 h H locs ls hW hS hl
    rw [f_X4_bestAct_l13] at h
    refine lv_iload hx hb dX4_bestAct_13 (lv_at hl 4 rfl) ?_
    refine lv_aload_n hx hb dX4_bestAct_15 rfl (lv_at hl 0 rfl) ?_
    refine g_get (C := RX4) (T := TX4) (N := 4) (ci := 4) hx hb hts inX4 hown hK hW h112 kd_112 rfl 0 (by decide) mw_831 rfl rfl dX4_bestAct_16 ?_
    refine lv_icmp_ge (tgt := 124) hx hb dX4_bestAct_19 (by decide) (fun c_3 => ?_) (fun c_3 => ?_)
    · have h := it_t c_3 h
      refine lv_iconst (v := (-1)) hx hb dX4_bestAct_124 (by decide) ?_
      cases h
      exact g_iret hx hb hr hlocks hW hS dX4_bestAct_125
    · have h := it_f c_3 h
      refine lv_iload_n hx hb dX4_bestAct_22 rfl (lv_at hl 2 rfl) ?_
      refine lv_iconst (v := 1) hx hb dX4_bestAct_23 (by decide) ?_
      refine lv_iadd hx hb dX4_bestAct_24 ?_
      refine lv_aload_n hx hb dX4_bestAct_25 rfl (lv_at hl 0 rfl) ?_
      refine g_get (C := RX4) (T := TX4) (N := 4) (ci := 4) hx hb hts inX4 hown hK hW h112 kd_112 rfl 1 (by decide) mw_833 rfl rfl dX4_bestAct_26 ?_
      obtain ⟨r_5, hc_4, h⟩ := cl0_ex h
      refine g_ci (g_runV (ci := 9) (o := 1) (As := []) (rest := [.int (v2 + 1)]) hx hb hml hown hts hK hN hT hS hW (c_X9_fair hB hc_4) (hB 1 bb_1) kd_1 rfl (gw_V mw_849 mw_304 mw_305 mw_67 mw_306) hv_X9_fair rfl rfl rfl (rm_ok (by decide) (by decide)) hl.1 (Nat.le_of_ble_eq_true rfl) dX4_bestAct_29 rfl ⟨Nat.zero_le _, Nat.zero_le _⟩) hS (fun H locs hW hS => ?_)
      refine lv_icmp_ne (tgt := 50) hx hb dX4_bestAct_32 (by decide) (fun c_6 => ?_) (fun c_6 => ?_)
      · have h := it_f c_6 h
        exact t_X4_bestAct_j50 C hB h112 ih hk h hW hS (lv_sub hl [0, 1, 2, 3, 4] rfl)
      · have h := it_t c_6 h
        refine lv_iload hx hb dX4_bestAct_35 (lv_at hl 4 rfl) ?_
        refine lv_iconst (v := 1) hx hb dX4_bestAct_37 (by decide) ?_
        refine lv_iadd hx hb dX4_bestAct_38 ?_
        refine lv_aload_n hx hb dX4_bestAct_39 rfl (lv_at hl 0 rfl) ?_
        refine g_get (C := RX4) (T := TX4) (N := 4) (ci := 4) hx hb hts inX4 hown hK hW h112 kd_112 rfl 0 (by decide) mw_831 rfl rfl dX4_bestAct_40 ?_
        refine lv_icmp_ge (tgt := 50) hx hb dX4_bestAct_43 (by decide) (fun c_22 => ?_) (fun c_22 => ?_)
        · have h := it_t c_22 h
          exact t_X4_bestAct_j50 C hB h112 ih hk h hW hS (lv_sub hl [0, 1, 2, 3, 4] rfl)
        · have h := it_f c_22 h
          refine lv_iconst (v := 1) hx hb dX4_bestAct_46 (by decide) ?_
          refine lv_goto (tgt := 51) hx hb dX4_bestAct_47 (by decide) ?_
          exact t_X4_bestAct_j51 C hB h112 ih hk h hW hS (lv_sub hl [0, 1, 2, 3, 4] rfl)
def f_X4_bestAct (N : Nat) (S : St) (p1 : Int32) : Option (Int32) := bn (gv S 112 2) fun x_1 => bn (gv S 112 3) fun x_2 => f_X4_bestAct_l13 N p1 S (fun x_23 => if x_23 = 0 then (some 0) else (some 1)) N x_1 x_2 0
set_option maxHeartbeats 4000000 in
theorem t_X4_bestAct (C : MC p s m args meth c cX4_bestAct 7 (some .int) RX4 g A) (hB : Lk L) (h112 : 112 ∈ L) {S : St} {r : Int32} {p1 : Int32} (h : f_X4_bestAct N S p1 = some r) {H : Heap} {locs : List Loc} {ls : Array Slot} (hW : GW g A ad L S H) (hS : va_S A s.heap H locs) (hl : lv_has ls 7 [(0, .ref (ad 112)), (1, .int p1)]) : W p l e (rmk 4) s m args below meth c H locs 0 0 (MQ below (qi g A ad L r S) args s 0 0 A) (F0 m 0 ls []) := by
  obtain ⟨hx, hb, hml, hown, hts, hr, hlocks, hK, hN, hT⟩ := id C
  unfold f_X4_bestAct at h
  refine lv_aload_n hx hb dX4_bestAct_0 rfl (lv_at hl 0 rfl) ?_
  refine g_get (C := RX4) (T := TX4) (N := 4) (ci := 4) hx hb hts inX4 hown hK hW h112 kd_112 rfl 2 (by decide) mw_834 rfl rfl dX4_bestAct_1 ?_
  refine lv_topi (fun x_1 ex_1 => ?_)
  have h := bn_at ex_1 h
  refine lv_istore_n (lv' := [(2, .int x_1), (0, .ref (ad 112)), (1, .int p1)]) hx hb dX4_bestAct_4 rfl hl (by decide) rfl (fun ls hl => ?_)
  refine lv_aload_n hx hb dX4_bestAct_5 rfl (lv_at hl 1 rfl) ?_
  refine g_get (C := RX4) (T := TX4) (N := 4) (ci := 4) hx hb hts inX4 hown hK hW h112 kd_112 rfl 3 (by decide) mw_835 rfl rfl dX4_bestAct_6 ?_
  refine lv_topi (fun x_2 ex_2 => ?_)
  have h := bn_at ex_2 h
  refine lv_istore_n (lv' := [(3, .int x_2), (2, .int x_1), (0, .ref (ad 112)), (1, .int p1)]) hx hb dX4_bestAct_9 rfl hl (by decide) rfl (fun ls hl => ?_)
  refine lv_iconst (v := 0) hx hb dX4_bestAct_10 (by decide) ?_
  refine lv_istore (lv' := [(4, .int 0), (3, .int x_2), (2, .int x_1), (0, .ref (ad 112)), (1, .int p1)]) hx hb dX4_bestAct_11 hl (by decide) rfl (fun ls hl => ?_)
  refine t_X4_bestAct_l13 C hB h112 ?_ _ _ _ _ h _ _ _ hW hS (lv_sub hl [3, 4, 2, 1, 0] rfl)
  intro x_23 h H locs ls hW hS hl
  refine lv_iload hx hb dX4_bestAct_80 (lv_at hl 0 rfl) ?_
  refine lv_if_eq (tgt := 89) hx hb dX4_bestAct_82 (by decide) (fun c_24 => ?_) (fun c_24 => ?_)
  · have h := it_t c_24 h
    refine lv_iconst (v := 0) hx hb dX4_bestAct_89 (by decide) ?_
    cases h
    exact g_iret hx hb hr hlocks hW hS dX4_bestAct_90
  · have h := it_f c_24 h
    refine lv_iconst (v := 1) hx hb dX4_bestAct_85 (by decide) ?_
    refine lv_goto (tgt := 90) hx hb dX4_bestAct_86 (by decide) ?_
    cases h
    exact g_iret hx hb hr hlocks hW hS dX4_bestAct_90
theorem c_X4_bestAct (hB : Lk L) (h112 : 112 ∈ L) {S : St} {r : Int32} {p1 : Int32} (h : f_X4_bestAct N S p1 = some r) : Met l yX4_bestAct (gws yX4_bestAct cX4_bestAct 7 (some .int)) (rmk 4) (va_Pc [.ref (ad 112), .int p1] (WU g A ad L S)) (qi g A ad L r S) 0 0 A :=
  g_met [.ref (ad 112), .int p1] (by decide) (Nat.le_of_ble_eq_true rfl) (fun p e s m below meth c ls C hW hl _ => t_X4_bestAct C hB h112 h hW va_S.rf hl)
theorem hv_X4_bestAct : yX4_bestAct.cls = RX4 ∧ yX4_bestAct.cls ≠ "java/lang/invoke/MethodHandle" ∧ yX4_bestAct.cls ≠ "java/lang/invoke/VarHandle" ∧ (parseMethodDescriptor yX4_bestAct.desc).map (fun d => d.parameters.length) = some 1 := by decide +kernel
end S14
