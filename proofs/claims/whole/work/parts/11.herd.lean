section S11
variable {p : Program} {l : Launch} {e : Env} {s : State} {m : MethodId} {args : Array Value} {below : List Frame} {meth : Method} {c : Code} {A : Nat → Prop} {g : Cx} {ad : Nat → Nat} {L : List Nat} {N : Nat} {q0 : Nat}
/-! DroveRoads$Letters.send -/
def f_X2_send (S : St) (p1 : Int32) (p2 : Int32) : Option (Int32 × St) := cl0 (f_X10_within S p1 0 1000) fun r_2 => if r_2 = 0 then (some ((-1), S)) else (if (gv S 2 0) < 30 then (if (gv S 2 0) < 0 ∨ 30 ≤ ix (gv S 2 0) then none else bn (sv S 21 (ix (gv S 2 0)) p1) fun S_7 => if (gv S_7 2 0) < 0 ∨ 30 ≤ ix (gv S_7 2 0) then none else bn (sv S_7 22 (ix (gv S_7 2 0)) p2) fun S_9 => bn (sv S_9 2 0 ((gv S_9 2 0) + 1)) fun S_10 => some ((gv S_10 2 0), S_10)) else (some ((-1), S)))
set_option maxHeartbeats 4000000 in
theorem t_X2_send (C : MC p s m args meth c cX2_send 3 (some .int) RX2 g A) (hB : Lk L) {S : St} {r : Int32} {S9 : St} {p1 : Int32} {p2 : Int32} (h : f_X2_send S p1 p2 = some (r, S9)) {H : Heap} {locs : List Loc} {ls : Array Slot} (hW : GW g A ad L S H) (hS : va_S A s.heap H locs) (hl : lv_has ls 3 [(0, .ref (ad 2)), (1, .int p1), (2, .int p2)]) : W p l e (rmk 2) s m args below meth c H locs 0 0 (MQ below (qi g A ad L r S9) args s 0 0 A) (F0 m 0 ls []) := by
  obtain ⟨hx, hb, hml, hown, hts, hr, hlocks, hK, hN, hT⟩ := id C
  unfold f_X2_send at h
  refine lv_iload_n hx hb dX2_send_0 rfl (lv_at hl 1 rfl) ?_
  refine lv_iconst (v := 0) hx hb dX2_send_1 (by decide) ?_
  refine lv_sipush (v := 1000) hx hb dX2_send_2 (by decide) ?_
  obtain ⟨r_2, hc_1, h⟩ := cl0_ex h
  refine g_cz (g_runSN (As := [.int p1, .int 0, .int 1000]) (rest := []) hx hb hml hown hts hK hN hT hS hW (c_X10_within hB hc_1) mw_294 (by decide +kernel) mw_66 mw_293 hs_X10_within rfl rfl rfl (rm_ok (by decide) (by decide)) hl.1 (Nat.le_of_ble_eq_true rfl) dX2_send_5 rfl ⟨Nat.zero_le _, Nat.zero_le _⟩) hS (fun hz_3 H locs hW hS => ?_)
  refine lv_if_eq (tgt := 20) hx hb dX2_send_8 (by decide) (fun c_4 => ?_) (fun c_4 => ?_)
  · have h := it_t c_4 h
    refine lv_iconst (v := (-1)) hx hb dX2_send_20 (by decide) ?_
    cases h
    exact g_iret hx hb hr hlocks hW hS dX2_send_21
  · have h := it_f c_4 h
    refine lv_aload_n hx hb dX2_send_11 rfl (lv_at hl 0 rfl) ?_
    refine g_get (C := RX2) (T := TX2) (N := 3) (ci := 2) hx hb hts inX2 hown hK hW (hB 2 bb_2) kd_2 rfl 0 (by decide) mw_128 rfl rfl dX2_send_12 ?_
    refine lv_bipush (v := 30) hx hb dX2_send_15 (by decide) ?_
    refine lv_icmp_lt (tgt := 22) hx hb dX2_send_17 (by decide) (fun c_5 => ?_) (fun c_5 => ?_)
    · have h := it_t c_5 h
      refine lv_aload_n hx hb dX2_send_22 rfl (lv_at hl 0 rfl) ?_
      refine g_get (C := RX2) (T := TX2) (N := 3) (ci := 2) hx hb hts inX2 hown hK hW (hB 2 bb_2) kd_2 rfl 1 (by decide) mw_130 rfl rfl dX2_send_23 ?_
      refine lv_aload_n hx hb dX2_send_26 rfl (lv_at hl 0 rfl) ?_
      refine g_get (C := RX2) (T := TX2) (N := 3) (ci := 2) hx hb hts inX2 hown hK hW (hB 2 bb_2) kd_2 rfl 0 (by decide) mw_128 rfl rfl dX2_send_27 ?_
      refine lv_iload_n hx hb dX2_send_30 rfl (lv_at hl 1 rfl) ?_
      obtain ⟨hi_6, h⟩ := ck_n h
      refine g_iast hx hb hK hW hS (hB 21 bb_21) (fun _ => kd_21) hi_6 dX2_send_31 (fun S_7 eS_7 H locs hW hS => ?_)
      have h := bn_at eS_7 h
      refine lv_aload_n hx hb dX2_send_32 rfl (lv_at hl 0 rfl) ?_
      refine g_get (C := RX2) (T := TX2) (N := 3) (ci := 2) hx hb hts inX2 hown hK hW (hB 2 bb_2) kd_2 rfl 2 (by decide) mw_131 rfl rfl dX2_send_33 ?_
      refine lv_aload_n hx hb dX2_send_36 rfl (lv_at hl 0 rfl) ?_
      refine g_get (C := RX2) (T := TX2) (N := 3) (ci := 2) hx hb hts inX2 hown hK hW (hB 2 bb_2) kd_2 rfl 0 (by decide) mw_128 rfl rfl dX2_send_37 ?_
      refine lv_iload_n hx hb dX2_send_40 rfl (lv_at hl 2 rfl) ?_
      obtain ⟨hi_8, h⟩ := ck_n h
      refine g_iast hx hb hK hW hS (hB 22 bb_22) (fun _ => kd_22) hi_8 dX2_send_41 (fun S_9 eS_9 H locs hW hS => ?_)
      have h := bn_at eS_9 h
      refine lv_aload_n hx hb dX2_send_42 rfl (lv_at hl 0 rfl) ?_
      refine lv_dup hx hb dX2_send_43 rfl ?_
      refine g_get (C := RX2) (T := TX2) (N := 3) (ci := 2) hx hb hts inX2 hown hK hW (hB 2 bb_2) kd_2 rfl 0 (by decide) mw_128 rfl rfl dX2_send_44 ?_
      refine lv_iconst (v := 1) hx hb dX2_send_47 (by decide) ?_
      refine lv_iadd hx hb dX2_send_48 ?_
      refine g_put (C := RX2) (T := TX2) (N := 3) (ci := 2) hx hb hts inX2 tyX2 tyX2_ok nmX2 hown hK hW hS (hB 2 bb_2) kd_2 rfl 0 (by decide) mw_128 rfl rfl rfl rfl (Nat.le_of_ble_eq_true rfl) (sv S_9 2 0 ((gv S_9 2 0) + 1)) (ps_2_0) cellOf_sv dX2_send_49 (fun S_10 eS_10 H locs hW hS => ?_)
      have h := bn_at eS_10 h
      refine lv_aload_n hx hb dX2_send_52 rfl (lv_at hl 0 rfl) ?_
      refine g_get (C := RX2) (T := TX2) (N := 3) (ci := 2) hx hb hts inX2 hown hK hW (hB 2 bb_2) kd_2 rfl 0 (by decide) mw_128 rfl rfl dX2_send_53 ?_
      cases h
      exact g_iret hx hb hr hlocks hW hS dX2_send_56
    · have h := it_f c_5 h
      refine lv_iconst (v := (-1)) hx hb dX2_send_20 (by decide) ?_
      cases h
      exact g_iret hx hb hr hlocks hW hS dX2_send_21
theorem c_X2_send (hB : Lk L) {S : St} {r : Int32} {S9 : St} {p1 : Int32} {p2 : Int32} (h : f_X2_send S p1 p2 = some (r, S9)) : Met l yX2_send (gws yX2_send cX2_send 3 (some .int)) (rmk 2) (va_Pc [.ref (ad 2), .int p1, .int p2] (WU g A ad L S)) (qi g A ad L r S9) 0 0 A :=
  g_met [.ref (ad 2), .int p1, .int p2] (by decide) (Nat.le_of_ble_eq_true rfl) (fun p e s m below meth c ls C hW hl _ => t_X2_send C hB h hW va_S.rf hl)
theorem hv_X2_send : yX2_send.cls = RX2 ∧ yX2_send.cls ≠ "java/lang/invoke/MethodHandle" ∧ yX2_send.cls ≠ "java/lang/invoke/VarHandle" ∧ (parseMethodDescriptor yX2_send.desc).map (fun d => d.parameters.length) = some 2 := by decide +kernel
/-! DroveRoads$Letters.priceKnown -/
def f_X2_priceKnown_l18 (N : Nat) (v2 : Int32) (v3 : Int32) (S : St) (k : Int32 → Option (Int32)) : Nat → Int32 → Option (Int32)
  | 0, _ => none
  | n + 1, v4 => if v4 < 0 then (some 0) else (if v4 < 0 ∨ 30 ≤ ix v4 then none else if v2 < ((gv S 22 (ix v4)) + v3) then (bn (v4 + (-1)) fun x_6 => f_X2_priceKnown_l18 N v2 v3 S k n x_6) else (k v4))
set_option maxHeartbeats 4000000 in
theorem t_X2_priceKnown_l18 (C : MC p s m args meth c cX2_priceKnown 5 (some .int) RX2 g A) (hB : Lk L) {v2 : Int32} {v3 : Int32} {S : St} {r : Int32} {k : Int32 → Option (Int32)} (hk : ∀ (w4 : Int32), k w4 = some r → ∀ (H : Heap) (locs : List Loc) (ls : Array Slot), GW g A ad L S H → va_S A s.heap H locs → lv_has ls 5 [(0, .ref (ad 2)), (4, .int w4)] → W p l e (rmk 1) s m args below meth c H locs 0 0 (MQ below (qi g A ad L r S) args s 0 0 A) (F0 m 36 ls [])) : ∀ (n : Nat) (v4 : Int32), f_X2_priceKnown_l18 N v2 v3 S k n v4 = some r → ∀ (H : Heap) (locs : List Loc) (ls : Array Slot), GW g A ad L S H → va_S A s.heap H locs → lv_has ls 5 [(0, .ref (ad 2)), (2, .int v2), (3, .int v3), (4, .int v4)] → W p l e (rmk 1) s m args below meth c H locs 0 0 (MQ below (qi g A ad L r S) args s 0 0 A) (F0 m 18 ls []) := by
  obtain ⟨hx, hb, hml, hown, hts, hr, hlocks, hK, hN, hT⟩ := id C
  intro n
  induction n with
  | zero =>
    intro v4 h
    have h : (none : Option (Int32)) = some r := h
    cases h
  | succ n ih =>
    intro v4 h H locs ls hW hS hl
    rw [f_X2_priceKnown_l18] at h
    refine lv_iload hx hb dX2_priceKnown_18 (lv_at hl 3 rfl) ?_
    refine lv_if_lt (tgt := 50) hx hb dX2_priceKnown_20 (by decide) (fun c_3 => ?_) (fun c_3 => ?_)
    · have h := it_t c_3 h
      refine lv_iconst (v := 0) hx hb dX2_priceKnown_50 (by decide) ?_
      cases h
      exact g_iret hx hb hr hlocks hW hS dX2_priceKnown_51
    · have h := it_f c_3 h
      refine lv_aload_n hx hb dX2_priceKnown_23 rfl (lv_at hl 0 rfl) ?_
      refine g_get (C := RX2) (T := TX2) (N := 3) (ci := 2) hx hb hts inX2 hown hK hW (hB 2 bb_2) kd_2 rfl 2 (by decide) mw_131 rfl rfl dX2_priceKnown_24 ?_
      refine lv_iload hx hb dX2_priceKnown_27 (lv_at hl 3 rfl) ?_
      obtain ⟨hi_4, h⟩ := ck_n h
      refine g_iald hx hb hK hW (hB 22 bb_22) kd_22 hi_4 dX2_priceKnown_29 ?_
      refine lv_iload_n hx hb dX2_priceKnown_30 rfl (lv_at hl 2 rfl) ?_
      refine lv_iadd hx hb dX2_priceKnown_31 ?_
      refine lv_iload_n hx hb dX2_priceKnown_32 rfl (lv_at hl 1 rfl) ?_
      refine lv_icmp_gt (tgt := 44) hx hb dX2_priceKnown_33 (by decide) (fun c_5 => ?_) (fun c_5 => ?_)
      · have h := it_t c_5 h
        obtain ⟨x_6, ex_6⟩ : ∃ z : Int32, z = v4 + (-1) := ⟨_, rfl⟩
        have h := bn_at ex_6 h
        refine lv_iinc (v := x_6) (lv' := [(4, .int x_6), (0, .ref (ad 2)), (2, .int v2), (3, .int v3)]) hx hb dX2_priceKnown_44 hl (k := 3) rfl (by rw [ex_6]; rfl) (by decide) rfl (fun ls hl => ?_)
        refine lv_goto (tgt := 18) hx hb dX2_priceKnown_47 (by decide) ?_
        exact ih _ h _ _ _ hW hS (lv_sub hl [1, 2, 3, 0] rfl)
      · have h := it_f c_5 h
        exact hk _ h _ _ _ hW hS (lv_sub hl [0, 3] rfl)
def f_X2_priceKnown (N : Nat) (S : St) (p1 : Int32) (p2 : Int32) : Option (Int32) := bn (((p1 + 40) - 1) / 40) fun x_1 => bn ((gv S 2 0) - 1) fun x_2 => f_X2_priceKnown_l18 N p2 x_1 S (fun x_7 => if x_7 < 0 ∨ 30 ≤ ix x_7 then none else some (gv S 21 (ix x_7))) N x_2
set_option maxHeartbeats 4000000 in
theorem t_X2_priceKnown (C : MC p s m args meth c cX2_priceKnown 5 (some .int) RX2 g A) (hB : Lk L) {S : St} {r : Int32} {p1 : Int32} {p2 : Int32} (h : f_X2_priceKnown N S p1 p2 = some r) {H : Heap} {locs : List Loc} {ls : Array Slot} (hW : GW g A ad L S H) (hS : va_S A s.heap H locs) (hl : lv_has ls 5 [(0, .ref (ad 2)), (1, .int p1), (2, .int p2)]) : W p l e (rmk 1) s m args below meth c H locs 0 0 (MQ below (qi g A ad L r S) args s 0 0 A) (F0 m 0 ls []) := by
  obtain ⟨hx, hb, hml, hown, hts, hr, hlocks, hK, hN, hT⟩ := id C
  unfold f_X2_priceKnown at h
  refine lv_iload_n hx hb dX2_priceKnown_0 rfl (lv_at hl 1 rfl) ?_
  refine lv_bipush (v := 40) hx hb dX2_priceKnown_1 (by decide) ?_
  refine lv_iadd hx hb dX2_priceKnown_3 ?_
  refine lv_iconst (v := 1) hx hb dX2_priceKnown_4 (by decide) ?_
  refine lv_isub hx hb dX2_priceKnown_5 ?_
  refine lv_bipush (v := 40) hx hb dX2_priceKnown_6 (by decide) ?_
  refine lv_idiv hx hb dX2_priceKnown_8 (by decide) ?_
  refine lv_topi (fun x_1 ex_1 => ?_)
  have h := bn_at ex_1 h
  refine lv_istore_n (lv' := [(3, .int x_1), (0, .ref (ad 2)), (1, .int p1), (2, .int p2)]) hx hb dX2_priceKnown_9 rfl hl (by decide) rfl (fun ls hl => ?_)
  refine lv_aload_n hx hb dX2_priceKnown_10 rfl (lv_at hl 1 rfl) ?_
  refine g_get (C := RX2) (T := TX2) (N := 3) (ci := 2) hx hb hts inX2 hown hK hW (hB 2 bb_2) kd_2 rfl 0 (by decide) mw_128 rfl rfl dX2_priceKnown_11 ?_
  refine lv_iconst (v := 1) hx hb dX2_priceKnown_14 (by decide) ?_
  refine lv_isub hx hb dX2_priceKnown_15 ?_
  refine lv_topi (fun x_2 ex_2 => ?_)
  have h := bn_at ex_2 h
  refine lv_istore (lv' := [(4, .int x_2), (3, .int x_1), (0, .ref (ad 2)), (1, .int p1), (2, .int p2)]) hx hb dX2_priceKnown_16 hl (by decide) rfl (fun ls hl => ?_)
  refine t_X2_priceKnown_l18 C hB ?_ _ _ h _ _ _ hW hS (lv_sub hl [2, 4, 1, 0] rfl)
  intro x_7 h H locs ls hW hS hl
  refine lv_aload_n hx hb dX2_priceKnown_36 rfl (lv_at hl 0 rfl) ?_
  refine g_get (C := RX2) (T := TX2) (N := 3) (ci := 2) hx hb hts inX2 hown hK hW (hB 2 bb_2) kd_2 rfl 1 (by decide) mw_130 rfl rfl dX2_priceKnown_37 ?_
  refine lv_iload hx hb dX2_priceKnown_40 (lv_at hl 1 rfl) ?_
  obtain ⟨hi_8, h⟩ := ck_n h
  refine g_iald hx hb hK hW (hB 21 bb_21) kd_21 hi_8 dX2_priceKnown_42 ?_
  cases h
  exact g_iret hx hb hr hlocks hW hS dX2_priceKnown_43
theorem c_X2_priceKnown (hB : Lk L) {S : St} {r : Int32} {p1 : Int32} {p2 : Int32} (h : f_X2_priceKnown N S p1 p2 = some r) : Met l yX2_priceKnown (gws yX2_priceKnown cX2_priceKnown 5 (some .int)) (rmk 1) (va_Pc [.ref (ad 2), .int p1, .int p2] (WU g A ad L S)) (qi g A ad L r S) 0 0 A :=
  g_met [.ref (ad 2), .int p1, .int p2] (by decide) (Nat.le_of_ble_eq_true rfl) (fun p e s m below meth c ls C hW hl _ => t_X2_priceKnown C hB h hW va_S.rf hl)
theorem hv_X2_priceKnown : yX2_priceKnown.cls = RX2 ∧ yX2_priceKnown.cls ≠ "java/lang/invoke/MethodHandle" ∧ yX2_priceKnown.cls ≠ "java/lang/invoke/VarHandle" ∧ (parseMethodDescriptor yX2_priceKnown.desc).map (fun d => d.parameters.length) = some 2 := by decide +kernel
/-! DroveRoads$Herd.want -/
def f_X1_want (S : St) (o : Nat) : Option (Int32) := some ((gv S o 2) * (gv S o 0))
set_option maxHeartbeats 4000000 in
theorem t_X1_want (C : MC p s m args meth c cX1_want 1 (some .int) RX1 g A) (hB : Lk L) {o : Nat} (h_o : okh L o) {S : St} {r : Int32} (h : f_X1_want S o = some r) {H : Heap} {locs : List Loc} {ls : Array Slot} (hW : GW g A ad L S H) (hS : va_S A s.heap H locs) (hl : lv_has ls 1 [(0, .ref (ad o))]) : W p l e (rmk 1) s m args below meth c H locs 0 0 (MQ below (qi g A ad L r S) args s 0 0 A) (F0 m 0 ls []) := by
  obtain ⟨hx, hb, hml, hown, hts, hr, hlocks, hK, hN, hT⟩ := id C
  unfold f_X1_want at h
  refine lv_aload_n hx hb dX1_want_0 rfl (lv_at hl 0 rfl) ?_
  refine g_get (C := RX1) (T := TX1) (N := 12) (ci := 1) hx hb hts inX1 hown hK hW h_o.2.2 (kd_herd h_o) rfl 2 (by decide) mw_343 rfl rfl dX1_want_1 ?_
  refine lv_aload_n hx hb dX1_want_4 rfl (lv_at hl 0 rfl) ?_
  refine g_get (C := RX1) (T := TX1) (N := 12) (ci := 1) hx hb hts inX1 hown hK hW h_o.2.2 (kd_herd h_o) rfl 0 (by decide) mw_340 rfl rfl dX1_want_5 ?_
  refine lv_imul hx hb dX1_want_8 ?_
  cases h
  exact g_iret hx hb hr hlocks hW hS dX1_want_9
theorem c_X1_want (hB : Lk L) {o : Nat} (h_o : okh L o) {S : St} {r : Int32} (h : f_X1_want S o = some r) : Met l yX1_want (gws yX1_want cX1_want 1 (some .int)) (rmk 1) (va_Pc [.ref (ad o)] (WU g A ad L S)) (qi g A ad L r S) 0 0 A :=
  g_met [.ref (ad o)] (by decide) (Nat.le_of_ble_eq_true rfl) (fun p e s m below meth c ls C hW hl _ => t_X1_want C hB h_o h hW va_S.rf hl)
theorem hv_X1_want : yX1_want.cls = RX1 ∧ yX1_want.cls ≠ "java/lang/invoke/MethodHandle" ∧ yX1_want.cls ≠ "java/lang/invoke/VarHandle" ∧ (parseMethodDescriptor yX1_want.desc).map (fun d => d.parameters.length) = some 0 := by decide +kernel
/-! DroveRoads$Herd.earn -/
def f_X1_earn (S : St) (o : Nat) (p1 : Int32) : Option (St) := bn (if ((gv S o 7) + p1) < 2000000000 then ((gv S o 7) + p1) else 2000000000) fun x_1 => bn (sv S o 7 x_1) fun S_2 => some S_2
set_option maxHeartbeats 4000000 in
theorem t_X1_earn (C : MC p s m args meth c cX1_earn 2 none RX1 g A) (hB : Lk L) {o : Nat} (h_o : okh L o) {S : St} {S9 : St} {p1 : Int32} (h : f_X1_earn S o p1 = some S9) {H : Heap} {locs : List Loc} {ls : Array Slot} (hW : GW g A ad L S H) (hS : va_S A s.heap H locs) (hl : lv_has ls 2 [(0, .ref (ad o)), (1, .int p1)]) : W p l e (rmk 1) s m args below meth c H locs 0 0 (MQ below (qv g A ad L S9) args s 0 0 A) (F0 m 0 ls []) := by
  obtain ⟨hx, hb, hml, hown, hts, hr, hlocks, hK, hN, hT⟩ := id C
  unfold f_X1_earn at h
  refine lv_aload_n hx hb dX1_earn_0 rfl (lv_at hl 0 rfl) ?_
  refine lv_ldc (v := 2000000000) hx hb hown (hts _ mw_785) dX1_earn_1 ?_
  refine lv_aload_n hx hb dX1_earn_3 rfl (lv_at hl 0 rfl) ?_
  refine g_get (C := RX1) (T := TX1) (N := 12) (ci := 1) hx hb hts inX1 hown hK hW h_o.2.2 (kd_herd h_o) rfl 7 (by decide) mw_356 rfl rfl dX1_earn_4 ?_
  refine lv_iload_n hx hb dX1_earn_7 rfl (lv_at hl 1 rfl) ?_
  refine lv_iadd hx hb dX1_earn_8 ?_
  refine g_min (rest := [.ref (ad o)]) hx hb hml hl.1 hown hts mw_767 mw_445 mw_77 mw_cmin (by decide) (Nat.le_of_ble_eq_true rfl) (Nat.zero_le _) (Nat.zero_le _) dX1_earn_9 (fun x_1 ex_1 => ?_)
  have h := bn_at ex_1 h
  refine g_put (C := RX1) (T := TX1) (N := 12) (ci := 1) hx hb hts inX1 tyX1 tyX1_ok nmX1 hown hK hW hS h_o.2.2 (kd_herd h_o) rfl 7 (by decide) mw_356 rfl rfl rfl rfl (Nat.le_of_ble_eq_true rfl) (sv S o 7 x_1) (ps_herd_7 h_o) cellOf_sv dX1_earn_12 (fun S_2 eS_2 H locs hW hS => ?_)
  have h := bn_at eS_2 h
  cases h
  exact g_vret hx hb hr hlocks hW hS dX1_earn_15
theorem c_X1_earn (hB : Lk L) {o : Nat} (h_o : okh L o) {S : St} {S9 : St} {p1 : Int32} (h : f_X1_earn S o p1 = some S9) : Met l yX1_earn (gws yX1_earn cX1_earn 2 none) (rmk 1) (va_Pc [.ref (ad o), .int p1] (WU g A ad L S)) (qv g A ad L S9) 0 0 A :=
  g_met [.ref (ad o), .int p1] (by decide) (Nat.le_of_ble_eq_true rfl) (fun p e s m below meth c ls C hW hl _ => t_X1_earn C hB h_o h hW va_S.rf hl)
theorem hv_X1_earn : yX1_earn.cls = RX1 ∧ yX1_earn.cls ≠ "java/lang/invoke/MethodHandle" ∧ yX1_earn.cls ≠ "java/lang/invoke/VarHandle" ∧ (parseMethodDescriptor yX1_earn.desc).map (fun d => d.parameters.length) = some 1 := by decide +kernel
/-! DroveRoads$Herd.sellHeads -/
def f_X1_sellHeads (S : St) (o : Nat) (p1 : Int32) : Option (Int32 × St) := bn (if (gv S o 2) < p1 then (gv S o 2) else p1) fun x_1 => bn (sv S o 2 ((gv S o 2) - x_1)) fun S_2 => bn (sv S_2 o 9 ((gv S_2 o 9) + x_1)) fun S_3 => some (x_1, S_3)
set_option maxHeartbeats 4000000 in
theorem t_X1_sellHeads (C : MC p s m args meth c cX1_sellHeads 3 (some .int) RX1 g A) (hB : Lk L) {o : Nat} (h_o : okh L o) {S : St} {r : Int32} {S9 : St} {p1 : Int32} (h : f_X1_sellHeads S o p1 = some (r, S9)) {H : Heap} {locs : List Loc} {ls : Array Slot} (hW : GW g A ad L S H) (hS : va_S A s.heap H locs) (hl : lv_has ls 3 [(0, .ref (ad o)), (1, .int p1)]) : W p l e (rmk 1) s m args below meth c H locs 0 0 (MQ below (qi g A ad L r S9) args s 0 0 A) (F0 m 0 ls []) := by
  obtain ⟨hx, hb, hml, hown, hts, hr, hlocks, hK, hN, hT⟩ := id C
  unfold f_X1_sellHeads at h
  refine lv_iload_n hx hb dX1_sellHeads_0 rfl (lv_at hl 1 rfl) ?_
  refine lv_aload_n hx hb dX1_sellHeads_1 rfl (lv_at hl 0 rfl) ?_
  refine g_get (C := RX1) (T := TX1) (N := 12) (ci := 1) hx hb hts inX1 hown hK hW h_o.2.2 (kd_herd h_o) rfl 2 (by decide) mw_343 rfl rfl dX1_sellHeads_2 ?_
  refine g_min (rest := []) hx hb hml hl.1 hown hts mw_767 mw_445 mw_77 mw_cmin (by decide) (Nat.le_of_ble_eq_true rfl) (Nat.zero_le _) (Nat.zero_le _) dX1_sellHeads_5 (fun x_1 ex_1 => ?_)
  have h := bn_at ex_1 h
  refine lv_istore_n (lv' := [(2, .int x_1), (0, .ref (ad o)), (1, .int p1)]) hx hb dX1_sellHeads_8 rfl hl (by decide) rfl (fun ls hl => ?_)
  refine lv_aload_n hx hb dX1_sellHeads_9 rfl (lv_at hl 1 rfl) ?_
  refine lv_dup hx hb dX1_sellHeads_10 rfl ?_
  refine g_get (C := RX1) (T := TX1) (N := 12) (ci := 1) hx hb hts inX1 hown hK hW h_o.2.2 (kd_herd h_o) rfl 2 (by decide) mw_343 rfl rfl dX1_sellHeads_11 ?_
  refine lv_iload_n hx hb dX1_sellHeads_14 rfl (lv_at hl 0 rfl) ?_
  refine lv_isub hx hb dX1_sellHeads_15 ?_
  refine g_put (C := RX1) (T := TX1) (N := 12) (ci := 1) hx hb hts inX1 tyX1 tyX1_ok nmX1 hown hK hW hS h_o.2.2 (kd_herd h_o) rfl 2 (by decide) mw_343 rfl rfl rfl rfl (Nat.le_of_ble_eq_true rfl) (sv S o 2 ((gv S o 2) - x_1)) (ps_herd_2 h_o) cellOf_sv dX1_sellHeads_16 (fun S_2 eS_2 H locs hW hS => ?_)
  have h := bn_at eS_2 h
  refine lv_aload_n hx hb dX1_sellHeads_19 rfl (lv_at hl 1 rfl) ?_
  refine lv_dup hx hb dX1_sellHeads_20 rfl ?_
  refine g_get (C := RX1) (T := TX1) (N := 12) (ci := 1) hx hb hts inX1 hown hK hW h_o.2.2 (kd_herd h_o) rfl 9 (by decide) mw_358 rfl rfl dX1_sellHeads_21 ?_
  refine lv_iload_n hx hb dX1_sellHeads_24 rfl (lv_at hl 0 rfl) ?_
  refine lv_iadd hx hb dX1_sellHeads_25 ?_
  refine g_put (C := RX1) (T := TX1) (N := 12) (ci := 1) hx hb hts inX1 tyX1 tyX1_ok nmX1 hown hK hW hS h_o.2.2 (kd_herd h_o) rfl 9 (by decide) mw_358 rfl rfl rfl rfl (Nat.le_of_ble_eq_true rfl) (sv S_2 o 9 ((gv S_2 o 9) + x_1)) (ps_herd_9 h_o) cellOf_sv dX1_sellHeads_26 (fun S_3 eS_3 H locs hW hS => ?_)
  have h := bn_at eS_3 h
  refine lv_iload_n hx hb dX1_sellHeads_29 rfl (lv_at hl 0 rfl) ?_
  cases h
  exact g_iret hx hb hr hlocks hW hS dX1_sellHeads_30
theorem c_X1_sellHeads (hB : Lk L) {o : Nat} (h_o : okh L o) {S : St} {r : Int32} {S9 : St} {p1 : Int32} (h : f_X1_sellHeads S o p1 = some (r, S9)) : Met l yX1_sellHeads (gws yX1_sellHeads cX1_sellHeads 3 (some .int)) (rmk 1) (va_Pc [.ref (ad o), .int p1] (WU g A ad L S)) (qi g A ad L r S9) 0 0 A :=
  g_met [.ref (ad o), .int p1] (by decide) (Nat.le_of_ble_eq_true rfl) (fun p e s m below meth c ls C hW hl _ => t_X1_sellHeads C hB h_o h hW va_S.rf hl)
theorem hv_X1_sellHeads : yX1_sellHeads.cls = RX1 ∧ yX1_sellHeads.cls ≠ "java/lang/invoke/MethodHandle" ∧ yX1_sellHeads.cls ≠ "java/lang/invoke/VarHandle" ∧ (parseMethodDescriptor yX1_sellHeads.desc).map (fun d => d.parameters.length) = some 1 := by decide +kernel
/-! DroveRoads$Herd.sellOnTheWay -/
def f_X1_sellOnTheWay (S : St) (o : Nat) (p1 : Int32) (p2 : Int32) : Option (St) := cl1 (f_X1_sellHeads S o p1) fun r_2 S_3 => cl0 (f_X1_earn S_3 o (((r_2 * (gv S_3 o 3)) * p2) / 200)) fun S_5 => if (gv S_5 o 2) ≤ 0 then (some S_5) else (bn (if 0 < ((gv S_5 o 4) - 15) then ((gv S_5 o 4) - 15) else 0) fun x_7 => bn (sv S_5 o 4 x_7) fun S_8 => some S_8)
set_option maxHeartbeats 4000000 in
theorem t_X1_sellOnTheWay (C : MC p s m args meth c cX1_sellOnTheWay 4 none RX1 g A) (hB : Lk L) {o : Nat} (h_o : okh L o) {S : St} {S9 : St} {p1 : Int32} {p2 : Int32} (h : f_X1_sellOnTheWay S o p1 p2 = some S9) {H : Heap} {locs : List Loc} {ls : Array Slot} (hW : GW g A ad L S H) (hS : va_S A s.heap H locs) (hl : lv_has ls 4 [(0, .ref (ad o)), (1, .int p1), (2, .int p2)]) : W p l e (rmk 2) s m args below meth c H locs 0 0 (MQ below (qv g A ad L S9) args s 0 0 A) (F0 m 0 ls []) := by
  obtain ⟨hx, hb, hml, hown, hts, hr, hlocks, hK, hN, hT⟩ := id C
  unfold f_X1_sellOnTheWay at h
  refine lv_aload_n hx hb dX1_sellOnTheWay_0 rfl (lv_at hl 0 rfl) ?_
  refine lv_iload_n hx hb dX1_sellOnTheWay_1 rfl (lv_at hl 1 rfl) ?_
  obtain ⟨r_2, S_3, hc_1, h⟩ := cl1_ex h
  refine g_ci (g_runV (ci := 1) (o := o) (As := [.int p1]) (rest := []) hx hb hml hown hts hK hN hT hS hW (c_X1_sellHeads hB h_o hc_1) h_o.2.2 (kd_herd h_o) rfl (gw_V mw_777 mw_779 mw_29 mw_74 mw_780) hv_X1_sellHeads rfl rfl rfl (rm_ok (by decide) (by decide)) hl.1 (Nat.le_of_ble_eq_true rfl) dX1_sellOnTheWay_2 rfl ⟨Nat.zero_le _, Nat.zero_le _⟩) hS (fun H locs hW hS => ?_)
  refine lv_istore_n (lv' := [(3, .int r_2), (0, .ref (ad o)), (1, .int p1), (2, .int p2)]) hx hb dX1_sellOnTheWay_5 rfl hl (by decide) rfl (fun ls hl => ?_)
  refine lv_aload_n hx hb dX1_sellOnTheWay_6 rfl (lv_at hl 1 rfl) ?_
  refine lv_iload_n hx hb dX1_sellOnTheWay_7 rfl (lv_at hl 0 rfl) ?_
  refine lv_aload_n hx hb dX1_sellOnTheWay_8 rfl (lv_at hl 1 rfl) ?_
  refine g_get (C := RX1) (T := TX1) (N := 12) (ci := 1) hx hb hts inX1 hown hK hW h_o.2.2 (kd_herd h_o) rfl 3 (by decide) mw_346 rfl rfl dX1_sellOnTheWay_9 ?_
  refine lv_imul hx hb dX1_sellOnTheWay_12 ?_
  refine lv_iload_n hx hb dX1_sellOnTheWay_13 rfl (lv_at hl 3 rfl) ?_
  refine lv_imul hx hb dX1_sellOnTheWay_14 ?_
  refine lv_sipush (v := 200) hx hb dX1_sellOnTheWay_15 (by decide) ?_
  refine lv_idiv hx hb dX1_sellOnTheWay_18 (by decide) ?_
  obtain ⟨S_5, hc_4, h⟩ := cl0_ex h
  refine g_cv (g_runV (ci := 1) (o := o) (As := [.int (((r_2 * (gv S_3 o 3)) * p2) / 200)]) (rest := []) hx hb hml hown hts hK hN hT hS hW (c_X1_earn hB h_o hc_4) h_o.2.2 (kd_herd h_o) rfl (gw_V mw_781 mw_783 mw_30 mw_74 mw_784) hv_X1_earn rfl rfl rfl (rm_ok (by decide) (by decide)) hl.1 (Nat.le_of_ble_eq_true rfl) dX1_sellOnTheWay_19 rfl ⟨Nat.zero_le _, Nat.zero_le _⟩) hS (fun H locs hW hS => ?_)
  refine lv_aload_n hx hb dX1_sellOnTheWay_22 rfl (lv_at hl 1 rfl) ?_
  refine g_get (C := RX1) (T := TX1) (N := 12) (ci := 1) hx hb hts inX1 hown hK hW h_o.2.2 (kd_herd h_o) rfl 2 (by decide) mw_343 rfl rfl dX1_sellOnTheWay_23 ?_
  refine lv_if_le (tgt := 44) hx hb dX1_sellOnTheWay_26 (by decide) (fun c_6 => ?_) (fun c_6 => ?_)
  · have h := it_t c_6 h
    cases h
    exact g_vret hx hb hr hlocks hW hS dX1_sellOnTheWay_44
  · have h := it_f c_6 h
    refine lv_aload_n hx hb dX1_sellOnTheWay_29 rfl (lv_at hl 1 rfl) ?_
    refine lv_iconst (v := 0) hx hb dX1_sellOnTheWay_30 (by decide) ?_
    refine lv_aload_n hx hb dX1_sellOnTheWay_31 rfl (lv_at hl 1 rfl) ?_
    refine g_get (C := RX1) (T := TX1) (N := 12) (ci := 1) hx hb hts inX1 hown hK hW h_o.2.2 (kd_herd h_o) rfl 4 (by decide) mw_348 rfl rfl dX1_sellOnTheWay_32 ?_
    refine lv_bipush (v := 15) hx hb dX1_sellOnTheWay_35 (by decide) ?_
    refine lv_isub hx hb dX1_sellOnTheWay_37 ?_
    refine g_max (rest := [.ref (ad o)]) hx hb hml hl.1 hown hts mw_766 mw_598 mw_77 mw_cmax (by decide) (Nat.le_of_ble_eq_true rfl) (Nat.zero_le _) (Nat.zero_le _) dX1_sellOnTheWay_38 (fun x_7 ex_7 => ?_)
    have h := bn_at ex_7 h
    refine g_put (C := RX1) (T := TX1) (N := 12) (ci := 1) hx hb hts inX1 tyX1 tyX1_ok nmX1 hown hK hW hS h_o.2.2 (kd_herd h_o) rfl 4 (by decide) mw_348 rfl rfl rfl rfl (Nat.le_of_ble_eq_true rfl) (sv S_5 o 4 x_7) (ps_herd_4 h_o) cellOf_sv dX1_sellOnTheWay_41 (fun S_8 eS_8 H locs hW hS => ?_)
    have h := bn_at eS_8 h
    cases h
    exact g_vret hx hb hr hlocks hW hS dX1_sellOnTheWay_44
theorem c_X1_sellOnTheWay (hB : Lk L) {o : Nat} (h_o : okh L o) {S : St} {S9 : St} {p1 : Int32} {p2 : Int32} (h : f_X1_sellOnTheWay S o p1 p2 = some S9) : Met l yX1_sellOnTheWay (gws yX1_sellOnTheWay cX1_sellOnTheWay 4 none) (rmk 2) (va_Pc [.ref (ad o), .int p1, .int p2] (WU g A ad L S)) (qv g A ad L S9) 0 0 A :=
  g_met [.ref (ad o), .int p1, .int p2] (by decide) (Nat.le_of_ble_eq_true rfl) (fun p e s m below meth c ls C hW hl _ => t_X1_sellOnTheWay C hB h_o h hW va_S.rf hl)
theorem hv_X1_sellOnTheWay : yX1_sellOnTheWay.cls = RX1 ∧ yX1_sellOnTheWay.cls ≠ "java/lang/invoke/MethodHandle" ∧ yX1_sellOnTheWay.cls ≠ "java/lang/invoke/VarHandle" ∧ (parseMethodDescriptor yX1_sellOnTheWay.desc).map (fun d => d.parameters.length) = some 2 := by decide +kernel
/-! DroveRoads$Herd.sellAtFair -/
def f_X1_sellAtFair (S : St) (o : Nat) (p1 : Int32) : Option (St) := cl1 (f_X1_sellHeads S o (gv S o 2)) fun r_2 S_3 => cl0 (f_X1_earn S_3 o (((r_2 * (gv S_3 o 3)) * p1) / 100)) fun S_5 => some S_5
set_option maxHeartbeats 4000000 in
theorem t_X1_sellAtFair (C : MC p s m args meth c cX1_sellAtFair 3 none RX1 g A) (hB : Lk L) {o : Nat} (h_o : okh L o) {S : St} {S9 : St} {p1 : Int32} (h : f_X1_sellAtFair S o p1 = some S9) {H : Heap} {locs : List Loc} {ls : Array Slot} (hW : GW g A ad L S H) (hS : va_S A s.heap H locs) (hl : lv_has ls 3 [(0, .ref (ad o)), (1, .int p1)]) : W p l e (rmk 2) s m args below meth c H locs 0 0 (MQ below (qv g A ad L S9) args s 0 0 A) (F0 m 0 ls []) := by
  obtain ⟨hx, hb, hml, hown, hts, hr, hlocks, hK, hN, hT⟩ := id C
  unfold f_X1_sellAtFair at h
  refine lv_aload_n hx hb dX1_sellAtFair_0 rfl (lv_at hl 0 rfl) ?_
  refine lv_aload_n hx hb dX1_sellAtFair_1 rfl (lv_at hl 0 rfl) ?_
  refine g_get (C := RX1) (T := TX1) (N := 12) (ci := 1) hx hb hts inX1 hown hK hW h_o.2.2 (kd_herd h_o) rfl 2 (by decide) mw_343 rfl rfl dX1_sellAtFair_2 ?_
  obtain ⟨r_2, S_3, hc_1, h⟩ := cl1_ex h
  refine g_ci (g_runV (ci := 1) (o := o) (As := [.int (gv S o 2)]) (rest := []) hx hb hml hown hts hK hN hT hS hW (c_X1_sellHeads hB h_o hc_1) h_o.2.2 (kd_herd h_o) rfl (gw_V mw_777 mw_779 mw_29 mw_74 mw_780) hv_X1_sellHeads rfl rfl rfl (rm_ok (by decide) (by decide)) hl.1 (Nat.le_of_ble_eq_true rfl) dX1_sellAtFair_5 rfl ⟨Nat.zero_le _, Nat.zero_le _⟩) hS (fun H locs hW hS => ?_)
  refine lv_istore_n (lv' := [(2, .int r_2), (0, .ref (ad o)), (1, .int p1)]) hx hb dX1_sellAtFair_8 rfl hl (by decide) rfl (fun ls hl => ?_)
  refine lv_aload_n hx hb dX1_sellAtFair_9 rfl (lv_at hl 1 rfl) ?_
  refine lv_iload_n hx hb dX1_sellAtFair_10 rfl (lv_at hl 0 rfl) ?_
  refine lv_aload_n hx hb dX1_sellAtFair_11 rfl (lv_at hl 1 rfl) ?_
  refine g_get (C := RX1) (T := TX1) (N := 12) (ci := 1) hx hb hts inX1 hown hK hW h_o.2.2 (kd_herd h_o) rfl 3 (by decide) mw_346 rfl rfl dX1_sellAtFair_12 ?_
  refine lv_imul hx hb dX1_sellAtFair_15 ?_
  refine lv_iload_n hx hb dX1_sellAtFair_16 rfl (lv_at hl 2 rfl) ?_
  refine lv_imul hx hb dX1_sellAtFair_17 ?_
  refine lv_bipush (v := 100) hx hb dX1_sellAtFair_18 (by decide) ?_
  refine lv_idiv hx hb dX1_sellAtFair_20 (by decide) ?_
  obtain ⟨S_5, hc_4, h⟩ := cl0_ex h
  refine g_cv (g_runV (ci := 1) (o := o) (As := [.int (((r_2 * (gv S_3 o 3)) * p1) / 100)]) (rest := []) hx hb hml hown hts hK hN hT hS hW (c_X1_earn hB h_o hc_4) h_o.2.2 (kd_herd h_o) rfl (gw_V mw_781 mw_783 mw_30 mw_74 mw_784) hv_X1_earn rfl rfl rfl (rm_ok (by decide) (by decide)) hl.1 (Nat.le_of_ble_eq_true rfl) dX1_sellAtFair_21 rfl ⟨Nat.zero_le _, Nat.zero_le _⟩) hS (fun H locs hW hS => ?_)
  cases h
  exact g_vret hx hb hr hlocks hW hS dX1_sellAtFair_24
theorem c_X1_sellAtFair (hB : Lk L) {o : Nat} (h_o : okh L o) {S : St} {S9 : St} {p1 : Int32} (h : f_X1_sellAtFair S o p1 = some S9) : Met l yX1_sellAtFair (gws yX1_sellAtFair cX1_sellAtFair 3 none) (rmk 2) (va_Pc [.ref (ad o), .int p1] (WU g A ad L S)) (qv g A ad L S9) 0 0 A :=
  g_met [.ref (ad o), .int p1] (by decide) (Nat.le_of_ble_eq_true rfl) (fun p e s m below meth c ls C hW hl _ => t_X1_sellAtFair C hB h_o h hW va_S.rf hl)
theorem hv_X1_sellAtFair : yX1_sellAtFair.cls = RX1 ∧ yX1_sellAtFair.cls ≠ "java/lang/invoke/MethodHandle" ∧ yX1_sellAtFair.cls ≠ "java/lang/invoke/VarHandle" ∧ (parseMethodDescriptor yX1_sellAtFair.desc).map (fun d => d.parameters.length) = some 1 := by decide +kernel
/-! DroveRoads$Herd.walk -/
def f_X1_walk (S : St) (o : Nat) (p1 : Int32) : Option (Int32 × St) := bn (sv S o 5 ((gv S o 5) + 1)) fun S_1 => bn (sv S_1 o 4 ((gv S_1 o 4) + p1)) fun S_2 => bn (if 0 < ((gv S_2 o 3) - (p1 / 5)) then ((gv S_2 o 3) - (p1 / 5)) else 0) fun x_3 => bn (sv S_2 o 3 x_3) fun S_4 => if 60 < (gv S_4 o 4) then (bn (if (((gv S_4 o 2) / 20) + 1) < (gv S_4 o 2) then (((gv S_4 o 2) / 20) + 1) else (gv S_4 o 2)) fun x_6 => bn (sv S_4 o 2 ((gv S_4 o 2) - x_6)) fun S_7 => bn (sv S_7 o 8 ((gv S_7 o 8) + x_6)) fun S_8 => some (x_6, S_8)) else (some (0, S_4))
set_option maxHeartbeats 4000000 in
theorem t_X1_walk (C : MC p s m args meth c cX1_walk 3 (some .int) RX1 g A) (hB : Lk L) {o : Nat} (h_o : okh L o) {S : St} {r : Int32} {S9 : St} {p1 : Int32} (h : f_X1_walk S o p1 = some (r, S9)) {H : Heap} {locs : List Loc} {ls : Array Slot} (hW : GW g A ad L S H) (hS : va_S A s.heap H locs) (hl : lv_has ls 3 [(0, .ref (ad o)), (1, .int p1)]) : W p l e (rmk 1) s m args below meth c H locs 0 0 (MQ below (qi g A ad L r S9) args s 0 0 A) (F0 m 0 ls []) := by
  obtain ⟨hx, hb, hml, hown, hts, hr, hlocks, hK, hN, hT⟩ := id C
  unfold f_X1_walk at h
  refine lv_aload_n hx hb dX1_walk_0 rfl (lv_at hl 0 rfl) ?_
  refine lv_dup hx hb dX1_walk_1 rfl ?_
  refine g_get (C := RX1) (T := TX1) (N := 12) (ci := 1) hx hb hts inX1 hown hK hW h_o.2.2 (kd_herd h_o) rfl 5 (by decide) mw_351 rfl rfl dX1_walk_2 ?_
  refine lv_iconst (v := 1) hx hb dX1_walk_5 (by decide) ?_
  refine lv_iadd hx hb dX1_walk_6 ?_
  refine g_put (C := RX1) (T := TX1) (N := 12) (ci := 1) hx hb hts inX1 tyX1 tyX1_ok nmX1 hown hK hW hS h_o.2.2 (kd_herd h_o) rfl 5 (by decide) mw_351 rfl rfl rfl rfl (Nat.le_of_ble_eq_true rfl) (sv S o 5 ((gv S o 5) + 1)) (ps_herd_5 h_o) cellOf_sv dX1_walk_7 (fun S_1 eS_1 H locs hW hS => ?_)
  have h := bn_at eS_1 h
  refine lv_aload_n hx hb dX1_walk_10 rfl (lv_at hl 0 rfl) ?_
  refine lv_dup hx hb dX1_walk_11 rfl ?_
  refine g_get (C := RX1) (T := TX1) (N := 12) (ci := 1) hx hb hts inX1 hown hK hW h_o.2.2 (kd_herd h_o) rfl 4 (by decide) mw_348 rfl rfl dX1_walk_12 ?_
  refine lv_iload_n hx hb dX1_walk_15 rfl (lv_at hl 1 rfl) ?_
  refine lv_iadd hx hb dX1_walk_16 ?_
  refine g_put (C := RX1) (T := TX1) (N := 12) (ci := 1) hx hb hts inX1 tyX1 tyX1_ok nmX1 hown hK hW hS h_o.2.2 (kd_herd h_o) rfl 4 (by decide) mw_348 rfl rfl rfl rfl (Nat.le_of_ble_eq_true rfl) (sv S_1 o 4 ((gv S_1 o 4) + p1)) (ps_herd_4 h_o) cellOf_sv dX1_walk_17 (fun S_2 eS_2 H locs hW hS => ?_)
  have h := bn_at eS_2 h
  refine lv_aload_n hx hb dX1_walk_20 rfl (lv_at hl 0 rfl) ?_
  refine lv_iconst (v := 0) hx hb dX1_walk_21 (by decide) ?_
  refine lv_aload_n hx hb dX1_walk_22 rfl (lv_at hl 0 rfl) ?_
  refine g_get (C := RX1) (T := TX1) (N := 12) (ci := 1) hx hb hts inX1 hown hK hW h_o.2.2 (kd_herd h_o) rfl 3 (by decide) mw_346 rfl rfl dX1_walk_23 ?_
  refine lv_iload_n hx hb dX1_walk_26 rfl (lv_at hl 1 rfl) ?_
  refine lv_iconst (v := 5) hx hb dX1_walk_27 (by decide) ?_
  refine lv_idiv hx hb dX1_walk_28 (by decide) ?_
  refine lv_isub hx hb dX1_walk_29 ?_
  refine g_max (rest := [.ref (ad o)]) hx hb hml hl.1 hown hts mw_766 mw_598 mw_77 mw_cmax (by decide) (Nat.le_of_ble_eq_true rfl) (Nat.zero_le _) (Nat.zero_le _) dX1_walk_30 (fun x_3 ex_3 => ?_)
  have h := bn_at ex_3 h
  refine g_put (C := RX1) (T := TX1) (N := 12) (ci := 1) hx hb hts inX1 tyX1 tyX1_ok nmX1 hown hK hW hS h_o.2.2 (kd_herd h_o) rfl 3 (by decide) mw_346 rfl rfl rfl rfl (Nat.le_of_ble_eq_true rfl) (sv S_2 o 3 x_3) (ps_herd_3 h_o) cellOf_sv dX1_walk_33 (fun S_4 eS_4 H locs hW hS => ?_)
  have h := bn_at eS_4 h
  refine lv_aload_n hx hb dX1_walk_36 rfl (lv_at hl 0 rfl) ?_
  refine g_get (C := RX1) (T := TX1) (N := 12) (ci := 1) hx hb hts inX1 hown hK hW h_o.2.2 (kd_herd h_o) rfl 4 (by decide) mw_348 rfl rfl dX1_walk_37 ?_
  refine lv_bipush (v := 60) hx hb dX1_walk_40 (by decide) ?_
  refine lv_icmp_gt (tgt := 47) hx hb dX1_walk_42 (by decide) (fun c_5 => ?_) (fun c_5 => ?_)
  · have h := it_t c_5 h
    refine lv_aload_n hx hb dX1_walk_47 rfl (lv_at hl 0 rfl) ?_
    refine g_get (C := RX1) (T := TX1) (N := 12) (ci := 1) hx hb hts inX1 hown hK hW h_o.2.2 (kd_herd h_o) rfl 2 (by decide) mw_343 rfl rfl dX1_walk_48 ?_
    refine lv_aload_n hx hb dX1_walk_51 rfl (lv_at hl 0 rfl) ?_
    refine g_get (C := RX1) (T := TX1) (N := 12) (ci := 1) hx hb hts inX1 hown hK hW h_o.2.2 (kd_herd h_o) rfl 2 (by decide) mw_343 rfl rfl dX1_walk_52 ?_
    refine lv_bipush (v := 20) hx hb dX1_walk_55 (by decide) ?_
    refine lv_idiv hx hb dX1_walk_57 (by decide) ?_
    refine lv_iconst (v := 1) hx hb dX1_walk_58 (by decide) ?_
    refine lv_iadd hx hb dX1_walk_59 ?_
    refine g_min (rest := []) hx hb hml hl.1 hown hts mw_767 mw_445 mw_77 mw_cmin (by decide) (Nat.le_of_ble_eq_true rfl) (Nat.zero_le _) (Nat.zero_le _) dX1_walk_60 (fun x_6 ex_6 => ?_)
    have h := bn_at ex_6 h
    refine lv_istore_n (lv' := [(2, .int x_6), (0, .ref (ad o)), (1, .int p1)]) hx hb dX1_walk_63 rfl hl (by decide) rfl (fun ls hl => ?_)
    refine lv_aload_n hx hb dX1_walk_64 rfl (lv_at hl 1 rfl) ?_
    refine lv_dup hx hb dX1_walk_65 rfl ?_
    refine g_get (C := RX1) (T := TX1) (N := 12) (ci := 1) hx hb hts inX1 hown hK hW h_o.2.2 (kd_herd h_o) rfl 2 (by decide) mw_343 rfl rfl dX1_walk_66 ?_
    refine lv_iload_n hx hb dX1_walk_69 rfl (lv_at hl 0 rfl) ?_
    refine lv_isub hx hb dX1_walk_70 ?_
    refine g_put (C := RX1) (T := TX1) (N := 12) (ci := 1) hx hb hts inX1 tyX1 tyX1_ok nmX1 hown hK hW hS h_o.2.2 (kd_herd h_o) rfl 2 (by decide) mw_343 rfl rfl rfl rfl (Nat.le_of_ble_eq_true rfl) (sv S_4 o 2 ((gv S_4 o 2) - x_6)) (ps_herd_2 h_o) cellOf_sv dX1_walk_71 (fun S_7 eS_7 H locs hW hS => ?_)
    have h := bn_at eS_7 h
    refine lv_aload_n hx hb dX1_walk_74 rfl (lv_at hl 1 rfl) ?_
    refine lv_dup hx hb dX1_walk_75 rfl ?_
    refine g_get (C := RX1) (T := TX1) (N := 12) (ci := 1) hx hb hts inX1 hown hK hW h_o.2.2 (kd_herd h_o) rfl 8 (by decide) mw_357 rfl rfl dX1_walk_76 ?_
    refine lv_iload_n hx hb dX1_walk_79 rfl (lv_at hl 0 rfl) ?_
    refine lv_iadd hx hb dX1_walk_80 ?_
    refine g_put (C := RX1) (T := TX1) (N := 12) (ci := 1) hx hb hts inX1 tyX1 tyX1_ok nmX1 hown hK hW hS h_o.2.2 (kd_herd h_o) rfl 8 (by decide) mw_357 rfl rfl rfl rfl (Nat.le_of_ble_eq_true rfl) (sv S_7 o 8 ((gv S_7 o 8) + x_6)) (ps_herd_8 h_o) cellOf_sv dX1_walk_81 (fun S_8 eS_8 H locs hW hS => ?_)
    have h := bn_at eS_8 h
    refine lv_iload_n hx hb dX1_walk_84 rfl (lv_at hl 0 rfl) ?_
    cases h
    exact g_iret hx hb hr hlocks hW hS dX1_walk_85
  · have h := it_f c_5 h
    refine lv_iconst (v := 0) hx hb dX1_walk_45 (by decide) ?_
    cases h
    exact g_iret hx hb hr hlocks hW hS dX1_walk_46
theorem c_X1_walk (hB : Lk L) {o : Nat} (h_o : okh L o) {S : St} {r : Int32} {S9 : St} {p1 : Int32} (h : f_X1_walk S o p1 = some (r, S9)) : Met l yX1_walk (gws yX1_walk cX1_walk 3 (some .int)) (rmk 1) (va_Pc [.ref (ad o), .int p1] (WU g A ad L S)) (qi g A ad L r S9) 0 0 A :=
  g_met [.ref (ad o), .int p1] (by decide) (Nat.le_of_ble_eq_true rfl) (fun p e s m below meth c ls C hW hl _ => t_X1_walk C hB h_o h hW va_S.rf hl)
theorem hv_X1_walk : yX1_walk.cls = RX1 ∧ yX1_walk.cls ≠ "java/lang/invoke/MethodHandle" ∧ yX1_walk.cls ≠ "java/lang/invoke/VarHandle" ∧ (parseMethodDescriptor yX1_walk.desc).map (fun d => d.parameters.length) = some 1 := by decide +kernel
/-! DroveRoads$Herd.eat -/
def f_X1_eat_j59 (o : Nat) (S : St) : Option (St) := if 80 ≤ (gv S o 3) then (some S) else (bn (if (((gv S o 2) / 10) + 1) < (gv S o 2) then (((gv S o 2) / 10) + 1) else (gv S o 2)) fun x_8 => bn (sv S o 2 ((gv S o 2) - x_8)) fun S_9 => bn (sv S_9 o 10 ((gv S_9 o 10) + x_8)) fun S_10 => some S_10)
set_option maxHeartbeats 4000000 in
theorem t_X1_eat_j59 (C : MC p s m args meth c cX1_eat 4 none RX1 g A) (hB : Lk L) {o : Nat} (h_o : okh L o) {S : St} {S9 : St} (h : f_X1_eat_j59 o S = some S9) {H : Heap} {locs : List Loc} {ls : Array Slot} (hW : GW g A ad L S H) (hS : va_S A s.heap H locs) (hl : lv_has ls 4 [(0, .ref (ad o))]) : W p l e (rmk 2) s m args below meth c H locs 0 0 (MQ below (qv g A ad L S9) args s 0 0 A) (F0 m 59 ls []) := by
  obtain ⟨hx, hb, hml, hown, hts, hr, hlocks, hK, hN, hT⟩ := id C
  unfold f_X1_eat_j59 at h
  refine lv_aload_n hx hb dX1_eat_59 rfl (lv_at hl 0 rfl) ?_
  refine g_get (C := RX1) (T := TX1) (N := 12) (ci := 1) hx hb hts inX1 hown hK hW h_o.2.2 (kd_herd h_o) rfl 3 (by decide) mw_346 rfl rfl dX1_eat_60 ?_
  refine lv_bipush (v := 80) hx hb dX1_eat_63 (by decide) ?_
  refine lv_icmp_ge (tgt := 105) hx hb dX1_eat_65 (by decide) (fun c_7 => ?_) (fun c_7 => ?_)
  · have h := it_t c_7 h
    cases h
    exact g_vret hx hb hr hlocks hW hS dX1_eat_105
  · have h := it_f c_7 h
    refine lv_aload_n hx hb dX1_eat_68 rfl (lv_at hl 0 rfl) ?_
    refine g_get (C := RX1) (T := TX1) (N := 12) (ci := 1) hx hb hts inX1 hown hK hW h_o.2.2 (kd_herd h_o) rfl 2 (by decide) mw_343 rfl rfl dX1_eat_69 ?_
    refine lv_aload_n hx hb dX1_eat_72 rfl (lv_at hl 0 rfl) ?_
    refine g_get (C := RX1) (T := TX1) (N := 12) (ci := 1) hx hb hts inX1 hown hK hW h_o.2.2 (kd_herd h_o) rfl 2 (by decide) mw_343 rfl rfl dX1_eat_73 ?_
    refine lv_bipush (v := 10) hx hb dX1_eat_76 (by decide) ?_
    refine lv_idiv hx hb dX1_eat_78 (by decide) ?_
    refine lv_iconst (v := 1) hx hb dX1_eat_79 (by decide) ?_
    refine lv_iadd hx hb dX1_eat_80 ?_
    refine g_min (rest := []) hx hb hml hl.1 hown hts mw_767 mw_445 mw_77 mw_cmin (by decide) (Nat.le_of_ble_eq_true rfl) (Nat.zero_le _) (Nat.zero_le _) dX1_eat_81 (fun x_8 ex_8 => ?_)
    have h := bn_at ex_8 h
    refine lv_istore_n (lv' := [(3, .int x_8), (0, .ref (ad o))]) hx hb dX1_eat_84 rfl hl (by decide) rfl (fun ls hl => ?_)
    refine lv_aload_n hx hb dX1_eat_85 rfl (lv_at hl 1 rfl) ?_
    refine lv_dup hx hb dX1_eat_86 rfl ?_
    refine g_get (C := RX1) (T := TX1) (N := 12) (ci := 1) hx hb hts inX1 hown hK hW h_o.2.2 (kd_herd h_o) rfl 2 (by decide) mw_343 rfl rfl dX1_eat_87 ?_
    refine lv_iload_n hx hb dX1_eat_90 rfl (lv_at hl 0 rfl) ?_
    refine lv_isub hx hb dX1_eat_91 ?_
    refine g_put (C := RX1) (T := TX1) (N := 12) (ci := 1) hx hb hts inX1 tyX1 tyX1_ok nmX1 hown hK hW hS h_o.2.2 (kd_herd h_o) rfl 2 (by decide) mw_343 rfl rfl rfl rfl (Nat.le_of_ble_eq_true rfl) (sv S o 2 ((gv S o 2) - x_8)) (ps_herd_2 h_o) cellOf_sv dX1_eat_92 (fun S_9 eS_9 H locs hW hS => ?_)
    have h := bn_at eS_9 h
    refine lv_aload_n hx hb dX1_eat_95 rfl (lv_at hl 1 rfl) ?_
    refine lv_dup hx hb dX1_eat_96 rfl ?_
    refine g_get (C := RX1) (T := TX1) (N := 12) (ci := 1) hx hb hts inX1 hown hK hW h_o.2.2 (kd_herd h_o) rfl 10 (by decide) mw_359 rfl rfl dX1_eat_97 ?_
    refine lv_iload_n hx hb dX1_eat_100 rfl (lv_at hl 0 rfl) ?_
    refine lv_iadd hx hb dX1_eat_101 ?_
    refine g_put (C := RX1) (T := TX1) (N := 12) (ci := 1) hx hb hts inX1 tyX1 tyX1_ok nmX1 hown hK hW hS h_o.2.2 (kd_herd h_o) rfl 10 (by decide) mw_359 rfl rfl rfl rfl (Nat.le_of_ble_eq_true rfl) (sv S_9 o 10 ((gv S_9 o 10) + x_8)) (ps_herd_10 h_o) cellOf_sv dX1_eat_102 (fun S_10 eS_10 H locs hW hS => ?_)
    have h := bn_at eS_10 h
    cases h
    exact g_vret hx hb hr hlocks hW hS dX1_eat_105
def f_X1_eat_j35 (o : Nat) (S : St) (w101 : Int32) (w102 : Int32) (w103 : Int32) : Option (St) := bn (if (w102 + w103) < w101 then (w102 + w103) else w101) fun x_12 => bn (sv S o 3 x_12) fun S_13 => f_X1_eat_j59 o S_13
set_option maxHeartbeats 4000000 in
theorem t_X1_eat_j35 (C : MC p s m args meth c cX1_eat 4 none RX1 g A) (hB : Lk L) {o : Nat} (h_o : okh L o) {S : St} {S9 : St} {w101 : Int32} {w102 : Int32} {w103 : Int32} (h : f_X1_eat_j35 o S w101 w102 w103 = some S9) {H : Heap} {locs : List Loc} {ls : Array Slot} (hW : GW g A ad L S H) (hS : va_S A s.heap H locs) (hl : lv_has ls 4 [(0, .ref (ad o))]) : W p l e (rmk 2) s m args below meth c H locs 0 0 (MQ below (qv g A ad L S9) args s 0 0 A) (F0 m 35 ls [.int w103, .int w102, .int w101, .ref (ad o)]) := by
  obtain ⟨hx, hb, hml, hown, hts, hr, hlocks, hK, hN, hT⟩ := id C
  unfold f_X1_eat_j35 at h
  refine lv_iadd hx hb dX1_eat_35 ?_
  refine g_min (rest := [.ref (ad o)]) hx hb hml hl.1 hown hts mw_767 mw_445 mw_77 mw_cmin (by decide) (Nat.le_of_ble_eq_true rfl) (Nat.zero_le _) (Nat.zero_le _) dX1_eat_36 (fun x_12 ex_12 => ?_)
  have h := bn_at ex_12 h
  refine g_put (C := RX1) (T := TX1) (N := 12) (ci := 1) hx hb hts inX1 tyX1 tyX1_ok nmX1 hown hK hW hS h_o.2.2 (kd_herd h_o) rfl 3 (by decide) mw_346 rfl rfl rfl rfl (Nat.le_of_ble_eq_true rfl) (sv S o 3 x_12) (ps_herd_3 h_o) cellOf_sv dX1_eat_39 (fun S_13 eS_13 H locs hW hS => ?_)
  have h := bn_at eS_13 h
  refine lv_goto (tgt := 59) hx hb dX1_eat_42 (by decide) ?_
  exact t_X1_eat_j59 C hB h_o h hW hS (lv_sub hl [0] rfl)
def f_X1_eat (S : St) (o : Nat) (p1 : Int32) (p2 : Int32) : Option (St) := bn (sv S o 11 ((gv S o 11) + p1)) fun S_1 => cl0 (f_X1_want S_1 o) fun r_3 => if p1 < r_3 then (bn (if 0 < ((gv S_1 o 3) - 4) then ((gv S_1 o 3) - 4) else 0) fun x_5 => bn (sv S_1 o 3 x_5) fun S_6 => f_X1_eat_j59 o S_6) else (if p2 = 0 then (f_X1_eat_j35 o S_1 700 (gv S_1 o 3) 3) else (f_X1_eat_j35 o S_1 700 (gv S_1 o 3) 1))
set_option maxHeartbeats 4000000 in
theorem t_X1_eat (C : MC p s m args meth c cX1_eat 4 none RX1 g A) (hB : Lk L) {o : Nat} (h_o : okh L o) {S : St} {S9 : St} {p1 : Int32} {p2 : Int32} (h : f_X1_eat S o p1 p2 = some S9) {H : Heap} {locs : List Loc} {ls : Array Slot} (hW : GW g A ad L S H) (hS : va_S A s.heap H locs) (hl : lv_has ls 4 [(0, .ref (ad o)), (1, .int p1), (2, .int p2)]) : W p l e (rmk 2) s m args below meth c H locs 0 0 (MQ below (qv g A ad L S9) args s 0 0 A) (F0 m 0 ls []) := by
  obtain ⟨hx, hb, hml, hown, hts, hr, hlocks, hK, hN, hT⟩ := id C
  unfold f_X1_eat at h
  refine lv_aload_n hx hb dX1_eat_0 rfl (lv_at hl 0 rfl) ?_
  refine lv_dup hx hb dX1_eat_1 rfl ?_
  refine g_get (C := RX1) (T := TX1) (N := 12) (ci := 1) hx hb hts inX1 hown hK hW h_o.2.2 (kd_herd h_o) rfl 11 (by decide) mw_360 rfl rfl dX1_eat_2 ?_
  refine lv_iload_n hx hb dX1_eat_5 rfl (lv_at hl 1 rfl) ?_
  refine lv_iadd hx hb dX1_eat_6 ?_
  refine g_put (C := RX1) (T := TX1) (N := 12) (ci := 1) hx hb hts inX1 tyX1 tyX1_ok nmX1 hown hK hW hS h_o.2.2 (kd_herd h_o) rfl 11 (by decide) mw_360 rfl rfl rfl rfl (Nat.le_of_ble_eq_true rfl) (sv S o 11 ((gv S o 11) + p1)) (ps_herd_11 h_o) cellOf_sv dX1_eat_7 (fun S_1 eS_1 H locs hW hS => ?_)
  have h := bn_at eS_1 h
  refine lv_iload_n hx hb dX1_eat_10 rfl (lv_at hl 1 rfl) ?_
  refine lv_aload_n hx hb dX1_eat_11 rfl (lv_at hl 0 rfl) ?_
  obtain ⟨r_3, hc_2, h⟩ := cl0_ex h
  refine g_ci (g_runV (ci := 1) (o := o) (As := []) (rest := [.int p1]) hx hb hml hown hts hK hN hT hS hW (c_X1_want hB h_o hc_2) h_o.2.2 (kd_herd h_o) rfl (gw_V mw_800 mw_731 mw_732 mw_74 mw_733) hv_X1_want rfl rfl rfl (rm_ok (by decide) (by decide)) hl.1 (Nat.le_of_ble_eq_true rfl) dX1_eat_12 rfl ⟨Nat.zero_le _, Nat.zero_le _⟩) hS (fun H locs hW hS => ?_)
  refine lv_icmp_lt (tgt := 45) hx hb dX1_eat_15 (by decide) (fun c_4 => ?_) (fun c_4 => ?_)
  · have h := it_t c_4 h
    refine lv_aload_n hx hb dX1_eat_45 rfl (lv_at hl 0 rfl) ?_
    refine lv_iconst (v := 0) hx hb dX1_eat_46 (by decide) ?_
    refine lv_aload_n hx hb dX1_eat_47 rfl (lv_at hl 0 rfl) ?_
    refine g_get (C := RX1) (T := TX1) (N := 12) (ci := 1) hx hb hts inX1 hown hK hW h_o.2.2 (kd_herd h_o) rfl 3 (by decide) mw_346 rfl rfl dX1_eat_48 ?_
    refine lv_iconst (v := 4) hx hb dX1_eat_51 (by decide) ?_
    refine lv_isub hx hb dX1_eat_52 ?_
    refine g_max (rest := [.ref (ad o)]) hx hb hml hl.1 hown hts mw_766 mw_598 mw_77 mw_cmax (by decide) (Nat.le_of_ble_eq_true rfl) (Nat.zero_le _) (Nat.zero_le _) dX1_eat_53 (fun x_5 ex_5 => ?_)
    have h := bn_at ex_5 h
    refine g_put (C := RX1) (T := TX1) (N := 12) (ci := 1) hx hb hts inX1 tyX1 tyX1_ok nmX1 hown hK hW hS h_o.2.2 (kd_herd h_o) rfl 3 (by decide) mw_346 rfl rfl rfl rfl (Nat.le_of_ble_eq_true rfl) (sv S_1 o 3 x_5) (ps_herd_3 h_o) cellOf_sv dX1_eat_56 (fun S_6 eS_6 H locs hW hS => ?_)
    have h := bn_at eS_6 h
    exact t_X1_eat_j59 C hB h_o h hW hS (lv_sub hl [0] rfl)
  · have h := it_f c_4 h
    refine lv_aload_n hx hb dX1_eat_18 rfl (lv_at hl 0 rfl) ?_
    refine lv_sipush (v := 700) hx hb dX1_eat_19 (by decide) ?_
    refine lv_aload_n hx hb dX1_eat_22 rfl (lv_at hl 0 rfl) ?_
    refine g_get (C := RX1) (T := TX1) (N := 12) (ci := 1) hx hb hts inX1 hown hK hW h_o.2.2 (kd_herd h_o) rfl 3 (by decide) mw_346 rfl rfl dX1_eat_23 ?_
    refine lv_iload_n hx hb dX1_eat_26 rfl (lv_at hl 2 rfl) ?_
    refine lv_if_eq (tgt := 34) hx hb dX1_eat_27 (by decide) (fun c_11 => ?_) (fun c_11 => ?_)
    · have h := it_t c_11 h
      refine lv_iconst (v := 3) hx hb dX1_eat_34 (by decide) ?_
      exact t_X1_eat_j35 C hB h_o h hW hS (lv_sub hl [0] rfl)
    · have h := it_f c_11 h
      refine lv_iconst (v := 1) hx hb dX1_eat_30 (by decide) ?_
      refine lv_goto (tgt := 35) hx hb dX1_eat_31 (by decide) ?_
      exact t_X1_eat_j35 C hB h_o h hW hS (lv_sub hl [0] rfl)
theorem c_X1_eat (hB : Lk L) {o : Nat} (h_o : okh L o) {S : St} {S9 : St} {p1 : Int32} {p2 : Int32} (h : f_X1_eat S o p1 p2 = some S9) : Met l yX1_eat (gws yX1_eat cX1_eat 4 none) (rmk 2) (va_Pc [.ref (ad o), .int p1, .int p2] (WU g A ad L S)) (qv g A ad L S9) 0 0 A :=
  g_met [.ref (ad o), .int p1, .int p2] (by decide) (Nat.le_of_ble_eq_true rfl) (fun p e s m below meth c ls C hW hl _ => t_X1_eat C hB h_o h hW va_S.rf hl)
theorem hv_X1_eat : yX1_eat.cls = RX1 ∧ yX1_eat.cls ≠ "java/lang/invoke/MethodHandle" ∧ yX1_eat.cls ≠ "java/lang/invoke/VarHandle" ∧ (parseMethodDescriptor yX1_eat.desc).map (fun d => d.parameters.length) = some 2 := by decide +kernel
/-! DroveRoads$Herd.tell -/
def f_X1_tell (L : List Nat) (S : St) (o : Nat) (p1 : Int32) : Option (Int32) := if p1 = 0 then (some (gv S o 2)) else if p1 = 1 then (some (gv S o 3)) else if p1 = 2 then (some (gv S o 4)) else if p1 = 3 then (some (gv S o 5)) else if p1 = 4 then (some (gv S o 7)) else if p1 = 5 then (some (gv S o 8)) else if p1 = 6 then (some (gv S o 9)) else if p1 = 7 then (some (gv S o 10)) else if p1 = 8 then (oc (gr S o 6) (none) fun n_10 => if oko L n_10 then (some (gv S n_10 3)) else none) else if p1 = 9 then (some (gv S o 11)) else (some (-1))
set_option maxHeartbeats 4000000 in
theorem t_X1_tell (C : MC p s m args meth c cX1_tell 2 (some .int) RX1 g A) (hB : Lk L) {o : Nat} (h_o : okh L o) {S : St} {r : Int32} {p1 : Int32} (h : f_X1_tell L S o p1 = some r) {H : Heap} {locs : List Loc} {ls : Array Slot} (hW : GW g A ad L S H) (hS : va_S A s.heap H locs) (hl : lv_has ls 2 [(0, .ref (ad o)), (1, .int p1)]) : W p l e (rmk 1) s m args below meth c H locs 0 0 (MQ below (qi g A ad L r S) args s 0 0 A) (F0 m 0 ls []) := by
  obtain ⟨hx, hb, hml, hown, hts, hr, hlocks, hK, hN, hT⟩ := id C
  unfold f_X1_tell at h
  refine lv_iload_n hx hb dX1_tell_0 rfl (lv_at hl 1 rfl) ?_
  by_cases c_1 : p1 = 0
  · have h := it_t c_1 h
    refine lv_tableIn (tgt := 56) hx hb dX1_tell_1 (by rw [c_1]; decide) (by rw [c_1]; decide) (by rw [c_1]; rfl) (by decide) ?_
    refine lv_aload_n hx hb dX1_tell_56 rfl (lv_at hl 0 rfl) ?_
    refine g_get (C := RX1) (T := TX1) (N := 12) (ci := 1) hx hb hts inX1 hown hK hW h_o.2.2 (kd_herd h_o) rfl 2 (by decide) mw_343 rfl rfl dX1_tell_57 ?_
    cases h
    exact g_iret hx hb hr hlocks hW hS dX1_tell_60
  have h := it_f c_1 h
  by_cases c_2 : p1 = 1
  · have h := it_t c_2 h
    refine lv_tableIn (tgt := 61) hx hb dX1_tell_1 (by rw [c_2]; decide) (by rw [c_2]; decide) (by rw [c_2]; rfl) (by decide) ?_
    refine lv_aload_n hx hb dX1_tell_61 rfl (lv_at hl 0 rfl) ?_
    refine g_get (C := RX1) (T := TX1) (N := 12) (ci := 1) hx hb hts inX1 hown hK hW h_o.2.2 (kd_herd h_o) rfl 3 (by decide) mw_346 rfl rfl dX1_tell_62 ?_
    cases h
    exact g_iret hx hb hr hlocks hW hS dX1_tell_65
  have h := it_f c_2 h
  by_cases c_3 : p1 = 2
  · have h := it_t c_3 h
    refine lv_tableIn (tgt := 66) hx hb dX1_tell_1 (by rw [c_3]; decide) (by rw [c_3]; decide) (by rw [c_3]; rfl) (by decide) ?_
    refine lv_aload_n hx hb dX1_tell_66 rfl (lv_at hl 0 rfl) ?_
    refine g_get (C := RX1) (T := TX1) (N := 12) (ci := 1) hx hb hts inX1 hown hK hW h_o.2.2 (kd_herd h_o) rfl 4 (by decide) mw_348 rfl rfl dX1_tell_67 ?_
    cases h
    exact g_iret hx hb hr hlocks hW hS dX1_tell_70
  have h := it_f c_3 h
  by_cases c_4 : p1 = 3
  · have h := it_t c_4 h
    refine lv_tableIn (tgt := 71) hx hb dX1_tell_1 (by rw [c_4]; decide) (by rw [c_4]; decide) (by rw [c_4]; rfl) (by decide) ?_
    refine lv_aload_n hx hb dX1_tell_71 rfl (lv_at hl 0 rfl) ?_
    refine g_get (C := RX1) (T := TX1) (N := 12) (ci := 1) hx hb hts inX1 hown hK hW h_o.2.2 (kd_herd h_o) rfl 5 (by decide) mw_351 rfl rfl dX1_tell_72 ?_
    cases h
    exact g_iret hx hb hr hlocks hW hS dX1_tell_75
  have h := it_f c_4 h
  by_cases c_5 : p1 = 4
  · have h := it_t c_5 h
    refine lv_tableIn (tgt := 76) hx hb dX1_tell_1 (by rw [c_5]; decide) (by rw [c_5]; decide) (by rw [c_5]; rfl) (by decide) ?_
    refine lv_aload_n hx hb dX1_tell_76 rfl (lv_at hl 0 rfl) ?_
    refine g_get (C := RX1) (T := TX1) (N := 12) (ci := 1) hx hb hts inX1 hown hK hW h_o.2.2 (kd_herd h_o) rfl 7 (by decide) mw_356 rfl rfl dX1_tell_77 ?_
    cases h
    exact g_iret hx hb hr hlocks hW hS dX1_tell_80
  have h := it_f c_5 h
  by_cases c_6 : p1 = 5
  · have h := it_t c_6 h
    refine lv_tableIn (tgt := 81) hx hb dX1_tell_1 (by rw [c_6]; decide) (by rw [c_6]; decide) (by rw [c_6]; rfl) (by decide) ?_
    refine lv_aload_n hx hb dX1_tell_81 rfl (lv_at hl 0 rfl) ?_
    refine g_get (C := RX1) (T := TX1) (N := 12) (ci := 1) hx hb hts inX1 hown hK hW h_o.2.2 (kd_herd h_o) rfl 8 (by decide) mw_357 rfl rfl dX1_tell_82 ?_
    cases h
    exact g_iret hx hb hr hlocks hW hS dX1_tell_85
  have h := it_f c_6 h
  by_cases c_7 : p1 = 6
  · have h := it_t c_7 h
    refine lv_tableIn (tgt := 86) hx hb dX1_tell_1 (by rw [c_7]; decide) (by rw [c_7]; decide) (by rw [c_7]; rfl) (by decide) ?_
    refine lv_aload_n hx hb dX1_tell_86 rfl (lv_at hl 0 rfl) ?_
    refine g_get (C := RX1) (T := TX1) (N := 12) (ci := 1) hx hb hts inX1 hown hK hW h_o.2.2 (kd_herd h_o) rfl 9 (by decide) mw_358 rfl rfl dX1_tell_87 ?_
    cases h
    exact g_iret hx hb hr hlocks hW hS dX1_tell_90
  have h := it_f c_7 h
  by_cases c_8 : p1 = 7
  · have h := it_t c_8 h
    refine lv_tableIn (tgt := 91) hx hb dX1_tell_1 (by rw [c_8]; decide) (by rw [c_8]; decide) (by rw [c_8]; rfl) (by decide) ?_
    refine lv_aload_n hx hb dX1_tell_91 rfl (lv_at hl 0 rfl) ?_
    refine g_get (C := RX1) (T := TX1) (N := 12) (ci := 1) hx hb hts inX1 hown hK hW h_o.2.2 (kd_herd h_o) rfl 10 (by decide) mw_359 rfl rfl dX1_tell_92 ?_
    cases h
    exact g_iret hx hb hr hlocks hW hS dX1_tell_95
  have h := it_f c_8 h
  by_cases c_9 : p1 = 8
  · have h := it_t c_9 h
    refine lv_tableIn (tgt := 96) hx hb dX1_tell_1 (by rw [c_9]; decide) (by rw [c_9]; decide) (by rw [c_9]; rfl) (by decide) ?_
    refine lv_aload_n hx hb dX1_tell_96 rfl (lv_at hl 0 rfl) ?_
    refine g_get (C := RX1) (T := TX1) (N := 12) (ci := 1) hx hb hts inX1 hown hK hW h_o.2.2 (kd_herd h_o) rfl 6 (by decide) mw_354 rfl rfl dX1_tell_97 ?_
    rcases hq_11 : (gr S o 6) with _ | n_10
    · rw [hq_11] at h
      cases h
    · rw [hq_11] at h
      obtain ⟨hn_12, h⟩ := ck_t h
      refine W.eq (g2 := F0 m 100 ls (.ref (ad n_10) :: [])) rfl ?_
      refine g_get (C := RX5) (T := TX5) (N := 5) (ci := 5) hx hb hts inX5 hown hK hW hn_12.2.2.1 (kd_ord hn_12) rfl 3 (by decide) mw_234 rfl rfl dX1_tell_100 ?_
      cases h
      exact g_iret hx hb hr hlocks hW hS dX1_tell_103
  have h := it_f c_9 h
  by_cases c_13 : p1 = 9
  · have h := it_t c_13 h
    refine lv_tableIn (tgt := 104) hx hb dX1_tell_1 (by rw [c_13]; decide) (by rw [c_13]; decide) (by rw [c_13]; rfl) (by decide) ?_
    refine lv_aload_n hx hb dX1_tell_104 rfl (lv_at hl 0 rfl) ?_
    refine g_get (C := RX1) (T := TX1) (N := 12) (ci := 1) hx hb hts inX1 hown hK hW h_o.2.2 (kd_herd h_o) rfl 11 (by decide) mw_360 rfl rfl dX1_tell_105 ?_
    cases h
    exact g_iret hx hb hr hlocks hW hS dX1_tell_108
  have h := it_f c_13 h
  have nc_1 := lv_neT c_1 (a := 0) rfl
  have nc_2 := lv_neT c_2 (a := 1) rfl
  have nc_3 := lv_neT c_3 (a := 2) rfl
  have nc_4 := lv_neT c_4 (a := 3) rfl
  have nc_5 := lv_neT c_5 (a := 4) rfl
  have nc_6 := lv_neT c_6 (a := 5) rfl
  have nc_7 := lv_neT c_7 (a := 6) rfl
  have nc_8 := lv_neT c_8 (a := 7) rfl
  have nc_9 := lv_neT c_9 (a := 8) rfl
  have nc_13 := lv_neT c_13 (a := 9) rfl
  refine lv_tableOut (tgt := 109) hx hb dX1_tell_1 (by omega) (by decide) ?_
  refine lv_iconst (v := (-1)) hx hb dX1_tell_109 (by decide) ?_
  cases h
  exact g_iret hx hb hr hlocks hW hS dX1_tell_110
theorem c_X1_tell (hB : Lk L) {o : Nat} (h_o : okh L o) {S : St} {r : Int32} {p1 : Int32} (h : f_X1_tell L S o p1 = some r) : Met l yX1_tell (gws yX1_tell cX1_tell 2 (some .int)) (rmk 1) (va_Pc [.ref (ad o), .int p1] (WU g A ad L S)) (qi g A ad L r S) 0 0 A :=
  g_met [.ref (ad o), .int p1] (by decide) (Nat.le_of_ble_eq_true rfl) (fun p e s m below meth c ls C hW hl _ => t_X1_tell C hB h_o h hW va_S.rf hl)
theorem hv_X1_tell : yX1_tell.cls = RX1 ∧ yX1_tell.cls ≠ "java/lang/invoke/MethodHandle" ∧ yX1_tell.cls ≠ "java/lang/invoke/VarHandle" ∧ (parseMethodDescriptor yX1_tell.desc).map (fun d => d.parameters.length) = some 1 := by decide +kernel
end S11
