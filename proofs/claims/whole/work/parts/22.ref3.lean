section S22
variable {p : Program} {l : Launch} {e : Env} {s : State} {m : MethodId} {args : Array Value} {below : List Frame} {meth : Method} {c : Code} {A : Nat → Prop} {g : Cx} {ad : Nat → Nat} {L : List Nat} {N : Nat} {q0 : Nat}
/-! DroveRoadsModel.settleOnes -/
def f_X11_settleOnes_j29 (N : Nat) (kb : St → Int32 → Option (St)) (k : St → Option (St)) (S : St) (v1 : Int32) (w100 : Int32) : Option (St) := if w100 = 48 then (kb S 0) else (if v1 = 0 then (cl0 (f_X11_pop S) fun S_7 => kb S_7 1) else (if w100 = 41 then (kb S 0) else (cl0 (f_X11_pop S) fun S_10 => kb S_10 1)))
set_option maxHeartbeats 4000000 in
theorem t_X11_settleOnes_j29 (C : MC p s m args meth c cX11_settleOnes 4 none RX11 g A) (hB : Lk L) {S : St} {S9 : St} {v1 : Int32} {w100 : Int32} {kb : St → Int32 → Option (St)} {k : St → Option (St)} (hkb : ∀ (S : St) (u2 : Int32), kb S u2 = some S9 → ∀ (H : Heap) (locs : List Loc) (ls : Array Slot), GW g A ad L S H → va_S A s.heap H locs → lv_has ls 4 [(0, .ref (ad 200)), (1, .int v1), (2, .int u2)] → W p l e (rmk 3) s m args below meth c H locs 0 0 (MQ below (qv g A ad L S9) args s 0 0 A) (F0 m 2 ls [])) (hk : ∀ (S : St), k S = some S9 → ∀ (H : Heap) (locs : List Loc) (ls : Array Slot), GW g A ad L S H → va_S A s.heap H locs → lv_has ls 4 [] → W p l e (rmk 3) s m args below meth c H locs 0 0 (MQ below (qv g A ad L S9) args s 0 0 A) (F0 m 63 ls [])) (h : f_X11_settleOnes_j29 N kb k S v1 w100 = some S9) {H : Heap} {locs : List Loc} {ls : Array Slot} (hW : GW g A ad L S H) (hS : va_S A s.heap H locs) (hl : lv_has ls 4 [(0, .ref (ad 200)), (1, .int v1)]) : W p l e (rmk 3) s m args below meth c H locs 0 0 (MQ below (qv g A ad L S9) args s 0 0 A) (F0 m 29 ls [.int w100]) := by
  obtain ⟨hx, hb, hml, hown, hts, hr, hlocks, hK, hN, hT⟩ := id C
  unfold f_X11_settleOnes_j29 at h
  refine lv_istore_n (lv' := [(3, .int w100), (0, .ref (ad 200)), (1, .int v1)]) hx hb dX11_settleOnes_29 rfl hl (by decide) rfl (fun ls hl => ?_)
  refine lv_iload_n hx hb dX11_settleOnes_30 rfl (lv_at hl 0 rfl) ?_
  refine lv_bipush (v := 48) hx hb dX11_settleOnes_31 (by decide) ?_
  refine lv_icmp_eq (tgt := 50) hx hb dX11_settleOnes_33 (by decide) (fun c_4 => ?_) (fun c_4 => ?_)
  · have h := it_t c_4 h
    refine lv_iconst (v := 0) hx hb dX11_settleOnes_50 (by decide) ?_
    refine lv_istore_n (lv' := [(2, .int 0), (3, .int w100), (0, .ref (ad 200)), (1, .int v1)]) hx hb dX11_settleOnes_51 rfl hl (by decide) rfl (fun ls hl => ?_)
    refine lv_iload_n hx hb dX11_settleOnes_52 rfl (lv_at hl 0 rfl) ?_
    refine lv_if_eq (tgt := 60) hx hb dX11_settleOnes_53 (by decide) (fun _ => ?_) (fun c9 => absurd c9 (by decide))
    refine lv_goto (tgt := 2) hx hb dX11_settleOnes_60 (by decide) ?_
    exact hkb _ _ h _ _ _ hW hS (lv_sub hl [2, 3, 0] rfl)
  · have h := it_f c_4 h
    refine lv_iload_n hx hb dX11_settleOnes_36 rfl (lv_at hl 2 rfl) ?_
    refine lv_if_eq (tgt := 46) hx hb dX11_settleOnes_37 (by decide) (fun c_5 => ?_) (fun c_5 => ?_)
    · have h := it_t c_5 h
      refine lv_iconst (v := 1) hx hb dX11_settleOnes_46 (by decide) ?_
      refine lv_goto (tgt := 51) hx hb dX11_settleOnes_47 (by decide) ?_
      refine lv_istore_n (lv' := [(2, .int 1), (3, .int w100), (0, .ref (ad 200)), (1, .int v1)]) hx hb dX11_settleOnes_51 rfl hl (by decide) rfl (fun ls hl => ?_)
      refine lv_iload_n hx hb dX11_settleOnes_52 rfl (lv_at hl 0 rfl) ?_
      refine lv_if_eq (tgt := 60) hx hb dX11_settleOnes_53 (by decide) (fun c9 => absurd c9 (by decide)) (fun _ => ?_)
      refine lv_aload_n hx hb dX11_settleOnes_56 rfl (lv_at hl 2 rfl) ?_
      obtain ⟨S_7, hc_6, h⟩ := cl0_ex h
      refine g_cv (g_runV (ci := 11) (o := 200) (As := []) (rest := []) hx hb hml hown hts hK hN hT hS hW (c_X11_pop hB hc_6) (hB 200 bb_200) kd_200 rfl (gw_V mw_1279 mw_1281 mw_49 mw_73 mw_1282) hv_X11_pop rfl rfl rfl (rm_ok (by decide) (by decide)) hl.1 (Nat.le_of_ble_eq_true rfl) dX11_settleOnes_57 rfl ⟨Nat.zero_le _, Nat.zero_le _⟩) hS (fun H locs hW hS => ?_)
      refine lv_goto (tgt := 2) hx hb dX11_settleOnes_60 (by decide) ?_
      exact hkb _ _ h _ _ _ hW hS (lv_sub hl [2, 3, 0] rfl)
    · have h := it_f c_5 h
      refine lv_iload_n hx hb dX11_settleOnes_40 rfl (lv_at hl 0 rfl) ?_
      refine lv_bipush (v := 41) hx hb dX11_settleOnes_41 (by decide) ?_
      refine lv_icmp_eq (tgt := 50) hx hb dX11_settleOnes_43 (by decide) (fun c_8 => ?_) (fun c_8 => ?_)
      · have h := it_t c_8 h
        refine lv_iconst (v := 0) hx hb dX11_settleOnes_50 (by decide) ?_
        refine lv_istore_n (lv' := [(2, .int 0), (3, .int w100), (0, .ref (ad 200)), (1, .int v1)]) hx hb dX11_settleOnes_51 rfl hl (by decide) rfl (fun ls hl => ?_)
        refine lv_iload_n hx hb dX11_settleOnes_52 rfl (lv_at hl 0 rfl) ?_
        refine lv_if_eq (tgt := 60) hx hb dX11_settleOnes_53 (by decide) (fun _ => ?_) (fun c9 => absurd c9 (by decide))
        refine lv_goto (tgt := 2) hx hb dX11_settleOnes_60 (by decide) ?_
        exact hkb _ _ h _ _ _ hW hS (lv_sub hl [2, 3, 0] rfl)
      · have h := it_f c_8 h
        refine lv_iconst (v := 1) hx hb dX11_settleOnes_46 (by decide) ?_
        refine lv_goto (tgt := 51) hx hb dX11_settleOnes_47 (by decide) ?_
        refine lv_istore_n (lv' := [(2, .int 1), (3, .int w100), (0, .ref (ad 200)), (1, .int v1)]) hx hb dX11_settleOnes_51 rfl hl (by decide) rfl (fun ls hl => ?_)
        refine lv_iload_n hx hb dX11_settleOnes_52 rfl (lv_at hl 0 rfl) ?_
        refine lv_if_eq (tgt := 60) hx hb dX11_settleOnes_53 (by decide) (fun c9 => absurd c9 (by decide)) (fun _ => ?_)
        refine lv_aload_n hx hb dX11_settleOnes_56 rfl (lv_at hl 2 rfl) ?_
        obtain ⟨S_10, hc_9, h⟩ := cl0_ex h
        refine g_cv (g_runV (ci := 11) (o := 200) (As := []) (rest := []) hx hb hml hown hts hK hN hT hS hW (c_X11_pop hB hc_9) (hB 200 bb_200) kd_200 rfl (gw_V mw_1279 mw_1281 mw_49 mw_73 mw_1282) hv_X11_pop rfl rfl rfl (rm_ok (by decide) (by decide)) hl.1 (Nat.le_of_ble_eq_true rfl) dX11_settleOnes_57 rfl ⟨Nat.zero_le _, Nat.zero_le _⟩) hS (fun H locs hW hS => ?_)
        refine lv_goto (tgt := 2) hx hb dX11_settleOnes_60 (by decide) ?_
        exact hkb _ _ h _ _ _ hW hS (lv_sub hl [2, 3, 0] rfl)
def f_X11_settleOnes_l2 (N : Nat) (v1 : Int32) (k : St → Option (St)) : Nat → St → Int32 → Option (St)
  | 0, _, _ => none
  | n + 1, S, v2 => if v2 = 0 then (k S) else (if (gv S 200 47) = 0 then (f_X11_settleOnes_j29 N (f_X11_settleOnes_l2 N v1 k n) k S v1 48) else (if ((gv S 200 47) - 1) < 0 ∨ 400 ≤ ix ((gv S 200 47) - 1) then none else f_X11_settleOnes_j29 N (f_X11_settleOnes_l2 N v1 k n) k S v1 (gv S 247 (ix ((gv S 200 47) - 1)))))
set_option maxHeartbeats 4000000 in
theorem t_X11_settleOnes_l2 (C : MC p s m args meth c cX11_settleOnes 4 none RX11 g A) (hB : Lk L) {v1 : Int32} {S9 : St} {k : St → Option (St)} (hk : ∀ (S : St), k S = some S9 → ∀ (H : Heap) (locs : List Loc) (ls : Array Slot), GW g A ad L S H → va_S A s.heap H locs → lv_has ls 4 [] → W p l e (rmk 3) s m args below meth c H locs 0 0 (MQ below (qv g A ad L S9) args s 0 0 A) (F0 m 63 ls [])) : ∀ (n : Nat) (S : St) (v2 : Int32), f_X11_settleOnes_l2 N v1 k n S v2 = some S9 → ∀ (H : Heap) (locs : List Loc) (ls : Array Slot), GW g A ad L S H → va_S A s.heap H locs → lv_has ls 4 [(0, .ref (ad 200)), (1, .int v1), (2, .int v2)] → W p l e (rmk 3) s m args below meth c H locs 0 0 (MQ below (qv g A ad L S9) args s 0 0 A) (F0 m 2 ls []) := by
  obtain ⟨hx, hb, hml, hown, hts, hr, hlocks, hK, hN, hT⟩ := id C
  intro n
  induction n with
  | zero =>
    intro S v2 h
    have h : (none : Option (St)) = some S9 := h
    cases h
  | succ n ih =>
    intro S v2 h H locs ls hW hS hl
    rw [f_X11_settleOnes_l2] at h
    refine lv_iload_n hx hb dX11_settleOnes_2 rfl (lv_at hl 2 rfl) ?_
    refine lv_if_eq (tgt := 63) hx hb dX11_settleOnes_3 (by decide) (fun c_1 => ?_) (fun c_1 => ?_)
    · have h := it_t c_1 h
      exact hk _ h _ _ _ hW hS (lv_sub hl [] rfl)
    · have h := it_f c_1 h
      refine lv_aload_n hx hb dX11_settleOnes_6 rfl (lv_at hl 0 rfl) ?_
      refine g_get (C := RX11) (T := TX11) (N := 67) (ci := 11) hx hb hts inX11 hown hK hW (hB 200 bb_200) kd_200 rfl 47 (by decide) mw_1008 rfl rfl dX11_settleOnes_7 ?_
      refine lv_if_ne (tgt := 18) hx hb dX11_settleOnes_10 (by decide) (fun c_2 => ?_) (fun c_2 => ?_)
      · have h := it_f c_2 h
        refine lv_aload_n hx hb dX11_settleOnes_18 rfl (lv_at hl 0 rfl) ?_
        refine g_get (C := RX11) (T := TX11) (N := 67) (ci := 11) hx hb hts inX11 hown hK hW (hB 200 bb_200) kd_200 rfl 46 (by decide) mw_1007 rfl rfl dX11_settleOnes_19 ?_
        refine lv_aload_n hx hb dX11_settleOnes_22 rfl (lv_at hl 0 rfl) ?_
        refine g_get (C := RX11) (T := TX11) (N := 67) (ci := 11) hx hb hts inX11 hown hK hW (hB 200 bb_200) kd_200 rfl 47 (by decide) mw_1008 rfl rfl dX11_settleOnes_23 ?_
        refine lv_iconst (v := 1) hx hb dX11_settleOnes_26 (by decide) ?_
        refine lv_isub hx hb dX11_settleOnes_27 ?_
        obtain ⟨hi_3, h⟩ := ck_n h
        refine g_iald hx hb hK hW (hB 247 bb_247) kd_247 hi_3 dX11_settleOnes_28 ?_
        exact t_X11_settleOnes_j29 C hB ih hk h hW hS (lv_sub hl [0, 1] rfl)
      · have h := it_t c_2 h
        refine lv_bipush (v := 48) hx hb dX11_settleOnes_13 (by decide) ?_
        refine lv_goto (tgt := 29) hx hb dX11_settleOnes_15 (by decide) ?_
        exact t_X11_settleOnes_j29 C hB ih hk h hW hS (lv_sub hl [0, 1] rfl)
def f_X11_settleOnes (N : Nat) (S : St) (p1 : Int32) : Option (St) := f_X11_settleOnes_l2 N p1 (fun S_11 => some S_11) N S 1
set_option maxHeartbeats 4000000 in
theorem t_X11_settleOnes (C : MC p s m args meth c cX11_settleOnes 4 none RX11 g A) (hB : Lk L) {S : St} {S9 : St} {p1 : Int32} (h : f_X11_settleOnes N S p1 = some S9) {H : Heap} {locs : List Loc} {ls : Array Slot} (hW : GW g A ad L S H) (hS : va_S A s.heap H locs) (hl : lv_has ls 4 [(0, .ref (ad 200)), (1, .int p1)]) : W p l e (rmk 3) s m args below meth c H locs 0 0 (MQ below (qv g A ad L S9) args s 0 0 A) (F0 m 0 ls []) := by
  obtain ⟨hx, hb, hml, hown, hts, hr, hlocks, hK, hN, hT⟩ := id C
  unfold f_X11_settleOnes at h
  refine lv_iconst (v := 1) hx hb dX11_settleOnes_0 (by decide) ?_
  refine lv_istore_n (lv' := [(2, .int 1), (0, .ref (ad 200)), (1, .int p1)]) hx hb dX11_settleOnes_1 rfl hl (by decide) rfl (fun ls hl => ?_)
  refine t_X11_settleOnes_l2 C hB ?_ _ _ _ h _ _ _ hW hS (lv_sub hl [1, 2, 0] rfl)
  intro S_11 h H locs ls hW hS hl
  cases h
  exact g_vret hx hb hr hlocks hW hS dX11_settleOnes_63
theorem c_X11_settleOnes (hB : Lk L) {S : St} {S9 : St} {p1 : Int32} (h : f_X11_settleOnes N S p1 = some S9) : Met l yX11_settleOnes (gws yX11_settleOnes cX11_settleOnes 4 none) (rmk 3) (va_Pc [.ref (ad 200), .int p1] (WU g A ad L S)) (qv g A ad L S9) 0 0 A :=
  g_met [.ref (ad 200), .int p1] (by decide) (Nat.le_of_ble_eq_true rfl) (fun p e s m below meth c ls C hW hl _ => t_X11_settleOnes C hB h hW va_S.rf hl)
theorem hv_X11_settleOnes : yX11_settleOnes.cls = RX11 ∧ yX11_settleOnes.cls ≠ "java/lang/invoke/MethodHandle" ∧ yX11_settleOnes.cls ≠ "java/lang/invoke/VarHandle" ∧ (parseMethodDescriptor yX11_settleOnes.desc).map (fun d => d.parameters.length) = some 1 := by decide +kernel
/-! DroveRoadsModel.operand -/
def f_X11_operand_j97 (N : Nat) (S : St) (v1 : Int32) (v3 : Int32) : Option (Int32 × St) := if (gv S 200 38) ≤ 0 then (if (gv S 200 42) = 2 then (cl0 (f_X11_step S 0 (gv S 200 44)) fun S_33 => bn (sv S_33 200 35 ((gv S_33 200 35) + 1)) fun S_34 => cl0 (f_X11_next N S_34) fun S_36 => some (2, S_36)) else (cl0 (f_X11_step S (20 + v3) (gv S 200 44)) fun S_28 => bn (sv S_28 200 35 ((gv S_28 200 35) + 1)) fun S_29 => cl0 (f_X11_next N S_29) fun S_31 => some (2, S_31))) else (some (v1, S))
set_option maxHeartbeats 4000000 in
theorem t_X11_operand_j97 (C : MC p s m args meth c cX11_operand 4 (some .int) RX11 g A) (hB : Lk L) {S : St} {r : Int32} {S9 : St} {v1 : Int32} {v3 : Int32} (h : f_X11_operand_j97 N S v1 v3 = some (r, S9)) {H : Heap} {locs : List Loc} {ls : Array Slot} (hW : GW g A ad L S H) (hS : va_S A s.heap H locs) (hl : lv_has ls 4 [(0, .ref (ad 200)), (1, .int v1), (3, .int v3)]) : W p l e (rmk 3) s m args below meth c H locs 0 0 (MQ below (qi g A ad L r S9) args s 0 0 A) (F0 m 97 ls []) := by
  obtain ⟨hx, hb, hml, hown, hts, hr, hlocks, hK, hN, hT⟩ := id C
  unfold f_X11_operand_j97 at h
  refine lv_aload_n hx hb dX11_operand_97 rfl (lv_at hl 0 rfl) ?_
  refine g_get (C := RX11) (T := TX11) (N := 67) (ci := 11) hx hb hts inX11 hown hK hW (hB 200 bb_200) kd_200 rfl 38 (by decide) mw_999 rfl rfl dX11_operand_98 ?_
  refine lv_if_le (tgt := 106) hx hb dX11_operand_101 (by decide) (fun c_25 => ?_) (fun c_25 => ?_)
  · have h := it_t c_25 h
    refine lv_aload_n hx hb dX11_operand_106 rfl (lv_at hl 0 rfl) ?_
    refine lv_aload_n hx hb dX11_operand_107 rfl (lv_at hl 0 rfl) ?_
    refine g_get (C := RX11) (T := TX11) (N := 67) (ci := 11) hx hb hts inX11 hown hK hW (hB 200 bb_200) kd_200 rfl 42 (by decide) mw_1003 rfl rfl dX11_operand_108 ?_
    refine lv_iconst (v := 2) hx hb dX11_operand_111 (by decide) ?_
    refine lv_icmp_ne (tgt := 119) hx hb dX11_operand_112 (by decide) (fun c_26 => ?_) (fun c_26 => ?_)
    · have h := it_f c_26 h
      refine lv_bipush (v := 20) hx hb dX11_operand_119 (by decide) ?_
      refine lv_iload_n hx hb dX11_operand_121 rfl (lv_at hl 2 rfl) ?_
      refine lv_iadd hx hb dX11_operand_122 ?_
      refine lv_aload_n hx hb dX11_operand_123 rfl (lv_at hl 0 rfl) ?_
      refine g_get (C := RX11) (T := TX11) (N := 67) (ci := 11) hx hb hts inX11 hown hK hW (hB 200 bb_200) kd_200 rfl 44 (by decide) mw_1005 rfl rfl dX11_operand_124 ?_
      obtain ⟨S_28, hc_27, h⟩ := cl0_ex h
      refine g_cv (g_runV (ci := 11) (o := 200) (As := [.int (20 + v3), .int (gv S 200 44)]) (rest := []) hx hb hml hown hts hK hN hT hS hW (c_X11_step hB hc_27) (hB 200 bb_200) kd_200 rfl (gw_V mw_1283 mw_1285 mw_50 mw_73 mw_1286) hv_X11_step rfl rfl rfl (rm_ok (by decide) (by decide)) hl.1 (Nat.le_of_ble_eq_true rfl) dX11_operand_127 rfl ⟨Nat.zero_le _, Nat.zero_le _⟩) hS (fun H locs hW hS => ?_)
      refine lv_aload_n hx hb dX11_operand_130 rfl (lv_at hl 0 rfl) ?_
      refine lv_dup hx hb dX11_operand_131 rfl ?_
      refine g_get (C := RX11) (T := TX11) (N := 67) (ci := 11) hx hb hts inX11 hown hK hW (hB 200 bb_200) kd_200 rfl 35 (by decide) mw_996 rfl rfl dX11_operand_132 ?_
      refine lv_iconst (v := 1) hx hb dX11_operand_135 (by decide) ?_
      refine lv_iadd hx hb dX11_operand_136 ?_
      refine g_put (C := RX11) (T := TX11) (N := 67) (ci := 11) hx hb hts inX11 tyX11 tyX11_ok nmX11 hown hK hW hS (hB 200 bb_200) kd_200 rfl 35 (by decide) mw_996 rfl rfl rfl rfl (Nat.le_of_ble_eq_true rfl) (sv S_28 200 35 ((gv S_28 200 35) + 1)) (ps_200_35) cellOf_sv dX11_operand_137 (fun S_29 eS_29 H locs hW hS => ?_)
      have h := bn_at eS_29 h
      refine lv_aload_n hx hb dX11_operand_140 rfl (lv_at hl 0 rfl) ?_
      obtain ⟨S_31, hc_30, h⟩ := cl0_ex h
      refine g_cv (g_runV (ci := 11) (o := 200) (As := []) (rest := []) hx hb hml hown hts hK hN hT hS hW (c_X11_next hB hc_30) (hB 200 bb_200) kd_200 rfl (gw_V mw_1236 mw_1238 mw_41 mw_73 mw_1239) hv_X11_next rfl rfl rfl (rm_ok (by decide) (by decide)) hl.1 (Nat.le_of_ble_eq_true rfl) dX11_operand_141 rfl ⟨Nat.zero_le _, Nat.zero_le _⟩) hS (fun H locs hW hS => ?_)
      refine lv_iconst (v := 2) hx hb dX11_operand_144 (by decide) ?_
      cases h
      exact g_iret hx hb hr hlocks hW hS dX11_operand_145
    · have h := it_t c_26 h
      refine lv_iconst (v := 0) hx hb dX11_operand_115 (by decide) ?_
      refine lv_goto (tgt := 123) hx hb dX11_operand_116 (by decide) ?_
      refine lv_aload_n hx hb dX11_operand_123 rfl (lv_at hl 0 rfl) ?_
      refine g_get (C := RX11) (T := TX11) (N := 67) (ci := 11) hx hb hts inX11 hown hK hW (hB 200 bb_200) kd_200 rfl 44 (by decide) mw_1005 rfl rfl dX11_operand_124 ?_
      obtain ⟨S_33, hc_32, h⟩ := cl0_ex h
      refine g_cv (g_runV (ci := 11) (o := 200) (As := [.int 0, .int (gv S 200 44)]) (rest := []) hx hb hml hown hts hK hN hT hS hW (c_X11_step hB hc_32) (hB 200 bb_200) kd_200 rfl (gw_V mw_1283 mw_1285 mw_50 mw_73 mw_1286) hv_X11_step rfl rfl rfl (rm_ok (by decide) (by decide)) hl.1 (Nat.le_of_ble_eq_true rfl) dX11_operand_127 rfl ⟨Nat.zero_le _, Nat.zero_le _⟩) hS (fun H locs hW hS => ?_)
      refine lv_aload_n hx hb dX11_operand_130 rfl (lv_at hl 0 rfl) ?_
      refine lv_dup hx hb dX11_operand_131 rfl ?_
      refine g_get (C := RX11) (T := TX11) (N := 67) (ci := 11) hx hb hts inX11 hown hK hW (hB 200 bb_200) kd_200 rfl 35 (by decide) mw_996 rfl rfl dX11_operand_132 ?_
      refine lv_iconst (v := 1) hx hb dX11_operand_135 (by decide) ?_
      refine lv_iadd hx hb dX11_operand_136 ?_
      refine g_put (C := RX11) (T := TX11) (N := 67) (ci := 11) hx hb hts inX11 tyX11 tyX11_ok nmX11 hown hK hW hS (hB 200 bb_200) kd_200 rfl 35 (by decide) mw_996 rfl rfl rfl rfl (Nat.le_of_ble_eq_true rfl) (sv S_33 200 35 ((gv S_33 200 35) + 1)) (ps_200_35) cellOf_sv dX11_operand_137 (fun S_34 eS_34 H locs hW hS => ?_)
      have h := bn_at eS_34 h
      refine lv_aload_n hx hb dX11_operand_140 rfl (lv_at hl 0 rfl) ?_
      obtain ⟨S_36, hc_35, h⟩ := cl0_ex h
      refine g_cv (g_runV (ci := 11) (o := 200) (As := []) (rest := []) hx hb hml hown hts hK hN hT hS hW (c_X11_next hB hc_35) (hB 200 bb_200) kd_200 rfl (gw_V mw_1236 mw_1238 mw_41 mw_73 mw_1239) hv_X11_next rfl rfl rfl (rm_ok (by decide) (by decide)) hl.1 (Nat.le_of_ble_eq_true rfl) dX11_operand_141 rfl ⟨Nat.zero_le _, Nat.zero_le _⟩) hS (fun H locs hW hS => ?_)
      refine lv_iconst (v := 2) hx hb dX11_operand_144 (by decide) ?_
      cases h
      exact g_iret hx hb hr hlocks hW hS dX11_operand_145
  · have h := it_f c_25 h
    refine lv_iload_n hx hb dX11_operand_104 rfl (lv_at hl 1 rfl) ?_
    cases h
    exact g_iret hx hb hr hlocks hW hS dX11_operand_105
def f_X11_operand_j70 (N : Nat) (S : St) (v1 : Int32) (w100 : Int32) : Option (Int32 × St) := if (gv S 200 35) = 80 then (cl0 (f_X11_wrong S 2) fun S_40 => f_X11_operand_j97 N S_40 v1 w100) else (if 0 ≤ w100 then (f_X11_operand_j97 N S v1 w100) else (cl0 (f_X11_wrong S 3) fun S_38 => f_X11_operand_j97 N S_38 v1 w100))
set_option maxHeartbeats 4000000 in
theorem t_X11_operand_j70 (C : MC p s m args meth c cX11_operand 4 (some .int) RX11 g A) (hB : Lk L) {S : St} {r : Int32} {S9 : St} {v1 : Int32} {w100 : Int32} (h : f_X11_operand_j70 N S v1 w100 = some (r, S9)) {H : Heap} {locs : List Loc} {ls : Array Slot} (hW : GW g A ad L S H) (hS : va_S A s.heap H locs) (hl : lv_has ls 4 [(0, .ref (ad 200)), (1, .int v1)]) : W p l e (rmk 3) s m args below meth c H locs 0 0 (MQ below (qi g A ad L r S9) args s 0 0 A) (F0 m 70 ls [.int w100]) := by
  obtain ⟨hx, hb, hml, hown, hts, hr, hlocks, hK, hN, hT⟩ := id C
  unfold f_X11_operand_j70 at h
  refine lv_istore_n (lv' := [(3, .int w100), (0, .ref (ad 200)), (1, .int v1)]) hx hb dX11_operand_70 rfl hl (by decide) rfl (fun ls hl => ?_)
  refine lv_aload_n hx hb dX11_operand_71 rfl (lv_at hl 1 rfl) ?_
  refine g_get (C := RX11) (T := TX11) (N := 67) (ci := 11) hx hb hts inX11 hown hK hW (hB 200 bb_200) kd_200 rfl 35 (by decide) mw_996 rfl rfl dX11_operand_72 ?_
  refine lv_bipush (v := 80) hx hb dX11_operand_75 (by decide) ?_
  refine lv_icmp_ne (tgt := 88) hx hb dX11_operand_77 (by decide) (fun c_23 => ?_) (fun c_23 => ?_)
  · have h := it_f c_23 h
    refine lv_iload_n hx hb dX11_operand_88 rfl (lv_at hl 0 rfl) ?_
    refine lv_if_ge (tgt := 97) hx hb dX11_operand_89 (by decide) (fun c_24 => ?_) (fun c_24 => ?_)
    · have h := it_t c_24 h
      exact t_X11_operand_j97 C hB h hW hS (lv_sub hl [1, 2, 0] rfl)
    · have h := it_f c_24 h
      refine lv_aload_n hx hb dX11_operand_92 rfl (lv_at hl 1 rfl) ?_
      refine lv_iconst (v := 3) hx hb dX11_operand_93 (by decide) ?_
      obtain ⟨S_38, hc_37, h⟩ := cl0_ex h
      refine g_cv (g_runV (ci := 11) (o := 200) (As := [.int 3]) (rest := []) hx hb hml hown hts hK hN hT hS hW (c_X11_wrong hB hc_37) (hB 200 bb_200) kd_200 rfl (gw_V mw_1258 mw_1260 mw_44 mw_73 mw_1261) hv_X11_wrong rfl rfl rfl (rm_ok (by decide) (by decide)) hl.1 (Nat.le_of_ble_eq_true rfl) dX11_operand_94 rfl ⟨Nat.zero_le _, Nat.zero_le _⟩) hS (fun H locs hW hS => ?_)
      exact t_X11_operand_j97 C hB h hW hS (lv_sub hl [1, 2, 0] rfl)
  · have h := it_t c_23 h
    refine lv_aload_n hx hb dX11_operand_80 rfl (lv_at hl 1 rfl) ?_
    refine lv_iconst (v := 2) hx hb dX11_operand_81 (by decide) ?_
    obtain ⟨S_40, hc_39, h⟩ := cl0_ex h
    refine g_cv (g_runV (ci := 11) (o := 200) (As := [.int 2]) (rest := []) hx hb hml hown hts hK hN hT hS hW (c_X11_wrong hB hc_39) (hB 200 bb_200) kd_200 rfl (gw_V mw_1258 mw_1260 mw_44 mw_73 mw_1261) hv_X11_wrong rfl rfl rfl (rm_ok (by decide) (by decide)) hl.1 (Nat.le_of_ble_eq_true rfl) dX11_operand_82 rfl ⟨Nat.zero_le _, Nat.zero_le _⟩) hS (fun H locs hW hS => ?_)
    refine lv_goto (tgt := 97) hx hb dX11_operand_85 (by decide) ?_
    exact t_X11_operand_j97 C hB h hW hS (lv_sub hl [1, 2, 0] rfl)
def f_X11_operand_j50 (N : Nat) (S : St) (v1 : Int32) (v2 : Int32) : Option (Int32 × St) := if v2 = 0 then (if (gv S 200 42) = 40 then (cl0 (f_X11_hold S 48) fun S_19 => cl0 (f_X11_next N S_19) fun S_21 => some (0, S_21)) else (if v1 = 0 then (cl0 (f_X11_isWord S 7237492) fun r_9 => if r_9 = 0 then (cl0 (f_X11_wrong S 2) fun S_13 => some (v1, S_13)) else (cl0 (f_X11_hold S 40) fun S_15 => cl0 (f_X11_next N S_15) fun S_17 => some (0, S_17))) else (cl0 (f_X11_wrong S 2) fun S_7 => some (v1, S_7)))) else (if (gv S 200 42) = 1 then (cl0 (f_X11_named S) fun r_42 => f_X11_operand_j70 N S v1 r_42) else (f_X11_operand_j70 N S v1 0))
set_option maxHeartbeats 4000000 in
theorem t_X11_operand_j50 (C : MC p s m args meth c cX11_operand 4 (some .int) RX11 g A) (hB : Lk L) {S : St} {r : Int32} {S9 : St} {v1 : Int32} {v2 : Int32} (h : f_X11_operand_j50 N S v1 v2 = some (r, S9)) {H : Heap} {locs : List Loc} {ls : Array Slot} (hW : GW g A ad L S H) (hS : va_S A s.heap H locs) (hl : lv_has ls 4 [(0, .ref (ad 200)), (1, .int v1), (2, .int v2)]) : W p l e (rmk 3) s m args below meth c H locs 0 0 (MQ below (qi g A ad L r S9) args s 0 0 A) (F0 m 50 ls []) := by
  obtain ⟨hx, hb, hml, hown, hts, hr, hlocks, hK, hN, hT⟩ := id C
  unfold f_X11_operand_j50 at h
  refine lv_iload_n hx hb dX11_operand_50 rfl (lv_at hl 2 rfl) ?_
  refine lv_if_eq (tgt := 146) hx hb dX11_operand_51 (by decide) (fun c_3 => ?_) (fun c_3 => ?_)
  · have h := it_t c_3 h
    refine lv_aload_n hx hb dX11_operand_146 rfl (lv_at hl 0 rfl) ?_
    refine g_get (C := RX11) (T := TX11) (N := 67) (ci := 11) hx hb hts inX11 hown hK hW (hB 200 bb_200) kd_200 rfl 42 (by decide) mw_1003 rfl rfl dX11_operand_147 ?_
    refine lv_bipush (v := 40) hx hb dX11_operand_150 (by decide) ?_
    refine lv_icmp_ne (tgt := 167) hx hb dX11_operand_152 (by decide) (fun c_4 => ?_) (fun c_4 => ?_)
    · have h := it_f c_4 h
      refine lv_iload_n hx hb dX11_operand_167 rfl (lv_at hl 1 rfl) ?_
      refine lv_if_ne (tgt := 193) hx hb dX11_operand_168 (by decide) (fun c_5 => ?_) (fun c_5 => ?_)
      · have h := it_f c_5 h
        refine lv_aload_n hx hb dX11_operand_193 rfl (lv_at hl 0 rfl) ?_
        refine lv_iconst (v := 2) hx hb dX11_operand_194 (by decide) ?_
        obtain ⟨S_7, hc_6, h⟩ := cl0_ex h
        refine g_cv (g_runV (ci := 11) (o := 200) (As := [.int 2]) (rest := []) hx hb hml hown hts hK hN hT hS hW (c_X11_wrong hB hc_6) (hB 200 bb_200) kd_200 rfl (gw_V mw_1258 mw_1260 mw_44 mw_73 mw_1261) hv_X11_wrong rfl rfl rfl (rm_ok (by decide) (by decide)) hl.1 (Nat.le_of_ble_eq_true rfl) dX11_operand_195 rfl ⟨Nat.zero_le _, Nat.zero_le _⟩) hS (fun H locs hW hS => ?_)
        refine lv_iload_n hx hb dX11_operand_198 rfl (lv_at hl 1 rfl) ?_
        cases h
        exact g_iret hx hb hr hlocks hW hS dX11_operand_199
      · have h := it_t c_5 h
        refine lv_aload_n hx hb dX11_operand_171 rfl (lv_at hl 0 rfl) ?_
        refine lv_ldc2 (v := 7237492) hx hb hown (hts _ mw_1308) dX11_operand_172 ?_
        obtain ⟨r_9, hc_8, h⟩ := cl0_ex h
        refine g_cz (g_runV (ci := 11) (o := 200) (As := [.long 7237492]) (rest := []) hx hb hml hown hts hK hN hT hS hW (c_X11_isWord hB hc_8) (hB 200 bb_200) kd_200 rfl (gw_V mw_1254 mw_1256 mw_43 mw_73 mw_1257) hv_X11_isWord rfl rfl rfl (rm_ok (by decide) (by decide)) hl.1 (Nat.le_of_ble_eq_true rfl) dX11_operand_175 rfl ⟨Nat.zero_le _, Nat.zero_le _⟩) hS (fun hz_10 H locs hW hS => ?_)
        refine lv_if_eq (tgt := 193) hx hb dX11_operand_178 (by decide) (fun c_11 => ?_) (fun c_11 => ?_)
        · have h := it_t c_11 h
          refine lv_aload_n hx hb dX11_operand_193 rfl (lv_at hl 0 rfl) ?_
          refine lv_iconst (v := 2) hx hb dX11_operand_194 (by decide) ?_
          obtain ⟨S_13, hc_12, h⟩ := cl0_ex h
          refine g_cv (g_runV (ci := 11) (o := 200) (As := [.int 2]) (rest := []) hx hb hml hown hts hK hN hT hS hW (c_X11_wrong hB hc_12) (hB 200 bb_200) kd_200 rfl (gw_V mw_1258 mw_1260 mw_44 mw_73 mw_1261) hv_X11_wrong rfl rfl rfl (rm_ok (by decide) (by decide)) hl.1 (Nat.le_of_ble_eq_true rfl) dX11_operand_195 rfl ⟨Nat.zero_le _, Nat.zero_le _⟩) hS (fun H locs hW hS => ?_)
          refine lv_iload_n hx hb dX11_operand_198 rfl (lv_at hl 1 rfl) ?_
          cases h
          exact g_iret hx hb hr hlocks hW hS dX11_operand_199
        · have h := it_f c_11 h
          refine lv_aload_n hx hb dX11_operand_181 rfl (lv_at hl 0 rfl) ?_
          refine lv_bipush (v := 40) hx hb dX11_operand_182 (by decide) ?_
          obtain ⟨S_15, hc_14, h⟩ := cl0_ex h
          refine g_cv (g_runV (ci := 11) (o := 200) (As := [.int 40]) (rest := []) hx hb hml hown hts hK hN hT hS hW (c_X11_hold hB hc_14) (hB 200 bb_200) kd_200 rfl (gw_V mw_1287 mw_1289 mw_51 mw_73 mw_1290) hv_X11_hold rfl rfl rfl (rm_ok (by decide) (by decide)) hl.1 (Nat.le_of_ble_eq_true rfl) dX11_operand_184 rfl ⟨Nat.zero_le _, Nat.zero_le _⟩) hS (fun H locs hW hS => ?_)
          refine lv_aload_n hx hb dX11_operand_187 rfl (lv_at hl 0 rfl) ?_
          obtain ⟨S_17, hc_16, h⟩ := cl0_ex h
          refine g_cv (g_runV (ci := 11) (o := 200) (As := []) (rest := []) hx hb hml hown hts hK hN hT hS hW (c_X11_next hB hc_16) (hB 200 bb_200) kd_200 rfl (gw_V mw_1236 mw_1238 mw_41 mw_73 mw_1239) hv_X11_next rfl rfl rfl (rm_ok (by decide) (by decide)) hl.1 (Nat.le_of_ble_eq_true rfl) dX11_operand_188 rfl ⟨Nat.zero_le _, Nat.zero_le _⟩) hS (fun H locs hW hS => ?_)
          refine lv_iconst (v := 0) hx hb dX11_operand_191 (by decide) ?_
          cases h
          exact g_iret hx hb hr hlocks hW hS dX11_operand_192
    · have h := it_t c_4 h
      refine lv_aload_n hx hb dX11_operand_155 rfl (lv_at hl 0 rfl) ?_
      refine lv_bipush (v := 48) hx hb dX11_operand_156 (by decide) ?_
      obtain ⟨S_19, hc_18, h⟩ := cl0_ex h
      refine g_cv (g_runV (ci := 11) (o := 200) (As := [.int 48]) (rest := []) hx hb hml hown hts hK hN hT hS hW (c_X11_hold hB hc_18) (hB 200 bb_200) kd_200 rfl (gw_V mw_1287 mw_1289 mw_51 mw_73 mw_1290) hv_X11_hold rfl rfl rfl (rm_ok (by decide) (by decide)) hl.1 (Nat.le_of_ble_eq_true rfl) dX11_operand_158 rfl ⟨Nat.zero_le _, Nat.zero_le _⟩) hS (fun H locs hW hS => ?_)
      refine lv_aload_n hx hb dX11_operand_161 rfl (lv_at hl 0 rfl) ?_
      obtain ⟨S_21, hc_20, h⟩ := cl0_ex h
      refine g_cv (g_runV (ci := 11) (o := 200) (As := []) (rest := []) hx hb hml hown hts hK hN hT hS hW (c_X11_next hB hc_20) (hB 200 bb_200) kd_200 rfl (gw_V mw_1236 mw_1238 mw_41 mw_73 mw_1239) hv_X11_next rfl rfl rfl (rm_ok (by decide) (by decide)) hl.1 (Nat.le_of_ble_eq_true rfl) dX11_operand_162 rfl ⟨Nat.zero_le _, Nat.zero_le _⟩) hS (fun H locs hW hS => ?_)
      refine lv_iconst (v := 0) hx hb dX11_operand_165 (by decide) ?_
      cases h
      exact g_iret hx hb hr hlocks hW hS dX11_operand_166
  · have h := it_f c_3 h
    refine lv_aload_n hx hb dX11_operand_54 rfl (lv_at hl 0 rfl) ?_
    refine g_get (C := RX11) (T := TX11) (N := 67) (ci := 11) hx hb hts inX11 hown hK hW (hB 200 bb_200) kd_200 rfl 42 (by decide) mw_1003 rfl rfl dX11_operand_55 ?_
    refine lv_iconst (v := 1) hx hb dX11_operand_58 (by decide) ?_
    refine lv_icmp_ne (tgt := 69) hx hb dX11_operand_59 (by decide) (fun c_22 => ?_) (fun c_22 => ?_)
    · have h := it_f c_22 h
      refine lv_iconst (v := 0) hx hb dX11_operand_69 (by decide) ?_
      exact t_X11_operand_j70 C hB h hW hS (lv_sub hl [0, 1] rfl)
    · have h := it_t c_22 h
      refine lv_aload_n hx hb dX11_operand_62 rfl (lv_at hl 0 rfl) ?_
      obtain ⟨r_42, hc_41, h⟩ := cl0_ex h
      refine g_ci (g_runV (ci := 11) (o := 200) (As := []) (rest := []) hx hb hml hown hts hK hN hT hS hW (c_X11_named hB hc_41) (hB 200 bb_200) kd_200 rfl (gw_V mw_1309 mw_1311 mw_55 mw_73 mw_1312) hv_X11_named rfl rfl rfl (rm_ok (by decide) (by decide)) hl.1 (Nat.le_of_ble_eq_true rfl) dX11_operand_63 rfl ⟨Nat.zero_le _, Nat.zero_le _⟩) hS (fun H locs hW hS => ?_)
      refine lv_goto (tgt := 70) hx hb dX11_operand_66 (by decide) ?_
      exact t_X11_operand_j70 C hB h hW hS (lv_sub hl [0, 1] rfl)
def f_X11_operand_j28 (N : Nat) (S : St) (v1 : Int32) (w100 : Int32) : Option (Int32 × St) := if v1 = 0 then (if (gv S 200 48) < 8 then (f_X11_operand_j50 N S v1 w100) else (cl0 (f_X11_wrong S 2) fun S_45 => some (v1, S_45))) else (f_X11_operand_j50 N S v1 w100)
set_option maxHeartbeats 4000000 in
theorem t_X11_operand_j28 (C : MC p s m args meth c cX11_operand 4 (some .int) RX11 g A) (hB : Lk L) {S : St} {r : Int32} {S9 : St} {v1 : Int32} {w100 : Int32} (h : f_X11_operand_j28 N S v1 w100 = some (r, S9)) {H : Heap} {locs : List Loc} {ls : Array Slot} (hW : GW g A ad L S H) (hS : va_S A s.heap H locs) (hl : lv_has ls 4 [(0, .ref (ad 200)), (1, .int v1)]) : W p l e (rmk 3) s m args below meth c H locs 0 0 (MQ below (qi g A ad L r S9) args s 0 0 A) (F0 m 28 ls [.int w100]) := by
  obtain ⟨hx, hb, hml, hown, hts, hr, hlocks, hK, hN, hT⟩ := id C
  unfold f_X11_operand_j28 at h
  refine lv_istore_n (lv' := [(2, .int w100), (0, .ref (ad 200)), (1, .int v1)]) hx hb dX11_operand_28 rfl hl (by decide) rfl (fun ls hl => ?_)
  refine lv_iload_n hx hb dX11_operand_29 rfl (lv_at hl 2 rfl) ?_
  refine lv_if_ne (tgt := 50) hx hb dX11_operand_30 (by decide) (fun c_2 => ?_) (fun c_2 => ?_)
  · have h := it_f c_2 h
    exact t_X11_operand_j50 C hB h hW hS (lv_sub hl [1, 2, 0] rfl)
  · have h := it_t c_2 h
    refine lv_aload_n hx hb dX11_operand_33 rfl (lv_at hl 1 rfl) ?_
    refine g_get (C := RX11) (T := TX11) (N := 67) (ci := 11) hx hb hts inX11 hown hK hW (hB 200 bb_200) kd_200 rfl 48 (by decide) mw_1009 rfl rfl dX11_operand_34 ?_
    refine lv_bipush (v := 8) hx hb dX11_operand_37 (by decide) ?_
    refine lv_icmp_lt (tgt := 50) hx hb dX11_operand_39 (by decide) (fun c_43 => ?_) (fun c_43 => ?_)
    · have h := it_t c_43 h
      exact t_X11_operand_j50 C hB h hW hS (lv_sub hl [1, 2, 0] rfl)
    · have h := it_f c_43 h
      refine lv_aload_n hx hb dX11_operand_42 rfl (lv_at hl 1 rfl) ?_
      refine lv_iconst (v := 2) hx hb dX11_operand_43 (by decide) ?_
      obtain ⟨S_45, hc_44, h⟩ := cl0_ex h
      refine g_cv (g_runV (ci := 11) (o := 200) (As := [.int 2]) (rest := []) hx hb hml hown hts hK hN hT hS hW (c_X11_wrong hB hc_44) (hB 200 bb_200) kd_200 rfl (gw_V mw_1258 mw_1260 mw_44 mw_73 mw_1261) hv_X11_wrong rfl rfl rfl (rm_ok (by decide) (by decide)) hl.1 (Nat.le_of_ble_eq_true rfl) dX11_operand_44 rfl ⟨Nat.zero_le _, Nat.zero_le _⟩) hS (fun H locs hW hS => ?_)
      refine lv_goto (tgt := 198) hx hb dX11_operand_47 (by decide) ?_
      refine lv_iload_n hx hb dX11_operand_198 rfl (lv_at hl 2 rfl) ?_
      cases h
      exact g_iret hx hb hr hlocks hW hS dX11_operand_199
def f_X11_operand_j23 (N : Nat) (S : St) (v1 : Int32) : Option (Int32 × St) := f_X11_operand_j28 N S v1 1
set_option maxHeartbeats 4000000 in
theorem t_X11_operand_j23 (C : MC p s m args meth c cX11_operand 4 (some .int) RX11 g A) (hB : Lk L) {S : St} {r : Int32} {S9 : St} {v1 : Int32} (h : f_X11_operand_j23 N S v1 = some (r, S9)) {H : Heap} {locs : List Loc} {ls : Array Slot} (hW : GW g A ad L S H) (hS : va_S A s.heap H locs) (hl : lv_has ls 4 [(0, .ref (ad 200)), (1, .int v1)]) : W p l e (rmk 3) s m args below meth c H locs 0 0 (MQ below (qi g A ad L r S9) args s 0 0 A) (F0 m 23 ls []) := by
  obtain ⟨hx, hb, hml, hown, hts, hr, hlocks, hK, hN, hT⟩ := id C
  unfold f_X11_operand_j23 at h
  refine lv_iconst (v := 1) hx hb dX11_operand_23 (by decide) ?_
  refine lv_goto (tgt := 28) hx hb dX11_operand_24 (by decide) ?_
  exact t_X11_operand_j28 C hB h hW hS (lv_sub hl [0, 1] rfl)
def f_X11_operand_j27 (N : Nat) (S : St) (v1 : Int32) : Option (Int32 × St) := f_X11_operand_j28 N S v1 0
set_option maxHeartbeats 4000000 in
theorem t_X11_operand_j27 (C : MC p s m args meth c cX11_operand 4 (some .int) RX11 g A) (hB : Lk L) {S : St} {r : Int32} {S9 : St} {v1 : Int32} (h : f_X11_operand_j27 N S v1 = some (r, S9)) {H : Heap} {locs : List Loc} {ls : Array Slot} (hW : GW g A ad L S H) (hS : va_S A s.heap H locs) (hl : lv_has ls 4 [(0, .ref (ad 200)), (1, .int v1)]) : W p l e (rmk 3) s m args below meth c H locs 0 0 (MQ below (qi g A ad L r S9) args s 0 0 A) (F0 m 27 ls []) := by
  obtain ⟨hx, hb, hml, hown, hts, hr, hlocks, hK, hN, hT⟩ := id C
  unfold f_X11_operand_j27 at h
  refine lv_iconst (v := 0) hx hb dX11_operand_27 (by decide) ?_
  exact t_X11_operand_j28 C hB h hW hS (lv_sub hl [0, 1] rfl)
def f_X11_operand (N : Nat) (S : St) (p1 : Int32) : Option (Int32 × St) := if (gv S 200 42) = 2 then (f_X11_operand_j23 N S p1) else (if (gv S 200 42) = 1 then (cl0 (f_X11_isKey S) fun r_48 => if r_48 = 0 then (f_X11_operand_j23 N S p1) else (f_X11_operand_j27 N S p1)) else (f_X11_operand_j27 N S p1))
set_option maxHeartbeats 4000000 in
theorem t_X11_operand (C : MC p s m args meth c cX11_operand 4 (some .int) RX11 g A) (hB : Lk L) {S : St} {r : Int32} {S9 : St} {p1 : Int32} (h : f_X11_operand N S p1 = some (r, S9)) {H : Heap} {locs : List Loc} {ls : Array Slot} (hW : GW g A ad L S H) (hS : va_S A s.heap H locs) (hl : lv_has ls 4 [(0, .ref (ad 200)), (1, .int p1)]) : W p l e (rmk 3) s m args below meth c H locs 0 0 (MQ below (qi g A ad L r S9) args s 0 0 A) (F0 m 0 ls []) := by
  obtain ⟨hx, hb, hml, hown, hts, hr, hlocks, hK, hN, hT⟩ := id C
  unfold f_X11_operand at h
  refine lv_aload_n hx hb dX11_operand_0 rfl (lv_at hl 0 rfl) ?_
  refine g_get (C := RX11) (T := TX11) (N := 67) (ci := 11) hx hb hts inX11 hown hK hW (hB 200 bb_200) kd_200 rfl 42 (by decide) mw_1003 rfl rfl dX11_operand_1 ?_
  refine lv_iconst (v := 2) hx hb dX11_operand_4 (by decide) ?_
  refine lv_icmp_eq (tgt := 23) hx hb dX11_operand_5 (by decide) (fun c_1 => ?_) (fun c_1 => ?_)
  · have h := it_t c_1 h
    exact t_X11_operand_j23 C hB h hW hS (lv_sub hl [0, 1] rfl)
  · have h := it_f c_1 h
    refine lv_aload_n hx hb dX11_operand_8 rfl (lv_at hl 0 rfl) ?_
    refine g_get (C := RX11) (T := TX11) (N := 67) (ci := 11) hx hb hts inX11 hown hK hW (hB 200 bb_200) kd_200 rfl 42 (by decide) mw_1003 rfl rfl dX11_operand_9 ?_
    refine lv_iconst (v := 1) hx hb dX11_operand_12 (by decide) ?_
    refine lv_icmp_ne (tgt := 27) hx hb dX11_operand_13 (by decide) (fun c_46 => ?_) (fun c_46 => ?_)
    · have h := it_f c_46 h
      exact t_X11_operand_j27 C hB h hW hS (lv_sub hl [0, 1] rfl)
    · have h := it_t c_46 h
      refine lv_aload_n hx hb dX11_operand_16 rfl (lv_at hl 0 rfl) ?_
      obtain ⟨r_48, hc_47, h⟩ := cl0_ex h
      refine g_cz (g_runV (ci := 11) (o := 200) (As := []) (rest := []) hx hb hml hown hts hK hN hT hS hW (c_X11_isKey hB hc_47) (hB 200 bb_200) kd_200 rfl (gw_V mw_1301 mw_1303 mw_54 mw_73 mw_1304) hv_X11_isKey rfl rfl rfl (rm_ok (by decide) (by decide)) hl.1 (Nat.le_of_ble_eq_true rfl) dX11_operand_17 rfl ⟨Nat.zero_le _, Nat.zero_le _⟩) hS (fun hz_49 H locs hW hS => ?_)
      refine lv_if_ne (tgt := 27) hx hb dX11_operand_20 (by decide) (fun c_50 => ?_) (fun c_50 => ?_)
      · have h := it_f c_50 h
        exact t_X11_operand_j27 C hB h hW hS (lv_sub hl [0, 1] rfl)
      · have h := it_t c_50 h
        exact t_X11_operand_j23 C hB h hW hS (lv_sub hl [0, 1] rfl)
theorem c_X11_operand (hB : Lk L) {S : St} {r : Int32} {S9 : St} {p1 : Int32} (h : f_X11_operand N S p1 = some (r, S9)) : Met l yX11_operand (gws yX11_operand cX11_operand 4 (some .int)) (rmk 3) (va_Pc [.ref (ad 200), .int p1] (WU g A ad L S)) (qi g A ad L r S9) 0 0 A :=
  g_met [.ref (ad 200), .int p1] (by decide) (Nat.le_of_ble_eq_true rfl) (fun p e s m below meth c ls C hW hl _ => t_X11_operand C hB h hW va_S.rf hl)
theorem hv_X11_operand : yX11_operand.cls = RX11 ∧ yX11_operand.cls ≠ "java/lang/invoke/MethodHandle" ∧ yX11_operand.cls ≠ "java/lang/invoke/VarHandle" ∧ (parseMethodDescriptor yX11_operand.desc).map (fun d => d.parameters.length) = some 1 := by decide +kernel
/-! DroveRoadsModel.sign -/
def f_X11_sign_j18 (N : Nat) (S : St) : Option (Int32 × St) := cl0 (f_X11_settle N S 46) fun S_3 => if (gv S_3 200 42) = 43 then (cl0 (f_X11_hold S_3 46) fun S_10 => cl0 (f_X11_next N S_10) fun S_12 => some (1, S_12)) else (cl0 (f_X11_hold S_3 47) fun S_6 => cl0 (f_X11_next N S_6) fun S_8 => some (1, S_8))
set_option maxHeartbeats 4000000 in
theorem t_X11_sign_j18 (C : MC p s m args meth c cX11_sign 2 (some .int) RX11 g A) (hB : Lk L) {S : St} {r : Int32} {S9 : St} (h : f_X11_sign_j18 N S = some (r, S9)) {H : Heap} {locs : List Loc} {ls : Array Slot} (hW : GW g A ad L S H) (hS : va_S A s.heap H locs) (hl : lv_has ls 2 [(0, .ref (ad 200))]) : W p l e (rmk 4) s m args below meth c H locs 0 0 (MQ below (qi g A ad L r S9) args s 0 0 A) (F0 m 18 ls []) := by
  obtain ⟨hx, hb, hml, hown, hts, hr, hlocks, hK, hN, hT⟩ := id C
  unfold f_X11_sign_j18 at h
  refine lv_aload_n hx hb dX11_sign_18 rfl (lv_at hl 0 rfl) ?_
  refine lv_bipush (v := 46) hx hb dX11_sign_19 (by decide) ?_
  obtain ⟨S_3, hc_2, h⟩ := cl0_ex h
  refine g_cv (g_runV (ci := 11) (o := 200) (As := [.int 46]) (rest := []) hx hb hml hown hts hK hN hT hS hW (c_X11_settle hB hc_2) (hB 200 bb_200) kd_200 rfl (gw_V mw_1275 mw_1277 mw_48 mw_73 mw_1278) hv_X11_settle rfl rfl rfl (rm_ok (by decide) (by decide)) hl.1 (Nat.le_of_ble_eq_true rfl) dX11_sign_21 rfl ⟨Nat.zero_le _, Nat.zero_le _⟩) hS (fun H locs hW hS => ?_)
  refine lv_aload_n hx hb dX11_sign_24 rfl (lv_at hl 0 rfl) ?_
  refine lv_aload_n hx hb dX11_sign_25 rfl (lv_at hl 0 rfl) ?_
  refine g_get (C := RX11) (T := TX11) (N := 67) (ci := 11) hx hb hts inX11 hown hK hW (hB 200 bb_200) kd_200 rfl 42 (by decide) mw_1003 rfl rfl dX11_sign_26 ?_
  refine lv_bipush (v := 43) hx hb dX11_sign_29 (by decide) ?_
  refine lv_icmp_ne (tgt := 39) hx hb dX11_sign_31 (by decide) (fun c_4 => ?_) (fun c_4 => ?_)
  · have h := it_f c_4 h
    refine lv_bipush (v := 47) hx hb dX11_sign_39 (by decide) ?_
    obtain ⟨S_6, hc_5, h⟩ := cl0_ex h
    refine g_cv (g_runV (ci := 11) (o := 200) (As := [.int 47]) (rest := []) hx hb hml hown hts hK hN hT hS hW (c_X11_hold hB hc_5) (hB 200 bb_200) kd_200 rfl (gw_V mw_1287 mw_1289 mw_51 mw_73 mw_1290) hv_X11_hold rfl rfl rfl (rm_ok (by decide) (by decide)) hl.1 (Nat.le_of_ble_eq_true rfl) dX11_sign_41 rfl ⟨Nat.zero_le _, Nat.zero_le _⟩) hS (fun H locs hW hS => ?_)
    refine lv_aload_n hx hb dX11_sign_44 rfl (lv_at hl 0 rfl) ?_
    obtain ⟨S_8, hc_7, h⟩ := cl0_ex h
    refine g_cv (g_runV (ci := 11) (o := 200) (As := []) (rest := []) hx hb hml hown hts hK hN hT hS hW (c_X11_next hB hc_7) (hB 200 bb_200) kd_200 rfl (gw_V mw_1236 mw_1238 mw_41 mw_73 mw_1239) hv_X11_next rfl rfl rfl (rm_ok (by decide) (by decide)) hl.1 (Nat.le_of_ble_eq_true rfl) dX11_sign_45 rfl ⟨Nat.zero_le _, Nat.zero_le _⟩) hS (fun H locs hW hS => ?_)
    refine lv_iconst (v := 1) hx hb dX11_sign_48 (by decide) ?_
    cases h
    exact g_iret hx hb hr hlocks hW hS dX11_sign_49
  · have h := it_t c_4 h
    refine lv_bipush (v := 46) hx hb dX11_sign_34 (by decide) ?_
    refine lv_goto (tgt := 41) hx hb dX11_sign_36 (by decide) ?_
    obtain ⟨S_10, hc_9, h⟩ := cl0_ex h
    refine g_cv (g_runV (ci := 11) (o := 200) (As := [.int 46]) (rest := []) hx hb hml hown hts hK hN hT hS hW (c_X11_hold hB hc_9) (hB 200 bb_200) kd_200 rfl (gw_V mw_1287 mw_1289 mw_51 mw_73 mw_1290) hv_X11_hold rfl rfl rfl (rm_ok (by decide) (by decide)) hl.1 (Nat.le_of_ble_eq_true rfl) dX11_sign_41 rfl ⟨Nat.zero_le _, Nat.zero_le _⟩) hS (fun H locs hW hS => ?_)
    refine lv_aload_n hx hb dX11_sign_44 rfl (lv_at hl 0 rfl) ?_
    obtain ⟨S_12, hc_11, h⟩ := cl0_ex h
    refine g_cv (g_runV (ci := 11) (o := 200) (As := []) (rest := []) hx hb hml hown hts hK hN hT hS hW (c_X11_next hB hc_11) (hB 200 bb_200) kd_200 rfl (gw_V mw_1236 mw_1238 mw_41 mw_73 mw_1239) hv_X11_next rfl rfl rfl (rm_ok (by decide) (by decide)) hl.1 (Nat.le_of_ble_eq_true rfl) dX11_sign_45 rfl ⟨Nat.zero_le _, Nat.zero_le _⟩) hS (fun H locs hW hS => ?_)
    refine lv_iconst (v := 1) hx hb dX11_sign_48 (by decide) ?_
    cases h
    exact g_iret hx hb hr hlocks hW hS dX11_sign_49
def f_X11_sign_j123 (N : Nat) (S : St) : Option (Int32 × St) := if (gv S 200 38) ≤ 0 then (if (gv S 200 42) = 61 then (cl0 (f_X11_hold S 43) fun S_32 => cl0 (f_X11_next N S_32) fun S_34 => some (1, S_34)) else (if (gv S 200 42) = 60 then (cl0 (f_X11_hold S 44) fun S_28 => cl0 (f_X11_next N S_28) fun S_30 => some (1, S_30)) else (cl0 (f_X11_hold S 45) fun S_24 => cl0 (f_X11_next N S_24) fun S_26 => some (1, S_26)))) else (some (2, S))
set_option maxHeartbeats 4000000 in
theorem t_X11_sign_j123 (C : MC p s m args meth c cX11_sign 2 (some .int) RX11 g A) (hB : Lk L) {S : St} {r : Int32} {S9 : St} (h : f_X11_sign_j123 N S = some (r, S9)) {H : Heap} {locs : List Loc} {ls : Array Slot} (hW : GW g A ad L S H) (hS : va_S A s.heap H locs) (hl : lv_has ls 2 [(0, .ref (ad 200))]) : W p l e (rmk 4) s m args below meth c H locs 0 0 (MQ below (qi g A ad L r S9) args s 0 0 A) (F0 m 123 ls []) := by
  obtain ⟨hx, hb, hml, hown, hts, hr, hlocks, hK, hN, hT⟩ := id C
  unfold f_X11_sign_j123 at h
  refine lv_aload_n hx hb dX11_sign_123 rfl (lv_at hl 0 rfl) ?_
  refine g_get (C := RX11) (T := TX11) (N := 67) (ci := 11) hx hb hts inX11 hown hK hW (hB 200 bb_200) kd_200 rfl 38 (by decide) mw_999 rfl rfl dX11_sign_124 ?_
  refine lv_if_le (tgt := 132) hx hb dX11_sign_127 (by decide) (fun c_20 => ?_) (fun c_20 => ?_)
  · have h := it_t c_20 h
    refine lv_aload_n hx hb dX11_sign_132 rfl (lv_at hl 0 rfl) ?_
    refine lv_aload_n hx hb dX11_sign_133 rfl (lv_at hl 0 rfl) ?_
    refine g_get (C := RX11) (T := TX11) (N := 67) (ci := 11) hx hb hts inX11 hown hK hW (hB 200 bb_200) kd_200 rfl 42 (by decide) mw_1003 rfl rfl dX11_sign_134 ?_
    refine lv_bipush (v := 61) hx hb dX11_sign_137 (by decide) ?_
    refine lv_icmp_ne (tgt := 147) hx hb dX11_sign_139 (by decide) (fun c_21 => ?_) (fun c_21 => ?_)
    · have h := it_f c_21 h
      refine lv_aload_n hx hb dX11_sign_147 rfl (lv_at hl 0 rfl) ?_
      refine g_get (C := RX11) (T := TX11) (N := 67) (ci := 11) hx hb hts inX11 hown hK hW (hB 200 bb_200) kd_200 rfl 42 (by decide) mw_1003 rfl rfl dX11_sign_148 ?_
      refine lv_bipush (v := 60) hx hb dX11_sign_151 (by decide) ?_
      refine lv_icmp_ne (tgt := 161) hx hb dX11_sign_153 (by decide) (fun c_22 => ?_) (fun c_22 => ?_)
      · have h := it_f c_22 h
        refine lv_bipush (v := 45) hx hb dX11_sign_161 (by decide) ?_
        obtain ⟨S_24, hc_23, h⟩ := cl0_ex h
        refine g_cv (g_runV (ci := 11) (o := 200) (As := [.int 45]) (rest := []) hx hb hml hown hts hK hN hT hS hW (c_X11_hold hB hc_23) (hB 200 bb_200) kd_200 rfl (gw_V mw_1287 mw_1289 mw_51 mw_73 mw_1290) hv_X11_hold rfl rfl rfl (rm_ok (by decide) (by decide)) hl.1 (Nat.le_of_ble_eq_true rfl) dX11_sign_163 rfl ⟨Nat.zero_le _, Nat.zero_le _⟩) hS (fun H locs hW hS => ?_)
        refine lv_aload_n hx hb dX11_sign_166 rfl (lv_at hl 0 rfl) ?_
        obtain ⟨S_26, hc_25, h⟩ := cl0_ex h
        refine g_cv (g_runV (ci := 11) (o := 200) (As := []) (rest := []) hx hb hml hown hts hK hN hT hS hW (c_X11_next hB hc_25) (hB 200 bb_200) kd_200 rfl (gw_V mw_1236 mw_1238 mw_41 mw_73 mw_1239) hv_X11_next rfl rfl rfl (rm_ok (by decide) (by decide)) hl.1 (Nat.le_of_ble_eq_true rfl) dX11_sign_167 rfl ⟨Nat.zero_le _, Nat.zero_le _⟩) hS (fun H locs hW hS => ?_)
        refine lv_iconst (v := 1) hx hb dX11_sign_170 (by decide) ?_
        cases h
        exact g_iret hx hb hr hlocks hW hS dX11_sign_171
      · have h := it_t c_22 h
        refine lv_bipush (v := 44) hx hb dX11_sign_156 (by decide) ?_
        refine lv_goto (tgt := 163) hx hb dX11_sign_158 (by decide) ?_
        obtain ⟨S_28, hc_27, h⟩ := cl0_ex h
        refine g_cv (g_runV (ci := 11) (o := 200) (As := [.int 44]) (rest := []) hx hb hml hown hts hK hN hT hS hW (c_X11_hold hB hc_27) (hB 200 bb_200) kd_200 rfl (gw_V mw_1287 mw_1289 mw_51 mw_73 mw_1290) hv_X11_hold rfl rfl rfl (rm_ok (by decide) (by decide)) hl.1 (Nat.le_of_ble_eq_true rfl) dX11_sign_163 rfl ⟨Nat.zero_le _, Nat.zero_le _⟩) hS (fun H locs hW hS => ?_)
        refine lv_aload_n hx hb dX11_sign_166 rfl (lv_at hl 0 rfl) ?_
        obtain ⟨S_30, hc_29, h⟩ := cl0_ex h
        refine g_cv (g_runV (ci := 11) (o := 200) (As := []) (rest := []) hx hb hml hown hts hK hN hT hS hW (c_X11_next hB hc_29) (hB 200 bb_200) kd_200 rfl (gw_V mw_1236 mw_1238 mw_41 mw_73 mw_1239) hv_X11_next rfl rfl rfl (rm_ok (by decide) (by decide)) hl.1 (Nat.le_of_ble_eq_true rfl) dX11_sign_167 rfl ⟨Nat.zero_le _, Nat.zero_le _⟩) hS (fun H locs hW hS => ?_)
        refine lv_iconst (v := 1) hx hb dX11_sign_170 (by decide) ?_
        cases h
        exact g_iret hx hb hr hlocks hW hS dX11_sign_171
    · have h := it_t c_21 h
      refine lv_bipush (v := 43) hx hb dX11_sign_142 (by decide) ?_
      refine lv_goto (tgt := 163) hx hb dX11_sign_144 (by decide) ?_
      obtain ⟨S_32, hc_31, h⟩ := cl0_ex h
      refine g_cv (g_runV (ci := 11) (o := 200) (As := [.int 43]) (rest := []) hx hb hml hown hts hK hN hT hS hW (c_X11_hold hB hc_31) (hB 200 bb_200) kd_200 rfl (gw_V mw_1287 mw_1289 mw_51 mw_73 mw_1290) hv_X11_hold rfl rfl rfl (rm_ok (by decide) (by decide)) hl.1 (Nat.le_of_ble_eq_true rfl) dX11_sign_163 rfl ⟨Nat.zero_le _, Nat.zero_le _⟩) hS (fun H locs hW hS => ?_)
      refine lv_aload_n hx hb dX11_sign_166 rfl (lv_at hl 0 rfl) ?_
      obtain ⟨S_34, hc_33, h⟩ := cl0_ex h
      refine g_cv (g_runV (ci := 11) (o := 200) (As := []) (rest := []) hx hb hml hown hts hK hN hT hS hW (c_X11_next hB hc_33) (hB 200 bb_200) kd_200 rfl (gw_V mw_1236 mw_1238 mw_41 mw_73 mw_1239) hv_X11_next rfl rfl rfl (rm_ok (by decide) (by decide)) hl.1 (Nat.le_of_ble_eq_true rfl) dX11_sign_167 rfl ⟨Nat.zero_le _, Nat.zero_le _⟩) hS (fun H locs hW hS => ?_)
      refine lv_iconst (v := 1) hx hb dX11_sign_170 (by decide) ?_
      cases h
      exact g_iret hx hb hr hlocks hW hS dX11_sign_171
  · have h := it_f c_20 h
    refine lv_iconst (v := 2) hx hb dX11_sign_130 (by decide) ?_
    cases h
    exact g_iret hx hb hr hlocks hW hS dX11_sign_131
def f_X11_sign_j105 (N : Nat) (S : St) (w100 : Int32) : Option (Int32 × St) := if w100 < 43 then (f_X11_sign_j123 N S) else (if 45 < w100 then (f_X11_sign_j123 N S) else (cl0 (f_X11_wrong S 2) fun S_37 => f_X11_sign_j123 N S_37))
set_option maxHeartbeats 4000000 in
theorem t_X11_sign_j105 (C : MC p s m args meth c cX11_sign 2 (some .int) RX11 g A) (hB : Lk L) {S : St} {r : Int32} {S9 : St} {w100 : Int32} (h : f_X11_sign_j105 N S w100 = some (r, S9)) {H : Heap} {locs : List Loc} {ls : Array Slot} (hW : GW g A ad L S H) (hS : va_S A s.heap H locs) (hl : lv_has ls 2 [(0, .ref (ad 200))]) : W p l e (rmk 4) s m args below meth c H locs 0 0 (MQ below (qi g A ad L r S9) args s 0 0 A) (F0 m 105 ls [.int w100]) := by
  obtain ⟨hx, hb, hml, hown, hts, hr, hlocks, hK, hN, hT⟩ := id C
  unfold f_X11_sign_j105 at h
  refine lv_istore_n (lv' := [(1, .int w100), (0, .ref (ad 200))]) hx hb dX11_sign_105 rfl hl (by decide) rfl (fun ls hl => ?_)
  refine lv_iload_n hx hb dX11_sign_106 rfl (lv_at hl 0 rfl) ?_
  refine lv_bipush (v := 43) hx hb dX11_sign_107 (by decide) ?_
  refine lv_icmp_lt (tgt := 123) hx hb dX11_sign_109 (by decide) (fun c_19 => ?_) (fun c_19 => ?_)
  · have h := it_t c_19 h
    exact t_X11_sign_j123 C hB h hW hS (lv_sub hl [1] rfl)
  · have h := it_f c_19 h
    refine lv_iload_n hx hb dX11_sign_112 rfl (lv_at hl 0 rfl) ?_
    refine lv_bipush (v := 45) hx hb dX11_sign_113 (by decide) ?_
    refine lv_icmp_gt (tgt := 123) hx hb dX11_sign_115 (by decide) (fun c_35 => ?_) (fun c_35 => ?_)
    · have h := it_t c_35 h
      exact t_X11_sign_j123 C hB h hW hS (lv_sub hl [1] rfl)
    · have h := it_f c_35 h
      refine lv_aload_n hx hb dX11_sign_118 rfl (lv_at hl 1 rfl) ?_
      refine lv_iconst (v := 2) hx hb dX11_sign_119 (by decide) ?_
      obtain ⟨S_37, hc_36, h⟩ := cl0_ex h
      refine g_cv (g_runV (ci := 11) (o := 200) (As := [.int 2]) (rest := []) hx hb hml hown hts hK hN hT hS hW (c_X11_wrong hB hc_36) (hB 200 bb_200) kd_200 rfl (gw_V mw_1258 mw_1260 mw_44 mw_73 mw_1261) hv_X11_wrong rfl rfl rfl (rm_ok (by decide) (by decide)) hl.1 (Nat.le_of_ble_eq_true rfl) dX11_sign_120 rfl ⟨Nat.zero_le _, Nat.zero_le _⟩) hS (fun H locs hW hS => ?_)
      exact t_X11_sign_j123 C hB h hW hS (lv_sub hl [1] rfl)
def f_X11_sign_j77 (N : Nat) (S : St) : Option (Int32 × St) := cl0 (f_X11_settle N S 46) fun S_16 => if (gv S_16 200 47) = 0 then (f_X11_sign_j105 N S_16 (-1)) else (if ((gv S_16 200 47) - 1) < 0 ∨ 400 ≤ ix ((gv S_16 200 47) - 1) then none else f_X11_sign_j105 N S_16 (gv S_16 247 (ix ((gv S_16 200 47) - 1))))
set_option maxHeartbeats 4000000 in
theorem t_X11_sign_j77 (C : MC p s m args meth c cX11_sign 2 (some .int) RX11 g A) (hB : Lk L) {S : St} {r : Int32} {S9 : St} (h : f_X11_sign_j77 N S = some (r, S9)) {H : Heap} {locs : List Loc} {ls : Array Slot} (hW : GW g A ad L S H) (hS : va_S A s.heap H locs) (hl : lv_has ls 2 [(0, .ref (ad 200))]) : W p l e (rmk 4) s m args below meth c H locs 0 0 (MQ below (qi g A ad L r S9) args s 0 0 A) (F0 m 77 ls []) := by
  obtain ⟨hx, hb, hml, hown, hts, hr, hlocks, hK, hN, hT⟩ := id C
  unfold f_X11_sign_j77 at h
  refine lv_aload_n hx hb dX11_sign_77 rfl (lv_at hl 0 rfl) ?_
  refine lv_bipush (v := 46) hx hb dX11_sign_78 (by decide) ?_
  obtain ⟨S_16, hc_15, h⟩ := cl0_ex h
  refine g_cv (g_runV (ci := 11) (o := 200) (As := [.int 46]) (rest := []) hx hb hml hown hts hK hN hT hS hW (c_X11_settle hB hc_15) (hB 200 bb_200) kd_200 rfl (gw_V mw_1275 mw_1277 mw_48 mw_73 mw_1278) hv_X11_settle rfl rfl rfl (rm_ok (by decide) (by decide)) hl.1 (Nat.le_of_ble_eq_true rfl) dX11_sign_80 rfl ⟨Nat.zero_le _, Nat.zero_le _⟩) hS (fun H locs hW hS => ?_)
  refine lv_aload_n hx hb dX11_sign_83 rfl (lv_at hl 0 rfl) ?_
  refine g_get (C := RX11) (T := TX11) (N := 67) (ci := 11) hx hb hts inX11 hown hK hW (hB 200 bb_200) kd_200 rfl 47 (by decide) mw_1008 rfl rfl dX11_sign_84 ?_
  refine lv_if_ne (tgt := 94) hx hb dX11_sign_87 (by decide) (fun c_17 => ?_) (fun c_17 => ?_)
  · have h := it_f c_17 h
    refine lv_aload_n hx hb dX11_sign_94 rfl (lv_at hl 0 rfl) ?_
    refine g_get (C := RX11) (T := TX11) (N := 67) (ci := 11) hx hb hts inX11 hown hK hW (hB 200 bb_200) kd_200 rfl 46 (by decide) mw_1007 rfl rfl dX11_sign_95 ?_
    refine lv_aload_n hx hb dX11_sign_98 rfl (lv_at hl 0 rfl) ?_
    refine g_get (C := RX11) (T := TX11) (N := 67) (ci := 11) hx hb hts inX11 hown hK hW (hB 200 bb_200) kd_200 rfl 47 (by decide) mw_1008 rfl rfl dX11_sign_99 ?_
    refine lv_iconst (v := 1) hx hb dX11_sign_102 (by decide) ?_
    refine lv_isub hx hb dX11_sign_103 ?_
    obtain ⟨hi_18, h⟩ := ck_n h
    refine g_iald hx hb hK hW (hB 247 bb_247) kd_247 hi_18 dX11_sign_104 ?_
    exact t_X11_sign_j105 C hB h hW hS (lv_sub hl [0] rfl)
  · have h := it_t c_17 h
    refine lv_iconst (v := (-1)) hx hb dX11_sign_90 (by decide) ?_
    refine lv_goto (tgt := 105) hx hb dX11_sign_91 (by decide) ?_
    exact t_X11_sign_j105 C hB h hW hS (lv_sub hl [0] rfl)
def f_X11_sign_j192 (N : Nat) (S : St) : Option (Int32 × St) := cl0 (f_X11_isWord S 6385252) fun r_45 => cl0 (f_X11_settleOnes N S r_45) fun S_48 => if r_45 = 0 then (cl0 (f_X11_hold S_48 41) fun S_51 => cl0 (f_X11_next N S_51) fun S_53 => some (0, S_53)) else (cl0 (f_X11_hold S_48 42) fun S_55 => cl0 (f_X11_next N S_55) fun S_57 => some (0, S_57))
set_option maxHeartbeats 4000000 in
theorem t_X11_sign_j192 (C : MC p s m args meth c cX11_sign 2 (some .int) RX11 g A) (hB : Lk L) {S : St} {r : Int32} {S9 : St} (h : f_X11_sign_j192 N S = some (r, S9)) {H : Heap} {locs : List Loc} {ls : Array Slot} (hW : GW g A ad L S H) (hS : va_S A s.heap H locs) (hl : lv_has ls 2 [(0, .ref (ad 200))]) : W p l e (rmk 4) s m args below meth c H locs 0 0 (MQ below (qi g A ad L r S9) args s 0 0 A) (F0 m 192 ls []) := by
  obtain ⟨hx, hb, hml, hown, hts, hr, hlocks, hK, hN, hT⟩ := id C
  unfold f_X11_sign_j192 at h
  refine lv_aload_n hx hb dX11_sign_192 rfl (lv_at hl 0 rfl) ?_
  refine lv_ldc2 (v := 6385252) hx hb hown (hts _ mw_1291) dX11_sign_193 ?_
  obtain ⟨r_45, hc_44, h⟩ := cl0_ex h
  refine g_cz (g_runV (ci := 11) (o := 200) (As := [.long 6385252]) (rest := []) hx hb hml hown hts hK hN hT hS hW (c_X11_isWord hB hc_44) (hB 200 bb_200) kd_200 rfl (gw_V mw_1254 mw_1256 mw_43 mw_73 mw_1257) hv_X11_isWord rfl rfl rfl (rm_ok (by decide) (by decide)) hl.1 (Nat.le_of_ble_eq_true rfl) dX11_sign_196 rfl ⟨Nat.zero_le _, Nat.zero_le _⟩) hS (fun hz_46 H locs hW hS => ?_)
  refine lv_istore_n (lv' := [(1, .int r_45), (0, .ref (ad 200))]) hx hb dX11_sign_199 rfl hl (by decide) rfl (fun ls hl => ?_)
  refine lv_aload_n hx hb dX11_sign_200 rfl (lv_at hl 1 rfl) ?_
  refine lv_iload_n hx hb dX11_sign_201 rfl (lv_at hl 0 rfl) ?_
  obtain ⟨S_48, hc_47, h⟩ := cl0_ex h
  refine g_cv (g_runV (ci := 11) (o := 200) (As := [.int r_45]) (rest := []) hx hb hml hown hts hK hN hT hS hW (c_X11_settleOnes hB hc_47) (hB 200 bb_200) kd_200 rfl (gw_V mw_1293 mw_1295 mw_52 mw_73 mw_1296) hv_X11_settleOnes rfl rfl rfl (rm_ok (by decide) (by decide)) hl.1 (Nat.le_of_ble_eq_true rfl) dX11_sign_202 rfl ⟨Nat.zero_le _, Nat.zero_le _⟩) hS (fun H locs hW hS => ?_)
  refine lv_aload_n hx hb dX11_sign_205 rfl (lv_at hl 1 rfl) ?_
  refine lv_iload_n hx hb dX11_sign_206 rfl (lv_at hl 0 rfl) ?_
  refine lv_if_eq (tgt := 215) hx hb dX11_sign_207 (by decide) (fun c_49 => ?_) (fun c_49 => ?_)
  · have h := it_t c_49 h
    refine lv_bipush (v := 41) hx hb dX11_sign_215 (by decide) ?_
    obtain ⟨S_51, hc_50, h⟩ := cl0_ex h
    refine g_cv (g_runV (ci := 11) (o := 200) (As := [.int 41]) (rest := []) hx hb hml hown hts hK hN hT hS hW (c_X11_hold hB hc_50) (hB 200 bb_200) kd_200 rfl (gw_V mw_1287 mw_1289 mw_51 mw_73 mw_1290) hv_X11_hold rfl rfl rfl (rm_ok (by decide) (by decide)) hl.1 (Nat.le_of_ble_eq_true rfl) dX11_sign_217 rfl ⟨Nat.zero_le _, Nat.zero_le _⟩) hS (fun H locs hW hS => ?_)
    refine lv_aload_n hx hb dX11_sign_220 rfl (lv_at hl 1 rfl) ?_
    obtain ⟨S_53, hc_52, h⟩ := cl0_ex h
    refine g_cv (g_runV (ci := 11) (o := 200) (As := []) (rest := []) hx hb hml hown hts hK hN hT hS hW (c_X11_next hB hc_52) (hB 200 bb_200) kd_200 rfl (gw_V mw_1236 mw_1238 mw_41 mw_73 mw_1239) hv_X11_next rfl rfl rfl (rm_ok (by decide) (by decide)) hl.1 (Nat.le_of_ble_eq_true rfl) dX11_sign_221 rfl ⟨Nat.zero_le _, Nat.zero_le _⟩) hS (fun H locs hW hS => ?_)
    refine lv_iconst (v := 0) hx hb dX11_sign_224 (by decide) ?_
    cases h
    exact g_iret hx hb hr hlocks hW hS dX11_sign_225
  · have h := it_f c_49 h
    refine lv_bipush (v := 42) hx hb dX11_sign_210 (by decide) ?_
    refine lv_goto (tgt := 217) hx hb dX11_sign_212 (by decide) ?_
    obtain ⟨S_55, hc_54, h⟩ := cl0_ex h
    refine g_cv (g_runV (ci := 11) (o := 200) (As := [.int 42]) (rest := []) hx hb hml hown hts hK hN hT hS hW (c_X11_hold hB hc_54) (hB 200 bb_200) kd_200 rfl (gw_V mw_1287 mw_1289 mw_51 mw_73 mw_1290) hv_X11_hold rfl rfl rfl (rm_ok (by decide) (by decide)) hl.1 (Nat.le_of_ble_eq_true rfl) dX11_sign_217 rfl ⟨Nat.zero_le _, Nat.zero_le _⟩) hS (fun H locs hW hS => ?_)
    refine lv_aload_n hx hb dX11_sign_220 rfl (lv_at hl 1 rfl) ?_
    obtain ⟨S_57, hc_56, h⟩ := cl0_ex h
    refine g_cv (g_runV (ci := 11) (o := 200) (As := []) (rest := []) hx hb hml hown hts hK hN hT hS hW (c_X11_next hB hc_56) (hB 200 bb_200) kd_200 rfl (gw_V mw_1236 mw_1238 mw_41 mw_73 mw_1239) hv_X11_next rfl rfl rfl (rm_ok (by decide) (by decide)) hl.1 (Nat.le_of_ble_eq_true rfl) dX11_sign_221 rfl ⟨Nat.zero_le _, Nat.zero_le _⟩) hS (fun H locs hW hS => ?_)
    refine lv_iconst (v := 0) hx hb dX11_sign_224 (by decide) ?_
    cases h
    exact g_iret hx hb hr hlocks hW hS dX11_sign_225
def f_X11_sign (N : Nat) (S : St) : Option (Int32 × St) := if (gv S 200 42) = 43 then (f_X11_sign_j18 N S) else (if (gv S 200 42) = 45 then (f_X11_sign_j18 N S) else (if (gv S 200 42) = 61 then (f_X11_sign_j77 N S) else (if (gv S 200 42) = 60 then (f_X11_sign_j77 N S) else (if (gv S 200 42) = 62 then (f_X11_sign_j77 N S) else (cl0 (f_X11_isWord S 6385252) fun r_41 => if r_41 = 0 then (cl0 (f_X11_isWord S 28530) fun r_59 => if r_59 = 0 then (if (gv S 200 42) = 41 then (cl0 (f_X11_isOpen N S) fun r_66 => if r_66 = 0 then (cl0 (f_X11_wrong S 2) fun S_70 => some (2, S_70)) else (cl0 (f_X11_settle N S 0) fun S_72 => bn (sv S_72 200 47 ((gv S_72 200 47) - 1)) fun S_73 => bn (sv S_73 200 48 ((gv S_73 200 48) - 1)) fun S_74 => cl0 (f_X11_next N S_74) fun S_76 => some (2, S_76))) else (cl0 (f_X11_wrong S 2) fun S_64 => some (2, S_64))) else (f_X11_sign_j192 N S)) else (f_X11_sign_j192 N S))))))
set_option maxHeartbeats 4000000 in
theorem t_X11_sign (C : MC p s m args meth c cX11_sign 2 (some .int) RX11 g A) (hB : Lk L) {S : St} {r : Int32} {S9 : St} (h : f_X11_sign N S = some (r, S9)) {H : Heap} {locs : List Loc} {ls : Array Slot} (hW : GW g A ad L S H) (hS : va_S A s.heap H locs) (hl : lv_has ls 2 [(0, .ref (ad 200))]) : W p l e (rmk 4) s m args below meth c H locs 0 0 (MQ below (qi g A ad L r S9) args s 0 0 A) (F0 m 0 ls []) := by
  obtain ⟨hx, hb, hml, hown, hts, hr, hlocks, hK, hN, hT⟩ := id C
  unfold f_X11_sign at h
  refine lv_aload_n hx hb dX11_sign_0 rfl (lv_at hl 0 rfl) ?_
  refine g_get (C := RX11) (T := TX11) (N := 67) (ci := 11) hx hb hts inX11 hown hK hW (hB 200 bb_200) kd_200 rfl 42 (by decide) mw_1003 rfl rfl dX11_sign_1 ?_
  refine lv_bipush (v := 43) hx hb dX11_sign_4 (by decide) ?_
  refine lv_icmp_eq (tgt := 18) hx hb dX11_sign_6 (by decide) (fun c_1 => ?_) (fun c_1 => ?_)
  · have h := it_t c_1 h
    exact t_X11_sign_j18 C hB h hW hS (lv_sub hl [0] rfl)
  · have h := it_f c_1 h
    refine lv_aload_n hx hb dX11_sign_9 rfl (lv_at hl 0 rfl) ?_
    refine g_get (C := RX11) (T := TX11) (N := 67) (ci := 11) hx hb hts inX11 hown hK hW (hB 200 bb_200) kd_200 rfl 42 (by decide) mw_1003 rfl rfl dX11_sign_10 ?_
    refine lv_bipush (v := 45) hx hb dX11_sign_13 (by decide) ?_
    refine lv_icmp_ne (tgt := 50) hx hb dX11_sign_15 (by decide) (fun c_13 => ?_) (fun c_13 => ?_)
    · have h := it_f c_13 h
      refine lv_aload_n hx hb dX11_sign_50 rfl (lv_at hl 0 rfl) ?_
      refine g_get (C := RX11) (T := TX11) (N := 67) (ci := 11) hx hb hts inX11 hown hK hW (hB 200 bb_200) kd_200 rfl 42 (by decide) mw_1003 rfl rfl dX11_sign_51 ?_
      refine lv_bipush (v := 61) hx hb dX11_sign_54 (by decide) ?_
      refine lv_icmp_eq (tgt := 77) hx hb dX11_sign_56 (by decide) (fun c_14 => ?_) (fun c_14 => ?_)
      · have h := it_t c_14 h
        exact t_X11_sign_j77 C hB h hW hS (lv_sub hl [0] rfl)
      · have h := it_f c_14 h
        refine lv_aload_n hx hb dX11_sign_59 rfl (lv_at hl 0 rfl) ?_
        refine g_get (C := RX11) (T := TX11) (N := 67) (ci := 11) hx hb hts inX11 hown hK hW (hB 200 bb_200) kd_200 rfl 42 (by decide) mw_1003 rfl rfl dX11_sign_60 ?_
        refine lv_bipush (v := 60) hx hb dX11_sign_63 (by decide) ?_
        refine lv_icmp_eq (tgt := 77) hx hb dX11_sign_65 (by decide) (fun c_38 => ?_) (fun c_38 => ?_)
        · have h := it_t c_38 h
          exact t_X11_sign_j77 C hB h hW hS (lv_sub hl [0] rfl)
        · have h := it_f c_38 h
          refine lv_aload_n hx hb dX11_sign_68 rfl (lv_at hl 0 rfl) ?_
          refine g_get (C := RX11) (T := TX11) (N := 67) (ci := 11) hx hb hts inX11 hown hK hW (hB 200 bb_200) kd_200 rfl 42 (by decide) mw_1003 rfl rfl dX11_sign_69 ?_
          refine lv_bipush (v := 62) hx hb dX11_sign_72 (by decide) ?_
          refine lv_icmp_ne (tgt := 172) hx hb dX11_sign_74 (by decide) (fun c_39 => ?_) (fun c_39 => ?_)
          · have h := it_f c_39 h
            refine lv_aload_n hx hb dX11_sign_172 rfl (lv_at hl 0 rfl) ?_
            refine lv_ldc2 (v := 6385252) hx hb hown (hts _ mw_1291) dX11_sign_173 ?_
            obtain ⟨r_41, hc_40, h⟩ := cl0_ex h
            refine g_cz (g_runV (ci := 11) (o := 200) (As := [.long 6385252]) (rest := []) hx hb hml hown hts hK hN hT hS hW (c_X11_isWord hB hc_40) (hB 200 bb_200) kd_200 rfl (gw_V mw_1254 mw_1256 mw_43 mw_73 mw_1257) hv_X11_isWord rfl rfl rfl (rm_ok (by decide) (by decide)) hl.1 (Nat.le_of_ble_eq_true rfl) dX11_sign_176 rfl ⟨Nat.zero_le _, Nat.zero_le _⟩) hS (fun hz_42 H locs hW hS => ?_)
            refine lv_if_ne (tgt := 192) hx hb dX11_sign_179 (by decide) (fun c_43 => ?_) (fun c_43 => ?_)
            · have h := it_f c_43 h
              exact t_X11_sign_j192 C hB h hW hS (lv_sub hl [0] rfl)
            · have h := it_t c_43 h
              refine lv_aload_n hx hb dX11_sign_182 rfl (lv_at hl 0 rfl) ?_
              refine lv_ldc2 (v := 28530) hx hb hown (hts _ mw_1292) dX11_sign_183 ?_
              obtain ⟨r_59, hc_58, h⟩ := cl0_ex h
              refine g_cz (g_runV (ci := 11) (o := 200) (As := [.long 28530]) (rest := []) hx hb hml hown hts hK hN hT hS hW (c_X11_isWord hB hc_58) (hB 200 bb_200) kd_200 rfl (gw_V mw_1254 mw_1256 mw_43 mw_73 mw_1257) hv_X11_isWord rfl rfl rfl (rm_ok (by decide) (by decide)) hl.1 (Nat.le_of_ble_eq_true rfl) dX11_sign_186 rfl ⟨Nat.zero_le _, Nat.zero_le _⟩) hS (fun hz_60 H locs hW hS => ?_)
              refine lv_if_eq (tgt := 226) hx hb dX11_sign_189 (by decide) (fun c_61 => ?_) (fun c_61 => ?_)
              · have h := it_t c_61 h
                refine lv_aload_n hx hb dX11_sign_226 rfl (lv_at hl 0 rfl) ?_
                refine g_get (C := RX11) (T := TX11) (N := 67) (ci := 11) hx hb hts inX11 hown hK hW (hB 200 bb_200) kd_200 rfl 42 (by decide) mw_1003 rfl rfl dX11_sign_227 ?_
                refine lv_bipush (v := 41) hx hb dX11_sign_230 (by decide) ?_
                refine lv_icmp_ne (tgt := 273) hx hb dX11_sign_232 (by decide) (fun c_62 => ?_) (fun c_62 => ?_)
                · have h := it_f c_62 h
                  refine lv_aload_n hx hb dX11_sign_273 rfl (lv_at hl 0 rfl) ?_
                  refine lv_iconst (v := 2) hx hb dX11_sign_274 (by decide) ?_
                  obtain ⟨S_64, hc_63, h⟩ := cl0_ex h
                  refine g_cv (g_runV (ci := 11) (o := 200) (As := [.int 2]) (rest := []) hx hb hml hown hts hK hN hT hS hW (c_X11_wrong hB hc_63) (hB 200 bb_200) kd_200 rfl (gw_V mw_1258 mw_1260 mw_44 mw_73 mw_1261) hv_X11_wrong rfl rfl rfl (rm_ok (by decide) (by decide)) hl.1 (Nat.le_of_ble_eq_true rfl) dX11_sign_275 rfl ⟨Nat.zero_le _, Nat.zero_le _⟩) hS (fun H locs hW hS => ?_)
                  refine lv_iconst (v := 2) hx hb dX11_sign_278 (by decide) ?_
                  cases h
                  exact g_iret hx hb hr hlocks hW hS dX11_sign_279
                · have h := it_t c_62 h
                  refine lv_aload_n hx hb dX11_sign_235 rfl (lv_at hl 0 rfl) ?_
                  obtain ⟨r_66, hc_65, h⟩ := cl0_ex h
                  refine g_cz (g_runV (ci := 11) (o := 200) (As := []) (rest := []) hx hb hml hown hts hK hN hT hS hW (c_X11_isOpen hB hc_65) (hB 200 bb_200) kd_200 rfl (gw_V mw_1267 mw_1269 mw_46 mw_73 mw_1270) hv_X11_isOpen rfl rfl rfl (rm_ok (by decide) (by decide)) hl.1 (Nat.le_of_ble_eq_true rfl) dX11_sign_236 rfl ⟨Nat.zero_le _, Nat.zero_le _⟩) hS (fun hz_67 H locs hW hS => ?_)
                  refine lv_if_eq (tgt := 273) hx hb dX11_sign_239 (by decide) (fun c_68 => ?_) (fun c_68 => ?_)
                  · have h := it_t c_68 h
                    refine lv_aload_n hx hb dX11_sign_273 rfl (lv_at hl 0 rfl) ?_
                    refine lv_iconst (v := 2) hx hb dX11_sign_274 (by decide) ?_
                    obtain ⟨S_70, hc_69, h⟩ := cl0_ex h
                    refine g_cv (g_runV (ci := 11) (o := 200) (As := [.int 2]) (rest := []) hx hb hml hown hts hK hN hT hS hW (c_X11_wrong hB hc_69) (hB 200 bb_200) kd_200 rfl (gw_V mw_1258 mw_1260 mw_44 mw_73 mw_1261) hv_X11_wrong rfl rfl rfl (rm_ok (by decide) (by decide)) hl.1 (Nat.le_of_ble_eq_true rfl) dX11_sign_275 rfl ⟨Nat.zero_le _, Nat.zero_le _⟩) hS (fun H locs hW hS => ?_)
                    refine lv_iconst (v := 2) hx hb dX11_sign_278 (by decide) ?_
                    cases h
                    exact g_iret hx hb hr hlocks hW hS dX11_sign_279
                  · have h := it_f c_68 h
                    refine lv_aload_n hx hb dX11_sign_242 rfl (lv_at hl 0 rfl) ?_
                    refine lv_iconst (v := 0) hx hb dX11_sign_243 (by decide) ?_
                    obtain ⟨S_72, hc_71, h⟩ := cl0_ex h
                    refine g_cv (g_runV (ci := 11) (o := 200) (As := [.int 0]) (rest := []) hx hb hml hown hts hK hN hT hS hW (c_X11_settle hB hc_71) (hB 200 bb_200) kd_200 rfl (gw_V mw_1275 mw_1277 mw_48 mw_73 mw_1278) hv_X11_settle rfl rfl rfl (rm_ok (by decide) (by decide)) hl.1 (Nat.le_of_ble_eq_true rfl) dX11_sign_244 rfl ⟨Nat.zero_le _, Nat.zero_le _⟩) hS (fun H locs hW hS => ?_)
                    refine lv_aload_n hx hb dX11_sign_247 rfl (lv_at hl 0 rfl) ?_
                    refine lv_dup hx hb dX11_sign_248 rfl ?_
                    refine g_get (C := RX11) (T := TX11) (N := 67) (ci := 11) hx hb hts inX11 hown hK hW (hB 200 bb_200) kd_200 rfl 47 (by decide) mw_1008 rfl rfl dX11_sign_249 ?_
                    refine lv_iconst (v := 1) hx hb dX11_sign_252 (by decide) ?_
                    refine lv_isub hx hb dX11_sign_253 ?_
                    refine g_put (C := RX11) (T := TX11) (N := 67) (ci := 11) hx hb hts inX11 tyX11 tyX11_ok nmX11 hown hK hW hS (hB 200 bb_200) kd_200 rfl 47 (by decide) mw_1008 rfl rfl rfl rfl (Nat.le_of_ble_eq_true rfl) (sv S_72 200 47 ((gv S_72 200 47) - 1)) (ps_200_47) cellOf_sv dX11_sign_254 (fun S_73 eS_73 H locs hW hS => ?_)
                    have h := bn_at eS_73 h
                    refine lv_aload_n hx hb dX11_sign_257 rfl (lv_at hl 0 rfl) ?_
                    refine lv_dup hx hb dX11_sign_258 rfl ?_
                    refine g_get (C := RX11) (T := TX11) (N := 67) (ci := 11) hx hb hts inX11 hown hK hW (hB 200 bb_200) kd_200 rfl 48 (by decide) mw_1009 rfl rfl dX11_sign_259 ?_
                    refine lv_iconst (v := 1) hx hb dX11_sign_262 (by decide) ?_
                    refine lv_isub hx hb dX11_sign_263 ?_
                    refine g_put (C := RX11) (T := TX11) (N := 67) (ci := 11) hx hb hts inX11 tyX11 tyX11_ok nmX11 hown hK hW hS (hB 200 bb_200) kd_200 rfl 48 (by decide) mw_1009 rfl rfl rfl rfl (Nat.le_of_ble_eq_true rfl) (sv S_73 200 48 ((gv S_73 200 48) - 1)) (ps_200_48) cellOf_sv dX11_sign_264 (fun S_74 eS_74 H locs hW hS => ?_)
                    have h := bn_at eS_74 h
                    refine lv_aload_n hx hb dX11_sign_267 rfl (lv_at hl 0 rfl) ?_
                    obtain ⟨S_76, hc_75, h⟩ := cl0_ex h
                    refine g_cv (g_runV (ci := 11) (o := 200) (As := []) (rest := []) hx hb hml hown hts hK hN hT hS hW (c_X11_next hB hc_75) (hB 200 bb_200) kd_200 rfl (gw_V mw_1236 mw_1238 mw_41 mw_73 mw_1239) hv_X11_next rfl rfl rfl (rm_ok (by decide) (by decide)) hl.1 (Nat.le_of_ble_eq_true rfl) dX11_sign_268 rfl ⟨Nat.zero_le _, Nat.zero_le _⟩) hS (fun H locs hW hS => ?_)
                    refine lv_iconst (v := 2) hx hb dX11_sign_271 (by decide) ?_
                    cases h
                    exact g_iret hx hb hr hlocks hW hS dX11_sign_272
              · have h := it_f c_61 h
                exact t_X11_sign_j192 C hB h hW hS (lv_sub hl [0] rfl)
          · have h := it_t c_39 h
            exact t_X11_sign_j77 C hB h hW hS (lv_sub hl [0] rfl)
    · have h := it_t c_13 h
      exact t_X11_sign_j18 C hB h hW hS (lv_sub hl [0] rfl)
theorem c_X11_sign (hB : Lk L) {S : St} {r : Int32} {S9 : St} (h : f_X11_sign N S = some (r, S9)) : Met l yX11_sign (gws yX11_sign cX11_sign 2 (some .int)) (rmk 4) (va_Pc [.ref (ad 200)] (WU g A ad L S)) (qi g A ad L r S9) 0 0 A :=
  g_met [.ref (ad 200)] (by decide) (Nat.le_of_ble_eq_true rfl) (fun p e s m below meth c ls C hW hl _ => t_X11_sign C hB h hW va_S.rf hl)
theorem hv_X11_sign : yX11_sign.cls = RX11 ∧ yX11_sign.cls ≠ "java/lang/invoke/MethodHandle" ∧ yX11_sign.cls ≠ "java/lang/invoke/VarHandle" ∧ (parseMethodDescriptor yX11_sign.desc).map (fun d => d.parameters.length) = some 0 := by decide +kernel
/-! DroveRoadsModel.readE -/
def f_X11_readE_l12 (N : Nat) (k : St → Option (St)) : Nat → St → Int32 → Option (St)
  | 0, _, _ => none
  | n + 1, S, v1 => if (gv S 200 38) = 0 then (if v1 = 2 then (cl0 (f_X11_isWord S 25711) fun r_13 => if r_13 = 0 then (if v1 = 2 then (cl1 (f_X11_sign N S) fun r_21 S_22 => f_X11_readE_l12 N k n S_22 r_21) else (cl1 (f_X11_operand N S v1) fun r_18 S_19 => f_X11_readE_l12 N k n S_19 r_18)) else (cl0 (f_X11_isOpen N S) fun r_24 => if r_24 = 0 then (k S) else (if v1 = 2 then (cl1 (f_X11_sign N S) fun r_32 S_33 => f_X11_readE_l12 N k n S_33 r_32) else (cl1 (f_X11_operand N S v1) fun r_29 S_30 => f_X11_readE_l12 N k n S_30 r_29)))) else (if v1 = 2 then (cl1 (f_X11_sign N S) fun r_10 S_11 => f_X11_readE_l12 N k n S_11 r_10) else (cl1 (f_X11_operand N S v1) fun r_7 S_8 => f_X11_readE_l12 N k n S_8 r_7))) else (k S)
set_option maxHeartbeats 4000000 in
theorem t_X11_readE_l12 (C : MC p s m args meth c cX11_readE 2 none RX11 g A) (hB : Lk L) {S9 : St} {k : St → Option (St)} (hk : ∀ (S : St), k S = some S9 → ∀ (H : Heap) (locs : List Loc) (ls : Array Slot), GW g A ad L S H → va_S A s.heap H locs → lv_has ls 2 [(0, .ref (ad 200))] → W p l e (rmk 5) s m args below meth c H locs 0 0 (MQ below (qv g A ad L S9) args s 0 0 A) (F0 m 63 ls [])) : ∀ (n : Nat) (S : St) (v1 : Int32), f_X11_readE_l12 N k n S v1 = some S9 → ∀ (H : Heap) (locs : List Loc) (ls : Array Slot), GW g A ad L S H → va_S A s.heap H locs → lv_has ls 2 [(0, .ref (ad 200)), (1, .int v1)] → W p l e (rmk 5) s m args below meth c H locs 0 0 (MQ below (qv g A ad L S9) args s 0 0 A) (F0 m 12 ls []) := by
  obtain ⟨hx, hb, hml, hown, hts, hr, hlocks, hK, hN, hT⟩ := id C
  intro n
  induction n with
  | zero =>
    intro S v1 h
    have h : (none : Option (St)) = some S9 := h
    cases h
  | succ n ih =>
    intro S v1 h H locs ls hW hS hl
    rw [f_X11_readE_l12] at h
    refine lv_aload_n hx hb dX11_readE_12 rfl (lv_at hl 0 rfl) ?_
    refine g_get (C := RX11) (T := TX11) (N := 67) (ci := 11) hx hb hts inX11 hown hK hW (hB 200 bb_200) kd_200 rfl 38 (by decide) mw_999 rfl rfl dX11_readE_13 ?_
    refine lv_if_ne (tgt := 63) hx hb dX11_readE_16 (by decide) (fun c_3 => ?_) (fun c_3 => ?_)
    · have h := it_f c_3 h
      exact hk _ h _ _ _ hW hS (lv_sub hl [0] rfl)
    · have h := it_t c_3 h
      refine lv_iload_n hx hb dX11_readE_19 rfl (lv_at hl 1 rfl) ?_
      refine lv_iconst (v := 2) hx hb dX11_readE_20 (by decide) ?_
      refine lv_icmp_ne (tgt := 41) hx hb dX11_readE_21 (by decide) (fun c_4 => ?_) (fun c_4 => ?_)
      · have h := it_f c_4 h
        refine lv_iload_n hx hb dX11_readE_41 rfl (lv_at hl 1 rfl) ?_
        refine lv_iconst (v := 2) hx hb dX11_readE_42 (by decide) ?_
        refine lv_icmp_ne (tgt := 54) hx hb dX11_readE_43 (by decide) (fun c_5 => ?_) (fun c_5 => ?_)
        · have h := it_f c_5 h
          refine lv_aload_n hx hb dX11_readE_54 rfl (lv_at hl 0 rfl) ?_
          refine lv_iload_n hx hb dX11_readE_55 rfl (lv_at hl 1 rfl) ?_
          obtain ⟨r_7, S_8, hc_6, h⟩ := cl1_ex h
          refine g_ci (g_runV (ci := 11) (o := 200) (As := [.int v1]) (rest := []) hx hb hml hown hts hK hN hT hS hW (c_X11_operand hB hc_6) (hB 200 bb_200) kd_200 rfl (gw_V mw_1297 mw_1299 mw_53 mw_73 mw_1300) hv_X11_operand rfl rfl rfl (rm_ok (by decide) (by decide)) hl.1 (Nat.le_of_ble_eq_true rfl) dX11_readE_56 rfl ⟨Nat.zero_le _, Nat.zero_le _⟩) hS (fun H locs hW hS => ?_)
          refine lv_istore_n (lv' := [(1, .int r_7), (0, .ref (ad 200))]) hx hb dX11_readE_59 rfl hl (by decide) rfl (fun ls hl => ?_)
          refine lv_goto (tgt := 12) hx hb dX11_readE_60 (by decide) ?_
          exact ih _ _ h _ _ _ hW hS (lv_sub hl [1, 0] rfl)
        · have h := it_t c_5 h
          refine lv_aload_n hx hb dX11_readE_46 rfl (lv_at hl 0 rfl) ?_
          obtain ⟨r_10, S_11, hc_9, h⟩ := cl1_ex h
          refine g_ci (g_runV (ci := 11) (o := 200) (As := []) (rest := []) hx hb hml hown hts hK hN hT hS hW (c_X11_sign hB hc_9) (hB 200 bb_200) kd_200 rfl (gw_V mw_1271 mw_1273 mw_47 mw_73 mw_1274) hv_X11_sign rfl rfl rfl (rm_ok (by decide) (by decide)) hl.1 (Nat.le_of_ble_eq_true rfl) dX11_readE_47 rfl ⟨Nat.zero_le _, Nat.zero_le _⟩) hS (fun H locs hW hS => ?_)
          refine lv_istore_n (lv' := [(1, .int r_10), (0, .ref (ad 200))]) hx hb dX11_readE_50 rfl hl (by decide) rfl (fun ls hl => ?_)
          refine lv_goto (tgt := 12) hx hb dX11_readE_51 (by decide) ?_
          exact ih _ _ h _ _ _ hW hS (lv_sub hl [1, 0] rfl)
      · have h := it_t c_4 h
        refine lv_aload_n hx hb dX11_readE_24 rfl (lv_at hl 0 rfl) ?_
        refine lv_ldc2 (v := 25711) hx hb hown (hts _ mw_1266) dX11_readE_25 ?_
        obtain ⟨r_13, hc_12, h⟩ := cl0_ex h
        refine g_cz (g_runV (ci := 11) (o := 200) (As := [.long 25711]) (rest := []) hx hb hml hown hts hK hN hT hS hW (c_X11_isWord hB hc_12) (hB 200 bb_200) kd_200 rfl (gw_V mw_1254 mw_1256 mw_43 mw_73 mw_1257) hv_X11_isWord rfl rfl rfl (rm_ok (by decide) (by decide)) hl.1 (Nat.le_of_ble_eq_true rfl) dX11_readE_28 rfl ⟨Nat.zero_le _, Nat.zero_le _⟩) hS (fun hz_14 H locs hW hS => ?_)
        refine lv_if_eq (tgt := 41) hx hb dX11_readE_31 (by decide) (fun c_15 => ?_) (fun c_15 => ?_)
        · have h := it_t c_15 h
          refine lv_iload_n hx hb dX11_readE_41 rfl (lv_at hl 1 rfl) ?_
          refine lv_iconst (v := 2) hx hb dX11_readE_42 (by decide) ?_
          refine lv_icmp_ne (tgt := 54) hx hb dX11_readE_43 (by decide) (fun c_16 => ?_) (fun c_16 => ?_)
          · have h := it_f c_16 h
            refine lv_aload_n hx hb dX11_readE_54 rfl (lv_at hl 0 rfl) ?_
            refine lv_iload_n hx hb dX11_readE_55 rfl (lv_at hl 1 rfl) ?_
            obtain ⟨r_18, S_19, hc_17, h⟩ := cl1_ex h
            refine g_ci (g_runV (ci := 11) (o := 200) (As := [.int v1]) (rest := []) hx hb hml hown hts hK hN hT hS hW (c_X11_operand hB hc_17) (hB 200 bb_200) kd_200 rfl (gw_V mw_1297 mw_1299 mw_53 mw_73 mw_1300) hv_X11_operand rfl rfl rfl (rm_ok (by decide) (by decide)) hl.1 (Nat.le_of_ble_eq_true rfl) dX11_readE_56 rfl ⟨Nat.zero_le _, Nat.zero_le _⟩) hS (fun H locs hW hS => ?_)
            refine lv_istore_n (lv' := [(1, .int r_18), (0, .ref (ad 200))]) hx hb dX11_readE_59 rfl hl (by decide) rfl (fun ls hl => ?_)
            refine lv_goto (tgt := 12) hx hb dX11_readE_60 (by decide) ?_
            exact ih _ _ h _ _ _ hW hS (lv_sub hl [1, 0] rfl)
          · have h := it_t c_16 h
            refine lv_aload_n hx hb dX11_readE_46 rfl (lv_at hl 0 rfl) ?_
            obtain ⟨r_21, S_22, hc_20, h⟩ := cl1_ex h
            refine g_ci (g_runV (ci := 11) (o := 200) (As := []) (rest := []) hx hb hml hown hts hK hN hT hS hW (c_X11_sign hB hc_20) (hB 200 bb_200) kd_200 rfl (gw_V mw_1271 mw_1273 mw_47 mw_73 mw_1274) hv_X11_sign rfl rfl rfl (rm_ok (by decide) (by decide)) hl.1 (Nat.le_of_ble_eq_true rfl) dX11_readE_47 rfl ⟨Nat.zero_le _, Nat.zero_le _⟩) hS (fun H locs hW hS => ?_)
            refine lv_istore_n (lv' := [(1, .int r_21), (0, .ref (ad 200))]) hx hb dX11_readE_50 rfl hl (by decide) rfl (fun ls hl => ?_)
            refine lv_goto (tgt := 12) hx hb dX11_readE_51 (by decide) ?_
            exact ih _ _ h _ _ _ hW hS (lv_sub hl [1, 0] rfl)
        · have h := it_f c_15 h
          refine lv_aload_n hx hb dX11_readE_34 rfl (lv_at hl 0 rfl) ?_
          obtain ⟨r_24, hc_23, h⟩ := cl0_ex h
          refine g_cz (g_runV (ci := 11) (o := 200) (As := []) (rest := []) hx hb hml hown hts hK hN hT hS hW (c_X11_isOpen hB hc_23) (hB 200 bb_200) kd_200 rfl (gw_V mw_1267 mw_1269 mw_46 mw_73 mw_1270) hv_X11_isOpen rfl rfl rfl (rm_ok (by decide) (by decide)) hl.1 (Nat.le_of_ble_eq_true rfl) dX11_readE_35 rfl ⟨Nat.zero_le _, Nat.zero_le _⟩) hS (fun hz_25 H locs hW hS => ?_)
          refine lv_if_eq (tgt := 63) hx hb dX11_readE_38 (by decide) (fun c_26 => ?_) (fun c_26 => ?_)
          · have h := it_t c_26 h
            exact hk _ h _ _ _ hW hS (lv_sub hl [0] rfl)
          · have h := it_f c_26 h
            refine lv_iload_n hx hb dX11_readE_41 rfl (lv_at hl 1 rfl) ?_
            refine lv_iconst (v := 2) hx hb dX11_readE_42 (by decide) ?_
            refine lv_icmp_ne (tgt := 54) hx hb dX11_readE_43 (by decide) (fun c_27 => ?_) (fun c_27 => ?_)
            · have h := it_f c_27 h
              refine lv_aload_n hx hb dX11_readE_54 rfl (lv_at hl 0 rfl) ?_
              refine lv_iload_n hx hb dX11_readE_55 rfl (lv_at hl 1 rfl) ?_
              obtain ⟨r_29, S_30, hc_28, h⟩ := cl1_ex h
              refine g_ci (g_runV (ci := 11) (o := 200) (As := [.int v1]) (rest := []) hx hb hml hown hts hK hN hT hS hW (c_X11_operand hB hc_28) (hB 200 bb_200) kd_200 rfl (gw_V mw_1297 mw_1299 mw_53 mw_73 mw_1300) hv_X11_operand rfl rfl rfl (rm_ok (by decide) (by decide)) hl.1 (Nat.le_of_ble_eq_true rfl) dX11_readE_56 rfl ⟨Nat.zero_le _, Nat.zero_le _⟩) hS (fun H locs hW hS => ?_)
              refine lv_istore_n (lv' := [(1, .int r_29), (0, .ref (ad 200))]) hx hb dX11_readE_59 rfl hl (by decide) rfl (fun ls hl => ?_)
              refine lv_goto (tgt := 12) hx hb dX11_readE_60 (by decide) ?_
              exact ih _ _ h _ _ _ hW hS (lv_sub hl [1, 0] rfl)
            · have h := it_t c_27 h
              refine lv_aload_n hx hb dX11_readE_46 rfl (lv_at hl 0 rfl) ?_
              obtain ⟨r_32, S_33, hc_31, h⟩ := cl1_ex h
              refine g_ci (g_runV (ci := 11) (o := 200) (As := []) (rest := []) hx hb hml hown hts hK hN hT hS hW (c_X11_sign hB hc_31) (hB 200 bb_200) kd_200 rfl (gw_V mw_1271 mw_1273 mw_47 mw_73 mw_1274) hv_X11_sign rfl rfl rfl (rm_ok (by decide) (by decide)) hl.1 (Nat.le_of_ble_eq_true rfl) dX11_readE_47 rfl ⟨Nat.zero_le _, Nat.zero_le _⟩) hS (fun H locs hW hS => ?_)
              refine lv_istore_n (lv' := [(1, .int r_32), (0, .ref (ad 200))]) hx hb dX11_readE_50 rfl hl (by decide) rfl (fun ls hl => ?_)
              refine lv_goto (tgt := 12) hx hb dX11_readE_51 (by decide) ?_
              exact ih _ _ h _ _ _ hW hS (lv_sub hl [1, 0] rfl)
def f_X11_readE (N : Nat) (S : St) : Option (St) := bn (sv S 200 47 0) fun S_1 => bn (sv S_1 200 48 0) fun S_2 => f_X11_readE_l12 N (fun S_34 => if (gv S_34 200 38) = 0 then (cl0 (f_X11_settle N S_34 0) fun S_37 => some S_37) else (some S_34)) N S_2 0
set_option maxHeartbeats 4000000 in
theorem t_X11_readE (C : MC p s m args meth c cX11_readE 2 none RX11 g A) (hB : Lk L) {S : St} {S9 : St} (h : f_X11_readE N S = some S9) {H : Heap} {locs : List Loc} {ls : Array Slot} (hW : GW g A ad L S H) (hS : va_S A s.heap H locs) (hl : lv_has ls 2 [(0, .ref (ad 200))]) : W p l e (rmk 5) s m args below meth c H locs 0 0 (MQ below (qv g A ad L S9) args s 0 0 A) (F0 m 0 ls []) := by
  obtain ⟨hx, hb, hml, hown, hts, hr, hlocks, hK, hN, hT⟩ := id C
  unfold f_X11_readE at h
  refine lv_aload_n hx hb dX11_readE_0 rfl (lv_at hl 0 rfl) ?_
  refine lv_iconst (v := 0) hx hb dX11_readE_1 (by decide) ?_
  refine g_put (C := RX11) (T := TX11) (N := 67) (ci := 11) hx hb hts inX11 tyX11 tyX11_ok nmX11 hown hK hW hS (hB 200 bb_200) kd_200 rfl 47 (by decide) mw_1008 rfl rfl rfl rfl (Nat.le_of_ble_eq_true rfl) (sv S 200 47 0) (ps_200_47) cellOf_sv dX11_readE_2 (fun S_1 eS_1 H locs hW hS => ?_)
  have h := bn_at eS_1 h
  refine lv_aload_n hx hb dX11_readE_5 rfl (lv_at hl 0 rfl) ?_
  refine lv_iconst (v := 0) hx hb dX11_readE_6 (by decide) ?_
  refine g_put (C := RX11) (T := TX11) (N := 67) (ci := 11) hx hb hts inX11 tyX11 tyX11_ok nmX11 hown hK hW hS (hB 200 bb_200) kd_200 rfl 48 (by decide) mw_1009 rfl rfl rfl rfl (Nat.le_of_ble_eq_true rfl) (sv S_1 200 48 0) (ps_200_48) cellOf_sv dX11_readE_7 (fun S_2 eS_2 H locs hW hS => ?_)
  have h := bn_at eS_2 h
  refine lv_iconst (v := 0) hx hb dX11_readE_10 (by decide) ?_
  refine lv_istore_n (lv' := [(1, .int 0), (0, .ref (ad 200))]) hx hb dX11_readE_11 rfl hl (by decide) rfl (fun ls hl => ?_)
  refine t_X11_readE_l12 C hB ?_ _ _ _ h _ _ _ hW hS (lv_sub hl [1, 0] rfl)
  intro S_34 h H locs ls hW hS hl
  refine lv_aload_n hx hb dX11_readE_63 rfl (lv_at hl 0 rfl) ?_
  refine g_get (C := RX11) (T := TX11) (N := 67) (ci := 11) hx hb hts inX11 hown hK hW (hB 200 bb_200) kd_200 rfl 38 (by decide) mw_999 rfl rfl dX11_readE_64 ?_
  refine lv_if_ne (tgt := 75) hx hb dX11_readE_67 (by decide) (fun c_35 => ?_) (fun c_35 => ?_)
  · have h := it_f c_35 h
    cases h
    exact g_vret hx hb hr hlocks hW hS dX11_readE_75
  · have h := it_t c_35 h
    refine lv_aload_n hx hb dX11_readE_70 rfl (lv_at hl 0 rfl) ?_
    refine lv_iconst (v := 0) hx hb dX11_readE_71 (by decide) ?_
    obtain ⟨S_37, hc_36, h⟩ := cl0_ex h
    refine g_cv (g_runV (ci := 11) (o := 200) (As := [.int 0]) (rest := []) hx hb hml hown hts hK hN hT hS hW (c_X11_settle hB hc_36) (hB 200 bb_200) kd_200 rfl (gw_V mw_1275 mw_1277 mw_48 mw_73 mw_1278) hv_X11_settle rfl rfl rfl (rm_ok (by decide) (by decide)) hl.1 (Nat.le_of_ble_eq_true rfl) dX11_readE_72 rfl ⟨Nat.zero_le _, Nat.zero_le _⟩) hS (fun H locs hW hS => ?_)
    cases h
    exact g_vret hx hb hr hlocks hW hS dX11_readE_75
theorem c_X11_readE (hB : Lk L) {S : St} {S9 : St} (h : f_X11_readE N S = some S9) : Met l yX11_readE (gws yX11_readE cX11_readE 2 none) (rmk 5) (va_Pc [.ref (ad 200)] (WU g A ad L S)) (qv g A ad L S9) 0 0 A :=
  g_met [.ref (ad 200)] (by decide) (Nat.le_of_ble_eq_true rfl) (fun p e s m below meth c ls C hW hl _ => t_X11_readE C hB h hW va_S.rf hl)
theorem hv_X11_readE : yX11_readE.cls = RX11 ∧ yX11_readE.cls ≠ "java/lang/invoke/MethodHandle" ∧ yX11_readE.cls ≠ "java/lang/invoke/VarHandle" ∧ (parseMethodDescriptor yX11_readE.desc).map (fun d => d.parameters.length) = some 0 := by decide +kernel
/-! DroveRoadsModel.readAct -/
def f_X11_readAct_j98 (N : Nat) (S : St) : Option (St) := if (gv S 200 38) ≤ 0 then (if (gv S 200 33) < 0 ∨ 8 ≤ ix (gv S 200 33) then none else bn (sv S 233 (ix (gv S 200 33)) (gv S 200 44)) fun S_28 => cl0 (f_X11_next N S_28) fun S_30 => if (gv S_30 200 42) = 59 then (if (gv S_30 200 38) = 0 then (cl0 (f_X11_next N S_30) fun S_34 => some S_34) else (some S_30)) else (cl0 (f_X11_wrong S_30 2) fun S_36 => if (gv S_36 200 38) = 0 then (cl0 (f_X11_next N S_36) fun S_39 => some S_39) else (some S_36))) else (some S)
set_option maxHeartbeats 4000000 in
theorem t_X11_readAct_j98 (C : MC p s m args meth c cX11_readAct 2 none RX11 g A) (hB : Lk L) {S : St} {S9 : St} (h : f_X11_readAct_j98 N S = some S9) {H : Heap} {locs : List Loc} {ls : Array Slot} (hW : GW g A ad L S H) (hS : va_S A s.heap H locs) (hl : lv_has ls 2 [(0, .ref (ad 200))]) : W p l e (rmk 3) s m args below meth c H locs 0 0 (MQ below (qv g A ad L S9) args s 0 0 A) (F0 m 98 ls []) := by
  obtain ⟨hx, hb, hml, hown, hts, hr, hlocks, hK, hN, hT⟩ := id C
  unfold f_X11_readAct_j98 at h
  refine lv_aload_n hx hb dX11_readAct_98 rfl (lv_at hl 0 rfl) ?_
  refine g_get (C := RX11) (T := TX11) (N := 67) (ci := 11) hx hb hts inX11 hown hK hW (hB 200 bb_200) kd_200 rfl 38 (by decide) mw_999 rfl rfl dX11_readAct_99 ?_
  refine lv_if_le (tgt := 106) hx hb dX11_readAct_102 (by decide) (fun c_26 => ?_) (fun c_26 => ?_)
  · have h := it_t c_26 h
    refine lv_aload_n hx hb dX11_readAct_106 rfl (lv_at hl 0 rfl) ?_
    refine g_get (C := RX11) (T := TX11) (N := 67) (ci := 11) hx hb hts inX11 hown hK hW (hB 200 bb_200) kd_200 rfl 32 (by decide) mw_993 rfl rfl dX11_readAct_107 ?_
    refine lv_aload_n hx hb dX11_readAct_110 rfl (lv_at hl 0 rfl) ?_
    refine g_get (C := RX11) (T := TX11) (N := 67) (ci := 11) hx hb hts inX11 hown hK hW (hB 200 bb_200) kd_200 rfl 33 (by decide) mw_994 rfl rfl dX11_readAct_111 ?_
    refine lv_aload_n hx hb dX11_readAct_114 rfl (lv_at hl 0 rfl) ?_
    refine g_get (C := RX11) (T := TX11) (N := 67) (ci := 11) hx hb hts inX11 hown hK hW (hB 200 bb_200) kd_200 rfl 44 (by decide) mw_1005 rfl rfl dX11_readAct_115 ?_
    obtain ⟨hi_27, h⟩ := ck_n h
    refine g_iast hx hb hK hW hS (hB 233 bb_233) (fun _ => kd_233) hi_27 dX11_readAct_118 (fun S_28 eS_28 H locs hW hS => ?_)
    have h := bn_at eS_28 h
    refine lv_aload_n hx hb dX11_readAct_119 rfl (lv_at hl 0 rfl) ?_
    obtain ⟨S_30, hc_29, h⟩ := cl0_ex h
    refine g_cv (g_runV (ci := 11) (o := 200) (As := []) (rest := []) hx hb hml hown hts hK hN hT hS hW (c_X11_next hB hc_29) (hB 200 bb_200) kd_200 rfl (gw_V mw_1236 mw_1238 mw_41 mw_73 mw_1239) hv_X11_next rfl rfl rfl (rm_ok (by decide) (by decide)) hl.1 (Nat.le_of_ble_eq_true rfl) dX11_readAct_120 rfl ⟨Nat.zero_le _, Nat.zero_le _⟩) hS (fun H locs hW hS => ?_)
    refine lv_aload_n hx hb dX11_readAct_123 rfl (lv_at hl 0 rfl) ?_
    refine g_get (C := RX11) (T := TX11) (N := 67) (ci := 11) hx hb hts inX11 hown hK hW (hB 200 bb_200) kd_200 rfl 42 (by decide) mw_1003 rfl rfl dX11_readAct_124 ?_
    refine lv_bipush (v := 59) hx hb dX11_readAct_127 (by decide) ?_
    refine lv_icmp_eq (tgt := 137) hx hb dX11_readAct_129 (by decide) (fun c_31 => ?_) (fun c_31 => ?_)
    · have h := it_t c_31 h
      refine lv_aload_n hx hb dX11_readAct_137 rfl (lv_at hl 0 rfl) ?_
      refine g_get (C := RX11) (T := TX11) (N := 67) (ci := 11) hx hb hts inX11 hown hK hW (hB 200 bb_200) kd_200 rfl 38 (by decide) mw_999 rfl rfl dX11_readAct_138 ?_
      refine lv_if_ne (tgt := 148) hx hb dX11_readAct_141 (by decide) (fun c_32 => ?_) (fun c_32 => ?_)
      · have h := it_f c_32 h
        cases h
        exact g_vret hx hb hr hlocks hW hS dX11_readAct_148
      · have h := it_t c_32 h
        refine lv_aload_n hx hb dX11_readAct_144 rfl (lv_at hl 0 rfl) ?_
        obtain ⟨S_34, hc_33, h⟩ := cl0_ex h
        refine g_cv (g_runV (ci := 11) (o := 200) (As := []) (rest := []) hx hb hml hown hts hK hN hT hS hW (c_X11_next hB hc_33) (hB 200 bb_200) kd_200 rfl (gw_V mw_1236 mw_1238 mw_41 mw_73 mw_1239) hv_X11_next rfl rfl rfl (rm_ok (by decide) (by decide)) hl.1 (Nat.le_of_ble_eq_true rfl) dX11_readAct_145 rfl ⟨Nat.zero_le _, Nat.zero_le _⟩) hS (fun H locs hW hS => ?_)
        cases h
        exact g_vret hx hb hr hlocks hW hS dX11_readAct_148
    · have h := it_f c_31 h
      refine lv_aload_n hx hb dX11_readAct_132 rfl (lv_at hl 0 rfl) ?_
      refine lv_iconst (v := 2) hx hb dX11_readAct_133 (by decide) ?_
      obtain ⟨S_36, hc_35, h⟩ := cl0_ex h
      refine g_cv (g_runV (ci := 11) (o := 200) (As := [.int 2]) (rest := []) hx hb hml hown hts hK hN hT hS hW (c_X11_wrong hB hc_35) (hB 200 bb_200) kd_200 rfl (gw_V mw_1258 mw_1260 mw_44 mw_73 mw_1261) hv_X11_wrong rfl rfl rfl (rm_ok (by decide) (by decide)) hl.1 (Nat.le_of_ble_eq_true rfl) dX11_readAct_134 rfl ⟨Nat.zero_le _, Nat.zero_le _⟩) hS (fun H locs hW hS => ?_)
      refine lv_aload_n hx hb dX11_readAct_137 rfl (lv_at hl 0 rfl) ?_
      refine g_get (C := RX11) (T := TX11) (N := 67) (ci := 11) hx hb hts inX11 hown hK hW (hB 200 bb_200) kd_200 rfl 38 (by decide) mw_999 rfl rfl dX11_readAct_138 ?_
      refine lv_if_ne (tgt := 148) hx hb dX11_readAct_141 (by decide) (fun c_37 => ?_) (fun c_37 => ?_)
      · have h := it_f c_37 h
        cases h
        exact g_vret hx hb hr hlocks hW hS dX11_readAct_148
      · have h := it_t c_37 h
        refine lv_aload_n hx hb dX11_readAct_144 rfl (lv_at hl 0 rfl) ?_
        obtain ⟨S_39, hc_38, h⟩ := cl0_ex h
        refine g_cv (g_runV (ci := 11) (o := 200) (As := []) (rest := []) hx hb hml hown hts hK hN hT hS hW (c_X11_next hB hc_38) (hB 200 bb_200) kd_200 rfl (gw_V mw_1236 mw_1238 mw_41 mw_73 mw_1239) hv_X11_next rfl rfl rfl (rm_ok (by decide) (by decide)) hl.1 (Nat.le_of_ble_eq_true rfl) dX11_readAct_145 rfl ⟨Nat.zero_le _, Nat.zero_le _⟩) hS (fun H locs hW hS => ?_)
        cases h
        exact g_vret hx hb hr hlocks hW hS dX11_readAct_148
  · have h := it_f c_26 h
    cases h
    exact g_vret hx hb hr hlocks hW hS dX11_readAct_105
def f_X11_readAct_j76 (N : Nat) (S : St) (v1 : Int32) (w101 : Int32) (w102 : Int32) : Option (St) := if w101 < 0 ∨ 8 ≤ ix w101 then none else bn (sv S 232 (ix w101) w102) fun S_12 => cl0 (f_X11_next N S_12) fun S_14 => if v1 = 0 then (if (gv S_14 200 42) = 59 then (if (gv S_14 200 38) = 0 then (cl0 (f_X11_next N S_14) fun S_19 => some S_19) else (some S_14)) else (cl0 (f_X11_wrong S_14 2) fun S_21 => if (gv S_21 200 38) = 0 then (cl0 (f_X11_next N S_21) fun S_24 => some S_24) else (some S_21))) else (if (gv S_14 200 42) = 2 then (f_X11_readAct_j98 N S_14) else (cl0 (f_X11_wrong S_14 2) fun S_41 => f_X11_readAct_j98 N S_41))
set_option maxHeartbeats 4000000 in
theorem t_X11_readAct_j76 (C : MC p s m args meth c cX11_readAct 2 none RX11 g A) (hB : Lk L) {S : St} {S9 : St} {v1 : Int32} {w101 : Int32} {w102 : Int32} (h : f_X11_readAct_j76 N S v1 w101 w102 = some S9) {H : Heap} {locs : List Loc} {ls : Array Slot} (hW : GW g A ad L S H) (hS : va_S A s.heap H locs) (hl : lv_has ls 2 [(0, .ref (ad 200)), (1, .int v1)]) : W p l e (rmk 3) s m args below meth c H locs 0 0 (MQ below (qv g A ad L S9) args s 0 0 A) (F0 m 76 ls [.int w102, .int w101, .ref (ad 232)]) := by
  obtain ⟨hx, hb, hml, hown, hts, hr, hlocks, hK, hN, hT⟩ := id C
  unfold f_X11_readAct_j76 at h
  obtain ⟨hi_11, h⟩ := ck_n h
  refine g_iast hx hb hK hW hS (hB 232 bb_232) (fun _ => kd_232) hi_11 dX11_readAct_76 (fun S_12 eS_12 H locs hW hS => ?_)
  have h := bn_at eS_12 h
  refine lv_aload_n hx hb dX11_readAct_77 rfl (lv_at hl 0 rfl) ?_
  obtain ⟨S_14, hc_13, h⟩ := cl0_ex h
  refine g_cv (g_runV (ci := 11) (o := 200) (As := []) (rest := []) hx hb hml hown hts hK hN hT hS hW (c_X11_next hB hc_13) (hB 200 bb_200) kd_200 rfl (gw_V mw_1236 mw_1238 mw_41 mw_73 mw_1239) hv_X11_next rfl rfl rfl (rm_ok (by decide) (by decide)) hl.1 (Nat.le_of_ble_eq_true rfl) dX11_readAct_78 rfl ⟨Nat.zero_le _, Nat.zero_le _⟩) hS (fun H locs hW hS => ?_)
  refine lv_iload_n hx hb dX11_readAct_81 rfl (lv_at hl 1 rfl) ?_
  refine lv_if_eq (tgt := 123) hx hb dX11_readAct_82 (by decide) (fun c_15 => ?_) (fun c_15 => ?_)
  · have h := it_t c_15 h
    refine lv_aload_n hx hb dX11_readAct_123 rfl (lv_at hl 0 rfl) ?_
    refine g_get (C := RX11) (T := TX11) (N := 67) (ci := 11) hx hb hts inX11 hown hK hW (hB 200 bb_200) kd_200 rfl 42 (by decide) mw_1003 rfl rfl dX11_readAct_124 ?_
    refine lv_bipush (v := 59) hx hb dX11_readAct_127 (by decide) ?_
    refine lv_icmp_eq (tgt := 137) hx hb dX11_readAct_129 (by decide) (fun c_16 => ?_) (fun c_16 => ?_)
    · have h := it_t c_16 h
      refine lv_aload_n hx hb dX11_readAct_137 rfl (lv_at hl 0 rfl) ?_
      refine g_get (C := RX11) (T := TX11) (N := 67) (ci := 11) hx hb hts inX11 hown hK hW (hB 200 bb_200) kd_200 rfl 38 (by decide) mw_999 rfl rfl dX11_readAct_138 ?_
      refine lv_if_ne (tgt := 148) hx hb dX11_readAct_141 (by decide) (fun c_17 => ?_) (fun c_17 => ?_)
      · have h := it_f c_17 h
        cases h
        exact g_vret hx hb hr hlocks hW hS dX11_readAct_148
      · have h := it_t c_17 h
        refine lv_aload_n hx hb dX11_readAct_144 rfl (lv_at hl 0 rfl) ?_
        obtain ⟨S_19, hc_18, h⟩ := cl0_ex h
        refine g_cv (g_runV (ci := 11) (o := 200) (As := []) (rest := []) hx hb hml hown hts hK hN hT hS hW (c_X11_next hB hc_18) (hB 200 bb_200) kd_200 rfl (gw_V mw_1236 mw_1238 mw_41 mw_73 mw_1239) hv_X11_next rfl rfl rfl (rm_ok (by decide) (by decide)) hl.1 (Nat.le_of_ble_eq_true rfl) dX11_readAct_145 rfl ⟨Nat.zero_le _, Nat.zero_le _⟩) hS (fun H locs hW hS => ?_)
        cases h
        exact g_vret hx hb hr hlocks hW hS dX11_readAct_148
    · have h := it_f c_16 h
      refine lv_aload_n hx hb dX11_readAct_132 rfl (lv_at hl 0 rfl) ?_
      refine lv_iconst (v := 2) hx hb dX11_readAct_133 (by decide) ?_
      obtain ⟨S_21, hc_20, h⟩ := cl0_ex h
      refine g_cv (g_runV (ci := 11) (o := 200) (As := [.int 2]) (rest := []) hx hb hml hown hts hK hN hT hS hW (c_X11_wrong hB hc_20) (hB 200 bb_200) kd_200 rfl (gw_V mw_1258 mw_1260 mw_44 mw_73 mw_1261) hv_X11_wrong rfl rfl rfl (rm_ok (by decide) (by decide)) hl.1 (Nat.le_of_ble_eq_true rfl) dX11_readAct_134 rfl ⟨Nat.zero_le _, Nat.zero_le _⟩) hS (fun H locs hW hS => ?_)
      refine lv_aload_n hx hb dX11_readAct_137 rfl (lv_at hl 0 rfl) ?_
      refine g_get (C := RX11) (T := TX11) (N := 67) (ci := 11) hx hb hts inX11 hown hK hW (hB 200 bb_200) kd_200 rfl 38 (by decide) mw_999 rfl rfl dX11_readAct_138 ?_
      refine lv_if_ne (tgt := 148) hx hb dX11_readAct_141 (by decide) (fun c_22 => ?_) (fun c_22 => ?_)
      · have h := it_f c_22 h
        cases h
        exact g_vret hx hb hr hlocks hW hS dX11_readAct_148
      · have h := it_t c_22 h
        refine lv_aload_n hx hb dX11_readAct_144 rfl (lv_at hl 0 rfl) ?_
        obtain ⟨S_24, hc_23, h⟩ := cl0_ex h
        refine g_cv (g_runV (ci := 11) (o := 200) (As := []) (rest := []) hx hb hml hown hts hK hN hT hS hW (c_X11_next hB hc_23) (hB 200 bb_200) kd_200 rfl (gw_V mw_1236 mw_1238 mw_41 mw_73 mw_1239) hv_X11_next rfl rfl rfl (rm_ok (by decide) (by decide)) hl.1 (Nat.le_of_ble_eq_true rfl) dX11_readAct_145 rfl ⟨Nat.zero_le _, Nat.zero_le _⟩) hS (fun H locs hW hS => ?_)
        cases h
        exact g_vret hx hb hr hlocks hW hS dX11_readAct_148
  · have h := it_f c_15 h
    refine lv_aload_n hx hb dX11_readAct_85 rfl (lv_at hl 0 rfl) ?_
    refine g_get (C := RX11) (T := TX11) (N := 67) (ci := 11) hx hb hts inX11 hown hK hW (hB 200 bb_200) kd_200 rfl 42 (by decide) mw_1003 rfl rfl dX11_readAct_86 ?_
    refine lv_iconst (v := 2) hx hb dX11_readAct_89 (by decide) ?_
    refine lv_icmp_eq (tgt := 98) hx hb dX11_readAct_90 (by decide) (fun c_25 => ?_) (fun c_25 => ?_)
    · have h := it_t c_25 h
      exact t_X11_readAct_j98 C hB h hW hS (lv_sub hl [0] rfl)
    · have h := it_f c_25 h
      refine lv_aload_n hx hb dX11_readAct_93 rfl (lv_at hl 0 rfl) ?_
      refine lv_iconst (v := 2) hx hb dX11_readAct_94 (by decide) ?_
      obtain ⟨S_41, hc_40, h⟩ := cl0_ex h
      refine g_cv (g_runV (ci := 11) (o := 200) (As := [.int 2]) (rest := []) hx hb hml hown hts hK hN hT hS hW (c_X11_wrong hB hc_40) (hB 200 bb_200) kd_200 rfl (gw_V mw_1258 mw_1260 mw_44 mw_73 mw_1261) hv_X11_wrong rfl rfl rfl (rm_ok (by decide) (by decide)) hl.1 (Nat.le_of_ble_eq_true rfl) dX11_readAct_95 rfl ⟨Nat.zero_le _, Nat.zero_le _⟩) hS (fun H locs hW hS => ?_)
      exact t_X11_readAct_j98 C hB h hW hS (lv_sub hl [0] rfl)
def f_X11_readAct_j37 (N : Nat) (S : St) (v1 : Int32) : Option (St) := if (gv S 200 38) ≤ 0 then (if v1 = 0 then (cl0 (f_X11_isWord S 1919251316) fun r_8 => if r_8 = 0 then (f_X11_readAct_j76 N S v1 (gv S 200 33) 0) else (f_X11_readAct_j76 N S v1 (gv S 200 33) 1)) else (f_X11_readAct_j76 N S v1 (gv S 200 33) 2)) else (some S)
set_option maxHeartbeats 4000000 in
theorem t_X11_readAct_j37 (C : MC p s m args meth c cX11_readAct 2 none RX11 g A) (hB : Lk L) {S : St} {S9 : St} {v1 : Int32} (h : f_X11_readAct_j37 N S v1 = some S9) {H : Heap} {locs : List Loc} {ls : Array Slot} (hW : GW g A ad L S H) (hS : va_S A s.heap H locs) (hl : lv_has ls 2 [(0, .ref (ad 200)), (1, .int v1)]) : W p l e (rmk 3) s m args below meth c H locs 0 0 (MQ below (qv g A ad L S9) args s 0 0 A) (F0 m 37 ls []) := by
  obtain ⟨hx, hb, hml, hown, hts, hr, hlocks, hK, hN, hT⟩ := id C
  unfold f_X11_readAct_j37 at h
  refine lv_aload_n hx hb dX11_readAct_37 rfl (lv_at hl 0 rfl) ?_
  refine g_get (C := RX11) (T := TX11) (N := 67) (ci := 11) hx hb hts inX11 hown hK hW (hB 200 bb_200) kd_200 rfl 38 (by decide) mw_999 rfl rfl dX11_readAct_38 ?_
  refine lv_if_le (tgt := 45) hx hb dX11_readAct_41 (by decide) (fun c_5 => ?_) (fun c_5 => ?_)
  · have h := it_t c_5 h
    refine lv_aload_n hx hb dX11_readAct_45 rfl (lv_at hl 0 rfl) ?_
    refine g_get (C := RX11) (T := TX11) (N := 67) (ci := 11) hx hb hts inX11 hown hK hW (hB 200 bb_200) kd_200 rfl 31 (by decide) mw_992 rfl rfl dX11_readAct_46 ?_
    refine lv_aload_n hx hb dX11_readAct_49 rfl (lv_at hl 0 rfl) ?_
    refine g_get (C := RX11) (T := TX11) (N := 67) (ci := 11) hx hb hts inX11 hown hK hW (hB 200 bb_200) kd_200 rfl 33 (by decide) mw_994 rfl rfl dX11_readAct_50 ?_
    refine lv_iload_n hx hb dX11_readAct_53 rfl (lv_at hl 1 rfl) ?_
    refine lv_if_eq (tgt := 61) hx hb dX11_readAct_54 (by decide) (fun c_6 => ?_) (fun c_6 => ?_)
    · have h := it_t c_6 h
      refine lv_aload_n hx hb dX11_readAct_61 rfl (lv_at hl 0 rfl) ?_
      refine lv_ldc2 (v := 1919251316) hx hb hown (hts _ mw_1306) dX11_readAct_62 ?_
      obtain ⟨r_8, hc_7, h⟩ := cl0_ex h
      refine g_cz (g_runV (ci := 11) (o := 200) (As := [.long 1919251316]) (rest := [.int (gv S 200 33), .ref (ad 232)]) hx hb hml hown hts hK hN hT hS hW (c_X11_isWord hB hc_7) (hB 200 bb_200) kd_200 rfl (gw_V mw_1254 mw_1256 mw_43 mw_73 mw_1257) hv_X11_isWord rfl rfl rfl (rm_ok (by decide) (by decide)) hl.1 (Nat.le_of_ble_eq_true rfl) dX11_readAct_65 rfl ⟨Nat.zero_le _, Nat.zero_le _⟩) hS (fun hz_9 H locs hW hS => ?_)
      refine lv_if_eq (tgt := 75) hx hb dX11_readAct_68 (by decide) (fun c_10 => ?_) (fun c_10 => ?_)
      · have h := it_t c_10 h
        refine lv_iconst (v := 0) hx hb dX11_readAct_75 (by decide) ?_
        exact t_X11_readAct_j76 C hB h hW hS (lv_sub hl [0, 1] rfl)
      · have h := it_f c_10 h
        refine lv_iconst (v := 1) hx hb dX11_readAct_71 (by decide) ?_
        refine lv_goto (tgt := 76) hx hb dX11_readAct_72 (by decide) ?_
        exact t_X11_readAct_j76 C hB h hW hS (lv_sub hl [0, 1] rfl)
    · have h := it_f c_6 h
      refine lv_iconst (v := 2) hx hb dX11_readAct_57 (by decide) ?_
      refine lv_goto (tgt := 76) hx hb dX11_readAct_58 (by decide) ?_
      exact t_X11_readAct_j76 C hB h hW hS (lv_sub hl [0, 1] rfl)
  · have h := it_f c_5 h
    cases h
    exact g_vret hx hb hr hlocks hW hS dX11_readAct_44
def f_X11_readAct (N : Nat) (S : St) : Option (St) := cl0 (f_X11_isWord S 1936026732) fun r_2 => if r_2 = 0 then (cl0 (f_X11_isWord S 2002873451) fun r_43 => if r_43 = 0 then (cl0 (f_X11_isWord S 1919251316) fun r_47 => if r_47 = 0 then (cl0 (f_X11_wrong S 2) fun S_51 => f_X11_readAct_j37 N S_51 r_2) else (f_X11_readAct_j37 N S r_2)) else (f_X11_readAct_j37 N S r_2)) else (f_X11_readAct_j37 N S r_2)
set_option maxHeartbeats 4000000 in
theorem t_X11_readAct (C : MC p s m args meth c cX11_readAct 2 none RX11 g A) (hB : Lk L) {S : St} {S9 : St} (h : f_X11_readAct N S = some S9) {H : Heap} {locs : List Loc} {ls : Array Slot} (hW : GW g A ad L S H) (hS : va_S A s.heap H locs) (hl : lv_has ls 2 [(0, .ref (ad 200))]) : W p l e (rmk 3) s m args below meth c H locs 0 0 (MQ below (qv g A ad L S9) args s 0 0 A) (F0 m 0 ls []) := by
  obtain ⟨hx, hb, hml, hown, hts, hr, hlocks, hK, hN, hT⟩ := id C
  unfold f_X11_readAct at h
  refine lv_aload_n hx hb dX11_readAct_0 rfl (lv_at hl 0 rfl) ?_
  refine lv_ldc2 (v := 1936026732) hx hb hown (hts _ mw_1307) dX11_readAct_1 ?_
  obtain ⟨r_2, hc_1, h⟩ := cl0_ex h
  refine g_cz (g_runV (ci := 11) (o := 200) (As := [.long 1936026732]) (rest := []) hx hb hml hown hts hK hN hT hS hW (c_X11_isWord hB hc_1) (hB 200 bb_200) kd_200 rfl (gw_V mw_1254 mw_1256 mw_43 mw_73 mw_1257) hv_X11_isWord rfl rfl rfl (rm_ok (by decide) (by decide)) hl.1 (Nat.le_of_ble_eq_true rfl) dX11_readAct_4 rfl ⟨Nat.zero_le _, Nat.zero_le _⟩) hS (fun hz_3 H locs hW hS => ?_)
  refine lv_istore_n (lv' := [(1, .int r_2), (0, .ref (ad 200))]) hx hb dX11_readAct_7 rfl hl (by decide) rfl (fun ls hl => ?_)
  refine lv_iload_n hx hb dX11_readAct_8 rfl (lv_at hl 0 rfl) ?_
  refine lv_if_ne (tgt := 37) hx hb dX11_readAct_9 (by decide) (fun c_4 => ?_) (fun c_4 => ?_)
  · have h := it_f c_4 h
    exact t_X11_readAct_j37 C hB h hW hS (lv_sub hl [1, 0] rfl)
  · have h := it_t c_4 h
    refine lv_aload_n hx hb dX11_readAct_12 rfl (lv_at hl 1 rfl) ?_
    refine lv_ldc2 (v := 2002873451) hx hb hown (hts _ mw_1305) dX11_readAct_13 ?_
    obtain ⟨r_43, hc_42, h⟩ := cl0_ex h
    refine g_cz (g_runV (ci := 11) (o := 200) (As := [.long 2002873451]) (rest := []) hx hb hml hown hts hK hN hT hS hW (c_X11_isWord hB hc_42) (hB 200 bb_200) kd_200 rfl (gw_V mw_1254 mw_1256 mw_43 mw_73 mw_1257) hv_X11_isWord rfl rfl rfl (rm_ok (by decide) (by decide)) hl.1 (Nat.le_of_ble_eq_true rfl) dX11_readAct_16 rfl ⟨Nat.zero_le _, Nat.zero_le _⟩) hS (fun hz_44 H locs hW hS => ?_)
    refine lv_if_ne (tgt := 37) hx hb dX11_readAct_19 (by decide) (fun c_45 => ?_) (fun c_45 => ?_)
    · have h := it_f c_45 h
      exact t_X11_readAct_j37 C hB h hW hS (lv_sub hl [1, 0] rfl)
    · have h := it_t c_45 h
      refine lv_aload_n hx hb dX11_readAct_22 rfl (lv_at hl 1 rfl) ?_
      refine lv_ldc2 (v := 1919251316) hx hb hown (hts _ mw_1306) dX11_readAct_23 ?_
      obtain ⟨r_47, hc_46, h⟩ := cl0_ex h
      refine g_cz (g_runV (ci := 11) (o := 200) (As := [.long 1919251316]) (rest := []) hx hb hml hown hts hK hN hT hS hW (c_X11_isWord hB hc_46) (hB 200 bb_200) kd_200 rfl (gw_V mw_1254 mw_1256 mw_43 mw_73 mw_1257) hv_X11_isWord rfl rfl rfl (rm_ok (by decide) (by decide)) hl.1 (Nat.le_of_ble_eq_true rfl) dX11_readAct_26 rfl ⟨Nat.zero_le _, Nat.zero_le _⟩) hS (fun hz_48 H locs hW hS => ?_)
      refine lv_if_ne (tgt := 37) hx hb dX11_readAct_29 (by decide) (fun c_49 => ?_) (fun c_49 => ?_)
      · have h := it_f c_49 h
        exact t_X11_readAct_j37 C hB h hW hS (lv_sub hl [1, 0] rfl)
      · have h := it_t c_49 h
        refine lv_aload_n hx hb dX11_readAct_32 rfl (lv_at hl 1 rfl) ?_
        refine lv_iconst (v := 2) hx hb dX11_readAct_33 (by decide) ?_
        obtain ⟨S_51, hc_50, h⟩ := cl0_ex h
        refine g_cv (g_runV (ci := 11) (o := 200) (As := [.int 2]) (rest := []) hx hb hml hown hts hK hN hT hS hW (c_X11_wrong hB hc_50) (hB 200 bb_200) kd_200 rfl (gw_V mw_1258 mw_1260 mw_44 mw_73 mw_1261) hv_X11_wrong rfl rfl rfl (rm_ok (by decide) (by decide)) hl.1 (Nat.le_of_ble_eq_true rfl) dX11_readAct_34 rfl ⟨Nat.zero_le _, Nat.zero_le _⟩) hS (fun H locs hW hS => ?_)
        exact t_X11_readAct_j37 C hB h hW hS (lv_sub hl [1, 0] rfl)
theorem c_X11_readAct (hB : Lk L) {S : St} {S9 : St} (h : f_X11_readAct N S = some S9) : Met l yX11_readAct (gws yX11_readAct cX11_readAct 2 none) (rmk 3) (va_Pc [.ref (ad 200)] (WU g A ad L S)) (qv g A ad L S9) 0 0 A :=
  g_met [.ref (ad 200)] (by decide) (Nat.le_of_ble_eq_true rfl) (fun p e s m below meth c ls C hW hl _ => t_X11_readAct C hB h hW va_S.rf hl)
theorem hv_X11_readAct : yX11_readAct.cls = RX11 ∧ yX11_readAct.cls ≠ "java/lang/invoke/MethodHandle" ∧ yX11_readAct.cls ≠ "java/lang/invoke/VarHandle" ∧ (parseMethodDescriptor yX11_readAct.desc).map (fun d => d.parameters.length) = some 0 := by decide +kernel
end S22
