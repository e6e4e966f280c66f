section S23
variable {p : Program} {l : Launch} {e : Env} {s : State} {m : MethodId} {args : Array Value} {below : List Frame} {meth : Method} {c : Code} {A : Nat → Prop} {g : Cx} {ad : Nat → Nat} {L : List Nat} {N : Nat} {q0 : Nat}
/-! DroveRoadsModel.orders -/
def f_X11_orders_j96 (N : Nat) (kb : St → Option (Int32 × St)) (k : St → Option (Int32 × St)) (S : St) (v1 : Int32) : Option (Int32 × St) := if (gv S 200 38) ≤ 0 then (if (gv S 200 33) < 0 ∨ 10 ≤ ix (gv S 200 33) then none else bn (sv S 231 (ix (gv S 200 33)) (gv S 200 34)) fun S_25 => cl0 (f_X11_next N S_25) fun S_27 => cl0 (f_X11_readE N S_27) fun S_29 => if (gv S_29 200 38) ≤ 0 then (cl0 (f_X11_next N S_29) fun S_32 => cl0 (f_X11_readAct N S_32) fun S_34 => if (gv S_34 200 38) ≤ 0 then (bn (sv S_34 200 33 ((gv S_34 200 33) + 1)) fun S_36 => kb S_36) else (some ((-1), S_34))) else (some ((-1), S_29))) else (some ((-1), S))
set_option maxHeartbeats 4000000 in
theorem t_X11_orders_j96 (C : MC p s m args meth c cX11_orders 3 (some .int) RX11 g A) (hB : Lk L) {S : St} {r : Int32} {S9 : St} {v1 : Int32} {kb : St → Option (Int32 × St)} {k : St → Option (Int32 × St)} (hkb : ∀ (S : St), kb S = some (r, S9) → ∀ (H : Heap) (locs : List Loc) (ls : Array Slot), GW g A ad L S H → va_S A s.heap H locs → lv_has ls 3 [(0, .ref (ad 200)), (1, .int v1)] → W p l e (rmk 6) s m args below meth c H locs 0 0 (MQ below (qi g A ad L r S9) args s 0 0 A) (F0 m 58 ls [])) (hk : ∀ (S : St), k S = some (r, S9) → ∀ (H : Heap) (locs : List Loc) (ls : Array Slot), GW g A ad L S H → va_S A s.heap H locs → lv_has ls 3 [(0, .ref (ad 200)), (1, .int v1)] → W p l e (rmk 6) s m args below meth c H locs 0 0 (MQ below (qi g A ad L r S9) args s 0 0 A) (F0 m 165 ls [])) (h : f_X11_orders_j96 N kb k S v1 = some (r, S9)) {H : Heap} {locs : List Loc} {ls : Array Slot} (hW : GW g A ad L S H) (hS : va_S A s.heap H locs) (hl : lv_has ls 3 [(0, .ref (ad 200)), (1, .int v1)]) : W p l e (rmk 6) s m args below meth c H locs 0 0 (MQ below (qi g A ad L r S9) args s 0 0 A) (F0 m 96 ls []) := by
  obtain ⟨hx, hb, hml, hown, hts, hr, hlocks, hK, hN, hT⟩ := id C
  unfold f_X11_orders_j96 at h
  refine lv_aload_n hx hb dX11_orders_96 rfl (lv_at hl 0 rfl) ?_
  refine g_get (C := RX11) (T := TX11) (N := 67) (ci := 11) hx hb hts inX11 hown hK hW (hB 200 bb_200) kd_200 rfl 38 (by decide) mw_999 rfl rfl dX11_orders_97 ?_
  refine lv_if_le (tgt := 105) hx hb dX11_orders_100 (by decide) (fun c_23 => ?_) (fun c_23 => ?_)
  · have h := it_t c_23 h
    refine lv_aload_n hx hb dX11_orders_105 rfl (lv_at hl 0 rfl) ?_
    refine g_get (C := RX11) (T := TX11) (N := 67) (ci := 11) hx hb hts inX11 hown hK hW (hB 200 bb_200) kd_200 rfl 30 (by decide) mw_991 rfl rfl dX11_orders_106 ?_
    refine lv_aload_n hx hb dX11_orders_109 rfl (lv_at hl 0 rfl) ?_
    refine g_get (C := RX11) (T := TX11) (N := 67) (ci := 11) hx hb hts inX11 hown hK hW (hB 200 bb_200) kd_200 rfl 33 (by decide) mw_994 rfl rfl dX11_orders_110 ?_
    refine lv_aload_n hx hb dX11_orders_113 rfl (lv_at hl 0 rfl) ?_
    refine g_get (C := RX11) (T := TX11) (N := 67) (ci := 11) hx hb hts inX11 hown hK hW (hB 200 bb_200) kd_200 rfl 34 (by decide) mw_995 rfl rfl dX11_orders_114 ?_
    obtain ⟨hi_24, h⟩ := ck_n h
    refine g_iast hx hb hK hW hS (hB 231 bb_231) (fun _ => kd_231) hi_24 dX11_orders_117 (fun S_25 eS_25 H locs hW hS => ?_)
    have h := bn_at eS_25 h
    refine lv_aload_n hx hb dX11_orders_118 rfl (lv_at hl 0 rfl) ?_
    obtain ⟨S_27, hc_26, h⟩ := cl0_ex h
    refine g_cv (g_runV (ci := 11) (o := 200) (As := []) (rest := []) hx hb hml hown hts hK hN hT hS hW (c_X11_next hB hc_26) (hB 200 bb_200) kd_200 rfl (gw_V mw_1236 mw_1238 mw_41 mw_73 mw_1239) hv_X11_next rfl rfl rfl (rm_ok (by decide) (by decide)) hl.1 (Nat.le_of_ble_eq_true rfl) dX11_orders_119 rfl ⟨Nat.zero_le _, Nat.zero_le _⟩) hS (fun H locs hW hS => ?_)
    refine lv_aload_n hx hb dX11_orders_122 rfl (lv_at hl 0 rfl) ?_
    obtain ⟨S_29, hc_28, h⟩ := cl0_ex h
    refine g_cv (g_runV (ci := 11) (o := 200) (As := []) (rest := []) hx hb hml hown hts hK hN hT hS hW (c_X11_readE hB hc_28) (hB 200 bb_200) kd_200 rfl (gw_V mw_1262 mw_1264 mw_45 mw_73 mw_1265) hv_X11_readE rfl rfl rfl (rm_ok (by decide) (by decide)) hl.1 (Nat.le_of_ble_eq_true rfl) dX11_orders_123 rfl ⟨Nat.zero_le _, Nat.zero_le _⟩) hS (fun H locs hW hS => ?_)
    refine lv_aload_n hx hb dX11_orders_126 rfl (lv_at hl 0 rfl) ?_
    refine g_get (C := RX11) (T := TX11) (N := 67) (ci := 11) hx hb hts inX11 hown hK hW (hB 200 bb_200) kd_200 rfl 38 (by decide) mw_999 rfl rfl dX11_orders_127 ?_
    refine lv_if_le (tgt := 135) hx hb dX11_orders_130 (by decide) (fun c_30 => ?_) (fun c_30 => ?_)
    · have h := it_t c_30 h
      refine lv_aload_n hx hb dX11_orders_135 rfl (lv_at hl 0 rfl) ?_
      obtain ⟨S_32, hc_31, h⟩ := cl0_ex h
      refine g_cv (g_runV (ci := 11) (o := 200) (As := []) (rest := []) hx hb hml hown hts hK hN hT hS hW (c_X11_next hB hc_31) (hB 200 bb_200) kd_200 rfl (gw_V mw_1236 mw_1238 mw_41 mw_73 mw_1239) hv_X11_next rfl rfl rfl (rm_ok (by decide) (by decide)) hl.1 (Nat.le_of_ble_eq_true rfl) dX11_orders_136 rfl ⟨Nat.zero_le _, Nat.zero_le _⟩) hS (fun H locs hW hS => ?_)
      refine lv_aload_n hx hb dX11_orders_139 rfl (lv_at hl 0 rfl) ?_
      obtain ⟨S_34, hc_33, h⟩ := cl0_ex h
      refine g_cv (g_runV (ci := 11) (o := 200) (As := []) (rest := []) hx hb hml hown hts hK hN hT hS hW (c_X11_readAct hB hc_33) (hB 200 bb_200) kd_200 rfl (gw_V mw_1322 mw_1324 mw_56 mw_73 mw_1325) hv_X11_readAct rfl rfl rfl (rm_ok (by decide) (by decide)) hl.1 (Nat.le_of_ble_eq_true rfl) dX11_orders_140 rfl ⟨Nat.zero_le _, Nat.zero_le _⟩) hS (fun H locs hW hS => ?_)
      refine lv_aload_n hx hb dX11_orders_143 rfl (lv_at hl 0 rfl) ?_
      refine g_get (C := RX11) (T := TX11) (N := 67) (ci := 11) hx hb hts inX11 hown hK hW (hB 200 bb_200) kd_200 rfl 38 (by decide) mw_999 rfl rfl dX11_orders_144 ?_
      refine lv_if_le (tgt := 152) hx hb dX11_orders_147 (by decide) (fun c_35 => ?_) (fun c_35 => ?_)
      · have h := it_t c_35 h
        refine lv_aload_n hx hb dX11_orders_152 rfl (lv_at hl 0 rfl) ?_
        refine lv_dup hx hb dX11_orders_153 rfl ?_
        refine g_get (C := RX11) (T := TX11) (N := 67) (ci := 11) hx hb hts inX11 hown hK hW (hB 200 bb_200) kd_200 rfl 33 (by decide) mw_994 rfl rfl dX11_orders_154 ?_
        refine lv_iconst (v := 1) hx hb dX11_orders_157 (by decide) ?_
        refine lv_iadd hx hb dX11_orders_158 ?_
        refine g_put (C := RX11) (T := TX11) (N := 67) (ci := 11) hx hb hts inX11 tyX11 tyX11_ok nmX11 hown hK hW hS (hB 200 bb_200) kd_200 rfl 33 (by decide) mw_994 rfl rfl rfl rfl (Nat.le_of_ble_eq_true rfl) (sv S_34 200 33 ((gv S_34 200 33) + 1)) (ps_200_33) cellOf_sv dX11_orders_159 (fun S_36 eS_36 H locs hW hS => ?_)
        have h := bn_at eS_36 h
        refine lv_goto (tgt := 58) hx hb dX11_orders_162 (by decide) ?_
        exact hkb _ h _ _ _ hW hS (lv_sub hl [0, 1] rfl)
      · have h := it_f c_35 h
        refine lv_iconst (v := (-1)) hx hb dX11_orders_150 (by decide) ?_
        cases h
        exact g_iret hx hb hr hlocks hW hS dX11_orders_151
    · have h := it_f c_30 h
      refine lv_iconst (v := (-1)) hx hb dX11_orders_133 (by decide) ?_
      cases h
      exact g_iret hx hb hr hlocks hW hS dX11_orders_134
  · have h := it_f c_23 h
    refine lv_iconst (v := (-1)) hx hb dX11_orders_103 (by decide) ?_
    cases h
    exact g_iret hx hb hr hlocks hW hS dX11_orders_104
def f_X11_orders_j91 (N : Nat) (kb : St → Option (Int32 × St)) (k : St → Option (Int32 × St)) (S : St) (v1 : Int32) : Option (Int32 × St) := cl0 (f_X11_wrong S 2) fun S_22 => f_X11_orders_j96 N (kb) k S_22 v1
set_option maxHeartbeats 4000000 in
theorem t_X11_orders_j91 (C : MC p s m args meth c cX11_orders 3 (some .int) RX11 g A) (hB : Lk L) {S : St} {r : Int32} {S9 : St} {v1 : Int32} {kb : St → Option (Int32 × St)} {k : St → Option (Int32 × St)} (hkb : ∀ (S : St), kb S = some (r, S9) → ∀ (H : Heap) (locs : List Loc) (ls : Array Slot), GW g A ad L S H → va_S A s.heap H locs → lv_has ls 3 [(0, .ref (ad 200)), (1, .int v1)] → W p l e (rmk 6) s m args below meth c H locs 0 0 (MQ below (qi g A ad L r S9) args s 0 0 A) (F0 m 58 ls [])) (hk : ∀ (S : St), k S = some (r, S9) → ∀ (H : Heap) (locs : List Loc) (ls : Array Slot), GW g A ad L S H → va_S A s.heap H locs → lv_has ls 3 [(0, .ref (ad 200)), (1, .int v1)] → W p l e (rmk 6) s m args below meth c H locs 0 0 (MQ below (qi g A ad L r S9) args s 0 0 A) (F0 m 165 ls [])) (h : f_X11_orders_j91 N kb k S v1 = some (r, S9)) {H : Heap} {locs : List Loc} {ls : Array Slot} (hW : GW g A ad L S H) (hS : va_S A s.heap H locs) (hl : lv_has ls 3 [(0, .ref (ad 200)), (1, .int v1)]) : W p l e (rmk 6) s m args below meth c H locs 0 0 (MQ below (qi g A ad L r S9) args s 0 0 A) (F0 m 91 ls []) := by
  obtain ⟨hx, hb, hml, hown, hts, hr, hlocks, hK, hN, hT⟩ := id C
  unfold f_X11_orders_j91 at h
  refine lv_aload_n hx hb dX11_orders_91 rfl (lv_at hl 0 rfl) ?_
  refine lv_iconst (v := 2) hx hb dX11_orders_92 (by decide) ?_
  obtain ⟨S_22, hc_21, h⟩ := cl0_ex h
  refine g_cv (g_runV (ci := 11) (o := 200) (As := [.int 2]) (rest := []) hx hb hml hown hts hK hN hT hS hW (c_X11_wrong hB hc_21) (hB 200 bb_200) kd_200 rfl (gw_V mw_1258 mw_1260 mw_44 mw_73 mw_1261) hv_X11_wrong rfl rfl rfl (rm_ok (by decide) (by decide)) hl.1 (Nat.le_of_ble_eq_true rfl) dX11_orders_93 rfl ⟨Nat.zero_le _, Nat.zero_le _⟩) hS (fun H locs hW hS => ?_)
  exact t_X11_orders_j96 C hB hkb hk h hW hS (lv_sub hl [0, 1] rfl)
def f_X11_orders_l58 (N : Nat) (v1 : Int32) (k : St → Option (Int32 × St)) : Nat → St → Option (Int32 × St)
  | 0, _ => none
  | n + 1, S => if (gv S 200 38) = 0 then (if (gv S 200 42) = 0 then (k S) else (cl0 (f_X11_isWord S 2003330414) fun r_18 => if r_18 = 0 then (f_X11_orders_j91 N (f_X11_orders_l58 N v1 k n) k S v1) else (if (gv S 200 33) = 8 then (f_X11_orders_j91 N (f_X11_orders_l58 N v1 k n) k S v1) else (f_X11_orders_j96 N (f_X11_orders_l58 N v1 k n) k S v1)))) else (k S)
set_option maxHeartbeats 4000000 in
theorem t_X11_orders_l58 (C : MC p s m args meth c cX11_orders 3 (some .int) RX11 g A) (hB : Lk L) {v1 : Int32} {r : Int32} {S9 : St} {k : St → Option (Int32 × St)} (hk : ∀ (S : St), k S = some (r, S9) → ∀ (H : Heap) (locs : List Loc) (ls : Array Slot), GW g A ad L S H → va_S A s.heap H locs → lv_has ls 3 [(0, .ref (ad 200)), (1, .int v1)] → W p l e (rmk 6) s m args below meth c H locs 0 0 (MQ below (qi g A ad L r S9) args s 0 0 A) (F0 m 165 ls [])) : ∀ (n : Nat) (S : St), f_X11_orders_l58 N v1 k n S = some (r, S9) → ∀ (H : Heap) (locs : List Loc) (ls : Array Slot), GW g A ad L S H → va_S A s.heap H locs → lv_has ls 3 [(0, .ref (ad 200)), (1, .int v1)] → W p l e (rmk 6) s m args below meth c H locs 0 0 (MQ below (qi g A ad L r S9) args s 0 0 A) (F0 m 58 ls []) := by
  obtain ⟨hx, hb, hml, hown, hts, hr, hlocks, hK, hN, hT⟩ := id C
  intro n
  induction n with
  | zero =>
    intro S h
    have h : (none : Option (Int32 × St)) = some (r, S9) := h
    cases h
  | succ n ih =>
    intro S h H locs ls hW hS hl
    rw [f_X11_orders_l58] at h
    refine lv_aload_n hx hb dX11_orders_58 rfl (lv_at hl 0 rfl) ?_
    refine g_get (C := RX11) (T := TX11) (N := 67) (ci := 11) hx hb hts inX11 hown hK hW (hB 200 bb_200) kd_200 rfl 38 (by decide) mw_999 rfl rfl dX11_orders_59 ?_
    refine lv_if_ne (tgt := 165) hx hb dX11_orders_62 (by decide) (fun c_15 => ?_) (fun c_15 => ?_)
    · have h := it_f c_15 h
      exact hk _ h _ _ _ hW hS (lv_sub hl [0, 1] rfl)
    · have h := it_t c_15 h
      refine lv_aload_n hx hb dX11_orders_65 rfl (lv_at hl 0 rfl) ?_
      refine g_get (C := RX11) (T := TX11) (N := 67) (ci := 11) hx hb hts inX11 hown hK hW (hB 200 bb_200) kd_200 rfl 42 (by decide) mw_1003 rfl rfl dX11_orders_66 ?_
      refine lv_if_eq (tgt := 165) hx hb dX11_orders_69 (by decide) (fun c_16 => ?_) (fun c_16 => ?_)
      · have h := it_t c_16 h
        exact hk _ h _ _ _ hW hS (lv_sub hl [0, 1] rfl)
      · have h := it_f c_16 h
        refine lv_aload_n hx hb dX11_orders_72 rfl (lv_at hl 0 rfl) ?_
        refine lv_ldc2 (v := 2003330414) hx hb hown (hts _ mw_1253) dX11_orders_73 ?_
        obtain ⟨r_18, hc_17, h⟩ := cl0_ex h
        refine g_cz (g_runV (ci := 11) (o := 200) (As := [.long 2003330414]) (rest := []) hx hb hml hown hts hK hN hT hS hW (c_X11_isWord hB hc_17) (hB 200 bb_200) kd_200 rfl (gw_V mw_1254 mw_1256 mw_43 mw_73 mw_1257) hv_X11_isWord rfl rfl rfl (rm_ok (by decide) (by decide)) hl.1 (Nat.le_of_ble_eq_true rfl) dX11_orders_76 rfl ⟨Nat.zero_le _, Nat.zero_le _⟩) hS (fun hz_19 H locs hW hS => ?_)
        refine lv_if_eq (tgt := 91) hx hb dX11_orders_79 (by decide) (fun c_20 => ?_) (fun c_20 => ?_)
        · have h := it_t c_20 h
          exact t_X11_orders_j91 C hB ih hk h hW hS (lv_sub hl [0, 1] rfl)
        · have h := it_f c_20 h
          refine lv_aload_n hx hb dX11_orders_82 rfl (lv_at hl 0 rfl) ?_
          refine g_get (C := RX11) (T := TX11) (N := 67) (ci := 11) hx hb hts inX11 hown hK hW (hB 200 bb_200) kd_200 rfl 33 (by decide) mw_994 rfl rfl dX11_orders_83 ?_
          refine lv_bipush (v := 8) hx hb dX11_orders_86 (by decide) ?_
          refine lv_icmp_ne (tgt := 96) hx hb dX11_orders_88 (by decide) (fun c_37 => ?_) (fun c_37 => ?_)
          · have h := it_f c_37 h
            exact t_X11_orders_j96 C hB ih hk h hW hS (lv_sub hl [0, 1] rfl)
          · have h := it_t c_37 h
            exact t_X11_orders_j91 C hB ih hk h hW hS (lv_sub hl [0, 1] rfl)
def f_X11_orders_l189 (N : Nat) (v1 : Int32) (k : St → Option (Int32 × St)) : Nat → St → Int32 → Option (Int32 × St)
  | 0, _, _ => none
  | n + 1, S, v2 => if (gv S 200 34) ≤ v2 then (k S) else (if v2 < 0 ∨ 500 ≤ ix v2 then none else if ((500 * v1) + v2) < 0 ∨ 3000 ≤ ix ((500 * v1) + v2) then none else bn (sv S 223 (ix ((500 * v1) + v2)) (gv S 229 (ix v2))) fun S_45 => if v2 < 0 ∨ 500 ≤ ix v2 then none else if ((500 * v1) + v2) < 0 ∨ 3000 ≤ ix ((500 * v1) + v2) then none else bn (sv S_45 224 (ix ((500 * v1) + v2)) (gv S_45 230 (ix v2))) fun S_48 => bn (v2 + 1) fun x_49 => f_X11_orders_l189 N v1 k n S_48 x_49)
set_option maxHeartbeats 4000000 in
theorem t_X11_orders_l189 (C : MC p s m args meth c cX11_orders 3 (some .int) RX11 g A) (hB : Lk L) {v1 : Int32} {r : Int32} {S9 : St} {k : St → Option (Int32 × St)} (hk : ∀ (S : St), k S = some (r, S9) → ∀ (H : Heap) (locs : List Loc) (ls : Array Slot), GW g A ad L S H → va_S A s.heap H locs → lv_has ls 3 [(0, .ref (ad 200)), (1, .int v1)] → W p l e (rmk 6) s m args below meth c H locs 0 0 (MQ below (qi g A ad L r S9) args s 0 0 A) (F0 m 239 ls [])) : ∀ (n : Nat) (S : St) (v2 : Int32), f_X11_orders_l189 N v1 k n S v2 = some (r, S9) → ∀ (H : Heap) (locs : List Loc) (ls : Array Slot), GW g A ad L S H → va_S A s.heap H locs → lv_has ls 3 [(0, .ref (ad 200)), (1, .int v1), (2, .int v2)] → W p l e (rmk 6) s m args below meth c H locs 0 0 (MQ below (qi g A ad L r S9) args s 0 0 A) (F0 m 189 ls []) := by
  obtain ⟨hx, hb, hml, hown, hts, hr, hlocks, hK, hN, hT⟩ := id C
  intro n
  induction n with
  | zero =>
    intro S v2 h
    have h : (none : Option (Int32 × St)) = some (r, S9) := h
    cases h
  | succ n ih =>
    intro S v2 h H locs ls hW hS hl
    rw [f_X11_orders_l189] at h
    refine lv_iload_n hx hb dX11_orders_189 rfl (lv_at hl 2 rfl) ?_
    refine lv_aload_n hx hb dX11_orders_190 rfl (lv_at hl 0 rfl) ?_
    refine g_get (C := RX11) (T := TX11) (N := 67) (ci := 11) hx hb hts inX11 hown hK hW (hB 200 bb_200) kd_200 rfl 34 (by decide) mw_995 rfl rfl dX11_orders_191 ?_
    refine lv_icmp_ge (tgt := 239) hx hb dX11_orders_194 (by decide) (fun c_42 => ?_) (fun c_42 => ?_)
    · have h := it_t c_42 h
      exact hk _ h _ _ _ hW hS (lv_sub hl [0, 1] rfl)
    · have h := it_f c_42 h
      refine lv_aload_n hx hb dX11_orders_197 rfl (lv_at hl 0 rfl) ?_
      refine g_get (C := RX11) (T := TX11) (N := 67) (ci := 11) hx hb hts inX11 hown hK hW (hB 200 bb_200) kd_200 rfl 22 (by decide) mw_983 rfl rfl dX11_orders_198 ?_
      refine lv_sipush (v := 500) hx hb dX11_orders_201 (by decide) ?_
      refine lv_iload_n hx hb dX11_orders_204 rfl (lv_at hl 1 rfl) ?_
      refine lv_imul hx hb dX11_orders_205 ?_
      refine lv_iload_n hx hb dX11_orders_206 rfl (lv_at hl 2 rfl) ?_
      refine lv_iadd hx hb dX11_orders_207 ?_
      refine lv_aload_n hx hb dX11_orders_208 rfl (lv_at hl 0 rfl) ?_
      refine g_get (C := RX11) (T := TX11) (N := 67) (ci := 11) hx hb hts inX11 hown hK hW (hB 200 bb_200) kd_200 rfl 28 (by decide) mw_989 rfl rfl dX11_orders_209 ?_
      refine lv_iload_n hx hb dX11_orders_212 rfl (lv_at hl 2 rfl) ?_
      obtain ⟨hi_43, h⟩ := ck_n h
      refine g_iald hx hb hK hW (hB 229 bb_229) kd_229 hi_43 dX11_orders_213 ?_
      obtain ⟨hi_44, h⟩ := ck_n h
      refine g_iast hx hb hK hW hS (hB 223 bb_223) (fun _ => kd_223) hi_44 dX11_orders_214 (fun S_45 eS_45 H locs hW hS => ?_)
      have h := bn_at eS_45 h
      refine lv_aload_n hx hb dX11_orders_215 rfl (lv_at hl 0 rfl) ?_
      refine g_get (C := RX11) (T := TX11) (N := 67) (ci := 11) hx hb hts inX11 hown hK hW (hB 200 bb_200) kd_200 rfl 23 (by decide) mw_984 rfl rfl dX11_orders_216 ?_
      refine lv_sipush (v := 500) hx hb dX11_orders_219 (by decide) ?_
      refine lv_iload_n hx hb dX11_orders_222 rfl (lv_at hl 1 rfl) ?_
      refine lv_imul hx hb dX11_orders_223 ?_
      refine lv_iload_n hx hb dX11_orders_224 rfl (lv_at hl 2 rfl) ?_
      refine lv_iadd hx hb dX11_orders_225 ?_
      refine lv_aload_n hx hb dX11_orders_226 rfl (lv_at hl 0 rfl) ?_
      refine g_get (C := RX11) (T := TX11) (N := 67) (ci := 11) hx hb hts inX11 hown hK hW (hB 200 bb_200) kd_200 rfl 29 (by decide) mw_990 rfl rfl dX11_orders_227 ?_
      refine lv_iload_n hx hb dX11_orders_230 rfl (lv_at hl 2 rfl) ?_
      obtain ⟨hi_46, h⟩ := ck_n h
      refine g_iald hx hb hK hW (hB 230 bb_230) kd_230 hi_46 dX11_orders_231 ?_
      obtain ⟨hi_47, h⟩ := ck_n h
      refine g_iast hx hb hK hW hS (hB 224 bb_224) (fun _ => kd_224) hi_47 dX11_orders_232 (fun S_48 eS_48 H locs hW hS => ?_)
      have h := bn_at eS_48 h
      obtain ⟨x_49, ex_49⟩ : ∃ z : Int32, z = v2 + 1 := ⟨_, rfl⟩
      have h := bn_at ex_49 h
      refine lv_iinc (v := x_49) (lv' := [(2, .int x_49), (0, .ref (ad 200)), (1, .int v1)]) hx hb dX11_orders_233 hl (k := 2) rfl (by rw [ex_49]; rfl) (by decide) rfl (fun ls hl => ?_)
      refine lv_goto (tgt := 189) hx hb dX11_orders_236 (by decide) ?_
      exact ih _ _ h _ _ _ hW hS (lv_sub hl [1, 2, 0] rfl)
def f_X11_orders_l241 (N : Nat) (v1 : Int32) (k : St → Option (Int32 × St)) : Nat → St → Int32 → Option (Int32 × St)
  | 0, _, _ => none
  | n + 1, S, v2 => if (gv S 200 33) ≤ v2 then (k S) else (if v2 < 0 ∨ 8 ≤ ix v2 then none else if ((8 * v1) + v2) < 0 ∨ 48 ≤ ix ((8 * v1) + v2) then none else bn (sv S 226 (ix ((8 * v1) + v2)) (gv S 232 (ix v2))) fun S_54 => if v2 < 0 ∨ 8 ≤ ix v2 then none else if ((8 * v1) + v2) < 0 ∨ 48 ≤ ix ((8 * v1) + v2) then none else bn (sv S_54 227 (ix ((8 * v1) + v2)) (gv S_54 233 (ix v2))) fun S_57 => bn (v2 + 1) fun x_58 => f_X11_orders_l241 N v1 k n S_57 x_58)
set_option maxHeartbeats 4000000 in
theorem t_X11_orders_l241 (C : MC p s m args meth c cX11_orders 3 (some .int) RX11 g A) (hB : Lk L) {v1 : Int32} {r : Int32} {S9 : St} {k : St → Option (Int32 × St)} (hk : ∀ (S : St), k S = some (r, S9) → ∀ (H : Heap) (locs : List Loc) (ls : Array Slot), GW g A ad L S H → va_S A s.heap H locs → lv_has ls 3 [(0, .ref (ad 200)), (1, .int v1)] → W p l e (rmk 6) s m args below meth c H locs 0 0 (MQ below (qi g A ad L r S9) args s 0 0 A) (F0 m 289 ls [])) : ∀ (n : Nat) (S : St) (v2 : Int32), f_X11_orders_l241 N v1 k n S v2 = some (r, S9) → ∀ (H : Heap) (locs : List Loc) (ls : Array Slot), GW g A ad L S H → va_S A s.heap H locs → lv_has ls 3 [(0, .ref (ad 200)), (1, .int v1), (2, .int v2)] → W p l e (rmk 6) s m args below meth c H locs 0 0 (MQ below (qi g A ad L r S9) args s 0 0 A) (F0 m 241 ls []) := by
  obtain ⟨hx, hb, hml, hown, hts, hr, hlocks, hK, hN, hT⟩ := id C
  intro n
  induction n with
  | zero =>
    intro S v2 h
    have h : (none : Option (Int32 × St)) = some (r, S9) := h
    cases h
  | succ n ih =>
    intro S v2 h H locs ls hW hS hl
    rw [f_X11_orders_l241] at h
    refine lv_iload_n hx hb dX11_orders_241 rfl (lv_at hl 2 rfl) ?_
    refine lv_aload_n hx hb dX11_orders_242 rfl (lv_at hl 0 rfl) ?_
    refine g_get (C := RX11) (T := TX11) (N := 67) (ci := 11) hx hb hts inX11 hown hK hW (hB 200 bb_200) kd_200 rfl 33 (by decide) mw_994 rfl rfl dX11_orders_243 ?_
    refine lv_icmp_ge (tgt := 289) hx hb dX11_orders_246 (by decide) (fun c_51 => ?_) (fun c_51 => ?_)
    · have h := it_t c_51 h
      exact hk _ h _ _ _ hW hS (lv_sub hl [0, 1] rfl)
    · have h := it_f c_51 h
      refine lv_aload_n hx hb dX11_orders_249 rfl (lv_at hl 0 rfl) ?_
      refine g_get (C := RX11) (T := TX11) (N := 67) (ci := 11) hx hb hts inX11 hown hK hW (hB 200 bb_200) kd_200 rfl 25 (by decide) mw_986 rfl rfl dX11_orders_250 ?_
      refine lv_bipush (v := 8) hx hb dX11_orders_253 (by decide) ?_
      refine lv_iload_n hx hb dX11_orders_255 rfl (lv_at hl 1 rfl) ?_
      refine lv_imul hx hb dX11_orders_256 ?_
      refine lv_iload_n hx hb dX11_orders_257 rfl (lv_at hl 2 rfl) ?_
      refine lv_iadd hx hb dX11_orders_258 ?_
      refine lv_aload_n hx hb dX11_orders_259 rfl (lv_at hl 0 rfl) ?_
      refine g_get (C := RX11) (T := TX11) (N := 67) (ci := 11) hx hb hts inX11 hown hK hW (hB 200 bb_200) kd_200 rfl 31 (by decide) mw_992 rfl rfl dX11_orders_260 ?_
      refine lv_iload_n hx hb dX11_orders_263 rfl (lv_at hl 2 rfl) ?_
      obtain ⟨hi_52, h⟩ := ck_n h
      refine g_iald hx hb hK hW (hB 232 bb_232) kd_232 hi_52 dX11_orders_264 ?_
      obtain ⟨hi_53, h⟩ := ck_n h
      refine g_iast hx hb hK hW hS (hB 226 bb_226) (fun _ => kd_226) hi_53 dX11_orders_265 (fun S_54 eS_54 H locs hW hS => ?_)
      have h := bn_at eS_54 h
      refine lv_aload_n hx hb dX11_orders_266 rfl (lv_at hl 0 rfl) ?_
      refine g_get (C := RX11) (T := TX11) (N := 67) (ci := 11) hx hb hts inX11 hown hK hW (hB 200 bb_200) kd_200 rfl 26 (by decide) mw_987 rfl rfl dX11_orders_267 ?_
      refine lv_bipush (v := 8) hx hb dX11_orders_270 (by decide) ?_
      refine lv_iload_n hx hb dX11_orders_272 rfl (lv_at hl 1 rfl) ?_
      refine lv_imul hx hb dX11_orders_273 ?_
      refine lv_iload_n hx hb dX11_orders_274 rfl (lv_at hl 2 rfl) ?_
      refine lv_iadd hx hb dX11_orders_275 ?_
      refine lv_aload_n hx hb dX11_orders_276 rfl (lv_at hl 0 rfl) ?_
      refine g_get (C := RX11) (T := TX11) (N := 67) (ci := 11) hx hb hts inX11 hown hK hW (hB 200 bb_200) kd_200 rfl 32 (by decide) mw_993 rfl rfl dX11_orders_277 ?_
      refine lv_iload_n hx hb dX11_orders_280 rfl (lv_at hl 2 rfl) ?_
      obtain ⟨hi_55, h⟩ := ck_n h
      refine g_iald hx hb hK hW (hB 233 bb_233) kd_233 hi_55 dX11_orders_281 ?_
      obtain ⟨hi_56, h⟩ := ck_n h
      refine g_iast hx hb hK hW hS (hB 227 bb_227) (fun _ => kd_227) hi_56 dX11_orders_282 (fun S_57 eS_57 H locs hW hS => ?_)
      have h := bn_at eS_57 h
      obtain ⟨x_58, ex_58⟩ : ∃ z : Int32, z = v2 + 1 := ⟨_, rfl⟩
      have h := bn_at ex_58 h
      refine lv_iinc (v := x_58) (lv' := [(2, .int x_58), (0, .ref (ad 200)), (1, .int v1)]) hx hb dX11_orders_283 hl (k := 2) rfl (by rw [ex_58]; rfl) (by decide) rfl (fun ls hl => ?_)
      refine lv_goto (tgt := 241) hx hb dX11_orders_286 (by decide) ?_
      exact ih _ _ h _ _ _ hW hS (lv_sub hl [1, 2, 0] rfl)
def f_X11_orders_l291 (N : Nat) (v1 : Int32) (k : St → Option (Int32 × St)) : Nat → St → Int32 → Option (Int32 × St)
  | 0, _, _ => none
  | n + 1, S, v2 => if (gv S 200 33) < v2 then (k S) else (if v2 < 0 ∨ 10 ≤ ix v2 then none else if ((10 * v1) + v2) < 0 ∨ 60 ≤ ix ((10 * v1) + v2) then none else bn (sv S 225 (ix ((10 * v1) + v2)) (gv S 231 (ix v2))) fun S_63 => bn (v2 + 1) fun x_64 => f_X11_orders_l291 N v1 k n S_63 x_64)
set_option maxHeartbeats 4000000 in
theorem t_X11_orders_l291 (C : MC p s m args meth c cX11_orders 3 (some .int) RX11 g A) (hB : Lk L) {v1 : Int32} {r : Int32} {S9 : St} {k : St → Option (Int32 × St)} (hk : ∀ (S : St), k S = some (r, S9) → ∀ (H : Heap) (locs : List Loc) (ls : Array Slot), GW g A ad L S H → va_S A s.heap H locs → lv_has ls 3 [(0, .ref (ad 200)), (1, .int v1)] → W p l e (rmk 6) s m args below meth c H locs 0 0 (MQ below (qi g A ad L r S9) args s 0 0 A) (F0 m 322 ls [])) : ∀ (n : Nat) (S : St) (v2 : Int32), f_X11_orders_l291 N v1 k n S v2 = some (r, S9) → ∀ (H : Heap) (locs : List Loc) (ls : Array Slot), GW g A ad L S H → va_S A s.heap H locs → lv_has ls 3 [(0, .ref (ad 200)), (1, .int v1), (2, .int v2)] → W p l e (rmk 6) s m args below meth c H locs 0 0 (MQ below (qi g A ad L r S9) args s 0 0 A) (F0 m 291 ls []) := by
  obtain ⟨hx, hb, hml, hown, hts, hr, hlocks, hK, hN, hT⟩ := id C
  intro n
  induction n with
  | zero =>
    intro S v2 h
    have h : (none : Option (Int32 × St)) = some (r, S9) := h
    cases h
  | succ n ih =>
    intro S v2 h H locs ls hW hS hl
    rw [f_X11_orders_l291] at h
    refine lv_iload_n hx hb dX11_orders_291 rfl (lv_at hl 2 rfl) ?_
    refine lv_aload_n hx hb dX11_orders_292 rfl (lv_at hl 0 rfl) ?_
    refine g_get (C := RX11) (T := TX11) (N := 67) (ci := 11) hx hb hts inX11 hown hK hW (hB 200 bb_200) kd_200 rfl 33 (by decide) mw_994 rfl rfl dX11_orders_293 ?_
    refine lv_icmp_gt (tgt := 322) hx hb dX11_orders_296 (by decide) (fun c_60 => ?_) (fun c_60 => ?_)
    · have h := it_t c_60 h
      exact hk _ h _ _ _ hW hS (lv_sub hl [0, 1] rfl)
    · have h := it_f c_60 h
      refine lv_aload_n hx hb dX11_orders_299 rfl (lv_at hl 0 rfl) ?_
      refine g_get (C := RX11) (T := TX11) (N := 67) (ci := 11) hx hb hts inX11 hown hK hW (hB 200 bb_200) kd_200 rfl 24 (by decide) mw_985 rfl rfl dX11_orders_300 ?_
      refine lv_bipush (v := 10) hx hb dX11_orders_303 (by decide) ?_
      refine lv_iload_n hx hb dX11_orders_305 rfl (lv_at hl 1 rfl) ?_
      refine lv_imul hx hb dX11_orders_306 ?_
      refine lv_iload_n hx hb dX11_orders_307 rfl (lv_at hl 2 rfl) ?_
      refine lv_iadd hx hb dX11_orders_308 ?_
      refine lv_aload_n hx hb dX11_orders_309 rfl (lv_at hl 0 rfl) ?_
      refine g_get (C := RX11) (T := TX11) (N := 67) (ci := 11) hx hb hts inX11 hown hK hW (hB 200 bb_200) kd_200 rfl 30 (by decide) mw_991 rfl rfl dX11_orders_310 ?_
      refine lv_iload_n hx hb dX11_orders_313 rfl (lv_at hl 2 rfl) ?_
      obtain ⟨hi_61, h⟩ := ck_n h
      refine g_iald hx hb hK hW (hB 231 bb_231) kd_231 hi_61 dX11_orders_314 ?_
      obtain ⟨hi_62, h⟩ := ck_n h
      refine g_iast hx hb hK hW hS (hB 225 bb_225) (fun _ => kd_225) hi_62 dX11_orders_315 (fun S_63 eS_63 H locs hW hS => ?_)
      have h := bn_at eS_63 h
      obtain ⟨x_64, ex_64⟩ : ∃ z : Int32, z = v2 + 1 := ⟨_, rfl⟩
      have h := bn_at ex_64 h
      refine lv_iinc (v := x_64) (lv' := [(2, .int x_64), (0, .ref (ad 200)), (1, .int v1)]) hx hb dX11_orders_316 hl (k := 2) rfl (by rw [ex_64]; rfl) (by decide) rfl (fun ls hl => ?_)
      refine lv_goto (tgt := 291) hx hb dX11_orders_319 (by decide) ?_
      exact ih _ _ h _ _ _ hW hS (lv_sub hl [1, 2, 0] rfl)
def f_X11_orders_j165 (N : Nat) (S : St) (v1 : Int32) : Option (Int32 × St) := if (gv S 200 38) ≤ 0 then (if (gv S 200 33) < 0 ∨ 10 ≤ ix (gv S 200 33) then none else bn (sv S 231 (ix (gv S 200 33)) (gv S 200 34)) fun S_41 => f_X11_orders_l189 N v1 (fun S_50 => f_X11_orders_l241 N v1 (fun S_59 => f_X11_orders_l291 N v1 (fun S_65 => if v1 < 0 ∨ 6 ≤ ix v1 then none else bn (sv S_65 228 (ix v1) (gv S_65 200 33)) fun S_67 => some ((gv S_67 200 33), S_67)) N S_59 0) N S_50 0) N S_41 0) else (some ((-1), S))
set_option maxHeartbeats 4000000 in
theorem t_X11_orders_j165 (C : MC p s m args meth c cX11_orders 3 (some .int) RX11 g A) (hB : Lk L) {S : St} {r : Int32} {S9 : St} {v1 : Int32} (h : f_X11_orders_j165 N S v1 = some (r, S9)) {H : Heap} {locs : List Loc} {ls : Array Slot} (hW : GW g A ad L S H) (hS : va_S A s.heap H locs) (hl : lv_has ls 3 [(0, .ref (ad 200)), (1, .int v1)]) : W p l e (rmk 6) s m args below meth c H locs 0 0 (MQ below (qi g A ad L r S9) args s 0 0 A) (F0 m 165 ls []) := by
  obtain ⟨hx, hb, hml, hown, hts, hr, hlocks, hK, hN, hT⟩ := id C
  unfold f_X11_orders_j165 at h
  refine lv_aload_n hx hb dX11_orders_165 rfl (lv_at hl 0 rfl) ?_
  refine g_get (C := RX11) (T := TX11) (N := 67) (ci := 11) hx hb hts inX11 hown hK hW (hB 200 bb_200) kd_200 rfl 38 (by decide) mw_999 rfl rfl dX11_orders_166 ?_
  refine lv_if_le (tgt := 174) hx hb dX11_orders_169 (by decide) (fun c_39 => ?_) (fun c_39 => ?_)
  · have h := it_t c_39 h
    refine lv_aload_n hx hb dX11_orders_174 rfl (lv_at hl 0 rfl) ?_
    refine g_get (C := RX11) (T := TX11) (N := 67) (ci := 11) hx hb hts inX11 hown hK hW (hB 200 bb_200) kd_200 rfl 30 (by decide) mw_991 rfl rfl dX11_orders_175 ?_
    refine lv_aload_n hx hb dX11_orders_178 rfl (lv_at hl 0 rfl) ?_
    refine g_get (C := RX11) (T := TX11) (N := 67) (ci := 11) hx hb hts inX11 hown hK hW (hB 200 bb_200) kd_200 rfl 33 (by decide) mw_994 rfl rfl dX11_orders_179 ?_
    refine lv_aload_n hx hb dX11_orders_182 rfl (lv_at hl 0 rfl) ?_
    refine g_get (C := RX11) (T := TX11) (N := 67) (ci := 11) hx hb hts inX11 hown hK hW (hB 200 bb_200) kd_200 rfl 34 (by decide) mw_995 rfl rfl dX11_orders_183 ?_
    obtain ⟨hi_40, h⟩ := ck_n h
    refine g_iast hx hb hK hW hS (hB 231 bb_231) (fun _ => kd_231) hi_40 dX11_orders_186 (fun S_41 eS_41 H locs hW hS => ?_)
    have h := bn_at eS_41 h
    refine lv_iconst (v := 0) hx hb dX11_orders_187 (by decide) ?_
    refine lv_istore_n (lv' := [(2, .int 0), (0, .ref (ad 200)), (1, .int v1)]) hx hb dX11_orders_188 rfl hl (by decide) rfl (fun ls hl => ?_)
    refine t_X11_orders_l189 C hB ?_ _ _ _ h _ _ _ hW hS (lv_sub hl [1, 2, 0] rfl)
    intro S_50 h H locs ls hW hS hl
    refine lv_iconst (v := 0) hx hb dX11_orders_239 (by decide) ?_
    refine lv_istore_n (lv' := [(2, .int 0), (0, .ref (ad 200)), (1, .int v1)]) hx hb dX11_orders_240 rfl hl (by decide) rfl (fun ls hl => ?_)
    refine t_X11_orders_l241 C hB ?_ _ _ _ h _ _ _ hW hS (lv_sub hl [1, 2, 0] rfl)
    intro S_59 h H locs ls hW hS hl
    refine lv_iconst (v := 0) hx hb dX11_orders_289 (by decide) ?_
    refine lv_istore_n (lv' := [(2, .int 0), (0, .ref (ad 200)), (1, .int v1)]) hx hb dX11_orders_290 rfl hl (by decide) rfl (fun ls hl => ?_)
    refine t_X11_orders_l291 C hB ?_ _ _ _ h _ _ _ hW hS (lv_sub hl [1, 2, 0] rfl)
    intro S_65 h H locs ls hW hS hl
    refine lv_aload_n hx hb dX11_orders_322 rfl (lv_at hl 0 rfl) ?_
    refine g_get (C := RX11) (T := TX11) (N := 67) (ci := 11) hx hb hts inX11 hown hK hW (hB 200 bb_200) kd_200 rfl 27 (by decide) mw_988 rfl rfl dX11_orders_323 ?_
    refine lv_iload_n hx hb dX11_orders_326 rfl (lv_at hl 1 rfl) ?_
    refine lv_aload_n hx hb dX11_orders_327 rfl (lv_at hl 0 rfl) ?_
    refine g_get (C := RX11) (T := TX11) (N := 67) (ci := 11) hx hb hts inX11 hown hK hW (hB 200 bb_200) kd_200 rfl 33 (by decide) mw_994 rfl rfl dX11_orders_328 ?_
    obtain ⟨hi_66, h⟩ := ck_n h
    refine g_iast hx hb hK hW hS (hB 228 bb_228) (fun _ => kd_228) hi_66 dX11_orders_331 (fun S_67 eS_67 H locs hW hS => ?_)
    have h := bn_at eS_67 h
    refine lv_aload_n hx hb dX11_orders_332 rfl (lv_at hl 0 rfl) ?_
    refine g_get (C := RX11) (T := TX11) (N := 67) (ci := 11) hx hb hts inX11 hown hK hW (hB 200 bb_200) kd_200 rfl 33 (by decide) mw_994 rfl rfl dX11_orders_333 ?_
    cases h
    exact g_iret hx hb hr hlocks hW hS dX11_orders_336
  · have h := it_f c_39 h
    refine lv_iconst (v := (-1)) hx hb dX11_orders_172 (by decide) ?_
    cases h
    exact g_iret hx hb hr hlocks hW hS dX11_orders_173
def f_X11_orders (N : Nat) (S : St) (p1 : Int32) : Option (Int32 × St) := cl0 (f_X11_isHerd S p1) fun r_2 => if r_2 = 0 then (some ((-2), S)) else (bn (sv S 200 41 (gv S 200 37)) fun S_5 => bn (sv S_5 200 37 0) fun S_6 => bn (sv S_6 200 40 0) fun S_7 => bn (sv S_7 200 38 0) fun S_8 => bn (sv S_8 200 39 (-1)) fun S_9 => bn (sv S_9 200 33 0) fun S_10 => bn (sv S_10 200 34 0) fun S_11 => bn (sv S_11 200 35 0) fun S_12 => cl0 (f_X11_next N S_12) fun S_14 => f_X11_orders_l58 N p1 (fun S_38 => f_X11_orders_j165 N S_38 p1) N S_14)
set_option maxHeartbeats 4000000 in
theorem t_X11_orders (C : MC p s m args meth c cX11_orders 3 (some .int) RX11 g A) (hB : Lk L) {S : St} {r : Int32} {S9 : St} {p1 : Int32} (h : f_X11_orders N S p1 = some (r, S9)) {H : Heap} {locs : List Loc} {ls : Array Slot} (hW : GW g A ad L S H) (hS : va_S A s.heap H locs) (hl : lv_has ls 3 [(0, .ref (ad 200)), (1, .int p1)]) : W p l e (rmk 6) s m args below meth c H locs 0 0 (MQ below (qi g A ad L r S9) args s 0 0 A) (F0 m 0 ls []) := by
  obtain ⟨hx, hb, hml, hown, hts, hr, hlocks, hK, hN, hT⟩ := id C
  unfold f_X11_orders at h
  refine lv_aload_n hx hb dX11_orders_0 rfl (lv_at hl 0 rfl) ?_
  refine lv_iload_n hx hb dX11_orders_1 rfl (lv_at hl 1 rfl) ?_
  obtain ⟨r_2, hc_1, h⟩ := cl0_ex h
  refine g_cz (g_runV (ci := 11) (o := 200) (As := [.int p1]) (rest := []) hx hb hml hown hts hK hN hT hS hW (c_X11_isHerd hB hc_1) (hB 200 bb_200) kd_200 rfl (gw_V mw_1212 mw_1214 mw_39 mw_73 mw_1215) hv_X11_isHerd rfl rfl rfl (rm_ok (by decide) (by decide)) hl.1 (Nat.le_of_ble_eq_true rfl) dX11_orders_2 rfl ⟨Nat.zero_le _, Nat.zero_le _⟩) hS (fun hz_3 H locs hW hS => ?_)
  refine lv_if_ne (tgt := 11) hx hb dX11_orders_5 (by decide) (fun c_4 => ?_) (fun c_4 => ?_)
  · have h := it_f c_4 h
    refine lv_aload_n hx hb dX11_orders_11 rfl (lv_at hl 0 rfl) ?_
    refine lv_aload_n hx hb dX11_orders_12 rfl (lv_at hl 0 rfl) ?_
    refine g_get (C := RX11) (T := TX11) (N := 67) (ci := 11) hx hb hts inX11 hown hK hW (hB 200 bb_200) kd_200 rfl 37 (by decide) mw_998 rfl rfl dX11_orders_13 ?_
    refine g_put (C := RX11) (T := TX11) (N := 67) (ci := 11) hx hb hts inX11 tyX11 tyX11_ok nmX11 hown hK hW hS (hB 200 bb_200) kd_200 rfl 41 (by decide) mw_1002 rfl rfl rfl rfl (Nat.le_of_ble_eq_true rfl) (sv S 200 41 (gv S 200 37)) (ps_200_41) cellOf_sv dX11_orders_16 (fun S_5 eS_5 H locs hW hS => ?_)
    have h := bn_at eS_5 h
    refine lv_aload_n hx hb dX11_orders_19 rfl (lv_at hl 0 rfl) ?_
    refine lv_iconst (v := 0) hx hb dX11_orders_20 (by decide) ?_
    refine g_put (C := RX11) (T := TX11) (N := 67) (ci := 11) hx hb hts inX11 tyX11 tyX11_ok nmX11 hown hK hW hS (hB 200 bb_200) kd_200 rfl 37 (by decide) mw_998 rfl rfl rfl rfl (Nat.le_of_ble_eq_true rfl) (sv S_5 200 37 0) (ps_200_37) cellOf_sv dX11_orders_21 (fun S_6 eS_6 H locs hW hS => ?_)
    have h := bn_at eS_6 h
    refine lv_aload_n hx hb dX11_orders_24 rfl (lv_at hl 0 rfl) ?_
    refine lv_iconst (v := 0) hx hb dX11_orders_25 (by decide) ?_
    refine g_put (C := RX11) (T := TX11) (N := 67) (ci := 11) hx hb hts inX11 tyX11 tyX11_ok nmX11 hown hK hW hS (hB 200 bb_200) kd_200 rfl 40 (by decide) mw_1001 rfl rfl rfl rfl (Nat.le_of_ble_eq_true rfl) (sv S_6 200 40 0) (ps_200_40) cellOf_sv dX11_orders_26 (fun S_7 eS_7 H locs hW hS => ?_)
    have h := bn_at eS_7 h
    refine lv_aload_n hx hb dX11_orders_29 rfl (lv_at hl 0 rfl) ?_
    refine lv_iconst (v := 0) hx hb dX11_orders_30 (by decide) ?_
    refine g_put (C := RX11) (T := TX11) (N := 67) (ci := 11) hx hb hts inX11 tyX11 tyX11_ok nmX11 hown hK hW hS (hB 200 bb_200) kd_200 rfl 38 (by decide) mw_999 rfl rfl rfl rfl (Nat.le_of_ble_eq_true rfl) (sv S_7 200 38 0) (ps_200_38) cellOf_sv dX11_orders_31 (fun S_8 eS_8 H locs hW hS => ?_)
    have h := bn_at eS_8 h
    refine lv_aload_n hx hb dX11_orders_34 rfl (lv_at hl 0 rfl) ?_
    refine lv_iconst (v := (-1)) hx hb dX11_orders_35 (by decide) ?_
    refine g_put (C := RX11) (T := TX11) (N := 67) (ci := 11) hx hb hts inX11 tyX11 tyX11_ok nmX11 hown hK hW hS (hB 200 bb_200) kd_200 rfl 39 (by decide) mw_1000 rfl rfl rfl rfl (Nat.le_of_ble_eq_true rfl) (sv S_8 200 39 (-1)) (ps_200_39) cellOf_sv dX11_orders_36 (fun S_9 eS_9 H locs hW hS => ?_)
    have h := bn_at eS_9 h
    refine lv_aload_n hx hb dX11_orders_39 rfl (lv_at hl 0 rfl) ?_
    refine lv_iconst (v := 0) hx hb dX11_orders_40 (by decide) ?_
    refine g_put (C := RX11) (T := TX11) (N := 67) (ci := 11) hx hb hts inX11 tyX11 tyX11_ok nmX11 hown hK hW hS (hB 200 bb_200) kd_200 rfl 33 (by decide) mw_994 rfl rfl rfl rfl (Nat.le_of_ble_eq_true rfl) (sv S_9 200 33 0) (ps_200_33) cellOf_sv dX11_orders_41 (fun S_10 eS_10 H locs hW hS => ?_)
    have h := bn_at eS_10 h
    refine lv_aload_n hx hb dX11_orders_44 rfl (lv_at hl 0 rfl) ?_
    refine lv_iconst (v := 0) hx hb dX11_orders_45 (by decide) ?_
    refine g_put (C := RX11) (T := TX11) (N := 67) (ci := 11) hx hb hts inX11 tyX11 tyX11_ok nmX11 hown hK hW hS (hB 200 bb_200) kd_200 rfl 34 (by decide) mw_995 rfl rfl rfl rfl (Nat.le_of_ble_eq_true rfl) (sv S_10 200 34 0) (ps_200_34) cellOf_sv dX11_orders_46 (fun S_11 eS_11 H locs hW hS => ?_)
    have h := bn_at eS_11 h
    refine lv_aload_n hx hb dX11_orders_49 rfl (lv_at hl 0 rfl) ?_
    refine lv_iconst (v := 0) hx hb dX11_orders_50 (by decide) ?_
    refine g_put (C := RX11) (T := TX11) (N := 67) (ci := 11) hx hb hts inX11 tyX11 tyX11_ok nmX11 hown hK hW hS (hB 200 bb_200) kd_200 rfl 35 (by decide) mw_996 rfl rfl rfl rfl (Nat.le_of_ble_eq_true rfl) (sv S_11 200 35 0) (ps_200_35) cellOf_sv dX11_orders_51 (fun S_12 eS_12 H locs hW hS => ?_)
    have h := bn_at eS_12 h
    refine lv_aload_n hx hb dX11_orders_54 rfl (lv_at hl 0 rfl) ?_
    obtain ⟨S_14, hc_13, h⟩ := cl0_ex h
    refine g_cv (g_runV (ci := 11) (o := 200) (As := []) (rest := []) hx hb hml hown hts hK hN hT hS hW (c_X11_next hB hc_13) (hB 200 bb_200) kd_200 rfl (gw_V mw_1236 mw_1238 mw_41 mw_73 mw_1239) hv_X11_next rfl rfl rfl (rm_ok (by decide) (by decide)) hl.1 (Nat.le_of_ble_eq_true rfl) dX11_orders_55 rfl ⟨Nat.zero_le _, Nat.zero_le _⟩) hS (fun H locs hW hS => ?_)
    refine t_X11_orders_l58 C hB ?_ _ _ h _ _ _ hW hS (lv_sub hl [0, 1] rfl)
    intro S_38 h H locs ls hW hS hl
    exact t_X11_orders_j165 C hB h hW hS (lv_sub hl [0, 1] rfl)
  · have h := it_t c_4 h
    refine lv_bipush (v := (-2)) hx hb dX11_orders_8 (by decide) ?_
    cases h
    exact g_iret hx hb hr hlocks hW hS dX11_orders_10
theorem c_X11_orders (hB : Lk L) {S : St} {r : Int32} {S9 : St} {p1 : Int32} (h : f_X11_orders N S p1 = some (r, S9)) : Met l yX11_orders (gws yX11_orders cX11_orders 3 (some .int)) (rmk 6) (va_Pc [.ref (ad 200), .int p1] (WU g A ad L S)) (qi g A ad L r S9) 0 0 A :=
  g_met [.ref (ad 200), .int p1] (by decide) (Nat.le_of_ble_eq_true rfl) (fun p e s m below meth c ls C hW hl _ => t_X11_orders C hB h hW va_S.rf hl)
theorem hv_X11_orders : yX11_orders.cls = RX11 ∧ yX11_orders.cls ≠ "java/lang/invoke/MethodHandle" ∧ yX11_orders.cls ≠ "java/lang/invoke/VarHandle" ∧ (parseMethodDescriptor yX11_orders.desc).map (fun d => d.parameters.length) = some 1 := by decide +kernel
end S23
