section S25
variable {p : Program} {l : Launch} {e : Env} {s : State} {m : MethodId} {args : Array Value} {below : List Frame} {meth : Method} {c : Code} {A : Nat → Prop} {g : Cx} {ad : Nat → Nat} {L : List Nat} {N : Nat} {q0 : Nat}
/-! DroveRoadsModel.go -/
def f_X11_go_l123 (N : Nat) (v1 : Int32) (k : St → Int32 → Option (St)) : Nat → St → Int32 → Option (St)
  | 0, _, _ => none
  | n + 1, S, v3 => if v1 < 0 ∨ 6 ≤ ix v1 then none else if (gv S 228 (ix v1)) ≤ v3 then (k S v3) else (cl1 (f_X11_holds N S v1 v3) fun r_24 S_25 => if r_24 = 0 then (bn (v3 + 1) fun x_28 => f_X11_go_l123 N v1 k n S_25 x_28) else (k S_25 v3))
set_option maxHeartbeats 4000000 in
theorem t_X11_go_l123 (C : MC p s m args meth c cX11_go 6 none RX11 g A) (hB : Lk L) {v1 : Int32} {S9 : St} {k : St → Int32 → Option (St)} (hk : ∀ (S : St) (w3 : Int32), k S w3 = some S9 → ∀ (H : Heap) (locs : List Loc) (ls : Array Slot), GW g A ad L S H → va_S A s.heap H locs → lv_has ls 6 [(0, .ref (ad 200)), (1, .int v1), (3, .int w3)] → W p l e (rmk 5) s m args below meth c H locs 0 0 (MQ below (qv g A ad L S9) args s 0 0 A) (F0 m 148 ls [])) : ∀ (n : Nat) (S : St) (v3 : Int32), f_X11_go_l123 N v1 k n S v3 = some S9 → ∀ (H : Heap) (locs : List Loc) (ls : Array Slot), GW g A ad L S H → va_S A s.heap H locs → lv_has ls 6 [(0, .ref (ad 200)), (1, .int v1), (3, .int v3)] → W p l e (rmk 5) s m args below meth c H locs 0 0 (MQ below (qv g A ad L S9) args s 0 0 A) (F0 m 123 ls []) := by
  obtain ⟨hx, hb, hml, hown, hts, hr, hlocks, hK, hN, hT⟩ := id C
  intro n
  induction n with
  | zero =>
    intro S v3 h
    have h : (none : Option (St)) = some S9 := h
    cases h
  | succ n ih =>
    intro S v3 h H locs ls hW hS hl
    rw [f_X11_go_l123] at h
    refine lv_iload_n hx hb dX11_go_123 rfl (lv_at hl 2 rfl) ?_
    refine lv_aload_n hx hb dX11_go_124 rfl (lv_at hl 0 rfl) ?_
    refine g_get (C := RX11) (T := TX11) (N := 67) (ci := 11) hx hb hts inX11 hown hK hW (hB 200 bb_200) kd_200 rfl 27 (by decide) mw_988 rfl rfl dX11_go_125 ?_
    refine lv_iload_n hx hb dX11_go_128 rfl (lv_at hl 1 rfl) ?_
    obtain ⟨hi_21, h⟩ := ck_n h
    refine g_iald hx hb hK hW (hB 228 bb_228) kd_228 hi_21 dX11_go_129 ?_
    refine lv_icmp_ge (tgt := 148) hx hb dX11_go_130 (by decide) (fun c_22 => ?_) (fun c_22 => ?_)
    · have h := it_t c_22 h
      exact hk _ _ h _ _ _ hW hS (lv_sub hl [0, 1, 2] rfl)
    · have h := it_f c_22 h
      refine lv_aload_n hx hb dX11_go_133 rfl (lv_at hl 0 rfl) ?_
      refine lv_iload_n hx hb dX11_go_134 rfl (lv_at hl 1 rfl) ?_
      refine lv_iload_n hx hb dX11_go_135 rfl (lv_at hl 2 rfl) ?_
      obtain ⟨r_24, S_25, hc_23, h⟩ := cl1_ex h
      refine g_cz (g_runV (ci := 11) (o := 200) (As := [.int v1, .int v3]) (rest := []) hx hb hml hown hts hK hN hT hS hW (c_X11_holds hB hc_23) (hB 200 bb_200) kd_200 rfl (gw_V mw_1338 mw_1340 mw_58 mw_73 mw_1341) hv_X11_holds rfl rfl rfl (rm_ok (by decide) (by decide)) hl.1 (Nat.le_of_ble_eq_true rfl) dX11_go_136 rfl ⟨Nat.zero_le _, Nat.zero_le _⟩) hS (fun hz_26 H locs hW hS => ?_)
      refine lv_if_ne (tgt := 148) hx hb dX11_go_139 (by decide) (fun c_27 => ?_) (fun c_27 => ?_)
      · have h := it_f c_27 h
        exact hk _ _ h _ _ _ hW hS (lv_sub hl [0, 1, 2] rfl)
      · have h := it_t c_27 h
        obtain ⟨x_28, ex_28⟩ : ∃ z : Int32, z = v3 + 1 := ⟨_, rfl⟩
        have h := bn_at ex_28 h
        refine lv_iinc (v := x_28) (lv' := [(3, .int x_28), (0, .ref (ad 200)), (1, .int v1)]) hx hb dX11_go_142 hl (k := 2) rfl (by rw [ex_28]; rfl) (by decide) rfl (fun ls hl => ?_)
        refine lv_goto (tgt := 123) hx hb dX11_go_145 (by decide) ?_
        exact ih _ _ h _ _ _ hW hS (lv_sub hl [1, 2, 0] rfl)
def f_X11_go_j249 (N : Nat) (S : St) (v1 : Int32) (v4 : Int32) : Option (St) := if v1 < 0 ∨ 6 ≤ ix v1 then none else if (gv S 212 (ix v1)) ≤ 0 then (some S) else (if v4 = 0 then (cl0 (f_X11_eat S v1 1) fun S_67 => some S_67) else (cl0 (f_X11_eat S v1 0) fun S_65 => some S_65))
set_option maxHeartbeats 4000000 in
theorem t_X11_go_j249 (C : MC p s m args meth c cX11_go 6 none RX11 g A) (hB : Lk L) {S : St} {S9 : St} {v1 : Int32} {v4 : Int32} (h : f_X11_go_j249 N S v1 v4 = some S9) {H : Heap} {locs : List Loc} {ls : Array Slot} (hW : GW g A ad L S H) (hS : va_S A s.heap H locs) (hl : lv_has ls 6 [(0, .ref (ad 200)), (1, .int v1), (4, .int v4)]) : W p l e (rmk 5) s m args below meth c H locs 0 0 (MQ below (qv g A ad L S9) args s 0 0 A) (F0 m 249 ls []) := by
  obtain ⟨hx, hb, hml, hown, hts, hr, hlocks, hK, hN, hT⟩ := id C
  unfold f_X11_go_j249 at h
  refine lv_goto (tgt := 271) hx hb dX11_go_249 (by decide) ?_
  refine lv_aload_n hx hb dX11_go_271 rfl (lv_at hl 0 rfl) ?_
  refine g_get (C := RX11) (T := TX11) (N := 67) (ci := 11) hx hb hts inX11 hown hK hW (hB 200 bb_200) kd_200 rfl 11 (by decide) mw_972 rfl rfl dX11_go_272 ?_
  refine lv_iload_n hx hb dX11_go_275 rfl (lv_at hl 1 rfl) ?_
  obtain ⟨hi_61, h⟩ := ck_n h
  refine g_iald hx hb hK hW (hB 212 bb_212) kd_212 hi_61 dX11_go_276 ?_
  refine lv_if_le (tgt := 295) hx hb dX11_go_277 (by decide) (fun c_62 => ?_) (fun c_62 => ?_)
  · have h := it_t c_62 h
    cases h
    exact g_vret hx hb hr hlocks hW hS dX11_go_295
  · have h := it_f c_62 h
    refine lv_aload_n hx hb dX11_go_280 rfl (lv_at hl 0 rfl) ?_
    refine lv_iload_n hx hb dX11_go_281 rfl (lv_at hl 1 rfl) ?_
    refine lv_iload hx hb dX11_go_282 (lv_at hl 2 rfl) ?_
    refine lv_if_ne (tgt := 291) hx hb dX11_go_284 (by decide) (fun c_63 => ?_) (fun c_63 => ?_)
    · have h := it_f c_63 h
      refine lv_iconst (v := 0) hx hb dX11_go_291 (by decide) ?_
      obtain ⟨S_65, hc_64, h⟩ := cl0_ex h
      refine g_cv (g_runV (ci := 11) (o := 200) (As := [.int v1, .int 0]) (rest := []) hx hb hml hown hts hK hN hT hS hW (c_X11_eat hB hc_64) (hB 200 bb_200) kd_200 rfl (gw_V mw_1356 mw_1358 mw_62 mw_73 mw_1359) hv_X11_eat rfl rfl rfl (rm_ok (by decide) (by decide)) hl.1 (Nat.le_of_ble_eq_true rfl) dX11_go_292 rfl ⟨Nat.zero_le _, Nat.zero_le _⟩) hS (fun H locs hW hS => ?_)
      cases h
      exact g_vret hx hb hr hlocks hW hS dX11_go_295
    · have h := it_t c_63 h
      refine lv_iconst (v := 1) hx hb dX11_go_287 (by decide) ?_
      refine lv_goto (tgt := 292) hx hb dX11_go_288 (by decide) ?_
      obtain ⟨S_67, hc_66, h⟩ := cl0_ex h
      refine g_cv (g_runV (ci := 11) (o := 200) (As := [.int v1, .int 1]) (rest := []) hx hb hml hown hts hK hN hT hS hW (c_X11_eat hB hc_66) (hB 200 bb_200) kd_200 rfl (gw_V mw_1356 mw_1358 mw_62 mw_73 mw_1359) hv_X11_eat rfl rfl rfl (rm_ok (by decide) (by decide)) hl.1 (Nat.le_of_ble_eq_true rfl) dX11_go_292 rfl ⟨Nat.zero_le _, Nat.zero_le _⟩) hS (fun H locs hW hS => ?_)
      cases h
      exact g_vret hx hb hr hlocks hW hS dX11_go_295
def f_X11_go_j216 (N : Nat) (S : St) (v1 : Int32) (v4 : Int32) (w100 : Int32) : Option (St) := cl0 (f_X11_earn S v1 w100 (gv S 251 (ix 7)) 200) fun S_58 => if v1 < 0 ∨ 6 ≤ ix v1 then none else if (gv S_58 212 (ix v1)) ≤ 0 then (f_X11_go_j249 N S_58 v1 v4) else (cl0 (f_X11_rest S_58 v1) fun S_69 => f_X11_go_j249 N S_69 v1 v4)
set_option maxHeartbeats 4000000 in
theorem t_X11_go_j216 (C : MC p s m args meth c cX11_go 6 none RX11 g A) (hB : Lk L) {S : St} {S9 : St} {v1 : Int32} {v4 : Int32} {w100 : Int32} (h : f_X11_go_j216 N S v1 v4 w100 = some S9) {H : Heap} {locs : List Loc} {ls : Array Slot} (hW : GW g A ad L S H) (hS : va_S A s.heap H locs) (hl : lv_has ls 6 [(0, .ref (ad 200)), (1, .int v1), (4, .int v4)]) : W p l e (rmk 5) s m args below meth c H locs 0 0 (MQ below (qv g A ad L S9) args s 0 0 A) (F0 m 216 ls [.int w100]) := by
  obtain ⟨hx, hb, hml, hown, hts, hr, hlocks, hK, hN, hT⟩ := id C
  unfold f_X11_go_j216 at h
  refine lv_istore (lv' := [(5, .int w100), (0, .ref (ad 200)), (1, .int v1), (4, .int v4)]) hx hb dX11_go_216 hl (by decide) rfl (fun ls hl => ?_)
  refine lv_aload_n hx hb dX11_go_218 rfl (lv_at hl 1 rfl) ?_
  refine lv_iload_n hx hb dX11_go_219 rfl (lv_at hl 2 rfl) ?_
  refine lv_iload hx hb dX11_go_220 (lv_at hl 0 rfl) ?_
  refine lv_aload_n hx hb dX11_go_222 rfl (lv_at hl 1 rfl) ?_
  refine g_get (C := RX11) (T := TX11) (N := 67) (ci := 11) hx hb hts inX11 hown hK hW (hB 200 bb_200) kd_200 rfl 50 (by decide) mw_1011 rfl rfl dX11_go_223 ?_
  refine lv_bipush (v := 7) hx hb dX11_go_226 (by decide) ?_
  refine g_iald hx hb hK hW (hB 251 bb_251) kd_251 (by decide) dX11_go_228 ?_
  refine lv_sipush (v := 200) hx hb dX11_go_229 (by decide) ?_
  obtain ⟨S_58, hc_57, h⟩ := cl0_ex h
  refine g_cv (g_runV (ci := 11) (o := 200) (As := [.int v1, .int w100, .int (gv S 251 (ix 7)), .int 200]) (rest := []) hx hb hml hown hts hK hN hT hS hW (c_X11_earn hB hc_57) (hB 200 bb_200) kd_200 rfl (gw_V mw_1342 mw_1344 mw_59 mw_73 mw_1345) hv_X11_earn rfl rfl rfl (rm_ok (by decide) (by decide)) hl.1 (Nat.le_of_ble_eq_true rfl) dX11_go_232 rfl ⟨Nat.zero_le _, Nat.zero_le _⟩) hS (fun H locs hW hS => ?_)
  refine lv_aload_n hx hb dX11_go_235 rfl (lv_at hl 1 rfl) ?_
  refine g_get (C := RX11) (T := TX11) (N := 67) (ci := 11) hx hb hts inX11 hown hK hW (hB 200 bb_200) kd_200 rfl 11 (by decide) mw_972 rfl rfl dX11_go_236 ?_
  refine lv_iload_n hx hb dX11_go_239 rfl (lv_at hl 2 rfl) ?_
  obtain ⟨hi_59, h⟩ := ck_n h
  refine g_iald hx hb hK hW (hB 212 bb_212) kd_212 hi_59 dX11_go_240 ?_
  refine lv_if_le (tgt := 249) hx hb dX11_go_241 (by decide) (fun c_60 => ?_) (fun c_60 => ?_)
  · have h := it_t c_60 h
    exact t_X11_go_j249 C hB h hW hS (lv_sub hl [1, 2, 3] rfl)
  · have h := it_f c_60 h
    refine lv_aload_n hx hb dX11_go_244 rfl (lv_at hl 1 rfl) ?_
    refine lv_iload_n hx hb dX11_go_245 rfl (lv_at hl 2 rfl) ?_
    obtain ⟨S_69, hc_68, h⟩ := cl0_ex h
    refine g_cv (g_runV (ci := 11) (o := 200) (As := [.int v1]) (rest := []) hx hb hml hown hts hK hN hT hS hW (c_X11_rest hB hc_68) (hB 200 bb_200) kd_200 rfl (gw_V mw_1348 mw_1350 mw_60 mw_73 mw_1351) hv_X11_rest rfl rfl rfl (rm_ok (by decide) (by decide)) hl.1 (Nat.le_of_ble_eq_true rfl) dX11_go_246 rfl ⟨Nat.zero_le _, Nat.zero_le _⟩) hS (fun H locs hW hS => ?_)
    exact t_X11_go_j249 C hB h hW hS (lv_sub hl [1, 2, 3] rfl)
def f_X11_go_j173 (N : Nat) (S : St) (v1 : Int32) (v3 : Int32) (w100 : Int32) : Option (St) := if w100 = 2 then (if ((8 * v1) + v3) < 0 ∨ 48 ≤ ix ((8 * v1) + v3) then none else bn (gv S 227 (ix ((8 * v1) + v3))) fun x_54 => if v1 < 0 ∨ 6 ≤ ix v1 then none else if x_54 ≤ (gv S 212 (ix v1)) then (f_X11_go_j216 N S v1 w100 x_54) else (if v1 < 0 ∨ 6 ≤ ix v1 then none else f_X11_go_j216 N S v1 w100 (gv S 212 (ix v1)))) else (if w100 = 1 then (cl0 (f_X11_rest S v1) fun S_45 => if v1 < 0 ∨ 6 ≤ ix v1 then none else if (gv S_45 212 (ix v1)) ≤ 0 then (some S_45) else (if w100 = 0 then (cl0 (f_X11_eat S_45 v1 1) fun S_52 => some S_52) else (cl0 (f_X11_eat S_45 v1 0) fun S_50 => some S_50))) else (cl0 (f_X11_walk N S v1) fun S_36 => if v1 < 0 ∨ 6 ≤ ix v1 then none else if (gv S_36 212 (ix v1)) ≤ 0 then (some S_36) else (if w100 = 0 then (cl0 (f_X11_eat S_36 v1 1) fun S_43 => some S_43) else (cl0 (f_X11_eat S_36 v1 0) fun S_41 => some S_41))))
set_option maxHeartbeats 4000000 in
theorem t_X11_go_j173 (C : MC p s m args meth c cX11_go 6 none RX11 g A) (hB : Lk L) {S : St} {S9 : St} {v1 : Int32} {v3 : Int32} {w100 : Int32} (h : f_X11_go_j173 N S v1 v3 w100 = some S9) {H : Heap} {locs : List Loc} {ls : Array Slot} (hW : GW g A ad L S H) (hS : va_S A s.heap H locs) (hl : lv_has ls 6 [(0, .ref (ad 200)), (1, .int v1), (3, .int v3)]) : W p l e (rmk 5) s m args below meth c H locs 0 0 (MQ below (qv g A ad L S9) args s 0 0 A) (F0 m 173 ls [.int w100]) := by
  obtain ⟨hx, hb, hml, hown, hts, hr, hlocks, hK, hN, hT⟩ := id C
  unfold f_X11_go_j173 at h
  refine lv_istore (lv' := [(4, .int w100), (0, .ref (ad 200)), (1, .int v1), (3, .int v3)]) hx hb dX11_go_173 hl (by decide) rfl (fun ls hl => ?_)
  refine lv_iload hx hb dX11_go_175 (lv_at hl 0 rfl) ?_
  refine lv_iconst (v := 2) hx hb dX11_go_177 (by decide) ?_
  refine lv_icmp_ne (tgt := 252) hx hb dX11_go_178 (by decide) (fun c_33 => ?_) (fun c_33 => ?_)
  · have h := it_f c_33 h
    refine lv_iload hx hb dX11_go_252 (lv_at hl 0 rfl) ?_
    refine lv_iconst (v := 1) hx hb dX11_go_254 (by decide) ?_
    refine lv_icmp_ne (tgt := 266) hx hb dX11_go_255 (by decide) (fun c_34 => ?_) (fun c_34 => ?_)
    · have h := it_f c_34 h
      refine lv_aload_n hx hb dX11_go_266 rfl (lv_at hl 1 rfl) ?_
      refine lv_iload_n hx hb dX11_go_267 rfl (lv_at hl 2 rfl) ?_
      obtain ⟨S_36, hc_35, h⟩ := cl0_ex h
      refine g_cv (g_runV (ci := 11) (o := 200) (As := [.int v1]) (rest := []) hx hb hml hown hts hK hN hT hS hW (c_X11_walk hB hc_35) (hB 200 bb_200) kd_200 rfl (gw_V mw_1352 mw_1354 mw_61 mw_73 mw_1355) hv_X11_walk rfl rfl rfl (rm_ok (by decide) (by decide)) hl.1 (Nat.le_of_ble_eq_true rfl) dX11_go_268 rfl ⟨Nat.zero_le _, Nat.zero_le _⟩) hS (fun H locs hW hS => ?_)
      refine lv_aload_n hx hb dX11_go_271 rfl (lv_at hl 1 rfl) ?_
      refine g_get (C := RX11) (T := TX11) (N := 67) (ci := 11) hx hb hts inX11 hown hK hW (hB 200 bb_200) kd_200 rfl 11 (by decide) mw_972 rfl rfl dX11_go_272 ?_
      refine lv_iload_n hx hb dX11_go_275 rfl (lv_at hl 2 rfl) ?_
      obtain ⟨hi_37, h⟩ := ck_n h
      refine g_iald hx hb hK hW (hB 212 bb_212) kd_212 hi_37 dX11_go_276 ?_
      refine lv_if_le (tgt := 295) hx hb dX11_go_277 (by decide) (fun c_38 => ?_) (fun c_38 => ?_)
      · have h := it_t c_38 h
        cases h
        exact g_vret hx hb hr hlocks hW hS dX11_go_295
      · have h := it_f c_38 h
        refine lv_aload_n hx hb dX11_go_280 rfl (lv_at hl 1 rfl) ?_
        refine lv_iload_n hx hb dX11_go_281 rfl (lv_at hl 2 rfl) ?_
        refine lv_iload hx hb dX11_go_282 (lv_at hl 0 rfl) ?_
        refine lv_if_ne (tgt := 291) hx hb dX11_go_284 (by decide) (fun c_39 => ?_) (fun c_39 => ?_)
        · have h := it_f c_39 h
          refine lv_iconst (v := 0) hx hb dX11_go_291 (by decide) ?_
          obtain ⟨S_41, hc_40, h⟩ := cl0_ex h
          refine g_cv (g_runV (ci := 11) (o := 200) (As := [.int v1, .int 0]) (rest := []) hx hb hml hown hts hK hN hT hS hW (c_X11_eat hB hc_40) (hB 200 bb_200) kd_200 rfl (gw_V mw_1356 mw_1358 mw_62 mw_73 mw_1359) hv_X11_eat rfl rfl rfl (rm_ok (by decide) (by decide)) hl.1 (Nat.le_of_ble_eq_true rfl) dX11_go_292 rfl ⟨Nat.zero_le _, Nat.zero_le _⟩) hS (fun H locs hW hS => ?_)
          cases h
          exact g_vret hx hb hr hlocks hW hS dX11_go_295
        · have h := it_t c_39 h
          refine lv_iconst (v := 1) hx hb dX11_go_287 (by decide) ?_
          refine lv_goto (tgt := 292) hx hb dX11_go_288 (by decide) ?_
          obtain ⟨S_43, hc_42, h⟩ := cl0_ex h
          refine g_cv (g_runV (ci := 11) (o := 200) (As := [.int v1, .int 1]) (rest := []) hx hb hml hown hts hK hN hT hS hW (c_X11_eat hB hc_42) (hB 200 bb_200) kd_200 rfl (gw_V mw_1356 mw_1358 mw_62 mw_73 mw_1359) hv_X11_eat rfl rfl rfl (rm_ok (by decide) (by decide)) hl.1 (Nat.le_of_ble_eq_true rfl) dX11_go_292 rfl ⟨Nat.zero_le _, Nat.zero_le _⟩) hS (fun H locs hW hS => ?_)
          cases h
          exact g_vret hx hb hr hlocks hW hS dX11_go_295
    · have h := it_t c_34 h
      refine lv_aload_n hx hb dX11_go_258 rfl (lv_at hl 1 rfl) ?_
      refine lv_iload_n hx hb dX11_go_259 rfl (lv_at hl 2 rfl) ?_
      obtain ⟨S_45, hc_44, h⟩ := cl0_ex h
      refine g_cv (g_runV (ci := 11) (o := 200) (As := [.int v1]) (rest := []) hx hb hml hown hts hK hN hT hS hW (c_X11_rest hB hc_44) (hB 200 bb_200) kd_200 rfl (gw_V mw_1348 mw_1350 mw_60 mw_73 mw_1351) hv_X11_rest rfl rfl rfl (rm_ok (by decide) (by decide)) hl.1 (Nat.le_of_ble_eq_true rfl) dX11_go_260 rfl ⟨Nat.zero_le _, Nat.zero_le _⟩) hS (fun H locs hW hS => ?_)
      refine lv_goto (tgt := 271) hx hb dX11_go_263 (by decide) ?_
      refine lv_aload_n hx hb dX11_go_271 rfl (lv_at hl 1 rfl) ?_
      refine g_get (C := RX11) (T := TX11) (N := 67) (ci := 11) hx hb hts inX11 hown hK hW (hB 200 bb_200) kd_200 rfl 11 (by decide) mw_972 rfl rfl dX11_go_272 ?_
      refine lv_iload_n hx hb dX11_go_275 rfl (lv_at hl 2 rfl) ?_
      obtain ⟨hi_46, h⟩ := ck_n h
      refine g_iald hx hb hK hW (hB 212 bb_212) kd_212 hi_46 dX11_go_276 ?_
      refine lv_if_le (tgt := 295) hx hb dX11_go_277 (by decide) (fun c_47 => ?_) (fun c_47 => ?_)
      · have h := it_t c_47 h
        cases h
        exact g_vret hx hb hr hlocks hW hS dX11_go_295
      · have h := it_f c_47 h
        refine lv_aload_n hx hb dX11_go_280 rfl (lv_at hl 1 rfl) ?_
        refine lv_iload_n hx hb dX11_go_281 rfl (lv_at hl 2 rfl) ?_
        refine lv_iload hx hb dX11_go_282 (lv_at hl 0 rfl) ?_
        refine lv_if_ne (tgt := 291) hx hb dX11_go_284 (by decide) (fun c_48 => ?_) (fun c_48 => ?_)
        · have h := it_f c_48 h
          refine lv_iconst (v := 0) hx hb dX11_go_291 (by decide) ?_
          obtain ⟨S_50, hc_49, h⟩ := cl0_ex h
          refine g_cv (g_runV (ci := 11) (o := 200) (As := [.int v1, .int 0]) (rest := []) hx hb hml hown hts hK hN hT hS hW (c_X11_eat hB hc_49) (hB 200 bb_200) kd_200 rfl (gw_V mw_1356 mw_1358 mw_62 mw_73 mw_1359) hv_X11_eat rfl rfl rfl (rm_ok (by decide) (by decide)) hl.1 (Nat.le_of_ble_eq_true rfl) dX11_go_292 rfl ⟨Nat.zero_le _, Nat.zero_le _⟩) hS (fun H locs hW hS => ?_)
          cases h
          exact g_vret hx hb hr hlocks hW hS dX11_go_295
        · have h := it_t c_48 h
          refine lv_iconst (v := 1) hx hb dX11_go_287 (by decide) ?_
          refine lv_goto (tgt := 292) hx hb dX11_go_288 (by decide) ?_
          obtain ⟨S_52, hc_51, h⟩ := cl0_ex h
          refine g_cv (g_runV (ci := 11) (o := 200) (As := [.int v1, .int 1]) (rest := []) hx hb hml hown hts hK hN hT hS hW (c_X11_eat hB hc_51) (hB 200 bb_200) kd_200 rfl (gw_V mw_1356 mw_1358 mw_62 mw_73 mw_1359) hv_X11_eat rfl rfl rfl (rm_ok (by decide) (by decide)) hl.1 (Nat.le_of_ble_eq_true rfl) dX11_go_292 rfl ⟨Nat.zero_le _, Nat.zero_le _⟩) hS (fun H locs hW hS => ?_)
          cases h
          exact g_vret hx hb hr hlocks hW hS dX11_go_295
  · have h := it_t c_33 h
    refine lv_aload_n hx hb dX11_go_181 rfl (lv_at hl 1 rfl) ?_
    refine g_get (C := RX11) (T := TX11) (N := 67) (ci := 11) hx hb hts inX11 hown hK hW (hB 200 bb_200) kd_200 rfl 26 (by decide) mw_987 rfl rfl dX11_go_182 ?_
    refine lv_bipush (v := 8) hx hb dX11_go_185 (by decide) ?_
    refine lv_iload_n hx hb dX11_go_187 rfl (lv_at hl 2 rfl) ?_
    refine lv_imul hx hb dX11_go_188 ?_
    refine lv_iload_n hx hb dX11_go_189 rfl (lv_at hl 3 rfl) ?_
    refine lv_iadd hx hb dX11_go_190 ?_
    obtain ⟨hi_53, h⟩ := ck_n h
    refine g_iald hx hb hK hW (hB 227 bb_227) kd_227 hi_53 dX11_go_191 ?_
    refine lv_topi (fun x_54 ex_54 => ?_)
    have h := bn_at ex_54 h
    refine lv_istore (lv' := [(5, .int x_54), (4, .int w100), (0, .ref (ad 200)), (1, .int v1), (3, .int v3)]) hx hb dX11_go_192 hl (by decide) rfl (fun ls hl => ?_)
    refine lv_iload hx hb dX11_go_194 (lv_at hl 0 rfl) ?_
    refine lv_aload_n hx hb dX11_go_196 rfl (lv_at hl 2 rfl) ?_
    refine g_get (C := RX11) (T := TX11) (N := 67) (ci := 11) hx hb hts inX11 hown hK hW (hB 200 bb_200) kd_200 rfl 11 (by decide) mw_972 rfl rfl dX11_go_197 ?_
    refine lv_iload_n hx hb dX11_go_200 rfl (lv_at hl 3 rfl) ?_
    obtain ⟨hi_55, h⟩ := ck_n h
    refine g_iald hx hb hK hW (hB 212 bb_212) kd_212 hi_55 dX11_go_201 ?_
    refine lv_icmp_le (tgt := 214) hx hb dX11_go_202 (by decide) (fun c_56 => ?_) (fun c_56 => ?_)
    · have h := it_t c_56 h
      refine lv_iload hx hb dX11_go_214 (lv_at hl 0 rfl) ?_
      exact t_X11_go_j216 C hB h hW hS (lv_sub hl [2, 3, 1] rfl)
    · have h := it_f c_56 h
      refine lv_aload_n hx hb dX11_go_205 rfl (lv_at hl 2 rfl) ?_
      refine g_get (C := RX11) (T := TX11) (N := 67) (ci := 11) hx hb hts inX11 hown hK hW (hB 200 bb_200) kd_200 rfl 11 (by decide) mw_972 rfl rfl dX11_go_206 ?_
      refine lv_iload_n hx hb dX11_go_209 rfl (lv_at hl 3 rfl) ?_
      obtain ⟨hi_70, h⟩ := ck_n h
      refine g_iald hx hb hK hW (hB 212 bb_212) kd_212 hi_70 dX11_go_210 ?_
      refine lv_goto (tgt := 216) hx hb dX11_go_211 (by decide) ?_
      exact t_X11_go_j216 C hB h hW hS (lv_sub hl [2, 3, 1] rfl)
def f_X11_go_j148 (N : Nat) (S : St) (v1 : Int32) (v3 : Int32) : Option (St) := if v1 < 0 ∨ 6 ≤ ix v1 then none else if (gv S 228 (ix v1)) ≤ v3 then (f_X11_go_j173 N S v1 v3 0) else (if ((8 * v1) + v3) < 0 ∨ 48 ≤ ix ((8 * v1) + v3) then none else f_X11_go_j173 N S v1 v3 (gv S 226 (ix ((8 * v1) + v3))))
set_option maxHeartbeats 4000000 in
theorem t_X11_go_j148 (C : MC p s m args meth c cX11_go 6 none RX11 g A) (hB : Lk L) {S : St} {S9 : St} {v1 : Int32} {v3 : Int32} (h : f_X11_go_j148 N S v1 v3 = some S9) {H : Heap} {locs : List Loc} {ls : Array Slot} (hW : GW g A ad L S H) (hS : va_S A s.heap H locs) (hl : lv_has ls 6 [(0, .ref (ad 200)), (1, .int v1), (3, .int v3)]) : W p l e (rmk 5) s m args below meth c H locs 0 0 (MQ below (qv g A ad L S9) args s 0 0 A) (F0 m 148 ls []) := by
  obtain ⟨hx, hb, hml, hown, hts, hr, hlocks, hK, hN, hT⟩ := id C
  unfold f_X11_go_j148 at h
  refine lv_iload_n hx hb dX11_go_148 rfl (lv_at hl 2 rfl) ?_
  refine lv_aload_n hx hb dX11_go_149 rfl (lv_at hl 0 rfl) ?_
  refine g_get (C := RX11) (T := TX11) (N := 67) (ci := 11) hx hb hts inX11 hown hK hW (hB 200 bb_200) kd_200 rfl 27 (by decide) mw_988 rfl rfl dX11_go_150 ?_
  refine lv_iload_n hx hb dX11_go_153 rfl (lv_at hl 1 rfl) ?_
  obtain ⟨hi_31, h⟩ := ck_n h
  refine g_iald hx hb hK hW (hB 228 bb_228) kd_228 hi_31 dX11_go_154 ?_
  refine lv_icmp_ge (tgt := 172) hx hb dX11_go_155 (by decide) (fun c_32 => ?_) (fun c_32 => ?_)
  · have h := it_t c_32 h
    refine lv_iconst (v := 0) hx hb dX11_go_172 (by decide) ?_
    exact t_X11_go_j173 C hB h hW hS (lv_sub hl [0, 1, 2] rfl)
  · have h := it_f c_32 h
    refine lv_aload_n hx hb dX11_go_158 rfl (lv_at hl 0 rfl) ?_
    refine g_get (C := RX11) (T := TX11) (N := 67) (ci := 11) hx hb hts inX11 hown hK hW (hB 200 bb_200) kd_200 rfl 25 (by decide) mw_986 rfl rfl dX11_go_159 ?_
    refine lv_bipush (v := 8) hx hb dX11_go_162 (by decide) ?_
    refine lv_iload_n hx hb dX11_go_164 rfl (lv_at hl 1 rfl) ?_
    refine lv_imul hx hb dX11_go_165 ?_
    refine lv_iload_n hx hb dX11_go_166 rfl (lv_at hl 2 rfl) ?_
    refine lv_iadd hx hb dX11_go_167 ?_
    obtain ⟨hi_71, h⟩ := ck_n h
    refine g_iald hx hb hK hW (hB 226 bb_226) kd_226 hi_71 dX11_go_168 ?_
    refine lv_goto (tgt := 173) hx hb dX11_go_169 (by decide) ?_
    exact t_X11_go_j173 C hB h hW hS (lv_sub hl [0, 1, 2] rfl)
def f_X11_go (N : Nat) (S : St) (p1 : Int32) : Option (St) := if p1 < 0 ∨ 6 ≤ ix p1 then none else bn (gv S 217 (ix p1)) fun x_2 => bn (sv S 251 (ix 0) (gv S 200 0)) fun S_3 => if p1 < 0 ∨ 6 ≤ ix p1 then none else bn (sv S_3 251 (ix 1) (gv S_3 212 (ix p1))) fun S_5 => if p1 < 0 ∨ 6 ≤ ix p1 then none else bn (sv S_5 251 (ix 2) (gv S_5 213 (ix p1))) fun S_7 => if p1 < 0 ∨ 6 ≤ ix p1 then none else bn (sv S_7 251 (ix 3) (gv S_7 216 (ix p1))) fun S_9 => if x_2 < 0 ∨ 10 ≤ ix x_2 then none else bn (sv S_9 251 (ix 4) (gv S_9 204 (ix x_2))) fun S_11 => if x_2 < 0 ∨ 10 ≤ ix x_2 then none else bn (sv S_11 251 (ix 5) (gv S_11 203 (ix x_2))) fun S_13 => bn (sv S_13 251 (ix 6) x_2) fun S_14 => cl0 (f_X11_knownAt N S_14 x_2 (gv S_14 200 0)) fun r_16 => bn (sv S_14 251 (ix 7) r_16) fun S_17 => if p1 < 0 ∨ 6 ≤ ix p1 then none else if p1 < 0 ∨ 6 ≤ ix p1 then none else bn (sv S_17 251 (ix 8) ((gv S_17 212 (ix p1)) * (gv S_17 214 (ix p1)))) fun S_20 => f_X11_go_l123 N p1 (fun S_29 x_30 => f_X11_go_j148 N S_29 p1 x_30) N S_20 0
set_option maxHeartbeats 4000000 in
theorem t_X11_go (C : MC p s m args meth c cX11_go 6 none RX11 g A) (hB : Lk L) {S : St} {S9 : St} {p1 : Int32} (h : f_X11_go N S p1 = some S9) {H : Heap} {locs : List Loc} {ls : Array Slot} (hW : GW g A ad L S H) (hS : va_S A s.heap H locs) (hl : lv_has ls 6 [(0, .ref (ad 200)), (1, .int p1)]) : W p l e (rmk 5) s m args below meth c H locs 0 0 (MQ below (qv g A ad L S9) args s 0 0 A) (F0 m 0 ls []) := by
  obtain ⟨hx, hb, hml, hown, hts, hr, hlocks, hK, hN, hT⟩ := id C
  unfold f_X11_go at h
  refine lv_aload_n hx hb dX11_go_0 rfl (lv_at hl 0 rfl) ?_
  refine g_get (C := RX11) (T := TX11) (N := 67) (ci := 11) hx hb hts inX11 hown hK hW (hB 200 bb_200) kd_200 rfl 16 (by decide) mw_977 rfl rfl dX11_go_1 ?_
  refine lv_iload_n hx hb dX11_go_4 rfl (lv_at hl 1 rfl) ?_
  obtain ⟨hi_1, h⟩ := ck_n h
  refine g_iald hx hb hK hW (hB 217 bb_217) kd_217 hi_1 dX11_go_5 ?_
  refine lv_topi (fun x_2 ex_2 => ?_)
  have h := bn_at ex_2 h
  refine lv_istore_n (lv' := [(2, .int x_2), (0, .ref (ad 200)), (1, .int p1)]) hx hb dX11_go_6 rfl hl (by decide) rfl (fun ls hl => ?_)
  refine lv_aload_n hx hb dX11_go_7 rfl (lv_at hl 1 rfl) ?_
  refine g_get (C := RX11) (T := TX11) (N := 67) (ci := 11) hx hb hts inX11 hown hK hW (hB 200 bb_200) kd_200 rfl 50 (by decide) mw_1011 rfl rfl dX11_go_8 ?_
  refine lv_iconst (v := 0) hx hb dX11_go_11 (by decide) ?_
  refine lv_aload_n hx hb dX11_go_12 rfl (lv_at hl 1 rfl) ?_
  refine g_get (C := RX11) (T := TX11) (N := 67) (ci := 11) hx hb hts inX11 hown hK hW (hB 200 bb_200) kd_200 rfl 0 (by decide) mw_961 rfl rfl dX11_go_13 ?_
  refine g_iast hx hb hK hW hS (hB 251 bb_251) (fun _ => kd_251) (by decide) dX11_go_16 (fun S_3 eS_3 H locs hW hS => ?_)
  have h := bn_at eS_3 h
  refine lv_aload_n hx hb dX11_go_17 rfl (lv_at hl 1 rfl) ?_
  refine g_get (C := RX11) (T := TX11) (N := 67) (ci := 11) hx hb hts inX11 hown hK hW (hB 200 bb_200) kd_200 rfl 50 (by decide) mw_1011 rfl rfl dX11_go_18 ?_
  refine lv_iconst (v := 1) hx hb dX11_go_21 (by decide) ?_
  refine lv_aload_n hx hb dX11_go_22 rfl (lv_at hl 1 rfl) ?_
  refine g_get (C := RX11) (T := TX11) (N := 67) (ci := 11) hx hb hts inX11 hown hK hW (hB 200 bb_200) kd_200 rfl 11 (by decide) mw_972 rfl rfl dX11_go_23 ?_
  refine lv_iload_n hx hb dX11_go_26 rfl (lv_at hl 2 rfl) ?_
  obtain ⟨hi_4, h⟩ := ck_n h
  refine g_iald hx hb hK hW (hB 212 bb_212) kd_212 hi_4 dX11_go_27 ?_
  refine g_iast hx hb hK hW hS (hB 251 bb_251) (fun _ => kd_251) (by decide) dX11_go_28 (fun S_5 eS_5 H locs hW hS => ?_)
  have h := bn_at eS_5 h
  refine lv_aload_n hx hb dX11_go_29 rfl (lv_at hl 1 rfl) ?_
  refine g_get (C := RX11) (T := TX11) (N := 67) (ci := 11) hx hb hts inX11 hown hK hW (hB 200 bb_200) kd_200 rfl 50 (by decide) mw_1011 rfl rfl dX11_go_30 ?_
  refine lv_iconst (v := 2) hx hb dX11_go_33 (by decide) ?_
  refine lv_aload_n hx hb dX11_go_34 rfl (lv_at hl 1 rfl) ?_
  refine g_get (C := RX11) (T := TX11) (N := 67) (ci := 11) hx hb hts inX11 hown hK hW (hB 200 bb_200) kd_200 rfl 12 (by decide) mw_973 rfl rfl dX11_go_35 ?_
  refine lv_iload_n hx hb dX11_go_38 rfl (lv_at hl 2 rfl) ?_
  obtain ⟨hi_6, h⟩ := ck_n h
  refine g_iald hx hb hK hW (hB 213 bb_213) kd_213 hi_6 dX11_go_39 ?_
  refine g_iast hx hb hK hW hS (hB 251 bb_251) (fun _ => kd_251) (by decide) dX11_go_40 (fun S_7 eS_7 H locs hW hS => ?_)
  have h := bn_at eS_7 h
  refine lv_aload_n hx hb dX11_go_41 rfl (lv_at hl 1 rfl) ?_
  refine g_get (C := RX11) (T := TX11) (N := 67) (ci := 11) hx hb hts inX11 hown hK hW (hB 200 bb_200) kd_200 rfl 50 (by decide) mw_1011 rfl rfl dX11_go_42 ?_
  refine lv_iconst (v := 3) hx hb dX11_go_45 (by decide) ?_
  refine lv_aload_n hx hb dX11_go_46 rfl (lv_at hl 1 rfl) ?_
  refine g_get (C := RX11) (T := TX11) (N := 67) (ci := 11) hx hb hts inX11 hown hK hW (hB 200 bb_200) kd_200 rfl 15 (by decide) mw_976 rfl rfl dX11_go_47 ?_
  refine lv_iload_n hx hb dX11_go_50 rfl (lv_at hl 2 rfl) ?_
  obtain ⟨hi_8, h⟩ := ck_n h
  refine g_iald hx hb hK hW (hB 216 bb_216) kd_216 hi_8 dX11_go_51 ?_
  refine g_iast hx hb hK hW hS (hB 251 bb_251) (fun _ => kd_251) (by decide) dX11_go_52 (fun S_9 eS_9 H locs hW hS => ?_)
  have h := bn_at eS_9 h
  refine lv_aload_n hx hb dX11_go_53 rfl (lv_at hl 1 rfl) ?_
  refine g_get (C := RX11) (T := TX11) (N := 67) (ci := 11) hx hb hts inX11 hown hK hW (hB 200 bb_200) kd_200 rfl 50 (by decide) mw_1011 rfl rfl dX11_go_54 ?_
  refine lv_iconst (v := 4) hx hb dX11_go_57 (by decide) ?_
  refine lv_aload_n hx hb dX11_go_58 rfl (lv_at hl 1 rfl) ?_
  refine g_get (C := RX11) (T := TX11) (N := 67) (ci := 11) hx hb hts inX11 hown hK hW (hB 200 bb_200) kd_200 rfl 3 (by decide) mw_964 rfl rfl dX11_go_59 ?_
  refine lv_iload_n hx hb dX11_go_62 rfl (lv_at hl 0 rfl) ?_
  obtain ⟨hi_10, h⟩ := ck_n h
  refine g_iald hx hb hK hW (hB 204 bb_204) kd_204 hi_10 dX11_go_63 ?_
  refine g_iast hx hb hK hW hS (hB 251 bb_251) (fun _ => kd_251) (by decide) dX11_go_64 (fun S_11 eS_11 H locs hW hS => ?_)
  have h := bn_at eS_11 h
  refine lv_aload_n hx hb dX11_go_65 rfl (lv_at hl 1 rfl) ?_
  refine g_get (C := RX11) (T := TX11) (N := 67) (ci := 11) hx hb hts inX11 hown hK hW (hB 200 bb_200) kd_200 rfl 50 (by decide) mw_1011 rfl rfl dX11_go_66 ?_
  refine lv_iconst (v := 5) hx hb dX11_go_69 (by decide) ?_
  refine lv_aload_n hx hb dX11_go_70 rfl (lv_at hl 1 rfl) ?_
  refine g_get (C := RX11) (T := TX11) (N := 67) (ci := 11) hx hb hts inX11 hown hK hW (hB 200 bb_200) kd_200 rfl 2 (by decide) mw_963 rfl rfl dX11_go_71 ?_
  refine lv_iload_n hx hb dX11_go_74 rfl (lv_at hl 0 rfl) ?_
  obtain ⟨hi_12, h⟩ := ck_n h
  refine g_iald hx hb hK hW (hB 203 bb_203) kd_203 hi_12 dX11_go_75 ?_
  refine g_iast hx hb hK hW hS (hB 251 bb_251) (fun _ => kd_251) (by decide) dX11_go_76 (fun S_13 eS_13 H locs hW hS => ?_)
  have h := bn_at eS_13 h
  refine lv_aload_n hx hb dX11_go_77 rfl (lv_at hl 1 rfl) ?_
  refine g_get (C := RX11) (T := TX11) (N := 67) (ci := 11) hx hb hts inX11 hown hK hW (hB 200 bb_200) kd_200 rfl 50 (by decide) mw_1011 rfl rfl dX11_go_78 ?_
  refine lv_bipush (v := 6) hx hb dX11_go_81 (by decide) ?_
  refine lv_iload_n hx hb dX11_go_83 rfl (lv_at hl 0 rfl) ?_
  refine g_iast hx hb hK hW hS (hB 251 bb_251) (fun _ => kd_251) (by decide) dX11_go_84 (fun S_14 eS_14 H locs hW hS => ?_)
  have h := bn_at eS_14 h
  refine lv_aload_n hx hb dX11_go_85 rfl (lv_at hl 1 rfl) ?_
  refine g_get (C := RX11) (T := TX11) (N := 67) (ci := 11) hx hb hts inX11 hown hK hW (hB 200 bb_200) kd_200 rfl 50 (by decide) mw_1011 rfl rfl dX11_go_86 ?_
  refine lv_bipush (v := 7) hx hb dX11_go_89 (by decide) ?_
  refine lv_aload_n hx hb dX11_go_91 rfl (lv_at hl 1 rfl) ?_
  refine lv_iload_n hx hb dX11_go_92 rfl (lv_at hl 0 rfl) ?_
  refine lv_aload_n hx hb dX11_go_93 rfl (lv_at hl 1 rfl) ?_
  refine g_get (C := RX11) (T := TX11) (N := 67) (ci := 11) hx hb hts inX11 hown hK hW (hB 200 bb_200) kd_200 rfl 0 (by decide) mw_961 rfl rfl dX11_go_94 ?_
  obtain ⟨r_16, hc_15, h⟩ := cl0_ex h
  refine g_ci (g_runV (ci := 11) (o := 200) (As := [.int x_2, .int (gv S_14 200 0)]) (rest := [.int 7, .ref (ad 251)]) hx hb hml hown hts hK hN hT hS hW (c_X11_knownAt hB hc_15) (hB 200 bb_200) kd_200 rfl (gw_V mw_1196 mw_1198 mw_37 mw_73 mw_1199) hv_X11_knownAt rfl rfl rfl (rm_ok (by decide) (by decide)) hl.1 (Nat.le_of_ble_eq_true rfl) dX11_go_97 rfl ⟨Nat.zero_le _, Nat.zero_le _⟩) hS (fun H locs hW hS => ?_)
  refine g_iast hx hb hK hW hS (hB 251 bb_251) (fun _ => kd_251) (by decide) dX11_go_100 (fun S_17 eS_17 H locs hW hS => ?_)
  have h := bn_at eS_17 h
  refine lv_aload_n hx hb dX11_go_101 rfl (lv_at hl 1 rfl) ?_
  refine g_get (C := RX11) (T := TX11) (N := 67) (ci := 11) hx hb hts inX11 hown hK hW (hB 200 bb_200) kd_200 rfl 50 (by decide) mw_1011 rfl rfl dX11_go_102 ?_
  refine lv_bipush (v := 8) hx hb dX11_go_105 (by decide) ?_
  refine lv_aload_n hx hb dX11_go_107 rfl (lv_at hl 1 rfl) ?_
  refine g_get (C := RX11) (T := TX11) (N := 67) (ci := 11) hx hb hts inX11 hown hK hW (hB 200 bb_200) kd_200 rfl 11 (by decide) mw_972 rfl rfl dX11_go_108 ?_
  refine lv_iload_n hx hb dX11_go_111 rfl (lv_at hl 2 rfl) ?_
  obtain ⟨hi_18, h⟩ := ck_n h
  refine g_iald hx hb hK hW (hB 212 bb_212) kd_212 hi_18 dX11_go_112 ?_
  refine lv_aload_n hx hb dX11_go_113 rfl (lv_at hl 1 rfl) ?_
  refine g_get (C := RX11) (T := TX11) (N := 67) (ci := 11) hx hb hts inX11 hown hK hW (hB 200 bb_200) kd_200 rfl 13 (by decide) mw_974 rfl rfl dX11_go_114 ?_
  refine lv_iload_n hx hb dX11_go_117 rfl (lv_at hl 2 rfl) ?_
  obtain ⟨hi_19, h⟩ := ck_n h
  refine g_iald hx hb hK hW (hB 214 bb_214) kd_214 hi_19 dX11_go_118 ?_
  refine lv_imul hx hb dX11_go_119 ?_
  refine g_iast hx hb hK hW hS (hB 251 bb_251) (fun _ => kd_251) (by decide) dX11_go_120 (fun S_20 eS_20 H locs hW hS => ?_)
  have h := bn_at eS_20 h
  refine lv_iconst (v := 0) hx hb dX11_go_121 (by decide) ?_
  refine lv_istore_n (lv' := [(3, .int 0), (2, .int x_2), (0, .ref (ad 200)), (1, .int p1)]) hx hb dX11_go_122 rfl hl (by decide) rfl (fun ls hl => ?_)
  refine t_X11_go_l123 C hB ?_ _ _ _ h _ _ _ hW hS (lv_sub hl [2, 3, 0] rfl)
  intro S_29 x_30 h H locs ls hW hS hl
  exact t_X11_go_j148 C hB h hW hS (lv_sub hl [0, 1, 2] rfl)
theorem c_X11_go (hB : Lk L) {S : St} {S9 : St} {p1 : Int32} (h : f_X11_go N S p1 = some S9) : Met l yX11_go (gws yX11_go cX11_go 6 none) (rmk 5) (va_Pc [.ref (ad 200), .int p1] (WU g A ad L S)) (qv g A ad L S9) 0 0 A :=
  g_met [.ref (ad 200), .int p1] (by decide) (Nat.le_of_ble_eq_true rfl) (fun p e s m below meth c ls C hW hl _ => t_X11_go C hB h hW va_S.rf hl)
theorem hv_X11_go : yX11_go.cls = RX11 ∧ yX11_go.cls ≠ "java/lang/invoke/MethodHandle" ∧ yX11_go.cls ≠ "java/lang/invoke/VarHandle" ∧ (parseMethodDescriptor yX11_go.desc).map (fun d => d.parameters.length) = some 1 := by decide +kernel
/-! DroveRoadsModel.days -/
def f_X11_days_l31 (N : Nat) (v1 : Int32) (v2 : Int32) (k : St → Option (Int32 × St)) : Nat → St → Int32 → Option (Int32 × St)
  | 0, _, _ => none
  | n + 1, S, v3 => cl0 (f_X11_fair S) fun r_6 => if r_6 ≤ v3 then (k S) else (if v3 < 0 ∨ 10 ≤ ix v3 then none else if v3 < 0 ∨ 10 ≤ ix v3 then none else if v3 < 0 ∨ 10 ≤ ix v3 then none else if ((gv S 204 (ix v3)) + (gv S 205 (ix v3))) ≤ (gv S 206 (ix v3)) then (if v3 < 0 ∨ 10 ≤ ix v3 then none else if v3 < 0 ∨ 10 ≤ ix v3 then none else if v3 < 0 ∨ 10 ≤ ix v3 then none else bn (sv S 204 (ix v3) ((gv S 204 (ix v3)) + (gv S 205 (ix v3)))) fun S_15 => bn (v3 + 1) fun x_16 => f_X11_days_l31 N v1 v2 k n S_15 x_16) else (if v3 < 0 ∨ 10 ≤ ix v3 then none else if v3 < 0 ∨ 10 ≤ ix v3 then none else bn (sv S 204 (ix v3) (gv S 206 (ix v3))) fun S_19 => bn (v3 + 1) fun x_20 => f_X11_days_l31 N v1 v2 k n S_19 x_20))
set_option maxHeartbeats 4000000 in
theorem t_X11_days_l31 (C : MC p s m args meth c cX11_days 4 (some .int) RX11 g A) (hB : Lk L) {v1 : Int32} {v2 : Int32} {r : Int32} {S9 : St} {k : St → Option (Int32 × St)} (hk : ∀ (S : St), k S = some (r, S9) → ∀ (H : Heap) (locs : List Loc) (ls : Array Slot), GW g A ad L S H → va_S A s.heap H locs → lv_has ls 4 [(0, .ref (ad 200)), (1, .int v1), (2, .int v2)] → W p l e (rmk 6) s m args below meth c H locs 0 0 (MQ below (qi g A ad L r S9) args s 0 0 A) (F0 m 95 ls [])) : ∀ (n : Nat) (S : St) (v3 : Int32), f_X11_days_l31 N v1 v2 k n S v3 = some (r, S9) → ∀ (H : Heap) (locs : List Loc) (ls : Array Slot), GW g A ad L S H → va_S A s.heap H locs → lv_has ls 4 [(0, .ref (ad 200)), (1, .int v1), (2, .int v2), (3, .int v3)] → W p l e (rmk 6) s m args below meth c H locs 0 0 (MQ below (qi g A ad L r S9) args s 0 0 A) (F0 m 31 ls []) := by
  obtain ⟨hx, hb, hml, hown, hts, hr, hlocks, hK, hN, hT⟩ := id C
  intro n
  induction n with
  | zero =>
    intro S v3 h
    have h : (none : Option (Int32 × St)) = some (r, S9) := h
    cases h
  | succ n ih =>
    intro S v3 h H locs ls hW hS hl
    rw [f_X11_days_l31] at h
    refine lv_iload_n hx hb dX11_days_31 rfl (lv_at hl 3 rfl) ?_
    refine lv_aload_n hx hb dX11_days_32 rfl (lv_at hl 0 rfl) ?_
    obtain ⟨r_6, hc_5, h⟩ := cl0_ex h
    refine g_ci (g_runV (ci := 11) (o := 200) (As := []) (rest := [.int v3]) hx hb hml hown hts hK hN hT hS hW (c_X11_fair hB hc_5) (hB 200 bb_200) kd_200 rfl (gw_V mw_1183 mw_1185 mw_36 mw_73 mw_1186) hv_X11_fair rfl rfl rfl (rm_ok (by decide) (by decide)) hl.1 (Nat.le_of_ble_eq_true rfl) dX11_days_33 rfl ⟨Nat.zero_le _, Nat.zero_le _⟩) hS (fun H locs hW hS => ?_)
    refine lv_icmp_ge (tgt := 95) hx hb dX11_days_36 (by decide) (fun c_7 => ?_) (fun c_7 => ?_)
    · have h := it_t c_7 h
      exact hk _ h _ _ _ hW hS (lv_sub hl [0, 1, 2] rfl)
    · have h := it_f c_7 h
      refine lv_aload_n hx hb dX11_days_39 rfl (lv_at hl 0 rfl) ?_
      refine g_get (C := RX11) (T := TX11) (N := 67) (ci := 11) hx hb hts inX11 hown hK hW (hB 200 bb_200) kd_200 rfl 3 (by decide) mw_964 rfl rfl dX11_days_40 ?_
      refine lv_iload_n hx hb dX11_days_43 rfl (lv_at hl 3 rfl) ?_
      refine lv_aload_n hx hb dX11_days_44 rfl (lv_at hl 0 rfl) ?_
      refine g_get (C := RX11) (T := TX11) (N := 67) (ci := 11) hx hb hts inX11 hown hK hW (hB 200 bb_200) kd_200 rfl 3 (by decide) mw_964 rfl rfl dX11_days_45 ?_
      refine lv_iload_n hx hb dX11_days_48 rfl (lv_at hl 3 rfl) ?_
      obtain ⟨hi_8, h⟩ := ck_n h
      refine g_iald hx hb hK hW (hB 204 bb_204) kd_204 hi_8 dX11_days_49 ?_
      refine lv_aload_n hx hb dX11_days_50 rfl (lv_at hl 0 rfl) ?_
      refine g_get (C := RX11) (T := TX11) (N := 67) (ci := 11) hx hb hts inX11 hown hK hW (hB 200 bb_200) kd_200 rfl 4 (by decide) mw_965 rfl rfl dX11_days_51 ?_
      refine lv_iload_n hx hb dX11_days_54 rfl (lv_at hl 3 rfl) ?_
      obtain ⟨hi_9, h⟩ := ck_n h
      refine g_iald hx hb hK hW (hB 205 bb_205) kd_205 hi_9 dX11_days_55 ?_
      refine lv_iadd hx hb dX11_days_56 ?_
      refine lv_aload_n hx hb dX11_days_57 rfl (lv_at hl 0 rfl) ?_
      refine g_get (C := RX11) (T := TX11) (N := 67) (ci := 11) hx hb hts inX11 hown hK hW (hB 200 bb_200) kd_200 rfl 5 (by decide) mw_966 rfl rfl dX11_days_58 ?_
      refine lv_iload_n hx hb dX11_days_61 rfl (lv_at hl 3 rfl) ?_
      obtain ⟨hi_10, h⟩ := ck_n h
      refine g_iald hx hb hK hW (hB 206 bb_206) kd_206 hi_10 dX11_days_62 ?_
      refine lv_icmp_le (tgt := 75) hx hb dX11_days_63 (by decide) (fun c_11 => ?_) (fun c_11 => ?_)
      · have h := it_t c_11 h
        refine lv_aload_n hx hb dX11_days_75 rfl (lv_at hl 0 rfl) ?_
        refine g_get (C := RX11) (T := TX11) (N := 67) (ci := 11) hx hb hts inX11 hown hK hW (hB 200 bb_200) kd_200 rfl 3 (by decide) mw_964 rfl rfl dX11_days_76 ?_
        refine lv_iload_n hx hb dX11_days_79 rfl (lv_at hl 3 rfl) ?_
        obtain ⟨hi_12, h⟩ := ck_n h
        refine g_iald hx hb hK hW (hB 204 bb_204) kd_204 hi_12 dX11_days_80 ?_
        refine lv_aload_n hx hb dX11_days_81 rfl (lv_at hl 0 rfl) ?_
        refine g_get (C := RX11) (T := TX11) (N := 67) (ci := 11) hx hb hts inX11 hown hK hW (hB 200 bb_200) kd_200 rfl 4 (by decide) mw_965 rfl rfl dX11_days_82 ?_
        refine lv_iload_n hx hb dX11_days_85 rfl (lv_at hl 3 rfl) ?_
        obtain ⟨hi_13, h⟩ := ck_n h
        refine g_iald hx hb hK hW (hB 205 bb_205) kd_205 hi_13 dX11_days_86 ?_
        refine lv_iadd hx hb dX11_days_87 ?_
        obtain ⟨hi_14, h⟩ := ck_n h
        refine g_iast hx hb hK hW hS (hB 204 bb_204) (fun _ => kd_204) hi_14 dX11_days_88 (fun S_15 eS_15 H locs hW hS => ?_)
        have h := bn_at eS_15 h
        obtain ⟨x_16, ex_16⟩ : ∃ z : Int32, z = v3 + 1 := ⟨_, rfl⟩
        have h := bn_at ex_16 h
        refine lv_iinc (v := x_16) (lv' := [(3, .int x_16), (0, .ref (ad 200)), (1, .int v1), (2, .int v2)]) hx hb dX11_days_89 hl (k := 3) rfl (by rw [ex_16]; rfl) (by decide) rfl (fun ls hl => ?_)
        refine lv_goto (tgt := 31) hx hb dX11_days_92 (by decide) ?_
        exact ih _ _ h _ _ _ hW hS (lv_sub hl [1, 2, 3, 0] rfl)
      · have h := it_f c_11 h
        refine lv_aload_n hx hb dX11_days_66 rfl (lv_at hl 0 rfl) ?_
        refine g_get (C := RX11) (T := TX11) (N := 67) (ci := 11) hx hb hts inX11 hown hK hW (hB 200 bb_200) kd_200 rfl 5 (by decide) mw_966 rfl rfl dX11_days_67 ?_
        refine lv_iload_n hx hb dX11_days_70 rfl (lv_at hl 3 rfl) ?_
        obtain ⟨hi_17, h⟩ := ck_n h
        refine g_iald hx hb hK hW (hB 206 bb_206) kd_206 hi_17 dX11_days_71 ?_
        refine lv_goto (tgt := 88) hx hb dX11_days_72 (by decide) ?_
        obtain ⟨hi_18, h⟩ := ck_n h
        refine g_iast hx hb hK hW hS (hB 204 bb_204) (fun _ => kd_204) hi_18 dX11_days_88 (fun S_19 eS_19 H locs hW hS => ?_)
        have h := bn_at eS_19 h
        obtain ⟨x_20, ex_20⟩ : ∃ z : Int32, z = v3 + 1 := ⟨_, rfl⟩
        have h := bn_at ex_20 h
        refine lv_iinc (v := x_20) (lv' := [(3, .int x_20), (0, .ref (ad 200)), (1, .int v1), (2, .int v2)]) hx hb dX11_days_89 hl (k := 3) rfl (by rw [ex_20]; rfl) (by decide) rfl (fun ls hl => ?_)
        refine lv_goto (tgt := 31) hx hb dX11_days_92 (by decide) ?_
        exact ih _ _ h _ _ _ hW hS (lv_sub hl [1, 2, 3, 0] rfl)
def f_X11_days_l97 (N : Nat) (v1 : Int32) (v2 : Int32) (k : St → Option (Int32 × St)) : Nat → St → Int32 → Option (Int32 × St)
  | 0, _, _ => none
  | n + 1, S, v3 => if (gv S 200 10) ≤ v3 then (k S) else (if v3 < 0 ∨ 6 ≤ ix v3 then none else if (gv S 200 0) < (gv S 215 (ix v3)) then (bn (v3 + 1) fun x_25 => f_X11_days_l97 N v1 v2 k n S x_25) else (if v3 < 0 ∨ 6 ≤ ix v3 then none else if (gv S 212 (ix v3)) ≤ 0 then (bn (v3 + 1) fun x_28 => f_X11_days_l97 N v1 v2 k n S x_28) else (cl0 (f_X11_go N S v3) fun S_30 => bn (v3 + 1) fun x_31 => f_X11_days_l97 N v1 v2 k n S_30 x_31)))
set_option maxHeartbeats 4000000 in
theorem t_X11_days_l97 (C : MC p s m args meth c cX11_days 4 (some .int) RX11 g A) (hB : Lk L) {v1 : Int32} {v2 : Int32} {r : Int32} {S9 : St} {k : St → Option (Int32 × St)} (hk : ∀ (S : St), k S = some (r, S9) → ∀ (H : Heap) (locs : List Loc) (ls : Array Slot), GW g A ad L S H → va_S A s.heap H locs → lv_has ls 4 [(0, .ref (ad 200)), (1, .int v1), (2, .int v2)] → W p l e (rmk 6) s m args below meth c H locs 0 0 (MQ below (qi g A ad L r S9) args s 0 0 A) (F0 m 138 ls [])) : ∀ (n : Nat) (S : St) (v3 : Int32), f_X11_days_l97 N v1 v2 k n S v3 = some (r, S9) → ∀ (H : Heap) (locs : List Loc) (ls : Array Slot), GW g A ad L S H → va_S A s.heap H locs → lv_has ls 4 [(0, .ref (ad 200)), (1, .int v1), (2, .int v2), (3, .int v3)] → W p l e (rmk 6) s m args below meth c H locs 0 0 (MQ below (qi g A ad L r S9) args s 0 0 A) (F0 m 97 ls []) := by
  obtain ⟨hx, hb, hml, hown, hts, hr, hlocks, hK, hN, hT⟩ := id C
  intro n
  induction n with
  | zero =>
    intro S v3 h
    have h : (none : Option (Int32 × St)) = some (r, S9) := h
    cases h
  | succ n ih =>
    intro S v3 h H locs ls hW hS hl
    rw [f_X11_days_l97] at h
    refine lv_iload_n hx hb dX11_days_97 rfl (lv_at hl 3 rfl) ?_
    refine lv_aload_n hx hb dX11_days_98 rfl (lv_at hl 0 rfl) ?_
    refine g_get (C := RX11) (T := TX11) (N := 67) (ci := 11) hx hb hts inX11 hown hK hW (hB 200 bb_200) kd_200 rfl 10 (by decide) mw_971 rfl rfl dX11_days_99 ?_
    refine lv_icmp_ge (tgt := 138) hx hb dX11_days_102 (by decide) (fun c_22 => ?_) (fun c_22 => ?_)
    · have h := it_t c_22 h
      exact hk _ h _ _ _ hW hS (lv_sub hl [0, 1, 2] rfl)
    · have h := it_f c_22 h
      refine lv_aload_n hx hb dX11_days_105 rfl (lv_at hl 0 rfl) ?_
      refine g_get (C := RX11) (T := TX11) (N := 67) (ci := 11) hx hb hts inX11 hown hK hW (hB 200 bb_200) kd_200 rfl 14 (by decide) mw_975 rfl rfl dX11_days_106 ?_
      refine lv_iload_n hx hb dX11_days_109 rfl (lv_at hl 3 rfl) ?_
      obtain ⟨hi_23, h⟩ := ck_n h
      refine g_iald hx hb hK hW (hB 215 bb_215) kd_215 hi_23 dX11_days_110 ?_
      refine lv_aload_n hx hb dX11_days_111 rfl (lv_at hl 0 rfl) ?_
      refine g_get (C := RX11) (T := TX11) (N := 67) (ci := 11) hx hb hts inX11 hown hK hW (hB 200 bb_200) kd_200 rfl 0 (by decide) mw_961 rfl rfl dX11_days_112 ?_
      refine lv_icmp_gt (tgt := 132) hx hb dX11_days_115 (by decide) (fun c_24 => ?_) (fun c_24 => ?_)
      · have h := it_t c_24 h
        obtain ⟨x_25, ex_25⟩ : ∃ z : Int32, z = v3 + 1 := ⟨_, rfl⟩
        have h := bn_at ex_25 h
        refine lv_iinc (v := x_25) (lv' := [(3, .int x_25), (0, .ref (ad 200)), (1, .int v1), (2, .int v2)]) hx hb dX11_days_132 hl (k := 3) rfl (by rw [ex_25]; rfl) (by decide) rfl (fun ls hl => ?_)
        refine lv_goto (tgt := 97) hx hb dX11_days_135 (by decide) ?_
        exact ih _ _ h _ _ _ hW hS (lv_sub hl [1, 2, 3, 0] rfl)
      · have h := it_f c_24 h
        refine lv_aload_n hx hb dX11_days_118 rfl (lv_at hl 0 rfl) ?_
        refine g_get (C := RX11) (T := TX11) (N := 67) (ci := 11) hx hb hts inX11 hown hK hW (hB 200 bb_200) kd_200 rfl 11 (by decide) mw_972 rfl rfl dX11_days_119 ?_
        refine lv_iload_n hx hb dX11_days_122 rfl (lv_at hl 3 rfl) ?_
        obtain ⟨hi_26, h⟩ := ck_n h
        refine g_iald hx hb hK hW (hB 212 bb_212) kd_212 hi_26 dX11_days_123 ?_
        refine lv_if_le (tgt := 132) hx hb dX11_days_124 (by decide) (fun c_27 => ?_) (fun c_27 => ?_)
        · have h := it_t c_27 h
          obtain ⟨x_28, ex_28⟩ : ∃ z : Int32, z = v3 + 1 := ⟨_, rfl⟩
          have h := bn_at ex_28 h
          refine lv_iinc (v := x_28) (lv' := [(3, .int x_28), (0, .ref (ad 200)), (1, .int v1), (2, .int v2)]) hx hb dX11_days_132 hl (k := 3) rfl (by rw [ex_28]; rfl) (by decide) rfl (fun ls hl => ?_)
          refine lv_goto (tgt := 97) hx hb dX11_days_135 (by decide) ?_
          exact ih _ _ h _ _ _ hW hS (lv_sub hl [1, 2, 3, 0] rfl)
        · have h := it_f c_27 h
          refine lv_aload_n hx hb dX11_days_127 rfl (lv_at hl 0 rfl) ?_
          refine lv_iload_n hx hb dX11_days_128 rfl (lv_at hl 3 rfl) ?_
          obtain ⟨S_30, hc_29, h⟩ := cl0_ex h
          refine g_cv (g_runV (ci := 11) (o := 200) (As := [.int v3]) (rest := []) hx hb hml hown hts hK hN hT hS hW (c_X11_go hB hc_29) (hB 200 bb_200) kd_200 rfl (gw_V mw_1334 mw_1336 mw_57 mw_73 mw_1337) hv_X11_go rfl rfl rfl (rm_ok (by decide) (by decide)) hl.1 (Nat.le_of_ble_eq_true rfl) dX11_days_129 rfl ⟨Nat.zero_le _, Nat.zero_le _⟩) hS (fun H locs hW hS => ?_)
          obtain ⟨x_31, ex_31⟩ : ∃ z : Int32, z = v3 + 1 := ⟨_, rfl⟩
          have h := bn_at ex_31 h
          refine lv_iinc (v := x_31) (lv' := [(3, .int x_31), (0, .ref (ad 200)), (1, .int v1), (2, .int v2)]) hx hb dX11_days_132 hl (k := 3) rfl (by rw [ex_31]; rfl) (by decide) rfl (fun ls hl => ?_)
          refine lv_goto (tgt := 97) hx hb dX11_days_135 (by decide) ?_
          exact ih _ _ h _ _ _ hW hS (lv_sub hl [1, 2, 3, 0] rfl)
def f_X11_days_l15 (N : Nat) (v1 : Int32) (k : St → Int32 → Option (Int32 × St)) : Nat → St → Int32 → Option (Int32 × St)
  | 0, _, _ => none
  | n + 1, S, v2 => if v1 ≤ v2 then (k S v2) else (if 100000 ≤ (gv S 200 0) then (k S v2) else (f_X11_days_l31 N v1 v2 (fun S_21 => f_X11_days_l97 N v1 v2 (fun S_32 => bn (sv S_32 200 0 ((gv S_32 200 0) + 1)) fun S_33 => bn (v2 + 1) fun x_34 => f_X11_days_l15 N v1 k n S_33 x_34) N S_21 0) N S 0))
set_option maxHeartbeats 4000000 in
theorem t_X11_days_l15 (C : MC p s m args meth c cX11_days 4 (some .int) RX11 g A) (hB : Lk L) {v1 : Int32} {r : Int32} {S9 : St} {k : St → Int32 → Option (Int32 × St)} (hk : ∀ (S : St) (w2 : Int32), k S w2 = some (r, S9) → ∀ (H : Heap) (locs : List Loc) (ls : Array Slot), GW g A ad L S H → va_S A s.heap H locs → lv_has ls 4 [(2, .int w2)] → W p l e (rmk 6) s m args below meth c H locs 0 0 (MQ below (qi g A ad L r S9) args s 0 0 A) (F0 m 154 ls [])) : ∀ (n : Nat) (S : St) (v2 : Int32), f_X11_days_l15 N v1 k n S v2 = some (r, S9) → ∀ (H : Heap) (locs : List Loc) (ls : Array Slot), GW g A ad L S H → va_S A s.heap H locs → lv_has ls 4 [(0, .ref (ad 200)), (1, .int v1), (2, .int v2)] → W p l e (rmk 6) s m args below meth c H locs 0 0 (MQ below (qi g A ad L r S9) args s 0 0 A) (F0 m 15 ls []) := by
  obtain ⟨hx, hb, hml, hown, hts, hr, hlocks, hK, hN, hT⟩ := id C
  intro n
  induction n with
  | zero =>
    intro S v2 h
    have h : (none : Option (Int32 × St)) = some (r, S9) := h
    cases h
  | succ n ih =>
    intro S v2 h H locs ls hW hS hl
    rw [f_X11_days_l15] at h
    refine lv_iload_n hx hb dX11_days_15 rfl (lv_at hl 2 rfl) ?_
    refine lv_iload_n hx hb dX11_days_16 rfl (lv_at hl 1 rfl) ?_
    refine lv_icmp_ge (tgt := 154) hx hb dX11_days_17 (by decide) (fun c_3 => ?_) (fun c_3 => ?_)
    · have h := it_t c_3 h
      exact hk _ _ h _ _ _ hW hS (lv_sub hl [2] rfl)
    · have h := it_f c_3 h
      refine lv_aload_n hx hb dX11_days_20 rfl (lv_at hl 0 rfl) ?_
      refine g_get (C := RX11) (T := TX11) (N := 67) (ci := 11) hx hb hts inX11 hown hK hW (hB 200 bb_200) kd_200 rfl 0 (by decide) mw_961 rfl rfl dX11_days_21 ?_
      refine lv_ldc (v := 100000) hx hb hown (hts _ mw_1187) dX11_days_24 ?_
      refine lv_icmp_ge (tgt := 154) hx hb dX11_days_26 (by decide) (fun c_4 => ?_) (fun c_4 => ?_)
      · have h := it_t c_4 h
        exact hk _ _ h _ _ _ hW hS (lv_sub hl [2] rfl)
      · have h := it_f c_4 h
        refine lv_iconst (v := 0) hx hb dX11_days_29 (by decide) ?_
        refine lv_istore_n (lv' := [(3, .int 0), (0, .ref (ad 200)), (1, .int v1), (2, .int v2)]) hx hb dX11_days_30 rfl hl (by decide) rfl (fun ls hl => ?_)
        refine t_X11_days_l31 C hB ?_ _ _ _ h _ _ _ hW hS (lv_sub hl [1, 2, 3, 0] rfl)
        intro S_21 h H locs ls hW hS hl
        refine lv_iconst (v := 0) hx hb dX11_days_95 (by decide) ?_
        refine lv_istore_n (lv' := [(3, .int 0), (0, .ref (ad 200)), (1, .int v1), (2, .int v2)]) hx hb dX11_days_96 rfl hl (by decide) rfl (fun ls hl => ?_)
        refine t_X11_days_l97 C hB ?_ _ _ _ h _ _ _ hW hS (lv_sub hl [1, 2, 3, 0] rfl)
        intro S_32 h H locs ls hW hS hl
        refine lv_aload_n hx hb dX11_days_138 rfl (lv_at hl 0 rfl) ?_
        refine lv_dup hx hb dX11_days_139 rfl ?_
        refine g_get (C := RX11) (T := TX11) (N := 67) (ci := 11) hx hb hts inX11 hown hK hW (hB 200 bb_200) kd_200 rfl 0 (by decide) mw_961 rfl rfl dX11_days_140 ?_
        refine lv_iconst (v := 1) hx hb dX11_days_143 (by decide) ?_
        refine lv_iadd hx hb dX11_days_144 ?_
        refine g_put (C := RX11) (T := TX11) (N := 67) (ci := 11) hx hb hts inX11 tyX11 tyX11_ok nmX11 hown hK hW hS (hB 200 bb_200) kd_200 rfl 0 (by decide) mw_961 rfl rfl rfl rfl (Nat.le_of_ble_eq_true rfl) (sv S_32 200 0 ((gv S_32 200 0) + 1)) (ps_200_0) cellOf_sv dX11_days_145 (fun S_33 eS_33 H locs hW hS => ?_)
        have h := bn_at eS_33 h
        obtain ⟨x_34, ex_34⟩ : ∃ z : Int32, z = v2 + 1 := ⟨_, rfl⟩
        have h := bn_at ex_34 h
        refine lv_iinc (v := x_34) (lv' := [(2, .int x_34), (0, .ref (ad 200)), (1, .int v1)]) hx hb dX11_days_148 hl (k := 2) rfl (by rw [ex_34]; rfl) (by decide) rfl (fun ls hl => ?_)
        refine lv_goto (tgt := 15) hx hb dX11_days_151 (by decide) ?_
        exact ih _ _ h _ _ _ hW hS (lv_sub hl [1, 2, 0] rfl)
def f_X11_days (N : Nat) (S : St) (p1 : Int32) : Option (Int32 × St) := if p1 < 0 then (some ((-1), S)) else (if p1 ≤ 400 then (f_X11_days_l15 N p1 (fun S_35 x_36 => some (x_36, S_35)) N S 0) else (some ((-1), S)))
set_option maxHeartbeats 4000000 in
theorem t_X11_days (C : MC p s m args meth c cX11_days 4 (some .int) RX11 g A) (hB : Lk L) {S : St} {r : Int32} {S9 : St} {p1 : Int32} (h : f_X11_days N S p1 = some (r, S9)) {H : Heap} {locs : List Loc} {ls : Array Slot} (hW : GW g A ad L S H) (hS : va_S A s.heap H locs) (hl : lv_has ls 4 [(0, .ref (ad 200)), (1, .int p1)]) : W p l e (rmk 6) s m args below meth c H locs 0 0 (MQ below (qi g A ad L r S9) args s 0 0 A) (F0 m 0 ls []) := by
  obtain ⟨hx, hb, hml, hown, hts, hr, hlocks, hK, hN, hT⟩ := id C
  unfold f_X11_days at h
  refine lv_iload_n hx hb dX11_days_0 rfl (lv_at hl 1 rfl) ?_
  refine lv_if_lt (tgt := 11) hx hb dX11_days_1 (by decide) (fun c_1 => ?_) (fun c_1 => ?_)
  · have h := it_t c_1 h
    refine lv_iconst (v := (-1)) hx hb dX11_days_11 (by decide) ?_
    cases h
    exact g_iret hx hb hr hlocks hW hS dX11_days_12
  · have h := it_f c_1 h
    refine lv_iload_n hx hb dX11_days_4 rfl (lv_at hl 1 rfl) ?_
    refine lv_sipush (v := 400) hx hb dX11_days_5 (by decide) ?_
    refine lv_icmp_le (tgt := 13) hx hb dX11_days_8 (by decide) (fun c_2 => ?_) (fun c_2 => ?_)
    · have h := it_t c_2 h
      refine lv_iconst (v := 0) hx hb dX11_days_13 (by decide) ?_
      refine lv_istore_n (lv' := [(2, .int 0), (0, .ref (ad 200)), (1, .int p1)]) hx hb dX11_days_14 rfl hl (by decide) rfl (fun ls hl => ?_)
      refine t_X11_days_l15 C hB ?_ _ _ _ h _ _ _ hW hS (lv_sub hl [1, 2, 0] rfl)
      intro S_35 x_36 h H locs ls hW hS hl
      refine lv_iload_n hx hb dX11_days_154 rfl (lv_at hl 0 rfl) ?_
      cases h
      exact g_iret hx hb hr hlocks hW hS dX11_days_155
    · have h := it_f c_2 h
      refine lv_iconst (v := (-1)) hx hb dX11_days_11 (by decide) ?_
      cases h
      exact g_iret hx hb hr hlocks hW hS dX11_days_12
theorem c_X11_days (hB : Lk L) {S : St} {r : Int32} {S9 : St} {p1 : Int32} (h : f_X11_days N S p1 = some (r, S9)) : Met l yX11_days (gws yX11_days cX11_days 4 (some .int)) (rmk 6) (va_Pc [.ref (ad 200), .int p1] (WU g A ad L S)) (qi g A ad L r S9) 0 0 A :=
  g_met [.ref (ad 200), .int p1] (by decide) (Nat.le_of_ble_eq_true rfl) (fun p e s m below meth c ls C hW hl _ => t_X11_days C hB h hW va_S.rf hl)
theorem hv_X11_days : yX11_days.cls = RX11 ∧ yX11_days.cls ≠ "java/lang/invoke/MethodHandle" ∧ yX11_days.cls ≠ "java/lang/invoke/VarHandle" ∧ (parseMethodDescriptor yX11_days.desc).map (fun d => d.parameters.length) = some 1 := by decide +kernel
end S25
