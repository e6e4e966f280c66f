section S26
variable {p : Program} {l : Launch} {e : Env} {s : State} {m : MethodId} {args : Array Value} {below : List Frame} {meth : Method} {c : Code} {A : Nat → Prop} {g : Cx} {ad : Nat → Nat} {L : List Nat} {N : Nat} {q0 : Nat}
/-! DroveRoadsModel.cell -/
def f_X11_cell (S : St) (p1 : Int32) (p2 : Int32) (p3 : Int32) : Option (Int32) := some ((((p1 * 10) + p2) * 400) + p3)
set_option maxHeartbeats 4000000 in
theorem t_X11_cell (C : MC p s m args meth c cX11_cell 3 (some .int) RX11 g A) (hB : Lk L) {S : St} {r : Int32} {p1 : Int32} {p2 : Int32} {p3 : Int32} (h : f_X11_cell S p1 p2 p3 = some r) {H : Heap} {locs : List Loc} {ls : Array Slot} (hW : GW g A ad L S H) (hS : va_S A s.heap H locs) (hl : lv_has ls 3 [(0, .int p1), (1, .int p2), (2, .int p3)]) : W p l e (rmk 1) s m args below meth c H locs 0 0 (MQ below (qi g A ad L r S) args s 0 0 A) (F0 m 0 ls []) := by
  obtain ⟨hx, hb, hml, hown, hts, hr, hlocks, hK, hN, hT⟩ := id C
  unfold f_X11_cell at h
  refine lv_iload_n hx hb dX11_cell_0 rfl (lv_at hl 0 rfl) ?_
  refine lv_bipush (v := 10) hx hb dX11_cell_1 (by decide) ?_
  refine lv_imul hx hb dX11_cell_3 ?_
  refine lv_iload_n hx hb dX11_cell_4 rfl (lv_at hl 1 rfl) ?_
  refine lv_iadd hx hb dX11_cell_5 ?_
  refine lv_sipush (v := 400) hx hb dX11_cell_6 (by decide) ?_
  refine lv_imul hx hb dX11_cell_9 ?_
  refine lv_iload_n hx hb dX11_cell_10 rfl (lv_at hl 2 rfl) ?_
  refine lv_iadd hx hb dX11_cell_11 ?_
  cases h
  exact g_iret hx hb hr hlocks hW hS dX11_cell_12
theorem c_X11_cell (hB : Lk L) {S : St} {r : Int32} {p1 : Int32} {p2 : Int32} {p3 : Int32} (h : f_X11_cell S p1 p2 p3 = some r) : Met l yX11_cell (gws yX11_cell cX11_cell 3 (some .int)) (rmk 1) (va_Pc [.int p1, .int p2, .int p3] (WU g A ad L S)) (qi g A ad L r S) 0 0 A :=
  g_met [.int p1, .int p2, .int p3] (by decide) (Nat.le_of_ble_eq_true rfl) (fun p e s m below meth c ls C hW hl _ => t_X11_cell C hB h hW va_S.rf hl)
theorem hs_X11_cell : yX11_cell.cls ≠ "java/lang/invoke/MethodHandle" ∧ yX11_cell.cls ≠ "java/lang/invoke/VarHandle" ∧ (parseMethodDescriptor yX11_cell.desc).map (fun d => d.parameters.length) = some 3 := by decide +kernel
/-! DroveRoadsModel.fill -/
def f_X11_fill_j342 (N : Nat) (kb : St → Int32 → Option (Int32 × St)) (k : St → Option (Int32 × St)) (S : St) (v1 : Int32) (v2 : Int32) (v3 : Int32) (v4 : Int32) (v5 : Int32) (v6 : Int32) (v9 : Int32) (v10 : Int32) : Option (Int32 × St) := if v6 < 0 ∨ 244000 ≤ ix v6 then none else bn (sv S 252 (ix v6) v9) fun S_34 => if v6 < 0 ∨ 244000 ≤ ix v6 then none else bn (sv S_34 253 (ix v6) v10) fun S_36 => if v6 < 0 ∨ 244000 ≤ ix v6 then none else bn (sv S_36 254 (ix v6) 0) fun S_38 => bn (v5 + 1) fun x_39 => kb S_38 x_39
set_option maxHeartbeats 4000000 in
theorem t_X11_fill_j342 (C : MC p s m args meth c cX11_fill 11 (some .boolean) RX11 g A) (hB : Lk L) {S : St} {r : Int32} {S9 : St} {v1 : Int32} {v2 : Int32} {v3 : Int32} {v4 : Int32} {v5 : Int32} {v6 : Int32} {v9 : Int32} {v10 : Int32} {kb : St → Int32 → Option (Int32 × St)} {k : St → Option (Int32 × St)} (hkb : ∀ (S : St) (u5 : Int32), kb S u5 = some (r, S9) → ∀ (H : Heap) (locs : List Loc) (ls : Array Slot), GW g A ad L S H → va_S A s.heap H locs → lv_has ls 11 [(0, .ref (ad 200)), (1, .int v1), (2, .int v2), (3, .int v3), (4, .int v4), (5, .int u5)] → W p l e (rmk 2) s m args below meth c H locs 0 0 (MQ below (qz g A ad L r S9) args s 0 0 A) (F0 m 52 ls [])) (hk : ∀ (S : St), k S = some (r, S9) → ∀ (H : Heap) (locs : List Loc) (ls : Array Slot), GW g A ad L S H → va_S A s.heap H locs → lv_has ls 11 [(0, .ref (ad 200)), (1, .int v1), (2, .int v2), (3, .int v3), (4, .int v4)] → W p l e (rmk 2) s m args below meth c H locs 0 0 (MQ below (qz g A ad L r S9) args s 0 0 A) (F0 m 374 ls [])) (h : f_X11_fill_j342 N kb k S v1 v2 v3 v4 v5 v6 v9 v10 = some (r, S9)) {H : Heap} {locs : List Loc} {ls : Array Slot} (hW : GW g A ad L S H) (hS : va_S A s.heap H locs) (hl : lv_has ls 11 [(0, .ref (ad 200)), (1, .int v1), (2, .int v2), (3, .int v3), (4, .int v4), (5, .int v5), (6, .int v6), (9, .int v9), (10, .int v10)]) : W p l e (rmk 2) s m args below meth c H locs 0 0 (MQ below (qz g A ad L r S9) args s 0 0 A) (F0 m 342 ls []) := by
  obtain ⟨hx, hb, hml, hown, hts, hr, hlocks, hK, hN, hT⟩ := id C
  unfold f_X11_fill_j342 at h
  refine lv_aload_n hx hb dX11_fill_342 rfl (lv_at hl 0 rfl) ?_
  refine g_get (C := RX11) (T := TX11) (N := 67) (ci := 11) hx hb hts inX11 hown hK hW (hB 200 bb_200) kd_200 rfl 51 (by decide) mw_1012 rfl rfl dX11_fill_343 ?_
  refine lv_iload hx hb dX11_fill_346 (lv_at hl 6 rfl) ?_
  refine lv_iload hx hb dX11_fill_348 (lv_at hl 7 rfl) ?_
  obtain ⟨hi_33, h⟩ := ck_n h
  refine g_iast hx hb hK hW hS (hB 252 bb_252) (fun _ => kd_252) hi_33 dX11_fill_350 (fun S_34 eS_34 H locs hW hS => ?_)
  have h := bn_at eS_34 h
  refine lv_aload_n hx hb dX11_fill_351 rfl (lv_at hl 0 rfl) ?_
  refine g_get (C := RX11) (T := TX11) (N := 67) (ci := 11) hx hb hts inX11 hown hK hW (hB 200 bb_200) kd_200 rfl 52 (by decide) mw_1013 rfl rfl dX11_fill_352 ?_
  refine lv_iload hx hb dX11_fill_355 (lv_at hl 6 rfl) ?_
  refine lv_iload hx hb dX11_fill_357 (lv_at hl 8 rfl) ?_
  obtain ⟨hi_35, h⟩ := ck_n h
  refine g_iast hx hb hK hW hS (hB 253 bb_253) (fun _ => kd_253) hi_35 dX11_fill_359 (fun S_36 eS_36 H locs hW hS => ?_)
  have h := bn_at eS_36 h
  refine lv_aload_n hx hb dX11_fill_360 rfl (lv_at hl 0 rfl) ?_
  refine g_get (C := RX11) (T := TX11) (N := 67) (ci := 11) hx hb hts inX11 hown hK hW (hB 200 bb_200) kd_200 rfl 53 (by decide) mw_1014 rfl rfl dX11_fill_361 ?_
  refine lv_iload hx hb dX11_fill_364 (lv_at hl 6 rfl) ?_
  refine lv_iconst (v := 0) hx hb dX11_fill_366 (by decide) ?_
  obtain ⟨hi_37, h⟩ := ck_n h
  refine g_zast hx hb hK hW hS (hB 254 bb_254) (fun _ => kd_254) (y := 0) rfl hi_37 dX11_fill_367 (fun S_38 eS_38 H locs hW hS => ?_)
  have h := bn_at eS_38 h
  obtain ⟨x_39, ex_39⟩ : ∃ z : Int32, z = v5 + 1 := ⟨_, rfl⟩
  have h := bn_at ex_39 h
  refine lv_iinc (v := x_39) (lv' := [(5, .int x_39), (0, .ref (ad 200)), (1, .int v1), (2, .int v2), (3, .int v3), (4, .int v4), (6, .int v6), (9, .int v9), (10, .int v10)]) hx hb dX11_fill_368 hl (k := 5) rfl (by rw [ex_39]; rfl) (by decide) rfl (fun ls hl => ?_)
  refine lv_goto (tgt := 52) hx hb dX11_fill_371 (by decide) ?_
  exact hkb _ _ h _ _ _ hW hS (lv_sub hl [1, 2, 3, 4, 5, 0] rfl)
def f_X11_fill_j247 (N : Nat) (kb : St → Int32 → Option (Int32 × St)) (k : St → Option (Int32 × St)) (S : St) (v1 : Int32) (v2 : Int32) (v3 : Int32) (v4 : Int32) (v5 : Int32) (v6 : Int32) (w100 : Int32) (w101 : Int32) (w102 : Int32) : Option (Int32 × St) := cl0 (f_X11_cell S w100 w101 w102) fun r_24 => if r_24 < 0 ∨ 244000 ≤ ix r_24 then none else if (gv S 252 (ix r_24)) = (-100000) then (bn (v5 + 1) fun x_48 => kb S x_48) else (if r_24 < 0 ∨ 244000 ≤ ix r_24 then none else bn (3 + (gv S 252 (ix r_24))) fun x_28 => if r_24 < 0 ∨ 244000 ≤ ix r_24 then none else bn (1 + (gv S 253 (ix r_24))) fun x_30 => if v6 < 0 ∨ 244000 ≤ ix v6 then none else if (gv S 252 (ix v6)) = (-100000) then (f_X11_fill_j342 N (kb) k S v1 v2 v3 v4 v5 v6 x_28 x_30) else (if v6 < 0 ∨ 244000 ≤ ix v6 then none else if x_28 < (gv S 252 (ix v6)) then (bn (v5 + 1) fun x_42 => kb S x_42) else (if v6 < 0 ∨ 244000 ≤ ix v6 then none else if x_28 = (gv S 252 (ix v6)) then (if v6 < 0 ∨ 244000 ≤ ix v6 then none else if x_30 < (gv S 253 (ix v6)) then (f_X11_fill_j342 N (kb) k S v1 v2 v3 v4 v5 v6 x_28 x_30) else (bn (v5 + 1) fun x_47 => kb S x_47)) else (f_X11_fill_j342 N (kb) k S v1 v2 v3 v4 v5 v6 x_28 x_30))))
set_option maxHeartbeats 4000000 in
theorem t_X11_fill_j247 (C : MC p s m args meth c cX11_fill 11 (some .boolean) RX11 g A) (hB : Lk L) {S : St} {r : Int32} {S9 : St} {v1 : Int32} {v2 : Int32} {v3 : Int32} {v4 : Int32} {v5 : Int32} {v6 : Int32} {w100 : Int32} {w101 : Int32} {w102 : Int32} {kb : St → Int32 → Option (Int32 × St)} {k : St → Option (Int32 × St)} (hkb : ∀ (S : St) (u5 : Int32), kb S u5 = some (r, S9) → ∀ (H : Heap) (locs : List Loc) (ls : Array Slot), GW g A ad L S H → va_S A s.heap H locs → lv_has ls 11 [(0, .ref (ad 200)), (1, .int v1), (2, .int v2), (3, .int v3), (4, .int v4), (5, .int u5)] → W p l e (rmk 2) s m args below meth c H locs 0 0 (MQ below (qz g A ad L r S9) args s 0 0 A) (F0 m 52 ls [])) (hk : ∀ (S : St), k S = some (r, S9) → ∀ (H : Heap) (locs : List Loc) (ls : Array Slot), GW g A ad L S H → va_S A s.heap H locs → lv_has ls 11 [(0, .ref (ad 200)), (1, .int v1), (2, .int v2), (3, .int v3), (4, .int v4)] → W p l e (rmk 2) s m args below meth c H locs 0 0 (MQ below (qz g A ad L r S9) args s 0 0 A) (F0 m 374 ls [])) (h : f_X11_fill_j247 N kb k S v1 v2 v3 v4 v5 v6 w100 w101 w102 = some (r, S9)) {H : Heap} {locs : List Loc} {ls : Array Slot} (hW : GW g A ad L S H) (hS : va_S A s.heap H locs) (hl : lv_has ls 11 [(0, .ref (ad 200)), (1, .int v1), (2, .int v2), (3, .int v3), (4, .int v4), (5, .int v5), (6, .int v6)]) : W p l e (rmk 2) s m args below meth c H locs 0 0 (MQ below (qz g A ad L r S9) args s 0 0 A) (F0 m 247 ls [.int w102, .int w101, .int w100]) := by
  obtain ⟨hx, hb, hml, hown, hts, hr, hlocks, hK, hN, hT⟩ := id C
  unfold f_X11_fill_j247 at h
  obtain ⟨r_24, hc_23, h⟩ := cl0_ex h
  refine g_ci (g_runS (As := [.int w100, .int w101, .int w102]) (rest := []) hx hb hml hown hts hK hN hT hS hW (c_X11_cell hB hc_23) (gw_S mw_1368 mw_1369 mw_73 mw_1370) hs_X11_cell rfl rfl rfl (rm_ok (by decide) (by decide)) hl.1 (Nat.le_of_ble_eq_true rfl) dX11_fill_247 rfl ⟨Nat.zero_le _, Nat.zero_le _⟩) hS (fun H locs hW hS => ?_)
  refine lv_istore (lv' := [(8, .int r_24), (0, .ref (ad 200)), (1, .int v1), (2, .int v2), (3, .int v3), (4, .int v4), (5, .int v5), (6, .int v6)]) hx hb dX11_fill_250 hl (by decide) rfl (fun ls hl => ?_)
  refine lv_aload_n hx hb dX11_fill_252 rfl (lv_at hl 1 rfl) ?_
  refine g_get (C := RX11) (T := TX11) (N := 67) (ci := 11) hx hb hts inX11 hown hK hW (hB 200 bb_200) kd_200 rfl 51 (by decide) mw_1012 rfl rfl dX11_fill_253 ?_
  refine lv_iload hx hb dX11_fill_256 (lv_at hl 0 rfl) ?_
  obtain ⟨hi_25, h⟩ := ck_n h
  refine g_iald hx hb hK hW (hB 252 bb_252) kd_252 hi_25 dX11_fill_258 ?_
  refine lv_ldcw (v := (-100000)) hx hb hown (hts _ mw_1371) dX11_fill_259 ?_
  refine lv_icmp_ne (tgt := 268) hx hb dX11_fill_262 (by decide) (fun c_26 => ?_) (fun c_26 => ?_)
  · have h := it_f c_26 h
    refine lv_iconst (v := 3) hx hb dX11_fill_268 (by decide) ?_
    refine lv_aload_n hx hb dX11_fill_269 rfl (lv_at hl 1 rfl) ?_
    refine g_get (C := RX11) (T := TX11) (N := 67) (ci := 11) hx hb hts inX11 hown hK hW (hB 200 bb_200) kd_200 rfl 51 (by decide) mw_1012 rfl rfl dX11_fill_270 ?_
    refine lv_iload hx hb dX11_fill_273 (lv_at hl 0 rfl) ?_
    obtain ⟨hi_27, h⟩ := ck_n h
    refine g_iald hx hb hK hW (hB 252 bb_252) kd_252 hi_27 dX11_fill_275 ?_
    refine lv_iadd hx hb dX11_fill_276 ?_
    refine lv_topi (fun x_28 ex_28 => ?_)
    have h := bn_at ex_28 h
    refine lv_istore (lv' := [(9, .int x_28), (8, .int r_24), (0, .ref (ad 200)), (1, .int v1), (2, .int v2), (3, .int v3), (4, .int v4), (5, .int v5), (6, .int v6)]) hx hb dX11_fill_277 hl (by decide) rfl (fun ls hl => ?_)
    refine lv_iconst (v := 1) hx hb dX11_fill_279 (by decide) ?_
    refine lv_aload_n hx hb dX11_fill_280 rfl (lv_at hl 2 rfl) ?_
    refine g_get (C := RX11) (T := TX11) (N := 67) (ci := 11) hx hb hts inX11 hown hK hW (hB 200 bb_200) kd_200 rfl 52 (by decide) mw_1013 rfl rfl dX11_fill_281 ?_
    refine lv_iload hx hb dX11_fill_284 (lv_at hl 1 rfl) ?_
    obtain ⟨hi_29, h⟩ := ck_n h
    refine g_iald hx hb hK hW (hB 253 bb_253) kd_253 hi_29 dX11_fill_286 ?_
    refine lv_iadd hx hb dX11_fill_287 ?_
    refine lv_topi (fun x_30 ex_30 => ?_)
    have h := bn_at ex_30 h
    refine lv_istore (lv' := [(10, .int x_30), (9, .int x_28), (8, .int r_24), (0, .ref (ad 200)), (1, .int v1), (2, .int v2), (3, .int v3), (4, .int v4), (5, .int v5), (6, .int v6)]) hx hb dX11_fill_288 hl (by decide) rfl (fun ls hl => ?_)
    refine lv_aload_n hx hb dX11_fill_290 rfl (lv_at hl 3 rfl) ?_
    refine g_get (C := RX11) (T := TX11) (N := 67) (ci := 11) hx hb hts inX11 hown hK hW (hB 200 bb_200) kd_200 rfl 51 (by decide) mw_1012 rfl rfl dX11_fill_291 ?_
    refine lv_iload hx hb dX11_fill_294 (lv_at hl 9 rfl) ?_
    obtain ⟨hi_31, h⟩ := ck_n h
    refine g_iald hx hb hK hW (hB 252 bb_252) kd_252 hi_31 dX11_fill_296 ?_
    refine lv_ldcw (v := (-100000)) hx hb hown (hts _ mw_1371) dX11_fill_297 ?_
    refine lv_icmp_eq (tgt := 342) hx hb dX11_fill_300 (by decide) (fun c_32 => ?_) (fun c_32 => ?_)
    · have h := it_t c_32 h
      exact t_X11_fill_j342 C hB hkb hk h hW hS (lv_sub hl [3, 4, 5, 6, 7, 8, 9, 1, 0] rfl)
    · have h := it_f c_32 h
      refine lv_iload hx hb dX11_fill_303 (lv_at hl 1 rfl) ?_
      refine lv_aload_n hx hb dX11_fill_305 rfl (lv_at hl 3 rfl) ?_
      refine g_get (C := RX11) (T := TX11) (N := 67) (ci := 11) hx hb hts inX11 hown hK hW (hB 200 bb_200) kd_200 rfl 51 (by decide) mw_1012 rfl rfl dX11_fill_306 ?_
      refine lv_iload hx hb dX11_fill_309 (lv_at hl 9 rfl) ?_
      obtain ⟨hi_40, h⟩ := ck_n h
      refine g_iald hx hb hK hW (hB 252 bb_252) kd_252 hi_40 dX11_fill_311 ?_
      refine lv_icmp_lt (tgt := 368) hx hb dX11_fill_312 (by decide) (fun c_41 => ?_) (fun c_41 => ?_)
      · have h := it_t c_41 h
        obtain ⟨x_42, ex_42⟩ : ∃ z : Int32, z = v5 + 1 := ⟨_, rfl⟩
        have h := bn_at ex_42 h
        refine lv_iinc (v := x_42) (lv' := [(5, .int x_42), (10, .int x_30), (9, .int x_28), (8, .int r_24), (0, .ref (ad 200)), (1, .int v1), (2, .int v2), (3, .int v3), (4, .int v4), (6, .int v6)]) hx hb dX11_fill_368 hl (k := 8) rfl (by rw [ex_42]; rfl) (by decide) rfl (fun ls hl => ?_)
        refine lv_goto (tgt := 52) hx hb dX11_fill_371 (by decide) ?_
        exact hkb _ _ h _ _ _ hW hS (lv_sub hl [4, 5, 6, 7, 8, 0] rfl)
      · have h := it_f c_41 h
        refine lv_iload hx hb dX11_fill_315 (lv_at hl 1 rfl) ?_
        refine lv_aload_n hx hb dX11_fill_317 rfl (lv_at hl 3 rfl) ?_
        refine g_get (C := RX11) (T := TX11) (N := 67) (ci := 11) hx hb hts inX11 hown hK hW (hB 200 bb_200) kd_200 rfl 51 (by decide) mw_1012 rfl rfl dX11_fill_318 ?_
        refine lv_iload hx hb dX11_fill_321 (lv_at hl 9 rfl) ?_
        obtain ⟨hi_43, h⟩ := ck_n h
        refine g_iald hx hb hK hW (hB 252 bb_252) kd_252 hi_43 dX11_fill_323 ?_
        refine lv_icmp_ne (tgt := 342) hx hb dX11_fill_324 (by decide) (fun c_44 => ?_) (fun c_44 => ?_)
        · have h := it_f c_44 h
          exact t_X11_fill_j342 C hB hkb hk h hW hS (lv_sub hl [3, 4, 5, 6, 7, 8, 9, 1, 0] rfl)
        · have h := it_t c_44 h
          refine lv_iload hx hb dX11_fill_327 (lv_at hl 0 rfl) ?_
          refine lv_aload_n hx hb dX11_fill_329 rfl (lv_at hl 3 rfl) ?_
          refine g_get (C := RX11) (T := TX11) (N := 67) (ci := 11) hx hb hts inX11 hown hK hW (hB 200 bb_200) kd_200 rfl 52 (by decide) mw_1013 rfl rfl dX11_fill_330 ?_
          refine lv_iload hx hb dX11_fill_333 (lv_at hl 9 rfl) ?_
          obtain ⟨hi_45, h⟩ := ck_n h
          refine g_iald hx hb hK hW (hB 253 bb_253) kd_253 hi_45 dX11_fill_335 ?_
          refine lv_icmp_lt (tgt := 342) hx hb dX11_fill_336 (by decide) (fun c_46 => ?_) (fun c_46 => ?_)
          · have h := it_t c_46 h
            exact t_X11_fill_j342 C hB hkb hk h hW hS (lv_sub hl [3, 4, 5, 6, 7, 8, 9, 1, 0] rfl)
          · have h := it_f c_46 h
            refine lv_goto (tgt := 368) hx hb dX11_fill_339 (by decide) ?_
            obtain ⟨x_47, ex_47⟩ : ∃ z : Int32, z = v5 + 1 := ⟨_, rfl⟩
            have h := bn_at ex_47 h
            refine lv_iinc (v := x_47) (lv' := [(5, .int x_47), (10, .int x_30), (9, .int x_28), (8, .int r_24), (0, .ref (ad 200)), (1, .int v1), (2, .int v2), (3, .int v3), (4, .int v4), (6, .int v6)]) hx hb dX11_fill_368 hl (k := 8) rfl (by rw [ex_47]; rfl) (by decide) rfl (fun ls hl => ?_)
            refine lv_goto (tgt := 52) hx hb dX11_fill_371 (by decide) ?_
            exact hkb _ _ h _ _ _ hW hS (lv_sub hl [4, 5, 6, 7, 8, 0] rfl)
  · have h := it_t c_26 h
    refine lv_goto (tgt := 368) hx hb dX11_fill_265 (by decide) ?_
    obtain ⟨x_48, ex_48⟩ : ∃ z : Int32, z = v5 + 1 := ⟨_, rfl⟩
    have h := bn_at ex_48 h
    refine lv_iinc (v := x_48) (lv' := [(5, .int x_48), (8, .int r_24), (0, .ref (ad 200)), (1, .int v1), (2, .int v2), (3, .int v3), (4, .int v4), (6, .int v6)]) hx hb dX11_fill_368 hl (k := 6) rfl (by rw [ex_48]; rfl) (by decide) rfl (fun ls hl => ?_)
    refine lv_goto (tgt := 52) hx hb dX11_fill_371 (by decide) ?_
    exact hkb _ _ h _ _ _ hW hS (lv_sub hl [2, 3, 4, 5, 6, 0] rfl)
def f_X11_fill_j226 (N : Nat) (kb : St → Int32 → Option (Int32 × St)) (k : St → Option (Int32 × St)) (S : St) (v1 : Int32) (v2 : Int32) (v3 : Int32) (v4 : Int32) (v5 : Int32) (v6 : Int32) : Option (Int32 × St) := if 15 ≤ v5 then (f_X11_fill_j247 N (kb) k S v1 v2 v3 v4 v5 v6 (v3 - 1) v4 (v5 - 15)) else (f_X11_fill_j247 N (kb) k S v1 v2 v3 v4 v5 v6 (v3 - 1) v4 0)
set_option maxHeartbeats 4000000 in
theorem t_X11_fill_j226 (C : MC p s m args meth c cX11_fill 11 (some .boolean) RX11 g A) (hB : Lk L) {S : St} {r : Int32} {S9 : St} {v1 : Int32} {v2 : Int32} {v3 : Int32} {v4 : Int32} {v5 : Int32} {v6 : Int32} {kb : St → Int32 → Option (Int32 × St)} {k : St → Option (Int32 × St)} (hkb : ∀ (S : St) (u5 : Int32), kb S u5 = some (r, S9) → ∀ (H : Heap) (locs : List Loc) (ls : Array Slot), GW g A ad L S H → va_S A s.heap H locs → lv_has ls 11 [(0, .ref (ad 200)), (1, .int v1), (2, .int v2), (3, .int v3), (4, .int v4), (5, .int u5)] → W p l e (rmk 2) s m args below meth c H locs 0 0 (MQ below (qz g A ad L r S9) args s 0 0 A) (F0 m 52 ls [])) (hk : ∀ (S : St), k S = some (r, S9) → ∀ (H : Heap) (locs : List Loc) (ls : Array Slot), GW g A ad L S H → va_S A s.heap H locs → lv_has ls 11 [(0, .ref (ad 200)), (1, .int v1), (2, .int v2), (3, .int v3), (4, .int v4)] → W p l e (rmk 2) s m args below meth c H locs 0 0 (MQ below (qz g A ad L r S9) args s 0 0 A) (F0 m 374 ls [])) (h : f_X11_fill_j226 N kb k S v1 v2 v3 v4 v5 v6 = some (r, S9)) {H : Heap} {locs : List Loc} {ls : Array Slot} (hW : GW g A ad L S H) (hS : va_S A s.heap H locs) (hl : lv_has ls 11 [(0, .ref (ad 200)), (1, .int v1), (2, .int v2), (3, .int v3), (4, .int v4), (5, .int v5), (6, .int v6)]) : W p l e (rmk 2) s m args below meth c H locs 0 0 (MQ below (qz g A ad L r S9) args s 0 0 A) (F0 m 226 ls []) := by
  obtain ⟨hx, hb, hml, hown, hts, hr, hlocks, hK, hN, hT⟩ := id C
  unfold f_X11_fill_j226 at h
  refine lv_iload_n hx hb dX11_fill_226 rfl (lv_at hl 3 rfl) ?_
  refine lv_iconst (v := 1) hx hb dX11_fill_227 (by decide) ?_
  refine lv_isub hx hb dX11_fill_228 ?_
  refine lv_iload hx hb dX11_fill_229 (lv_at hl 4 rfl) ?_
  refine lv_iload hx hb dX11_fill_231 (lv_at hl 5 rfl) ?_
  refine lv_bipush (v := 15) hx hb dX11_fill_233 (by decide) ?_
  refine lv_icmp_ge (tgt := 242) hx hb dX11_fill_235 (by decide) (fun c_22 => ?_) (fun c_22 => ?_)
  · have h := it_t c_22 h
    refine lv_iload hx hb dX11_fill_242 (lv_at hl 5 rfl) ?_
    refine lv_bipush (v := 15) hx hb dX11_fill_244 (by decide) ?_
    refine lv_isub hx hb dX11_fill_246 ?_
    exact t_X11_fill_j247 C hB hkb hk h hW hS (lv_sub hl [0, 1, 2, 3, 4, 5, 6] rfl)
  · have h := it_f c_22 h
    refine lv_iconst (v := 0) hx hb dX11_fill_238 (by decide) ?_
    refine lv_goto (tgt := 247) hx hb dX11_fill_239 (by decide) ?_
    exact t_X11_fill_j247 C hB hkb hk h hW hS (lv_sub hl [0, 1, 2, 3, 4, 5, 6] rfl)
def f_X11_fill_j217 (N : Nat) (kb : St → Int32 → Option (Int32 × St)) (k : St → Option (Int32 × St)) (S : St) (v1 : Int32) (v2 : Int32) (v3 : Int32) (v4 : Int32) (v5 : Int32) (v6 : Int32) (w101 : Int32) (w102 : Int32) : Option (Int32 × St) := if w101 < 0 ∨ 244000 ≤ ix w101 then none else bn (sv S 253 (ix w101) w102) fun S_62 => if v6 < 0 ∨ 244000 ≤ ix v6 then none else bn (sv S_62 254 (ix v6) 1) fun S_64 => f_X11_fill_j226 N (kb) k S_64 v1 v2 v3 v4 v5 v6
set_option maxHeartbeats 4000000 in
theorem t_X11_fill_j217 (C : MC p s m args meth c cX11_fill 11 (some .boolean) RX11 g A) (hB : Lk L) {S : St} {r : Int32} {S9 : St} {v1 : Int32} {v2 : Int32} {v3 : Int32} {v4 : Int32} {v5 : Int32} {v6 : Int32} {w101 : Int32} {w102 : Int32} {kb : St → Int32 → Option (Int32 × St)} {k : St → Option (Int32 × St)} (hkb : ∀ (S : St) (u5 : Int32), kb S u5 = some (r, S9) → ∀ (H : Heap) (locs : List Loc) (ls : Array Slot), GW g A ad L S H → va_S A s.heap H locs → lv_has ls 11 [(0, .ref (ad 200)), (1, .int v1), (2, .int v2), (3, .int v3), (4, .int v4), (5, .int u5)] → W p l e (rmk 2) s m args below meth c H locs 0 0 (MQ below (qz g A ad L r S9) args s 0 0 A) (F0 m 52 ls [])) (hk : ∀ (S : St), k S = some (r, S9) → ∀ (H : Heap) (locs : List Loc) (ls : Array Slot), GW g A ad L S H → va_S A s.heap H locs → lv_has ls 11 [(0, .ref (ad 200)), (1, .int v1), (2, .int v2), (3, .int v3), (4, .int v4)] → W p l e (rmk 2) s m args below meth c H locs 0 0 (MQ below (qz g A ad L r S9) args s 0 0 A) (F0 m 374 ls [])) (h : f_X11_fill_j217 N kb k S v1 v2 v3 v4 v5 v6 w101 w102 = some (r, S9)) {H : Heap} {locs : List Loc} {ls : Array Slot} (hW : GW g A ad L S H) (hS : va_S A s.heap H locs) (hl : lv_has ls 11 [(0, .ref (ad 200)), (1, .int v1), (2, .int v2), (3, .int v3), (4, .int v4), (5, .int v5), (6, .int v6)]) : W p l e (rmk 2) s m args below meth c H locs 0 0 (MQ below (qz g A ad L r S9) args s 0 0 A) (F0 m 217 ls [.int w102, .int w101, .ref (ad 253)]) := by
  obtain ⟨hx, hb, hml, hown, hts, hr, hlocks, hK, hN, hT⟩ := id C
  unfold f_X11_fill_j217 at h
  obtain ⟨hi_61, h⟩ := ck_n h
  refine g_iast hx hb hK hW hS (hB 253 bb_253) (fun _ => kd_253) hi_61 dX11_fill_217 (fun S_62 eS_62 H locs hW hS => ?_)
  have h := bn_at eS_62 h
  refine lv_aload_n hx hb dX11_fill_218 rfl (lv_at hl 0 rfl) ?_
  refine g_get (C := RX11) (T := TX11) (N := 67) (ci := 11) hx hb hts inX11 hown hK hW (hB 200 bb_200) kd_200 rfl 53 (by decide) mw_1014 rfl rfl dX11_fill_219 ?_
  refine lv_iload hx hb dX11_fill_222 (lv_at hl 6 rfl) ?_
  refine lv_iconst (v := 1) hx hb dX11_fill_224 (by decide) ?_
  obtain ⟨hi_63, h⟩ := ck_n h
  refine g_zast hx hb hK hW hS (hB 254 bb_254) (fun _ => kd_254) (y := 1) rfl hi_63 dX11_fill_225 (fun S_64 eS_64 H locs hW hS => ?_)
  have h := bn_at eS_64 h
  exact t_X11_fill_j226 C hB hkb hk h hW hS (lv_sub hl [0, 1, 2, 3, 4, 5, 6] rfl)
def f_X11_fill_j192 (N : Nat) (kb : St → Int32 → Option (Int32 × St)) (k : St → Option (Int32 × St)) (S : St) (v1 : Int32) (v2 : Int32) (v3 : Int32) (v4 : Int32) (v5 : Int32) (v6 : Int32) (v8 : Int32) (v9 : Int32) (w101 : Int32) (w102 : Int32) : Option (Int32 × St) := if w101 < 0 ∨ 244000 ≤ ix w101 then none else bn (sv S 252 (ix w101) w102) fun S_58 => if v9 = 0 then (if v8 < 0 ∨ 244000 ≤ ix v8 then none else f_X11_fill_j217 N (kb) k S_58 v1 v2 v3 v4 v5 v6 v6 (1 + (gv S_58 253 (ix v8)))) else (f_X11_fill_j217 N (kb) k S_58 v1 v2 v3 v4 v5 v6 v6 1)
set_option maxHeartbeats 4000000 in
theorem t_X11_fill_j192 (C : MC p s m args meth c cX11_fill 11 (some .boolean) RX11 g A) (hB : Lk L) {S : St} {r : Int32} {S9 : St} {v1 : Int32} {v2 : Int32} {v3 : Int32} {v4 : Int32} {v5 : Int32} {v6 : Int32} {v8 : Int32} {v9 : Int32} {w101 : Int32} {w102 : Int32} {kb : St → Int32 → Option (Int32 × St)} {k : St → Option (Int32 × St)} (hkb : ∀ (S : St) (u5 : Int32), kb S u5 = some (r, S9) → ∀ (H : Heap) (locs : List Loc) (ls : Array Slot), GW g A ad L S H → va_S A s.heap H locs → lv_has ls 11 [(0, .ref (ad 200)), (1, .int v1), (2, .int v2), (3, .int v3), (4, .int v4), (5, .int u5)] → W p l e (rmk 2) s m args below meth c H locs 0 0 (MQ below (qz g A ad L r S9) args s 0 0 A) (F0 m 52 ls [])) (hk : ∀ (S : St), k S = some (r, S9) → ∀ (H : Heap) (locs : List Loc) (ls : Array Slot), GW g A ad L S H → va_S A s.heap H locs → lv_has ls 11 [(0, .ref (ad 200)), (1, .int v1), (2, .int v2), (3, .int v3), (4, .int v4)] → W p l e (rmk 2) s m args below meth c H locs 0 0 (MQ below (qz g A ad L r S9) args s 0 0 A) (F0 m 374 ls [])) (h : f_X11_fill_j192 N kb k S v1 v2 v3 v4 v5 v6 v8 v9 w101 w102 = some (r, S9)) {H : Heap} {locs : List Loc} {ls : Array Slot} (hW : GW g A ad L S H) (hS : va_S A s.heap H locs) (hl : lv_has ls 11 [(0, .ref (ad 200)), (1, .int v1), (2, .int v2), (3, .int v3), (4, .int v4), (5, .int v5), (6, .int v6), (8, .int v8), (9, .int v9)]) : W p l e (rmk 2) s m args below meth c H locs 0 0 (MQ below (qz g A ad L r S9) args s 0 0 A) (F0 m 192 ls [.int w102, .int w101, .ref (ad 252)]) := by
  obtain ⟨hx, hb, hml, hown, hts, hr, hlocks, hK, hN, hT⟩ := id C
  unfold f_X11_fill_j192 at h
  obtain ⟨hi_57, h⟩ := ck_n h
  refine g_iast hx hb hK hW hS (hB 252 bb_252) (fun _ => kd_252) hi_57 dX11_fill_192 (fun S_58 eS_58 H locs hW hS => ?_)
  have h := bn_at eS_58 h
  refine lv_aload_n hx hb dX11_fill_193 rfl (lv_at hl 0 rfl) ?_
  refine g_get (C := RX11) (T := TX11) (N := 67) (ci := 11) hx hb hts inX11 hown hK hW (hB 200 bb_200) kd_200 rfl 52 (by decide) mw_1013 rfl rfl dX11_fill_194 ?_
  refine lv_iload hx hb dX11_fill_197 (lv_at hl 6 rfl) ?_
  refine lv_iload hx hb dX11_fill_199 (lv_at hl 8 rfl) ?_
  refine lv_if_eq (tgt := 208) hx hb dX11_fill_201 (by decide) (fun c_59 => ?_) (fun c_59 => ?_)
  · have h := it_t c_59 h
    refine lv_iconst (v := 1) hx hb dX11_fill_208 (by decide) ?_
    refine lv_aload_n hx hb dX11_fill_209 rfl (lv_at hl 0 rfl) ?_
    refine g_get (C := RX11) (T := TX11) (N := 67) (ci := 11) hx hb hts inX11 hown hK hW (hB 200 bb_200) kd_200 rfl 52 (by decide) mw_1013 rfl rfl dX11_fill_210 ?_
    refine lv_iload hx hb dX11_fill_213 (lv_at hl 7 rfl) ?_
    obtain ⟨hi_60, h⟩ := ck_n h
    refine g_iald hx hb hK hW (hB 253 bb_253) kd_253 hi_60 dX11_fill_215 ?_
    refine lv_iadd hx hb dX11_fill_216 ?_
    exact t_X11_fill_j217 C hB hkb hk h hW hS (lv_sub hl [0, 1, 2, 3, 4, 5, 6] rfl)
  · have h := it_f c_59 h
    refine lv_iconst (v := 1) hx hb dX11_fill_204 (by decide) ?_
    refine lv_goto (tgt := 217) hx hb dX11_fill_205 (by decide) ?_
    exact t_X11_fill_j217 C hB hkb hk h hW hS (lv_sub hl [0, 1, 2, 3, 4, 5, 6] rfl)
def f_X11_fill_j159 (N : Nat) (kb : St → Int32 → Option (Int32 × St)) (k : St → Option (Int32 × St)) (S : St) (v1 : Int32) (v2 : Int32) (v3 : Int32) (v4 : Int32) (v5 : Int32) (v6 : Int32) (v7 : Int32) (v8 : Int32) (v9 : Int32) : Option (Int32 × St) := if v9 = 0 then (if v8 < 0 ∨ 244000 ≤ ix v8 then none else f_X11_fill_j192 N (kb) k S v1 v2 v3 v4 v5 v6 v8 v9 v6 ((1 - (v7 / 5)) + (gv S 252 (ix v8)))) else (f_X11_fill_j192 N (kb) k S v1 v2 v3 v4 v5 v6 v8 v9 v6 (-(v7 / 5)))
set_option maxHeartbeats 4000000 in
theorem t_X11_fill_j159 (C : MC p s m args meth c cX11_fill 11 (some .boolean) RX11 g A) (hB : Lk L) {S : St} {r : Int32} {S9 : St} {v1 : Int32} {v2 : Int32} {v3 : Int32} {v4 : Int32} {v5 : Int32} {v6 : Int32} {v7 : Int32} {v8 : Int32} {v9 : Int32} {kb : St → Int32 → Option (Int32 × St)} {k : St → Option (Int32 × St)} (hkb : ∀ (S : St) (u5 : Int32), kb S u5 = some (r, S9) → ∀ (H : Heap) (locs : List Loc) (ls : Array Slot), GW g A ad L S H → va_S A s.heap H locs → lv_has ls 11 [(0, .ref (ad 200)), (1, .int v1), (2, .int v2), (3, .int v3), (4, .int v4), (5, .int u5)] → W p l e (rmk 2) s m args below meth c H locs 0 0 (MQ below (qz g A ad L r S9) args s 0 0 A) (F0 m 52 ls [])) (hk : ∀ (S : St), k S = some (r, S9) → ∀ (H : Heap) (locs : List Loc) (ls : Array Slot), GW g A ad L S H → va_S A s.heap H locs → lv_has ls 11 [(0, .ref (ad 200)), (1, .int v1), (2, .int v2), (3, .int v3), (4, .int v4)] → W p l e (rmk 2) s m args below meth c H locs 0 0 (MQ below (qz g A ad L r S9) args s 0 0 A) (F0 m 374 ls [])) (h : f_X11_fill_j159 N kb k S v1 v2 v3 v4 v5 v6 v7 v8 v9 = some (r, S9)) {H : Heap} {locs : List Loc} {ls : Array Slot} (hW : GW g A ad L S H) (hS : va_S A s.heap H locs) (hl : lv_has ls 11 [(0, .ref (ad 200)), (1, .int v1), (2, .int v2), (3, .int v3), (4, .int v4), (5, .int v5), (6, .int v6), (7, .int v7), (8, .int v8), (9, .int v9)]) : W p l e (rmk 2) s m args below meth c H locs 0 0 (MQ below (qz g A ad L r S9) args s 0 0 A) (F0 m 159 ls []) := by
  obtain ⟨hx, hb, hml, hown, hts, hr, hlocks, hK, hN, hT⟩ := id C
  unfold f_X11_fill_j159 at h
  refine lv_aload_n hx hb dX11_fill_159 rfl (lv_at hl 0 rfl) ?_
  refine g_get (C := RX11) (T := TX11) (N := 67) (ci := 11) hx hb hts inX11 hown hK hW (hB 200 bb_200) kd_200 rfl 51 (by decide) mw_1012 rfl rfl dX11_fill_160 ?_
  refine lv_iload hx hb dX11_fill_163 (lv_at hl 6 rfl) ?_
  refine lv_iload hx hb dX11_fill_165 (lv_at hl 9 rfl) ?_
  refine lv_if_eq (tgt := 178) hx hb dX11_fill_167 (by decide) (fun c_55 => ?_) (fun c_55 => ?_)
  · have h := it_t c_55 h
    refine lv_iconst (v := 1) hx hb dX11_fill_178 (by decide) ?_
    refine lv_iload hx hb dX11_fill_179 (lv_at hl 7 rfl) ?_
    refine lv_iconst (v := 5) hx hb dX11_fill_181 (by decide) ?_
    refine lv_idiv hx hb dX11_fill_182 (by decide) ?_
    refine lv_isub hx hb dX11_fill_183 ?_
    refine lv_aload_n hx hb dX11_fill_184 rfl (lv_at hl 0 rfl) ?_
    refine g_get (C := RX11) (T := TX11) (N := 67) (ci := 11) hx hb hts inX11 hown hK hW (hB 200 bb_200) kd_200 rfl 51 (by decide) mw_1012 rfl rfl dX11_fill_185 ?_
    refine lv_iload hx hb dX11_fill_188 (lv_at hl 8 rfl) ?_
    obtain ⟨hi_56, h⟩ := ck_n h
    refine g_iald hx hb hK hW (hB 252 bb_252) kd_252 hi_56 dX11_fill_190 ?_
    refine lv_iadd hx hb dX11_fill_191 ?_
    exact t_X11_fill_j192 C hB hkb hk h hW hS (lv_sub hl [0, 1, 2, 3, 4, 5, 6, 8, 9] rfl)
  · have h := it_f c_55 h
    refine lv_iload hx hb dX11_fill_170 (lv_at hl 7 rfl) ?_
    refine lv_iconst (v := 5) hx hb dX11_fill_172 (by decide) ?_
    refine lv_idiv hx hb dX11_fill_173 (by decide) ?_
    refine lv_ineg hx hb dX11_fill_174 ?_
    refine lv_goto (tgt := 192) hx hb dX11_fill_175 (by decide) ?_
    exact t_X11_fill_j192 C hB hkb hk h hW hS (lv_sub hl [0, 1, 2, 3, 4, 5, 6, 8, 9] rfl)
def f_X11_fill_j139 (N : Nat) (kb : St → Int32 → Option (Int32 × St)) (k : St → Option (Int32 × St)) (S : St) (v1 : Int32) (v2 : Int32) (v3 : Int32) (v4 : Int32) (v5 : Int32) (v6 : Int32) (v7 : Int32) (v8 : Int32) (w100 : Int32) : Option (Int32 × St) := if w100 = 0 then (if v8 < 0 ∨ 244000 ≤ ix v8 then none else if (gv S 252 (ix v8)) = (-100000) then (f_X11_fill_j226 N (kb) k S v1 v2 v3 v4 v5 v6) else (f_X11_fill_j159 N (kb) k S v1 v2 v3 v4 v5 v6 v7 v8 w100)) else (f_X11_fill_j159 N (kb) k S v1 v2 v3 v4 v5 v6 v7 v8 w100)
set_option maxHeartbeats 4000000 in
theorem t_X11_fill_j139 (C : MC p s m args meth c cX11_fill 11 (some .boolean) RX11 g A) (hB : Lk L) {S : St} {r : Int32} {S9 : St} {v1 : Int32} {v2 : Int32} {v3 : Int32} {v4 : Int32} {v5 : Int32} {v6 : Int32} {v7 : Int32} {v8 : Int32} {w100 : Int32} {kb : St → Int32 → Option (Int32 × St)} {k : St → Option (Int32 × St)} (hkb : ∀ (S : St) (u5 : Int32), kb S u5 = some (r, S9) → ∀ (H : Heap) (locs : List Loc) (ls : Array Slot), GW g A ad L S H → va_S A s.heap H locs → lv_has ls 11 [(0, .ref (ad 200)), (1, .int v1), (2, .int v2), (3, .int v3), (4, .int v4), (5, .int u5)] → W p l e (rmk 2) s m args below meth c H locs 0 0 (MQ below (qz g A ad L r S9) args s 0 0 A) (F0 m 52 ls [])) (hk : ∀ (S : St), k S = some (r, S9) → ∀ (H : Heap) (locs : List Loc) (ls : Array Slot), GW g A ad L S H → va_S A s.heap H locs → lv_has ls 11 [(0, .ref (ad 200)), (1, .int v1), (2, .int v2), (3, .int v3), (4, .int v4)] → W p l e (rmk 2) s m args below meth c H locs 0 0 (MQ below (qz g A ad L r S9) args s 0 0 A) (F0 m 374 ls [])) (h : f_X11_fill_j139 N kb k S v1 v2 v3 v4 v5 v6 v7 v8 w100 = some (r, S9)) {H : Heap} {locs : List Loc} {ls : Array Slot} (hW : GW g A ad L S H) (hS : va_S A s.heap H locs) (hl : lv_has ls 11 [(0, .ref (ad 200)), (1, .int v1), (2, .int v2), (3, .int v3), (4, .int v4), (5, .int v5), (6, .int v6), (7, .int v7), (8, .int v8)]) : W p l e (rmk 2) s m args below meth c H locs 0 0 (MQ below (qz g A ad L r S9) args s 0 0 A) (F0 m 139 ls [.int w100]) := by
  obtain ⟨hx, hb, hml, hown, hts, hr, hlocks, hK, hN, hT⟩ := id C
  unfold f_X11_fill_j139 at h
  refine lv_istore (lv' := [(9, .int w100), (0, .ref (ad 200)), (1, .int v1), (2, .int v2), (3, .int v3), (4, .int v4), (5, .int v5), (6, .int v6), (7, .int v7), (8, .int v8)]) hx hb dX11_fill_139 hl (by decide) rfl (fun ls hl => ?_)
  refine lv_iload hx hb dX11_fill_141 (lv_at hl 0 rfl) ?_
  refine lv_if_ne (tgt := 159) hx hb dX11_fill_143 (by decide) (fun c_54 => ?_) (fun c_54 => ?_)
  · have h := it_f c_54 h
    exact t_X11_fill_j159 C hB hkb hk h hW hS (lv_sub hl [1, 2, 3, 4, 5, 6, 7, 8, 9, 0] rfl)
  · have h := it_t c_54 h
    refine lv_aload_n hx hb dX11_fill_146 rfl (lv_at hl 1 rfl) ?_
    refine g_get (C := RX11) (T := TX11) (N := 67) (ci := 11) hx hb hts inX11 hown hK hW (hB 200 bb_200) kd_200 rfl 51 (by decide) mw_1012 rfl rfl dX11_fill_147 ?_
    refine lv_iload hx hb dX11_fill_150 (lv_at hl 9 rfl) ?_
    obtain ⟨hi_65, h⟩ := ck_n h
    refine g_iald hx hb hK hW (hB 252 bb_252) kd_252 hi_65 dX11_fill_152 ?_
    refine lv_ldcw (v := (-100000)) hx hb hown (hts _ mw_1371) dX11_fill_153 ?_
    refine lv_icmp_eq (tgt := 226) hx hb dX11_fill_156 (by decide) (fun c_66 => ?_) (fun c_66 => ?_)
    · have h := it_t c_66 h
      exact t_X11_fill_j226 C hB hkb hk h hW hS (lv_sub hl [1, 2, 3, 4, 5, 6, 7] rfl)
    · have h := it_f c_66 h
      exact t_X11_fill_j159 C hB hkb hk h hW hS (lv_sub hl [1, 2, 3, 4, 5, 6, 7, 8, 9, 0] rfl)
def f_X11_fill_l52 (N : Nat) (v1 : Int32) (v2 : Int32) (v3 : Int32) (v4 : Int32) (k : St → Option (Int32 × St)) : Nat → St → Int32 → Option (Int32 × St)
  | 0, _, _ => none
  | n + 1, S, v5 => if 400 ≤ v5 then (k S) else (cl0 (f_X11_cell S v3 v4 v5) fun r_15 => if r_15 < 0 ∨ 244000 ≤ ix r_15 then none else bn (sv S 252 (ix r_15) (-100000)) fun S_17 => if v3 = 0 then (bn (v5 + 1) fun x_67 => f_X11_fill_l52 N v1 v2 v3 v4 k n S_17 x_67) else (if v4 < 0 ∨ 10 ≤ ix v4 then none else bn (gv S_17 203 (ix v4)) fun x_20 => if 60 < (v5 + x_20) then (f_X11_fill_j226 N (f_X11_fill_l52 N v1 v2 v3 v4 k n) k S_17 v1 v2 v3 v4 v5 r_15) else (cl0 (f_X11_cell S_17 (v3 - 1) (v4 + 1) (v5 + x_20)) fun r_50 => cl0 (f_X11_fair S_17) fun r_52 => if (v4 + 1) = r_52 then (f_X11_fill_j139 N (f_X11_fill_l52 N v1 v2 v3 v4 k n) k S_17 v1 v2 v3 v4 v5 r_15 x_20 r_50 1) else (f_X11_fill_j139 N (f_X11_fill_l52 N v1 v2 v3 v4 k n) k S_17 v1 v2 v3 v4 v5 r_15 x_20 r_50 0))))
set_option maxHeartbeats 4000000 in
theorem t_X11_fill_l52 (C : MC p s m args meth c cX11_fill 11 (some .boolean) RX11 g A) (hB : Lk L) {v1 : Int32} {v2 : Int32} {v3 : Int32} {v4 : Int32} {r : Int32} {S9 : St} {k : St → Option (Int32 × St)} (hk : ∀ (S : St), k S = some (r, S9) → ∀ (H : Heap) (locs : List Loc) (ls : Array Slot), GW g A ad L S H → va_S A s.heap H locs → lv_has ls 11 [(0, .ref (ad 200)), (1, .int v1), (2, .int v2), (3, .int v3), (4, .int v4)] → W p l e (rmk 2) s m args below meth c H locs 0 0 (MQ below (qz g A ad L r S9) args s 0 0 A) (F0 m 374 ls [])) : ∀ (n : Nat) (S : St) (v5 : Int32), f_X11_fill_l52 N v1 v2 v3 v4 k n S v5 = some (r, S9) → ∀ (H : Heap) (locs : List Loc) (ls : Array Slot), GW g A ad L S H → va_S A s.heap H locs → lv_has ls 11 [(0, .ref (ad 200)), (1, .int v1), (2, .int v2), (3, .int v3), (4, .int v4), (5, .int v5)] → W p l e (rmk 2) s m args below meth c H locs 0 0 (MQ below (qz g A ad L r S9) args s 0 0 A) (F0 m 52 ls []) := by
  obtain ⟨hx, hb, hml, hown, hts, hr, hlocks, hK, hN, hT⟩ := id C
  intro n
  induction n with
  | zero =>
    intro S v5 h
    have h : (none : Option (Int32 × St)) = some (r, S9) := h
    cases h
  | succ n ih =>
    intro S v5 h H locs ls hW hS hl
    rw [f_X11_fill_l52] at h
    refine lv_iload hx hb dX11_fill_52 (lv_at hl 5 rfl) ?_
    refine lv_sipush (v := 400) hx hb dX11_fill_54 (by decide) ?_
    refine lv_icmp_ge (tgt := 374) hx hb dX11_fill_57 (by decide) (fun c_13 => ?_) (fun c_13 => ?_)
    · have h := it_t c_13 h
      exact hk _ h _ _ _ hW hS (lv_sub hl [0, 1, 2, 3, 4] rfl)
    · have h := it_f c_13 h
      refine lv_iload_n hx hb dX11_fill_60 rfl (lv_at hl 3 rfl) ?_
      refine lv_iload hx hb dX11_fill_61 (lv_at hl 4 rfl) ?_
      refine lv_iload hx hb dX11_fill_63 (lv_at hl 5 rfl) ?_
      obtain ⟨r_15, hc_14, h⟩ := cl0_ex h
      refine g_ci (g_runS (As := [.int v3, .int v4, .int v5]) (rest := []) hx hb hml hown hts hK hN hT hS hW (c_X11_cell hB hc_14) (gw_S mw_1368 mw_1369 mw_73 mw_1370) hs_X11_cell rfl rfl rfl (rm_ok (by decide) (by decide)) hl.1 (Nat.le_of_ble_eq_true rfl) dX11_fill_65 rfl ⟨Nat.zero_le _, Nat.zero_le _⟩) hS (fun H locs hW hS => ?_)
      refine lv_istore (lv' := [(6, .int r_15), (0, .ref (ad 200)), (1, .int v1), (2, .int v2), (3, .int v3), (4, .int v4), (5, .int v5)]) hx hb dX11_fill_68 hl (by decide) rfl (fun ls hl => ?_)
      refine lv_aload_n hx hb dX11_fill_70 rfl (lv_at hl 1 rfl) ?_
      refine g_get (C := RX11) (T := TX11) (N := 67) (ci := 11) hx hb hts inX11 hown hK hW (hB 200 bb_200) kd_200 rfl 51 (by decide) mw_1012 rfl rfl dX11_fill_71 ?_
      refine lv_iload hx hb dX11_fill_74 (lv_at hl 0 rfl) ?_
      refine lv_ldcw (v := (-100000)) hx hb hown (hts _ mw_1371) dX11_fill_76 ?_
      obtain ⟨hi_16, h⟩ := ck_n h
      refine g_iast hx hb hK hW hS (hB 252 bb_252) (fun _ => kd_252) hi_16 dX11_fill_79 (fun S_17 eS_17 H locs hW hS => ?_)
      have h := bn_at eS_17 h
      refine lv_iload_n hx hb dX11_fill_80 rfl (lv_at hl 4 rfl) ?_
      refine lv_if_ne (tgt := 87) hx hb dX11_fill_81 (by decide) (fun c_18 => ?_) (fun c_18 => ?_)
      · have h := it_f c_18 h
        refine lv_aload_n hx hb dX11_fill_87 rfl (lv_at hl 1 rfl) ?_
        refine g_get (C := RX11) (T := TX11) (N := 67) (ci := 11) hx hb hts inX11 hown hK hW (hB 200 bb_200) kd_200 rfl 2 (by decide) mw_963 rfl rfl dX11_fill_88 ?_
        refine lv_iload hx hb dX11_fill_91 (lv_at hl 5 rfl) ?_
        obtain ⟨hi_19, h⟩ := ck_n h
        refine g_iald hx hb hK hW (hB 203 bb_203) kd_203 hi_19 dX11_fill_93 ?_
        refine lv_topi (fun x_20 ex_20 => ?_)
        have h := bn_at ex_20 h
        refine lv_istore (lv' := [(7, .int x_20), (6, .int r_15), (0, .ref (ad 200)), (1, .int v1), (2, .int v2), (3, .int v3), (4, .int v4), (5, .int v5)]) hx hb dX11_fill_94 hl (by decide) rfl (fun ls hl => ?_)
        refine lv_iload hx hb dX11_fill_96 (lv_at hl 7 rfl) ?_
        refine lv_iload hx hb dX11_fill_98 (lv_at hl 0 rfl) ?_
        refine lv_iadd hx hb dX11_fill_100 ?_
        refine lv_bipush (v := 60) hx hb dX11_fill_101 (by decide) ?_
        refine lv_icmp_gt (tgt := 226) hx hb dX11_fill_103 (by decide) (fun c_21 => ?_) (fun c_21 => ?_)
        · have h := it_t c_21 h
          exact t_X11_fill_j226 C hB ih hk h hW hS (lv_sub hl [2, 3, 4, 5, 6, 7, 1] rfl)
        · have h := it_f c_21 h
          refine lv_iload_n hx hb dX11_fill_106 rfl (lv_at hl 5 rfl) ?_
          refine lv_iconst (v := 1) hx hb dX11_fill_107 (by decide) ?_
          refine lv_isub hx hb dX11_fill_108 ?_
          refine lv_iload hx hb dX11_fill_109 (lv_at hl 6 rfl) ?_
          refine lv_iconst (v := 1) hx hb dX11_fill_111 (by decide) ?_
          refine lv_iadd hx hb dX11_fill_112 ?_
          refine lv_iload hx hb dX11_fill_113 (lv_at hl 7 rfl) ?_
          refine lv_iload hx hb dX11_fill_115 (lv_at hl 0 rfl) ?_
          refine lv_iadd hx hb dX11_fill_117 ?_
          obtain ⟨r_50, hc_49, h⟩ := cl0_ex h
          refine g_ci (g_runS (As := [.int (v3 - 1), .int (v4 + 1), .int (v5 + x_20)]) (rest := []) hx hb hml hown hts hK hN hT hS hW (c_X11_cell hB hc_49) (gw_S mw_1368 mw_1369 mw_73 mw_1370) hs_X11_cell rfl rfl rfl (rm_ok (by decide) (by decide)) hl.1 (Nat.le_of_ble_eq_true rfl) dX11_fill_118 rfl ⟨Nat.zero_le _, Nat.zero_le _⟩) hS (fun H locs hW hS => ?_)
          refine lv_istore (lv' := [(8, .int r_50), (7, .int x_20), (6, .int r_15), (0, .ref (ad 200)), (1, .int v1), (2, .int v2), (3, .int v3), (4, .int v4), (5, .int v5)]) hx hb dX11_fill_121 hl (by decide) rfl (fun ls hl => ?_)
          refine lv_iload hx hb dX11_fill_123 (lv_at hl 7 rfl) ?_
          refine lv_iconst (v := 1) hx hb dX11_fill_125 (by decide) ?_
          refine lv_iadd hx hb dX11_fill_126 ?_
          refine lv_aload_n hx hb dX11_fill_127 rfl (lv_at hl 3 rfl) ?_
          obtain ⟨r_52, hc_51, h⟩ := cl0_ex h
          refine g_ci (g_runV (ci := 11) (o := 200) (As := []) (rest := [.int (v4 + 1)]) hx hb hml hown hts hK hN hT hS hW (c_X11_fair hB hc_51) (hB 200 bb_200) kd_200 rfl (gw_V mw_1183 mw_1185 mw_36 mw_73 mw_1186) hv_X11_fair rfl rfl rfl (rm_ok (by decide) (by decide)) hl.1 (Nat.le_of_ble_eq_true rfl) dX11_fill_128 rfl ⟨Nat.zero_le _, Nat.zero_le _⟩) hS (fun H locs hW hS => ?_)
          refine lv_icmp_ne (tgt := 138) hx hb dX11_fill_131 (by decide) (fun c_53 => ?_) (fun c_53 => ?_)
          · have h := it_f c_53 h
            refine lv_iconst (v := 0) hx hb dX11_fill_138 (by decide) ?_
            exact t_X11_fill_j139 C hB ih hk h hW hS (lv_sub hl [3, 4, 5, 6, 7, 8, 2, 1, 0] rfl)
          · have h := it_t c_53 h
            refine lv_iconst (v := 1) hx hb dX11_fill_134 (by decide) ?_
            refine lv_goto (tgt := 139) hx hb dX11_fill_135 (by decide) ?_
            exact t_X11_fill_j139 C hB ih hk h hW hS (lv_sub hl [3, 4, 5, 6, 7, 8, 2, 1, 0] rfl)
      · have h := it_t c_18 h
        refine lv_goto (tgt := 368) hx hb dX11_fill_84 (by decide) ?_
        obtain ⟨x_67, ex_67⟩ : ∃ z : Int32, z = v5 + 1 := ⟨_, rfl⟩
        have h := bn_at ex_67 h
        refine lv_iinc (v := x_67) (lv' := [(5, .int x_67), (6, .int r_15), (0, .ref (ad 200)), (1, .int v1), (2, .int v2), (3, .int v3), (4, .int v4)]) hx hb dX11_fill_368 hl (k := 6) rfl (by rw [ex_67]; rfl) (by decide) rfl (fun ls hl => ?_)
        refine lv_goto (tgt := 52) hx hb dX11_fill_371 (by decide) ?_
        exact ih _ _ h _ _ _ hW hS (lv_sub hl [2, 3, 4, 5, 6, 0] rfl)
def f_X11_fill_l40 (N : Nat) (v1 : Int32) (v2 : Int32) (v3 : Int32) (k : St → Option (Int32 × St)) : Nat → St → Int32 → Option (Int32 × St)
  | 0, _, _ => none
  | n + 1, S, v4 => cl0 (f_X11_fair S) fun r_11 => if r_11 ≤ v4 then (k S) else (f_X11_fill_l52 N v1 v2 v3 v4 (fun S_68 => bn (v4 + 1) fun x_69 => f_X11_fill_l40 N v1 v2 v3 k n S_68 x_69) N S 0)
set_option maxHeartbeats 4000000 in
theorem t_X11_fill_l40 (C : MC p s m args meth c cX11_fill 11 (some .boolean) RX11 g A) (hB : Lk L) {v1 : Int32} {v2 : Int32} {v3 : Int32} {r : Int32} {S9 : St} {k : St → Option (Int32 × St)} (hk : ∀ (S : St), k S = some (r, S9) → ∀ (H : Heap) (locs : List Loc) (ls : Array Slot), GW g A ad L S H → va_S A s.heap H locs → lv_has ls 11 [(0, .ref (ad 200)), (1, .int v1), (2, .int v2), (3, .int v3)] → W p l e (rmk 2) s m args below meth c H locs 0 0 (MQ below (qz g A ad L r S9) args s 0 0 A) (F0 m 380 ls [])) : ∀ (n : Nat) (S : St) (v4 : Int32), f_X11_fill_l40 N v1 v2 v3 k n S v4 = some (r, S9) → ∀ (H : Heap) (locs : List Loc) (ls : Array Slot), GW g A ad L S H → va_S A s.heap H locs → lv_has ls 11 [(0, .ref (ad 200)), (1, .int v1), (2, .int v2), (3, .int v3), (4, .int v4)] → W p l e (rmk 2) s m args below meth c H locs 0 0 (MQ below (qz g A ad L r S9) args s 0 0 A) (F0 m 40 ls []) := by
  obtain ⟨hx, hb, hml, hown, hts, hr, hlocks, hK, hN, hT⟩ := id C
  intro n
  induction n with
  | zero =>
    intro S v4 h
    have h : (none : Option (Int32 × St)) = some (r, S9) := h
    cases h
  | succ n ih =>
    intro S v4 h H locs ls hW hS hl
    rw [f_X11_fill_l40] at h
    refine lv_iload hx hb dX11_fill_40 (lv_at hl 4 rfl) ?_
    refine lv_aload_n hx hb dX11_fill_42 rfl (lv_at hl 0 rfl) ?_
    obtain ⟨r_11, hc_10, h⟩ := cl0_ex h
    refine g_ci (g_runV (ci := 11) (o := 200) (As := []) (rest := [.int v4]) hx hb hml hown hts hK hN hT hS hW (c_X11_fair hB hc_10) (hB 200 bb_200) kd_200 rfl (gw_V mw_1183 mw_1185 mw_36 mw_73 mw_1186) hv_X11_fair rfl rfl rfl (rm_ok (by decide) (by decide)) hl.1 (Nat.le_of_ble_eq_true rfl) dX11_fill_43 rfl ⟨Nat.zero_le _, Nat.zero_le _⟩) hS (fun H locs hW hS => ?_)
    refine lv_icmp_ge (tgt := 380) hx hb dX11_fill_46 (by decide) (fun c_12 => ?_) (fun c_12 => ?_)
    · have h := it_t c_12 h
      exact hk _ h _ _ _ hW hS (lv_sub hl [0, 1, 2, 3] rfl)
    · have h := it_f c_12 h
      refine lv_iconst (v := 0) hx hb dX11_fill_49 (by decide) ?_
      refine lv_istore (lv' := [(5, .int 0), (0, .ref (ad 200)), (1, .int v1), (2, .int v2), (3, .int v3), (4, .int v4)]) hx hb dX11_fill_50 hl (by decide) rfl (fun ls hl => ?_)
      refine t_X11_fill_l52 C hB ?_ _ _ _ h _ _ _ hW hS (lv_sub hl [1, 2, 3, 4, 5, 0] rfl)
      intro S_68 h H locs ls hW hS hl
      obtain ⟨x_69, ex_69⟩ : ∃ z : Int32, z = v4 + 1 := ⟨_, rfl⟩
      have h := bn_at ex_69 h
      refine lv_iinc (v := x_69) (lv' := [(4, .int x_69), (0, .ref (ad 200)), (1, .int v1), (2, .int v2), (3, .int v3)]) hx hb dX11_fill_374 hl (k := 4) rfl (by rw [ex_69]; rfl) (by decide) rfl (fun ls hl => ?_)
      refine lv_goto (tgt := 40) hx hb dX11_fill_377 (by decide) ?_
      exact ih _ _ h _ _ _ hW hS (lv_sub hl [1, 2, 3, 4, 0] rfl)
def f_X11_fill_l32 (N : Nat) (v1 : Int32) (v2 : Int32) (k : St → Option (Int32 × St)) : Nat → St → Int32 → Option (Int32 × St)
  | 0, _, _ => none
  | n + 1, S, v3 => if v2 < v3 then (k S) else (f_X11_fill_l40 N v1 v2 v3 (fun S_70 => bn (v3 + 1) fun x_71 => f_X11_fill_l32 N v1 v2 k n S_70 x_71) N S 0)
set_option maxHeartbeats 4000000 in
theorem t_X11_fill_l32 (C : MC p s m args meth c cX11_fill 11 (some .boolean) RX11 g A) (hB : Lk L) {v1 : Int32} {v2 : Int32} {r : Int32} {S9 : St} {k : St → Option (Int32 × St)} (hk : ∀ (S : St), k S = some (r, S9) → ∀ (H : Heap) (locs : List Loc) (ls : Array Slot), GW g A ad L S H → va_S A s.heap H locs → lv_has ls 11 [(0, .ref (ad 200)), (1, .int v1), (2, .int v2)] → W p l e (rmk 2) s m args below meth c H locs 0 0 (MQ below (qz g A ad L r S9) args s 0 0 A) (F0 m 386 ls [])) : ∀ (n : Nat) (S : St) (v3 : Int32), f_X11_fill_l32 N v1 v2 k n S v3 = some (r, S9) → ∀ (H : Heap) (locs : List Loc) (ls : Array Slot), GW g A ad L S H → va_S A s.heap H locs → lv_has ls 11 [(0, .ref (ad 200)), (1, .int v1), (2, .int v2), (3, .int v3)] → W p l e (rmk 2) s m args below meth c H locs 0 0 (MQ below (qz g A ad L r S9) args s 0 0 A) (F0 m 32 ls []) := by
  obtain ⟨hx, hb, hml, hown, hts, hr, hlocks, hK, hN, hT⟩ := id C
  intro n
  induction n with
  | zero =>
    intro S v3 h
    have h : (none : Option (Int32 × St)) = some (r, S9) := h
    cases h
  | succ n ih =>
    intro S v3 h H locs ls hW hS hl
    rw [f_X11_fill_l32] at h
    refine lv_iload_n hx hb dX11_fill_32 rfl (lv_at hl 3 rfl) ?_
    refine lv_iload_n hx hb dX11_fill_33 rfl (lv_at hl 2 rfl) ?_
    refine lv_icmp_gt (tgt := 386) hx hb dX11_fill_34 (by decide) (fun c_9 => ?_) (fun c_9 => ?_)
    · have h := it_t c_9 h
      exact hk _ h _ _ _ hW hS (lv_sub hl [0, 1, 2] rfl)
    · have h := it_f c_9 h
      refine lv_iconst (v := 0) hx hb dX11_fill_37 (by decide) ?_
      refine lv_istore (lv' := [(4, .int 0), (0, .ref (ad 200)), (1, .int v1), (2, .int v2), (3, .int v3)]) hx hb dX11_fill_38 hl (by decide) rfl (fun ls hl => ?_)
      refine t_X11_fill_l40 C hB ?_ _ _ _ h _ _ _ hW hS (lv_sub hl [1, 2, 3, 4, 0] rfl)
      intro S_70 h H locs ls hW hS hl
      obtain ⟨x_71, ex_71⟩ : ∃ z : Int32, z = v3 + 1 := ⟨_, rfl⟩
      have h := bn_at ex_71 h
      refine lv_iinc (v := x_71) (lv' := [(3, .int x_71), (0, .ref (ad 200)), (1, .int v1), (2, .int v2)]) hx hb dX11_fill_380 hl (k := 3) rfl (by rw [ex_71]; rfl) (by decide) rfl (fun ls hl => ?_)
      refine lv_goto (tgt := 32) hx hb dX11_fill_383 (by decide) ?_
      exact ih _ _ h _ _ _ hW hS (lv_sub hl [1, 2, 3, 0] rfl)
def f_X11_fill (N : Nat) (S : St) (p1 : Int32) (p2 : Int32) : Option (Int32 × St) := cl0 (f_X11_isHerd S p1) fun r_2 => if r_2 = 0 then (some (0, S)) else (if p2 < 1 then (some (0, S)) else (if 60 < p2 then (some (0, S)) else (if p1 < 0 ∨ 6 ≤ ix p1 then none else if (gv S 212 (ix p1)) = 0 then (some (0, S)) else (f_X11_fill_l32 N p1 p2 (fun S_72 => if p1 < 0 ∨ 6 ≤ ix p1 then none else if p1 < 0 ∨ 6 ≤ ix p1 then none else cl0 (f_X11_cell S_72 p2 (gv S_72 217 (ix p1)) (gv S_72 216 (ix p1))) fun r_76 => if r_76 < 0 ∨ 244000 ≤ ix r_76 then none else if (gv S_72 252 (ix r_76)) = (-100000) then (some (0, S_72)) else (some (1, S_72))) N S 0))))
set_option maxHeartbeats 4000000 in
theorem t_X11_fill (C : MC p s m args meth c cX11_fill 11 (some .boolean) RX11 g A) (hB : Lk L) {S : St} {r : Int32} {S9 : St} {p1 : Int32} {p2 : Int32} (h : f_X11_fill N S p1 p2 = some (r, S9)) {H : Heap} {locs : List Loc} {ls : Array Slot} (hW : GW g A ad L S H) (hS : va_S A s.heap H locs) (hl : lv_has ls 11 [(0, .ref (ad 200)), (1, .int p1), (2, .int p2)]) : W p l e (rmk 2) s m args below meth c H locs 0 0 (MQ below (qz g A ad L r S9) args s 0 0 A) (F0 m 0 ls []) := by
  obtain ⟨hx, hb, hml, hown, hts, hr, hlocks, hK, hN, hT⟩ := id C
  unfold f_X11_fill at h
  refine lv_aload_n hx hb dX11_fill_0 rfl (lv_at hl 0 rfl) ?_
  refine lv_iload_n hx hb dX11_fill_1 rfl (lv_at hl 1 rfl) ?_
  obtain ⟨r_2, hc_1, h⟩ := cl0_ex h
  refine g_cz (g_runV (ci := 11) (o := 200) (As := [.int p1]) (rest := []) hx hb hml hown hts hK hN hT hS hW (c_X11_isHerd hB hc_1) (hB 200 bb_200) kd_200 rfl (gw_V mw_1212 mw_1214 mw_39 mw_73 mw_1215) hv_X11_isHerd rfl rfl rfl (rm_ok (by decide) (by decide)) hl.1 (Nat.le_of_ble_eq_true rfl) dX11_fill_2 rfl ⟨Nat.zero_le _, Nat.zero_le _⟩) hS (fun hz_3 H locs hW hS => ?_)
  refine lv_if_eq (tgt := 28) hx hb dX11_fill_5 (by decide) (fun c_4 => ?_) (fun c_4 => ?_)
  · have h := it_t c_4 h
    refine lv_iconst (v := 0) hx hb dX11_fill_28 (by decide) ?_
    cases h
    exact g_zret hx hb hr hlocks hW hS (rfl) dX11_fill_29
  · have h := it_f c_4 h
    refine lv_iload_n hx hb dX11_fill_8 rfl (lv_at hl 2 rfl) ?_
    refine lv_iconst (v := 1) hx hb dX11_fill_9 (by decide) ?_
    refine lv_icmp_lt (tgt := 28) hx hb dX11_fill_10 (by decide) (fun c_5 => ?_) (fun c_5 => ?_)
    · have h := it_t c_5 h
      refine lv_iconst (v := 0) hx hb dX11_fill_28 (by decide) ?_
      cases h
      exact g_zret hx hb hr hlocks hW hS (rfl) dX11_fill_29
    · have h := it_f c_5 h
      refine lv_iload_n hx hb dX11_fill_13 rfl (lv_at hl 2 rfl) ?_
      refine lv_bipush (v := 60) hx hb dX11_fill_14 (by decide) ?_
      refine lv_icmp_gt (tgt := 28) hx hb dX11_fill_16 (by decide) (fun c_6 => ?_) (fun c_6 => ?_)
      · have h := it_t c_6 h
        refine lv_iconst (v := 0) hx hb dX11_fill_28 (by decide) ?_
        cases h
        exact g_zret hx hb hr hlocks hW hS (rfl) dX11_fill_29
      · have h := it_f c_6 h
        refine lv_aload_n hx hb dX11_fill_19 rfl (lv_at hl 0 rfl) ?_
        refine g_get (C := RX11) (T := TX11) (N := 67) (ci := 11) hx hb hts inX11 hown hK hW (hB 200 bb_200) kd_200 rfl 11 (by decide) mw_972 rfl rfl dX11_fill_20 ?_
        refine lv_iload_n hx hb dX11_fill_23 rfl (lv_at hl 1 rfl) ?_
        obtain ⟨hi_7, h⟩ := ck_n h
        refine g_iald hx hb hK hW (hB 212 bb_212) kd_212 hi_7 dX11_fill_24 ?_
        refine lv_if_ne (tgt := 30) hx hb dX11_fill_25 (by decide) (fun c_8 => ?_) (fun c_8 => ?_)
        · have h := it_f c_8 h
          refine lv_iconst (v := 0) hx hb dX11_fill_30 (by decide) ?_
          refine lv_istore_n (lv' := [(3, .int 0), (0, .ref (ad 200)), (1, .int p1), (2, .int p2)]) hx hb dX11_fill_31 rfl hl (by decide) rfl (fun ls hl => ?_)
          refine t_X11_fill_l32 C hB ?_ _ _ _ h _ _ _ hW hS (lv_sub hl [1, 2, 3, 0] rfl)
          intro S_72 h H locs ls hW hS hl
          refine lv_aload_n hx hb dX11_fill_386 rfl (lv_at hl 0 rfl) ?_
          refine g_get (C := RX11) (T := TX11) (N := 67) (ci := 11) hx hb hts inX11 hown hK hW (hB 200 bb_200) kd_200 rfl 51 (by decide) mw_1012 rfl rfl dX11_fill_387 ?_
          refine lv_iload_n hx hb dX11_fill_390 rfl (lv_at hl 2 rfl) ?_
          refine lv_aload_n hx hb dX11_fill_391 rfl (lv_at hl 0 rfl) ?_
          refine g_get (C := RX11) (T := TX11) (N := 67) (ci := 11) hx hb hts inX11 hown hK hW (hB 200 bb_200) kd_200 rfl 16 (by decide) mw_977 rfl rfl dX11_fill_392 ?_
          refine lv_iload_n hx hb dX11_fill_395 rfl (lv_at hl 1 rfl) ?_
          obtain ⟨hi_73, h⟩ := ck_n h
          refine g_iald hx hb hK hW (hB 217 bb_217) kd_217 hi_73 dX11_fill_396 ?_
          refine lv_aload_n hx hb dX11_fill_397 rfl (lv_at hl 0 rfl) ?_
          refine g_get (C := RX11) (T := TX11) (N := 67) (ci := 11) hx hb hts inX11 hown hK hW (hB 200 bb_200) kd_200 rfl 15 (by decide) mw_976 rfl rfl dX11_fill_398 ?_
          refine lv_iload_n hx hb dX11_fill_401 rfl (lv_at hl 1 rfl) ?_
          obtain ⟨hi_74, h⟩ := ck_n h
          refine g_iald hx hb hK hW (hB 216 bb_216) kd_216 hi_74 dX11_fill_402 ?_
          obtain ⟨r_76, hc_75, h⟩ := cl0_ex h
          refine g_ci (g_runS (As := [.int p2, .int (gv S_72 217 (ix p1)), .int (gv S_72 216 (ix p1))]) (rest := [.ref (ad 252)]) hx hb hml hown hts hK hN hT hS hW (c_X11_cell hB hc_75) (gw_S mw_1368 mw_1369 mw_73 mw_1370) hs_X11_cell rfl rfl rfl (rm_ok (by decide) (by decide)) hl.1 (Nat.le_of_ble_eq_true rfl) dX11_fill_403 rfl ⟨Nat.zero_le _, Nat.zero_le _⟩) hS (fun H locs hW hS => ?_)
          obtain ⟨hi_77, h⟩ := ck_n h
          refine g_iald hx hb hK hW (hB 252 bb_252) kd_252 hi_77 dX11_fill_406 ?_
          refine lv_ldcw (v := (-100000)) hx hb hown (hts _ mw_1371) dX11_fill_407 ?_
          refine lv_icmp_eq (tgt := 417) hx hb dX11_fill_410 (by decide) (fun c_78 => ?_) (fun c_78 => ?_)
          · have h := it_t c_78 h
            refine lv_iconst (v := 0) hx hb dX11_fill_417 (by decide) ?_
            cases h
            exact g_zret hx hb hr hlocks hW hS (rfl) dX11_fill_418
          · have h := it_f c_78 h
            refine lv_iconst (v := 1) hx hb dX11_fill_413 (by decide) ?_
            refine lv_goto (tgt := 418) hx hb dX11_fill_414 (by decide) ?_
            cases h
            exact g_zret hx hb hr hlocks hW hS (rfl) dX11_fill_418
        · have h := it_t c_8 h
          refine lv_iconst (v := 0) hx hb dX11_fill_28 (by decide) ?_
          cases h
          exact g_zret hx hb hr hlocks hW hS (rfl) dX11_fill_29
theorem c_X11_fill (hB : Lk L) {S : St} {r : Int32} {S9 : St} {p1 : Int32} {p2 : Int32} (h : f_X11_fill N S p1 p2 = some (r, S9)) : Met l yX11_fill (gws yX11_fill cX11_fill 11 (some .boolean)) (rmk 2) (va_Pc [.ref (ad 200), .int p1, .int p2] (WU g A ad L S)) (qz g A ad L r S9) 0 0 A :=
  g_met [.ref (ad 200), .int p1, .int p2] (by decide) (Nat.le_of_ble_eq_true rfl) (fun p e s m below meth c ls C hW hl _ => t_X11_fill C hB h hW va_S.rf hl)
theorem hv_X11_fill : yX11_fill.cls = RX11 ∧ yX11_fill.cls ≠ "java/lang/invoke/MethodHandle" ∧ yX11_fill.cls ≠ "java/lang/invoke/VarHandle" ∧ (parseMethodDescriptor yX11_fill.desc).map (fun d => d.parameters.length) = some 2 := by decide +kernel
/-! DroveRoadsModel.gain -/
def f_X11_gain (N : Nat) (S : St) (p1 : Int32) (p2 : Int32) : Option (Int32 × St) := cl1 (f_X11_fill N S p1 p2) fun r_2 S_3 => if r_2 = 0 then (some ((-100000), S_3)) else (if p1 < 0 ∨ 6 ≤ ix p1 then none else if p1 < 0 ∨ 6 ≤ ix p1 then none else cl0 (f_X11_cell S_3 p2 (gv S_3 217 (ix p1)) (gv S_3 216 (ix p1))) fun r_9 => if r_9 < 0 ∨ 244000 ≤ ix r_9 then none else some ((gv S_3 252 (ix r_9)), S_3))
set_option maxHeartbeats 4000000 in
theorem t_X11_gain (C : MC p s m args meth c cX11_gain 3 (some .int) RX11 g A) (hB : Lk L) {S : St} {r : Int32} {S9 : St} {p1 : Int32} {p2 : Int32} (h : f_X11_gain N S p1 p2 = some (r, S9)) {H : Heap} {locs : List Loc} {ls : Array Slot} (hW : GW g A ad L S H) (hS : va_S A s.heap H locs) (hl : lv_has ls 3 [(0, .ref (ad 200)), (1, .int p1), (2, .int p2)]) : W p l e (rmk 3) s m args below meth c H locs 0 0 (MQ below (qi g A ad L r S9) args s 0 0 A) (F0 m 0 ls []) := by
  obtain ⟨hx, hb, hml, hown, hts, hr, hlocks, hK, hN, hT⟩ := id C
  unfold f_X11_gain at h
  refine lv_aload_n hx hb dX11_gain_0 rfl (lv_at hl 0 rfl) ?_
  refine lv_iload_n hx hb dX11_gain_1 rfl (lv_at hl 1 rfl) ?_
  refine lv_iload_n hx hb dX11_gain_2 rfl (lv_at hl 2 rfl) ?_
  obtain ⟨r_2, S_3, hc_1, h⟩ := cl1_ex h
  refine g_cz (g_runV (ci := 11) (o := 200) (As := [.int p1, .int p2]) (rest := []) hx hb hml hown hts hK hN hT hS hW (c_X11_fill hB hc_1) (hB 200 bb_200) kd_200 rfl (gw_V mw_1364 mw_1366 mw_63 mw_73 mw_1367) hv_X11_fill rfl rfl rfl (rm_ok (by decide) (by decide)) hl.1 (Nat.le_of_ble_eq_true rfl) dX11_gain_3 rfl ⟨Nat.zero_le _, Nat.zero_le _⟩) hS (fun hz_4 H locs hW hS => ?_)
  refine lv_if_eq (tgt := 33) hx hb dX11_gain_6 (by decide) (fun c_5 => ?_) (fun c_5 => ?_)
  · have h := it_t c_5 h
    refine lv_ldcw (v := (-100000)) hx hb hown (hts _ mw_1371) dX11_gain_33 ?_
    cases h
    exact g_iret hx hb hr hlocks hW hS dX11_gain_36
  · have h := it_f c_5 h
    refine lv_aload_n hx hb dX11_gain_9 rfl (lv_at hl 0 rfl) ?_
    refine g_get (C := RX11) (T := TX11) (N := 67) (ci := 11) hx hb hts inX11 hown hK hW (hB 200 bb_200) kd_200 rfl 51 (by decide) mw_1012 rfl rfl dX11_gain_10 ?_
    refine lv_iload_n hx hb dX11_gain_13 rfl (lv_at hl 2 rfl) ?_
    refine lv_aload_n hx hb dX11_gain_14 rfl (lv_at hl 0 rfl) ?_
    refine g_get (C := RX11) (T := TX11) (N := 67) (ci := 11) hx hb hts inX11 hown hK hW (hB 200 bb_200) kd_200 rfl 16 (by decide) mw_977 rfl rfl dX11_gain_15 ?_
    refine lv_iload_n hx hb dX11_gain_18 rfl (lv_at hl 1 rfl) ?_
    obtain ⟨hi_6, h⟩ := ck_n h
    refine g_iald hx hb hK hW (hB 217 bb_217) kd_217 hi_6 dX11_gain_19 ?_
    refine lv_aload_n hx hb dX11_gain_20 rfl (lv_at hl 0 rfl) ?_
    refine g_get (C := RX11) (T := TX11) (N := 67) (ci := 11) hx hb hts inX11 hown hK hW (hB 200 bb_200) kd_200 rfl 15 (by decide) mw_976 rfl rfl dX11_gain_21 ?_
    refine lv_iload_n hx hb dX11_gain_24 rfl (lv_at hl 1 rfl) ?_
    obtain ⟨hi_7, h⟩ := ck_n h
    refine g_iald hx hb hK hW (hB 216 bb_216) kd_216 hi_7 dX11_gain_25 ?_
    obtain ⟨r_9, hc_8, h⟩ := cl0_ex h
    refine g_ci (g_runS (As := [.int p2, .int (gv S_3 217 (ix p1)), .int (gv S_3 216 (ix p1))]) (rest := [.ref (ad 252)]) hx hb hml hown hts hK hN hT hS hW (c_X11_cell hB hc_8) (gw_S mw_1368 mw_1369 mw_73 mw_1370) hs_X11_cell rfl rfl rfl (rm_ok (by decide) (by decide)) hl.1 (Nat.le_of_ble_eq_true rfl) dX11_gain_26 rfl ⟨Nat.zero_le _, Nat.zero_le _⟩) hS (fun H locs hW hS => ?_)
    obtain ⟨hi_10, h⟩ := ck_n h
    refine g_iald hx hb hK hW (hB 252 bb_252) kd_252 hi_10 dX11_gain_29 ?_
    refine lv_goto (tgt := 36) hx hb dX11_gain_30 (by decide) ?_
    cases h
    exact g_iret hx hb hr hlocks hW hS dX11_gain_36
theorem c_X11_gain (hB : Lk L) {S : St} {r : Int32} {S9 : St} {p1 : Int32} {p2 : Int32} (h : f_X11_gain N S p1 p2 = some (r, S9)) : Met l yX11_gain (gws yX11_gain cX11_gain 3 (some .int)) (rmk 3) (va_Pc [.ref (ad 200), .int p1, .int p2] (WU g A ad L S)) (qi g A ad L r S9) 0 0 A :=
  g_met [.ref (ad 200), .int p1, .int p2] (by decide) (Nat.le_of_ble_eq_true rfl) (fun p e s m below meth c ls C hW hl _ => t_X11_gain C hB h hW va_S.rf hl)
theorem hv_X11_gain : yX11_gain.cls = RX11 ∧ yX11_gain.cls ≠ "java/lang/invoke/MethodHandle" ∧ yX11_gain.cls ≠ "java/lang/invoke/VarHandle" ∧ (parseMethodDescriptor yX11_gain.desc).map (fun d => d.parameters.length) = some 2 := by decide +kernel
/-! DroveRoadsModel.length -/
def f_X11_length (N : Nat) (S : St) (p1 : Int32) (p2 : Int32) : Option (Int32 × St) := cl1 (f_X11_fill N S p1 p2) fun r_2 S_3 => if r_2 = 0 then (some ((-1), S_3)) else (if p1 < 0 ∨ 6 ≤ ix p1 then none else if p1 < 0 ∨ 6 ≤ ix p1 then none else cl0 (f_X11_cell S_3 p2 (gv S_3 217 (ix p1)) (gv S_3 216 (ix p1))) fun r_9 => if r_9 < 0 ∨ 244000 ≤ ix r_9 then none else some ((gv S_3 253 (ix r_9)), S_3))
set_option maxHeartbeats 4000000 in
theorem t_X11_length (C : MC p s m args meth c cX11_length 3 (some .int) RX11 g A) (hB : Lk L) {S : St} {r : Int32} {S9 : St} {p1 : Int32} {p2 : Int32} (h : f_X11_length N S p1 p2 = some (r, S9)) {H : Heap} {locs : List Loc} {ls : Array Slot} (hW : GW g A ad L S H) (hS : va_S A s.heap H locs) (hl : lv_has ls 3 [(0, .ref (ad 200)), (1, .int p1), (2, .int p2)]) : W p l e (rmk 3) s m args below meth c H locs 0 0 (MQ below (qi g A ad L r S9) args s 0 0 A) (F0 m 0 ls []) := by
  obtain ⟨hx, hb, hml, hown, hts, hr, hlocks, hK, hN, hT⟩ := id C
  unfold f_X11_length at h
  refine lv_aload_n hx hb dX11_length_0 rfl (lv_at hl 0 rfl) ?_
  refine lv_iload_n hx hb dX11_length_1 rfl (lv_at hl 1 rfl) ?_
  refine lv_iload_n hx hb dX11_length_2 rfl (lv_at hl 2 rfl) ?_
  obtain ⟨r_2, S_3, hc_1, h⟩ := cl1_ex h
  refine g_cz (g_runV (ci := 11) (o := 200) (As := [.int p1, .int p2]) (rest := []) hx hb hml hown hts hK hN hT hS hW (c_X11_fill hB hc_1) (hB 200 bb_200) kd_200 rfl (gw_V mw_1364 mw_1366 mw_63 mw_73 mw_1367) hv_X11_fill rfl rfl rfl (rm_ok (by decide) (by decide)) hl.1 (Nat.le_of_ble_eq_true rfl) dX11_length_3 rfl ⟨Nat.zero_le _, Nat.zero_le _⟩) hS (fun hz_4 H locs hW hS => ?_)
  refine lv_if_eq (tgt := 33) hx hb dX11_length_6 (by decide) (fun c_5 => ?_) (fun c_5 => ?_)
  · have h := it_t c_5 h
    refine lv_iconst (v := (-1)) hx hb dX11_length_33 (by decide) ?_
    cases h
    exact g_iret hx hb hr hlocks hW hS dX11_length_34
  · have h := it_f c_5 h
    refine lv_aload_n hx hb dX11_length_9 rfl (lv_at hl 0 rfl) ?_
    refine g_get (C := RX11) (T := TX11) (N := 67) (ci := 11) hx hb hts inX11 hown hK hW (hB 200 bb_200) kd_200 rfl 52 (by decide) mw_1013 rfl rfl dX11_length_10 ?_
    refine lv_iload_n hx hb dX11_length_13 rfl (lv_at hl 2 rfl) ?_
    refine lv_aload_n hx hb dX11_length_14 rfl (lv_at hl 0 rfl) ?_
    refine g_get (C := RX11) (T := TX11) (N := 67) (ci := 11) hx hb hts inX11 hown hK hW (hB 200 bb_200) kd_200 rfl 16 (by decide) mw_977 rfl rfl dX11_length_15 ?_
    refine lv_iload_n hx hb dX11_length_18 rfl (lv_at hl 1 rfl) ?_
    obtain ⟨hi_6, h⟩ := ck_n h
    refine g_iald hx hb hK hW (hB 217 bb_217) kd_217 hi_6 dX11_length_19 ?_
    refine lv_aload_n hx hb dX11_length_20 rfl (lv_at hl 0 rfl) ?_
    refine g_get (C := RX11) (T := TX11) (N := 67) (ci := 11) hx hb hts inX11 hown hK hW (hB 200 bb_200) kd_200 rfl 15 (by decide) mw_976 rfl rfl dX11_length_21 ?_
    refine lv_iload_n hx hb dX11_length_24 rfl (lv_at hl 1 rfl) ?_
    obtain ⟨hi_7, h⟩ := ck_n h
    refine g_iald hx hb hK hW (hB 216 bb_216) kd_216 hi_7 dX11_length_25 ?_
    obtain ⟨r_9, hc_8, h⟩ := cl0_ex h
    refine g_ci (g_runS (As := [.int p2, .int (gv S_3 217 (ix p1)), .int (gv S_3 216 (ix p1))]) (rest := [.ref (ad 253)]) hx hb hml hown hts hK hN hT hS hW (c_X11_cell hB hc_8) (gw_S mw_1368 mw_1369 mw_73 mw_1370) hs_X11_cell rfl rfl rfl (rm_ok (by decide) (by decide)) hl.1 (Nat.le_of_ble_eq_true rfl) dX11_length_26 rfl ⟨Nat.zero_le _, Nat.zero_le _⟩) hS (fun H locs hW hS => ?_)
    obtain ⟨hi_10, h⟩ := ck_n h
    refine g_iald hx hb hK hW (hB 253 bb_253) kd_253 hi_10 dX11_length_29 ?_
    refine lv_goto (tgt := 34) hx hb dX11_length_30 (by decide) ?_
    cases h
    exact g_iret hx hb hr hlocks hW hS dX11_length_34
theorem c_X11_length (hB : Lk L) {S : St} {r : Int32} {S9 : St} {p1 : Int32} {p2 : Int32} (h : f_X11_length N S p1 p2 = some (r, S9)) : Met l yX11_length (gws yX11_length cX11_length 3 (some .int)) (rmk 3) (va_Pc [.ref (ad 200), .int p1, .int p2] (WU g A ad L S)) (qi g A ad L r S9) 0 0 A :=
  g_met [.ref (ad 200), .int p1, .int p2] (by decide) (Nat.le_of_ble_eq_true rfl) (fun p e s m below meth c ls C hW hl _ => t_X11_length C hB h hW va_S.rf hl)
theorem hv_X11_length : yX11_length.cls = RX11 ∧ yX11_length.cls ≠ "java/lang/invoke/MethodHandle" ∧ yX11_length.cls ≠ "java/lang/invoke/VarHandle" ∧ (parseMethodDescriptor yX11_length.desc).map (fun d => d.parameters.length) = some 2 := by decide +kernel
/-! DroveRoadsModel.act -/
def f_X11_act_l59 (N : Nat) (v2 : Int32) (v3 : Int32) (S : St) (k : Int32 → Int32 → Option (Int32 × St)) : Nat → Int32 → Int32 → Int32 → Option (Int32 × St)
  | 0, _, _, _ => none
  | n + 1, v4, v5, v6 => if v3 ≤ v6 then (k v4 v5) else (cl0 (f_X11_cell S (v2 - v6) v4 v5) fun r_19 => if r_19 < 0 ∨ 244000 ≤ ix r_19 then none else if (gv S 254 (ix r_19)) = 0 then (if 15 ≤ v5 then (bn (v5 - 15) fun x_23 => bn (v6 + 1) fun x_24 => f_X11_act_l59 N v2 v3 S k n v4 x_23 x_24) else (bn (v6 + 1) fun x_25 => f_X11_act_l59 N v2 v3 S k n v4 0 x_25)) else (if v4 < 0 ∨ 10 ≤ ix v4 then none else bn (v5 + (gv S 203 (ix v4))) fun x_27 => bn (v4 + 1) fun x_28 => bn (v6 + 1) fun x_29 => f_X11_act_l59 N v2 v3 S k n x_28 x_27 x_29))
set_option maxHeartbeats 4000000 in
theorem t_X11_act_l59 (C : MC p s m args meth c cX11_act 7 (some .int) RX11 g A) (hB : Lk L) {v2 : Int32} {v3 : Int32} {S : St} {r : Int32} {S9 : St} {k : Int32 → Int32 → Option (Int32 × St)} (hk : ∀ (w4 : Int32) (w5 : Int32), k w4 w5 = some (r, S9) → ∀ (H : Heap) (locs : List Loc) (ls : Array Slot), GW g A ad L S H → va_S A s.heap H locs → lv_has ls 7 [(0, .ref (ad 200)), (2, .int v2), (3, .int v3), (4, .int w4), (5, .int w5)] → W p l e (rmk 3) s m args below meth c H locs 0 0 (MQ below (qi g A ad L r S9) args s 0 0 A) (F0 m 126 ls [])) : ∀ (n : Nat) (v4 : Int32) (v5 : Int32) (v6 : Int32), f_X11_act_l59 N v2 v3 S k n v4 v5 v6 = some (r, S9) → ∀ (H : Heap) (locs : List Loc) (ls : Array Slot), GW g A ad L S H → va_S A s.heap H locs → lv_has ls 7 [(0, .ref (ad 200)), (2, .int v2), (3, .int v3), (4, .int v4), (5, .int v5), (6, .int v6)] → W p l e (rmk 3) s m args below meth c H locs 0 0 (MQ below (qi g A ad L r S9) args s 0 0 A) (F0 m 59 ls []) := by
  obtain ⟨hx, hb, hml, hown, hts, hr, hlocks, hK, hN, hT⟩ := id C
  intro n
  induction n with
  | zero =>
    intro v4 v5 v6 h
    have h : (none : Option (Int32 × St)) = some (r, S9) := h
    cases h
  | succ n ih =>
    intro v4 v5 v6 h H locs ls hW hS hl
    rw [f_X11_act_l59] at h
    refine lv_iload hx hb dX11_act_59 (lv_at hl 5 rfl) ?_
    refine lv_iload_n hx hb dX11_act_61 rfl (lv_at hl 2 rfl) ?_
    refine lv_icmp_ge (tgt := 126) hx hb dX11_act_62 (by decide) (fun c_17 => ?_) (fun c_17 => ?_)
    · have h := it_t c_17 h
      exact hk _ _ h _ _ _ hW hS (lv_sub hl [0, 1, 2, 3, 4] rfl)
    · have h := it_f c_17 h
      refine lv_aload_n hx hb dX11_act_65 rfl (lv_at hl 0 rfl) ?_
      refine g_get (C := RX11) (T := TX11) (N := 67) (ci := 11) hx hb hts inX11 hown hK hW (hB 200 bb_200) kd_200 rfl 53 (by decide) mw_1014 rfl rfl dX11_act_66 ?_
      refine lv_iload_n hx hb dX11_act_69 rfl (lv_at hl 1 rfl) ?_
      refine lv_iload hx hb dX11_act_70 (lv_at hl 5 rfl) ?_
      refine lv_isub hx hb dX11_act_72 ?_
      refine lv_iload hx hb dX11_act_73 (lv_at hl 3 rfl) ?_
      refine lv_iload hx hb dX11_act_75 (lv_at hl 4 rfl) ?_
      obtain ⟨r_19, hc_18, h⟩ := cl0_ex h
      refine g_ci (g_runS (As := [.int (v2 - v6), .int v4, .int v5]) (rest := [.ref (ad 254)]) hx hb hml hown hts hK hN hT hS hW (c_X11_cell hB hc_18) (gw_S mw_1368 mw_1369 mw_73 mw_1370) hs_X11_cell rfl rfl rfl (rm_ok (by decide) (by decide)) hl.1 (Nat.le_of_ble_eq_true rfl) dX11_act_77 rfl ⟨Nat.zero_le _, Nat.zero_le _⟩) hS (fun H locs hW hS => ?_)
      obtain ⟨hi_20, h⟩ := ck_n h
      refine g_zald hx hb hK hW (hB 254 bb_254) kd_254 hi_20 dX11_act_80 ?_
      refine lv_if_eq (tgt := 102) hx hb dX11_act_81 (by decide) (fun c_21 => ?_) (fun c_21 => ?_)
      · have h := it_t c_21 h
        refine lv_iload hx hb dX11_act_102 (lv_at hl 4 rfl) ?_
        refine lv_bipush (v := 15) hx hb dX11_act_104 (by decide) ?_
        refine lv_icmp_ge (tgt := 113) hx hb dX11_act_106 (by decide) (fun c_22 => ?_) (fun c_22 => ?_)
        · have h := it_t c_22 h
          refine lv_iload hx hb dX11_act_113 (lv_at hl 4 rfl) ?_
          refine lv_bipush (v := 15) hx hb dX11_act_115 (by decide) ?_
          refine lv_isub hx hb dX11_act_117 ?_
          refine lv_topi (fun x_23 ex_23 => ?_)
          have h := bn_at ex_23 h
          refine lv_istore (lv' := [(5, .int x_23), (0, .ref (ad 200)), (2, .int v2), (3, .int v3), (4, .int v4), (6, .int v6)]) hx hb dX11_act_118 hl (by decide) rfl (fun ls hl => ?_)
          obtain ⟨x_24, ex_24⟩ : ∃ z : Int32, z = v6 + 1 := ⟨_, rfl⟩
          have h := bn_at ex_24 h
          refine lv_iinc (v := x_24) (lv' := [(6, .int x_24), (5, .int x_23), (0, .ref (ad 200)), (2, .int v2), (3, .int v3), (4, .int v4)]) hx hb dX11_act_120 hl (k := 5) rfl (by rw [ex_24]; rfl) (by decide) rfl (fun ls hl => ?_)
          refine lv_goto (tgt := 59) hx hb dX11_act_123 (by decide) ?_
          exact ih _ _ _ h _ _ _ hW hS (lv_sub hl [2, 3, 4, 5, 1, 0] rfl)
        · have h := it_f c_22 h
          refine lv_iconst (v := 0) hx hb dX11_act_109 (by decide) ?_
          refine lv_goto (tgt := 118) hx hb dX11_act_110 (by decide) ?_
          refine lv_istore (lv' := [(5, .int 0), (0, .ref (ad 200)), (2, .int v2), (3, .int v3), (4, .int v4), (6, .int v6)]) hx hb dX11_act_118 hl (by decide) rfl (fun ls hl => ?_)
          obtain ⟨x_25, ex_25⟩ : ∃ z : Int32, z = v6 + 1 := ⟨_, rfl⟩
          have h := bn_at ex_25 h
          refine lv_iinc (v := x_25) (lv' := [(6, .int x_25), (5, .int 0), (0, .ref (ad 200)), (2, .int v2), (3, .int v3), (4, .int v4)]) hx hb dX11_act_120 hl (k := 5) rfl (by rw [ex_25]; rfl) (by decide) rfl (fun ls hl => ?_)
          refine lv_goto (tgt := 59) hx hb dX11_act_123 (by decide) ?_
          exact ih _ _ _ h _ _ _ hW hS (lv_sub hl [2, 3, 4, 5, 1, 0] rfl)
      · have h := it_f c_21 h
        refine lv_iload hx hb dX11_act_84 (lv_at hl 4 rfl) ?_
        refine lv_aload_n hx hb dX11_act_86 rfl (lv_at hl 0 rfl) ?_
        refine g_get (C := RX11) (T := TX11) (N := 67) (ci := 11) hx hb hts inX11 hown hK hW (hB 200 bb_200) kd_200 rfl 2 (by decide) mw_963 rfl rfl dX11_act_87 ?_
        refine lv_iload hx hb dX11_act_90 (lv_at hl 3 rfl) ?_
        obtain ⟨hi_26, h⟩ := ck_n h
        refine g_iald hx hb hK hW (hB 203 bb_203) kd_203 hi_26 dX11_act_92 ?_
        refine lv_iadd hx hb dX11_act_93 ?_
        refine lv_topi (fun x_27 ex_27 => ?_)
        have h := bn_at ex_27 h
        refine lv_istore (lv' := [(5, .int x_27), (0, .ref (ad 200)), (2, .int v2), (3, .int v3), (4, .int v4), (6, .int v6)]) hx hb dX11_act_94 hl (by decide) rfl (fun ls hl => ?_)
        obtain ⟨x_28, ex_28⟩ : ∃ z : Int32, z = v4 + 1 := ⟨_, rfl⟩
        have h := bn_at ex_28 h
        refine lv_iinc (v := x_28) (lv' := [(4, .int x_28), (5, .int x_27), (0, .ref (ad 200)), (2, .int v2), (3, .int v3), (6, .int v6)]) hx hb dX11_act_96 hl (k := 4) rfl (by rw [ex_28]; rfl) (by decide) rfl (fun ls hl => ?_)
        refine lv_goto (tgt := 120) hx hb dX11_act_99 (by decide) ?_
        obtain ⟨x_29, ex_29⟩ : ∃ z : Int32, z = v6 + 1 := ⟨_, rfl⟩
        have h := bn_at ex_29 h
        refine lv_iinc (v := x_29) (lv' := [(6, .int x_29), (4, .int x_28), (5, .int x_27), (0, .ref (ad 200)), (2, .int v2), (3, .int v3)]) hx hb dX11_act_120 hl (k := 5) rfl (by rw [ex_29]; rfl) (by decide) rfl (fun ls hl => ?_)
        refine lv_goto (tgt := 59) hx hb dX11_act_123 (by decide) ?_
        exact ih _ _ _ h _ _ _ hW hS (lv_sub hl [3, 4, 5, 1, 2, 0] rfl)
def f_X11_act (N : Nat) (S : St) (p1 : Int32) (p2 : Int32) (p3 : Int32) : Option (Int32 × St) := cl1 (f_X11_fill N S p1 p2) fun r_2 S_3 => if r_2 = 0 then (some ((-1), S_3)) else (if p3 < 0 then (some ((-1), S_3)) else (if p1 < 0 ∨ 6 ≤ ix p1 then none else if p1 < 0 ∨ 6 ≤ ix p1 then none else cl0 (f_X11_cell S_3 p2 (gv S_3 217 (ix p1)) (gv S_3 216 (ix p1))) fun r_10 => if r_10 < 0 ∨ 244000 ≤ ix r_10 then none else if p3 < (gv S_3 253 (ix r_10)) then (if p1 < 0 ∨ 6 ≤ ix p1 then none else bn (gv S_3 217 (ix p1)) fun x_14 => if p1 < 0 ∨ 6 ≤ ix p1 then none else bn (gv S_3 216 (ix p1)) fun x_16 => f_X11_act_l59 N p2 p3 S_3 (fun x_30 x_31 => cl0 (f_X11_cell S_3 (p2 - p3) x_30 x_31) fun r_33 => if r_33 < 0 ∨ 244000 ≤ ix r_33 then none else if (gv S_3 254 (ix r_33)) = 0 then (some (0, S_3)) else (some (1, S_3))) N x_14 x_16 0) else (some ((-1), S_3))))
set_option maxHeartbeats 4000000 in
theorem t_X11_act (C : MC p s m args meth c cX11_act 7 (some .int) RX11 g A) (hB : Lk L) {S : St} {r : Int32} {S9 : St} {p1 : Int32} {p2 : Int32} {p3 : Int32} (h : f_X11_act N S p1 p2 p3 = some (r, S9)) {H : Heap} {locs : List Loc} {ls : Array Slot} (hW : GW g A ad L S H) (hS : va_S A s.heap H locs) (hl : lv_has ls 7 [(0, .ref (ad 200)), (1, .int p1), (2, .int p2), (3, .int p3)]) : W p l e (rmk 3) s m args below meth c H locs 0 0 (MQ below (qi g A ad L r S9) args s 0 0 A) (F0 m 0 ls []) := by
  obtain ⟨hx, hb, hml, hown, hts, hr, hlocks, hK, hN, hT⟩ := id C
  unfold f_X11_act at h
  refine lv_aload_n hx hb dX11_act_0 rfl (lv_at hl 0 rfl) ?_
  refine lv_iload_n hx hb dX11_act_1 rfl (lv_at hl 1 rfl) ?_
  refine lv_iload_n hx hb dX11_act_2 rfl (lv_at hl 2 rfl) ?_
  obtain ⟨r_2, S_3, hc_1, h⟩ := cl1_ex h
  refine g_cz (g_runV (ci := 11) (o := 200) (As := [.int p1, .int p2]) (rest := []) hx hb hml hown hts hK hN hT hS hW (c_X11_fill hB hc_1) (hB 200 bb_200) kd_200 rfl (gw_V mw_1364 mw_1366 mw_63 mw_73 mw_1367) hv_X11_fill rfl rfl rfl (rm_ok (by decide) (by decide)) hl.1 (Nat.le_of_ble_eq_true rfl) dX11_act_3 rfl ⟨Nat.zero_le _, Nat.zero_le _⟩) hS (fun hz_4 H locs hW hS => ?_)
  refine lv_if_eq (tgt := 38) hx hb dX11_act_6 (by decide) (fun c_5 => ?_) (fun c_5 => ?_)
  · have h := it_t c_5 h
    refine lv_iconst (v := (-1)) hx hb dX11_act_38 (by decide) ?_
    cases h
    exact g_iret hx hb hr hlocks hW hS dX11_act_39
  · have h := it_f c_5 h
    refine lv_iload_n hx hb dX11_act_9 rfl (lv_at hl 3 rfl) ?_
    refine lv_if_lt (tgt := 38) hx hb dX11_act_10 (by decide) (fun c_6 => ?_) (fun c_6 => ?_)
    · have h := it_t c_6 h
      refine lv_iconst (v := (-1)) hx hb dX11_act_38 (by decide) ?_
      cases h
      exact g_iret hx hb hr hlocks hW hS dX11_act_39
    · have h := it_f c_6 h
      refine lv_iload_n hx hb dX11_act_13 rfl (lv_at hl 3 rfl) ?_
      refine lv_aload_n hx hb dX11_act_14 rfl (lv_at hl 0 rfl) ?_
      refine g_get (C := RX11) (T := TX11) (N := 67) (ci := 11) hx hb hts inX11 hown hK hW (hB 200 bb_200) kd_200 rfl 52 (by decide) mw_1013 rfl rfl dX11_act_15 ?_
      refine lv_iload_n hx hb dX11_act_18 rfl (lv_at hl 2 rfl) ?_
      refine lv_aload_n hx hb dX11_act_19 rfl (lv_at hl 0 rfl) ?_
      refine g_get (C := RX11) (T := TX11) (N := 67) (ci := 11) hx hb hts inX11 hown hK hW (hB 200 bb_200) kd_200 rfl 16 (by decide) mw_977 rfl rfl dX11_act_20 ?_
      refine lv_iload_n hx hb dX11_act_23 rfl (lv_at hl 1 rfl) ?_
      obtain ⟨hi_7, h⟩ := ck_n h
      refine g_iald hx hb hK hW (hB 217 bb_217) kd_217 hi_7 dX11_act_24 ?_
      refine lv_aload_n hx hb dX11_act_25 rfl (lv_at hl 0 rfl) ?_
      refine g_get (C := RX11) (T := TX11) (N := 67) (ci := 11) hx hb hts inX11 hown hK hW (hB 200 bb_200) kd_200 rfl 15 (by decide) mw_976 rfl rfl dX11_act_26 ?_
      refine lv_iload_n hx hb dX11_act_29 rfl (lv_at hl 1 rfl) ?_
      obtain ⟨hi_8, h⟩ := ck_n h
      refine g_iald hx hb hK hW (hB 216 bb_216) kd_216 hi_8 dX11_act_30 ?_
      obtain ⟨r_10, hc_9, h⟩ := cl0_ex h
      refine g_ci (g_runS (As := [.int p2, .int (gv S_3 217 (ix p1)), .int (gv S_3 216 (ix p1))]) (rest := [.ref (ad 253), .int p3]) hx hb hml hown hts hK hN hT hS hW (c_X11_cell hB hc_9) (gw_S mw_1368 mw_1369 mw_73 mw_1370) hs_X11_cell rfl rfl rfl (rm_ok (by decide) (by decide)) hl.1 (Nat.le_of_ble_eq_true rfl) dX11_act_31 rfl ⟨Nat.zero_le _, Nat.zero_le _⟩) hS (fun H locs hW hS => ?_)
      obtain ⟨hi_11, h⟩ := ck_n h
      refine g_iald hx hb hK hW (hB 253 bb_253) kd_253 hi_11 dX11_act_34 ?_
      refine lv_icmp_lt (tgt := 40) hx hb dX11_act_35 (by decide) (fun c_12 => ?_) (fun c_12 => ?_)
      · have h := it_t c_12 h
        refine lv_aload_n hx hb dX11_act_40 rfl (lv_at hl 0 rfl) ?_
        refine g_get (C := RX11) (T := TX11) (N := 67) (ci := 11) hx hb hts inX11 hown hK hW (hB 200 bb_200) kd_200 rfl 16 (by decide) mw_977 rfl rfl dX11_act_41 ?_
        refine lv_iload_n hx hb dX11_act_44 rfl (lv_at hl 1 rfl) ?_
        obtain ⟨hi_13, h⟩ := ck_n h
        refine g_iald hx hb hK hW (hB 217 bb_217) kd_217 hi_13 dX11_act_45 ?_
        refine lv_topi (fun x_14 ex_14 => ?_)
        have h := bn_at ex_14 h
        refine lv_istore (lv' := [(4, .int x_14), (0, .ref (ad 200)), (1, .int p1), (2, .int p2), (3, .int p3)]) hx hb dX11_act_46 hl (by decide) rfl (fun ls hl => ?_)
        refine lv_aload_n hx hb dX11_act_48 rfl (lv_at hl 1 rfl) ?_
        refine g_get (C := RX11) (T := TX11) (N := 67) (ci := 11) hx hb hts inX11 hown hK hW (hB 200 bb_200) kd_200 rfl 15 (by decide) mw_976 rfl rfl dX11_act_49 ?_
        refine lv_iload_n hx hb dX11_act_52 rfl (lv_at hl 2 rfl) ?_
        obtain ⟨hi_15, h⟩ := ck_n h
        refine g_iald hx hb hK hW (hB 216 bb_216) kd_216 hi_15 dX11_act_53 ?_
        refine lv_topi (fun x_16 ex_16 => ?_)
        have h := bn_at ex_16 h
        refine lv_istore (lv' := [(5, .int x_16), (4, .int x_14), (0, .ref (ad 200)), (1, .int p1), (2, .int p2), (3, .int p3)]) hx hb dX11_act_54 hl (by decide) rfl (fun ls hl => ?_)
        refine lv_iconst (v := 0) hx hb dX11_act_56 (by decide) ?_
        refine lv_istore (lv' := [(6, .int 0), (5, .int x_16), (4, .int x_14), (0, .ref (ad 200)), (1, .int p1), (2, .int p2), (3, .int p3)]) hx hb dX11_act_57 hl (by decide) rfl (fun ls hl => ?_)
        refine t_X11_act_l59 C hB ?_ _ _ _ _ h _ _ _ hW hS (lv_sub hl [3, 5, 6, 2, 1, 0] rfl)
        intro x_30 x_31 h H locs ls hW hS hl
        refine lv_aload_n hx hb dX11_act_126 rfl (lv_at hl 0 rfl) ?_
        refine g_get (C := RX11) (T := TX11) (N := 67) (ci := 11) hx hb hts inX11 hown hK hW (hB 200 bb_200) kd_200 rfl 53 (by decide) mw_1014 rfl rfl dX11_act_127 ?_
        refine lv_iload_n hx hb dX11_act_130 rfl (lv_at hl 1 rfl) ?_
        refine lv_iload_n hx hb dX11_act_131 rfl (lv_at hl 2 rfl) ?_
        refine lv_isub hx hb dX11_act_132 ?_
        refine lv_iload hx hb dX11_act_133 (lv_at hl 3 rfl) ?_
        refine lv_iload hx hb dX11_act_135 (lv_at hl 4 rfl) ?_
        obtain ⟨r_33, hc_32, h⟩ := cl0_ex h
        refine g_ci (g_runS (As := [.int (p2 - p3), .int x_30, .int x_31]) (rest := [.ref (ad 254)]) hx hb hml hown hts hK hN hT hS hW (c_X11_cell hB hc_32) (gw_S mw_1368 mw_1369 mw_73 mw_1370) hs_X11_cell rfl rfl rfl (rm_ok (by decide) (by decide)) hl.1 (Nat.le_of_ble_eq_true rfl) dX11_act_137 rfl ⟨Nat.zero_le _, Nat.zero_le _⟩) hS (fun H locs hW hS => ?_)
        obtain ⟨hi_34, h⟩ := ck_n h
        refine g_zald hx hb hK hW (hB 254 bb_254) kd_254 hi_34 dX11_act_140 ?_
        refine lv_if_eq (tgt := 148) hx hb dX11_act_141 (by decide) (fun c_35 => ?_) (fun c_35 => ?_)
        · have h := it_t c_35 h
          refine lv_iconst (v := 0) hx hb dX11_act_148 (by decide) ?_
          cases h
          exact g_iret hx hb hr hlocks hW hS dX11_act_149
        · have h := it_f c_35 h
          refine lv_iconst (v := 1) hx hb dX11_act_144 (by decide) ?_
          refine lv_goto (tgt := 149) hx hb dX11_act_145 (by decide) ?_
          cases h
          exact g_iret hx hb hr hlocks hW hS dX11_act_149
      · have h := it_f c_12 h
        refine lv_iconst (v := (-1)) hx hb dX11_act_38 (by decide) ?_
        cases h
        exact g_iret hx hb hr hlocks hW hS dX11_act_39
theorem c_X11_act (hB : Lk L) {S : St} {r : Int32} {S9 : St} {p1 : Int32} {p2 : Int32} {p3 : Int32} (h : f_X11_act N S p1 p2 p3 = some (r, S9)) : Met l yX11_act (gws yX11_act cX11_act 7 (some .int)) (rmk 3) (va_Pc [.ref (ad 200), .int p1, .int p2, .int p3] (WU g A ad L S)) (qi g A ad L r S9) 0 0 A :=
  g_met [.ref (ad 200), .int p1, .int p2, .int p3] (by decide) (Nat.le_of_ble_eq_true rfl) (fun p e s m below meth c ls C hW hl _ => t_X11_act C hB h hW va_S.rf hl)
theorem hv_X11_act : yX11_act.cls = RX11 ∧ yX11_act.cls ≠ "java/lang/invoke/MethodHandle" ∧ yX11_act.cls ≠ "java/lang/invoke/VarHandle" ∧ (parseMethodDescriptor yX11_act.desc).map (fun d => d.parameters.length) = some 3 := by decide +kernel
end S26
