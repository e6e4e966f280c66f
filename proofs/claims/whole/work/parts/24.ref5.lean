section S24
variable {p : Program} {l : Launch} {e : Env} {s : State} {m : MethodId} {args : Array Value} {below : List Frame} {meth : Method} {c : Code} {A : Nat → Prop} {g : Cx} {ad : Nat → Nat} {L : List Nat} {N : Nat} {q0 : Nat}
/-! DroveRoadsModel.holds -/
def f_X11_holds_l21 (N : Nat) (v1 : Int32) (v2 : Int32) (k : St → Option (Int32 × St)) : Nat → St → Int32 → Int32 → Option (Int32 × St)
  | 0, _, _, _ => none
  | n + 1, S, v3, v4 => if (((10 * v1) + v2) + 1) < 0 ∨ 60 ≤ ix (((10 * v1) + v2) + 1) then none else if ((500 * v1) + (gv S 225 (ix (((10 * v1) + v2) + 1)))) ≤ v4 then (k S) else (if v4 < 0 ∨ 3000 ≤ ix v4 then none else bn (gv S 223 (ix v4)) fun x_6 => if 40 ≤ x_6 then (if x_6 = 40 then (if (v3 - 1) < 0 ∨ 300 ≤ ix (v3 - 1) then none else if (gv S 250 (ix (v3 - 1))) = 0 then (if (v3 - 1) < 0 ∨ 300 ≤ ix (v3 - 1) then none else bn (sv S 250 (ix (v3 - 1)) 1) fun S_75 => bn (v4 + 1) fun x_76 => f_X11_holds_l21 N v1 v2 k n S_75 v3 x_76) else (if (v3 - 1) < 0 ∨ 300 ≤ ix (v3 - 1) then none else bn (sv S 250 (ix (v3 - 1)) 0) fun S_72 => bn (v4 + 1) fun x_73 => f_X11_holds_l21 N v1 v2 k n S_72 v3 x_73)) else (bn (v3 + (-1)) fun x_9 => if (x_9 - 1) < 0 ∨ 300 ≤ ix (x_9 - 1) then none else bn (gv S 250 (ix (x_9 - 1))) fun x_11 => if x_9 < 0 ∨ 300 ≤ ix x_9 then none else bn (gv S 250 (ix x_9)) fun x_13 => if x_6 = 41 then (if x_11 = 0 then (if x_13 = 0 then (if (x_9 - 1) < 0 ∨ 300 ≤ ix (x_9 - 1) then none else bn (sv S 250 (ix (x_9 - 1)) 0) fun S_21 => bn (v4 + 1) fun x_22 => f_X11_holds_l21 N v1 v2 k n S_21 x_9 x_22) else (if (x_9 - 1) < 0 ∨ 300 ≤ ix (x_9 - 1) then none else bn (sv S 250 (ix (x_9 - 1)) 1) fun S_24 => bn (v4 + 1) fun x_25 => f_X11_holds_l21 N v1 v2 k n S_24 x_9 x_25)) else (if (x_9 - 1) < 0 ∨ 300 ≤ ix (x_9 - 1) then none else bn (sv S 250 (ix (x_9 - 1)) 1) fun S_17 => bn (v4 + 1) fun x_18 => f_X11_holds_l21 N v1 v2 k n S_17 x_9 x_18)) else if x_6 = 42 then (if x_11 = 0 then (if (x_9 - 1) < 0 ∨ 300 ≤ ix (x_9 - 1) then none else bn (sv S 250 (ix (x_9 - 1)) 0) fun S_29 => bn (v4 + 1) fun x_30 => f_X11_holds_l21 N v1 v2 k n S_29 x_9 x_30) else (if x_13 = 0 then (if (x_9 - 1) < 0 ∨ 300 ≤ ix (x_9 - 1) then none else bn (sv S 250 (ix (x_9 - 1)) 0) fun S_33 => bn (v4 + 1) fun x_34 => f_X11_holds_l21 N v1 v2 k n S_33 x_9 x_34) else (if (x_9 - 1) < 0 ∨ 300 ≤ ix (x_9 - 1) then none else bn (sv S 250 (ix (x_9 - 1)) 1) fun S_36 => bn (v4 + 1) fun x_37 => f_X11_holds_l21 N v1 v2 k n S_36 x_9 x_37))) else if x_6 = 43 then (if x_11 = x_13 then (if (x_9 - 1) < 0 ∨ 300 ≤ ix (x_9 - 1) then none else bn (sv S 250 (ix (x_9 - 1)) 1) fun S_44 => bn (v4 + 1) fun x_45 => f_X11_holds_l21 N v1 v2 k n S_44 x_9 x_45) else (if (x_9 - 1) < 0 ∨ 300 ≤ ix (x_9 - 1) then none else bn (sv S 250 (ix (x_9 - 1)) 0) fun S_41 => bn (v4 + 1) fun x_42 => f_X11_holds_l21 N v1 v2 k n S_41 x_9 x_42)) else if x_6 = 44 then (if x_13 ≤ x_11 then (if (x_9 - 1) < 0 ∨ 300 ≤ ix (x_9 - 1) then none else bn (sv S 250 (ix (x_9 - 1)) 0) fun S_49 => bn (v4 + 1) fun x_50 => f_X11_holds_l21 N v1 v2 k n S_49 x_9 x_50) else (if (x_9 - 1) < 0 ∨ 300 ≤ ix (x_9 - 1) then none else bn (sv S 250 (ix (x_9 - 1)) 1) fun S_52 => bn (v4 + 1) fun x_53 => f_X11_holds_l21 N v1 v2 k n S_52 x_9 x_53)) else if x_6 = 45 then (if x_11 ≤ x_13 then (if (x_9 - 1) < 0 ∨ 300 ≤ ix (x_9 - 1) then none else bn (sv S 250 (ix (x_9 - 1)) 0) fun S_57 => bn (v4 + 1) fun x_58 => f_X11_holds_l21 N v1 v2 k n S_57 x_9 x_58) else (if (x_9 - 1) < 0 ∨ 300 ≤ ix (x_9 - 1) then none else bn (sv S 250 (ix (x_9 - 1)) 1) fun S_60 => bn (v4 + 1) fun x_61 => f_X11_holds_l21 N v1 v2 k n S_60 x_9 x_61)) else if x_6 = 46 then (if (x_9 - 1) < 0 ∨ 300 ≤ ix (x_9 - 1) then none else bn (sv S 250 (ix (x_9 - 1)) (x_11 + x_13)) fun S_64 => bn (v4 + 1) fun x_65 => f_X11_holds_l21 N v1 v2 k n S_64 x_9 x_65) else (if (x_9 - 1) < 0 ∨ 300 ≤ ix (x_9 - 1) then none else bn (sv S 250 (ix (x_9 - 1)) (x_11 - x_13)) fun S_67 => bn (v4 + 1) fun x_68 => f_X11_holds_l21 N v1 v2 k n S_67 x_9 x_68))) else (if x_6 = 0 then (if v4 < 0 ∨ 3000 ≤ ix v4 then none else if v3 < 0 ∨ 300 ≤ ix v3 then none else bn (sv S 250 (ix v3) (gv S 224 (ix v4))) fun S_85 => bn (v3 + 1) fun x_86 => bn (v4 + 1) fun x_87 => f_X11_holds_l21 N v1 v2 k n S_85 x_86 x_87) else (if (x_6 - 20) < 0 ∨ 9 ≤ ix (x_6 - 20) then none else if v3 < 0 ∨ 300 ≤ ix v3 then none else bn (sv S 250 (ix v3) (gv S 251 (ix (x_6 - 20)))) fun S_80 => bn (v3 + 1) fun x_81 => bn (v4 + 1) fun x_82 => f_X11_holds_l21 N v1 v2 k n S_80 x_81 x_82)))
set_option maxHeartbeats 4000000 in
theorem t_X11_holds_l21 (C : MC p s m args meth c cX11_holds 8 (some .boolean) RX11 g A) (hB : Lk L) {v1 : Int32} {v2 : Int32} {r : Int32} {S9 : St} {k : St → Option (Int32 × St)} (hk : ∀ (S : St), k S = some (r, S9) → ∀ (H : Heap) (locs : List Loc) (ls : Array Slot), GW g A ad L S H → va_S A s.heap H locs → lv_has ls 8 [(0, .ref (ad 200))] → W p l e (rmk 1) s m args below meth c H locs 0 0 (MQ below (qz g A ad L r S9) args s 0 0 A) (F0 m 348 ls [])) : ∀ (n : Nat) (S : St) (v3 : Int32) (v4 : Int32), f_X11_holds_l21 N v1 v2 k n S v3 v4 = some (r, S9) → ∀ (H : Heap) (locs : List Loc) (ls : Array Slot), GW g A ad L S H → va_S A s.heap H locs → lv_has ls 8 [(0, .ref (ad 200)), (1, .int v1), (2, .int v2), (3, .int v3), (4, .int v4)] → W p l e (rmk 1) s m args below meth c H locs 0 0 (MQ below (qz g A ad L r S9) args s 0 0 A) (F0 m 21 ls []) := by
  obtain ⟨hx, hb, hml, hown, hts, hr, hlocks, hK, hN, hT⟩ := id C
  intro n
  induction n with
  | zero =>
    intro S v3 v4 h
    have h : (none : Option (Int32 × St)) = some (r, S9) := h
    cases h
  | succ n ih =>
    intro S v3 v4 h H locs ls hW hS hl
    rw [f_X11_holds_l21] at h
    refine lv_iload hx hb dX11_holds_21 (lv_at hl 4 rfl) ?_
    refine lv_sipush (v := 500) hx hb dX11_holds_23 (by decide) ?_
    refine lv_iload_n hx hb dX11_holds_26 rfl (lv_at hl 1 rfl) ?_
    refine lv_imul hx hb dX11_holds_27 ?_
    refine lv_aload_n hx hb dX11_holds_28 rfl (lv_at hl 0 rfl) ?_
    refine g_get (C := RX11) (T := TX11) (N := 67) (ci := 11) hx hb hts inX11 hown hK hW (hB 200 bb_200) kd_200 rfl 24 (by decide) mw_985 rfl rfl dX11_holds_29 ?_
    refine lv_bipush (v := 10) hx hb dX11_holds_32 (by decide) ?_
    refine lv_iload_n hx hb dX11_holds_34 rfl (lv_at hl 1 rfl) ?_
    refine lv_imul hx hb dX11_holds_35 ?_
    refine lv_iload_n hx hb dX11_holds_36 rfl (lv_at hl 2 rfl) ?_
    refine lv_iadd hx hb dX11_holds_37 ?_
    refine lv_iconst (v := 1) hx hb dX11_holds_38 (by decide) ?_
    refine lv_iadd hx hb dX11_holds_39 ?_
    obtain ⟨hi_3, h⟩ := ck_n h
    refine g_iald hx hb hK hW (hB 225 bb_225) kd_225 hi_3 dX11_holds_40 ?_
    refine lv_iadd hx hb dX11_holds_41 ?_
    refine lv_icmp_ge (tgt := 348) hx hb dX11_holds_42 (by decide) (fun c_4 => ?_) (fun c_4 => ?_)
    · have h := it_t c_4 h
      exact hk _ h _ _ _ hW hS (lv_sub hl [0] rfl)
    · have h := it_f c_4 h
      refine lv_aload_n hx hb dX11_holds_45 rfl (lv_at hl 0 rfl) ?_
      refine g_get (C := RX11) (T := TX11) (N := 67) (ci := 11) hx hb hts inX11 hown hK hW (hB 200 bb_200) kd_200 rfl 22 (by decide) mw_983 rfl rfl dX11_holds_46 ?_
      refine lv_iload hx hb dX11_holds_49 (lv_at hl 4 rfl) ?_
      obtain ⟨hi_5, h⟩ := ck_n h
      refine g_iald hx hb hK hW (hB 223 bb_223) kd_223 hi_5 dX11_holds_51 ?_
      refine lv_topi (fun x_6 ex_6 => ?_)
      have h := bn_at ex_6 h
      refine lv_istore (lv' := [(5, .int x_6), (0, .ref (ad 200)), (1, .int v1), (2, .int v2), (3, .int v3), (4, .int v4)]) hx hb dX11_holds_52 hl (by decide) rfl (fun ls hl => ?_)
      refine lv_iload hx hb dX11_holds_54 (lv_at hl 0 rfl) ?_
      refine lv_bipush (v := 40) hx hb dX11_holds_56 (by decide) ?_
      refine lv_icmp_ge (tgt := 98) hx hb dX11_holds_58 (by decide) (fun c_7 => ?_) (fun c_7 => ?_)
      · have h := it_t c_7 h
        refine lv_iload hx hb dX11_holds_98 (lv_at hl 0 rfl) ?_
        refine lv_bipush (v := 40) hx hb dX11_holds_100 (by decide) ?_
        refine lv_icmp_ne (tgt := 132) hx hb dX11_holds_102 (by decide) (fun c_8 => ?_) (fun c_8 => ?_)
        · have h := it_f c_8 h
          obtain ⟨x_9, ex_9⟩ : ∃ z : Int32, z = v3 + (-1) := ⟨_, rfl⟩
          have h := bn_at ex_9 h
          refine lv_iinc (v := x_9) (lv' := [(3, .int x_9), (5, .int x_6), (0, .ref (ad 200)), (1, .int v1), (2, .int v2), (4, .int v4)]) hx hb dX11_holds_132 hl (k := 4) rfl (by rw [ex_9]; rfl) (by decide) rfl (fun ls hl => ?_)
          refine lv_aload_n hx hb dX11_holds_135 rfl (lv_at hl 2 rfl) ?_
          refine g_get (C := RX11) (T := TX11) (N := 67) (ci := 11) hx hb hts inX11 hown hK hW (hB 200 bb_200) kd_200 rfl 49 (by decide) mw_1010 rfl rfl dX11_holds_136 ?_
          refine lv_iload_n hx hb dX11_holds_139 rfl (lv_at hl 0 rfl) ?_
          refine lv_iconst (v := 1) hx hb dX11_holds_140 (by decide) ?_
          refine lv_isub hx hb dX11_holds_141 ?_
          obtain ⟨hi_10, h⟩ := ck_n h
          refine g_iald hx hb hK hW (hB 250 bb_250) kd_250 hi_10 dX11_holds_142 ?_
          refine lv_topi (fun x_11 ex_11 => ?_)
          have h := bn_at ex_11 h
          refine lv_istore (lv' := [(6, .int x_11), (3, .int x_9), (5, .int x_6), (0, .ref (ad 200)), (1, .int v1), (2, .int v2), (4, .int v4)]) hx hb dX11_holds_143 hl (by decide) rfl (fun ls hl => ?_)
          refine lv_aload_n hx hb dX11_holds_145 rfl (lv_at hl 3 rfl) ?_
          refine g_get (C := RX11) (T := TX11) (N := 67) (ci := 11) hx hb hts inX11 hown hK hW (hB 200 bb_200) kd_200 rfl 49 (by decide) mw_1010 rfl rfl dX11_holds_146 ?_
          refine lv_iload_n hx hb dX11_holds_149 rfl (lv_at hl 1 rfl) ?_
          obtain ⟨hi_12, h⟩ := ck_n h
          refine g_iald hx hb hK hW (hB 250 bb_250) kd_250 hi_12 dX11_holds_150 ?_
          refine lv_topi (fun x_13 ex_13 => ?_)
          have h := bn_at ex_13 h
          refine lv_istore (lv' := [(7, .int x_13), (6, .int x_11), (3, .int x_9), (5, .int x_6), (0, .ref (ad 200)), (1, .int v1), (2, .int v2), (4, .int v4)]) hx hb dX11_holds_151 hl (by decide) rfl (fun ls hl => ?_)
          refine lv_iload hx hb dX11_holds_153 (lv_at hl 3 rfl) ?_
          by_cases c_14 : x_6 = 41
          · have h := it_t c_14 h
            refine lv_tableIn (tgt := 192) hx hb dX11_holds_155 (by rw [c_14]; decide) (by rw [c_14]; decide) (by rw [c_14]; rfl) (by decide) ?_
            refine lv_aload_n hx hb dX11_holds_192 rfl (lv_at hl 4 rfl) ?_
            refine g_get (C := RX11) (T := TX11) (N := 67) (ci := 11) hx hb hts inX11 hown hK hW (hB 200 bb_200) kd_200 rfl 49 (by decide) mw_1010 rfl rfl dX11_holds_193 ?_
            refine lv_iload_n hx hb dX11_holds_196 rfl (lv_at hl 2 rfl) ?_
            refine lv_iconst (v := 1) hx hb dX11_holds_197 (by decide) ?_
            refine lv_isub hx hb dX11_holds_198 ?_
            refine lv_iload hx hb dX11_holds_199 (lv_at hl 1 rfl) ?_
            refine lv_if_ne (tgt := 209) hx hb dX11_holds_201 (by decide) (fun c_15 => ?_) (fun c_15 => ?_)
            · have h := it_f c_15 h
              refine lv_iconst (v := 1) hx hb dX11_holds_209 (by decide) ?_
              refine lv_goto (tgt := 214) hx hb dX11_holds_210 (by decide) ?_
              obtain ⟨hi_16, h⟩ := ck_n h
              refine g_iast hx hb hK hW hS (hB 250 bb_250) (fun _ => kd_250) hi_16 dX11_holds_214 (fun S_17 eS_17 H locs hW hS => ?_)
              have h := bn_at eS_17 h
              refine lv_goto (tgt := 342) hx hb dX11_holds_215 (by decide) ?_
              obtain ⟨x_18, ex_18⟩ : ∃ z : Int32, z = v4 + 1 := ⟨_, rfl⟩
              have h := bn_at ex_18 h
              refine lv_iinc (v := x_18) (lv' := [(4, .int x_18), (7, .int x_13), (6, .int x_11), (3, .int x_9), (5, .int x_6), (0, .ref (ad 200)), (1, .int v1), (2, .int v2)]) hx hb dX11_holds_342 hl (k := 7) rfl (by rw [ex_18]; rfl) (by decide) rfl (fun ls hl => ?_)
              refine lv_goto (tgt := 21) hx hb dX11_holds_345 (by decide) ?_
              exact ih _ _ _ h _ _ _ hW hS (lv_sub hl [5, 6, 7, 3, 0] rfl)
            · have h := it_t c_15 h
              refine lv_iload hx hb dX11_holds_204 (lv_at hl 0 rfl) ?_
              refine lv_if_eq (tgt := 213) hx hb dX11_holds_206 (by decide) (fun c_19 => ?_) (fun c_19 => ?_)
              · have h := it_t c_19 h
                refine lv_iconst (v := 0) hx hb dX11_holds_213 (by decide) ?_
                obtain ⟨hi_20, h⟩ := ck_n h
                refine g_iast hx hb hK hW hS (hB 250 bb_250) (fun _ => kd_250) hi_20 dX11_holds_214 (fun S_21 eS_21 H locs hW hS => ?_)
                have h := bn_at eS_21 h
                refine lv_goto (tgt := 342) hx hb dX11_holds_215 (by decide) ?_
                obtain ⟨x_22, ex_22⟩ : ∃ z : Int32, z = v4 + 1 := ⟨_, rfl⟩
                have h := bn_at ex_22 h
                refine lv_iinc (v := x_22) (lv' := [(4, .int x_22), (7, .int x_13), (6, .int x_11), (3, .int x_9), (5, .int x_6), (0, .ref (ad 200)), (1, .int v1), (2, .int v2)]) hx hb dX11_holds_342 hl (k := 7) rfl (by rw [ex_22]; rfl) (by decide) rfl (fun ls hl => ?_)
                refine lv_goto (tgt := 21) hx hb dX11_holds_345 (by decide) ?_
                exact ih _ _ _ h _ _ _ hW hS (lv_sub hl [5, 6, 7, 3, 0] rfl)
              · have h := it_f c_19 h
                refine lv_iconst (v := 1) hx hb dX11_holds_209 (by decide) ?_
                refine lv_goto (tgt := 214) hx hb dX11_holds_210 (by decide) ?_
                obtain ⟨hi_23, h⟩ := ck_n h
                refine g_iast hx hb hK hW hS (hB 250 bb_250) (fun _ => kd_250) hi_23 dX11_holds_214 (fun S_24 eS_24 H locs hW hS => ?_)
                have h := bn_at eS_24 h
                refine lv_goto (tgt := 342) hx hb dX11_holds_215 (by decide) ?_
                obtain ⟨x_25, ex_25⟩ : ∃ z : Int32, z = v4 + 1 := ⟨_, rfl⟩
                have h := bn_at ex_25 h
                refine lv_iinc (v := x_25) (lv' := [(4, .int x_25), (7, .int x_13), (6, .int x_11), (3, .int x_9), (5, .int x_6), (0, .ref (ad 200)), (1, .int v1), (2, .int v2)]) hx hb dX11_holds_342 hl (k := 7) rfl (by rw [ex_25]; rfl) (by decide) rfl (fun ls hl => ?_)
                refine lv_goto (tgt := 21) hx hb dX11_holds_345 (by decide) ?_
                exact ih _ _ _ h _ _ _ hW hS (lv_sub hl [5, 6, 7, 3, 0] rfl)
          have h := it_f c_14 h
          by_cases c_26 : x_6 = 42
          · have h := it_t c_26 h
            refine lv_tableIn (tgt := 218) hx hb dX11_holds_155 (by rw [c_26]; decide) (by rw [c_26]; decide) (by rw [c_26]; rfl) (by decide) ?_
            refine lv_aload_n hx hb dX11_holds_218 rfl (lv_at hl 4 rfl) ?_
            refine g_get (C := RX11) (T := TX11) (N := 67) (ci := 11) hx hb hts inX11 hown hK hW (hB 200 bb_200) kd_200 rfl 49 (by decide) mw_1010 rfl rfl dX11_holds_219 ?_
            refine lv_iload_n hx hb dX11_holds_222 rfl (lv_at hl 2 rfl) ?_
            refine lv_iconst (v := 1) hx hb dX11_holds_223 (by decide) ?_
            refine lv_isub hx hb dX11_holds_224 ?_
            refine lv_iload hx hb dX11_holds_225 (lv_at hl 1 rfl) ?_
            refine lv_if_eq (tgt := 239) hx hb dX11_holds_227 (by decide) (fun c_27 => ?_) (fun c_27 => ?_)
            · have h := it_t c_27 h
              refine lv_iconst (v := 0) hx hb dX11_holds_239 (by decide) ?_
              obtain ⟨hi_28, h⟩ := ck_n h
              refine g_iast hx hb hK hW hS (hB 250 bb_250) (fun _ => kd_250) hi_28 dX11_holds_240 (fun S_29 eS_29 H locs hW hS => ?_)
              have h := bn_at eS_29 h
              refine lv_goto (tgt := 342) hx hb dX11_holds_241 (by decide) ?_
              obtain ⟨x_30, ex_30⟩ : ∃ z : Int32, z = v4 + 1 := ⟨_, rfl⟩
              have h := bn_at ex_30 h
              refine lv_iinc (v := x_30) (lv' := [(4, .int x_30), (7, .int x_13), (6, .int x_11), (3, .int x_9), (5, .int x_6), (0, .ref (ad 200)), (1, .int v1), (2, .int v2)]) hx hb dX11_holds_342 hl (k := 7) rfl (by rw [ex_30]; rfl) (by decide) rfl (fun ls hl => ?_)
              refine lv_goto (tgt := 21) hx hb dX11_holds_345 (by decide) ?_
              exact ih _ _ _ h _ _ _ hW hS (lv_sub hl [5, 6, 7, 3, 0] rfl)
            · have h := it_f c_27 h
              refine lv_iload hx hb dX11_holds_230 (lv_at hl 0 rfl) ?_
              refine lv_if_eq (tgt := 239) hx hb dX11_holds_232 (by decide) (fun c_31 => ?_) (fun c_31 => ?_)
              · have h := it_t c_31 h
                refine lv_iconst (v := 0) hx hb dX11_holds_239 (by decide) ?_
                obtain ⟨hi_32, h⟩ := ck_n h
                refine g_iast hx hb hK hW hS (hB 250 bb_250) (fun _ => kd_250) hi_32 dX11_holds_240 (fun S_33 eS_33 H locs hW hS => ?_)
                have h := bn_at eS_33 h
                refine lv_goto (tgt := 342) hx hb dX11_holds_241 (by decide) ?_
                obtain ⟨x_34, ex_34⟩ : ∃ z : Int32, z = v4 + 1 := ⟨_, rfl⟩
                have h := bn_at ex_34 h
                refine lv_iinc (v := x_34) (lv' := [(4, .int x_34), (7, .int x_13), (6, .int x_11), (3, .int x_9), (5, .int x_6), (0, .ref (ad 200)), (1, .int v1), (2, .int v2)]) hx hb dX11_holds_342 hl (k := 7) rfl (by rw [ex_34]; rfl) (by decide) rfl (fun ls hl => ?_)
                refine lv_goto (tgt := 21) hx hb dX11_holds_345 (by decide) ?_
                exact ih _ _ _ h _ _ _ hW hS (lv_sub hl [5, 6, 7, 3, 0] rfl)
              · have h := it_f c_31 h
                refine lv_iconst (v := 1) hx hb dX11_holds_235 (by decide) ?_
                refine lv_goto (tgt := 240) hx hb dX11_holds_236 (by decide) ?_
                obtain ⟨hi_35, h⟩ := ck_n h
                refine g_iast hx hb hK hW hS (hB 250 bb_250) (fun _ => kd_250) hi_35 dX11_holds_240 (fun S_36 eS_36 H locs hW hS => ?_)
                have h := bn_at eS_36 h
                refine lv_goto (tgt := 342) hx hb dX11_holds_241 (by decide) ?_
                obtain ⟨x_37, ex_37⟩ : ∃ z : Int32, z = v4 + 1 := ⟨_, rfl⟩
                have h := bn_at ex_37 h
                refine lv_iinc (v := x_37) (lv' := [(4, .int x_37), (7, .int x_13), (6, .int x_11), (3, .int x_9), (5, .int x_6), (0, .ref (ad 200)), (1, .int v1), (2, .int v2)]) hx hb dX11_holds_342 hl (k := 7) rfl (by rw [ex_37]; rfl) (by decide) rfl (fun ls hl => ?_)
                refine lv_goto (tgt := 21) hx hb dX11_holds_345 (by decide) ?_
                exact ih _ _ _ h _ _ _ hW hS (lv_sub hl [5, 6, 7, 3, 0] rfl)
          have h := it_f c_26 h
          by_cases c_38 : x_6 = 43
          · have h := it_t c_38 h
            refine lv_tableIn (tgt := 244) hx hb dX11_holds_155 (by rw [c_38]; decide) (by rw [c_38]; decide) (by rw [c_38]; rfl) (by decide) ?_
            refine lv_aload_n hx hb dX11_holds_244 rfl (lv_at hl 4 rfl) ?_
            refine g_get (C := RX11) (T := TX11) (N := 67) (ci := 11) hx hb hts inX11 hown hK hW (hB 200 bb_200) kd_200 rfl 49 (by decide) mw_1010 rfl rfl dX11_holds_245 ?_
            refine lv_iload_n hx hb dX11_holds_248 rfl (lv_at hl 2 rfl) ?_
            refine lv_iconst (v := 1) hx hb dX11_holds_249 (by decide) ?_
            refine lv_isub hx hb dX11_holds_250 ?_
            refine lv_iload hx hb dX11_holds_251 (lv_at hl 1 rfl) ?_
            refine lv_iload hx hb dX11_holds_253 (lv_at hl 0 rfl) ?_
            refine lv_icmp_ne (tgt := 262) hx hb dX11_holds_255 (by decide) (fun c_39 => ?_) (fun c_39 => ?_)
            · have h := it_f c_39 h
              refine lv_iconst (v := 0) hx hb dX11_holds_262 (by decide) ?_
              obtain ⟨hi_40, h⟩ := ck_n h
              refine g_iast hx hb hK hW hS (hB 250 bb_250) (fun _ => kd_250) hi_40 dX11_holds_263 (fun S_41 eS_41 H locs hW hS => ?_)
              have h := bn_at eS_41 h
              refine lv_goto (tgt := 342) hx hb dX11_holds_264 (by decide) ?_
              obtain ⟨x_42, ex_42⟩ : ∃ z : Int32, z = v4 + 1 := ⟨_, rfl⟩
              have h := bn_at ex_42 h
              refine lv_iinc (v := x_42) (lv' := [(4, .int x_42), (7, .int x_13), (6, .int x_11), (3, .int x_9), (5, .int x_6), (0, .ref (ad 200)), (1, .int v1), (2, .int v2)]) hx hb dX11_holds_342 hl (k := 7) rfl (by rw [ex_42]; rfl) (by decide) rfl (fun ls hl => ?_)
              refine lv_goto (tgt := 21) hx hb dX11_holds_345 (by decide) ?_
              exact ih _ _ _ h _ _ _ hW hS (lv_sub hl [5, 6, 7, 3, 0] rfl)
            · have h := it_t c_39 h
              refine lv_iconst (v := 1) hx hb dX11_holds_258 (by decide) ?_
              refine lv_goto (tgt := 263) hx hb dX11_holds_259 (by decide) ?_
              obtain ⟨hi_43, h⟩ := ck_n h
              refine g_iast hx hb hK hW hS (hB 250 bb_250) (fun _ => kd_250) hi_43 dX11_holds_263 (fun S_44 eS_44 H locs hW hS => ?_)
              have h := bn_at eS_44 h
              refine lv_goto (tgt := 342) hx hb dX11_holds_264 (by decide) ?_
              obtain ⟨x_45, ex_45⟩ : ∃ z : Int32, z = v4 + 1 := ⟨_, rfl⟩
              have h := bn_at ex_45 h
              refine lv_iinc (v := x_45) (lv' := [(4, .int x_45), (7, .int x_13), (6, .int x_11), (3, .int x_9), (5, .int x_6), (0, .ref (ad 200)), (1, .int v1), (2, .int v2)]) hx hb dX11_holds_342 hl (k := 7) rfl (by rw [ex_45]; rfl) (by decide) rfl (fun ls hl => ?_)
              refine lv_goto (tgt := 21) hx hb dX11_holds_345 (by decide) ?_
              exact ih _ _ _ h _ _ _ hW hS (lv_sub hl [5, 6, 7, 3, 0] rfl)
          have h := it_f c_38 h
          by_cases c_46 : x_6 = 44
          · have h := it_t c_46 h
            refine lv_tableIn (tgt := 267) hx hb dX11_holds_155 (by rw [c_46]; decide) (by rw [c_46]; decide) (by rw [c_46]; rfl) (by decide) ?_
            refine lv_aload_n hx hb dX11_holds_267 rfl (lv_at hl 4 rfl) ?_
            refine g_get (C := RX11) (T := TX11) (N := 67) (ci := 11) hx hb hts inX11 hown hK hW (hB 200 bb_200) kd_200 rfl 49 (by decide) mw_1010 rfl rfl dX11_holds_268 ?_
            refine lv_iload_n hx hb dX11_holds_271 rfl (lv_at hl 2 rfl) ?_
            refine lv_iconst (v := 1) hx hb dX11_holds_272 (by decide) ?_
            refine lv_isub hx hb dX11_holds_273 ?_
            refine lv_iload hx hb dX11_holds_274 (lv_at hl 1 rfl) ?_
            refine lv_iload hx hb dX11_holds_276 (lv_at hl 0 rfl) ?_
            refine lv_icmp_ge (tgt := 285) hx hb dX11_holds_278 (by decide) (fun c_47 => ?_) (fun c_47 => ?_)
            · have h := it_t c_47 h
              refine lv_iconst (v := 0) hx hb dX11_holds_285 (by decide) ?_
              obtain ⟨hi_48, h⟩ := ck_n h
              refine g_iast hx hb hK hW hS (hB 250 bb_250) (fun _ => kd_250) hi_48 dX11_holds_286 (fun S_49 eS_49 H locs hW hS => ?_)
              have h := bn_at eS_49 h
              refine lv_goto (tgt := 342) hx hb dX11_holds_287 (by decide) ?_
              obtain ⟨x_50, ex_50⟩ : ∃ z : Int32, z = v4 + 1 := ⟨_, rfl⟩
              have h := bn_at ex_50 h
              refine lv_iinc (v := x_50) (lv' := [(4, .int x_50), (7, .int x_13), (6, .int x_11), (3, .int x_9), (5, .int x_6), (0, .ref (ad 200)), (1, .int v1), (2, .int v2)]) hx hb dX11_holds_342 hl (k := 7) rfl (by rw [ex_50]; rfl) (by decide) rfl (fun ls hl => ?_)
              refine lv_goto (tgt := 21) hx hb dX11_holds_345 (by decide) ?_
              exact ih _ _ _ h _ _ _ hW hS (lv_sub hl [5, 6, 7, 3, 0] rfl)
            · have h := it_f c_47 h
              refine lv_iconst (v := 1) hx hb dX11_holds_281 (by decide) ?_
              refine lv_goto (tgt := 286) hx hb dX11_holds_282 (by decide) ?_
              obtain ⟨hi_51, h⟩ := ck_n h
              refine g_iast hx hb hK hW hS (hB 250 bb_250) (fun _ => kd_250) hi_51 dX11_holds_286 (fun S_52 eS_52 H locs hW hS => ?_)
              have h := bn_at eS_52 h
              refine lv_goto (tgt := 342) hx hb dX11_holds_287 (by decide) ?_
              obtain ⟨x_53, ex_53⟩ : ∃ z : Int32, z = v4 + 1 := ⟨_, rfl⟩
              have h := bn_at ex_53 h
              refine lv_iinc (v := x_53) (lv' := [(4, .int x_53), (7, .int x_13), (6, .int x_11), (3, .int x_9), (5, .int x_6), (0, .ref (ad 200)), (1, .int v1), (2, .int v2)]) hx hb dX11_holds_342 hl (k := 7) rfl (by rw [ex_53]; rfl) (by decide) rfl (fun ls hl => ?_)
              refine lv_goto (tgt := 21) hx hb dX11_holds_345 (by decide) ?_
              exact ih _ _ _ h _ _ _ hW hS (lv_sub hl [5, 6, 7, 3, 0] rfl)
          have h := it_f c_46 h
          by_cases c_54 : x_6 = 45
          · have h := it_t c_54 h
            refine lv_tableIn (tgt := 290) hx hb dX11_holds_155 (by rw [c_54]; decide) (by rw [c_54]; decide) (by rw [c_54]; rfl) (by decide) ?_
            refine lv_aload_n hx hb dX11_holds_290 rfl (lv_at hl 4 rfl) ?_
            refine g_get (C := RX11) (T := TX11) (N := 67) (ci := 11) hx hb hts inX11 hown hK hW (hB 200 bb_200) kd_200 rfl 49 (by decide) mw_1010 rfl rfl dX11_holds_291 ?_
            refine lv_iload_n hx hb dX11_holds_294 rfl (lv_at hl 2 rfl) ?_
            refine lv_iconst (v := 1) hx hb dX11_holds_295 (by decide) ?_
            refine lv_isub hx hb dX11_holds_296 ?_
            refine lv_iload hx hb dX11_holds_297 (lv_at hl 1 rfl) ?_
            refine lv_iload hx hb dX11_holds_299 (lv_at hl 0 rfl) ?_
            refine lv_icmp_le (tgt := 308) hx hb dX11_holds_301 (by decide) (fun c_55 => ?_) (fun c_55 => ?_)
            · have h := it_t c_55 h
              refine lv_iconst (v := 0) hx hb dX11_holds_308 (by decide) ?_
              obtain ⟨hi_56, h⟩ := ck_n h
              refine g_iast hx hb hK hW hS (hB 250 bb_250) (fun _ => kd_250) hi_56 dX11_holds_309 (fun S_57 eS_57 H locs hW hS => ?_)
              have h := bn_at eS_57 h
              refine lv_goto (tgt := 342) hx hb dX11_holds_310 (by decide) ?_
              obtain ⟨x_58, ex_58⟩ : ∃ z : Int32, z = v4 + 1 := ⟨_, rfl⟩
              have h := bn_at ex_58 h
              refine lv_iinc (v := x_58) (lv' := [(4, .int x_58), (7, .int x_13), (6, .int x_11), (3, .int x_9), (5, .int x_6), (0, .ref (ad 200)), (1, .int v1), (2, .int v2)]) hx hb dX11_holds_342 hl (k := 7) rfl (by rw [ex_58]; rfl) (by decide) rfl (fun ls hl => ?_)
              refine lv_goto (tgt := 21) hx hb dX11_holds_345 (by decide) ?_
              exact ih _ _ _ h _ _ _ hW hS (lv_sub hl [5, 6, 7, 3, 0] rfl)
            · have h := it_f c_55 h
              refine lv_iconst (v := 1) hx hb dX11_holds_304 (by decide) ?_
              refine lv_goto (tgt := 309) hx hb dX11_holds_305 (by decide) ?_
              obtain ⟨hi_59, h⟩ := ck_n h
              refine g_iast hx hb hK hW hS (hB 250 bb_250) (fun _ => kd_250) hi_59 dX11_holds_309 (fun S_60 eS_60 H locs hW hS => ?_)
              have h := bn_at eS_60 h
              refine lv_goto (tgt := 342) hx hb dX11_holds_310 (by decide) ?_
              obtain ⟨x_61, ex_61⟩ : ∃ z : Int32, z = v4 + 1 := ⟨_, rfl⟩
              have h := bn_at ex_61 h
              refine lv_iinc (v := x_61) (lv' := [(4, .int x_61), (7, .int x_13), (6, .int x_11), (3, .int x_9), (5, .int x_6), (0, .ref (ad 200)), (1, .int v1), (2, .int v2)]) hx hb dX11_holds_342 hl (k := 7) rfl (by rw [ex_61]; rfl) (by decide) rfl (fun ls hl => ?_)
              refine lv_goto (tgt := 21) hx hb dX11_holds_345 (by decide) ?_
              exact ih _ _ _ h _ _ _ hW hS (lv_sub hl [5, 6, 7, 3, 0] rfl)
          have h := it_f c_54 h
          by_cases c_62 : x_6 = 46
          · have h := it_t c_62 h
            refine lv_tableIn (tgt := 313) hx hb dX11_holds_155 (by rw [c_62]; decide) (by rw [c_62]; decide) (by rw [c_62]; rfl) (by decide) ?_
            refine lv_aload_n hx hb dX11_holds_313 rfl (lv_at hl 4 rfl) ?_
            refine g_get (C := RX11) (T := TX11) (N := 67) (ci := 11) hx hb hts inX11 hown hK hW (hB 200 bb_200) kd_200 rfl 49 (by decide) mw_1010 rfl rfl dX11_holds_314 ?_
            refine lv_iload_n hx hb dX11_holds_317 rfl (lv_at hl 2 rfl) ?_
            refine lv_iconst (v := 1) hx hb dX11_holds_318 (by decide) ?_
            refine lv_isub hx hb dX11_holds_319 ?_
            refine lv_iload hx hb dX11_holds_320 (lv_at hl 1 rfl) ?_
            refine lv_iload hx hb dX11_holds_322 (lv_at hl 0 rfl) ?_
            refine lv_iadd hx hb dX11_holds_324 ?_
            obtain ⟨hi_63, h⟩ := ck_n h
            refine g_iast hx hb hK hW hS (hB 250 bb_250) (fun _ => kd_250) hi_63 dX11_holds_325 (fun S_64 eS_64 H locs hW hS => ?_)
            have h := bn_at eS_64 h
            refine lv_goto (tgt := 342) hx hb dX11_holds_326 (by decide) ?_
            obtain ⟨x_65, ex_65⟩ : ∃ z : Int32, z = v4 + 1 := ⟨_, rfl⟩
            have h := bn_at ex_65 h
            refine lv_iinc (v := x_65) (lv' := [(4, .int x_65), (7, .int x_13), (6, .int x_11), (3, .int x_9), (5, .int x_6), (0, .ref (ad 200)), (1, .int v1), (2, .int v2)]) hx hb dX11_holds_342 hl (k := 7) rfl (by rw [ex_65]; rfl) (by decide) rfl (fun ls hl => ?_)
            refine lv_goto (tgt := 21) hx hb dX11_holds_345 (by decide) ?_
            exact ih _ _ _ h _ _ _ hW hS (lv_sub hl [5, 6, 7, 3, 0] rfl)
          have h := it_f c_62 h
          have nc_14 := lv_neT c_14 (a := 41) rfl
          have nc_26 := lv_neT c_26 (a := 42) rfl
          have nc_38 := lv_neT c_38 (a := 43) rfl
          have nc_46 := lv_neT c_46 (a := 44) rfl
          have nc_54 := lv_neT c_54 (a := 45) rfl
          have nc_62 := lv_neT c_62 (a := 46) rfl
          refine lv_tableOut (tgt := 329) hx hb dX11_holds_155 (by omega) (by decide) ?_
          refine lv_aload_n hx hb dX11_holds_329 rfl (lv_at hl 4 rfl) ?_
          refine g_get (C := RX11) (T := TX11) (N := 67) (ci := 11) hx hb hts inX11 hown hK hW (hB 200 bb_200) kd_200 rfl 49 (by decide) mw_1010 rfl rfl dX11_holds_330 ?_
          refine lv_iload_n hx hb dX11_holds_333 rfl (lv_at hl 2 rfl) ?_
          refine lv_iconst (v := 1) hx hb dX11_holds_334 (by decide) ?_
          refine lv_isub hx hb dX11_holds_335 ?_
          refine lv_iload hx hb dX11_holds_336 (lv_at hl 1 rfl) ?_
          refine lv_iload hx hb dX11_holds_338 (lv_at hl 0 rfl) ?_
          refine lv_isub hx hb dX11_holds_340 ?_
          obtain ⟨hi_66, h⟩ := ck_n h
          refine g_iast hx hb hK hW hS (hB 250 bb_250) (fun _ => kd_250) hi_66 dX11_holds_341 (fun S_67 eS_67 H locs hW hS => ?_)
          have h := bn_at eS_67 h
          obtain ⟨x_68, ex_68⟩ : ∃ z : Int32, z = v4 + 1 := ⟨_, rfl⟩
          have h := bn_at ex_68 h
          refine lv_iinc (v := x_68) (lv' := [(4, .int x_68), (7, .int x_13), (6, .int x_11), (3, .int x_9), (5, .int x_6), (0, .ref (ad 200)), (1, .int v1), (2, .int v2)]) hx hb dX11_holds_342 hl (k := 7) rfl (by rw [ex_68]; rfl) (by decide) rfl (fun ls hl => ?_)
          refine lv_goto (tgt := 21) hx hb dX11_holds_345 (by decide) ?_
          exact ih _ _ _ h _ _ _ hW hS (lv_sub hl [5, 6, 7, 3, 0] rfl)
        · have h := it_t c_8 h
          refine lv_aload_n hx hb dX11_holds_105 rfl (lv_at hl 1 rfl) ?_
          refine g_get (C := RX11) (T := TX11) (N := 67) (ci := 11) hx hb hts inX11 hown hK hW (hB 200 bb_200) kd_200 rfl 49 (by decide) mw_1010 rfl rfl dX11_holds_106 ?_
          refine lv_iload_n hx hb dX11_holds_109 rfl (lv_at hl 4 rfl) ?_
          refine lv_iconst (v := 1) hx hb dX11_holds_110 (by decide) ?_
          refine lv_isub hx hb dX11_holds_111 ?_
          refine lv_aload_n hx hb dX11_holds_112 rfl (lv_at hl 1 rfl) ?_
          refine g_get (C := RX11) (T := TX11) (N := 67) (ci := 11) hx hb hts inX11 hown hK hW (hB 200 bb_200) kd_200 rfl 49 (by decide) mw_1010 rfl rfl dX11_holds_113 ?_
          refine lv_iload_n hx hb dX11_holds_116 rfl (lv_at hl 4 rfl) ?_
          refine lv_iconst (v := 1) hx hb dX11_holds_117 (by decide) ?_
          refine lv_isub hx hb dX11_holds_118 ?_
          obtain ⟨hi_69, h⟩ := ck_n h
          refine g_iald hx hb hK hW (hB 250 bb_250) kd_250 hi_69 dX11_holds_119 ?_
          refine lv_if_ne (tgt := 127) hx hb dX11_holds_120 (by decide) (fun c_70 => ?_) (fun c_70 => ?_)
          · have h := it_f c_70 h
            refine lv_iconst (v := 0) hx hb dX11_holds_127 (by decide) ?_
            obtain ⟨hi_71, h⟩ := ck_n h
            refine g_iast hx hb hK hW hS (hB 250 bb_250) (fun _ => kd_250) hi_71 dX11_holds_128 (fun S_72 eS_72 H locs hW hS => ?_)
            have h := bn_at eS_72 h
            refine lv_goto (tgt := 342) hx hb dX11_holds_129 (by decide) ?_
            obtain ⟨x_73, ex_73⟩ : ∃ z : Int32, z = v4 + 1 := ⟨_, rfl⟩
            have h := bn_at ex_73 h
            refine lv_iinc (v := x_73) (lv' := [(4, .int x_73), (5, .int x_6), (0, .ref (ad 200)), (1, .int v1), (2, .int v2), (3, .int v3)]) hx hb dX11_holds_342 hl (k := 5) rfl (by rw [ex_73]; rfl) (by decide) rfl (fun ls hl => ?_)
            refine lv_goto (tgt := 21) hx hb dX11_holds_345 (by decide) ?_
            exact ih _ _ _ h _ _ _ hW hS (lv_sub hl [2, 3, 4, 5, 0] rfl)
          · have h := it_t c_70 h
            refine lv_iconst (v := 1) hx hb dX11_holds_123 (by decide) ?_
            refine lv_goto (tgt := 128) hx hb dX11_holds_124 (by decide) ?_
            obtain ⟨hi_74, h⟩ := ck_n h
            refine g_iast hx hb hK hW hS (hB 250 bb_250) (fun _ => kd_250) hi_74 dX11_holds_128 (fun S_75 eS_75 H locs hW hS => ?_)
            have h := bn_at eS_75 h
            refine lv_goto (tgt := 342) hx hb dX11_holds_129 (by decide) ?_
            obtain ⟨x_76, ex_76⟩ : ∃ z : Int32, z = v4 + 1 := ⟨_, rfl⟩
            have h := bn_at ex_76 h
            refine lv_iinc (v := x_76) (lv' := [(4, .int x_76), (5, .int x_6), (0, .ref (ad 200)), (1, .int v1), (2, .int v2), (3, .int v3)]) hx hb dX11_holds_342 hl (k := 5) rfl (by rw [ex_76]; rfl) (by decide) rfl (fun ls hl => ?_)
            refine lv_goto (tgt := 21) hx hb dX11_holds_345 (by decide) ?_
            exact ih _ _ _ h _ _ _ hW hS (lv_sub hl [2, 3, 4, 5, 0] rfl)
      · have h := it_f c_7 h
        refine lv_aload_n hx hb dX11_holds_61 rfl (lv_at hl 1 rfl) ?_
        refine g_get (C := RX11) (T := TX11) (N := 67) (ci := 11) hx hb hts inX11 hown hK hW (hB 200 bb_200) kd_200 rfl 49 (by decide) mw_1010 rfl rfl dX11_holds_62 ?_
        refine lv_iload_n hx hb dX11_holds_65 rfl (lv_at hl 4 rfl) ?_
        refine lv_iload hx hb dX11_holds_66 (lv_at hl 0 rfl) ?_
        refine lv_if_ne (tgt := 81) hx hb dX11_holds_68 (by decide) (fun c_77 => ?_) (fun c_77 => ?_)
        · have h := it_f c_77 h
          refine lv_aload_n hx hb dX11_holds_81 rfl (lv_at hl 1 rfl) ?_
          refine g_get (C := RX11) (T := TX11) (N := 67) (ci := 11) hx hb hts inX11 hown hK hW (hB 200 bb_200) kd_200 rfl 50 (by decide) mw_1011 rfl rfl dX11_holds_82 ?_
          refine lv_iload hx hb dX11_holds_85 (lv_at hl 0 rfl) ?_
          refine lv_bipush (v := 20) hx hb dX11_holds_87 (by decide) ?_
          refine lv_isub hx hb dX11_holds_89 ?_
          obtain ⟨hi_78, h⟩ := ck_n h
          refine g_iald hx hb hK hW (hB 251 bb_251) kd_251 hi_78 dX11_holds_90 ?_
          obtain ⟨hi_79, h⟩ := ck_n h
          refine g_iast hx hb hK hW hS (hB 250 bb_250) (fun _ => kd_250) hi_79 dX11_holds_91 (fun S_80 eS_80 H locs hW hS => ?_)
          have h := bn_at eS_80 h
          obtain ⟨x_81, ex_81⟩ : ∃ z : Int32, z = v3 + 1 := ⟨_, rfl⟩
          have h := bn_at ex_81 h
          refine lv_iinc (v := x_81) (lv' := [(3, .int x_81), (5, .int x_6), (0, .ref (ad 200)), (1, .int v1), (2, .int v2), (4, .int v4)]) hx hb dX11_holds_92 hl (k := 4) rfl (by rw [ex_81]; rfl) (by decide) rfl (fun ls hl => ?_)
          refine lv_goto (tgt := 342) hx hb dX11_holds_95 (by decide) ?_
          obtain ⟨x_82, ex_82⟩ : ∃ z : Int32, z = v4 + 1 := ⟨_, rfl⟩
          have h := bn_at ex_82 h
          refine lv_iinc (v := x_82) (lv' := [(4, .int x_82), (3, .int x_81), (5, .int x_6), (0, .ref (ad 200)), (1, .int v1), (2, .int v2)]) hx hb dX11_holds_342 hl (k := 5) rfl (by rw [ex_82]; rfl) (by decide) rfl (fun ls hl => ?_)
          refine lv_goto (tgt := 21) hx hb dX11_holds_345 (by decide) ?_
          exact ih _ _ _ h _ _ _ hW hS (lv_sub hl [3, 4, 5, 1, 0] rfl)
        · have h := it_t c_77 h
          refine lv_aload_n hx hb dX11_holds_71 rfl (lv_at hl 1 rfl) ?_
          refine g_get (C := RX11) (T := TX11) (N := 67) (ci := 11) hx hb hts inX11 hown hK hW (hB 200 bb_200) kd_200 rfl 23 (by decide) mw_984 rfl rfl dX11_holds_72 ?_
          refine lv_iload hx hb dX11_holds_75 (lv_at hl 5 rfl) ?_
          obtain ⟨hi_83, h⟩ := ck_n h
          refine g_iald hx hb hK hW (hB 224 bb_224) kd_224 hi_83 dX11_holds_77 ?_
          refine lv_goto (tgt := 91) hx hb dX11_holds_78 (by decide) ?_
          obtain ⟨hi_84, h⟩ := ck_n h
          refine g_iast hx hb hK hW hS (hB 250 bb_250) (fun _ => kd_250) hi_84 dX11_holds_91 (fun S_85 eS_85 H locs hW hS => ?_)
          have h := bn_at eS_85 h
          obtain ⟨x_86, ex_86⟩ : ∃ z : Int32, z = v3 + 1 := ⟨_, rfl⟩
          have h := bn_at ex_86 h
          refine lv_iinc (v := x_86) (lv' := [(3, .int x_86), (5, .int x_6), (0, .ref (ad 200)), (1, .int v1), (2, .int v2), (4, .int v4)]) hx hb dX11_holds_92 hl (k := 4) rfl (by rw [ex_86]; rfl) (by decide) rfl (fun ls hl => ?_)
          refine lv_goto (tgt := 342) hx hb dX11_holds_95 (by decide) ?_
          obtain ⟨x_87, ex_87⟩ : ∃ z : Int32, z = v4 + 1 := ⟨_, rfl⟩
          have h := bn_at ex_87 h
          refine lv_iinc (v := x_87) (lv' := [(4, .int x_87), (3, .int x_86), (5, .int x_6), (0, .ref (ad 200)), (1, .int v1), (2, .int v2)]) hx hb dX11_holds_342 hl (k := 5) rfl (by rw [ex_87]; rfl) (by decide) rfl (fun ls hl => ?_)
          refine lv_goto (tgt := 21) hx hb dX11_holds_345 (by decide) ?_
          exact ih _ _ _ h _ _ _ hW hS (lv_sub hl [3, 4, 5, 1, 0] rfl)
def f_X11_holds (N : Nat) (S : St) (p1 : Int32) (p2 : Int32) : Option (Int32 × St) := if ((10 * p1) + p2) < 0 ∨ 60 ≤ ix ((10 * p1) + p2) then none else bn ((500 * p1) + (gv S 225 (ix ((10 * p1) + p2)))) fun x_2 => f_X11_holds_l21 N p1 p2 (fun S_88 => if (gv S_88 250 (ix 0)) = 0 then (some (0, S_88)) else (some (1, S_88))) N S 0 x_2
set_option maxHeartbeats 4000000 in
theorem t_X11_holds (C : MC p s m args meth c cX11_holds 8 (some .boolean) RX11 g A) (hB : Lk L) {S : St} {r : Int32} {S9 : St} {p1 : Int32} {p2 : Int32} (h : f_X11_holds N S p1 p2 = some (r, S9)) {H : Heap} {locs : List Loc} {ls : Array Slot} (hW : GW g A ad L S H) (hS : va_S A s.heap H locs) (hl : lv_has ls 8 [(0, .ref (ad 200)), (1, .int p1), (2, .int p2)]) : W p l e (rmk 1) s m args below meth c H locs 0 0 (MQ below (qz g A ad L r S9) args s 0 0 A) (F0 m 0 ls []) := by
  obtain ⟨hx, hb, hml, hown, hts, hr, hlocks, hK, hN, hT⟩ := id C
  unfold f_X11_holds at h
  refine lv_iconst (v := 0) hx hb dX11_holds_0 (by decide) ?_
  refine lv_istore_n (lv' := [(3, .int 0), (0, .ref (ad 200)), (1, .int p1), (2, .int p2)]) hx hb dX11_holds_1 rfl hl (by decide) rfl (fun ls hl => ?_)
  refine lv_sipush (v := 500) hx hb dX11_holds_2 (by decide) ?_
  refine lv_iload_n hx hb dX11_holds_5 rfl (lv_at hl 2 rfl) ?_
  refine lv_imul hx hb dX11_holds_6 ?_
  refine lv_aload_n hx hb dX11_holds_7 rfl (lv_at hl 1 rfl) ?_
  refine g_get (C := RX11) (T := TX11) (N := 67) (ci := 11) hx hb hts inX11 hown hK hW (hB 200 bb_200) kd_200 rfl 24 (by decide) mw_985 rfl rfl dX11_holds_8 ?_
  refine lv_bipush (v := 10) hx hb dX11_holds_11 (by decide) ?_
  refine lv_iload_n hx hb dX11_holds_13 rfl (lv_at hl 2 rfl) ?_
  refine lv_imul hx hb dX11_holds_14 ?_
  refine lv_iload_n hx hb dX11_holds_15 rfl (lv_at hl 3 rfl) ?_
  refine lv_iadd hx hb dX11_holds_16 ?_
  obtain ⟨hi_1, h⟩ := ck_n h
  refine g_iald hx hb hK hW (hB 225 bb_225) kd_225 hi_1 dX11_holds_17 ?_
  refine lv_iadd hx hb dX11_holds_18 ?_
  refine lv_topi (fun x_2 ex_2 => ?_)
  have h := bn_at ex_2 h
  refine lv_istore (lv' := [(4, .int x_2), (3, .int 0), (0, .ref (ad 200)), (1, .int p1), (2, .int p2)]) hx hb dX11_holds_19 hl (by decide) rfl (fun ls hl => ?_)
  refine t_X11_holds_l21 C hB ?_ _ _ _ _ h _ _ _ hW hS (lv_sub hl [2, 3, 4, 1, 0] rfl)
  intro S_88 h H locs ls hW hS hl
  refine lv_aload_n hx hb dX11_holds_348 rfl (lv_at hl 0 rfl) ?_
  refine g_get (C := RX11) (T := TX11) (N := 67) (ci := 11) hx hb hts inX11 hown hK hW (hB 200 bb_200) kd_200 rfl 49 (by decide) mw_1010 rfl rfl dX11_holds_349 ?_
  refine lv_iconst (v := 0) hx hb dX11_holds_352 (by decide) ?_
  refine g_iald hx hb hK hW (hB 250 bb_250) kd_250 (by decide) dX11_holds_353 ?_
  refine lv_if_eq (tgt := 361) hx hb dX11_holds_354 (by decide) (fun c_89 => ?_) (fun c_89 => ?_)
  · have h := it_t c_89 h
    refine lv_iconst (v := 0) hx hb dX11_holds_361 (by decide) ?_
    cases h
    exact g_zret hx hb hr hlocks hW hS (rfl) dX11_holds_362
  · have h := it_f c_89 h
    refine lv_iconst (v := 1) hx hb dX11_holds_357 (by decide) ?_
    refine lv_goto (tgt := 362) hx hb dX11_holds_358 (by decide) ?_
    cases h
    exact g_zret hx hb hr hlocks hW hS (rfl) dX11_holds_362
theorem c_X11_holds (hB : Lk L) {S : St} {r : Int32} {S9 : St} {p1 : Int32} {p2 : Int32} (h : f_X11_holds N S p1 p2 = some (r, S9)) : Met l yX11_holds (gws yX11_holds cX11_holds 8 (some .boolean)) (rmk 1) (va_Pc [.ref (ad 200), .int p1, .int p2] (WU g A ad L S)) (qz g A ad L r S9) 0 0 A :=
  g_met [.ref (ad 200), .int p1, .int p2] (by decide) (Nat.le_of_ble_eq_true rfl) (fun p e s m below meth c ls C hW hl _ => t_X11_holds C hB h hW va_S.rf hl)
theorem hv_X11_holds : yX11_holds.cls = RX11 ∧ yX11_holds.cls ≠ "java/lang/invoke/MethodHandle" ∧ yX11_holds.cls ≠ "java/lang/invoke/VarHandle" ∧ (parseMethodDescriptor yX11_holds.desc).map (fun d => d.parameters.length) = some 2 := by decide +kernel
/-! DroveRoadsModel.earn -/
def f_X11_earn_j50 (S : St) (v1 : Int32) (v2 : Int32) (w101 : Int32) (w102 : Int32) : Option (St) := if w101 < 0 ∨ 6 ≤ ix w101 then none else bn (sv S 218 (ix w101) w102) fun S_7 => if v1 < 0 ∨ 6 ≤ ix v1 then none else if v1 < 0 ∨ 6 ≤ ix v1 then none else bn (sv S_7 212 (ix v1) ((gv S_7 212 (ix v1)) - v2)) fun S_10 => if v1 < 0 ∨ 6 ≤ ix v1 then none else if v1 < 0 ∨ 6 ≤ ix v1 then none else bn (sv S_10 220 (ix v1) ((gv S_10 220 (ix v1)) + v2)) fun S_13 => some S_13
set_option maxHeartbeats 4000000 in
theorem t_X11_earn_j50 (C : MC p s m args meth c cX11_earn 7 none RX11 g A) (hB : Lk L) {S : St} {S9 : St} {v1 : Int32} {v2 : Int32} {w101 : Int32} {w102 : Int32} (h : f_X11_earn_j50 S v1 v2 w101 w102 = some S9) {H : Heap} {locs : List Loc} {ls : Array Slot} (hW : GW g A ad L S H) (hS : va_S A s.heap H locs) (hl : lv_has ls 7 [(0, .ref (ad 200)), (1, .int v1), (2, .int v2)]) : W p l e (rmk 1) s m args below meth c H locs 0 0 (MQ below (qv g A ad L S9) args s 0 0 A) (F0 m 50 ls [.int w102, .int w101, .ref (ad 218)]) := by
  obtain ⟨hx, hb, hml, hown, hts, hr, hlocks, hK, hN, hT⟩ := id C
  unfold f_X11_earn_j50 at h
  obtain ⟨hi_6, h⟩ := ck_n h
  refine g_iast hx hb hK hW hS (hB 218 bb_218) (fun _ => kd_218) hi_6 dX11_earn_50 (fun S_7 eS_7 H locs hW hS => ?_)
  have h := bn_at eS_7 h
  refine lv_aload_n hx hb dX11_earn_51 rfl (lv_at hl 0 rfl) ?_
  refine g_get (C := RX11) (T := TX11) (N := 67) (ci := 11) hx hb hts inX11 hown hK hW (hB 200 bb_200) kd_200 rfl 11 (by decide) mw_972 rfl rfl dX11_earn_52 ?_
  refine lv_iload_n hx hb dX11_earn_55 rfl (lv_at hl 1 rfl) ?_
  refine lv_dup2_11 hx hb dX11_earn_56 rfl rfl ?_
  obtain ⟨hi_8, h⟩ := ck_n h
  refine g_iald hx hb hK hW (hB 212 bb_212) kd_212 hi_8 dX11_earn_57 ?_
  refine lv_iload_n hx hb dX11_earn_58 rfl (lv_at hl 2 rfl) ?_
  refine lv_isub hx hb dX11_earn_59 ?_
  obtain ⟨hi_9, h⟩ := ck_n h
  refine g_iast hx hb hK hW hS (hB 212 bb_212) (fun _ => kd_212) hi_9 dX11_earn_60 (fun S_10 eS_10 H locs hW hS => ?_)
  have h := bn_at eS_10 h
  refine lv_aload_n hx hb dX11_earn_61 rfl (lv_at hl 0 rfl) ?_
  refine g_get (C := RX11) (T := TX11) (N := 67) (ci := 11) hx hb hts inX11 hown hK hW (hB 200 bb_200) kd_200 rfl 19 (by decide) mw_980 rfl rfl dX11_earn_62 ?_
  refine lv_iload_n hx hb dX11_earn_65 rfl (lv_at hl 1 rfl) ?_
  refine lv_dup2_11 hx hb dX11_earn_66 rfl rfl ?_
  obtain ⟨hi_11, h⟩ := ck_n h
  refine g_iald hx hb hK hW (hB 220 bb_220) kd_220 hi_11 dX11_earn_67 ?_
  refine lv_iload_n hx hb dX11_earn_68 rfl (lv_at hl 2 rfl) ?_
  refine lv_iadd hx hb dX11_earn_69 ?_
  obtain ⟨hi_12, h⟩ := ck_n h
  refine g_iast hx hb hK hW hS (hB 220 bb_220) (fun _ => kd_220) hi_12 dX11_earn_70 (fun S_13 eS_13 H locs hW hS => ?_)
  have h := bn_at eS_13 h
  cases h
  exact g_vret hx hb hr hlocks hW hS dX11_earn_71
def f_X11_earn (S : St) (p1 : Int32) (p2 : Int32) (p3 : Int32) (p4 : Int32) : Option (St) := if p1 < 0 ∨ 6 ≤ ix p1 then none else if p1 < 0 ∨ 6 ≤ ix p1 then none else if p4.toInt64 = 0 then none else bn ((gv S 218 (ix p1)).toInt64 + (((p2.toInt64 * (gv S 213 (ix p1)).toInt64) * p3.toInt64) / p4.toInt64)) fun x_4 => if (lg_cmp x_4 2000000000) ≤ 0 then (f_X11_earn_j50 S p1 p2 p1 (x_4.toInt32)) else (f_X11_earn_j50 S p1 p2 p1 2000000000)
set_option maxHeartbeats 4000000 in
theorem t_X11_earn (C : MC p s m args meth c cX11_earn 7 none RX11 g A) (hB : Lk L) {S : St} {S9 : St} {p1 : Int32} {p2 : Int32} {p3 : Int32} {p4 : Int32} (h : f_X11_earn S p1 p2 p3 p4 = some S9) {H : Heap} {locs : List Loc} {ls : Array Slot} (hW : GW g A ad L S H) (hS : va_S A s.heap H locs) (hl : lv_has ls 7 [(0, .ref (ad 200)), (1, .int p1), (2, .int p2), (3, .int p3), (4, .int p4)]) : W p l e (rmk 1) s m args below meth c H locs 0 0 (MQ below (qv g A ad L S9) args s 0 0 A) (F0 m 0 ls []) := by
  obtain ⟨hx, hb, hml, hown, hts, hr, hlocks, hK, hN, hT⟩ := id C
  unfold f_X11_earn at h
  refine lv_aload_n hx hb dX11_earn_0 rfl (lv_at hl 0 rfl) ?_
  refine g_get (C := RX11) (T := TX11) (N := 67) (ci := 11) hx hb hts inX11 hown hK hW (hB 200 bb_200) kd_200 rfl 17 (by decide) mw_978 rfl rfl dX11_earn_1 ?_
  refine lv_iload_n hx hb dX11_earn_4 rfl (lv_at hl 1 rfl) ?_
  obtain ⟨hi_1, h⟩ := ck_n h
  refine g_iald hx hb hK hW (hB 218 bb_218) kd_218 hi_1 dX11_earn_5 ?_
  refine lv_i2l hx hb dX11_earn_6 rfl ?_
  refine lv_iload_n hx hb dX11_earn_7 rfl (lv_at hl 2 rfl) ?_
  refine lv_i2l hx hb dX11_earn_8 rfl ?_
  refine lv_aload_n hx hb dX11_earn_9 rfl (lv_at hl 0 rfl) ?_
  refine g_get (C := RX11) (T := TX11) (N := 67) (ci := 11) hx hb hts inX11 hown hK hW (hB 200 bb_200) kd_200 rfl 12 (by decide) mw_973 rfl rfl dX11_earn_10 ?_
  refine lv_iload_n hx hb dX11_earn_13 rfl (lv_at hl 1 rfl) ?_
  obtain ⟨hi_2, h⟩ := ck_n h
  refine g_iald hx hb hK hW (hB 213 bb_213) kd_213 hi_2 dX11_earn_14 ?_
  refine lv_i2l hx hb dX11_earn_15 rfl ?_
  refine lv_lmul hx hb dX11_earn_16 ?_
  refine lv_iload_n hx hb dX11_earn_17 rfl (lv_at hl 3 rfl) ?_
  refine lv_i2l hx hb dX11_earn_18 rfl ?_
  refine lv_lmul hx hb dX11_earn_19 ?_
  refine lv_iload hx hb dX11_earn_20 (lv_at hl 4 rfl) ?_
  refine lv_i2l hx hb dX11_earn_22 rfl ?_
  obtain ⟨hd_3, h⟩ := ck_n h
  refine lv_ldiv hx hb dX11_earn_23 hd_3 ?_
  refine lv_ladd hx hb dX11_earn_24 ?_
  refine lv_topl (fun x_4 ex_4 => ?_)
  have h := bn_at ex_4 h
  refine lv_lstore (lv' := [(5, .long x_4), (0, .ref (ad 200)), (1, .int p1), (2, .int p2), (3, .int p3), (4, .int p4)]) hx hb dX11_earn_25 hl (by decide) rfl (fun ls hl => ?_)
  refine lv_aload_n hx hb dX11_earn_27 rfl (lv_at hl 1 rfl) ?_
  refine g_get (C := RX11) (T := TX11) (N := 67) (ci := 11) hx hb hts inX11 hown hK hW (hB 200 bb_200) kd_200 rfl 17 (by decide) mw_978 rfl rfl dX11_earn_28 ?_
  refine lv_iload_n hx hb dX11_earn_31 rfl (lv_at hl 2 rfl) ?_
  refine lv_lload hx hb dX11_earn_32 (lv_at hl 0 rfl) ?_
  refine lv_ldc2 (v := 2000000000) hx hb hown (hts _ mw_1346) dX11_earn_34 ?_
  refine W.lcmp hx hb dX11_earn_37 ?_
  refine lv_if_le (tgt := 47) hx hb dX11_earn_38 (by decide) (fun c_5 => ?_) (fun c_5 => ?_)
  · have h := it_t c_5 h
    refine lv_lload hx hb dX11_earn_47 (lv_at hl 0 rfl) ?_
    refine lv_l2i hx hb dX11_earn_49 rfl ?_
    exact t_X11_earn_j50 C hB h hW hS (lv_sub hl [1, 2, 3] rfl)
  · have h := it_f c_5 h
    refine lv_ldcw (v := 2000000000) hx hb hown (hts _ mw_1347) dX11_earn_41 ?_
    refine lv_goto (tgt := 50) hx hb dX11_earn_44 (by decide) ?_
    exact t_X11_earn_j50 C hB h hW hS (lv_sub hl [1, 2, 3] rfl)
theorem c_X11_earn (hB : Lk L) {S : St} {S9 : St} {p1 : Int32} {p2 : Int32} {p3 : Int32} {p4 : Int32} (h : f_X11_earn S p1 p2 p3 p4 = some S9) : Met l yX11_earn (gws yX11_earn cX11_earn 7 none) (rmk 1) (va_Pc [.ref (ad 200), .int p1, .int p2, .int p3, .int p4] (WU g A ad L S)) (qv g A ad L S9) 0 0 A :=
  g_met [.ref (ad 200), .int p1, .int p2, .int p3, .int p4] (by decide) (Nat.le_of_ble_eq_true rfl) (fun p e s m below meth c ls C hW hl _ => t_X11_earn C hB h hW va_S.rf hl)
theorem hv_X11_earn : yX11_earn.cls = RX11 ∧ yX11_earn.cls ≠ "java/lang/invoke/MethodHandle" ∧ yX11_earn.cls ≠ "java/lang/invoke/VarHandle" ∧ (parseMethodDescriptor yX11_earn.desc).map (fun d => d.parameters.length) = some 4 := by decide +kernel
/-! DroveRoadsModel.rest -/
def f_X11_rest (S : St) (p1 : Int32) : Option (St) := if p1 < 0 ∨ 6 ≤ ix p1 then none else if 15 ≤ (gv S 216 (ix p1)) then (if p1 < 0 ∨ 6 ≤ ix p1 then none else if p1 < 0 ∨ 6 ≤ ix p1 then none else bn (sv S 216 (ix p1) ((gv S 216 (ix p1)) - 15)) fun S_5 => some S_5) else (if p1 < 0 ∨ 6 ≤ ix p1 then none else bn (sv S 216 (ix p1) 0) fun S_7 => some S_7)
set_option maxHeartbeats 4000000 in
theorem t_X11_rest (C : MC p s m args meth c cX11_rest 2 none RX11 g A) (hB : Lk L) {S : St} {S9 : St} {p1 : Int32} (h : f_X11_rest S p1 = some S9) {H : Heap} {locs : List Loc} {ls : Array Slot} (hW : GW g A ad L S H) (hS : va_S A s.heap H locs) (hl : lv_has ls 2 [(0, .ref (ad 200)), (1, .int p1)]) : W p l e (rmk 1) s m args below meth c H locs 0 0 (MQ below (qv g A ad L S9) args s 0 0 A) (F0 m 0 ls []) := by
  obtain ⟨hx, hb, hml, hown, hts, hr, hlocks, hK, hN, hT⟩ := id C
  unfold f_X11_rest at h
  refine lv_aload_n hx hb dX11_rest_0 rfl (lv_at hl 0 rfl) ?_
  refine g_get (C := RX11) (T := TX11) (N := 67) (ci := 11) hx hb hts inX11 hown hK hW (hB 200 bb_200) kd_200 rfl 15 (by decide) mw_976 rfl rfl dX11_rest_1 ?_
  refine lv_iload_n hx hb dX11_rest_4 rfl (lv_at hl 1 rfl) ?_
  refine lv_aload_n hx hb dX11_rest_5 rfl (lv_at hl 0 rfl) ?_
  refine g_get (C := RX11) (T := TX11) (N := 67) (ci := 11) hx hb hts inX11 hown hK hW (hB 200 bb_200) kd_200 rfl 15 (by decide) mw_976 rfl rfl dX11_rest_6 ?_
  refine lv_iload_n hx hb dX11_rest_9 rfl (lv_at hl 1 rfl) ?_
  obtain ⟨hi_1, h⟩ := ck_n h
  refine g_iald hx hb hK hW (hB 216 bb_216) kd_216 hi_1 dX11_rest_10 ?_
  refine lv_bipush (v := 15) hx hb dX11_rest_11 (by decide) ?_
  refine lv_icmp_ge (tgt := 20) hx hb dX11_rest_13 (by decide) (fun c_2 => ?_) (fun c_2 => ?_)
  · have h := it_t c_2 h
    refine lv_aload_n hx hb dX11_rest_20 rfl (lv_at hl 0 rfl) ?_
    refine g_get (C := RX11) (T := TX11) (N := 67) (ci := 11) hx hb hts inX11 hown hK hW (hB 200 bb_200) kd_200 rfl 15 (by decide) mw_976 rfl rfl dX11_rest_21 ?_
    refine lv_iload_n hx hb dX11_rest_24 rfl (lv_at hl 1 rfl) ?_
    obtain ⟨hi_3, h⟩ := ck_n h
    refine g_iald hx hb hK hW (hB 216 bb_216) kd_216 hi_3 dX11_rest_25 ?_
    refine lv_bipush (v := 15) hx hb dX11_rest_26 (by decide) ?_
    refine lv_isub hx hb dX11_rest_28 ?_
    obtain ⟨hi_4, h⟩ := ck_n h
    refine g_iast hx hb hK hW hS (hB 216 bb_216) (fun _ => kd_216) hi_4 dX11_rest_29 (fun S_5 eS_5 H locs hW hS => ?_)
    have h := bn_at eS_5 h
    cases h
    exact g_vret hx hb hr hlocks hW hS dX11_rest_30
  · have h := it_f c_2 h
    refine lv_iconst (v := 0) hx hb dX11_rest_16 (by decide) ?_
    refine lv_goto (tgt := 29) hx hb dX11_rest_17 (by decide) ?_
    obtain ⟨hi_6, h⟩ := ck_n h
    refine g_iast hx hb hK hW hS (hB 216 bb_216) (fun _ => kd_216) hi_6 dX11_rest_29 (fun S_7 eS_7 H locs hW hS => ?_)
    have h := bn_at eS_7 h
    cases h
    exact g_vret hx hb hr hlocks hW hS dX11_rest_30
theorem c_X11_rest (hB : Lk L) {S : St} {S9 : St} {p1 : Int32} (h : f_X11_rest S p1 = some S9) : Met l yX11_rest (gws yX11_rest cX11_rest 2 none) (rmk 1) (va_Pc [.ref (ad 200), .int p1] (WU g A ad L S)) (qv g A ad L S9) 0 0 A :=
  g_met [.ref (ad 200), .int p1] (by decide) (Nat.le_of_ble_eq_true rfl) (fun p e s m below meth c ls C hW hl _ => t_X11_rest C hB h hW va_S.rf hl)
theorem hv_X11_rest : yX11_rest.cls = RX11 ∧ yX11_rest.cls ≠ "java/lang/invoke/MethodHandle" ∧ yX11_rest.cls ≠ "java/lang/invoke/VarHandle" ∧ (parseMethodDescriptor yX11_rest.desc).map (fun d => d.parameters.length) = some 1 := by decide +kernel
/-! DroveRoadsModel.walk -/
def f_X11_walk_j143 (N : Nat) (S : St) (v1 : Int32) : Option (St) := if v1 < 0 ∨ 6 ≤ ix v1 then none else cl0 (f_X11_fair S) fun r_19 => if (gv S 217 (ix v1)) = r_19 then (if v1 < 0 ∨ 6 ≤ ix v1 then none else cl0 (f_X11_fair S) fun r_23 => cl0 (f_X11_knownAt N S r_23 (gv S 200 0)) fun r_25 => cl0 (f_X11_earn S v1 (gv S 212 (ix v1)) r_25 100) fun S_27 => some S_27) else (some S)
set_option maxHeartbeats 4000000 in
theorem t_X11_walk_j143 (C : MC p s m args meth c cX11_walk 4 none RX11 g A) (hB : Lk L) {S : St} {S9 : St} {v1 : Int32} (h : f_X11_walk_j143 N S v1 = some S9) {H : Heap} {locs : List Loc} {ls : Array Slot} (hW : GW g A ad L S H) (hS : va_S A s.heap H locs) (hl : lv_has ls 4 [(0, .ref (ad 200)), (1, .int v1)]) : W p l e (rmk 4) s m args below meth c H locs 0 0 (MQ below (qv g A ad L S9) args s 0 0 A) (F0 m 143 ls []) := by
  obtain ⟨hx, hb, hml, hown, hts, hr, hlocks, hK, hN, hT⟩ := id C
  unfold f_X11_walk_j143 at h
  refine lv_aload_n hx hb dX11_walk_143 rfl (lv_at hl 0 rfl) ?_
  refine g_get (C := RX11) (T := TX11) (N := 67) (ci := 11) hx hb hts inX11 hown hK hW (hB 200 bb_200) kd_200 rfl 16 (by decide) mw_977 rfl rfl dX11_walk_144 ?_
  refine lv_iload_n hx hb dX11_walk_147 rfl (lv_at hl 1 rfl) ?_
  obtain ⟨hi_17, h⟩ := ck_n h
  refine g_iald hx hb hK hW (hB 217 bb_217) kd_217 hi_17 dX11_walk_148 ?_
  refine lv_aload_n hx hb dX11_walk_149 rfl (lv_at hl 0 rfl) ?_
  obtain ⟨r_19, hc_18, h⟩ := cl0_ex h
  refine g_ci (g_runV (ci := 11) (o := 200) (As := []) (rest := [.int (gv S 217 (ix v1))]) hx hb hml hown hts hK hN hT hS hW (c_X11_fair hB hc_18) (hB 200 bb_200) kd_200 rfl (gw_V mw_1183 mw_1185 mw_36 mw_73 mw_1186) hv_X11_fair rfl rfl rfl (rm_ok (by decide) (by decide)) hl.1 (Nat.le_of_ble_eq_true rfl) dX11_walk_150 rfl ⟨Nat.zero_le _, Nat.zero_le _⟩) hS (fun H locs hW hS => ?_)
  refine lv_icmp_ne (tgt := 181) hx hb dX11_walk_153 (by decide) (fun c_20 => ?_) (fun c_20 => ?_)
  · have h := it_f c_20 h
    cases h
    exact g_vret hx hb hr hlocks hW hS dX11_walk_181
  · have h := it_t c_20 h
    refine lv_aload_n hx hb dX11_walk_156 rfl (lv_at hl 0 rfl) ?_
    refine lv_iload_n hx hb dX11_walk_157 rfl (lv_at hl 1 rfl) ?_
    refine lv_aload_n hx hb dX11_walk_158 rfl (lv_at hl 0 rfl) ?_
    refine g_get (C := RX11) (T := TX11) (N := 67) (ci := 11) hx hb hts inX11 hown hK hW (hB 200 bb_200) kd_200 rfl 11 (by decide) mw_972 rfl rfl dX11_walk_159 ?_
    refine lv_iload_n hx hb dX11_walk_162 rfl (lv_at hl 1 rfl) ?_
    obtain ⟨hi_21, h⟩ := ck_n h
    refine g_iald hx hb hK hW (hB 212 bb_212) kd_212 hi_21 dX11_walk_163 ?_
    refine lv_aload_n hx hb dX11_walk_164 rfl (lv_at hl 0 rfl) ?_
    refine lv_aload_n hx hb dX11_walk_165 rfl (lv_at hl 0 rfl) ?_
    obtain ⟨r_23, hc_22, h⟩ := cl0_ex h
    refine g_ci (g_runV (ci := 11) (o := 200) (As := []) (rest := [.ref (ad 200), .int (gv S 212 (ix v1)), .int v1, .ref (ad 200)]) hx hb hml hown hts hK hN hT hS hW (c_X11_fair hB hc_22) (hB 200 bb_200) kd_200 rfl (gw_V mw_1183 mw_1185 mw_36 mw_73 mw_1186) hv_X11_fair rfl rfl rfl (rm_ok (by decide) (by decide)) hl.1 (Nat.le_of_ble_eq_true rfl) dX11_walk_166 rfl ⟨Nat.zero_le _, Nat.zero_le _⟩) hS (fun H locs hW hS => ?_)
    refine lv_aload_n hx hb dX11_walk_169 rfl (lv_at hl 0 rfl) ?_
    refine g_get (C := RX11) (T := TX11) (N := 67) (ci := 11) hx hb hts inX11 hown hK hW (hB 200 bb_200) kd_200 rfl 0 (by decide) mw_961 rfl rfl dX11_walk_170 ?_
    obtain ⟨r_25, hc_24, h⟩ := cl0_ex h
    refine g_ci (g_runV (ci := 11) (o := 200) (As := [.int r_23, .int (gv S 200 0)]) (rest := [.int (gv S 212 (ix v1)), .int v1, .ref (ad 200)]) hx hb hml hown hts hK hN hT hS hW (c_X11_knownAt hB hc_24) (hB 200 bb_200) kd_200 rfl (gw_V mw_1196 mw_1198 mw_37 mw_73 mw_1199) hv_X11_knownAt rfl rfl rfl (rm_ok (by decide) (by decide)) hl.1 (Nat.le_of_ble_eq_true rfl) dX11_walk_173 rfl ⟨Nat.zero_le _, Nat.zero_le _⟩) hS (fun H locs hW hS => ?_)
    refine lv_bipush (v := 100) hx hb dX11_walk_176 (by decide) ?_
    obtain ⟨S_27, hc_26, h⟩ := cl0_ex h
    refine g_cv (g_runV (ci := 11) (o := 200) (As := [.int v1, .int (gv S 212 (ix v1)), .int r_25, .int 100]) (rest := []) hx hb hml hown hts hK hN hT hS hW (c_X11_earn hB hc_26) (hB 200 bb_200) kd_200 rfl (gw_V mw_1342 mw_1344 mw_59 mw_73 mw_1345) hv_X11_earn rfl rfl rfl (rm_ok (by decide) (by decide)) hl.1 (Nat.le_of_ble_eq_true rfl) dX11_walk_178 rfl ⟨Nat.zero_le _, Nat.zero_le _⟩) hS (fun H locs hW hS => ?_)
    cases h
    exact g_vret hx hb hr hlocks hW hS dX11_walk_181
def f_X11_walk_j107 (N : Nat) (S : St) (v1 : Int32) (w100 : Int32) : Option (St) := if v1 < 0 ∨ 6 ≤ ix v1 then none else if v1 < 0 ∨ 6 ≤ ix v1 then none else bn (sv S 212 (ix v1) ((gv S 212 (ix v1)) - w100)) fun S_34 => if v1 < 0 ∨ 6 ≤ ix v1 then none else if v1 < 0 ∨ 6 ≤ ix v1 then none else bn (sv S_34 219 (ix v1) ((gv S_34 219 (ix v1)) + w100)) fun S_37 => if v1 < 0 ∨ 6 ≤ ix v1 then none else if (gv S_37 217 (ix v1)) < 0 ∨ 10 ≤ ix (gv S_37 217 (ix v1)) then none else if (gv S_37 217 (ix v1)) < 0 ∨ 10 ≤ ix (gv S_37 217 (ix v1)) then none else bn (sv S_37 207 (ix (gv S_37 217 (ix v1))) ((gv S_37 207 (ix (gv S_37 217 (ix v1)))) + w100)) fun S_41 => f_X11_walk_j143 N S_41 v1
set_option maxHeartbeats 4000000 in
theorem t_X11_walk_j107 (C : MC p s m args meth c cX11_walk 4 none RX11 g A) (hB : Lk L) {S : St} {S9 : St} {v1 : Int32} {w100 : Int32} (h : f_X11_walk_j107 N S v1 w100 = some S9) {H : Heap} {locs : List Loc} {ls : Array Slot} (hW : GW g A ad L S H) (hS : va_S A s.heap H locs) (hl : lv_has ls 4 [(0, .ref (ad 200)), (1, .int v1)]) : W p l e (rmk 4) s m args below meth c H locs 0 0 (MQ below (qv g A ad L S9) args s 0 0 A) (F0 m 107 ls [.int w100]) := by
  obtain ⟨hx, hb, hml, hown, hts, hr, hlocks, hK, hN, hT⟩ := id C
  unfold f_X11_walk_j107 at h
  refine lv_istore_n (lv' := [(3, .int w100), (0, .ref (ad 200)), (1, .int v1)]) hx hb dX11_walk_107 rfl hl (by decide) rfl (fun ls hl => ?_)
  refine lv_aload_n hx hb dX11_walk_108 rfl (lv_at hl 1 rfl) ?_
  refine g_get (C := RX11) (T := TX11) (N := 67) (ci := 11) hx hb hts inX11 hown hK hW (hB 200 bb_200) kd_200 rfl 11 (by decide) mw_972 rfl rfl dX11_walk_109 ?_
  refine lv_iload_n hx hb dX11_walk_112 rfl (lv_at hl 2 rfl) ?_
  refine lv_dup2_11 hx hb dX11_walk_113 rfl rfl ?_
  obtain ⟨hi_32, h⟩ := ck_n h
  refine g_iald hx hb hK hW (hB 212 bb_212) kd_212 hi_32 dX11_walk_114 ?_
  refine lv_iload_n hx hb dX11_walk_115 rfl (lv_at hl 0 rfl) ?_
  refine lv_isub hx hb dX11_walk_116 ?_
  obtain ⟨hi_33, h⟩ := ck_n h
  refine g_iast hx hb hK hW hS (hB 212 bb_212) (fun _ => kd_212) hi_33 dX11_walk_117 (fun S_34 eS_34 H locs hW hS => ?_)
  have h := bn_at eS_34 h
  refine lv_aload_n hx hb dX11_walk_118 rfl (lv_at hl 1 rfl) ?_
  refine g_get (C := RX11) (T := TX11) (N := 67) (ci := 11) hx hb hts inX11 hown hK hW (hB 200 bb_200) kd_200 rfl 18 (by decide) mw_979 rfl rfl dX11_walk_119 ?_
  refine lv_iload_n hx hb dX11_walk_122 rfl (lv_at hl 2 rfl) ?_
  refine lv_dup2_11 hx hb dX11_walk_123 rfl rfl ?_
  obtain ⟨hi_35, h⟩ := ck_n h
  refine g_iald hx hb hK hW (hB 219 bb_219) kd_219 hi_35 dX11_walk_124 ?_
  refine lv_iload_n hx hb dX11_walk_125 rfl (lv_at hl 0 rfl) ?_
  refine lv_iadd hx hb dX11_walk_126 ?_
  obtain ⟨hi_36, h⟩ := ck_n h
  refine g_iast hx hb hK hW hS (hB 219 bb_219) (fun _ => kd_219) hi_36 dX11_walk_127 (fun S_37 eS_37 H locs hW hS => ?_)
  have h := bn_at eS_37 h
  refine lv_aload_n hx hb dX11_walk_128 rfl (lv_at hl 1 rfl) ?_
  refine g_get (C := RX11) (T := TX11) (N := 67) (ci := 11) hx hb hts inX11 hown hK hW (hB 200 bb_200) kd_200 rfl 6 (by decide) mw_967 rfl rfl dX11_walk_129 ?_
  refine lv_aload_n hx hb dX11_walk_132 rfl (lv_at hl 1 rfl) ?_
  refine g_get (C := RX11) (T := TX11) (N := 67) (ci := 11) hx hb hts inX11 hown hK hW (hB 200 bb_200) kd_200 rfl 16 (by decide) mw_977 rfl rfl dX11_walk_133 ?_
  refine lv_iload_n hx hb dX11_walk_136 rfl (lv_at hl 2 rfl) ?_
  obtain ⟨hi_38, h⟩ := ck_n h
  refine g_iald hx hb hK hW (hB 217 bb_217) kd_217 hi_38 dX11_walk_137 ?_
  refine lv_dup2_11 hx hb dX11_walk_138 rfl rfl ?_
  obtain ⟨hi_39, h⟩ := ck_n h
  refine g_iald hx hb hK hW (hB 207 bb_207) kd_207 hi_39 dX11_walk_139 ?_
  refine lv_iload_n hx hb dX11_walk_140 rfl (lv_at hl 0 rfl) ?_
  refine lv_iadd hx hb dX11_walk_141 ?_
  obtain ⟨hi_40, h⟩ := ck_n h
  refine g_iast hx hb hK hW hS (hB 207 bb_207) (fun _ => kd_207) hi_40 dX11_walk_142 (fun S_41 eS_41 H locs hW hS => ?_)
  have h := bn_at eS_41 h
  exact t_X11_walk_j143 C hB h hW hS (lv_sub hl [1, 2] rfl)
def f_X11_walk_j63 (N : Nat) (S : St) (v1 : Int32) (w101 : Int32) (w102 : Int32) : Option (St) := if w101 < 0 ∨ 6 ≤ ix w101 then none else bn (sv S 213 (ix w101) w102) fun S_14 => if v1 < 0 ∨ 6 ≤ ix v1 then none else if (gv S_14 216 (ix v1)) ≤ 60 then (f_X11_walk_j143 N S_14 v1) else (if v1 < 0 ∨ 6 ≤ ix v1 then none else bn (((gv S_14 212 (ix v1)) / 20) + 1) fun x_29 => if v1 < 0 ∨ 6 ≤ ix v1 then none else if x_29 ≤ (gv S_14 212 (ix v1)) then (f_X11_walk_j107 N S_14 v1 x_29) else (if v1 < 0 ∨ 6 ≤ ix v1 then none else f_X11_walk_j107 N S_14 v1 (gv S_14 212 (ix v1))))
set_option maxHeartbeats 4000000 in
theorem t_X11_walk_j63 (C : MC p s m args meth c cX11_walk 4 none RX11 g A) (hB : Lk L) {S : St} {S9 : St} {v1 : Int32} {w101 : Int32} {w102 : Int32} (h : f_X11_walk_j63 N S v1 w101 w102 = some S9) {H : Heap} {locs : List Loc} {ls : Array Slot} (hW : GW g A ad L S H) (hS : va_S A s.heap H locs) (hl : lv_has ls 4 [(0, .ref (ad 200)), (1, .int v1)]) : W p l e (rmk 4) s m args below meth c H locs 0 0 (MQ below (qv g A ad L S9) args s 0 0 A) (F0 m 63 ls [.int w102, .int w101, .ref (ad 213)]) := by
  obtain ⟨hx, hb, hml, hown, hts, hr, hlocks, hK, hN, hT⟩ := id C
  unfold f_X11_walk_j63 at h
  obtain ⟨hi_13, h⟩ := ck_n h
  refine g_iast hx hb hK hW hS (hB 213 bb_213) (fun _ => kd_213) hi_13 dX11_walk_63 (fun S_14 eS_14 H locs hW hS => ?_)
  have h := bn_at eS_14 h
  refine lv_aload_n hx hb dX11_walk_64 rfl (lv_at hl 0 rfl) ?_
  refine g_get (C := RX11) (T := TX11) (N := 67) (ci := 11) hx hb hts inX11 hown hK hW (hB 200 bb_200) kd_200 rfl 15 (by decide) mw_976 rfl rfl dX11_walk_65 ?_
  refine lv_iload_n hx hb dX11_walk_68 rfl (lv_at hl 1 rfl) ?_
  obtain ⟨hi_15, h⟩ := ck_n h
  refine g_iald hx hb hK hW (hB 216 bb_216) kd_216 hi_15 dX11_walk_69 ?_
  refine lv_bipush (v := 60) hx hb dX11_walk_70 (by decide) ?_
  refine lv_icmp_le (tgt := 143) hx hb dX11_walk_72 (by decide) (fun c_16 => ?_) (fun c_16 => ?_)
  · have h := it_t c_16 h
    exact t_X11_walk_j143 C hB h hW hS (lv_sub hl [0, 1] rfl)
  · have h := it_f c_16 h
    refine lv_aload_n hx hb dX11_walk_75 rfl (lv_at hl 0 rfl) ?_
    refine g_get (C := RX11) (T := TX11) (N := 67) (ci := 11) hx hb hts inX11 hown hK hW (hB 200 bb_200) kd_200 rfl 11 (by decide) mw_972 rfl rfl dX11_walk_76 ?_
    refine lv_iload_n hx hb dX11_walk_79 rfl (lv_at hl 1 rfl) ?_
    obtain ⟨hi_28, h⟩ := ck_n h
    refine g_iald hx hb hK hW (hB 212 bb_212) kd_212 hi_28 dX11_walk_80 ?_
    refine lv_bipush (v := 20) hx hb dX11_walk_81 (by decide) ?_
    refine lv_idiv hx hb dX11_walk_83 (by decide) ?_
    refine lv_iconst (v := 1) hx hb dX11_walk_84 (by decide) ?_
    refine lv_iadd hx hb dX11_walk_85 ?_
    refine lv_topi (fun x_29 ex_29 => ?_)
    have h := bn_at ex_29 h
    refine lv_istore_n (lv' := [(3, .int x_29), (0, .ref (ad 200)), (1, .int v1)]) hx hb dX11_walk_86 rfl hl (by decide) rfl (fun ls hl => ?_)
    refine lv_iload_n hx hb dX11_walk_87 rfl (lv_at hl 0 rfl) ?_
    refine lv_aload_n hx hb dX11_walk_88 rfl (lv_at hl 1 rfl) ?_
    refine g_get (C := RX11) (T := TX11) (N := 67) (ci := 11) hx hb hts inX11 hown hK hW (hB 200 bb_200) kd_200 rfl 11 (by decide) mw_972 rfl rfl dX11_walk_89 ?_
    refine lv_iload_n hx hb dX11_walk_92 rfl (lv_at hl 2 rfl) ?_
    obtain ⟨hi_30, h⟩ := ck_n h
    refine g_iald hx hb hK hW (hB 212 bb_212) kd_212 hi_30 dX11_walk_93 ?_
    refine lv_icmp_le (tgt := 106) hx hb dX11_walk_94 (by decide) (fun c_31 => ?_) (fun c_31 => ?_)
    · have h := it_t c_31 h
      refine lv_iload_n hx hb dX11_walk_106 rfl (lv_at hl 0 rfl) ?_
      exact t_X11_walk_j107 C hB h hW hS (lv_sub hl [1, 2] rfl)
    · have h := it_f c_31 h
      refine lv_aload_n hx hb dX11_walk_97 rfl (lv_at hl 1 rfl) ?_
      refine g_get (C := RX11) (T := TX11) (N := 67) (ci := 11) hx hb hts inX11 hown hK hW (hB 200 bb_200) kd_200 rfl 11 (by decide) mw_972 rfl rfl dX11_walk_98 ?_
      refine lv_iload_n hx hb dX11_walk_101 rfl (lv_at hl 2 rfl) ?_
      obtain ⟨hi_42, h⟩ := ck_n h
      refine g_iald hx hb hK hW (hB 212 bb_212) kd_212 hi_42 dX11_walk_102 ?_
      refine lv_goto (tgt := 107) hx hb dX11_walk_103 (by decide) ?_
      exact t_X11_walk_j107 C hB h hW hS (lv_sub hl [1, 2] rfl)
def f_X11_walk (N : Nat) (S : St) (p1 : Int32) : Option (St) := if p1 < 0 ∨ 6 ≤ ix p1 then none else if (gv S 217 (ix p1)) < 0 ∨ 10 ≤ ix (gv S 217 (ix p1)) then none else bn (gv S 203 (ix (gv S 217 (ix p1)))) fun x_3 => if p1 < 0 ∨ 6 ≤ ix p1 then none else if p1 < 0 ∨ 6 ≤ ix p1 then none else bn (sv S 217 (ix p1) ((gv S 217 (ix p1)) + 1)) fun S_6 => if p1 < 0 ∨ 6 ≤ ix p1 then none else if p1 < 0 ∨ 6 ≤ ix p1 then none else bn (sv S_6 216 (ix p1) ((gv S_6 216 (ix p1)) + x_3)) fun S_9 => if p1 < 0 ∨ 6 ≤ ix p1 then none else if (x_3 / 5) ≤ (gv S_9 213 (ix p1)) then (if p1 < 0 ∨ 6 ≤ ix p1 then none else f_X11_walk_j63 N S_9 p1 p1 ((gv S_9 213 (ix p1)) - (x_3 / 5))) else (f_X11_walk_j63 N S_9 p1 p1 0)
set_option maxHeartbeats 4000000 in
theorem t_X11_walk (C : MC p s m args meth c cX11_walk 4 none RX11 g A) (hB : Lk L) {S : St} {S9 : St} {p1 : Int32} (h : f_X11_walk N S p1 = some S9) {H : Heap} {locs : List Loc} {ls : Array Slot} (hW : GW g A ad L S H) (hS : va_S A s.heap H locs) (hl : lv_has ls 4 [(0, .ref (ad 200)), (1, .int p1)]) : W p l e (rmk 4) s m args below meth c H locs 0 0 (MQ below (qv g A ad L S9) args s 0 0 A) (F0 m 0 ls []) := by
  obtain ⟨hx, hb, hml, hown, hts, hr, hlocks, hK, hN, hT⟩ := id C
  unfold f_X11_walk at h
  refine lv_aload_n hx hb dX11_walk_0 rfl (lv_at hl 0 rfl) ?_
  refine g_get (C := RX11) (T := TX11) (N := 67) (ci := 11) hx hb hts inX11 hown hK hW (hB 200 bb_200) kd_200 rfl 2 (by decide) mw_963 rfl rfl dX11_walk_1 ?_
  refine lv_aload_n hx hb dX11_walk_4 rfl (lv_at hl 0 rfl) ?_
  refine g_get (C := RX11) (T := TX11) (N := 67) (ci := 11) hx hb hts inX11 hown hK hW (hB 200 bb_200) kd_200 rfl 16 (by decide) mw_977 rfl rfl dX11_walk_5 ?_
  refine lv_iload_n hx hb dX11_walk_8 rfl (lv_at hl 1 rfl) ?_
  obtain ⟨hi_1, h⟩ := ck_n h
  refine g_iald hx hb hK hW (hB 217 bb_217) kd_217 hi_1 dX11_walk_9 ?_
  obtain ⟨hi_2, h⟩ := ck_n h
  refine g_iald hx hb hK hW (hB 203 bb_203) kd_203 hi_2 dX11_walk_10 ?_
  refine lv_topi (fun x_3 ex_3 => ?_)
  have h := bn_at ex_3 h
  refine lv_istore_n (lv' := [(2, .int x_3), (0, .ref (ad 200)), (1, .int p1)]) hx hb dX11_walk_11 rfl hl (by decide) rfl (fun ls hl => ?_)
  refine lv_aload_n hx hb dX11_walk_12 rfl (lv_at hl 1 rfl) ?_
  refine g_get (C := RX11) (T := TX11) (N := 67) (ci := 11) hx hb hts inX11 hown hK hW (hB 200 bb_200) kd_200 rfl 16 (by decide) mw_977 rfl rfl dX11_walk_13 ?_
  refine lv_iload_n hx hb dX11_walk_16 rfl (lv_at hl 2 rfl) ?_
  refine lv_dup2_11 hx hb dX11_walk_17 rfl rfl ?_
  obtain ⟨hi_4, h⟩ := ck_n h
  refine g_iald hx hb hK hW (hB 217 bb_217) kd_217 hi_4 dX11_walk_18 ?_
  refine lv_iconst (v := 1) hx hb dX11_walk_19 (by decide) ?_
  refine lv_iadd hx hb dX11_walk_20 ?_
  obtain ⟨hi_5, h⟩ := ck_n h
  refine g_iast hx hb hK hW hS (hB 217 bb_217) (fun _ => kd_217) hi_5 dX11_walk_21 (fun S_6 eS_6 H locs hW hS => ?_)
  have h := bn_at eS_6 h
  refine lv_aload_n hx hb dX11_walk_22 rfl (lv_at hl 1 rfl) ?_
  refine g_get (C := RX11) (T := TX11) (N := 67) (ci := 11) hx hb hts inX11 hown hK hW (hB 200 bb_200) kd_200 rfl 15 (by decide) mw_976 rfl rfl dX11_walk_23 ?_
  refine lv_iload_n hx hb dX11_walk_26 rfl (lv_at hl 2 rfl) ?_
  refine lv_dup2_11 hx hb dX11_walk_27 rfl rfl ?_
  obtain ⟨hi_7, h⟩ := ck_n h
  refine g_iald hx hb hK hW (hB 216 bb_216) kd_216 hi_7 dX11_walk_28 ?_
  refine lv_iload_n hx hb dX11_walk_29 rfl (lv_at hl 0 rfl) ?_
  refine lv_iadd hx hb dX11_walk_30 ?_
  obtain ⟨hi_8, h⟩ := ck_n h
  refine g_iast hx hb hK hW hS (hB 216 bb_216) (fun _ => kd_216) hi_8 dX11_walk_31 (fun S_9 eS_9 H locs hW hS => ?_)
  have h := bn_at eS_9 h
  refine lv_aload_n hx hb dX11_walk_32 rfl (lv_at hl 1 rfl) ?_
  refine g_get (C := RX11) (T := TX11) (N := 67) (ci := 11) hx hb hts inX11 hown hK hW (hB 200 bb_200) kd_200 rfl 12 (by decide) mw_973 rfl rfl dX11_walk_33 ?_
  refine lv_iload_n hx hb dX11_walk_36 rfl (lv_at hl 2 rfl) ?_
  refine lv_aload_n hx hb dX11_walk_37 rfl (lv_at hl 1 rfl) ?_
  refine g_get (C := RX11) (T := TX11) (N := 67) (ci := 11) hx hb hts inX11 hown hK hW (hB 200 bb_200) kd_200 rfl 12 (by decide) mw_973 rfl rfl dX11_walk_38 ?_
  refine lv_iload_n hx hb dX11_walk_41 rfl (lv_at hl 2 rfl) ?_
  obtain ⟨hi_10, h⟩ := ck_n h
  refine g_iald hx hb hK hW (hB 213 bb_213) kd_213 hi_10 dX11_walk_42 ?_
  refine lv_iload_n hx hb dX11_walk_43 rfl (lv_at hl 0 rfl) ?_
  refine lv_iconst (v := 5) hx hb dX11_walk_44 (by decide) ?_
  refine lv_idiv hx hb dX11_walk_45 (by decide) ?_
  refine lv_icmp_ge (tgt := 53) hx hb dX11_walk_46 (by decide) (fun c_11 => ?_) (fun c_11 => ?_)
  · have h := it_t c_11 h
    refine lv_aload_n hx hb dX11_walk_53 rfl (lv_at hl 1 rfl) ?_
    refine g_get (C := RX11) (T := TX11) (N := 67) (ci := 11) hx hb hts inX11 hown hK hW (hB 200 bb_200) kd_200 rfl 12 (by decide) mw_973 rfl rfl dX11_walk_54 ?_
    refine lv_iload_n hx hb dX11_walk_57 rfl (lv_at hl 2 rfl) ?_
    obtain ⟨hi_12, h⟩ := ck_n h
    refine g_iald hx hb hK hW (hB 213 bb_213) kd_213 hi_12 dX11_walk_58 ?_
    refine lv_iload_n hx hb dX11_walk_59 rfl (lv_at hl 0 rfl) ?_
    refine lv_iconst (v := 5) hx hb dX11_walk_60 (by decide) ?_
    refine lv_idiv hx hb dX11_walk_61 (by decide) ?_
    refine lv_isub hx hb dX11_walk_62 ?_
    exact t_X11_walk_j63 C hB h hW hS (lv_sub hl [1, 2] rfl)
  · have h := it_f c_11 h
    refine lv_iconst (v := 0) hx hb dX11_walk_49 (by decide) ?_
    refine lv_goto (tgt := 63) hx hb dX11_walk_50 (by decide) ?_
    exact t_X11_walk_j63 C hB h hW hS (lv_sub hl [1, 2] rfl)
theorem c_X11_walk (hB : Lk L) {S : St} {S9 : St} {p1 : Int32} (h : f_X11_walk N S p1 = some S9) : Met l yX11_walk (gws yX11_walk cX11_walk 4 none) (rmk 4) (va_Pc [.ref (ad 200), .int p1] (WU g A ad L S)) (qv g A ad L S9) 0 0 A :=
  g_met [.ref (ad 200), .int p1] (by decide) (Nat.le_of_ble_eq_true rfl) (fun p e s m below meth c ls C hW hl _ => t_X11_walk C hB h hW va_S.rf hl)
theorem hv_X11_walk : yX11_walk.cls = RX11 ∧ yX11_walk.cls ≠ "java/lang/invoke/MethodHandle" ∧ yX11_walk.cls ≠ "java/lang/invoke/VarHandle" ∧ (parseMethodDescriptor yX11_walk.desc).map (fun d => d.parameters.length) = some 1 := by decide +kernel
/-! DroveRoadsModel.eat -/
def f_X11_eat_j201 (S : St) (v1 : Int32) (w100 : Int32) : Option (St) := if v1 < 0 ∨ 6 ≤ ix v1 then none else if v1 < 0 ∨ 6 ≤ ix v1 then none else bn (sv S 212 (ix v1) ((gv S 212 (ix v1)) - w100)) fun S_34 => if v1 < 0 ∨ 6 ≤ ix v1 then none else if v1 < 0 ∨ 6 ≤ ix v1 then none else bn (sv S_34 221 (ix v1) ((gv S_34 221 (ix v1)) + w100)) fun S_37 => some S_37
set_option maxHeartbeats 4000000 in
theorem t_X11_eat_j201 (C : MC p s m args meth c cX11_eat 7 none RX11 g A) (hB : Lk L) {S : St} {S9 : St} {v1 : Int32} {w100 : Int32} (h : f_X11_eat_j201 S v1 w100 = some S9) {H : Heap} {locs : List Loc} {ls : Array Slot} (hW : GW g A ad L S H) (hS : va_S A s.heap H locs) (hl : lv_has ls 7 [(0, .ref (ad 200)), (1, .int v1)]) : W p l e (rmk 1) s m args below meth c H locs 0 0 (MQ below (qv g A ad L S9) args s 0 0 A) (F0 m 201 ls [.int w100]) := by
  obtain ⟨hx, hb, hml, hown, hts, hr, hlocks, hK, hN, hT⟩ := id C
  unfold f_X11_eat_j201 at h
  refine lv_istore (lv' := [(6, .int w100), (0, .ref (ad 200)), (1, .int v1)]) hx hb dX11_eat_201 hl (by decide) rfl (fun ls hl => ?_)
  refine lv_aload_n hx hb dX11_eat_203 rfl (lv_at hl 1 rfl) ?_
  refine g_get (C := RX11) (T := TX11) (N := 67) (ci := 11) hx hb hts inX11 hown hK hW (hB 200 bb_200) kd_200 rfl 11 (by decide) mw_972 rfl rfl dX11_eat_204 ?_
  refine lv_iload_n hx hb dX11_eat_207 rfl (lv_at hl 2 rfl) ?_
  refine lv_dup2_11 hx hb dX11_eat_208 rfl rfl ?_
  obtain ⟨hi_32, h⟩ := ck_n h
  refine g_iald hx hb hK hW (hB 212 bb_212) kd_212 hi_32 dX11_eat_209 ?_
  refine lv_iload hx hb dX11_eat_210 (lv_at hl 0 rfl) ?_
  refine lv_isub hx hb dX11_eat_212 ?_
  obtain ⟨hi_33, h⟩ := ck_n h
  refine g_iast hx hb hK hW hS (hB 212 bb_212) (fun _ => kd_212) hi_33 dX11_eat_213 (fun S_34 eS_34 H locs hW hS => ?_)
  have h := bn_at eS_34 h
  refine lv_aload_n hx hb dX11_eat_214 rfl (lv_at hl 1 rfl) ?_
  refine g_get (C := RX11) (T := TX11) (N := 67) (ci := 11) hx hb hts inX11 hown hK hW (hB 200 bb_200) kd_200 rfl 20 (by decide) mw_981 rfl rfl dX11_eat_215 ?_
  refine lv_iload_n hx hb dX11_eat_218 rfl (lv_at hl 2 rfl) ?_
  refine lv_dup2_11 hx hb dX11_eat_219 rfl rfl ?_
  obtain ⟨hi_35, h⟩ := ck_n h
  refine g_iald hx hb hK hW (hB 221 bb_221) kd_221 hi_35 dX11_eat_220 ?_
  refine lv_iload hx hb dX11_eat_221 (lv_at hl 0 rfl) ?_
  refine lv_iadd hx hb dX11_eat_223 ?_
  obtain ⟨hi_36, h⟩ := ck_n h
  refine g_iast hx hb hK hW hS (hB 221 bb_221) (fun _ => kd_221) hi_36 dX11_eat_224 (fun S_37 eS_37 H locs hW hS => ?_)
  have h := bn_at eS_37 h
  cases h
  exact g_vret hx hb hr hlocks hW hS dX11_eat_225
def f_X11_eat_j153 (S : St) (v1 : Int32) (w101 : Int32) (w102 : Int32) : Option (St) := if w101 < 0 ∨ 6 ≤ ix w101 then none else bn (sv S 213 (ix w101) w102) fun S_25 => if v1 < 0 ∨ 6 ≤ ix v1 then none else if (gv S_25 213 (ix v1)) < 80 then (if v1 < 0 ∨ 6 ≤ ix v1 then none else bn (((gv S_25 212 (ix v1)) / 10) + 1) fun x_29 => if v1 < 0 ∨ 6 ≤ ix v1 then none else if x_29 ≤ (gv S_25 212 (ix v1)) then (f_X11_eat_j201 S_25 v1 x_29) else (if v1 < 0 ∨ 6 ≤ ix v1 then none else f_X11_eat_j201 S_25 v1 (gv S_25 212 (ix v1)))) else (some S_25)
set_option maxHeartbeats 4000000 in
theorem t_X11_eat_j153 (C : MC p s m args meth c cX11_eat 7 none RX11 g A) (hB : Lk L) {S : St} {S9 : St} {v1 : Int32} {w101 : Int32} {w102 : Int32} (h : f_X11_eat_j153 S v1 w101 w102 = some S9) {H : Heap} {locs : List Loc} {ls : Array Slot} (hW : GW g A ad L S H) (hS : va_S A s.heap H locs) (hl : lv_has ls 7 [(0, .ref (ad 200)), (1, .int v1)]) : W p l e (rmk 1) s m args below meth c H locs 0 0 (MQ below (qv g A ad L S9) args s 0 0 A) (F0 m 153 ls [.int w102, .int w101, .ref (ad 213)]) := by
  obtain ⟨hx, hb, hml, hown, hts, hr, hlocks, hK, hN, hT⟩ := id C
  unfold f_X11_eat_j153 at h
  obtain ⟨hi_24, h⟩ := ck_n h
  refine g_iast hx hb hK hW hS (hB 213 bb_213) (fun _ => kd_213) hi_24 dX11_eat_153 (fun S_25 eS_25 H locs hW hS => ?_)
  have h := bn_at eS_25 h
  refine lv_aload_n hx hb dX11_eat_154 rfl (lv_at hl 0 rfl) ?_
  refine g_get (C := RX11) (T := TX11) (N := 67) (ci := 11) hx hb hts inX11 hown hK hW (hB 200 bb_200) kd_200 rfl 12 (by decide) mw_973 rfl rfl dX11_eat_155 ?_
  refine lv_iload_n hx hb dX11_eat_158 rfl (lv_at hl 1 rfl) ?_
  obtain ⟨hi_26, h⟩ := ck_n h
  refine g_iald hx hb hK hW (hB 213 bb_213) kd_213 hi_26 dX11_eat_159 ?_
  refine lv_bipush (v := 80) hx hb dX11_eat_160 (by decide) ?_
  refine lv_icmp_lt (tgt := 166) hx hb dX11_eat_162 (by decide) (fun c_27 => ?_) (fun c_27 => ?_)
  · have h := it_t c_27 h
    refine lv_aload_n hx hb dX11_eat_166 rfl (lv_at hl 0 rfl) ?_
    refine g_get (C := RX11) (T := TX11) (N := 67) (ci := 11) hx hb hts inX11 hown hK hW (hB 200 bb_200) kd_200 rfl 11 (by decide) mw_972 rfl rfl dX11_eat_167 ?_
    refine lv_iload_n hx hb dX11_eat_170 rfl (lv_at hl 1 rfl) ?_
    obtain ⟨hi_28, h⟩ := ck_n h
    refine g_iald hx hb hK hW (hB 212 bb_212) kd_212 hi_28 dX11_eat_171 ?_
    refine lv_bipush (v := 10) hx hb dX11_eat_172 (by decide) ?_
    refine lv_idiv hx hb dX11_eat_174 (by decide) ?_
    refine lv_iconst (v := 1) hx hb dX11_eat_175 (by decide) ?_
    refine lv_iadd hx hb dX11_eat_176 ?_
    refine lv_topi (fun x_29 ex_29 => ?_)
    have h := bn_at ex_29 h
    refine lv_istore (lv' := [(6, .int x_29), (0, .ref (ad 200)), (1, .int v1)]) hx hb dX11_eat_177 hl (by decide) rfl (fun ls hl => ?_)
    refine lv_iload hx hb dX11_eat_179 (lv_at hl 0 rfl) ?_
    refine lv_aload_n hx hb dX11_eat_181 rfl (lv_at hl 1 rfl) ?_
    refine g_get (C := RX11) (T := TX11) (N := 67) (ci := 11) hx hb hts inX11 hown hK hW (hB 200 bb_200) kd_200 rfl 11 (by decide) mw_972 rfl rfl dX11_eat_182 ?_
    refine lv_iload_n hx hb dX11_eat_185 rfl (lv_at hl 2 rfl) ?_
    obtain ⟨hi_30, h⟩ := ck_n h
    refine g_iald hx hb hK hW (hB 212 bb_212) kd_212 hi_30 dX11_eat_186 ?_
    refine lv_icmp_le (tgt := 199) hx hb dX11_eat_187 (by decide) (fun c_31 => ?_) (fun c_31 => ?_)
    · have h := it_t c_31 h
      refine lv_iload hx hb dX11_eat_199 (lv_at hl 0 rfl) ?_
      exact t_X11_eat_j201 C hB h hW hS (lv_sub hl [1, 2] rfl)
    · have h := it_f c_31 h
      refine lv_aload_n hx hb dX11_eat_190 rfl (lv_at hl 1 rfl) ?_
      refine g_get (C := RX11) (T := TX11) (N := 67) (ci := 11) hx hb hts inX11 hown hK hW (hB 200 bb_200) kd_200 rfl 11 (by decide) mw_972 rfl rfl dX11_eat_191 ?_
      refine lv_iload_n hx hb dX11_eat_194 rfl (lv_at hl 2 rfl) ?_
      obtain ⟨hi_38, h⟩ := ck_n h
      refine g_iald hx hb hK hW (hB 212 bb_212) kd_212 hi_38 dX11_eat_195 ?_
      refine lv_goto (tgt := 201) hx hb dX11_eat_196 (by decide) ?_
      exact t_X11_eat_j201 C hB h hW hS (lv_sub hl [1, 2] rfl)
  · have h := it_f c_27 h
    cases h
    exact g_vret hx hb hr hlocks hW hS dX11_eat_165
def f_X11_eat_j124 (S : St) (v1 : Int32) : Option (St) := if v1 < 0 ∨ 6 ≤ ix v1 then none else if (gv S 213 (ix v1)) ≤ 700 then (if v1 < 0 ∨ 6 ≤ ix v1 then none else f_X11_eat_j153 S v1 v1 (gv S 213 (ix v1))) else (f_X11_eat_j153 S v1 v1 700)
set_option maxHeartbeats 4000000 in
theorem t_X11_eat_j124 (C : MC p s m args meth c cX11_eat 7 none RX11 g A) (hB : Lk L) {S : St} {S9 : St} {v1 : Int32} (h : f_X11_eat_j124 S v1 = some S9) {H : Heap} {locs : List Loc} {ls : Array Slot} (hW : GW g A ad L S H) (hS : va_S A s.heap H locs) (hl : lv_has ls 7 [(0, .ref (ad 200)), (1, .int v1)]) : W p l e (rmk 1) s m args below meth c H locs 0 0 (MQ below (qv g A ad L S9) args s 0 0 A) (F0 m 124 ls []) := by
  obtain ⟨hx, hb, hml, hown, hts, hr, hlocks, hK, hN, hT⟩ := id C
  unfold f_X11_eat_j124 at h
  refine lv_aload_n hx hb dX11_eat_124 rfl (lv_at hl 0 rfl) ?_
  refine g_get (C := RX11) (T := TX11) (N := 67) (ci := 11) hx hb hts inX11 hown hK hW (hB 200 bb_200) kd_200 rfl 12 (by decide) mw_973 rfl rfl dX11_eat_125 ?_
  refine lv_iload_n hx hb dX11_eat_128 rfl (lv_at hl 1 rfl) ?_
  refine lv_aload_n hx hb dX11_eat_129 rfl (lv_at hl 0 rfl) ?_
  refine g_get (C := RX11) (T := TX11) (N := 67) (ci := 11) hx hb hts inX11 hown hK hW (hB 200 bb_200) kd_200 rfl 12 (by decide) mw_973 rfl rfl dX11_eat_130 ?_
  refine lv_iload_n hx hb dX11_eat_133 rfl (lv_at hl 1 rfl) ?_
  obtain ⟨hi_21, h⟩ := ck_n h
  refine g_iald hx hb hK hW (hB 213 bb_213) kd_213 hi_21 dX11_eat_134 ?_
  refine lv_sipush (v := 700) hx hb dX11_eat_135 (by decide) ?_
  refine lv_icmp_le (tgt := 147) hx hb dX11_eat_138 (by decide) (fun c_22 => ?_) (fun c_22 => ?_)
  · have h := it_t c_22 h
    refine lv_aload_n hx hb dX11_eat_147 rfl (lv_at hl 0 rfl) ?_
    refine g_get (C := RX11) (T := TX11) (N := 67) (ci := 11) hx hb hts inX11 hown hK hW (hB 200 bb_200) kd_200 rfl 12 (by decide) mw_973 rfl rfl dX11_eat_148 ?_
    refine lv_iload_n hx hb dX11_eat_151 rfl (lv_at hl 1 rfl) ?_
    obtain ⟨hi_23, h⟩ := ck_n h
    refine g_iald hx hb hK hW (hB 213 bb_213) kd_213 hi_23 dX11_eat_152 ?_
    exact t_X11_eat_j153 C hB h hW hS (lv_sub hl [0, 1] rfl)
  · have h := it_f c_22 h
    refine lv_sipush (v := 700) hx hb dX11_eat_141 (by decide) ?_
    refine lv_goto (tgt := 153) hx hb dX11_eat_144 (by decide) ?_
    exact t_X11_eat_j153 C hB h hW hS (lv_sub hl [0, 1] rfl)
def f_X11_eat_j123 (S : St) (v1 : Int32) (w101 : Int32) (w102 : Int32) : Option (St) := if w101 < 0 ∨ 6 ≤ ix w101 then none else bn (sv S 213 (ix w101) w102) fun S_20 => f_X11_eat_j124 S_20 v1
set_option maxHeartbeats 4000000 in
theorem t_X11_eat_j123 (C : MC p s m args meth c cX11_eat 7 none RX11 g A) (hB : Lk L) {S : St} {S9 : St} {v1 : Int32} {w101 : Int32} {w102 : Int32} (h : f_X11_eat_j123 S v1 w101 w102 = some S9) {H : Heap} {locs : List Loc} {ls : Array Slot} (hW : GW g A ad L S H) (hS : va_S A s.heap H locs) (hl : lv_has ls 7 [(0, .ref (ad 200)), (1, .int v1)]) : W p l e (rmk 1) s m args below meth c H locs 0 0 (MQ below (qv g A ad L S9) args s 0 0 A) (F0 m 123 ls [.int w102, .int w101, .ref (ad 213)]) := by
  obtain ⟨hx, hb, hml, hown, hts, hr, hlocks, hK, hN, hT⟩ := id C
  unfold f_X11_eat_j123 at h
  obtain ⟨hi_19, h⟩ := ck_n h
  refine g_iast hx hb hK hW hS (hB 213 bb_213) (fun _ => kd_213) hi_19 dX11_eat_123 (fun S_20 eS_20 H locs hW hS => ?_)
  have h := bn_at eS_20 h
  exact t_X11_eat_j124 C hB h hW hS (lv_sub hl [0, 1] rfl)
def f_X11_eat_j91 (S : St) (v1 : Int32) (w101 : Int32) (w102 : Int32) (w103 : Int32) : Option (St) := if w101 < 0 ∨ 6 ≤ ix w101 then none else bn (sv S 213 (ix w101) (w102 + w103)) fun S_42 => f_X11_eat_j124 S_42 v1
set_option maxHeartbeats 4000000 in
theorem t_X11_eat_j91 (C : MC p s m args meth c cX11_eat 7 none RX11 g A) (hB : Lk L) {S : St} {S9 : St} {v1 : Int32} {w101 : Int32} {w102 : Int32} {w103 : Int32} (h : f_X11_eat_j91 S v1 w101 w102 w103 = some S9) {H : Heap} {locs : List Loc} {ls : Array Slot} (hW : GW g A ad L S H) (hS : va_S A s.heap H locs) (hl : lv_has ls 7 [(0, .ref (ad 200)), (1, .int v1)]) : W p l e (rmk 1) s m args below meth c H locs 0 0 (MQ below (qv g A ad L S9) args s 0 0 A) (F0 m 91 ls [.int w103, .int w102, .int w101, .ref (ad 213)]) := by
  obtain ⟨hx, hb, hml, hown, hts, hr, hlocks, hK, hN, hT⟩ := id C
  unfold f_X11_eat_j91 at h
  refine lv_iadd hx hb dX11_eat_91 ?_
  obtain ⟨hi_41, h⟩ := ck_n h
  refine g_iast hx hb hK hW hS (hB 213 bb_213) (fun _ => kd_213) hi_41 dX11_eat_92 (fun S_42 eS_42 H locs hW hS => ?_)
  have h := bn_at eS_42 h
  refine lv_goto (tgt := 124) hx hb dX11_eat_93 (by decide) ?_
  exact t_X11_eat_j124 C hB h hW hS (lv_sub hl [0, 1] rfl)
def f_X11_eat_j44 (S : St) (v1 : Int32) (v2 : Int32) (v3 : Int32) (v4 : Int32) (w100 : Int32) : Option (St) := if v3 < 0 ∨ 10 ≤ ix v3 then none else if v3 < 0 ∨ 10 ≤ ix v3 then none else bn (sv S 204 (ix v3) ((gv S 204 (ix v3)) - w100)) fun S_11 => if v1 < 0 ∨ 6 ≤ ix v1 then none else if v1 < 0 ∨ 6 ≤ ix v1 then none else bn (sv S_11 222 (ix v1) ((gv S_11 222 (ix v1)) + w100)) fun S_14 => if w100 = v4 then (if v1 < 0 ∨ 6 ≤ ix v1 then none else if v2 = 0 then (f_X11_eat_j91 S_14 v1 v1 (gv S_14 213 (ix v1)) 3) else (f_X11_eat_j91 S_14 v1 v1 (gv S_14 213 (ix v1)) 1)) else (if v1 < 0 ∨ 6 ≤ ix v1 then none else if 4 ≤ (gv S_14 213 (ix v1)) then (if v1 < 0 ∨ 6 ≤ ix v1 then none else f_X11_eat_j123 S_14 v1 v1 ((gv S_14 213 (ix v1)) - 4)) else (f_X11_eat_j123 S_14 v1 v1 0))
set_option maxHeartbeats 4000000 in
theorem t_X11_eat_j44 (C : MC p s m args meth c cX11_eat 7 none RX11 g A) (hB : Lk L) {S : St} {S9 : St} {v1 : Int32} {v2 : Int32} {v3 : Int32} {v4 : Int32} {w100 : Int32} (h : f_X11_eat_j44 S v1 v2 v3 v4 w100 = some S9) {H : Heap} {locs : List Loc} {ls : Array Slot} (hW : GW g A ad L S H) (hS : va_S A s.heap H locs) (hl : lv_has ls 7 [(0, .ref (ad 200)), (1, .int v1), (2, .int v2), (3, .int v3), (4, .int v4)]) : W p l e (rmk 1) s m args below meth c H locs 0 0 (MQ below (qv g A ad L S9) args s 0 0 A) (F0 m 44 ls [.int w100]) := by
  obtain ⟨hx, hb, hml, hown, hts, hr, hlocks, hK, hN, hT⟩ := id C
  unfold f_X11_eat_j44 at h
  refine lv_istore (lv' := [(5, .int w100), (0, .ref (ad 200)), (1, .int v1), (2, .int v2), (3, .int v3), (4, .int v4)]) hx hb dX11_eat_44 hl (by decide) rfl (fun ls hl => ?_)
  refine lv_aload_n hx hb dX11_eat_46 rfl (lv_at hl 1 rfl) ?_
  refine g_get (C := RX11) (T := TX11) (N := 67) (ci := 11) hx hb hts inX11 hown hK hW (hB 200 bb_200) kd_200 rfl 3 (by decide) mw_964 rfl rfl dX11_eat_47 ?_
  refine lv_iload_n hx hb dX11_eat_50 rfl (lv_at hl 4 rfl) ?_
  refine lv_dup2_11 hx hb dX11_eat_51 rfl rfl ?_
  obtain ⟨hi_9, h⟩ := ck_n h
  refine g_iald hx hb hK hW (hB 204 bb_204) kd_204 hi_9 dX11_eat_52 ?_
  refine lv_iload hx hb dX11_eat_53 (lv_at hl 0 rfl) ?_
  refine lv_isub hx hb dX11_eat_55 ?_
  obtain ⟨hi_10, h⟩ := ck_n h
  refine g_iast hx hb hK hW hS (hB 204 bb_204) (fun _ => kd_204) hi_10 dX11_eat_56 (fun S_11 eS_11 H locs hW hS => ?_)
  have h := bn_at eS_11 h
  refine lv_aload_n hx hb dX11_eat_57 rfl (lv_at hl 1 rfl) ?_
  refine g_get (C := RX11) (T := TX11) (N := 67) (ci := 11) hx hb hts inX11 hown hK hW (hB 200 bb_200) kd_200 rfl 21 (by decide) mw_982 rfl rfl dX11_eat_58 ?_
  refine lv_iload_n hx hb dX11_eat_61 rfl (lv_at hl 2 rfl) ?_
  refine lv_dup2_11 hx hb dX11_eat_62 rfl rfl ?_
  obtain ⟨hi_12, h⟩ := ck_n h
  refine g_iald hx hb hK hW (hB 222 bb_222) kd_222 hi_12 dX11_eat_63 ?_
  refine lv_iload hx hb dX11_eat_64 (lv_at hl 0 rfl) ?_
  refine lv_iadd hx hb dX11_eat_66 ?_
  obtain ⟨hi_13, h⟩ := ck_n h
  refine g_iast hx hb hK hW hS (hB 222 bb_222) (fun _ => kd_222) hi_13 dX11_eat_67 (fun S_14 eS_14 H locs hW hS => ?_)
  have h := bn_at eS_14 h
  refine lv_iload hx hb dX11_eat_68 (lv_at hl 0 rfl) ?_
  refine lv_iload hx hb dX11_eat_70 (lv_at hl 5 rfl) ?_
  refine lv_icmp_ne (tgt := 96) hx hb dX11_eat_72 (by decide) (fun c_15 => ?_) (fun c_15 => ?_)
  · have h := it_f c_15 h
    refine lv_aload_n hx hb dX11_eat_96 rfl (lv_at hl 1 rfl) ?_
    refine g_get (C := RX11) (T := TX11) (N := 67) (ci := 11) hx hb hts inX11 hown hK hW (hB 200 bb_200) kd_200 rfl 12 (by decide) mw_973 rfl rfl dX11_eat_97 ?_
    refine lv_iload_n hx hb dX11_eat_100 rfl (lv_at hl 2 rfl) ?_
    refine lv_aload_n hx hb dX11_eat_101 rfl (lv_at hl 1 rfl) ?_
    refine g_get (C := RX11) (T := TX11) (N := 67) (ci := 11) hx hb hts inX11 hown hK hW (hB 200 bb_200) kd_200 rfl 12 (by decide) mw_973 rfl rfl dX11_eat_102 ?_
    refine lv_iload_n hx hb dX11_eat_105 rfl (lv_at hl 2 rfl) ?_
    obtain ⟨hi_16, h⟩ := ck_n h
    refine g_iald hx hb hK hW (hB 213 bb_213) kd_213 hi_16 dX11_eat_106 ?_
    refine lv_iconst (v := 4) hx hb dX11_eat_107 (by decide) ?_
    refine lv_icmp_ge (tgt := 115) hx hb dX11_eat_108 (by decide) (fun c_17 => ?_) (fun c_17 => ?_)
    · have h := it_t c_17 h
      refine lv_aload_n hx hb dX11_eat_115 rfl (lv_at hl 1 rfl) ?_
      refine g_get (C := RX11) (T := TX11) (N := 67) (ci := 11) hx hb hts inX11 hown hK hW (hB 200 bb_200) kd_200 rfl 12 (by decide) mw_973 rfl rfl dX11_eat_116 ?_
      refine lv_iload_n hx hb dX11_eat_119 rfl (lv_at hl 2 rfl) ?_
      obtain ⟨hi_18, h⟩ := ck_n h
      refine g_iald hx hb hK hW (hB 213 bb_213) kd_213 hi_18 dX11_eat_120 ?_
      refine lv_iconst (v := 4) hx hb dX11_eat_121 (by decide) ?_
      refine lv_isub hx hb dX11_eat_122 ?_
      exact t_X11_eat_j123 C hB h hW hS (lv_sub hl [1, 2] rfl)
    · have h := it_f c_17 h
      refine lv_iconst (v := 0) hx hb dX11_eat_111 (by decide) ?_
      refine lv_goto (tgt := 123) hx hb dX11_eat_112 (by decide) ?_
      exact t_X11_eat_j123 C hB h hW hS (lv_sub hl [1, 2] rfl)
  · have h := it_t c_15 h
    refine lv_aload_n hx hb dX11_eat_75 rfl (lv_at hl 1 rfl) ?_
    refine g_get (C := RX11) (T := TX11) (N := 67) (ci := 11) hx hb hts inX11 hown hK hW (hB 200 bb_200) kd_200 rfl 12 (by decide) mw_973 rfl rfl dX11_eat_76 ?_
    refine lv_iload_n hx hb dX11_eat_79 rfl (lv_at hl 2 rfl) ?_
    refine lv_dup2_11 hx hb dX11_eat_80 rfl rfl ?_
    obtain ⟨hi_39, h⟩ := ck_n h
    refine g_iald hx hb hK hW (hB 213 bb_213) kd_213 hi_39 dX11_eat_81 ?_
    refine lv_iload_n hx hb dX11_eat_82 rfl (lv_at hl 3 rfl) ?_
    refine lv_if_eq (tgt := 90) hx hb dX11_eat_83 (by decide) (fun c_40 => ?_) (fun c_40 => ?_)
    · have h := it_t c_40 h
      refine lv_iconst (v := 3) hx hb dX11_eat_90 (by decide) ?_
      exact t_X11_eat_j91 C hB h hW hS (lv_sub hl [1, 2] rfl)
    · have h := it_f c_40 h
      refine lv_iconst (v := 1) hx hb dX11_eat_86 (by decide) ?_
      refine lv_goto (tgt := 91) hx hb dX11_eat_87 (by decide) ?_
      exact t_X11_eat_j91 C hB h hW hS (lv_sub hl [1, 2] rfl)
def f_X11_eat (S : St) (p1 : Int32) (p2 : Int32) : Option (St) := if p1 < 0 ∨ 6 ≤ ix p1 then none else bn (gv S 217 (ix p1)) fun x_2 => if p1 < 0 ∨ 6 ≤ ix p1 then none else if p1 < 0 ∨ 6 ≤ ix p1 then none else bn ((gv S 212 (ix p1)) * (gv S 214 (ix p1))) fun x_5 => if x_2 < 0 ∨ 10 ≤ ix x_2 then none else if (gv S 204 (ix x_2)) ≤ x_5 then (if x_2 < 0 ∨ 10 ≤ ix x_2 then none else f_X11_eat_j44 S p1 p2 x_2 x_5 (gv S 204 (ix x_2))) else (f_X11_eat_j44 S p1 p2 x_2 x_5 x_5)
set_option maxHeartbeats 4000000 in
theorem t_X11_eat (C : MC p s m args meth c cX11_eat 7 none RX11 g A) (hB : Lk L) {S : St} {S9 : St} {p1 : Int32} {p2 : Int32} (h : f_X11_eat S p1 p2 = some S9) {H : Heap} {locs : List Loc} {ls : Array Slot} (hW : GW g A ad L S H) (hS : va_S A s.heap H locs) (hl : lv_has ls 7 [(0, .ref (ad 200)), (1, .int p1), (2, .int p2)]) : W p l e (rmk 1) s m args below meth c H locs 0 0 (MQ below (qv g A ad L S9) args s 0 0 A) (F0 m 0 ls []) := by
  obtain ⟨hx, hb, hml, hown, hts, hr, hlocks, hK, hN, hT⟩ := id C
  unfold f_X11_eat at h
  refine lv_aload_n hx hb dX11_eat_0 rfl (lv_at hl 0 rfl) ?_
  refine g_get (C := RX11) (T := TX11) (N := 67) (ci := 11) hx hb hts inX11 hown hK hW (hB 200 bb_200) kd_200 rfl 16 (by decide) mw_977 rfl rfl dX11_eat_1 ?_
  refine lv_iload_n hx hb dX11_eat_4 rfl (lv_at hl 1 rfl) ?_
  obtain ⟨hi_1, h⟩ := ck_n h
  refine g_iald hx hb hK hW (hB 217 bb_217) kd_217 hi_1 dX11_eat_5 ?_
  refine lv_topi (fun x_2 ex_2 => ?_)
  have h := bn_at ex_2 h
  refine lv_istore_n (lv' := [(3, .int x_2), (0, .ref (ad 200)), (1, .int p1), (2, .int p2)]) hx hb dX11_eat_6 rfl hl (by decide) rfl (fun ls hl => ?_)
  refine lv_aload_n hx hb dX11_eat_7 rfl (lv_at hl 1 rfl) ?_
  refine g_get (C := RX11) (T := TX11) (N := 67) (ci := 11) hx hb hts inX11 hown hK hW (hB 200 bb_200) kd_200 rfl 11 (by decide) mw_972 rfl rfl dX11_eat_8 ?_
  refine lv_iload_n hx hb dX11_eat_11 rfl (lv_at hl 2 rfl) ?_
  obtain ⟨hi_3, h⟩ := ck_n h
  refine g_iald hx hb hK hW (hB 212 bb_212) kd_212 hi_3 dX11_eat_12 ?_
  refine lv_aload_n hx hb dX11_eat_13 rfl (lv_at hl 1 rfl) ?_
  refine g_get (C := RX11) (T := TX11) (N := 67) (ci := 11) hx hb hts inX11 hown hK hW (hB 200 bb_200) kd_200 rfl 13 (by decide) mw_974 rfl rfl dX11_eat_14 ?_
  refine lv_iload_n hx hb dX11_eat_17 rfl (lv_at hl 2 rfl) ?_
  obtain ⟨hi_4, h⟩ := ck_n h
  refine g_iald hx hb hK hW (hB 214 bb_214) kd_214 hi_4 dX11_eat_18 ?_
  refine lv_imul hx hb dX11_eat_19 ?_
  refine lv_topi (fun x_5 ex_5 => ?_)
  have h := bn_at ex_5 h
  refine lv_istore (lv' := [(4, .int x_5), (3, .int x_2), (0, .ref (ad 200)), (1, .int p1), (2, .int p2)]) hx hb dX11_eat_20 hl (by decide) rfl (fun ls hl => ?_)
  refine lv_iload hx hb dX11_eat_22 (lv_at hl 0 rfl) ?_
  refine lv_aload_n hx hb dX11_eat_24 rfl (lv_at hl 2 rfl) ?_
  refine g_get (C := RX11) (T := TX11) (N := 67) (ci := 11) hx hb hts inX11 hown hK hW (hB 200 bb_200) kd_200 rfl 3 (by decide) mw_964 rfl rfl dX11_eat_25 ?_
  refine lv_iload_n hx hb dX11_eat_28 rfl (lv_at hl 1 rfl) ?_
  obtain ⟨hi_6, h⟩ := ck_n h
  refine g_iald hx hb hK hW (hB 204 bb_204) kd_204 hi_6 dX11_eat_29 ?_
  refine lv_icmp_ge (tgt := 38) hx hb dX11_eat_30 (by decide) (fun c_7 => ?_) (fun c_7 => ?_)
  · have h := it_t c_7 h
    refine lv_aload_n hx hb dX11_eat_38 rfl (lv_at hl 2 rfl) ?_
    refine g_get (C := RX11) (T := TX11) (N := 67) (ci := 11) hx hb hts inX11 hown hK hW (hB 200 bb_200) kd_200 rfl 3 (by decide) mw_964 rfl rfl dX11_eat_39 ?_
    refine lv_iload_n hx hb dX11_eat_42 rfl (lv_at hl 1 rfl) ?_
    obtain ⟨hi_8, h⟩ := ck_n h
    refine g_iald hx hb hK hW (hB 204 bb_204) kd_204 hi_8 dX11_eat_43 ?_
    exact t_X11_eat_j44 C hB h hW hS (lv_sub hl [2, 3, 4, 1, 0] rfl)
  · have h := it_f c_7 h
    refine lv_iload hx hb dX11_eat_33 (lv_at hl 0 rfl) ?_
    refine lv_goto (tgt := 44) hx hb dX11_eat_35 (by decide) ?_
    exact t_X11_eat_j44 C hB h hW hS (lv_sub hl [2, 3, 4, 1, 0] rfl)
theorem c_X11_eat (hB : Lk L) {S : St} {S9 : St} {p1 : Int32} {p2 : Int32} (h : f_X11_eat S p1 p2 = some S9) : Met l yX11_eat (gws yX11_eat cX11_eat 7 none) (rmk 1) (va_Pc [.ref (ad 200), .int p1, .int p2] (WU g A ad L S)) (qv g A ad L S9) 0 0 A :=
  g_met [.ref (ad 200), .int p1, .int p2] (by decide) (Nat.le_of_ble_eq_true rfl) (fun p e s m below meth c ls C hW hl _ => t_X11_eat C hB h hW va_S.rf hl)
theorem hv_X11_eat : yX11_eat.cls = RX11 ∧ yX11_eat.cls ≠ "java/lang/invoke/MethodHandle" ∧ yX11_eat.cls ≠ "java/lang/invoke/VarHandle" ∧ (parseMethodDescriptor yX11_eat.desc).map (fun d => d.parameters.length) = some 2 := by decide +kernel
end S24
