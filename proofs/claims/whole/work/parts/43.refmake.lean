section S43
variable {p : Program} {l : Launch} {e : Env} {s : State} {m : MethodId} {args : Array Value} {below : List Frame} {meth : Method} {c : Code} {A : Nat → Prop} {g : Cx} {ad : Nat → Nat} {L : List Nat} {N : Nat} {q0 : Nat}
def f_X11_init (S : St) : Option St := bn (sv S 200 1 2) fun S_1 => bn (zr S_1 203) fun S_2 => bn (sr S_2 200 2 (some 203)) fun S_4 => bn (zr S_4 204) fun S_5 => bn (sr S_5 200 3 (some 204)) fun S_7 => bn (zr S_7 205) fun S_8 => bn (sr S_8 200 4 (some 205)) fun S_10 => bn (zr S_10 206) fun S_11 => bn (sr S_11 200 5 (some 206)) fun S_13 => bn (zr S_13 207) fun S_14 => bn (sr S_14 200 6 (some 207)) fun S_16 => bn (zr S_16 209) fun S_17 => bn (sr S_17 200 8 (some 209)) fun S_19 => bn (zr S_19 210) fun S_20 => bn (sr S_20 200 9 (some 210)) fun S_22 => bn (zr S_22 212) fun S_23 => bn (sr S_23 200 11 (some 212)) fun S_25 => bn (zr S_25 213) fun S_26 => bn (sr S_26 200 12 (some 213)) fun S_28 => bn (zr S_28 214) fun S_29 => bn (sr S_29 200 13 (some 214)) fun S_31 => bn (zr S_31 215) fun S_32 => bn (sr S_32 200 14 (some 215)) fun S_34 => bn (zr S_34 216) fun S_35 => bn (sr S_35 200 15 (some 216)) fun S_37 => bn (zr S_37 217) fun S_38 => bn (sr S_38 200 16 (some 217)) fun S_40 => bn (zr S_40 218) fun S_41 => bn (sr S_41 200 17 (some 218)) fun S_43 => bn (zr S_43 219) fun S_44 => bn (sr S_44 200 18 (some 219)) fun S_46 => bn (zr S_46 220) fun S_47 => bn (sr S_47 200 19 (some 220)) fun S_49 => bn (zr S_49 221) fun S_50 => bn (sr S_50 200 20 (some 221)) fun S_52 => bn (zr S_52 222) fun S_53 => bn (sr S_53 200 21 (some 222)) fun S_55 => bn (zr S_55 223) fun S_56 => bn (sr S_56 200 22 (some 223)) fun S_58 => bn (zr S_58 224) fun S_59 => bn (sr S_59 200 23 (some 224)) fun S_61 => bn (zr S_61 225) fun S_62 => bn (sr S_62 200 24 (some 225)) fun S_64 => bn (zr S_64 226) fun S_65 => bn (sr S_65 200 25 (some 226)) fun S_67 => bn (zr S_67 227) fun S_68 => bn (sr S_68 200 26 (some 227)) fun S_70 => bn (zr S_70 228) fun S_71 => bn (sr S_71 200 27 (some 228)) fun S_73 => bn (zr S_73 229) fun S_74 => bn (sr S_74 200 28 (some 229)) fun S_76 => bn (zr S_76 230) fun S_77 => bn (sr S_77 200 29 (some 230)) fun S_79 => bn (zr S_79 231) fun S_80 => bn (sr S_80 200 30 (some 231)) fun S_82 => bn (zr S_82 232) fun S_83 => bn (sr S_83 200 31 (some 232)) fun S_85 => bn (zr S_85 233) fun S_86 => bn (sr S_86 200 32 (some 233)) fun S_88 => bn (zr S_88 237) fun S_89 => bn (sr S_89 200 36 (some 237)) fun S_91 => bn (sv S_91 200 39 (-1)) fun S_92 => bn (zr S_92 247) fun S_93 => bn (sr S_93 200 46 (some 247)) fun S_95 => bn (zr S_95 250) fun S_96 => bn (sr S_96 200 49 (some 250)) fun S_98 => bn (zr S_98 251) fun S_99 => bn (sr S_99 200 50 (some 251)) fun S_101 => bn (zr S_101 252) fun S_102 => bn (sr S_102 200 51 (some 252)) fun S_104 => bn (zr S_104 253) fun S_105 => bn (sr S_105 200 52 (some 253)) fun S_107 => bn (zr S_107 254) fun S_108 => bn (sr S_108 200 53 (some 254)) fun S_110 => bn (zr S_110 257) fun S_111 => bn (sr S_111 200 56 (some 257)) fun S_113 => bn (zr S_113 258) fun S_114 => bn (sr S_114 200 57 (some 258)) fun S_116 => bn (zr S_116 259) fun S_117 => bn (sr S_117 200 58 (some 259)) fun S_119 => bn (zr S_119 260) fun S_120 => bn (sr S_120 200 59 (some 260)) fun S_122 => bn (zr S_122 261) fun S_123 => bn (sr S_123 200 60 (some 261)) fun S_125 => bn (zr S_125 262) fun S_126 => bn (sr S_126 200 61 (some 262)) fun S_128 => bn (zr S_128 263) fun S_129 => bn (sr S_129 200 62 (some 263)) fun S_131 => bn (zr S_131 264) fun S_132 => bn (sr S_132 200 63 (some 264)) fun S_134 => bn (zr S_134 265) fun S_135 => bn (sr S_135 200 64 (some 265)) fun S_137 => bn (zr S_137 266) fun S_138 => bn (sr S_138 200 65 (some 266)) fun S_140 => bn (zr S_140 267) fun S_141 => bn (sr S_141 200 66 (some 267)) fun S_143 => bn (sv S_143 203 (ix 0) 1) fun S_144 => some S_144
set_option maxHeartbeats 8000000 in
set_option maxRecDepth 8000 in
theorem t_X11_init (C : MC p s m args meth c cX11_init 1 none RX11 g A) (hin : meth.name = "<init>") {S S9 : St} (ho : 200 ∈ L) (hfree : ∀ i ∈ [203, 204, 205, 206, 207, 209, 210, 212, 213, 214, 215, 216, 217, 218, 219, 220, 221, 222, 223, 224, 225, 226, 227, 228, 229, 230, 231, 232, 233, 237, 247, 250, 251, 252, 253, 254, 257, 258, 259, 260, 261, 262, 263, 264, 265, 266, 267], i ∉ L) (hC : Cl L S) (h : f_X11_init S = some S9) {H : Heap} {locs : List Loc} {ls : Array Slot} (hW : GD g A ad L S H) (hS : va_S A s.heap H locs) (hl : lv_has ls 1 [(0, .ref (ad 200))]) : W p l e (rmc 1 47 741033) s m args below meth c H locs 0 0 (MQ below (qd g A ad L (L ++ [203] ++ [204] ++ [205] ++ [206] ++ [207] ++ [209] ++ [210] ++ [212] ++ [213] ++ [214] ++ [215] ++ [216] ++ [217] ++ [218] ++ [219] ++ [220] ++ [221] ++ [222] ++ [223] ++ [224] ++ [225] ++ [226] ++ [227] ++ [228] ++ [229] ++ [230] ++ [231] ++ [232] ++ [233] ++ [237] ++ [247] ++ [250] ++ [251] ++ [252] ++ [253] ++ [254] ++ [257] ++ [258] ++ [259] ++ [260] ++ [261] ++ [262] ++ [263] ++ [264] ++ [265] ++ [266] ++ [267]) S9) args s 47 741033 A) (F0 m 0 ls []) := by
  obtain ⟨hx, hb, hml, hown, hts, hr, hlocks, hK, hN, hT⟩ := id C
  have hg : ∀ x ∈ L, ad x = ad x := fun _ _ => rfl
  unfold f_X11_init at h
  refine lv_aload_n  hx hb dX11_init_0 rfl (lv_at hl 0 rfl) ?_
  refine W.objInit hx hb hown (hts _ mw_959) (hts _ mw_90) (hts _ mw_obj) rfl (by rw [hml]; exact hl.1) rfl dX11_init_1 (by decide) (Nat.le_of_ble_eq_true rfl) ?_
  refine W.eq (g2 := F0 m 4 ls []) rfl ?_
  refine lv_aload_n  hx hb dX11_init_4 rfl (lv_at hl 0 rfl) ?_
  refine lv_iconst (v := 2) hx hb dX11_init_5 (by decide) ?_
  refine gd_put (C := RX11) (T := TX11) (N := 67) (ci := 11) (v := .int 2) hx hb hts inX11 tyX11 tyX11_ok nmX11 hown hK hW hS ho (cD_200) rfl 1 (by decide) mw_962 rfl (Or.inr ⟨hin, rfl⟩) rfl rfl (Nat.le_of_ble_eq_true rfl) (sv S 200 1 2) (dv_200_1) cellD_sv dX11_init_6 (fun S_1 eS_1 H locs hW hS => ?_)
  have h := bn_at eS_1 h
  have hC : Cl L S_1 := eS_1 ▸ Cl_sv hC
  refine lv_aload_n  hx hb dX11_init_9 rfl (lv_at hl 0 rfl) ?_
  refine lv_bipush (v := 10) hx hb dX11_init_10 (by decide) ?_
  refine gd_newa (ty := .int) (N' := 10) hx hb rfl hts mw_121 (fun C h9 => by cases h9) hK hT 1 rfl rfl hW hS hC (by decide) (by decide) (by decide) 203 (hfree 203 (by decide)) (fun _ => zD_203) (by decide) (by decide) dX11_init_12 (fun S_2 eS_2 ad_3 hag H hW hS hC => ?_)
  rw [← hag 200 (by omega)] at hl
  rw [← hag 200 (by omega)]
  have hg : ∀ z9 ∈ L, ad_3 z9 = ad z9 := fun z9 hx => (hag z9 (fun e9 => hfree 203 (by decide) (e9 ▸ hx))).trans (hg z9 hx)
  have h := bn_at eS_2 h
  refine gd_put (C := RX11) (T := TX11) (N := 67) (ci := 11) (v := .ref (ad_3 203)) hx hb hts inX11 tyX11 tyX11_ok nmX11 hown hK hW hS (me_l ho) (cD_200) rfl 2 (by decide) mw_963 rfl (Or.inr ⟨hin, rfl⟩) rfl rfl (Nat.le_of_ble_eq_true rfl) (sr S_2 200 2 (some 203)) (dr_200_2) cellD_sr dX11_init_14 (fun S_4 eS_4 H locs hW hS => ?_)
  have h := bn_at eS_4 h
  have hC : Cl (L ++ [203]) S_4 := eS_4 ▸ Cl_sr hC me_r
  refine lv_aload_n  hx hb dX11_init_17 rfl (lv_at hl 0 rfl) ?_
  refine lv_bipush (v := 10) hx hb dX11_init_18 (by decide) ?_
  refine gd_newa (ty := .int) (N' := 10) hx hb rfl hts mw_121 (fun C h9 => by cases h9) hK hT 1 rfl rfl hW hS hC (by decide) (by decide) (by decide) 204 (nm_app (hfree 204 (by decide)) (by omega)) (fun _ => zD_204) (by decide) (by decide) dX11_init_20 (fun S_5 eS_5 ad_6 hag H hW hS hC => ?_)
  rw [← hag 200 (by omega)] at hl
  rw [← hag 200 (by omega)]
  have hg : ∀ z9 ∈ L, ad_6 z9 = ad z9 := fun z9 hx => (hag z9 (fun e9 => hfree 204 (by decide) (e9 ▸ hx))).trans (hg z9 hx)
  have h := bn_at eS_5 h
  refine gd_put (C := RX11) (T := TX11) (N := 67) (ci := 11) (v := .ref (ad_6 204)) hx hb hts inX11 tyX11 tyX11_ok nmX11 hown hK hW hS (me_l (me_l ho)) (cD_200) rfl 3 (by decide) mw_964 rfl (Or.inr ⟨hin, rfl⟩) rfl rfl (Nat.le_of_ble_eq_true rfl) (sr S_5 200 3 (some 204)) (dr_200_3) cellD_sr dX11_init_22 (fun S_7 eS_7 H locs hW hS => ?_)
  have h := bn_at eS_7 h
  have hC : Cl (L ++ [203] ++ [204]) S_7 := eS_7 ▸ Cl_sr hC me_r
  refine lv_aload_n  hx hb dX11_init_25 rfl (lv_at hl 0 rfl) ?_
  refine lv_bipush (v := 10) hx hb dX11_init_26 (by decide) ?_
  refine gd_newa (ty := .int) (N' := 10) hx hb rfl hts mw_121 (fun C h9 => by cases h9) hK hT 1 rfl rfl hW hS hC (by decide) (by decide) (by decide) 205 (nm_app (nm_app (hfree 205 (by decide)) (by omega)) (by omega)) (fun _ => zD_205) (by decide) (by decide) dX11_init_28 (fun S_8 eS_8 ad_9 hag H hW hS hC => ?_)
  rw [← hag 200 (by omega)] at hl
  rw [← hag 200 (by omega)]
  have hg : ∀ z9 ∈ L, ad_9 z9 = ad z9 := fun z9 hx => (hag z9 (fun e9 => hfree 205 (by decide) (e9 ▸ hx))).trans (hg z9 hx)
  have h := bn_at eS_8 h
  refine gd_put (C := RX11) (T := TX11) (N := 67) (ci := 11) (v := .ref (ad_9 205)) hx hb hts inX11 tyX11 tyX11_ok nmX11 hown hK hW hS (me_l (me_l (me_l ho))) (cD_200) rfl 4 (by decide) mw_965 rfl (Or.inr ⟨hin, rfl⟩) rfl rfl (Nat.le_of_ble_eq_true rfl) (sr S_8 200 4 (some 205)) (dr_200_4) cellD_sr dX11_init_30 (fun S_10 eS_10 H locs hW hS => ?_)
  have h := bn_at eS_10 h
  have hC : Cl (L ++ [203] ++ [204] ++ [205]) S_10 := eS_10 ▸ Cl_sr hC me_r
  refine lv_aload_n  hx hb dX11_init_33 rfl (lv_at hl 0 rfl) ?_
  refine lv_bipush (v := 10) hx hb dX11_init_34 (by decide) ?_
  refine gd_newa (ty := .int) (N' := 10) hx hb rfl hts mw_121 (fun C h9 => by cases h9) hK hT 1 rfl rfl hW hS hC (by decide) (by decide) (by decide) 206 (nm_app (nm_app (nm_app (hfree 206 (by decide)) (by omega)) (by omega)) (by omega)) (fun _ => zD_206) (by decide) (by decide) dX11_init_36 (fun S_11 eS_11 ad_12 hag H hW hS hC => ?_)
  rw [← hag 200 (by omega)] at hl
  rw [← hag 200 (by omega)]
  have hg : ∀ z9 ∈ L, ad_12 z9 = ad z9 := fun z9 hx => (hag z9 (fun e9 => hfree 206 (by decide) (e9 ▸ hx))).trans (hg z9 hx)
  have h := bn_at eS_11 h
  refine gd_put (C := RX11) (T := TX11) (N := 67) (ci := 11) (v := .ref (ad_12 206)) hx hb hts inX11 tyX11 tyX11_ok nmX11 hown hK hW hS (me_l (me_l (me_l (me_l ho)))) (cD_200) rfl 5 (by decide) mw_966 rfl (Or.inr ⟨hin, rfl⟩) rfl rfl (Nat.le_of_ble_eq_true rfl) (sr S_11 200 5 (some 206)) (dr_200_5) cellD_sr dX11_init_38 (fun S_13 eS_13 H locs hW hS => ?_)
  have h := bn_at eS_13 h
  have hC : Cl (L ++ [203] ++ [204] ++ [205] ++ [206]) S_13 := eS_13 ▸ Cl_sr hC me_r
  refine lv_aload_n  hx hb dX11_init_41 rfl (lv_at hl 0 rfl) ?_
  refine lv_bipush (v := 10) hx hb dX11_init_42 (by decide) ?_
  refine gd_newa (ty := .int) (N' := 10) hx hb rfl hts mw_121 (fun C h9 => by cases h9) hK hT 1 rfl rfl hW hS hC (by decide) (by decide) (by decide) 207 (nm_app (nm_app (nm_app (nm_app (hfree 207 (by decide)) (by omega)) (by omega)) (by omega)) (by omega)) (fun _ => zD_207) (by decide) (by decide) dX11_init_44 (fun S_14 eS_14 ad_15 hag H hW hS hC => ?_)
  rw [← hag 200 (by omega)] at hl
  rw [← hag 200 (by omega)]
  have hg : ∀ z9 ∈ L, ad_15 z9 = ad z9 := fun z9 hx => (hag z9 (fun e9 => hfree 207 (by decide) (e9 ▸ hx))).trans (hg z9 hx)
  have h := bn_at eS_14 h
  refine gd_put (C := RX11) (T := TX11) (N := 67) (ci := 11) (v := .ref (ad_15 207)) hx hb hts inX11 tyX11 tyX11_ok nmX11 hown hK hW hS (me_l (me_l (me_l (me_l (me_l ho))))) (cD_200) rfl 6 (by decide) mw_967 rfl (Or.inr ⟨hin, rfl⟩) rfl rfl (Nat.le_of_ble_eq_true rfl) (sr S_14 200 6 (some 207)) (dr_200_6) cellD_sr dX11_init_46 (fun S_16 eS_16 H locs hW hS => ?_)
  have h := bn_at eS_16 h
  have hC : Cl (L ++ [203] ++ [204] ++ [205] ++ [206] ++ [207]) S_16 := eS_16 ▸ Cl_sr hC me_r
  refine lv_aload_n  hx hb dX11_init_49 rfl (lv_at hl 0 rfl) ?_
  refine lv_bipush (v := 30) hx hb dX11_init_50 (by decide) ?_
  refine gd_newa (ty := .int) (N' := 30) hx hb rfl hts mw_121 (fun C h9 => by cases h9) hK hT 1 rfl rfl hW hS hC (by decide) (by decide) (by decide) 209 (nm_app (nm_app (nm_app (nm_app (nm_app (hfree 209 (by decide)) (by omega)) (by omega)) (by omega)) (by omega)) (by omega)) (fun _ => zD_209) (by decide) (by decide) dX11_init_52 (fun S_17 eS_17 ad_18 hag H hW hS hC => ?_)
  rw [← hag 200 (by omega)] at hl
  rw [← hag 200 (by omega)]
  have hg : ∀ z9 ∈ L, ad_18 z9 = ad z9 := fun z9 hx => (hag z9 (fun e9 => hfree 209 (by decide) (e9 ▸ hx))).trans (hg z9 hx)
  have h := bn_at eS_17 h
  refine gd_put (C := RX11) (T := TX11) (N := 67) (ci := 11) (v := .ref (ad_18 209)) hx hb hts inX11 tyX11 tyX11_ok nmX11 hown hK hW hS (me_l (me_l (me_l (me_l (me_l (me_l ho)))))) (cD_200) rfl 8 (by decide) mw_969 rfl (Or.inr ⟨hin, rfl⟩) rfl rfl (Nat.le_of_ble_eq_true rfl) (sr S_17 200 8 (some 209)) (dr_200_8) cellD_sr dX11_init_54 (fun S_19 eS_19 H locs hW hS => ?_)
  have h := bn_at eS_19 h
  have hC : Cl (L ++ [203] ++ [204] ++ [205] ++ [206] ++ [207] ++ [209]) S_19 := eS_19 ▸ Cl_sr hC me_r
  refine lv_aload_n  hx hb dX11_init_57 rfl (lv_at hl 0 rfl) ?_
  refine lv_bipush (v := 30) hx hb dX11_init_58 (by decide) ?_
  refine gd_newa (ty := .int) (N' := 30) hx hb rfl hts mw_121 (fun C h9 => by cases h9) hK hT 1 rfl rfl hW hS hC (by decide) (by decide) (by decide) 210 (nm_app (nm_app (nm_app (nm_app (nm_app (nm_app (hfree 210 (by decide)) (by omega)) (by omega)) (by omega)) (by omega)) (by omega)) (by omega)) (fun _ => zD_210) (by decide) (by decide) dX11_init_60 (fun S_20 eS_20 ad_21 hag H hW hS hC => ?_)
  rw [← hag 200 (by omega)] at hl
  rw [← hag 200 (by omega)]
  have hg : ∀ z9 ∈ L, ad_21 z9 = ad z9 := fun z9 hx => (hag z9 (fun e9 => hfree 210 (by decide) (e9 ▸ hx))).trans (hg z9 hx)
  have h := bn_at eS_20 h
  refine gd_put (C := RX11) (T := TX11) (N := 67) (ci := 11) (v := .ref (ad_21 210)) hx hb hts inX11 tyX11 tyX11_ok nmX11 hown hK hW hS (me_l (me_l (me_l (me_l (me_l (me_l (me_l ho))))))) (cD_200) rfl 9 (by decide) mw_970 rfl (Or.inr ⟨hin, rfl⟩) rfl rfl (Nat.le_of_ble_eq_true rfl) (sr S_20 200 9 (some 210)) (dr_200_9) cellD_sr dX11_init_62 (fun S_22 eS_22 H locs hW hS => ?_)
  have h := bn_at eS_22 h
  have hC : Cl (L ++ [203] ++ [204] ++ [205] ++ [206] ++ [207] ++ [209] ++ [210]) S_22 := eS_22 ▸ Cl_sr hC me_r
  refine lv_aload_n  hx hb dX11_init_65 rfl (lv_at hl 0 rfl) ?_
  refine lv_bipush (v := 6) hx hb dX11_init_66 (by decide) ?_
  refine gd_newa (ty := .int) (N' := 6) hx hb rfl hts mw_121 (fun C h9 => by cases h9) hK hT 1 rfl rfl hW hS hC (by decide) (by decide) (by decide) 212 (nm_app (nm_app (nm_app (nm_app (nm_app (nm_app (nm_app (hfree 212 (by decide)) (by omega)) (by omega)) (by omega)) (by omega)) (by omega)) (by omega)) (by omega)) (fun _ => zD_212) (by decide) (by decide) dX11_init_68 (fun S_23 eS_23 ad_24 hag H hW hS hC => ?_)
  rw [← hag 200 (by omega)] at hl
  rw [← hag 200 (by omega)]
  have hg : ∀ z9 ∈ L, ad_24 z9 = ad z9 := fun z9 hx => (hag z9 (fun e9 => hfree 212 (by decide) (e9 ▸ hx))).trans (hg z9 hx)
  have h := bn_at eS_23 h
  refine gd_put (C := RX11) (T := TX11) (N := 67) (ci := 11) (v := .ref (ad_24 212)) hx hb hts inX11 tyX11 tyX11_ok nmX11 hown hK hW hS (me_l (me_l (me_l (me_l (me_l (me_l (me_l (me_l ho)))))))) (cD_200) rfl 11 (by decide) mw_972 rfl (Or.inr ⟨hin, rfl⟩) rfl rfl (Nat.le_of_ble_eq_true rfl) (sr S_23 200 11 (some 212)) (dr_200_11) cellD_sr dX11_init_70 (fun S_25 eS_25 H locs hW hS => ?_)
  have h := bn_at eS_25 h
  have hC : Cl (L ++ [203] ++ [204] ++ [205] ++ [206] ++ [207] ++ [209] ++ [210] ++ [212]) S_25 := eS_25 ▸ Cl_sr hC me_r
  refine lv_aload_n  hx hb dX11_init_73 rfl (lv_at hl 0 rfl) ?_
  refine lv_bipush (v := 6) hx hb dX11_init_74 (by decide) ?_
  refine gd_newa (ty := .int) (N' := 6) hx hb rfl hts mw_121 (fun C h9 => by cases h9) hK hT 1 rfl rfl hW hS hC (by decide) (by decide) (by decide) 213 (nm_app (nm_app (nm_app (nm_app (nm_app (nm_app (nm_app (nm_app (hfree 213 (by decide)) (by omega)) (by omega)) (by omega)) (by omega)) (by omega)) (by omega)) (by omega)) (by omega)) (fun _ => zD_213) (by decide) (by decide) dX11_init_76 (fun S_26 eS_26 ad_27 hag H hW hS hC => ?_)
  rw [← hag 200 (by omega)] at hl
  rw [← hag 200 (by omega)]
  have hg : ∀ z9 ∈ L, ad_27 z9 = ad z9 := fun z9 hx => (hag z9 (fun e9 => hfree 213 (by decide) (e9 ▸ hx))).trans (hg z9 hx)
  have h := bn_at eS_26 h
  refine gd_put (C := RX11) (T := TX11) (N := 67) (ci := 11) (v := .ref (ad_27 213)) hx hb hts inX11 tyX11 tyX11_ok nmX11 hown hK hW hS (me_l (me_l (me_l (me_l (me_l (me_l (me_l (me_l (me_l ho))))))))) (cD_200) rfl 12 (by decide) mw_973 rfl (Or.inr ⟨hin, rfl⟩) rfl rfl (Nat.le_of_ble_eq_true rfl) (sr S_26 200 12 (some 213)) (dr_200_12) cellD_sr dX11_init_78 (fun S_28 eS_28 H locs hW hS => ?_)
  have h := bn_at eS_28 h
  have hC : Cl (L ++ [203] ++ [204] ++ [205] ++ [206] ++ [207] ++ [209] ++ [210] ++ [212] ++ [213]) S_28 := eS_28 ▸ Cl_sr hC me_r
  refine lv_aload_n  hx hb dX11_init_81 rfl (lv_at hl 0 rfl) ?_
  refine lv_bipush (v := 6) hx hb dX11_init_82 (by decide) ?_
  refine gd_newa (ty := .int) (N' := 6) hx hb rfl hts mw_121 (fun C h9 => by cases h9) hK hT 1 rfl rfl hW hS hC (by decide) (by decide) (by decide) 214 (nm_app (nm_app (nm_app (nm_app (nm_app (nm_app (nm_app (nm_app (nm_app (hfree 214 (by decide)) (by omega)) (by omega)) (by omega)) (by omega)) (by omega)) (by omega)) (by omega)) (by omega)) (by omega)) (fun _ => zD_214) (by decide) (by decide) dX11_init_84 (fun S_29 eS_29 ad_30 hag H hW hS hC => ?_)
  rw [← hag 200 (by omega)] at hl
  rw [← hag 200 (by omega)]
  have hg : ∀ z9 ∈ L, ad_30 z9 = ad z9 := fun z9 hx => (hag z9 (fun e9 => hfree 214 (by decide) (e9 ▸ hx))).trans (hg z9 hx)
  have h := bn_at eS_29 h
  refine gd_put (C := RX11) (T := TX11) (N := 67) (ci := 11) (v := .ref (ad_30 214)) hx hb hts inX11 tyX11 tyX11_ok nmX11 hown hK hW hS (me_l (me_l (me_l (me_l (me_l (me_l (me_l (me_l (me_l (me_l ho)))))))))) (cD_200) rfl 13 (by decide) mw_974 rfl (Or.inr ⟨hin, rfl⟩) rfl rfl (Nat.le_of_ble_eq_true rfl) (sr S_29 200 13 (some 214)) (dr_200_13) cellD_sr dX11_init_86 (fun S_31 eS_31 H locs hW hS => ?_)
  have h := bn_at eS_31 h
  have hC : Cl (L ++ [203] ++ [204] ++ [205] ++ [206] ++ [207] ++ [209] ++ [210] ++ [212] ++ [213] ++ [214]) S_31 := eS_31 ▸ Cl_sr hC me_r
  refine lv_aload_n  hx hb dX11_init_89 rfl (lv_at hl 0 rfl) ?_
  refine lv_bipush (v := 6) hx hb dX11_init_90 (by decide) ?_
  refine gd_newa (ty := .int) (N' := 6) hx hb rfl hts mw_121 (fun C h9 => by cases h9) hK hT 1 rfl rfl hW hS hC (by decide) (by decide) (by decide) 215 (nm_app (nm_app (nm_app (nm_app (nm_app (nm_app (nm_app (nm_app (nm_app (nm_app (hfree 215 (by decide)) (by omega)) (by omega)) (by omega)) (by omega)) (by omega)) (by omega)) (by omega)) (by omega)) (by omega)) (by omega)) (fun _ => zD_215) (by decide) (by decide) dX11_init_92 (fun S_32 eS_32 ad_33 hag H hW hS hC => ?_)
  rw [← hag 200 (by omega)] at hl
  rw [← hag 200 (by omega)]
  have hg : ∀ z9 ∈ L, ad_33 z9 = ad z9 := fun z9 hx => (hag z9 (fun e9 => hfree 215 (by decide) (e9 ▸ hx))).trans (hg z9 hx)
  have h := bn_at eS_32 h
  refine gd_put (C := RX11) (T := TX11) (N := 67) (ci := 11) (v := .ref (ad_33 215)) hx hb hts inX11 tyX11 tyX11_ok nmX11 hown hK hW hS (me_l (me_l (me_l (me_l (me_l (me_l (me_l (me_l (me_l (me_l (me_l ho))))))))))) (cD_200) rfl 14 (by decide) mw_975 rfl (Or.inr ⟨hin, rfl⟩) rfl rfl (Nat.le_of_ble_eq_true rfl) (sr S_32 200 14 (some 215)) (dr_200_14) cellD_sr dX11_init_94 (fun S_34 eS_34 H locs hW hS => ?_)
  have h := bn_at eS_34 h
  have hC : Cl (L ++ [203] ++ [204] ++ [205] ++ [206] ++ [207] ++ [209] ++ [210] ++ [212] ++ [213] ++ [214] ++ [215]) S_34 := eS_34 ▸ Cl_sr hC me_r
  refine lv_aload_n  hx hb dX11_init_97 rfl (lv_at hl 0 rfl) ?_
  refine lv_bipush (v := 6) hx hb dX11_init_98 (by decide) ?_
  refine gd_newa (ty := .int) (N' := 6) hx hb rfl hts mw_121 (fun C h9 => by cases h9) hK hT 1 rfl rfl hW hS hC (by decide) (by decide) (by decide) 216 (nm_app (nm_app (nm_app (nm_app (nm_app (nm_app (nm_app (nm_app (nm_app (nm_app (nm_app (hfree 216 (by decide)) (by omega)) (by omega)) (by omega)) (by omega)) (by omega)) (by omega)) (by omega)) (by omega)) (by omega)) (by omega)) (by omega)) (fun _ => zD_216) (by decide) (by decide) dX11_init_100 (fun S_35 eS_35 ad_36 hag H hW hS hC => ?_)
  rw [← hag 200 (by omega)] at hl
  rw [← hag 200 (by omega)]
  have hg : ∀ z9 ∈ L, ad_36 z9 = ad z9 := fun z9 hx => (hag z9 (fun e9 => hfree 216 (by decide) (e9 ▸ hx))).trans (hg z9 hx)
  have h := bn_at eS_35 h
  refine gd_put (C := RX11) (T := TX11) (N := 67) (ci := 11) (v := .ref (ad_36 216)) hx hb hts inX11 tyX11 tyX11_ok nmX11 hown hK hW hS (me_l (me_l (me_l (me_l (me_l (me_l (me_l (me_l (me_l (me_l (me_l (me_l ho)))))))))))) (cD_200) rfl 15 (by decide) mw_976 rfl (Or.inr ⟨hin, rfl⟩) rfl rfl (Nat.le_of_ble_eq_true rfl) (sr S_35 200 15 (some 216)) (dr_200_15) cellD_sr dX11_init_102 (fun S_37 eS_37 H locs hW hS => ?_)
  have h := bn_at eS_37 h
  have hC : Cl (L ++ [203] ++ [204] ++ [205] ++ [206] ++ [207] ++ [209] ++ [210] ++ [212] ++ [213] ++ [214] ++ [215] ++ [216]) S_37 := eS_37 ▸ Cl_sr hC me_r
  refine lv_aload_n  hx hb dX11_init_105 rfl (lv_at hl 0 rfl) ?_
  refine lv_bipush (v := 6) hx hb dX11_init_106 (by decide) ?_
  refine gd_newa (ty := .int) (N' := 6) hx hb rfl hts mw_121 (fun C h9 => by cases h9) hK hT 1 rfl rfl hW hS hC (by decide) (by decide) (by decide) 217 (nm_app (nm_app (nm_app (nm_app (nm_app (nm_app (nm_app (nm_app (nm_app (nm_app (nm_app (nm_app (hfree 217 (by decide)) (by omega)) (by omega)) (by omega)) (by omega)) (by omega)) (by omega)) (by omega)) (by omega)) (by omega)) (by omega)) (by omega)) (by omega)) (fun _ => zD_217) (by decide) (by decide) dX11_init_108 (fun S_38 eS_38 ad_39 hag H hW hS hC => ?_)
  rw [← hag 200 (by omega)] at hl
  rw [← hag 200 (by omega)]
  have hg : ∀ z9 ∈ L, ad_39 z9 = ad z9 := fun z9 hx => (hag z9 (fun e9 => hfree 217 (by decide) (e9 ▸ hx))).trans (hg z9 hx)
  have h := bn_at eS_38 h
  refine gd_put (C := RX11) (T := TX11) (N := 67) (ci := 11) (v := .ref (ad_39 217)) hx hb hts inX11 tyX11 tyX11_ok nmX11 hown hK hW hS (me_l (me_l (me_l (me_l (me_l (me_l (me_l (me_l (me_l (me_l (me_l (me_l (me_l ho))))))))))))) (cD_200) rfl 16 (by decide) mw_977 rfl (Or.inr ⟨hin, rfl⟩) rfl rfl (Nat.le_of_ble_eq_true rfl) (sr S_38 200 16 (some 217)) (dr_200_16) cellD_sr dX11_init_110 (fun S_40 eS_40 H locs hW hS => ?_)
  have h := bn_at eS_40 h
  have hC : Cl (L ++ [203] ++ [204] ++ [205] ++ [206] ++ [207] ++ [209] ++ [210] ++ [212] ++ [213] ++ [214] ++ [215] ++ [216] ++ [217]) S_40 := eS_40 ▸ Cl_sr hC me_r
  refine lv_aload_n  hx hb dX11_init_113 rfl (lv_at hl 0 rfl) ?_
  refine lv_bipush (v := 6) hx hb dX11_init_114 (by decide) ?_
  refine gd_newa (ty := .int) (N' := 6) hx hb rfl hts mw_121 (fun C h9 => by cases h9) hK hT 1 rfl rfl hW hS hC (by decide) (by decide) (by decide) 218 (nm_app (nm_app (nm_app (nm_app (nm_app (nm_app (nm_app (nm_app (nm_app (nm_app (nm_app (nm_app (nm_app (hfree 218 (by decide)) (by omega)) (by omega)) (by omega)) (by omega)) (by omega)) (by omega)) (by omega)) (by omega)) (by omega)) (by omega)) (by omega)) (by omega)) (by omega)) (fun _ => zD_218) (by decide) (by decide) dX11_init_116 (fun S_41 eS_41 ad_42 hag H hW hS hC => ?_)
  rw [← hag 200 (by omega)] at hl
  rw [← hag 200 (by omega)]
  have hg : ∀ z9 ∈ L, ad_42 z9 = ad z9 := fun z9 hx => (hag z9 (fun e9 => hfree 218 (by decide) (e9 ▸ hx))).trans (hg z9 hx)
  have h := bn_at eS_41 h
  refine gd_put (C := RX11) (T := TX11) (N := 67) (ci := 11) (v := .ref (ad_42 218)) hx hb hts inX11 tyX11 tyX11_ok nmX11 hown hK hW hS (me_l (me_l (me_l (me_l (me_l (me_l (me_l (me_l (me_l (me_l (me_l (me_l (me_l (me_l ho)))))))))))))) (cD_200) rfl 17 (by decide) mw_978 rfl (Or.inr ⟨hin, rfl⟩) rfl rfl (Nat.le_of_ble_eq_true rfl) (sr S_41 200 17 (some 218)) (dr_200_17) cellD_sr dX11_init_118 (fun S_43 eS_43 H locs hW hS => ?_)
  have h := bn_at eS_43 h
  have hC : Cl (L ++ [203] ++ [204] ++ [205] ++ [206] ++ [207] ++ [209] ++ [210] ++ [212] ++ [213] ++ [214] ++ [215] ++ [216] ++ [217] ++ [218]) S_43 := eS_43 ▸ Cl_sr hC me_r
  refine lv_aload_n  hx hb dX11_init_121 rfl (lv_at hl 0 rfl) ?_
  refine lv_bipush (v := 6) hx hb dX11_init_122 (by decide) ?_
  refine gd_newa (ty := .int) (N' := 6) hx hb rfl hts mw_121 (fun C h9 => by cases h9) hK hT 1 rfl rfl hW hS hC (by decide) (by decide) (by decide) 219 (nm_app (nm_app (nm_app (nm_app (nm_app (nm_app (nm_app (nm_app (nm_app (nm_app (nm_app (nm_app (nm_app (nm_app (hfree 219 (by decide)) (by omega)) (by omega)) (by omega)) (by omega)) (by omega)) (by omega)) (by omega)) (by omega)) (by omega)) (by omega)) (by omega)) (by omega)) (by omega)) (by omega)) (fun _ => zD_219) (by decide) (by decide) dX11_init_124 (fun S_44 eS_44 ad_45 hag H hW hS hC => ?_)
  rw [← hag 200 (by omega)] at hl
  rw [← hag 200 (by omega)]
  have hg : ∀ z9 ∈ L, ad_45 z9 = ad z9 := fun z9 hx => (hag z9 (fun e9 => hfree 219 (by decide) (e9 ▸ hx))).trans (hg z9 hx)
  have h := bn_at eS_44 h
  refine gd_put (C := RX11) (T := TX11) (N := 67) (ci := 11) (v := .ref (ad_45 219)) hx hb hts inX11 tyX11 tyX11_ok nmX11 hown hK hW hS (me_l (me_l (me_l (me_l (me_l (me_l (me_l (me_l (me_l (me_l (me_l (me_l (me_l (me_l (me_l ho))))))))))))))) (cD_200) rfl 18 (by decide) mw_979 rfl (Or.inr ⟨hin, rfl⟩) rfl rfl (Nat.le_of_ble_eq_true rfl) (sr S_44 200 18 (some 219)) (dr_200_18) cellD_sr dX11_init_126 (fun S_46 eS_46 H locs hW hS => ?_)
  have h := bn_at eS_46 h
  have hC : Cl (L ++ [203] ++ [204] ++ [205] ++ [206] ++ [207] ++ [209] ++ [210] ++ [212] ++ [213] ++ [214] ++ [215] ++ [216] ++ [217] ++ [218] ++ [219]) S_46 := eS_46 ▸ Cl_sr hC me_r
  refine lv_aload_n  hx hb dX11_init_129 rfl (lv_at hl 0 rfl) ?_
  refine lv_bipush (v := 6) hx hb dX11_init_130 (by decide) ?_
  refine gd_newa (ty := .int) (N' := 6) hx hb rfl hts mw_121 (fun C h9 => by cases h9) hK hT 1 rfl rfl hW hS hC (by decide) (by decide) (by decide) 220 (nm_app (nm_app (nm_app (nm_app (nm_app (nm_app (nm_app (nm_app (nm_app (nm_app (nm_app (nm_app (nm_app (nm_app (nm_app (hfree 220 (by decide)) (by omega)) (by omega)) (by omega)) (by omega)) (by omega)) (by omega)) (by omega)) (by omega)) (by omega)) (by omega)) (by omega)) (by omega)) (by omega)) (by omega)) (by omega)) (fun _ => zD_220) (by decide) (by decide) dX11_init_132 (fun S_47 eS_47 ad_48 hag H hW hS hC => ?_)
  rw [← hag 200 (by omega)] at hl
  rw [← hag 200 (by omega)]
  have hg : ∀ z9 ∈ L, ad_48 z9 = ad z9 := fun z9 hx => (hag z9 (fun e9 => hfree 220 (by decide) (e9 ▸ hx))).trans (hg z9 hx)
  have h := bn_at eS_47 h
  refine gd_put (C := RX11) (T := TX11) (N := 67) (ci := 11) (v := .ref (ad_48 220)) hx hb hts inX11 tyX11 tyX11_ok nmX11 hown hK hW hS (me_l (me_l (me_l (me_l (me_l (me_l (me_l (me_l (me_l (me_l (me_l (me_l (me_l (me_l (me_l (me_l ho)))))))))))))))) (cD_200) rfl 19 (by decide) mw_980 rfl (Or.inr ⟨hin, rfl⟩) rfl rfl (Nat.le_of_ble_eq_true rfl) (sr S_47 200 19 (some 220)) (dr_200_19) cellD_sr dX11_init_134 (fun S_49 eS_49 H locs hW hS => ?_)
  have h := bn_at eS_49 h
  have hC : Cl (L ++ [203] ++ [204] ++ [205] ++ [206] ++ [207] ++ [209] ++ [210] ++ [212] ++ [213] ++ [214] ++ [215] ++ [216] ++ [217] ++ [218] ++ [219] ++ [220]) S_49 := eS_49 ▸ Cl_sr hC me_r
  refine lv_aload_n  hx hb dX11_init_137 rfl (lv_at hl 0 rfl) ?_
  refine lv_bipush (v := 6) hx hb dX11_init_138 (by decide) ?_
  refine gd_newa (ty := .int) (N' := 6) hx hb rfl hts mw_121 (fun C h9 => by cases h9) hK hT 1 rfl rfl hW hS hC (by decide) (by decide) (by decide) 221 (nm_app (nm_app (nm_app (nm_app (nm_app (nm_app (nm_app (nm_app (nm_app (nm_app (nm_app (nm_app (nm_app (nm_app (nm_app (nm_app (hfree 221 (by decide)) (by omega)) (by omega)) (by omega)) (by omega)) (by omega)) (by omega)) (by omega)) (by omega)) (by omega)) (by omega)) (by omega)) (by omega)) (by omega)) (by omega)) (by omega)) (by omega)) (fun _ => zD_221) (by decide) (by decide) dX11_init_140 (fun S_50 eS_50 ad_51 hag H hW hS hC => ?_)
  rw [← hag 200 (by omega)] at hl
  rw [← hag 200 (by omega)]
  have hg : ∀ z9 ∈ L, ad_51 z9 = ad z9 := fun z9 hx => (hag z9 (fun e9 => hfree 221 (by decide) (e9 ▸ hx))).trans (hg z9 hx)
  have h := bn_at eS_50 h
  refine gd_put (C := RX11) (T := TX11) (N := 67) (ci := 11) (v := .ref (ad_51 221)) hx hb hts inX11 tyX11 tyX11_ok nmX11 hown hK hW hS (me_l (me_l (me_l (me_l (me_l (me_l (me_l (me_l (me_l (me_l (me_l (me_l (me_l (me_l (me_l (me_l (me_l ho))))))))))))))))) (cD_200) rfl 20 (by decide) mw_981 rfl (Or.inr ⟨hin, rfl⟩) rfl rfl (Nat.le_of_ble_eq_true rfl) (sr S_50 200 20 (some 221)) (dr_200_20) cellD_sr dX11_init_142 (fun S_52 eS_52 H locs hW hS => ?_)
  have h := bn_at eS_52 h
  have hC : Cl (L ++ [203] ++ [204] ++ [205] ++ [206] ++ [207] ++ [209] ++ [210] ++ [212] ++ [213] ++ [214] ++ [215] ++ [216] ++ [217] ++ [218] ++ [219] ++ [220] ++ [221]) S_52 := eS_52 ▸ Cl_sr hC me_r
  refine lv_aload_n  hx hb dX11_init_145 rfl (lv_at hl 0 rfl) ?_
  refine lv_bipush (v := 6) hx hb dX11_init_146 (by decide) ?_
  refine gd_newa (ty := .int) (N' := 6) hx hb rfl hts mw_121 (fun C h9 => by cases h9) hK hT 1 rfl rfl hW hS hC (by decide) (by decide) (by decide) 222 (nm_app (nm_app (nm_app (nm_app (nm_app (nm_app (nm_app (nm_app (nm_app (nm_app (nm_app (nm_app (nm_app (nm_app (nm_app (nm_app (nm_app (hfree 222 (by decide)) (by omega)) (by omega)) (by omega)) (by omega)) (by omega)) (by omega)) (by omega)) (by omega)) (by omega)) (by omega)) (by omega)) (by omega)) (by omega)) (by omega)) (by omega)) (by omega)) (by omega)) (fun _ => zD_222) (by decide) (by decide) dX11_init_148 (fun S_53 eS_53 ad_54 hag H hW hS hC => ?_)
  rw [← hag 200 (by omega)] at hl
  rw [← hag 200 (by omega)]
  have hg : ∀ z9 ∈ L, ad_54 z9 = ad z9 := fun z9 hx => (hag z9 (fun e9 => hfree 222 (by decide) (e9 ▸ hx))).trans (hg z9 hx)
  have h := bn_at eS_53 h
  refine gd_put (C := RX11) (T := TX11) (N := 67) (ci := 11) (v := .ref (ad_54 222)) hx hb hts inX11 tyX11 tyX11_ok nmX11 hown hK hW hS (me_l (me_l (me_l (me_l (me_l (me_l (me_l (me_l (me_l (me_l (me_l (me_l (me_l (me_l (me_l (me_l (me_l (me_l ho)))))))))))))))))) (cD_200) rfl 21 (by decide) mw_982 rfl (Or.inr ⟨hin, rfl⟩) rfl rfl (Nat.le_of_ble_eq_true rfl) (sr S_53 200 21 (some 222)) (dr_200_21) cellD_sr dX11_init_150 (fun S_55 eS_55 H locs hW hS => ?_)
  have h := bn_at eS_55 h
  have hC : Cl (L ++ [203] ++ [204] ++ [205] ++ [206] ++ [207] ++ [209] ++ [210] ++ [212] ++ [213] ++ [214] ++ [215] ++ [216] ++ [217] ++ [218] ++ [219] ++ [220] ++ [221] ++ [222]) S_55 := eS_55 ▸ Cl_sr hC me_r
  refine lv_aload_n  hx hb dX11_init_153 rfl (lv_at hl 0 rfl) ?_
  refine lv_sipush (v := 3000) hx hb dX11_init_154 (by decide) ?_
  refine gd_newa (ty := .int) (N' := 3000) hx hb rfl hts mw_121 (fun C h9 => by cases h9) hK hT 1 rfl rfl hW hS hC (by decide) (by decide) (by decide) 223 (nm_app (nm_app (nm_app (nm_app (nm_app (nm_app (nm_app (nm_app (nm_app (nm_app (nm_app (nm_app (nm_app (nm_app (nm_app (nm_app (nm_app (nm_app (hfree 223 (by decide)) (by omega)) (by omega)) (by omega)) (by omega)) (by omega)) (by omega)) (by omega)) (by omega)) (by omega)) (by omega)) (by omega)) (by omega)) (by omega)) (by omega)) (by omega)) (by omega)) (by omega)) (by omega)) (fun _ => zD_223) (by decide) (by decide) dX11_init_157 (fun S_56 eS_56 ad_57 hag H hW hS hC => ?_)
  rw [← hag 200 (by omega)] at hl
  rw [← hag 200 (by omega)]
  have hg : ∀ z9 ∈ L, ad_57 z9 = ad z9 := fun z9 hx => (hag z9 (fun e9 => hfree 223 (by decide) (e9 ▸ hx))).trans (hg z9 hx)
  have h := bn_at eS_56 h
  refine gd_put (C := RX11) (T := TX11) (N := 67) (ci := 11) (v := .ref (ad_57 223)) hx hb hts inX11 tyX11 tyX11_ok nmX11 hown hK hW hS (me_l (me_l (me_l (me_l (me_l (me_l (me_l (me_l (me_l (me_l (me_l (me_l (me_l (me_l (me_l (me_l (me_l (me_l (me_l ho))))))))))))))))))) (cD_200) rfl 22 (by decide) mw_983 rfl (Or.inr ⟨hin, rfl⟩) rfl rfl (Nat.le_of_ble_eq_true rfl) (sr S_56 200 22 (some 223)) (dr_200_22) cellD_sr dX11_init_159 (fun S_58 eS_58 H locs hW hS => ?_)
  have h := bn_at eS_58 h
  have hC : Cl (L ++ [203] ++ [204] ++ [205] ++ [206] ++ [207] ++ [209] ++ [210] ++ [212] ++ [213] ++ [214] ++ [215] ++ [216] ++ [217] ++ [218] ++ [219] ++ [220] ++ [221] ++ [222] ++ [223]) S_58 := eS_58 ▸ Cl_sr hC me_r
  refine lv_aload_n  hx hb dX11_init_162 rfl (lv_at hl 0 rfl) ?_
  refine lv_sipush (v := 3000) hx hb dX11_init_163 (by decide) ?_
  refine gd_newa (ty := .int) (N' := 3000) hx hb rfl hts mw_121 (fun C h9 => by cases h9) hK hT 1 rfl rfl hW hS hC (by decide) (by decide) (by decide) 224 (nm_app (nm_app (nm_app (nm_app (nm_app (nm_app (nm_app (nm_app (nm_app (nm_app (nm_app (nm_app (nm_app (nm_app (nm_app (nm_app (nm_app (nm_app (nm_app (hfree 224 (by decide)) (by omega)) (by omega)) (by omega)) (by omega)) (by omega)) (by omega)) (by omega)) (by omega)) (by omega)) (by omega)) (by omega)) (by omega)) (by omega)) (by omega)) (by omega)) (by omega)) (by omega)) (by omega)) (by omega)) (fun _ => zD_224) (by decide) (by decide) dX11_init_166 (fun S_59 eS_59 ad_60 hag H hW hS hC => ?_)
  rw [← hag 200 (by omega)] at hl
  rw [← hag 200 (by omega)]
  have hg : ∀ z9 ∈ L, ad_60 z9 = ad z9 := fun z9 hx => (hag z9 (fun e9 => hfree 224 (by decide) (e9 ▸ hx))).trans (hg z9 hx)
  have h := bn_at eS_59 h
  refine gd_put (C := RX11) (T := TX11) (N := 67) (ci := 11) (v := .ref (ad_60 224)) hx hb hts inX11 tyX11 tyX11_ok nmX11 hown hK hW hS (me_l (me_l (me_l (me_l (me_l (me_l (me_l (me_l (me_l (me_l (me_l (me_l (me_l (me_l (me_l (me_l (me_l (me_l (me_l (me_l ho)))))))))))))))))))) (cD_200) rfl 23 (by decide) mw_984 rfl (Or.inr ⟨hin, rfl⟩) rfl rfl (Nat.le_of_ble_eq_true rfl) (sr S_59 200 23 (some 224)) (dr_200_23) cellD_sr dX11_init_168 (fun S_61 eS_61 H locs hW hS => ?_)
  have h := bn_at eS_61 h
  have hC : Cl (L ++ [203] ++ [204] ++ [205] ++ [206] ++ [207] ++ [209] ++ [210] ++ [212] ++ [213] ++ [214] ++ [215] ++ [216] ++ [217] ++ [218] ++ [219] ++ [220] ++ [221] ++ [222] ++ [223] ++ [224]) S_61 := eS_61 ▸ Cl_sr hC me_r
  refine lv_aload_n  hx hb dX11_init_171 rfl (lv_at hl 0 rfl) ?_
  refine lv_bipush (v := 60) hx hb dX11_init_172 (by decide) ?_
  refine gd_newa (ty := .int) (N' := 60) hx hb rfl hts mw_121 (fun C h9 => by cases h9) hK hT 1 rfl rfl hW hS hC (by decide) (by decide) (by decide) 225 (nm_app (nm_app (nm_app (nm_app (nm_app (nm_app (nm_app (nm_app (nm_app (nm_app (nm_app (nm_app (nm_app (nm_app (nm_app (nm_app (nm_app (nm_app (nm_app (nm_app (hfree 225 (by decide)) (by omega)) (by omega)) (by omega)) (by omega)) (by omega)) (by omega)) (by omega)) (by omega)) (by omega)) (by omega)) (by omega)) (by omega)) (by omega)) (by omega)) (by omega)) (by omega)) (by omega)) (by omega)) (by omega)) (by omega)) (fun _ => zD_225) (by decide) (by decide) dX11_init_174 (fun S_62 eS_62 ad_63 hag H hW hS hC => ?_)
  rw [← hag 200 (by omega)] at hl
  rw [← hag 200 (by omega)]
  have hg : ∀ z9 ∈ L, ad_63 z9 = ad z9 := fun z9 hx => (hag z9 (fun e9 => hfree 225 (by decide) (e9 ▸ hx))).trans (hg z9 hx)
  have h := bn_at eS_62 h
  refine gd_put (C := RX11) (T := TX11) (N := 67) (ci := 11) (v := .ref (ad_63 225)) hx hb hts inX11 tyX11 tyX11_ok nmX11 hown hK hW hS (me_l (me_l (me_l (me_l (me_l (me_l (me_l (me_l (me_l (me_l (me_l (me_l (me_l (me_l (me_l (me_l (me_l (me_l (me_l (me_l (me_l ho))))))))))))))))))))) (cD_200) rfl 24 (by decide) mw_985 rfl (Or.inr ⟨hin, rfl⟩) rfl rfl (Nat.le_of_ble_eq_true rfl) (sr S_62 200 24 (some 225)) (dr_200_24) cellD_sr dX11_init_176 (fun S_64 eS_64 H locs hW hS => ?_)
  have h := bn_at eS_64 h
  have hC : Cl (L ++ [203] ++ [204] ++ [205] ++ [206] ++ [207] ++ [209] ++ [210] ++ [212] ++ [213] ++ [214] ++ [215] ++ [216] ++ [217] ++ [218] ++ [219] ++ [220] ++ [221] ++ [222] ++ [223] ++ [224] ++ [225]) S_64 := eS_64 ▸ Cl_sr hC me_r
  refine lv_aload_n  hx hb dX11_init_179 rfl (lv_at hl 0 rfl) ?_
  refine lv_bipush (v := 48) hx hb dX11_init_180 (by decide) ?_
  refine gd_newa (ty := .int) (N' := 48) hx hb rfl hts mw_121 (fun C h9 => by cases h9) hK hT 1 rfl rfl hW hS hC (by decide) (by decide) (by decide) 226 (nm_app (nm_app (nm_app (nm_app (nm_app (nm_app (nm_app (nm_app (nm_app (nm_app (nm_app (nm_app (nm_app (nm_app (nm_app (nm_app (nm_app (nm_app (nm_app (nm_app (nm_app (hfree 226 (by decide)) (by omega)) (by omega)) (by omega)) (by omega)) (by omega)) (by omega)) (by omega)) (by omega)) (by omega)) (by omega)) (by omega)) (by omega)) (by omega)) (by omega)) (by omega)) (by omega)) (by omega)) (by omega)) (by omega)) (by omega)) (by omega)) (fun _ => zD_226) (by decide) (by decide) dX11_init_182 (fun S_65 eS_65 ad_66 hag H hW hS hC => ?_)
  rw [← hag 200 (by omega)] at hl
  rw [← hag 200 (by omega)]
  have hg : ∀ z9 ∈ L, ad_66 z9 = ad z9 := fun z9 hx => (hag z9 (fun e9 => hfree 226 (by decide) (e9 ▸ hx))).trans (hg z9 hx)
  have h := bn_at eS_65 h
  refine gd_put (C := RX11) (T := TX11) (N := 67) (ci := 11) (v := .ref (ad_66 226)) hx hb hts inX11 tyX11 tyX11_ok nmX11 hown hK hW hS (me_l (me_l (me_l (me_l (me_l (me_l (me_l (me_l (me_l (me_l (me_l (me_l (me_l (me_l (me_l (me_l (me_l (me_l (me_l (me_l (me_l (me_l ho)))))))))))))))))))))) (cD_200) rfl 25 (by decide) mw_986 rfl (Or.inr ⟨hin, rfl⟩) rfl rfl (Nat.le_of_ble_eq_true rfl) (sr S_65 200 25 (some 226)) (dr_200_25) cellD_sr dX11_init_184 (fun S_67 eS_67 H locs hW hS => ?_)
  have h := bn_at eS_67 h
  have hC : Cl (L ++ [203] ++ [204] ++ [205] ++ [206] ++ [207] ++ [209] ++ [210] ++ [212] ++ [213] ++ [214] ++ [215] ++ [216] ++ [217] ++ [218] ++ [219] ++ [220] ++ [221] ++ [222] ++ [223] ++ [224] ++ [225] ++ [226]) S_67 := eS_67 ▸ Cl_sr hC me_r
  refine lv_aload_n  hx hb dX11_init_187 rfl (lv_at hl 0 rfl) ?_
  refine lv_bipush (v := 48) hx hb dX11_init_188 (by decide) ?_
  refine gd_newa (ty := .int) (N' := 48) hx hb rfl hts mw_121 (fun C h9 => by cases h9) hK hT 1 rfl rfl hW hS hC (by decide) (by decide) (by decide) 227 (nm_app (nm_app (nm_app (nm_app (nm_app (nm_app (nm_app (nm_app (nm_app (nm_app (nm_app (nm_app (nm_app (nm_app (nm_app (nm_app (nm_app (nm_app (nm_app (nm_app (nm_app (nm_app (hfree 227 (by decide)) (by omega)) (by omega)) (by omega)) (by omega)) (by omega)) (by omega)) (by omega)) (by omega)) (by omega)) (by omega)) (by omega)) (by omega)) (by omega)) (by omega)) (by omega)) (by omega)) (by omega)) (by omega)) (by omega)) (by omega)) (by omega)) (by omega)) (fun _ => zD_227) (by decide) (by decide) dX11_init_190 (fun S_68 eS_68 ad_69 hag H hW hS hC => ?_)
  rw [← hag 200 (by omega)] at hl
  rw [← hag 200 (by omega)]
  have hg : ∀ z9 ∈ L, ad_69 z9 = ad z9 := fun z9 hx => (hag z9 (fun e9 => hfree 227 (by decide) (e9 ▸ hx))).trans (hg z9 hx)
  have h := bn_at eS_68 h
  refine gd_put (C := RX11) (T := TX11) (N := 67) (ci := 11) (v := .ref (ad_69 227)) hx hb hts inX11 tyX11 tyX11_ok nmX11 hown hK hW hS (me_l (me_l (me_l (me_l (me_l (me_l (me_l (me_l (me_l (me_l (me_l (me_l (me_l (me_l (me_l (me_l (me_l (me_l (me_l (me_l (me_l (me_l (me_l ho))))))))))))))))))))))) (cD_200) rfl 26 (by decide) mw_987 rfl (Or.inr ⟨hin, rfl⟩) rfl rfl (Nat.le_of_ble_eq_true rfl) (sr S_68 200 26 (some 227)) (dr_200_26) cellD_sr dX11_init_192 (fun S_70 eS_70 H locs hW hS => ?_)
  have h := bn_at eS_70 h
  have hC : Cl (L ++ [203] ++ [204] ++ [205] ++ [206] ++ [207] ++ [209] ++ [210] ++ [212] ++ [213] ++ [214] ++ [215] ++ [216] ++ [217] ++ [218] ++ [219] ++ [220] ++ [221] ++ [222] ++ [223] ++ [224] ++ [225] ++ [226] ++ [227]) S_70 := eS_70 ▸ Cl_sr hC me_r
  refine lv_aload_n  hx hb dX11_init_195 rfl (lv_at hl 0 rfl) ?_
  refine lv_bipush (v := 6) hx hb dX11_init_196 (by decide) ?_
  refine gd_newa (ty := .int) (N' := 6) hx hb rfl hts mw_121 (fun C h9 => by cases h9) hK hT 1 rfl rfl hW hS hC (by decide) (by decide) (by decide) 228 (nm_app (nm_app (nm_app (nm_app (nm_app (nm_app (nm_app (nm_app (nm_app (nm_app (nm_app (nm_app (nm_app (nm_app (nm_app (nm_app (nm_app (nm_app (nm_app (nm_app (nm_app (nm_app (nm_app (hfree 228 (by decide)) (by omega)) (by omega)) (by omega)) (by omega)) (by omega)) (by omega)) (by omega)) (by omega)) (by omega)) (by omega)) (by omega)) (by omega)) (by omega)) (by omega)) (by omega)) (by omega)) (by omega)) (by omega)) (by omega)) (by omega)) (by omega)) (by omega)) (by omega)) (fun _ => zD_228) (by decide) (by decide) dX11_init_198 (fun S_71 eS_71 ad_72 hag H hW hS hC => ?_)
  rw [← hag 200 (by omega)] at hl
  rw [← hag 200 (by omega)]
  have hg : ∀ z9 ∈ L, ad_72 z9 = ad z9 := fun z9 hx => (hag z9 (fun e9 => hfree 228 (by decide) (e9 ▸ hx))).trans (hg z9 hx)
  have h := bn_at eS_71 h
  refine gd_put (C := RX11) (T := TX11) (N := 67) (ci := 11) (v := .ref (ad_72 228)) hx hb hts inX11 tyX11 tyX11_ok nmX11 hown hK hW hS (me_l (me_l (me_l (me_l (me_l (me_l (me_l (me_l (me_l (me_l (me_l (me_l (me_l (me_l (me_l (me_l (me_l (me_l (me_l (me_l (me_l (me_l (me_l (me_l ho)))))))))))))))))))))))) (cD_200) rfl 27 (by decide) mw_988 rfl (Or.inr ⟨hin, rfl⟩) rfl rfl (Nat.le_of_ble_eq_true rfl) (sr S_71 200 27 (some 228)) (dr_200_27) cellD_sr dX11_init_200 (fun S_73 eS_73 H locs hW hS => ?_)
  have h := bn_at eS_73 h
  have hC : Cl (L ++ [203] ++ [204] ++ [205] ++ [206] ++ [207] ++ [209] ++ [210] ++ [212] ++ [213] ++ [214] ++ [215] ++ [216] ++ [217] ++ [218] ++ [219] ++ [220] ++ [221] ++ [222] ++ [223] ++ [224] ++ [225] ++ [226] ++ [227] ++ [228]) S_73 := eS_73 ▸ Cl_sr hC me_r
  refine lv_aload_n  hx hb dX11_init_203 rfl (lv_at hl 0 rfl) ?_
  refine lv_sipush (v := 500) hx hb dX11_init_204 (by decide) ?_
  refine gd_newa (ty := .int) (N' := 500) hx hb rfl hts mw_121 (fun C h9 => by cases h9) hK hT 1 rfl rfl hW hS hC (by decide) (by decide) (by decide) 229 (nm_app (nm_app (nm_app (nm_app (nm_app (nm_app (nm_app (nm_app (nm_app (nm_app (nm_app (nm_app (nm_app (nm_app (nm_app (nm_app (nm_app (nm_app (nm_app (nm_app (nm_app (nm_app (nm_app (nm_app (hfree 229 (by decide)) (by omega)) (by omega)) (by omega)) (by omega)) (by omega)) (by omega)) (by omega)) (by omega)) (by omega)) (by omega)) (by omega)) (by omega)) (by omega)) (by omega)) (by omega)) (by omega)) (by omega)) (by omega)) (by omega)) (by omega)) (by omega)) (by omega)) (by omega)) (by omega)) (fun _ => zD_229) (by decide) (by decide) dX11_init_207 (fun S_74 eS_74 ad_75 hag H hW hS hC => ?_)
  rw [← hag 200 (by omega)] at hl
  rw [← hag 200 (by omega)]
  have hg : ∀ z9 ∈ L, ad_75 z9 = ad z9 := fun z9 hx => (hag z9 (fun e9 => hfree 229 (by decide) (e9 ▸ hx))).trans (hg z9 hx)
  have h := bn_at eS_74 h
  refine gd_put (C := RX11) (T := TX11) (N := 67) (ci := 11) (v := .ref (ad_75 229)) hx hb hts inX11 tyX11 tyX11_ok nmX11 hown hK hW hS (me_l (me_l (me_l (me_l (me_l (me_l (me_l (me_l (me_l (me_l (me_l (me_l (me_l (me_l (me_l (me_l (me_l (me_l (me_l (me_l (me_l (me_l (me_l (me_l (me_l ho))))))))))))))))))))))))) (cD_200) rfl 28 (by decide) mw_989 rfl (Or.inr ⟨hin, rfl⟩) rfl rfl (Nat.le_of_ble_eq_true rfl) (sr S_74 200 28 (some 229)) (dr_200_28) cellD_sr dX11_init_209 (fun S_76 eS_76 H locs hW hS => ?_)
  have h := bn_at eS_76 h
  have hC : Cl (L ++ [203] ++ [204] ++ [205] ++ [206] ++ [207] ++ [209] ++ [210] ++ [212] ++ [213] ++ [214] ++ [215] ++ [216] ++ [217] ++ [218] ++ [219] ++ [220] ++ [221] ++ [222] ++ [223] ++ [224] ++ [225] ++ [226] ++ [227] ++ [228] ++ [229]) S_76 := eS_76 ▸ Cl_sr hC me_r
  refine lv_aload_n  hx hb dX11_init_212 rfl (lv_at hl 0 rfl) ?_
  refine lv_sipush (v := 500) hx hb dX11_init_213 (by decide) ?_
  refine gd_newa (ty := .int) (N' := 500) hx hb rfl hts mw_121 (fun C h9 => by cases h9) hK hT 1 rfl rfl hW hS hC (by decide) (by decide) (by decide) 230 (nm_app (nm_app (nm_app (nm_app (nm_app (nm_app (nm_app (nm_app (nm_app (nm_app (nm_app (nm_app (nm_app (nm_app (nm_app (nm_app (nm_app (nm_app (nm_app (nm_app (nm_app (nm_app (nm_app (nm_app (nm_app (hfree 230 (by decide)) (by omega)) (by omega)) (by omega)) (by omega)) (by omega)) (by omega)) (by omega)) (by omega)) (by omega)) (by omega)) (by omega)) (by omega)) (by omega)) (by omega)) (by omega)) (by omega)) (by omega)) (by omega)) (by omega)) (by omega)) (by omega)) (by omega)) (by omega)) (by omega)) (by omega)) (fun _ => zD_230) (by decide) (by decide) dX11_init_216 (fun S_77 eS_77 ad_78 hag H hW hS hC => ?_)
  rw [← hag 200 (by omega)] at hl
  rw [← hag 200 (by omega)]
  have hg : ∀ z9 ∈ L, ad_78 z9 = ad z9 := fun z9 hx => (hag z9 (fun e9 => hfree 230 (by decide) (e9 ▸ hx))).trans (hg z9 hx)
  have h := bn_at eS_77 h
  refine gd_put (C := RX11) (T := TX11) (N := 67) (ci := 11) (v := .ref (ad_78 230)) hx hb hts inX11 tyX11 tyX11_ok nmX11 hown hK hW hS (me_l (me_l (me_l (me_l (me_l (me_l (me_l (me_l (me_l (me_l (me_l (me_l (me_l (me_l (me_l (me_l (me_l (me_l (me_l (me_l (me_l (me_l (me_l (me_l (me_l (me_l ho)))))))))))))))))))))))))) (cD_200) rfl 29 (by decide) mw_990 rfl (Or.inr ⟨hin, rfl⟩) rfl rfl (Nat.le_of_ble_eq_true rfl) (sr S_77 200 29 (some 230)) (dr_200_29) cellD_sr dX11_init_218 (fun S_79 eS_79 H locs hW hS => ?_)
  have h := bn_at eS_79 h
  have hC : Cl (L ++ [203] ++ [204] ++ [205] ++ [206] ++ [207] ++ [209] ++ [210] ++ [212] ++ [213] ++ [214] ++ [215] ++ [216] ++ [217] ++ [218] ++ [219] ++ [220] ++ [221] ++ [222] ++ [223] ++ [224] ++ [225] ++ [226] ++ [227] ++ [228] ++ [229] ++ [230]) S_79 := eS_79 ▸ Cl_sr hC me_r
  refine lv_aload_n  hx hb dX11_init_221 rfl (lv_at hl 0 rfl) ?_
  refine lv_bipush (v := 10) hx hb dX11_init_222 (by decide) ?_
  refine gd_newa (ty := .int) (N' := 10) hx hb rfl hts mw_121 (fun C h9 => by cases h9) hK hT 1 rfl rfl hW hS hC (by decide) (by decide) (by decide) 231 (nm_app (nm_app (nm_app (nm_app (nm_app (nm_app (nm_app (nm_app (nm_app (nm_app (nm_app (nm_app (nm_app (nm_app (nm_app (nm_app (nm_app (nm_app (nm_app (nm_app (nm_app (nm_app (nm_app (nm_app (nm_app (nm_app (hfree 231 (by decide)) (by omega)) (by omega)) (by omega)) (by omega)) (by omega)) (by omega)) (by omega)) (by omega)) (by omega)) (by omega)) (by omega)) (by omega)) (by omega)) (by omega)) (by omega)) (by omega)) (by omega)) (by omega)) (by omega)) (by omega)) (by omega)) (by omega)) (by omega)) (by omega)) (by omega)) (by omega)) (fun _ => zD_231) (by decide) (by decide) dX11_init_224 (fun S_80 eS_80 ad_81 hag H hW hS hC => ?_)
  rw [← hag 200 (by omega)] at hl
  rw [← hag 200 (by omega)]
  have hg : ∀ z9 ∈ L, ad_81 z9 = ad z9 := fun z9 hx => (hag z9 (fun e9 => hfree 231 (by decide) (e9 ▸ hx))).trans (hg z9 hx)
  have h := bn_at eS_80 h
  refine gd_put (C := RX11) (T := TX11) (N := 67) (ci := 11) (v := .ref (ad_81 231)) hx hb hts inX11 tyX11 tyX11_ok nmX11 hown hK hW hS (me_l (me_l (me_l (me_l (me_l (me_l (me_l (me_l (me_l (me_l (me_l (me_l (me_l (me_l (me_l (me_l (me_l (me_l (me_l (me_l (me_l (me_l (me_l (me_l (me_l (me_l (me_l ho))))))))))))))))))))))))))) (cD_200) rfl 30 (by decide) mw_991 rfl (Or.inr ⟨hin, rfl⟩) rfl rfl (Nat.le_of_ble_eq_true rfl) (sr S_80 200 30 (some 231)) (dr_200_30) cellD_sr dX11_init_226 (fun S_82 eS_82 H locs hW hS => ?_)
  have h := bn_at eS_82 h
  have hC : Cl (L ++ [203] ++ [204] ++ [205] ++ [206] ++ [207] ++ [209] ++ [210] ++ [212] ++ [213] ++ [214] ++ [215] ++ [216] ++ [217] ++ [218] ++ [219] ++ [220] ++ [221] ++ [222] ++ [223] ++ [224] ++ [225] ++ [226] ++ [227] ++ [228] ++ [229] ++ [230] ++ [231]) S_82 := eS_82 ▸ Cl_sr hC me_r
  refine lv_aload_n  hx hb dX11_init_229 rfl (lv_at hl 0 rfl) ?_
  refine lv_bipush (v := 8) hx hb dX11_init_230 (by decide) ?_
  refine gd_newa (ty := .int) (N' := 8) hx hb rfl hts mw_121 (fun C h9 => by cases h9) hK hT 1 rfl rfl hW hS hC (by decide) (by decide) (by decide) 232 (nm_app (nm_app (nm_app (nm_app (nm_app (nm_app (nm_app (nm_app (nm_app (nm_app (nm_app (nm_app (nm_app (nm_app (nm_app (nm_app (nm_app (nm_app (nm_app (nm_app (nm_app (nm_app (nm_app (nm_app (nm_app (nm_app (nm_app (hfree 232 (by decide)) (by omega)) (by omega)) (by omega)) (by omega)) (by omega)) (by omega)) (by omega)) (by omega)) (by omega)) (by omega)) (by omega)) (by omega)) (by omega)) (by omega)) (by omega)) (by omega)) (by omega)) (by omega)) (by omega)) (by omega)) (by omega)) (by omega)) (by omega)) (by omega)) (by omega)) (by omega)) (by omega)) (fun _ => zD_232) (by decide) (by decide) dX11_init_232 (fun S_83 eS_83 ad_84 hag H hW hS hC => ?_)
  rw [← hag 200 (by omega)] at hl
  rw [← hag 200 (by omega)]
  have hg : ∀ z9 ∈ L, ad_84 z9 = ad z9 := fun z9 hx => (hag z9 (fun e9 => hfree 232 (by decide) (e9 ▸ hx))).trans (hg z9 hx)
  have h := bn_at eS_83 h
  refine gd_put (C := RX11) (T := TX11) (N := 67) (ci := 11) (v := .ref (ad_84 232)) hx hb hts inX11 tyX11 tyX11_ok nmX11 hown hK hW hS (me_l (me_l (me_l (me_l (me_l (me_l (me_l (me_l (me_l (me_l (me_l (me_l (me_l (me_l (me_l (me_l (me_l (me_l (me_l (me_l (me_l (me_l (me_l (me_l (me_l (me_l (me_l (me_l ho)))))))))))))))))))))))))))) (cD_200) rfl 31 (by decide) mw_992 rfl (Or.inr ⟨hin, rfl⟩) rfl rfl (Nat.le_of_ble_eq_true rfl) (sr S_83 200 31 (some 232)) (dr_200_31) cellD_sr dX11_init_234 (fun S_85 eS_85 H locs hW hS => ?_)
  have h := bn_at eS_85 h
  have hC : Cl (L ++ [203] ++ [204] ++ [205] ++ [206] ++ [207] ++ [209] ++ [210] ++ [212] ++ [213] ++ [214] ++ [215] ++ [216] ++ [217] ++ [218] ++ [219] ++ [220] ++ [221] ++ [222] ++ [223] ++ [224] ++ [225] ++ [226] ++ [227] ++ [228] ++ [229] ++ [230] ++ [231] ++ [232]) S_85 := eS_85 ▸ Cl_sr hC me_r
  refine lv_aload_n  hx hb dX11_init_237 rfl (lv_at hl 0 rfl) ?_
  refine lv_bipush (v := 8) hx hb dX11_init_238 (by decide) ?_
  refine gd_newa (ty := .int) (N' := 8) hx hb rfl hts mw_121 (fun C h9 => by cases h9) hK hT 1 rfl rfl hW hS hC (by decide) (by decide) (by decide) 233 (nm_app (nm_app (nm_app (nm_app (nm_app (nm_app (nm_app (nm_app (nm_app (nm_app (nm_app (nm_app (nm_app (nm_app (nm_app (nm_app (nm_app (nm_app (nm_app (nm_app (nm_app (nm_app (nm_app (nm_app (nm_app (nm_app (nm_app (nm_app (hfree 233 (by decide)) (by omega)) (by omega)) (by omega)) (by omega)) (by omega)) (by omega)) (by omega)) (by omega)) (by omega)) (by omega)) (by omega)) (by omega)) (by omega)) (by omega)) (by omega)) (by omega)) (by omega)) (by omega)) (by omega)) (by omega)) (by omega)) (by omega)) (by omega)) (by omega)) (by omega)) (by omega)) (by omega)) (by omega)) (fun _ => zD_233) (by decide) (by decide) dX11_init_240 (fun S_86 eS_86 ad_87 hag H hW hS hC => ?_)
  rw [← hag 200 (by omega)] at hl
  rw [← hag 200 (by omega)]
  have hg : ∀ z9 ∈ L, ad_87 z9 = ad z9 := fun z9 hx => (hag z9 (fun e9 => hfree 233 (by decide) (e9 ▸ hx))).trans (hg z9 hx)
  have h := bn_at eS_86 h
  refine gd_put (C := RX11) (T := TX11) (N := 67) (ci := 11) (v := .ref (ad_87 233)) hx hb hts inX11 tyX11 tyX11_ok nmX11 hown hK hW hS (me_l (me_l (me_l (me_l (me_l (me_l (me_l (me_l (me_l (me_l (me_l (me_l (me_l (me_l (me_l (me_l (me_l (me_l (me_l (me_l (me_l (me_l (me_l (me_l (me_l (me_l (me_l (me_l (me_l ho))))))))))))))))))))))))))))) (cD_200) rfl 32 (by decide) mw_993 rfl (Or.inr ⟨hin, rfl⟩) rfl rfl (Nat.le_of_ble_eq_true rfl) (sr S_86 200 32 (some 233)) (dr_200_32) cellD_sr dX11_init_242 (fun S_88 eS_88 H locs hW hS => ?_)
  have h := bn_at eS_88 h
  have hC : Cl (L ++ [203] ++ [204] ++ [205] ++ [206] ++ [207] ++ [209] ++ [210] ++ [212] ++ [213] ++ [214] ++ [215] ++ [216] ++ [217] ++ [218] ++ [219] ++ [220] ++ [221] ++ [222] ++ [223] ++ [224] ++ [225] ++ [226] ++ [227] ++ [228] ++ [229] ++ [230] ++ [231] ++ [232] ++ [233]) S_88 := eS_88 ▸ Cl_sr hC me_r
  refine lv_aload_n  hx hb dX11_init_245 rfl (lv_at hl 0 rfl) ?_
  refine lv_sipush (v := 500) hx hb dX11_init_246 (by decide) ?_
  refine gd_newa (ty := .int) (N' := 500) hx hb rfl hts mw_121 (fun C h9 => by cases h9) hK hT 1 rfl rfl hW hS hC (by decide) (by decide) (by decide) 237 (nm_app (nm_app (nm_app (nm_app (nm_app (nm_app (nm_app (nm_app (nm_app (nm_app (nm_app (nm_app (nm_app (nm_app (nm_app (nm_app (nm_app (nm_app (nm_app (nm_app (nm_app (nm_app (nm_app (nm_app (nm_app (nm_app (nm_app (nm_app (nm_app (hfree 237 (by decide)) (by omega)) (by omega)) (by omega)) (by omega)) (by omega)) (by omega)) (by omega)) (by omega)) (by omega)) (by omega)) (by omega)) (by omega)) (by omega)) (by omega)) (by omega)) (by omega)) (by omega)) (by omega)) (by omega)) (by omega)) (by omega)) (by omega)) (by omega)) (by omega)) (by omega)) (by omega)) (by omega)) (by omega)) (by omega)) (fun _ => zD_237) (by decide) (by decide) dX11_init_249 (fun S_89 eS_89 ad_90 hag H hW hS hC => ?_)
  rw [← hag 200 (by omega)] at hl
  rw [← hag 200 (by omega)]
  have hg : ∀ z9 ∈ L, ad_90 z9 = ad z9 := fun z9 hx => (hag z9 (fun e9 => hfree 237 (by decide) (e9 ▸ hx))).trans (hg z9 hx)
  have h := bn_at eS_89 h
  refine gd_put (C := RX11) (T := TX11) (N := 67) (ci := 11) (v := .ref (ad_90 237)) hx hb hts inX11 tyX11 tyX11_ok nmX11 hown hK hW hS (me_l (me_l (me_l (me_l (me_l (me_l (me_l (me_l (me_l (me_l (me_l (me_l (me_l (me_l (me_l (me_l (me_l (me_l (me_l (me_l (me_l (me_l (me_l (me_l (me_l (me_l (me_l (me_l (me_l (me_l ho)))))))))))))))))))))))))))))) (cD_200) rfl 36 (by decide) mw_997 rfl (Or.inr ⟨hin, rfl⟩) rfl rfl (Nat.le_of_ble_eq_true rfl) (sr S_89 200 36 (some 237)) (dr_200_36) cellD_sr dX11_init_251 (fun S_91 eS_91 H locs hW hS => ?_)
  have h := bn_at eS_91 h
  have hC : Cl (L ++ [203] ++ [204] ++ [205] ++ [206] ++ [207] ++ [209] ++ [210] ++ [212] ++ [213] ++ [214] ++ [215] ++ [216] ++ [217] ++ [218] ++ [219] ++ [220] ++ [221] ++ [222] ++ [223] ++ [224] ++ [225] ++ [226] ++ [227] ++ [228] ++ [229] ++ [230] ++ [231] ++ [232] ++ [233] ++ [237]) S_91 := eS_91 ▸ Cl_sr hC me_r
  refine lv_aload_n  hx hb dX11_init_254 rfl (lv_at hl 0 rfl) ?_
  refine lv_iconst (v := (-1)) hx hb dX11_init_255 (by decide) ?_
  refine gd_put (C := RX11) (T := TX11) (N := 67) (ci := 11) (v := .int (-1)) hx hb hts inX11 tyX11 tyX11_ok nmX11 hown hK hW hS (me_l (me_l (me_l (me_l (me_l (me_l (me_l (me_l (me_l (me_l (me_l (me_l (me_l (me_l (me_l (me_l (me_l (me_l (me_l (me_l (me_l (me_l (me_l (me_l (me_l (me_l (me_l (me_l (me_l (me_l ho)))))))))))))))))))))))))))))) (cD_200) rfl 39 (by decide) mw_1000 rfl (Or.inr ⟨hin, rfl⟩) rfl rfl (Nat.le_of_ble_eq_true rfl) (sv S_91 200 39 (-1)) (dv_200_39) cellD_sv dX11_init_256 (fun S_92 eS_92 H locs hW hS => ?_)
  have h := bn_at eS_92 h
  have hC : Cl (L ++ [203] ++ [204] ++ [205] ++ [206] ++ [207] ++ [209] ++ [210] ++ [212] ++ [213] ++ [214] ++ [215] ++ [216] ++ [217] ++ [218] ++ [219] ++ [220] ++ [221] ++ [222] ++ [223] ++ [224] ++ [225] ++ [226] ++ [227] ++ [228] ++ [229] ++ [230] ++ [231] ++ [232] ++ [233] ++ [237]) S_92 := eS_92 ▸ Cl_sv hC
  refine lv_aload_n  hx hb dX11_init_259 rfl (lv_at hl 0 rfl) ?_
  refine lv_sipush (v := 400) hx hb dX11_init_260 (by decide) ?_
  refine gd_newa (ty := .int) (N' := 400) hx hb rfl hts mw_121 (fun C h9 => by cases h9) hK hT 1 rfl rfl hW hS hC (by decide) (by decide) (by decide) 247 (nm_app (nm_app (nm_app (nm_app (nm_app (nm_app (nm_app (nm_app (nm_app (nm_app (nm_app (nm_app (nm_app (nm_app (nm_app (nm_app (nm_app (nm_app (nm_app (nm_app (nm_app (nm_app (nm_app (nm_app (nm_app (nm_app (nm_app (nm_app (nm_app (nm_app (hfree 247 (by decide)) (by omega)) (by omega)) (by omega)) (by omega)) (by omega)) (by omega)) (by omega)) (by omega)) (by omega)) (by omega)) (by omega)) (by omega)) (by omega)) (by omega)) (by omega)) (by omega)) (by omega)) (by omega)) (by omega)) (by omega)) (by omega)) (by omega)) (by omega)) (by omega)) (by omega)) (by omega)) (by omega)) (by omega)) (by omega)) (by omega)) (fun _ => zD_247) (by decide) (by decide) dX11_init_263 (fun S_93 eS_93 ad_94 hag H hW hS hC => ?_)
  rw [← hag 200 (by omega)] at hl
  rw [← hag 200 (by omega)]
  have hg : ∀ z9 ∈ L, ad_94 z9 = ad z9 := fun z9 hx => (hag z9 (fun e9 => hfree 247 (by decide) (e9 ▸ hx))).trans (hg z9 hx)
  have h := bn_at eS_93 h
  refine gd_put (C := RX11) (T := TX11) (N := 67) (ci := 11) (v := .ref (ad_94 247)) hx hb hts inX11 tyX11 tyX11_ok nmX11 hown hK hW hS (me_l (me_l (me_l (me_l (me_l (me_l (me_l (me_l (me_l (me_l (me_l (me_l (me_l (me_l (me_l (me_l (me_l (me_l (me_l (me_l (me_l (me_l (me_l (me_l (me_l (me_l (me_l (me_l (me_l (me_l (me_l ho))))))))))))))))))))))))))))))) (cD_200) rfl 46 (by decide) mw_1007 rfl (Or.inr ⟨hin, rfl⟩) rfl rfl (Nat.le_of_ble_eq_true rfl) (sr S_93 200 46 (some 247)) (dr_200_46) cellD_sr dX11_init_265 (fun S_95 eS_95 H locs hW hS => ?_)
  have h := bn_at eS_95 h
  have hC : Cl (L ++ [203] ++ [204] ++ [205] ++ [206] ++ [207] ++ [209] ++ [210] ++ [212] ++ [213] ++ [214] ++ [215] ++ [216] ++ [217] ++ [218] ++ [219] ++ [220] ++ [221] ++ [222] ++ [223] ++ [224] ++ [225] ++ [226] ++ [227] ++ [228] ++ [229] ++ [230] ++ [231] ++ [232] ++ [233] ++ [237] ++ [247]) S_95 := eS_95 ▸ Cl_sr hC me_r
  refine lv_aload_n  hx hb dX11_init_268 rfl (lv_at hl 0 rfl) ?_
  refine lv_sipush (v := 300) hx hb dX11_init_269 (by decide) ?_
  refine gd_newa (ty := .int) (N' := 300) hx hb rfl hts mw_121 (fun C h9 => by cases h9) hK hT 1 rfl rfl hW hS hC (by decide) (by decide) (by decide) 250 (nm_app (nm_app (nm_app (nm_app (nm_app (nm_app (nm_app (nm_app (nm_app (nm_app (nm_app (nm_app (nm_app (nm_app (nm_app (nm_app (nm_app (nm_app (nm_app (nm_app (nm_app (nm_app (nm_app (nm_app (nm_app (nm_app (nm_app (nm_app (nm_app (nm_app (nm_app (hfree 250 (by decide)) (by omega)) (by omega)) (by omega)) (by omega)) (by omega)) (by omega)) (by omega)) (by omega)) (by omega)) (by omega)) (by omega)) (by omega)) (by omega)) (by omega)) (by omega)) (by omega)) (by omega)) (by omega)) (by omega)) (by omega)) (by omega)) (by omega)) (by omega)) (by omega)) (by omega)) (by omega)) (by omega)) (by omega)) (by omega)) (by omega)) (by omega)) (fun _ => zD_250) (by decide) (by decide) dX11_init_272 (fun S_96 eS_96 ad_97 hag H hW hS hC => ?_)
  rw [← hag 200 (by omega)] at hl
  rw [← hag 200 (by omega)]
  have hg : ∀ z9 ∈ L, ad_97 z9 = ad z9 := fun z9 hx => (hag z9 (fun e9 => hfree 250 (by decide) (e9 ▸ hx))).trans (hg z9 hx)
  have h := bn_at eS_96 h
  refine gd_put (C := RX11) (T := TX11) (N := 67) (ci := 11) (v := .ref (ad_97 250)) hx hb hts inX11 tyX11 tyX11_ok nmX11 hown hK hW hS (me_l (me_l (me_l (me_l (me_l (me_l (me_l (me_l (me_l (me_l (me_l (me_l (me_l (me_l (me_l (me_l (me_l (me_l (me_l (me_l (me_l (me_l (me_l (me_l (me_l (me_l (me_l (me_l (me_l (me_l (me_l (me_l ho)))))))))))))))))))))))))))))))) (cD_200) rfl 49 (by decide) mw_1010 rfl (Or.inr ⟨hin, rfl⟩) rfl rfl (Nat.le_of_ble_eq_true rfl) (sr S_96 200 49 (some 250)) (dr_200_49) cellD_sr dX11_init_274 (fun S_98 eS_98 H locs hW hS => ?_)
  have h := bn_at eS_98 h
  have hC : Cl (L ++ [203] ++ [204] ++ [205] ++ [206] ++ [207] ++ [209] ++ [210] ++ [212] ++ [213] ++ [214] ++ [215] ++ [216] ++ [217] ++ [218] ++ [219] ++ [220] ++ [221] ++ [222] ++ [223] ++ [224] ++ [225] ++ [226] ++ [227] ++ [228] ++ [229] ++ [230] ++ [231] ++ [232] ++ [233] ++ [237] ++ [247] ++ [250]) S_98 := eS_98 ▸ Cl_sr hC me_r
  refine lv_aload_n  hx hb dX11_init_277 rfl (lv_at hl 0 rfl) ?_
  refine lv_bipush (v := 9) hx hb dX11_init_278 (by decide) ?_
  refine gd_newa (ty := .int) (N' := 9) hx hb rfl hts mw_121 (fun C h9 => by cases h9) hK hT 1 rfl rfl hW hS hC (by decide) (by decide) (by decide) 251 (nm_app (nm_app (nm_app (nm_app (nm_app (nm_app (nm_app (nm_app (nm_app (nm_app (nm_app (nm_app (nm_app (nm_app (nm_app (nm_app (nm_app (nm_app (nm_app (nm_app (nm_app (nm_app (nm_app (nm_app (nm_app (nm_app (nm_app (nm_app (nm_app (nm_app (nm_app (nm_app (hfree 251 (by decide)) (by omega)) (by omega)) (by omega)) (by omega)) (by omega)) (by omega)) (by omega)) (by omega)) (by omega)) (by omega)) (by omega)) (by omega)) (by omega)) (by omega)) (by omega)) (by omega)) (by omega)) (by omega)) (by omega)) (by omega)) (by omega)) (by omega)) (by omega)) (by omega)) (by omega)) (by omega)) (by omega)) (by omega)) (by omega)) (by omega)) (by omega)) (by omega)) (fun _ => zD_251) (by decide) (by decide) dX11_init_280 (fun S_99 eS_99 ad_100 hag H hW hS hC => ?_)
  rw [← hag 200 (by omega)] at hl
  rw [← hag 200 (by omega)]
  have hg : ∀ z9 ∈ L, ad_100 z9 = ad z9 := fun z9 hx => (hag z9 (fun e9 => hfree 251 (by decide) (e9 ▸ hx))).trans (hg z9 hx)
  have h := bn_at eS_99 h
  refine gd_put (C := RX11) (T := TX11) (N := 67) (ci := 11) (v := .ref (ad_100 251)) hx hb hts inX11 tyX11 tyX11_ok nmX11 hown hK hW hS (me_l (me_l (me_l (me_l (me_l (me_l (me_l (me_l (me_l (me_l (me_l (me_l (me_l (me_l (me_l (me_l (me_l (me_l (me_l (me_l (me_l (me_l (me_l (me_l (me_l (me_l (me_l (me_l (me_l (me_l (me_l (me_l (me_l ho))))))))))))))))))))))))))))))))) (cD_200) rfl 50 (by decide) mw_1011 rfl (Or.inr ⟨hin, rfl⟩) rfl rfl (Nat.le_of_ble_eq_true rfl) (sr S_99 200 50 (some 251)) (dr_200_50) cellD_sr dX11_init_282 (fun S_101 eS_101 H locs hW hS => ?_)
  have h := bn_at eS_101 h
  have hC : Cl (L ++ [203] ++ [204] ++ [205] ++ [206] ++ [207] ++ [209] ++ [210] ++ [212] ++ [213] ++ [214] ++ [215] ++ [216] ++ [217] ++ [218] ++ [219] ++ [220] ++ [221] ++ [222] ++ [223] ++ [224] ++ [225] ++ [226] ++ [227] ++ [228] ++ [229] ++ [230] ++ [231] ++ [232] ++ [233] ++ [237] ++ [247] ++ [250] ++ [251]) S_101 := eS_101 ▸ Cl_sr hC me_r
  refine lv_aload_n  hx hb dX11_init_285 rfl (lv_at hl 0 rfl) ?_
  refine lv_ldc (v := 244000) hx hb hown (hts _ mw_960) dX11_init_286 ?_
  refine gd_newa (ty := .int) (N' := 244000) hx hb rfl hts mw_121 (fun C h9 => by cases h9) hK hT 1 rfl rfl hW hS hC (by decide) (by decide) (by decide) 252 (nm_app (nm_app (nm_app (nm_app (nm_app (nm_app (nm_app (nm_app (nm_app (nm_app (nm_app (nm_app (nm_app (nm_app (nm_app (nm_app (nm_app (nm_app (nm_app (nm_app (nm_app (nm_app (nm_app (nm_app (nm_app (nm_app (nm_app (nm_app (nm_app (nm_app (nm_app (nm_app (nm_app (hfree 252 (by decide)) (by omega)) (by omega)) (by omega)) (by omega)) (by omega)) (by omega)) (by omega)) (by omega)) (by omega)) (by omega)) (by omega)) (by omega)) (by omega)) (by omega)) (by omega)) (by omega)) (by omega)) (by omega)) (by omega)) (by omega)) (by omega)) (by omega)) (by omega)) (by omega)) (by omega)) (by omega)) (by omega)) (by omega)) (by omega)) (by omega)) (by omega)) (by omega)) (by omega)) (fun _ => zD_252) (by decide) (by decide) dX11_init_288 (fun S_102 eS_102 ad_103 hag H hW hS hC => ?_)
  rw [← hag 200 (by omega)] at hl
  rw [← hag 200 (by omega)]
  have hg : ∀ z9 ∈ L, ad_103 z9 = ad z9 := fun z9 hx => (hag z9 (fun e9 => hfree 252 (by decide) (e9 ▸ hx))).trans (hg z9 hx)
  have h := bn_at eS_102 h
  refine gd_put (C := RX11) (T := TX11) (N := 67) (ci := 11) (v := .ref (ad_103 252)) hx hb hts inX11 tyX11 tyX11_ok nmX11 hown hK hW hS (me_l (me_l (me_l (me_l (me_l (me_l (me_l (me_l (me_l (me_l (me_l (me_l (me_l (me_l (me_l (me_l (me_l (me_l (me_l (me_l (me_l (me_l (me_l (me_l (me_l (me_l (me_l (me_l (me_l (me_l (me_l (me_l (me_l (me_l ho)))))))))))))))))))))))))))))))))) (cD_200) rfl 51 (by decide) mw_1012 rfl (Or.inr ⟨hin, rfl⟩) rfl rfl (Nat.le_of_ble_eq_true rfl) (sr S_102 200 51 (some 252)) (dr_200_51) cellD_sr dX11_init_290 (fun S_104 eS_104 H locs hW hS => ?_)
  have h := bn_at eS_104 h
  have hC : Cl (L ++ [203] ++ [204] ++ [205] ++ [206] ++ [207] ++ [209] ++ [210] ++ [212] ++ [213] ++ [214] ++ [215] ++ [216] ++ [217] ++ [218] ++ [219] ++ [220] ++ [221] ++ [222] ++ [223] ++ [224] ++ [225] ++ [226] ++ [227] ++ [228] ++ [229] ++ [230] ++ [231] ++ [232] ++ [233] ++ [237] ++ [247] ++ [250] ++ [251] ++ [252]) S_104 := eS_104 ▸ Cl_sr hC me_r
  refine lv_aload_n  hx hb dX11_init_293 rfl (lv_at hl 0 rfl) ?_
  refine lv_ldc (v := 244000) hx hb hown (hts _ mw_960) dX11_init_294 ?_
  refine gd_newa (ty := .int) (N' := 244000) hx hb rfl hts mw_121 (fun C h9 => by cases h9) hK hT 1 rfl rfl hW hS hC (by decide) (by decide) (by decide) 253 (nm_app (nm_app (nm_app (nm_app (nm_app (nm_app (nm_app (nm_app (nm_app (nm_app (nm_app (nm_app (nm_app (nm_app (nm_app (nm_app (nm_app (nm_app (nm_app (nm_app (nm_app (nm_app (nm_app (nm_app (nm_app (nm_app (nm_app (nm_app (nm_app (nm_app (nm_app (nm_app (nm_app (nm_app (hfree 253 (by decide)) (by omega)) (by omega)) (by omega)) (by omega)) (by omega)) (by omega)) (by omega)) (by omega)) (by omega)) (by omega)) (by omega)) (by omega)) (by omega)) (by omega)) (by omega)) (by omega)) (by omega)) (by omega)) (by omega)) (by omega)) (by omega)) (by omega)) (by omega)) (by omega)) (by omega)) (by omega)) (by omega)) (by omega)) (by omega)) (by omega)) (by omega)) (by omega)) (by omega)) (by omega)) (fun _ => zD_253) (by decide) (by decide) dX11_init_296 (fun S_105 eS_105 ad_106 hag H hW hS hC => ?_)
  rw [← hag 200 (by omega)] at hl
  rw [← hag 200 (by omega)]
  have hg : ∀ z9 ∈ L, ad_106 z9 = ad z9 := fun z9 hx => (hag z9 (fun e9 => hfree 253 (by decide) (e9 ▸ hx))).trans (hg z9 hx)
  have h := bn_at eS_105 h
  refine gd_put (C := RX11) (T := TX11) (N := 67) (ci := 11) (v := .ref (ad_106 253)) hx hb hts inX11 tyX11 tyX11_ok nmX11 hown hK hW hS (me_l (me_l (me_l (me_l (me_l (me_l (me_l (me_l (me_l (me_l (me_l (me_l (me_l (me_l (me_l (me_l (me_l (me_l (me_l (me_l (me_l (me_l (me_l (me_l (me_l (me_l (me_l (me_l (me_l (me_l (me_l (me_l (me_l (me_l (me_l ho))))))))))))))))))))))))))))))))))) (cD_200) rfl 52 (by decide) mw_1013 rfl (Or.inr ⟨hin, rfl⟩) rfl rfl (Nat.le_of_ble_eq_true rfl) (sr S_105 200 52 (some 253)) (dr_200_52) cellD_sr dX11_init_298 (fun S_107 eS_107 H locs hW hS => ?_)
  have h := bn_at eS_107 h
  have hC : Cl (L ++ [203] ++ [204] ++ [205] ++ [206] ++ [207] ++ [209] ++ [210] ++ [212] ++ [213] ++ [214] ++ [215] ++ [216] ++ [217] ++ [218] ++ [219] ++ [220] ++ [221] ++ [222] ++ [223] ++ [224] ++ [225] ++ [226] ++ [227] ++ [228] ++ [229] ++ [230] ++ [231] ++ [232] ++ [233] ++ [237] ++ [247] ++ [250] ++ [251] ++ [252] ++ [253]) S_107 := eS_107 ▸ Cl_sr hC me_r
  refine lv_aload_n  hx hb dX11_init_301 rfl (lv_at hl 0 rfl) ?_
  refine lv_ldc (v := 244000) hx hb hown (hts _ mw_960) dX11_init_302 ?_
  refine gd_newa (ty := .boolean) (N' := 244000) hx hb rfl hts mw_1163 (fun C h9 => by cases h9) hK hT 2 rfl rfl hW hS hC (by decide) (by decide) (by decide) 254 (nm_app (nm_app (nm_app (nm_app (nm_app (nm_app (nm_app (nm_app (nm_app (nm_app (nm_app (nm_app (nm_app (nm_app (nm_app (nm_app (nm_app (nm_app (nm_app (nm_app (nm_app (nm_app (nm_app (nm_app (nm_app (nm_app (nm_app (nm_app (nm_app (nm_app (nm_app (nm_app (nm_app (nm_app (nm_app (hfree 254 (by decide)) (by omega)) (by omega)) (by omega)) (by omega)) (by omega)) (by omega)) (by omega)) (by omega)) (by omega)) (by omega)) (by omega)) (by omega)) (by omega)) (by omega)) (by omega)) (by omega)) (by omega)) (by omega)) (by omega)) (by omega)) (by omega)) (by omega)) (by omega)) (by omega)) (by omega)) (by omega)) (by omega)) (by omega)) (by omega)) (by omega)) (by omega)) (by omega)) (by omega)) (by omega)) (by omega)) (fun _ => zD_254) (by decide) (by decide) dX11_init_304 (fun S_108 eS_108 ad_109 hag H hW hS hC => ?_)
  rw [← hag 200 (by omega)] at hl
  rw [← hag 200 (by omega)]
  have hg : ∀ z9 ∈ L, ad_109 z9 = ad z9 := fun z9 hx => (hag z9 (fun e9 => hfree 254 (by decide) (e9 ▸ hx))).trans (hg z9 hx)
  have h := bn_at eS_108 h
  refine gd_put (C := RX11) (T := TX11) (N := 67) (ci := 11) (v := .ref (ad_109 254)) hx hb hts inX11 tyX11 tyX11_ok nmX11 hown hK hW hS (me_l (me_l (me_l (me_l (me_l (me_l (me_l (me_l (me_l (me_l (me_l (me_l (me_l (me_l (me_l (me_l (me_l (me_l (me_l (me_l (me_l (me_l (me_l (me_l (me_l (me_l (me_l (me_l (me_l (me_l (me_l (me_l (me_l (me_l (me_l (me_l ho)))))))))))))))))))))))))))))))))))) (cD_200) rfl 53 (by decide) mw_1014 rfl (Or.inr ⟨hin, rfl⟩) rfl rfl (Nat.le_of_ble_eq_true rfl) (sr S_108 200 53 (some 254)) (dr_200_53) cellD_sr dX11_init_306 (fun S_110 eS_110 H locs hW hS => ?_)
  have h := bn_at eS_110 h
  have hC : Cl (L ++ [203] ++ [204] ++ [205] ++ [206] ++ [207] ++ [209] ++ [210] ++ [212] ++ [213] ++ [214] ++ [215] ++ [216] ++ [217] ++ [218] ++ [219] ++ [220] ++ [221] ++ [222] ++ [223] ++ [224] ++ [225] ++ [226] ++ [227] ++ [228] ++ [229] ++ [230] ++ [231] ++ [232] ++ [233] ++ [237] ++ [247] ++ [250] ++ [251] ++ [252] ++ [253] ++ [254]) S_110 := eS_110 ▸ Cl_sr hC me_r
  refine lv_aload_n  hx hb dX11_init_309 rfl (lv_at hl 0 rfl) ?_
  refine lv_bipush (v := 20) hx hb dX11_init_310 (by decide) ?_
  refine gd_newa (ty := .int) (N' := 20) hx hb rfl hts mw_121 (fun C h9 => by cases h9) hK hT 1 rfl rfl hW hS hC (by decide) (by decide) (by decide) 257 (nm_app (nm_app (nm_app (nm_app (nm_app (nm_app (nm_app (nm_app (nm_app (nm_app (nm_app (nm_app (nm_app (nm_app (nm_app (nm_app (nm_app (nm_app (nm_app (nm_app (nm_app (nm_app (nm_app (nm_app (nm_app (nm_app (nm_app (nm_app (nm_app (nm_app (nm_app (nm_app (nm_app (nm_app (nm_app (nm_app (hfree 257 (by decide)) (by omega)) (by omega)) (by omega)) (by omega)) (by omega)) (by omega)) (by omega)) (by omega)) (by omega)) (by omega)) (by omega)) (by omega)) (by omega)) (by omega)) (by omega)) (by omega)) (by omega)) (by omega)) (by omega)) (by omega)) (by omega)) (by omega)) (by omega)) (by omega)) (by omega)) (by omega)) (by omega)) (by omega)) (by omega)) (by omega)) (by omega)) (by omega)) (by omega)) (by omega)) (by omega)) (by omega)) (fun _ => zD_257) (by decide) (by decide) dX11_init_312 (fun S_111 eS_111 ad_112 hag H hW hS hC => ?_)
  rw [← hag 200 (by omega)] at hl
  rw [← hag 200 (by omega)]
  have hg : ∀ z9 ∈ L, ad_112 z9 = ad z9 := fun z9 hx => (hag z9 (fun e9 => hfree 257 (by decide) (e9 ▸ hx))).trans (hg z9 hx)
  have h := bn_at eS_111 h
  refine gd_put (C := RX11) (T := TX11) (N := 67) (ci := 11) (v := .ref (ad_112 257)) hx hb hts inX11 tyX11 tyX11_ok nmX11 hown hK hW hS (me_l (me_l (me_l (me_l (me_l (me_l (me_l (me_l (me_l (me_l (me_l (me_l (me_l (me_l (me_l (me_l (me_l (me_l (me_l (me_l (me_l (me_l (me_l (me_l (me_l (me_l (me_l (me_l (me_l (me_l (me_l (me_l (me_l (me_l (me_l (me_l (me_l ho))))))))))))))))))))))))))))))))))))) (cD_200) rfl 56 (by decide) mw_1017 rfl (Or.inr ⟨hin, rfl⟩) rfl rfl (Nat.le_of_ble_eq_true rfl) (sr S_111 200 56 (some 257)) (dr_200_56) cellD_sr dX11_init_314 (fun S_113 eS_113 H locs hW hS => ?_)
  have h := bn_at eS_113 h
  have hC : Cl (L ++ [203] ++ [204] ++ [205] ++ [206] ++ [207] ++ [209] ++ [210] ++ [212] ++ [213] ++ [214] ++ [215] ++ [216] ++ [217] ++ [218] ++ [219] ++ [220] ++ [221] ++ [222] ++ [223] ++ [224] ++ [225] ++ [226] ++ [227] ++ [228] ++ [229] ++ [230] ++ [231] ++ [232] ++ [233] ++ [237] ++ [247] ++ [250] ++ [251] ++ [252] ++ [253] ++ [254] ++ [257]) S_113 := eS_113 ▸ Cl_sr hC me_r
  refine lv_aload_n  hx hb dX11_init_317 rfl (lv_at hl 0 rfl) ?_
  refine lv_bipush (v := 20) hx hb dX11_init_318 (by decide) ?_
  refine gd_newa (ty := .int) (N' := 20) hx hb rfl hts mw_121 (fun C h9 => by cases h9) hK hT 1 rfl rfl hW hS hC (by decide) (by decide) (by decide) 258 (nm_app (nm_app (nm_app (nm_app (nm_app (nm_app (nm_app (nm_app (nm_app (nm_app (nm_app (nm_app (nm_app (nm_app (nm_app (nm_app (nm_app (nm_app (nm_app (nm_app (nm_app (nm_app (nm_app (nm_app (nm_app (nm_app (nm_app (nm_app (nm_app (nm_app (nm_app (nm_app (nm_app (nm_app (nm_app (nm_app (nm_app (hfree 258 (by decide)) (by omega)) (by omega)) (by omega)) (by omega)) (by omega)) (by omega)) (by omega)) (by omega)) (by omega)) (by omega)) (by omega)) (by omega)) (by omega)) (by omega)) (by omega)) (by omega)) (by omega)) (by omega)) (by omega)) (by omega)) (by omega)) (by omega)) (by omega)) (by omega)) (by omega)) (by omega)) (by omega)) (by omega)) (by omega)) (by omega)) (by omega)) (by omega)) (by omega)) (by omega)) (by omega)) (by omega)) (by omega)) (fun _ => zD_258) (by decide) (by decide) dX11_init_320 (fun S_114 eS_114 ad_115 hag H hW hS hC => ?_)
  rw [← hag 200 (by omega)] at hl
  rw [← hag 200 (by omega)]
  have hg : ∀ z9 ∈ L, ad_115 z9 = ad z9 := fun z9 hx => (hag z9 (fun e9 => hfree 258 (by decide) (e9 ▸ hx))).trans (hg z9 hx)
  have h := bn_at eS_114 h
  refine gd_put (C := RX11) (T := TX11) (N := 67) (ci := 11) (v := .ref (ad_115 258)) hx hb hts inX11 tyX11 tyX11_ok nmX11 hown hK hW hS (me_l (me_l (me_l (me_l (me_l (me_l (me_l (me_l (me_l (me_l (me_l (me_l (me_l (me_l (me_l (me_l (me_l (me_l (me_l (me_l (me_l (me_l (me_l (me_l (me_l (me_l (me_l (me_l (me_l (me_l (me_l (me_l (me_l (me_l (me_l (me_l (me_l (me_l ho)))))))))))))))))))))))))))))))))))))) (cD_200) rfl 57 (by decide) mw_1018 rfl (Or.inr ⟨hin, rfl⟩) rfl rfl (Nat.le_of_ble_eq_true rfl) (sr S_114 200 57 (some 258)) (dr_200_57) cellD_sr dX11_init_322 (fun S_116 eS_116 H locs hW hS => ?_)
  have h := bn_at eS_116 h
  have hC : Cl (L ++ [203] ++ [204] ++ [205] ++ [206] ++ [207] ++ [209] ++ [210] ++ [212] ++ [213] ++ [214] ++ [215] ++ [216] ++ [217] ++ [218] ++ [219] ++ [220] ++ [221] ++ [222] ++ [223] ++ [224] ++ [225] ++ [226] ++ [227] ++ [228] ++ [229] ++ [230] ++ [231] ++ [232] ++ [233] ++ [237] ++ [247] ++ [250] ++ [251] ++ [252] ++ [253] ++ [254] ++ [257] ++ [258]) S_116 := eS_116 ▸ Cl_sr hC me_r
  refine lv_aload_n  hx hb dX11_init_325 rfl (lv_at hl 0 rfl) ?_
  refine lv_bipush (v := 20) hx hb dX11_init_326 (by decide) ?_
  refine gd_newa (ty := .int) (N' := 20) hx hb rfl hts mw_121 (fun C h9 => by cases h9) hK hT 1 rfl rfl hW hS hC (by decide) (by decide) (by decide) 259 (nm_app (nm_app (nm_app (nm_app (nm_app (nm_app (nm_app (nm_app (nm_app (nm_app (nm_app (nm_app (nm_app (nm_app (nm_app (nm_app (nm_app (nm_app (nm_app (nm_app (nm_app (nm_app (nm_app (nm_app (nm_app (nm_app (nm_app (nm_app (nm_app (nm_app (nm_app (nm_app (nm_app (nm_app (nm_app (nm_app (nm_app (nm_app (hfree 259 (by decide)) (by omega)) (by omega)) (by omega)) (by omega)) (by omega)) (by omega)) (by omega)) (by omega)) (by omega)) (by omega)) (by omega)) (by omega)) (by omega)) (by omega)) (by omega)) (by omega)) (by omega)) (by omega)) (by omega)) (by omega)) (by omega)) (by omega)) (by omega)) (by omega)) (by omega)) (by omega)) (by omega)) (by omega)) (by omega)) (by omega)) (by omega)) (by omega)) (by omega)) (by omega)) (by omega)) (by omega)) (by omega)) (by omega)) (fun _ => zD_259) (by decide) (by decide) dX11_init_328 (fun S_117 eS_117 ad_118 hag H hW hS hC => ?_)
  rw [← hag 200 (by omega)] at hl
  rw [← hag 200 (by omega)]
  have hg : ∀ z9 ∈ L, ad_118 z9 = ad z9 := fun z9 hx => (hag z9 (fun e9 => hfree 259 (by decide) (e9 ▸ hx))).trans (hg z9 hx)
  have h := bn_at eS_117 h
  refine gd_put (C := RX11) (T := TX11) (N := 67) (ci := 11) (v := .ref (ad_118 259)) hx hb hts inX11 tyX11 tyX11_ok nmX11 hown hK hW hS (me_l (me_l (me_l (me_l (me_l (me_l (me_l (me_l (me_l (me_l (me_l (me_l (me_l (me_l (me_l (me_l (me_l (me_l (me_l (me_l (me_l (me_l (me_l (me_l (me_l (me_l (me_l (me_l (me_l (me_l (me_l (me_l (me_l (me_l (me_l (me_l (me_l (me_l (me_l ho))))))))))))))))))))))))))))))))))))))) (cD_200) rfl 58 (by decide) mw_1019 rfl (Or.inr ⟨hin, rfl⟩) rfl rfl (Nat.le_of_ble_eq_true rfl) (sr S_117 200 58 (some 259)) (dr_200_58) cellD_sr dX11_init_330 (fun S_119 eS_119 H locs hW hS => ?_)
  have h := bn_at eS_119 h
  have hC : Cl (L ++ [203] ++ [204] ++ [205] ++ [206] ++ [207] ++ [209] ++ [210] ++ [212] ++ [213] ++ [214] ++ [215] ++ [216] ++ [217] ++ [218] ++ [219] ++ [220] ++ [221] ++ [222] ++ [223] ++ [224] ++ [225] ++ [226] ++ [227] ++ [228] ++ [229] ++ [230] ++ [231] ++ [232] ++ [233] ++ [237] ++ [247] ++ [250] ++ [251] ++ [252] ++ [253] ++ [254] ++ [257] ++ [258] ++ [259]) S_119 := eS_119 ▸ Cl_sr hC me_r
  refine lv_aload_n  hx hb dX11_init_333 rfl (lv_at hl 0 rfl) ?_
  refine lv_bipush (v := 20) hx hb dX11_init_334 (by decide) ?_
  refine gd_newa (ty := .int) (N' := 20) hx hb rfl hts mw_121 (fun C h9 => by cases h9) hK hT 1 rfl rfl hW hS hC (by decide) (by decide) (by decide) 260 (nm_app (nm_app (nm_app (nm_app (nm_app (nm_app (nm_app (nm_app (nm_app (nm_app (nm_app (nm_app (nm_app (nm_app (nm_app (nm_app (nm_app (nm_app (nm_app (nm_app (nm_app (nm_app (nm_app (nm_app (nm_app (nm_app (nm_app (nm_app (nm_app (nm_app (nm_app (nm_app (nm_app (nm_app (nm_app (nm_app (nm_app (nm_app (nm_app (hfree 260 (by decide)) (by omega)) (by omega)) (by omega)) (by omega)) (by omega)) (by omega)) (by omega)) (by omega)) (by omega)) (by omega)) (by omega)) (by omega)) (by omega)) (by omega)) (by omega)) (by omega)) (by omega)) (by omega)) (by omega)) (by omega)) (by omega)) (by omega)) (by omega)) (by omega)) (by omega)) (by omega)) (by omega)) (by omega)) (by omega)) (by omega)) (by omega)) (by omega)) (by omega)) (by omega)) (by omega)) (by omega)) (by omega)) (by omega)) (by omega)) (fun _ => zD_260) (by decide) (by decide) dX11_init_336 (fun S_120 eS_120 ad_121 hag H hW hS hC => ?_)
  rw [← hag 200 (by omega)] at hl
  rw [← hag 200 (by omega)]
  have hg : ∀ z9 ∈ L, ad_121 z9 = ad z9 := fun z9 hx => (hag z9 (fun e9 => hfree 260 (by decide) (e9 ▸ hx))).trans (hg z9 hx)
  have h := bn_at eS_120 h
  refine gd_put (C := RX11) (T := TX11) (N := 67) (ci := 11) (v := .ref (ad_121 260)) hx hb hts inX11 tyX11 tyX11_ok nmX11 hown hK hW hS (me_l (me_l (me_l (me_l (me_l (me_l (me_l (me_l (me_l (me_l (me_l (me_l (me_l (me_l (me_l (me_l (me_l (me_l (me_l (me_l (me_l (me_l (me_l (me_l (me_l (me_l (me_l (me_l (me_l (me_l (me_l (me_l (me_l (me_l (me_l (me_l (me_l (me_l (me_l (me_l ho)))))))))))))))))))))))))))))))))))))))) (cD_200) rfl 59 (by decide) mw_1020 rfl (Or.inr ⟨hin, rfl⟩) rfl rfl (Nat.le_of_ble_eq_true rfl) (sr S_120 200 59 (some 260)) (dr_200_59) cellD_sr dX11_init_338 (fun S_122 eS_122 H locs hW hS => ?_)
  have h := bn_at eS_122 h
  have hC : Cl (L ++ [203] ++ [204] ++ [205] ++ [206] ++ [207] ++ [209] ++ [210] ++ [212] ++ [213] ++ [214] ++ [215] ++ [216] ++ [217] ++ [218] ++ [219] ++ [220] ++ [221] ++ [222] ++ [223] ++ [224] ++ [225] ++ [226] ++ [227] ++ [228] ++ [229] ++ [230] ++ [231] ++ [232] ++ [233] ++ [237] ++ [247] ++ [250] ++ [251] ++ [252] ++ [253] ++ [254] ++ [257] ++ [258] ++ [259] ++ [260]) S_122 := eS_122 ▸ Cl_sr hC me_r
  refine lv_aload_n  hx hb dX11_init_341 rfl (lv_at hl 0 rfl) ?_
  refine lv_bipush (v := 20) hx hb dX11_init_342 (by decide) ?_
  refine gd_newa (ty := .int) (N' := 20) hx hb rfl hts mw_121 (fun C h9 => by cases h9) hK hT 1 rfl rfl hW hS hC (by decide) (by decide) (by decide) 261 (nm_app (nm_app (nm_app (nm_app (nm_app (nm_app (nm_app (nm_app (nm_app (nm_app (nm_app (nm_app (nm_app (nm_app (nm_app (nm_app (nm_app (nm_app (nm_app (nm_app (nm_app (nm_app (nm_app (nm_app (nm_app (nm_app (nm_app (nm_app (nm_app (nm_app (nm_app (nm_app (nm_app (nm_app (nm_app (nm_app (nm_app (nm_app (nm_app (nm_app (hfree 261 (by decide)) (by omega)) (by omega)) (by omega)) (by omega)) (by omega)) (by omega)) (by omega)) (by omega)) (by omega)) (by omega)) (by omega)) (by omega)) (by omega)) (by omega)) (by omega)) (by omega)) (by omega)) (by omega)) (by omega)) (by omega)) (by omega)) (by omega)) (by omega)) (by omega)) (by omega)) (by omega)) (by omega)) (by omega)) (by omega)) (by omega)) (by omega)) (by omega)) (by omega)) (by omega)) (by omega)) (by omega)) (by omega)) (by omega)) (by omega)) (by omega)) (fun _ => zD_261) (by decide) (by decide) dX11_init_344 (fun S_123 eS_123 ad_124 hag H hW hS hC => ?_)
  rw [← hag 200 (by omega)] at hl
  rw [← hag 200 (by omega)]
  have hg : ∀ z9 ∈ L, ad_124 z9 = ad z9 := fun z9 hx => (hag z9 (fun e9 => hfree 261 (by decide) (e9 ▸ hx))).trans (hg z9 hx)
  have h := bn_at eS_123 h
  refine gd_put (C := RX11) (T := TX11) (N := 67) (ci := 11) (v := .ref (ad_124 261)) hx hb hts inX11 tyX11 tyX11_ok nmX11 hown hK hW hS (me_l (me_l (me_l (me_l (me_l (me_l (me_l (me_l (me_l (me_l (me_l (me_l (me_l (me_l (me_l (me_l (me_l (me_l (me_l (me_l (me_l (me_l (me_l (me_l (me_l (me_l (me_l (me_l (me_l (me_l (me_l (me_l (me_l (me_l (me_l (me_l (me_l (me_l (me_l (me_l (me_l ho))))))))))))))))))))))))))))))))))))))))) (cD_200) rfl 60 (by decide) mw_1021 rfl (Or.inr ⟨hin, rfl⟩) rfl rfl (Nat.le_of_ble_eq_true rfl) (sr S_123 200 60 (some 261)) (dr_200_60) cellD_sr dX11_init_346 (fun S_125 eS_125 H locs hW hS => ?_)
  have h := bn_at eS_125 h
  have hC : Cl (L ++ [203] ++ [204] ++ [205] ++ [206] ++ [207] ++ [209] ++ [210] ++ [212] ++ [213] ++ [214] ++ [215] ++ [216] ++ [217] ++ [218] ++ [219] ++ [220] ++ [221] ++ [222] ++ [223] ++ [224] ++ [225] ++ [226] ++ [227] ++ [228] ++ [229] ++ [230] ++ [231] ++ [232] ++ [233] ++ [237] ++ [247] ++ [250] ++ [251] ++ [252] ++ [253] ++ [254] ++ [257] ++ [258] ++ [259] ++ [260] ++ [261]) S_125 := eS_125 ▸ Cl_sr hC me_r
  refine lv_aload_n  hx hb dX11_init_349 rfl (lv_at hl 0 rfl) ?_
  refine lv_bipush (v := 60) hx hb dX11_init_350 (by decide) ?_
  refine gd_newa (ty := .int) (N' := 60) hx hb rfl hts mw_121 (fun C h9 => by cases h9) hK hT 1 rfl rfl hW hS hC (by decide) (by decide) (by decide) 262 (nm_app (nm_app (nm_app (nm_app (nm_app (nm_app (nm_app (nm_app (nm_app (nm_app (nm_app (nm_app (nm_app (nm_app (nm_app (nm_app (nm_app (nm_app (nm_app (nm_app (nm_app (nm_app (nm_app (nm_app (nm_app (nm_app (nm_app (nm_app (nm_app (nm_app (nm_app (nm_app (nm_app (nm_app (nm_app (nm_app (nm_app (nm_app (nm_app (nm_app (nm_app (hfree 262 (by decide)) (by omega)) (by omega)) (by omega)) (by omega)) (by omega)) (by omega)) (by omega)) (by omega)) (by omega)) (by omega)) (by omega)) (by omega)) (by omega)) (by omega)) (by omega)) (by omega)) (by omega)) (by omega)) (by omega)) (by omega)) (by omega)) (by omega)) (by omega)) (by omega)) (by omega)) (by omega)) (by omega)) (by omega)) (by omega)) (by omega)) (by omega)) (by omega)) (by omega)) (by omega)) (by omega)) (by omega)) (by omega)) (by omega)) (by omega)) (by omega)) (by omega)) (fun _ => zD_262) (by decide) (by decide) dX11_init_352 (fun S_126 eS_126 ad_127 hag H hW hS hC => ?_)
  rw [← hag 200 (by omega)] at hl
  rw [← hag 200 (by omega)]
  have hg : ∀ z9 ∈ L, ad_127 z9 = ad z9 := fun z9 hx => (hag z9 (fun e9 => hfree 262 (by decide) (e9 ▸ hx))).trans (hg z9 hx)
  have h := bn_at eS_126 h
  refine gd_put (C := RX11) (T := TX11) (N := 67) (ci := 11) (v := .ref (ad_127 262)) hx hb hts inX11 tyX11 tyX11_ok nmX11 hown hK hW hS (me_l (me_l (me_l (me_l (me_l (me_l (me_l (me_l (me_l (me_l (me_l (me_l (me_l (me_l (me_l (me_l (me_l (me_l (me_l (me_l (me_l (me_l (me_l (me_l (me_l (me_l (me_l (me_l (me_l (me_l (me_l (me_l (me_l (me_l (me_l (me_l (me_l (me_l (me_l (me_l (me_l (me_l ho)))))))))))))))))))))))))))))))))))))))))) (cD_200) rfl 61 (by decide) mw_1022 rfl (Or.inr ⟨hin, rfl⟩) rfl rfl (Nat.le_of_ble_eq_true rfl) (sr S_126 200 61 (some 262)) (dr_200_61) cellD_sr dX11_init_354 (fun S_128 eS_128 H locs hW hS => ?_)
  have h := bn_at eS_128 h
  have hC : Cl (L ++ [203] ++ [204] ++ [205] ++ [206] ++ [207] ++ [209] ++ [210] ++ [212] ++ [213] ++ [214] ++ [215] ++ [216] ++ [217] ++ [218] ++ [219] ++ [220] ++ [221] ++ [222] ++ [223] ++ [224] ++ [225] ++ [226] ++ [227] ++ [228] ++ [229] ++ [230] ++ [231] ++ [232] ++ [233] ++ [237] ++ [247] ++ [250] ++ [251] ++ [252] ++ [253] ++ [254] ++ [257] ++ [258] ++ [259] ++ [260] ++ [261] ++ [262]) S_128 := eS_128 ▸ Cl_sr hC me_r
  refine lv_aload_n  hx hb dX11_init_357 rfl (lv_at hl 0 rfl) ?_
  refine lv_bipush (v := 60) hx hb dX11_init_358 (by decide) ?_
  refine gd_newa (ty := .int) (N' := 60) hx hb rfl hts mw_121 (fun C h9 => by cases h9) hK hT 1 rfl rfl hW hS hC (by decide) (by decide) (by decide) 263 (nm_app (nm_app (nm_app (nm_app (nm_app (nm_app (nm_app (nm_app (nm_app (nm_app (nm_app (nm_app (nm_app (nm_app (nm_app (nm_app (nm_app (nm_app (nm_app (nm_app (nm_app (nm_app (nm_app (nm_app (nm_app (nm_app (nm_app (nm_app (nm_app (nm_app (nm_app (nm_app (nm_app (nm_app (nm_app (nm_app (nm_app (nm_app (nm_app (nm_app (nm_app (nm_app (hfree 263 (by decide)) (by omega)) (by omega)) (by omega)) (by omega)) (by omega)) (by omega)) (by omega)) (by omega)) (by omega)) (by omega)) (by omega)) (by omega)) (by omega)) (by omega)) (by omega)) (by omega)) (by omega)) (by omega)) (by omega)) (by omega)) (by omega)) (by omega)) (by omega)) (by omega)) (by omega)) (by omega)) (by omega)) (by omega)) (by omega)) (by omega)) (by omega)) (by omega)) (by omega)) (by omega)) (by omega)) (by omega)) (by omega)) (by omega)) (by omega)) (by omega)) (by omega)) (by omega)) (fun _ => zD_263) (by decide) (by decide) dX11_init_360 (fun S_129 eS_129 ad_130 hag H hW hS hC => ?_)
  rw [← hag 200 (by omega)] at hl
  rw [← hag 200 (by omega)]
  have hg : ∀ z9 ∈ L, ad_130 z9 = ad z9 := fun z9 hx => (hag z9 (fun e9 => hfree 263 (by decide) (e9 ▸ hx))).trans (hg z9 hx)
  have h := bn_at eS_129 h
  refine gd_put (C := RX11) (T := TX11) (N := 67) (ci := 11) (v := .ref (ad_130 263)) hx hb hts inX11 tyX11 tyX11_ok nmX11 hown hK hW hS (me_l (me_l (me_l (me_l (me_l (me_l (me_l (me_l (me_l (me_l (me_l (me_l (me_l (me_l (me_l (me_l (me_l (me_l (me_l (me_l (me_l (me_l (me_l (me_l (me_l (me_l (me_l (me_l (me_l (me_l (me_l (me_l (me_l (me_l (me_l (me_l (me_l (me_l (me_l (me_l (me_l (me_l (me_l ho))))))))))))))))))))))))))))))))))))))))))) (cD_200) rfl 62 (by decide) mw_1023 rfl (Or.inr ⟨hin, rfl⟩) rfl rfl (Nat.le_of_ble_eq_true rfl) (sr S_129 200 62 (some 263)) (dr_200_62) cellD_sr dX11_init_362 (fun S_131 eS_131 H locs hW hS => ?_)
  have h := bn_at eS_131 h
  have hC : Cl (L ++ [203] ++ [204] ++ [205] ++ [206] ++ [207] ++ [209] ++ [210] ++ [212] ++ [213] ++ [214] ++ [215] ++ [216] ++ [217] ++ [218] ++ [219] ++ [220] ++ [221] ++ [222] ++ [223] ++ [224] ++ [225] ++ [226] ++ [227] ++ [228] ++ [229] ++ [230] ++ [231] ++ [232] ++ [233] ++ [237] ++ [247] ++ [250] ++ [251] ++ [252] ++ [253] ++ [254] ++ [257] ++ [258] ++ [259] ++ [260] ++ [261] ++ [262] ++ [263]) S_131 := eS_131 ▸ Cl_sr hC me_r
  refine lv_aload_n  hx hb dX11_init_365 rfl (lv_at hl 0 rfl) ?_
  refine lv_bipush (v := 60) hx hb dX11_init_366 (by decide) ?_
  refine gd_newa (ty := .int) (N' := 60) hx hb rfl hts mw_121 (fun C h9 => by cases h9) hK hT 1 rfl rfl hW hS hC (by decide) (by decide) (by decide) 264 (nm_app (nm_app (nm_app (nm_app (nm_app (nm_app (nm_app (nm_app (nm_app (nm_app (nm_app (nm_app (nm_app (nm_app (nm_app (nm_app (nm_app (nm_app (nm_app (nm_app (nm_app (nm_app (nm_app (nm_app (nm_app (nm_app (nm_app (nm_app (nm_app (nm_app (nm_app (nm_app (nm_app (nm_app (nm_app (nm_app (nm_app (nm_app (nm_app (nm_app (nm_app (nm_app (nm_app (hfree 264 (by decide)) (by omega)) (by omega)) (by omega)) (by omega)) (by omega)) (by omega)) (by omega)) (by omega)) (by omega)) (by omega)) (by omega)) (by omega)) (by omega)) (by omega)) (by omega)) (by omega)) (by omega)) (by omega)) (by omega)) (by omega)) (by omega)) (by omega)) (by omega)) (by omega)) (by omega)) (by omega)) (by omega)) (by omega)) (by omega)) (by omega)) (by omega)) (by omega)) (by omega)) (by omega)) (by omega)) (by omega)) (by omega)) (by omega)) (by omega)) (by omega)) (by omega)) (by omega)) (by omega)) (fun _ => zD_264) (by decide) (by decide) dX11_init_368 (fun S_132 eS_132 ad_133 hag H hW hS hC => ?_)
  rw [← hag 200 (by omega)] at hl
  rw [← hag 200 (by omega)]
  have hg : ∀ z9 ∈ L, ad_133 z9 = ad z9 := fun z9 hx => (hag z9 (fun e9 => hfree 264 (by decide) (e9 ▸ hx))).trans (hg z9 hx)
  have h := bn_at eS_132 h
  refine gd_put (C := RX11) (T := TX11) (N := 67) (ci := 11) (v := .ref (ad_133 264)) hx hb hts inX11 tyX11 tyX11_ok nmX11 hown hK hW hS (me_l (me_l (me_l (me_l (me_l (me_l (me_l (me_l (me_l (me_l (me_l (me_l (me_l (me_l (me_l (me_l (me_l (me_l (me_l (me_l (me_l (me_l (me_l (me_l (me_l (me_l (me_l (me_l (me_l (me_l (me_l (me_l (me_l (me_l (me_l (me_l (me_l (me_l (me_l (me_l (me_l (me_l (me_l (me_l ho)))))))))))))))))))))))))))))))))))))))))))) (cD_200) rfl 63 (by decide) mw_1024 rfl (Or.inr ⟨hin, rfl⟩) rfl rfl (Nat.le_of_ble_eq_true rfl) (sr S_132 200 63 (some 264)) (dr_200_63) cellD_sr dX11_init_370 (fun S_134 eS_134 H locs hW hS => ?_)
  have h := bn_at eS_134 h
  have hC : Cl (L ++ [203] ++ [204] ++ [205] ++ [206] ++ [207] ++ [209] ++ [210] ++ [212] ++ [213] ++ [214] ++ [215] ++ [216] ++ [217] ++ [218] ++ [219] ++ [220] ++ [221] ++ [222] ++ [223] ++ [224] ++ [225] ++ [226] ++ [227] ++ [228] ++ [229] ++ [230] ++ [231] ++ [232] ++ [233] ++ [237] ++ [247] ++ [250] ++ [251] ++ [252] ++ [253] ++ [254] ++ [257] ++ [258] ++ [259] ++ [260] ++ [261] ++ [262] ++ [263] ++ [264]) S_134 := eS_134 ▸ Cl_sr hC me_r
  refine lv_aload_n  hx hb dX11_init_373 rfl (lv_at hl 0 rfl) ?_
  refine lv_bipush (v := 60) hx hb dX11_init_374 (by decide) ?_
  refine gd_newa (ty := .int) (N' := 60) hx hb rfl hts mw_121 (fun C h9 => by cases h9) hK hT 1 rfl rfl hW hS hC (by decide) (by decide) (by decide) 265 (nm_app (nm_app (nm_app (nm_app (nm_app (nm_app (nm_app (nm_app (nm_app (nm_app (nm_app (nm_app (nm_app (nm_app (nm_app (nm_app (nm_app (nm_app (nm_app (nm_app (nm_app (nm_app (nm_app (nm_app (nm_app (nm_app (nm_app (nm_app (nm_app (nm_app (nm_app (nm_app (nm_app (nm_app (nm_app (nm_app (nm_app (nm_app (nm_app (nm_app (nm_app (nm_app (nm_app (nm_app (hfree 265 (by decide)) (by omega)) (by omega)) (by omega)) (by omega)) (by omega)) (by omega)) (by omega)) (by omega)) (by omega)) (by omega)) (by omega)) (by omega)) (by omega)) (by omega)) (by omega)) (by omega)) (by omega)) (by omega)) (by omega)) (by omega)) (by omega)) (by omega)) (by omega)) (by omega)) (by omega)) (by omega)) (by omega)) (by omega)) (by omega)) (by omega)) (by omega)) (by omega)) (by omega)) (by omega)) (by omega)) (by omega)) (by omega)) (by omega)) (by omega)) (by omega)) (by omega)) (by omega)) (by omega)) (by omega)) (fun _ => zD_265) (by decide) (by decide) dX11_init_376 (fun S_135 eS_135 ad_136 hag H hW hS hC => ?_)
  rw [← hag 200 (by omega)] at hl
  rw [← hag 200 (by omega)]
  have hg : ∀ z9 ∈ L, ad_136 z9 = ad z9 := fun z9 hx => (hag z9 (fun e9 => hfree 265 (by decide) (e9 ▸ hx))).trans (hg z9 hx)
  have h := bn_at eS_135 h
  refine gd_put (C := RX11) (T := TX11) (N := 67) (ci := 11) (v := .ref (ad_136 265)) hx hb hts inX11 tyX11 tyX11_ok nmX11 hown hK hW hS (me_l (me_l (me_l (me_l (me_l (me_l (me_l (me_l (me_l (me_l (me_l (me_l (me_l (me_l (me_l (me_l (me_l (me_l (me_l (me_l (me_l (me_l (me_l (me_l (me_l (me_l (me_l (me_l (me_l (me_l (me_l (me_l (me_l (me_l (me_l (me_l (me_l (me_l (me_l (me_l (me_l (me_l (me_l (me_l (me_l ho))))))))))))))))))))))))))))))))))))))))))))) (cD_200) rfl 64 (by decide) mw_1025 rfl (Or.inr ⟨hin, rfl⟩) rfl rfl (Nat.le_of_ble_eq_true rfl) (sr S_135 200 64 (some 265)) (dr_200_64) cellD_sr dX11_init_378 (fun S_137 eS_137 H locs hW hS => ?_)
  have h := bn_at eS_137 h
  have hC : Cl (L ++ [203] ++ [204] ++ [205] ++ [206] ++ [207] ++ [209] ++ [210] ++ [212] ++ [213] ++ [214] ++ [215] ++ [216] ++ [217] ++ [218] ++ [219] ++ [220] ++ [221] ++ [222] ++ [223] ++ [224] ++ [225] ++ [226] ++ [227] ++ [228] ++ [229] ++ [230] ++ [231] ++ [232] ++ [233] ++ [237] ++ [247] ++ [250] ++ [251] ++ [252] ++ [253] ++ [254] ++ [257] ++ [258] ++ [259] ++ [260] ++ [261] ++ [262] ++ [263] ++ [264] ++ [265]) S_137 := eS_137 ▸ Cl_sr hC me_r
  refine lv_aload_n  hx hb dX11_init_381 rfl (lv_at hl 0 rfl) ?_
  refine lv_bipush (v := 60) hx hb dX11_init_382 (by decide) ?_
  refine gd_newa (ty := .int) (N' := 60) hx hb rfl hts mw_121 (fun C h9 => by cases h9) hK hT 1 rfl rfl hW hS hC (by decide) (by decide) (by decide) 266 (nm_app (nm_app (nm_app (nm_app (nm_app (nm_app (nm_app (nm_app (nm_app (nm_app (nm_app (nm_app (nm_app (nm_app (nm_app (nm_app (nm_app (nm_app (nm_app (nm_app (nm_app (nm_app (nm_app (nm_app (nm_app (nm_app (nm_app (nm_app (nm_app (nm_app (nm_app (nm_app (nm_app (nm_app (nm_app (nm_app (nm_app (nm_app (nm_app (nm_app (nm_app (nm_app (nm_app (nm_app (nm_app (hfree 266 (by decide)) (by omega)) (by omega)) (by omega)) (by omega)) (by omega)) (by omega)) (by omega)) (by omega)) (by omega)) (by omega)) (by omega)) (by omega)) (by omega)) (by omega)) (by omega)) (by omega)) (by omega)) (by omega)) (by omega)) (by omega)) (by omega)) (by omega)) (by omega)) (by omega)) (by omega)) (by omega)) (by omega)) (by omega)) (by omega)) (by omega)) (by omega)) (by omega)) (by omega)) (by omega)) (by omega)) (by omega)) (by omega)) (by omega)) (by omega)) (by omega)) (by omega)) (by omega)) (by omega)) (by omega)) (by omega)) (fun _ => zD_266) (by decide) (by decide) dX11_init_384 (fun S_138 eS_138 ad_139 hag H hW hS hC => ?_)
  rw [← hag 200 (by omega)] at hl
  rw [← hag 200 (by omega)]
  have hg : ∀ z9 ∈ L, ad_139 z9 = ad z9 := fun z9 hx => (hag z9 (fun e9 => hfree 266 (by decide) (e9 ▸ hx))).trans (hg z9 hx)
  have h := bn_at eS_138 h
  refine gd_put (C := RX11) (T := TX11) (N := 67) (ci := 11) (v := .ref (ad_139 266)) hx hb hts inX11 tyX11 tyX11_ok nmX11 hown hK hW hS (me_l (me_l (me_l (me_l (me_l (me_l (me_l (me_l (me_l (me_l (me_l (me_l (me_l (me_l (me_l (me_l (me_l (me_l (me_l (me_l (me_l (me_l (me_l (me_l (me_l (me_l (me_l (me_l (me_l (me_l (me_l (me_l (me_l (me_l (me_l (me_l (me_l (me_l (me_l (me_l (me_l (me_l (me_l (me_l (me_l (me_l ho)))))))))))))))))))))))))))))))))))))))))))))) (cD_200) rfl 65 (by decide) mw_1026 rfl (Or.inr ⟨hin, rfl⟩) rfl rfl (Nat.le_of_ble_eq_true rfl) (sr S_138 200 65 (some 266)) (dr_200_65) cellD_sr dX11_init_386 (fun S_140 eS_140 H locs hW hS => ?_)
  have h := bn_at eS_140 h
  have hC : Cl (L ++ [203] ++ [204] ++ [205] ++ [206] ++ [207] ++ [209] ++ [210] ++ [212] ++ [213] ++ [214] ++ [215] ++ [216] ++ [217] ++ [218] ++ [219] ++ [220] ++ [221] ++ [222] ++ [223] ++ [224] ++ [225] ++ [226] ++ [227] ++ [228] ++ [229] ++ [230] ++ [231] ++ [232] ++ [233] ++ [237] ++ [247] ++ [250] ++ [251] ++ [252] ++ [253] ++ [254] ++ [257] ++ [258] ++ [259] ++ [260] ++ [261] ++ [262] ++ [263] ++ [264] ++ [265] ++ [266]) S_140 := eS_140 ▸ Cl_sr hC me_r
  refine lv_aload_n  hx hb dX11_init_389 rfl (lv_at hl 0 rfl) ?_
  refine lv_bipush (v := 60) hx hb dX11_init_390 (by decide) ?_
  refine gd_newa (ty := .int) (N' := 60) hx hb rfl hts mw_121 (fun C h9 => by cases h9) hK hT 1 rfl rfl hW hS hC (by decide) (by decide) (by decide) 267 (nm_app (nm_app (nm_app (nm_app (nm_app (nm_app (nm_app (nm_app (nm_app (nm_app (nm_app (nm_app (nm_app (nm_app (nm_app (nm_app (nm_app (nm_app (nm_app (nm_app (nm_app (nm_app (nm_app (nm_app (nm_app (nm_app (nm_app (nm_app (nm_app (nm_app (nm_app (nm_app (nm_app (nm_app (nm_app (nm_app (nm_app (nm_app (nm_app (nm_app (nm_app (nm_app (nm_app (nm_app (nm_app (nm_app (hfree 267 (by decide)) (by omega)) (by omega)) (by omega)) (by omega)) (by omega)) (by omega)) (by omega)) (by omega)) (by omega)) (by omega)) (by omega)) (by omega)) (by omega)) (by omega)) (by omega)) (by omega)) (by omega)) (by omega)) (by omega)) (by omega)) (by omega)) (by omega)) (by omega)) (by omega)) (by omega)) (by omega)) (by omega)) (by omega)) (by omega)) (by omega)) (by omega)) (by omega)) (by omega)) (by omega)) (by omega)) (by omega)) (by omega)) (by omega)) (by omega)) (by omega)) (by omega)) (by omega)) (by omega)) (by omega)) (by omega)) (by omega)) (fun _ => zD_267) (by decide) (by decide) dX11_init_392 (fun S_141 eS_141 ad_142 hag H hW hS hC => ?_)
  rw [← hag 200 (by omega)] at hl
  rw [← hag 200 (by omega)]
  have hg : ∀ z9 ∈ L, ad_142 z9 = ad z9 := fun z9 hx => (hag z9 (fun e9 => hfree 267 (by decide) (e9 ▸ hx))).trans (hg z9 hx)
  have h := bn_at eS_141 h
  refine gd_put (C := RX11) (T := TX11) (N := 67) (ci := 11) (v := .ref (ad_142 267)) hx hb hts inX11 tyX11 tyX11_ok nmX11 hown hK hW hS (me_l (me_l (me_l (me_l (me_l (me_l (me_l (me_l (me_l (me_l (me_l (me_l (me_l (me_l (me_l (me_l (me_l (me_l (me_l (me_l (me_l (me_l (me_l (me_l (me_l (me_l (me_l (me_l (me_l (me_l (me_l (me_l (me_l (me_l (me_l (me_l (me_l (me_l (me_l (me_l (me_l (me_l (me_l (me_l (me_l (me_l (me_l ho))))))))))))))))))))))))))))))))))))))))))))))) (cD_200) rfl 66 (by decide) mw_1027 rfl (Or.inr ⟨hin, rfl⟩) rfl rfl (Nat.le_of_ble_eq_true rfl) (sr S_141 200 66 (some 267)) (dr_200_66) cellD_sr dX11_init_394 (fun S_143 eS_143 H locs hW hS => ?_)
  have h := bn_at eS_143 h
  have hC : Cl (L ++ [203] ++ [204] ++ [205] ++ [206] ++ [207] ++ [209] ++ [210] ++ [212] ++ [213] ++ [214] ++ [215] ++ [216] ++ [217] ++ [218] ++ [219] ++ [220] ++ [221] ++ [222] ++ [223] ++ [224] ++ [225] ++ [226] ++ [227] ++ [228] ++ [229] ++ [230] ++ [231] ++ [232] ++ [233] ++ [237] ++ [247] ++ [250] ++ [251] ++ [252] ++ [253] ++ [254] ++ [257] ++ [258] ++ [259] ++ [260] ++ [261] ++ [262] ++ [263] ++ [264] ++ [265] ++ [266] ++ [267]) S_143 := eS_143 ▸ Cl_sr hC me_r
  refine lv_aload_n  hx hb dX11_init_397 rfl (lv_at hl 0 rfl) ?_
  refine gd_getr (C := RX11) (T := TX11) (N := 67) (ci := 11) (t := 203) hx hb hts inX11 hown hK hW (me_l (me_l (me_l (me_l (me_l (me_l (me_l (me_l (me_l (me_l (me_l (me_l (me_l (me_l (me_l (me_l (me_l (me_l (me_l (me_l (me_l (me_l (me_l (me_l (me_l (me_l (me_l (me_l (me_l (me_l (me_l (me_l (me_l (me_l (me_l (me_l (me_l (me_l (me_l (me_l (me_l (me_l (me_l (me_l (me_l (me_l (me_l ho))))))))))))))))))))))))))))))))))))))))))))))) (cD_200) rfl 2 (by decide) mw_963 rfl (by rw [eS_143, eS_141, eS_140, eS_138, eS_137, eS_135, eS_134, eS_132, eS_131, eS_129, eS_128, eS_126, eS_125, eS_123, eS_122, eS_120, eS_119, eS_117, eS_116, eS_114, eS_113, eS_111, eS_110, eS_108, eS_107, eS_105, eS_104, eS_102, eS_101, eS_99, eS_98, eS_96, eS_95, eS_93, eS_92, eS_91, eS_89, eS_88, eS_86, eS_85, eS_83, eS_82, eS_80, eS_79, eS_77, eS_76, eS_74, eS_73, eS_71, eS_70, eS_68, eS_67, eS_65, eS_64, eS_62, eS_61, eS_59, eS_58, eS_56, eS_55, eS_53, eS_52, eS_50, eS_49, eS_47, eS_46, eS_44, eS_43, eS_41, eS_40, eS_38, eS_37, eS_35, eS_34, eS_32, eS_31, eS_29, eS_28, eS_26, eS_25, eS_23, eS_22, eS_20, eS_19, eS_17, eS_16, eS_14, eS_13, eS_11, eS_10, eS_8, eS_7, eS_5, eS_4, eS_2, eS_1]; rfl) rfl dX11_init_398 ?_
  refine lv_iconst (v := 0) hx hb dX11_init_401 (by decide) ?_
  refine lv_iconst (v := 1) hx hb dX11_init_402 (by decide) ?_
  refine gd_iast hx hb hK hW hS (me_l (me_l (me_l (me_l (me_l (me_l (me_l (me_l (me_l (me_l (me_l (me_l (me_l (me_l (me_l (me_l (me_l (me_l (me_l (me_l (me_l (me_l (me_l (me_l (me_l (me_l (me_l (me_l (me_l (me_l (me_l (me_l (me_l (me_l (me_l (me_l (me_l (me_l (me_l (me_l (me_l (me_l (me_l (me_l (me_l (me_l me_r)))))))))))))))))))))))))))))))))))))))))))))) (fun _ => cD_203) (by decide) dX11_init_403 (fun S_144 eS_144 H locs hW hS => ?_)
  have h := bn_at eS_144 h
  have hC : Cl (L ++ [203] ++ [204] ++ [205] ++ [206] ++ [207] ++ [209] ++ [210] ++ [212] ++ [213] ++ [214] ++ [215] ++ [216] ++ [217] ++ [218] ++ [219] ++ [220] ++ [221] ++ [222] ++ [223] ++ [224] ++ [225] ++ [226] ++ [227] ++ [228] ++ [229] ++ [230] ++ [231] ++ [232] ++ [233] ++ [237] ++ [247] ++ [250] ++ [251] ++ [252] ++ [253] ++ [254] ++ [257] ++ [258] ++ [259] ++ [260] ++ [261] ++ [262] ++ [263] ++ [264] ++ [265] ++ [266] ++ [267]) S_144 := eS_144 ▸ Cl_sv hC
  cases h
  exact gd_vret hx hb hr hlocks hW hS hC hg dX11_init_404
theorem c_X11_init {S S9 : St} (ho : 200 ∈ L) (hfree : ∀ i ∈ [203, 204, 205, 206, 207, 209, 210, 212, 213, 214, 215, 216, 217, 218, 219, 220, 221, 222, 223, 224, 225, 226, 227, 228, 229, 230, 231, 232, 233, 237, 247, 250, 251, 252, 253, 254, 257, 258, 259, 260, 261, 262, 263, 264, 265, 266, 267], i ∉ L) (hC : Cl L S) (h : f_X11_init S = some S9) : Met l yX11_init (gws yX11_init cX11_init 1 none) (rmc 1 47 741033) (va_Pc [.ref (ad 200)] (WD g A ad L S)) (qd g A ad L (L ++ [203] ++ [204] ++ [205] ++ [206] ++ [207] ++ [209] ++ [210] ++ [212] ++ [213] ++ [214] ++ [215] ++ [216] ++ [217] ++ [218] ++ [219] ++ [220] ++ [221] ++ [222] ++ [223] ++ [224] ++ [225] ++ [226] ++ [227] ++ [228] ++ [229] ++ [230] ++ [231] ++ [232] ++ [233] ++ [237] ++ [247] ++ [250] ++ [251] ++ [252] ++ [253] ++ [254] ++ [257] ++ [258] ++ [259] ++ [260] ++ [261] ++ [262] ++ [263] ++ [264] ++ [265] ++ [266] ++ [267]) S9) 47 741033 A :=
  gd_met [.ref (ad 200)] (by decide) (Nat.le_of_ble_eq_true rfl) (fun p e s m below meth c ls C hW hl hin => t_X11_init C hin ho hfree hC h hW va_S.rf hl)
theorem hi_X11_init : yX11_init.cls ≠ "java/lang/invoke/MethodHandle" ∧ yX11_init.cls ≠ "java/lang/invoke/VarHandle" ∧ (parseMethodDescriptor yX11_init.desc).map (fun d => d.parameters.length) = some 0 := by decide +kernel
end S43
