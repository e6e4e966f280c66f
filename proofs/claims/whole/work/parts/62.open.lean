section LAWS
variable {p : Program} {l : Launch} {e : Env} {R : Room} {s : State} {m : MethodId} {args : Array Value} {below : List Frame} {meth : Method} {c : Code} {H : Heap} {locs : List Loc} {cells slots : Nat} {Q : State → Prop}
variable {pc : Nat} {ls : Array Slot} {rest : List Value} {A : Nat → Prop} {g : Cx} {ad : Nat → Nat} {L : List Nat} {S : St} {N b Lz : Nat} {xs : Nat → Int32}

def S00 : St := (fun _ _ => 0, fun _ _ => none, fun _ => 0)
def L00 : List Nat := [0, 1, 11, 12, 13, 14, 15, 16, 2, 21, 22, 3, 4, 41, 42, 43, 44, 45, 46, 47, 32, 33, 34, 35, 36, 6, 7, 5, 50, 51, 70, 80, 90, 100, 200, 203, 204, 205, 206, 207, 209, 210, 212, 213, 214, 215, 216, 217, 218, 219, 220, 221, 222, 223, 224, 225, 226, 227, 228, 229, 230, 231, 232, 233, 237, 247, 250, 251, 252, 253, 254, 257, 258, 259, 260, 261, 262, 263, 264, 265, 266, 267]
theorem eL00 : ([] ++ [0] ++ [1] ++ [11] ++ [12] ++ [13] ++ [14] ++ [15] ++ [16] ++ [2] ++ [21] ++ [22] ++ [3] ++ [4] ++ [41] ++ [42] ++ [43] ++ [44] ++ [45] ++ [46] ++ [47] ++ [32] ++ [33] ++ [34] ++ [35] ++ [36] ++ [6] ++ [7] ++ [5] ++ [50] ++ [51] ++ [70] ++ [70 + 10] ++ [70 + 20] ++ [70 + 30] ++ [200] ++ [203] ++ [204] ++ [205] ++ [206] ++ [207] ++ [209] ++ [210] ++ [212] ++ [213] ++ [214] ++ [215] ++ [216] ++ [217] ++ [218] ++ [219] ++ [220] ++ [221] ++ [222] ++ [223] ++ [224] ++ [225] ++ [226] ++ [227] ++ [228] ++ [229] ++ [230] ++ [231] ++ [232] ++ [233] ++ [237] ++ [247] ++ [250] ++ [251] ++ [252] ++ [253] ++ [254] ++ [257] ++ [258] ++ [259] ++ [260] ++ [261] ++ [262] ++ [263] ++ [264] ++ [265] ++ [266] ++ [267] : List Nat) = L00 := by decide
set_option maxHeartbeats 8000000 in
set_option maxRecDepth 20000 in
/-- the law out of an invariant that every step keeps -/
theorem whole_open {p : Program} {e : Env} {s : State} {m : MethodId} {below : List Frame} {meth : Method} {c : Code} (l : Launch) {b Lz : Nat} {xs : Nat → Int32} {N : Nat} {Inv : List Nat → St → Prop} (hI : ∀ L S, Inv L S → Lk L ∧ Fx L S ∧ Cl L S ∧ 110 ∉ L ∧ 111 ∉ L ∧ 112 ∉ L) (h_0 : Stp_0 N Inv) (h_1 : Stp_1 N Inv) (h_2 : Stp_2 N Inv) (h_3 : Stp_3 N Inv) (h_4 : Stp_4 N Inv) (h_5 : Stp_5 N Inv) (h_6 : Stp_6 N Inv) (h_7 : Stp_7 N Inv) (h_8 : Stp_8 N Inv) (h_9 : Stp_9 N Inv) (h_10 : Stp_10 N Inv) (h_11 : Stp_11 N Inv) (h_12 : Stp_12 N Inv) (h_13 : Stp_13 N Inv) (h_14 : Stp_14 N Inv) (h_15 : Stp_15 N Inv) (h_16 : Stp_16 N Inv) (h_17 : Stp_17 N Inv) (h_18 : Stp_18 N Inv) (h_19 : Stp_19 N Inv) (h_20 : Stp_20 N Inv) (h_21 : Stp_21 N Inv) (h_22 : Stp_22 N Inv) (hinit : ∃ Sx S1 : St, f_X10_init (zr S00 0) = some Sx ∧ f_X11_init (zr Sx 200) = some S1 ∧ Inv L00 S1) (hL : Lz ≤ 3072) (C0 : lw_At p s m meth c b Lz xs) : W p l e room_1 s m #[Value.ref b] below meth c s.heap [] 0 0 (lw_Z below #[Value.ref b] s) (entryFrame m ([Value.ref b] : List Value).toArray 4) := by
  obtain ⟨hx, hb, hr, hml, hown, hts, hX, hbl, hlocks, hgv⟩ := id C0
  obtain ⟨g, hK, hN, hT⟩ := start_world C0
  obtain ⟨Sx, S1, hf1, hf2, hi⟩ := hinit
  have C : MC p s m #[Value.ref b] meth c code 4 (some .boolean) RL g (fun q => s.heap.size ≤ q) := ⟨hx, hb, hml, hown, fun w hw => hts w (gw_lw w hw), hr, hlocks, hK, hN, hT⟩
  have hbA : ¬ (fun q : Nat => s.heap.size ≤ q) b := Nat.not_le.mpr hbl
  have hts : ∀ w ∈ gw_tbl, w.before #[Value.ref b] s = true := fun w hw => hts w (gw_lw w hw)
  have hown : s.vm.findClass RL = some m.cls := hown
  have hS : va_S (fun q : Nat => s.heap.size ≤ q) s.heap s.heap [] := va_S.rf
  have hl := lv_entry ([.ref b]) (n := 4) (Nat.le_of_ble_eq_true rfl)
  rw [lg_entry_eq]
  generalize (lg_sl ([.ref b]) ++ List.replicate (4 - (lg_sl ([.ref b])).length) Slot.unset).toArray = ls at hl ⊢
  have hl : lv_has ls 4 [(0, .ref b)] := hl
  have hW : GD g (fun q : Nat => s.heap.size ≤ q) (fun _ => 0) [] S00 s.heap := ⟨fun k q h => by simp [gcl] at h, fun i j x y h => by simp [gcl] at h, fun k q h => by simp [gcl] at h⟩
  have hC : Cl [] S00 := fun o ho => by simp at ho
  refine gd_new (C := RX10) (T := TX10) (N := 12) (ci := 10) hx hb hts inX10 tyX10 tyX10_ok hown mw_84 mw_85 mw_66 hK hT hW hS hC rfl 0 (by decide) (fun j hj => by rcases (show j = 0 ∨ j = 1 ∨ j = 2 ∨ j = 3 ∨ j = 4 ∨ j = 5 ∨ j = 6 ∨ j = 7 ∨ j = 8 ∨ j = 9 ∨ j = 10 ∨ j = 11 by omega) with rfl | rfl | rfl | rfl | rfl | rfl | rfl | rfl | rfl | rfl | rfl | rfl <;> rfl) (fun _ => zD_0) (by decide) (by decide) dL_law_0 (fun S_1 eS_1 ad_1 hagad_1 H hW hS hC => ?_)
  refine lv_dup hx hb dL_law_3 rfl ?_
  refine gd_c (gd_runI (o := 0) (As := []) (rest := [.ref (ad_1 0)]) hx hb hml hown hts hK hN hT hS hW (c_X10_init me_r (by decide) hC (eS_1 ▸ hf1)) mw_88 mw_86 mw_87 mw_66 rfl hi_X10_init rfl rfl rfl (room_okc (by decide) (by decide)) hl.1 (Nat.le_of_ble_eq_true rfl) dL_law_4 rfl ⟨by decide, by decide⟩) hS (fun ad_2 hagad_2 H locs hW hS hC => ?_)
  rw [← hagad_2 0 me_r]
  refine lv_astore_n (lv' := [(1, .ref (ad_2 0)), (0, .ref b)]) hx hb dL_law_7 rfl hl (by decide) rfl (fun ls hl => ?_)
  refine gd_new (C := RX11) (T := TX11) (N := 67) (ci := 11) hx hb hts inX11 tyX11 tyX11_ok hown mw_954 mw_955 mw_73 hK hT hW hS hC rfl 200 (by decide) (fun j hj => by rcases (show j = 0 ∨ j = 1 ∨ j = 2 ∨ j = 3 ∨ j = 4 ∨ j = 5 ∨ j = 6 ∨ j = 7 ∨ j = 8 ∨ j = 9 ∨ j = 10 ∨ j = 11 ∨ j = 12 ∨ j = 13 ∨ j = 14 ∨ j = 15 ∨ j = 16 ∨ j = 17 ∨ j = 18 ∨ j = 19 ∨ j = 20 ∨ j = 21 ∨ j = 22 ∨ j = 23 ∨ j = 24 ∨ j = 25 ∨ j = 26 ∨ j = 27 ∨ j = 28 ∨ j = 29 ∨ j = 30 ∨ j = 31 ∨ j = 32 ∨ j = 33 ∨ j = 34 ∨ j = 35 ∨ j = 36 ∨ j = 37 ∨ j = 38 ∨ j = 39 ∨ j = 40 ∨ j = 41 ∨ j = 42 ∨ j = 43 ∨ j = 44 ∨ j = 45 ∨ j = 46 ∨ j = 47 ∨ j = 48 ∨ j = 49 ∨ j = 50 ∨ j = 51 ∨ j = 52 ∨ j = 53 ∨ j = 54 ∨ j = 55 ∨ j = 56 ∨ j = 57 ∨ j = 58 ∨ j = 59 ∨ j = 60 ∨ j = 61 ∨ j = 62 ∨ j = 63 ∨ j = 64 ∨ j = 65 ∨ j = 66 by omega) with rfl | rfl | rfl | rfl | rfl | rfl | rfl | rfl | rfl | rfl | rfl | rfl | rfl | rfl | rfl | rfl | rfl | rfl | rfl | rfl | rfl | rfl | rfl | rfl | rfl | rfl | rfl | rfl | rfl | rfl | rfl | rfl | rfl | rfl | rfl | rfl | rfl | rfl | rfl | rfl | rfl | rfl | rfl | rfl | rfl | rfl | rfl | rfl | rfl | rfl | rfl | rfl | rfl | rfl | rfl | rfl | rfl | rfl | rfl | rfl | rfl | rfl | rfl | rfl | rfl | rfl | rfl <;> rfl) (fun _ => zD_200) (by decide) (by decide) dL_law_8 (fun S_3 eS_3 ad_3 hagad_3 H hW hS hC => ?_)
  rw [← hagad_3 0 (by decide)] at hl
  refine lv_dup hx hb dL_law_11 rfl ?_
  refine gd_c (gd_runI (o := 200) (As := []) (rest := [.ref (ad_3 200)]) hx hb hml hown hts hK hN hT hS hW (c_X11_init me_r (by decide) hC (eS_3 ▸ hf2)) mw_958 mw_956 mw_957 mw_73 rfl hi_X11_init rfl rfl rfl (room_okc (by decide) (by decide)) hl.1 (Nat.le_of_ble_eq_true rfl) dL_law_12 rfl ⟨by decide, by decide⟩) hS (fun ad_4 hagad_4 H locs hW hS hC => ?_)
  rw [← hagad_4 0 (by decide)] at hl
  rw [← hagad_4 200 me_r]
  refine lv_astore_n (lv' := [(2, .ref (ad_4 200)), (1, .ref (ad_4 0)), (0, .ref b)]) hx hb dL_law_15 rfl hl (by decide) rfl (fun ls hl => ?_)
  refine lv_iconst (v := 0) hx hb dL_law_16 (by decide) ?_
  refine lv_istore_n (lv' := [(3, .int 0), (2, .ref (ad_4 200)), (1, .ref (ad_4 0)), (0, .ref b)]) hx hb dL_law_17 rfl hl (by decide) rfl (fun ls hl => ?_)
  have hW : GD g (fun q : Nat => s.heap.size ≤ q) ad_4 L00 S1 H := eL00 ▸ hW
  have hW := (gd_gw (hI _ _ hi).2.1).mp hW
  exact law_loop C hX hbl hbA (fun _ h => h) hL hI h_0 h_1 h_2 h_3 h_4 h_5 h_6 h_7 h_8 h_9 h_10 h_11 h_12 h_13 h_14 h_15 h_16 h_17 h_18 h_19 h_20 h_21 h_22 (Lz + 1) 0 (by omega) (by omega) 0 nI_0.symm L00 S1 hi ad_4 H _ ls _ _ (by decide) (by decide) hW hS (lv_sub hl [3, 2, 1, 0] rfl)
end LAWS
