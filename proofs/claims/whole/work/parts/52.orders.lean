section ORDM
variable {p : Program} {l : Launch} {e : Env} {R : Room} {s : State} {m : MethodId} {args : Array Value} {below : List Frame} {meth : Method} {c : Code} {H : Heap} {locs : List Loc} {cells slots : Nat} {Q : State → Prop}
variable {cc : ByteArray} {pc : Nat} {ls : Array Slot} {rest : List Value} {A : Nat → Prop} {g : Cx} {ad ad0 ad2 : Nat → Nat} {L L0 L3 : List Nat} {S S2 : St} {N : Nat}
theorem parser_rows {x : Nat} {a : Int32} (h : f_X6_init (zr S 110) a x = some S2) : (∀ o, o ≠ 110 → o ≠ 111 → S2.1 o = S.1 o ∧ S2.2.1 o = S.2.1 o ∧ S2.2.2 o = S.2.2 o) ∧ gr S2 110 2 = some 111 ∧ gr S2 111 3 = some 7 := by
  unfold f_X6_init f_X3_init at h
  simp only [bn, cl0] at h
  cases h
  refine ⟨fun o h1 h2 => ?_, rfl, rfl⟩
  simp [sv, sr, up2, zr, h1, h2]
theorem Fx_parser (hF : Fx L S) (h0 : 110 ∉ L) (h1 : 111 ∉ L) (hr : (∀ o, o ≠ 110 → o ≠ 111 → S2.1 o = S.1 o ∧ S2.2.1 o = S.2.1 o ∧ S2.2.2 o = S.2.2 o) ∧ gr S2 110 2 = some 111 ∧ gr S2 111 3 = some 7) : Fx (L ++ [110] ++ [111]) S2 := fun o ho k t hk => by
  by_cases hL : o ∈ L
  · have n1 : o ≠ 110 := fun e => h0 (e ▸ hL)
    have n2 : o ≠ 111 := fun e => h1 (e ▸ hL)
    have := hF o hL k t hk
    unfold gr at this ⊢
    rw [(hr.1 o n1 n2).2.1]
    exact this
  · have hc : o = 110 ∨ o = 111 := by
      simp only [List.mem_append, List.mem_singleton] at ho
      rcases ho with (h9 | h9) | h9
      · exact absurd h9 hL
      · exact Or.inl h9
      · exact Or.inr h9
    rcases hc with rfl | rfl
    · have hk : (if k = 2 then some 111 else (none : Option Nat)) = some t := hk
      by_cases h9 : k = 2
      · subst h9; rw [if_pos rfl] at hk; cases hk; exact hr.2.1
      · rw [if_neg h9] at hk; cases hk
    · have hk : (if k = 3 then some 7 else (none : Option Nat)) = some t := hk
      by_cases h9 : k = 3
      · subst h9; rw [if_pos rfl] at hk; cases hk; exact hr.2.2
      · rw [if_neg h9] at hk; cases hk
def f_X10_orders_s (L : List Nat) (N : Nat) (S : St) (n2 : Nat) : Option (Int32 × St) := cl1 (f_X6_read L N S) fun r_2 S_3 => bn (sv S_3 0 9 (gv S_3 110 0)) fun S_5 => bn (sv S_5 0 10 (gv S_5 110 1)) fun S_6 => bn (sv S_6 0 8 0) fun S_7 => if r_2 = 0 then (some ((-1), S_7)) else (oc (gr S_7 n2 6) (none) fun n_9 => if oko L n_9 then (oc (gr S_7 0 6) (none) fun n_12 => if oko L n_12 then (bn (sr S_7 n2 6 (some n_12)) fun S_15 => bn (sr S_15 0 6 (some n_9)) fun S_16 => oc (gr S_16 n2 6) (none) fun n_17 => if oko L n_17 then (some ((gv S_16 n_17 3), S_16)) else none) else none) else none)
set_option maxHeartbeats 4000000 in
theorem t_X10_orders_s (C : MC p s m args meth c cX10_orders 6 (some .int) RX10 g A) (hB : Lk L) (h110 : 110 ∈ L) (h111 : 111 ∈ L) {n2 : Nat} (h_n2 : okh L n2) {S S9 : St} {r : Int32} (h : f_X10_orders_s L N S n2 = some (r, S9)) (hdrop : ∀ H : Heap, GW g A ad L S9 H → GW g A ad0 L0 S9 H) {H : Heap} {locs : List Loc} {ls : Array Slot} (hW : GW g A ad L S H) (hS : va_S A s.heap H locs) (hl : lv_has ls 6 [(0, .ref (ad 0)), (2, .ref (ad n2))]) : W p l e (rmc 234 2 11) s m args below meth c H locs 2 11 (MQ below (qi g A ad0 L0 r S9) args s 2 11 A) (F0 m 32 ls [.ref (ad 110)]) := by
  obtain ⟨hx, hb, hml, hown, hts, hr, hlocks, hK, hN, hT⟩ := id C
  unfold f_X10_orders_s at h
  refine lv_astore_n (lv' := [(3, .ref (ad 110)), (0, .ref (ad 0)), (2, .ref (ad n2))]) hx hb dX10_orders_32 rfl hl (by decide) rfl (fun ls hl => ?_)
  refine lv_aload_n hx hb dX10_orders_33 rfl (lv_at hl 0 rfl) ?_
  obtain ⟨r_2, S_3, hc_1, h⟩ := cl1_ex h
  refine g_cz (g_runV (ci := 6) (o := 110) (As := []) (rest := []) hx hb hml hown hts hK hN hT hS hW (c_X6_read hB h110 h111 hc_1) h110 kd_110 rfl (gw_V mw_487 mw_488 mw_489 mw_75 mw_490) hv_X6_read rfl rfl rfl (rc_ok2 (by decide) (by decide)) hl.1 (Nat.le_of_ble_eq_true rfl) dX10_orders_34 rfl ⟨by decide, by decide⟩) hS (fun hz_4 H locs hW hS => ?_)
  refine lv_istore (lv' := [(4, .int r_2), (3, .ref (ad 110)), (0, .ref (ad 0)), (2, .ref (ad n2))]) hx hb dX10_orders_37 hl (by decide) rfl (fun ls hl => ?_)
  refine lv_aload_n hx hb dX10_orders_39 rfl (lv_at hl 2 rfl) ?_
  refine lv_aload_n hx hb dX10_orders_40 rfl (lv_at hl 1 rfl) ?_
  refine g_get (C := RX6) (T := TX6) (N := 5) (ci := 6) hx hb hts inX6 hown hK hW h110 kd_110 rfl 0 (by decide) mw_470 rfl rfl dX10_orders_41 ?_
  refine g_put (C := RX10) (T := TX10) (N := 12) (ci := 10) hx hb hts inX10 tyX10 tyX10_ok nmX10 hown hK hW hS (hB 0 bb_0) kd_0 rfl 9 (by decide) mw_257 rfl rfl rfl rfl (Nat.le_of_ble_eq_true rfl) (sv S_3 0 9 (gv S_3 110 0)) (ps_0_9) cellOf_sv dX10_orders_44 (fun S_5 eS_5 H locs hW hS => ?_)
  have h := bn_at eS_5 h
  refine lv_aload_n hx hb dX10_orders_47 rfl (lv_at hl 2 rfl) ?_
  refine lv_aload_n hx hb dX10_orders_48 rfl (lv_at hl 1 rfl) ?_
  refine g_get (C := RX6) (T := TX6) (N := 5) (ci := 6) hx hb hts inX6 hown hK hW h110 kd_110 rfl 1 (by decide) mw_472 rfl rfl dX10_orders_49 ?_
  refine g_put (C := RX10) (T := TX10) (N := 12) (ci := 10) hx hb hts inX10 tyX10 tyX10_ok nmX10 hown hK hW hS (hB 0 bb_0) kd_0 rfl 10 (by decide) mw_258 rfl rfl rfl rfl (Nat.le_of_ble_eq_true rfl) (sv S_5 0 10 (gv S_5 110 1)) (ps_0_10) cellOf_sv dX10_orders_52 (fun S_6 eS_6 H locs hW hS => ?_)
  have h := bn_at eS_6 h
  refine lv_aload_n hx hb dX10_orders_55 rfl (lv_at hl 2 rfl) ?_
  refine lv_iconst (v := 0) hx hb dX10_orders_56 (by decide) ?_
  refine g_put (C := RX10) (T := TX10) (N := 12) (ci := 10) hx hb hts inX10 tyX10 tyX10_ok nmX10 hown hK hW hS (hB 0 bb_0) kd_0 rfl 8 (by decide) mw_256 rfl rfl rfl rfl (Nat.le_of_ble_eq_true rfl) (sv S_6 0 8 0) (ps_0_8) cellOf_sv dX10_orders_57 (fun S_7 eS_7 H locs hW hS => ?_)
  have h := bn_at eS_7 h
  refine lv_iload hx hb dX10_orders_60 (lv_at hl 0 rfl) ?_
  refine lv_if_ne (tgt := 67) hx hb dX10_orders_62 (by decide) (fun c_8 => ?_) (fun c_8 => ?_)
  · have h := it_f c_8 h
    refine lv_aload_n hx hb dX10_orders_67 rfl (lv_at hl 3 rfl) ?_
    refine g_get (C := RX1) (T := TX1) (N := 12) (ci := 1) hx hb hts inX1 hown hK hW h_n2.2.2 (kd_herd h_n2) rfl 6 (by decide) mw_355 rfl rfl dX10_orders_68 ?_
    rcases hq_10 : (gr S_7 n2 6) with _ | n_9
    · rw [hq_10] at h
      cases h
    · rw [hq_10] at h
      obtain ⟨hn_11, h⟩ := ck_t h
      refine W.eq (g2 := F0 m 71 ls (.ref (ad n_9) :: [])) rfl ?_
      refine lv_astore (lv' := [(5, .ref (ad n_9)), (4, .int r_2), (3, .ref (ad 110)), (0, .ref (ad 0)), (2, .ref (ad n2))]) hx hb dX10_orders_71 hl (by decide) rfl (fun ls hl => ?_)
      refine lv_aload_n hx hb dX10_orders_73 rfl (lv_at hl 4 rfl) ?_
      refine lv_aload_n hx hb dX10_orders_74 rfl (lv_at hl 3 rfl) ?_
      refine g_get (C := RX10) (T := TX10) (N := 12) (ci := 10) hx hb hts inX10 hown hK hW (hB 0 bb_0) kd_0 rfl 6 (by decide) mw_254 rfl rfl dX10_orders_75 ?_
      rcases hq_13 : (gr S_7 0 6) with _ | n_12
      · rw [hq_13] at h
        cases h
      · rw [hq_13] at h
        obtain ⟨hn_14, h⟩ := ck_t h
        refine W.eq (g2 := F0 m 78 ls (.ref (ad n_12) :: [.ref (ad n2)])) rfl ?_
        refine g_put (C := RX1) (T := TX1) (N := 12) (ci := 1) hx hb hts inX1 tyX1 tyX1_ok nmX1 hown hK hW hS h_n2.2.2 (kd_herd h_n2) rfl 6 (by decide) mw_355 rfl rfl rfl rfl (Nat.le_of_ble_eq_true rfl) (sr S_7 n2 6 (some n_12)) (ps_herd_6 h_n2) cellOf_sr dX10_orders_78 (fun S_15 eS_15 H locs hW hS => ?_)
        have h := bn_at eS_15 h
        refine lv_aload_n hx hb dX10_orders_81 rfl (lv_at hl 3 rfl) ?_
        refine lv_aload hx hb dX10_orders_82 (lv_at hl 0 rfl) ?_
        refine g_put (C := RX10) (T := TX10) (N := 12) (ci := 10) hx hb hts inX10 tyX10 tyX10_ok nmX10 hown hK hW hS (hB 0 bb_0) kd_0 rfl 6 (by decide) mw_254 rfl rfl rfl rfl (Nat.le_of_ble_eq_true rfl) (sr S_15 0 6 (some n_9)) (ps_0_6) cellOf_sr dX10_orders_84 (fun S_16 eS_16 H locs hW hS => ?_)
        have h := bn_at eS_16 h
        refine lv_aload_n hx hb dX10_orders_87 rfl (lv_at hl 4 rfl) ?_
        refine g_get (C := RX1) (T := TX1) (N := 12) (ci := 1) hx hb hts inX1 hown hK hW h_n2.2.2 (kd_herd h_n2) rfl 6 (by decide) mw_355 rfl rfl dX10_orders_88 ?_
        rcases hq_18 : (gr S_16 n2 6) with _ | n_17
        · rw [hq_18] at h
          cases h
        · rw [hq_18] at h
          obtain ⟨hn_19, h⟩ := ck_t h
          refine W.eq (g2 := F0 m 91 ls (.ref (ad n_17) :: [])) rfl ?_
          refine g_get (C := RX5) (T := TX5) (N := 5) (ci := 5) hx hb hts inX5 hown hK hW hn_19.2.2.1 (kd_ord hn_19) rfl 3 (by decide) mw_235 rfl rfl dX10_orders_91 ?_
          cases h
          exact W.iret hx hb hr (fun t ht _ => ⟨⟨_, (), rfl, rfl, hdrop _ (ht.symm ▸ hW)⟩, hS.F ht⟩) hS.2.2 dX10_orders_94 hlocks
  · have h := it_t c_8 h
    refine lv_iconst (v := (-1)) hx hb dX10_orders_65 (by decide) ?_
    cases h
    exact W.iret hx hb hr (fun t ht _ => ⟨⟨_, (), rfl, rfl, hdrop _ (ht.symm ▸ hW)⟩, hS.F ht⟩) hS.2.2 dX10_orders_66 hlocks
def f_X10_orders (L : List Nat) (N : Nat) (S : St) (p1 : Int32) : Option (Int32 × St) := cl0 (f_X10_findHerd L S p1) fun n_2 => oc n_2 (some ((-2), S)) fun n_3 => if okh L n_3 then (bn (zr S 110) fun S_1 => oc (gr S_1 0 6) (none) fun x_4 => if oko L x_4 then (cl0 (f_X6_init S_1 (gv S_1 0 8) x_4) fun S_2 => f_X10_orders_s (L ++ [110] ++ [111]) N S_2 n_3) else none) else none
set_option maxHeartbeats 4000000 in
theorem t_X10_orders (C : MC p s m args meth c cX10_orders 6 (some .int) RX10 g A) (hB : Lk L) (hF : Fx L S) (hC : Cl L S) (h110 : 110 ∉ L) (h111 : 111 ∉ L) {S9 : St} (hC9 : Cl L S9) (hF9 : Fx L S9) {r p1 : Int32} (h : f_X10_orders L N S p1 = some (r, S9)) {H : Heap} {locs : List Loc} {ls : Array Slot} (hW : GW g A ad L S H) (hS : va_S A s.heap H locs) (hl : lv_has ls 6 [(0, .ref (ad 0)), (1, .int p1)]) : W p l e (rmc 234 2 11) s m args below meth c H locs 0 0 (MQ below (qi g A ad L r S9) args s 2 11 A) (F0 m 0 ls []) := by
  obtain ⟨hx, hb, hml, hown, hts, hr, hlocks, hK, hN, hT⟩ := id C
  unfold f_X10_orders at h
  refine lv_aload_n hx hb dX10_orders_0 rfl (lv_at hl 0 rfl) ?_
  refine lv_iload_n hx hb dX10_orders_1 rfl (lv_at hl 1 rfl) ?_
  obtain ⟨n_2, hc_1, h⟩ := cl0_ex h
  refine g_cr (g_runV (ci := 10) (o := 0) (As := [.int p1]) (rest := []) hx hb hml hown hts hK hN hT hS hW (c_X10_findHerd hB hc_1) (hB 0 bb_0) kd_0 rfl (gw_V mw_428 mw_430 mw_3 mw_66 mw_431) hv_X10_findHerd rfl rfl rfl (rc_ok2 (by decide) (by decide)) hl.1 (Nat.le_of_ble_eq_true rfl) dX10_orders_2 rfl ⟨by decide, by decide⟩) hS (fun H locs hW hS => ?_)
  rcases n_2 with _ | n_3
  · refine W.eq (g2 := F0 m 5 ls (.null :: [])) rfl ?_
    refine lv_astore_nN (lv' := [(2, .null), (0, .ref (ad 0)), (1, .int p1)]) hx hb dX10_orders_5 rfl hl (by decide) rfl (fun ls hl => ?_)
    refine lv_aload_nN hx hb dX10_orders_6 rfl (lv_at hl 0 rfl) ?_
    refine lv_ifnonnullN hx hb dX10_orders_7 ?_
    refine lv_bipush (v := (-2)) hx hb dX10_orders_10 (by decide) ?_
    cases h
    refine W.widen (k := 2) (n := 11) (by decide) (by decide) ?_
    exact g_iret hx hb hr hlocks hW hS dX10_orders_12
  · obtain ⟨hn_4, h⟩ := ck_t h
    refine W.eq (g2 := F0 m 5 ls (.ref (ad n_3) :: [])) rfl ?_
    refine lv_astore_n (lv' := [(2, .ref (ad n_3)), (0, .ref (ad 0)), (1, .int p1)]) hx hb dX10_orders_5 rfl hl (by decide) rfl (fun ls hl => ?_)
    refine lv_aload_n hx hb dX10_orders_6 rfl (lv_at hl 0 rfl) ?_
    refine lv_ifnonnull (tgt := 13) hx hb dX10_orders_7 (by decide) ?_
    have hD := (gd_gw hF).mpr hW
    have hne : n_3 ≠ 110 := by have := hn_4.2.1; omega
    refine gd_new (C := RX6) (T := TX6) (N := 5) (ci := 6) hx hb hts inX6 tyX6 tyX6_ok hown mw_432 mw_433 mw_75 hK hT hD hS hC rfl 110 h110 (fun j hj => by rcases (show j = 0 ∨ j = 1 ∨ j = 2 ∨ j = 3 ∨ j = 4 by omega) with rfl | rfl | rfl | rfl | rfl <;> rfl) (fun _ => zD_110) (by decide) (by decide) dX10_orders_13 (fun S_1 eS_1 ad_1 hag H hD hS hC1 => ?_)
    rw [← hag 0 (by decide), ← hag n_3 hne] at hl
    have h := bn_at eS_1 h
    have hg7 : gr S_1 0 4 = some 7 := by
      have := hF 0 (hB 0 bb_0) 4 7 rfl
      rw [eS_1]
      exact this
    refine lv_dup hx hb dX10_orders_16 rfl ?_
    refine lv_aload_n hx hb dX10_orders_17 rfl (lv_at hl 1 rfl) ?_
    refine gd_getr (C := RX10) (T := TX10) (N := 12) (ci := 10) (t := 7) hx hb hts inX10 hown hK hD (me_l (hB 0 bb_0)) cD_0 rfl 4 (by decide) mw_252 rfl hg7 rfl dX10_orders_18 ?_
    refine lv_aload_n hx hb dX10_orders_21 rfl (lv_at hl 1 rfl) ?_
    refine gc_get (C := RX10) (T := TX10) (N := 12) (ci := 10) hx hb hts inX10 hown hK hD (me_l (hB 0 bb_0)) cD_0 rfl 8 (by decide) mw_256 rfl rfl dX10_orders_22 ?_
    refine lv_aload_n hx hb dX10_orders_25 rfl (lv_at hl 1 rfl) ?_
    refine gc_get (C := RX10) (T := TX10) (N := 12) (ci := 10) hx hb hts inX10 hown hK hD (me_l (hB 0 bb_0)) cD_0 rfl 6 (by decide) mw_254 rfl rfl dX10_orders_26 ?_
    rcases hq_4 : (gr S_1 0 6) with _ | x_4
    · rw [hq_4] at h
      cases h
    · rw [hq_4] at h
      obtain ⟨hx_4, h⟩ := ck_t h
      refine W.eq (g2 := F0 m 29 ls [.ref (ad_1 x_4), .int (gv S_1 0 8), .ref (ad_1 7), .ref (ad_1 110), .ref (ad_1 110)]) rfl ?_
      obtain ⟨S_2, hc_2, h⟩ := cl0_ex h
      refine gd_c (gd_runI (o := 110) (As := [.ref (ad_1 7), .int (gv S_1 0 8), .ref (ad_1 x_4)]) (rest := [.ref (ad_1 110)]) hx hb hml hown hts hK hN hT hS hD (c_X6_init me_r (by intro i9 hi9; rw [List.mem_singleton.mp hi9]; exact nm_app h111 (by decide)) hC1 (me_l (hB 7 bb_7)) (me_l hx_4.2.2.1) hx_4.1 hx_4.2.1 hc_2) mw_436 mw_434 mw_435 mw_75 rfl hi_X6_init rfl rfl rfl (rc_ok (by decide) (by decide)) hl.1 (Nat.le_of_ble_eq_true rfl) dX10_orders_29 rfl ⟨by decide, by decide⟩) hS (fun ad_2 hag2 H locs hD hS hC2 => ?_)
      rw [← hag2 0 (me_l (hB 0 bb_0)), ← hag2 n_3 (me_l hn_4.2.2)] at hl
      rw [← hag2 110 me_r]
      rw [eS_1] at hc_2
      have hF2 := Fx_parser hF h110 h111 (parser_rows hc_2)
      have hW2 := (gd_gw hF2).mp hD
      have hagL : ∀ x ∈ L, ad_2 x = ad x := fun x hx => (hag2 x (me_l hx)).trans (hag x (fun e9 => h110 (e9 ▸ hx)))
      exact t_X10_orders_s C (fun x hx => me_l (me_l (hB x hx))) (me_l me_r) me_r ⟨hn_4.1, hn_4.2.1, me_l (me_l hn_4.2.2)⟩ h (fun H hw => gw_back (L3 := [110] ++ [111]) hagL hC9 hF9 (fun _ _ => ⟨rfl, rfl, rfl⟩) (by rw [← List.append_assoc]; exact hw)) hW2 hS (lv_sub hl [1, 0] rfl)
theorem c_X10_orders (hB : Lk L) (hF : Fx L S) (hC : Cl L S) (h110 : 110 ∉ L) (h111 : 111 ∉ L) {S9 : St} (hC9 : Cl L S9) (hF9 : Fx L S9) {r p1 : Int32} (h : f_X10_orders L N S p1 = some (r, S9)) : Met l yX10_orders (gws yX10_orders cX10_orders 6 (some .int)) (rmc 234 2 11) (va_Pc [.ref (ad 0), .int p1] (WU g A ad L S)) (qi g A ad L r S9) 2 11 A :=
  g_met [.ref (ad 0), .int p1] (by decide) (Nat.le_of_ble_eq_true rfl) (fun p e s m below meth c ls C hW hl _ => t_X10_orders C hB hF hC h110 h111 hC9 hF9 h hW va_S.rf hl)
theorem hv_X10_orders : yX10_orders.cls = RX10 ∧ yX10_orders.cls ≠ "java/lang/invoke/MethodHandle" ∧ yX10_orders.cls ≠ "java/lang/invoke/VarHandle" ∧ (parseMethodDescriptor yX10_orders.desc).map (fun d => d.parameters.length) = some 1 := by decide +kernel
end ORDM
