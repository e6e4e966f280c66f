section S33
variable {p : Program} {l : Launch} {e : Env} {s : State} {m : MethodId} {args : Array Value} {below : List Frame} {meth : Method} {c : Code} {A : Nat → Prop} {g : Cx} {ad : Nat → Nat} {L : List Nat} {N : Nat} {q0 : Nat}
/-! DroveRoads$Parser.readLine -/
def f_X6_readLine (L : List Nat) (N : Nat) (S : St) : Option (Int32 × St) := cl1 (f_X6_take N S 0) fun r_2 S_3 => if r_2 = 0 then (some (0, S_3)) else (cl1 ((lev L N 10).1 S_3 0) fun r_7 S_8 => if r_7 = 0 then (some (0, S_8)) else (cl1 (f_X6_take N S_8 1) fun r_12 S_13 => if r_12 = 0 then (some (0, S_13)) else (cl1 (f_X6_readAct L N S_13) fun r_17 S_18 => if r_17 = 0 then (some (0, S_18)) else (cl1 (f_X6_take N S_18 17) fun r_22 S_23 => if r_22 = 0 then (some (0, S_23)) else (some (1, S_23))))))
set_option maxHeartbeats 4000000 in
theorem t_X6_readLine (C : MC p s m args meth c cX6_readLine 1 (some .boolean) RX6 g A) (hB : Lk L) (h110 : 110 ∈ L) (h111 : 111 ∈ L) {S : St} {r : Int32} {S9 : St} (h : f_X6_readLine L N S = some (r, S9)) {H : Heap} {locs : List Loc} {ls : Array Slot} (hW : GW g A ad L S H) (hS : va_S A s.heap H locs) (hl : lv_has ls 1 [(0, .ref (ad 110))]) : W p l e (rmk 233) s m args below meth c H locs 0 0 (MQ below (qz g A ad L r S9) args s 0 0 A) (F0 m 0 ls []) := by
  obtain ⟨hx, hb, hml, hown, hts, hr, hlocks, hK, hN, hT⟩ := id C
  unfold f_X6_readLine at h
  refine lv_aload_n hx hb dX6_readLine_0 rfl (lv_at hl 0 rfl) ?_
  refine lv_iconst (v := 0) hx hb dX6_readLine_1 (by decide) ?_
  obtain ⟨r_2, S_3, hc_1, h⟩ := cl1_ex h
  refine g_cz (g_runV (ci := 6) (o := 110) (As := [.int 0]) (rest := []) hx hb hml hown hts hK hN hT hS hW (c_X6_take hB h110 h111 hc_1) h110 kd_110 rfl (gw_V mw_644 mw_646 mw_11 mw_76 mw_647) hv_X6_take rfl rfl rfl (rm_ok (by decide) (by decide)) hl.1 (Nat.le_of_ble_eq_true rfl) dX6_readLine_2 rfl ⟨Nat.zero_le _, Nat.zero_le _⟩) hS (fun hz_4 H locs hW hS => ?_)
  refine lv_if_eq (tgt := 44) hx hb dX6_readLine_5 (by decide) (fun c_5 => ?_) (fun c_5 => ?_)
  · have h := it_t c_5 h
    refine lv_iconst (v := 0) hx hb dX6_readLine_44 (by decide) ?_
    cases h
    exact g_zret hx hb hr hlocks hW hS (rfl) dX6_readLine_45
  · have h := it_f c_5 h
    refine lv_aload_n hx hb dX6_readLine_8 rfl (lv_at hl 0 rfl) ?_
    refine lv_iconst (v := 0) hx hb dX6_readLine_9 (by decide) ?_
    obtain ⟨r_7, S_8, hc_6, h⟩ := cl1_ex h
    refine g_cz (g_runV (ci := 6) (o := 110) (As := [.int 0]) (rest := []) hx hb hml hown hts hK hN hT hS hW ((lev_ok hB h110 h111 10).1 hc_6) h110 kd_110 rfl (gw_V mw_656 mw_658 mw_14 mw_76 mw_659) hv_X6_readE rfl rfl rfl (rm_ok (by decide) (by decide)) hl.1 (Nat.le_of_ble_eq_true rfl) dX6_readLine_10 rfl ⟨Nat.zero_le _, Nat.zero_le _⟩) hS (fun hz_9 H locs hW hS => ?_)
    refine lv_if_eq (tgt := 44) hx hb dX6_readLine_13 (by decide) (fun c_10 => ?_) (fun c_10 => ?_)
    · have h := it_t c_10 h
      refine lv_iconst (v := 0) hx hb dX6_readLine_44 (by decide) ?_
      cases h
      exact g_zret hx hb hr hlocks hW hS (rfl) dX6_readLine_45
    · have h := it_f c_10 h
      refine lv_aload_n hx hb dX6_readLine_16 rfl (lv_at hl 0 rfl) ?_
      refine lv_iconst (v := 1) hx hb dX6_readLine_17 (by decide) ?_
      obtain ⟨r_12, S_13, hc_11, h⟩ := cl1_ex h
      refine g_cz (g_runV (ci := 6) (o := 110) (As := [.int 1]) (rest := []) hx hb hml hown hts hK hN hT hS hW (c_X6_take hB h110 h111 hc_11) h110 kd_110 rfl (gw_V mw_644 mw_646 mw_11 mw_76 mw_647) hv_X6_take rfl rfl rfl (rm_ok (by decide) (by decide)) hl.1 (Nat.le_of_ble_eq_true rfl) dX6_readLine_18 rfl ⟨Nat.zero_le _, Nat.zero_le _⟩) hS (fun hz_14 H locs hW hS => ?_)
      refine lv_if_eq (tgt := 44) hx hb dX6_readLine_21 (by decide) (fun c_15 => ?_) (fun c_15 => ?_)
      · have h := it_t c_15 h
        refine lv_iconst (v := 0) hx hb dX6_readLine_44 (by decide) ?_
        cases h
        exact g_zret hx hb hr hlocks hW hS (rfl) dX6_readLine_45
      · have h := it_f c_15 h
        refine lv_aload_n hx hb dX6_readLine_24 rfl (lv_at hl 0 rfl) ?_
        obtain ⟨r_17, S_18, hc_16, h⟩ := cl1_ex h
        refine g_cz (g_runV (ci := 6) (o := 110) (As := []) (rest := []) hx hb hml hown hts hK hN hT hS hW (c_X6_readAct hB h110 h111 hc_16) h110 kd_110 rfl (gw_V mw_689 mw_691 mw_21 mw_76 mw_692) hv_X6_readAct rfl rfl rfl (rm_ok (by decide) (by decide)) hl.1 (Nat.le_of_ble_eq_true rfl) dX6_readLine_25 rfl ⟨Nat.zero_le _, Nat.zero_le _⟩) hS (fun hz_19 H locs hW hS => ?_)
        refine lv_if_eq (tgt := 44) hx hb dX6_readLine_28 (by decide) (fun c_20 => ?_) (fun c_20 => ?_)
        · have h := it_t c_20 h
          refine lv_iconst (v := 0) hx hb dX6_readLine_44 (by decide) ?_
          cases h
          exact g_zret hx hb hr hlocks hW hS (rfl) dX6_readLine_45
        · have h := it_f c_20 h
          refine lv_aload_n hx hb dX6_readLine_31 rfl (lv_at hl 0 rfl) ?_
          refine lv_bipush (v := 17) hx hb dX6_readLine_32 (by decide) ?_
          obtain ⟨r_22, S_23, hc_21, h⟩ := cl1_ex h
          refine g_cz (g_runV (ci := 6) (o := 110) (As := [.int 17]) (rest := []) hx hb hml hown hts hK hN hT hS hW (c_X6_take hB h110 h111 hc_21) h110 kd_110 rfl (gw_V mw_644 mw_646 mw_11 mw_76 mw_647) hv_X6_take rfl rfl rfl (rm_ok (by decide) (by decide)) hl.1 (Nat.le_of_ble_eq_true rfl) dX6_readLine_34 rfl ⟨Nat.zero_le _, Nat.zero_le _⟩) hS (fun hz_24 H locs hW hS => ?_)
          refine lv_if_eq (tgt := 44) hx hb dX6_readLine_37 (by decide) (fun c_25 => ?_) (fun c_25 => ?_)
          · have h := it_t c_25 h
            refine lv_iconst (v := 0) hx hb dX6_readLine_44 (by decide) ?_
            cases h
            exact g_zret hx hb hr hlocks hW hS (rfl) dX6_readLine_45
          · have h := it_f c_25 h
            refine lv_iconst (v := 1) hx hb dX6_readLine_40 (by decide) ?_
            refine lv_goto (tgt := 45) hx hb dX6_readLine_41 (by decide) ?_
            cases h
            exact g_zret hx hb hr hlocks hW hS (rfl) dX6_readLine_45
theorem c_X6_readLine (hB : Lk L) (h110 : 110 ∈ L) (h111 : 111 ∈ L) {S : St} {r : Int32} {S9 : St} (h : f_X6_readLine L N S = some (r, S9)) : Met l yX6_readLine (gws yX6_readLine cX6_readLine 1 (some .boolean)) (rmk 233) (va_Pc [.ref (ad 110)] (WU g A ad L S)) (qz g A ad L r S9) 0 0 A :=
  g_met [.ref (ad 110)] (by decide) (Nat.le_of_ble_eq_true rfl) (fun p e s m below meth c ls C hW hl _ => t_X6_readLine C hB h110 h111 h hW va_S.rf hl)
theorem hv_X6_readLine : yX6_readLine.cls = RX6 ∧ yX6_readLine.cls ≠ "java/lang/invoke/MethodHandle" ∧ yX6_readLine.cls ≠ "java/lang/invoke/VarHandle" ∧ (parseMethodDescriptor yX6_readLine.desc).map (fun d => d.parameters.length) = some 0 := by decide +kernel
/-! DroveRoads$Parser.read -/
def f_X6_read_l16 (L : List Nat) (N : Nat) (k : St → Option (Int32 × St)) : Nat → St → Int32 → Option (Int32 × St)
  | 0, _, _ => none
  | n + 1, S, v1 => if 8 ≤ v1 then (k S) else (if (gv S 111 0) = 27 then (some (1, S)) else (cl1 (f_X6_readLine L N S) fun r_11 S_12 => if r_11 = 0 then (some (0, S_12)) else (bn (v1 + 1) fun x_15 => f_X6_read_l16 L N k n S_12 x_15)))
set_option maxHeartbeats 4000000 in
theorem t_X6_read_l16 (C : MC p s m args meth c cX6_read 2 (some .boolean) RX6 g A) (hB : Lk L) (h110 : 110 ∈ L) (h111 : 111 ∈ L) {r : Int32} {S9 : St} {k : St → Option (Int32 × St)} (hk : ∀ (S : St), k S = some (r, S9) → ∀ (H : Heap) (locs : List Loc) (ls : Array Slot), GW g A ad L S H → va_S A s.heap H locs → lv_has ls 2 [(0, .ref (ad 110))] → W p l e (rmk 234) s m args below meth c H locs 0 0 (MQ below (qz g A ad L r S9) args s 0 0 A) (F0 m 51 ls [])) : ∀ (n : Nat) (S : St) (v1 : Int32), f_X6_read_l16 L N k n S v1 = some (r, S9) → ∀ (H : Heap) (locs : List Loc) (ls : Array Slot), GW g A ad L S H → va_S A s.heap H locs → lv_has ls 2 [(0, .ref (ad 110)), (1, .int v1)] → W p l e (rmk 234) s m args below meth c H locs 0 0 (MQ below (qz g A ad L r S9) args s 0 0 A) (F0 m 16 ls []) := by
  obtain ⟨hx, hb, hml, hown, hts, hr, hlocks, hK, hN, hT⟩ := id C
  intro n
  induction n with
  | zero =>
    intro S v1 h
    have h : (none : Option (Int32 × St)) = some (r, S9) := h
    cases h
  | succ n ih =>
    intro S v1 h H locs ls hW hS hl
    rw [f_X6_read_l16] at h
    refine lv_iload_n hx hb dX6_read_16 rfl (lv_at hl 1 rfl) ?_
    refine lv_bipush (v := 8) hx hb dX6_read_17 (by decide) ?_
    refine lv_icmp_ge (tgt := 51) hx hb dX6_read_19 (by decide) (fun c_8 => ?_) (fun c_8 => ?_)
    · have h := it_t c_8 h
      exact hk _ h _ _ _ hW hS (lv_sub hl [0] rfl)
    · have h := it_f c_8 h
      refine lv_aload_n hx hb dX6_read_22 rfl (lv_at hl 0 rfl) ?_
      refine g_get (C := RX6) (T := TX6) (N := 5) (ci := 6) hx hb hts inX6 hown hK hW h110 kd_110 rfl 2 (by decide) mw_474 rfl rfl dX6_read_23 ?_
      refine g_get (C := RX3) (T := TX3) (N := 6) (ci := 3) hx hb hts inX3 hown hK hW h111 kd_111 rfl 0 (by decide) mw_449 rfl rfl dX6_read_26 ?_
      refine lv_bipush (v := 27) hx hb dX6_read_29 (by decide) ?_
      refine lv_icmp_ne (tgt := 36) hx hb dX6_read_31 (by decide) (fun c_9 => ?_) (fun c_9 => ?_)
      · have h := it_f c_9 h
        refine lv_aload_n hx hb dX6_read_36 rfl (lv_at hl 0 rfl) ?_
        obtain ⟨r_11, S_12, hc_10, h⟩ := cl1_ex h
        refine g_cz (g_runV (ci := 6) (o := 110) (As := []) (rest := []) hx hb hml hown hts hK hN hT hS hW (c_X6_readLine hB h110 h111 hc_10) h110 kd_110 rfl (gw_V mw_640 mw_642 mw_10 mw_76 mw_643) hv_X6_readLine rfl rfl rfl (rm_ok (by decide) (by decide)) hl.1 (Nat.le_of_ble_eq_true rfl) dX6_read_37 rfl ⟨Nat.zero_le _, Nat.zero_le _⟩) hS (fun hz_13 H locs hW hS => ?_)
        refine lv_if_ne (tgt := 45) hx hb dX6_read_40 (by decide) (fun c_14 => ?_) (fun c_14 => ?_)
        · have h := it_f c_14 h
          obtain ⟨x_15, ex_15⟩ : ∃ z : Int32, z = v1 + 1 := ⟨_, rfl⟩
          have h := bn_at ex_15 h
          refine lv_iinc (v := x_15) (lv' := [(1, .int x_15), (0, .ref (ad 110))]) hx hb dX6_read_45 hl (k := 1) rfl (by rw [ex_15]; rfl) (by decide) rfl (fun ls hl => ?_)
          refine lv_goto (tgt := 16) hx hb dX6_read_48 (by decide) ?_
          exact ih _ _ h _ _ _ hW hS (lv_sub hl [1, 0] rfl)
        · have h := it_t c_14 h
          refine lv_iconst (v := 0) hx hb dX6_read_43 (by decide) ?_
          cases h
          exact g_zret hx hb hr hlocks hW hS (rfl) dX6_read_44
      · have h := it_t c_9 h
        refine lv_iconst (v := 1) hx hb dX6_read_34 (by decide) ?_
        cases h
        exact g_zret hx hb hr hlocks hW hS (rfl) dX6_read_35
def f_X6_read (L : List Nat) (N : Nat) (S : St) : Option (Int32 × St) := oc (gr S 110 3) (none) fun n_1 => if oko L n_1 then (cl0 (f_X5_clear S n_1) fun S_5 => cl0 (f_X3_advance N S_5) fun S_7 => f_X6_read_l16 L N (fun S_16 => if (gv S_16 111 0) = 27 then (some (1, S_16)) else (cl1 (f_X6_refuse S_16) fun r_19 S_20 => if r_19 = 0 then (some (0, S_20)) else (some (1, S_20)))) N S_7 0) else none
set_option maxHeartbeats 4000000 in
theorem t_X6_read (C : MC p s m args meth c cX6_read 2 (some .boolean) RX6 g A) (hB : Lk L) (h110 : 110 ∈ L) (h111 : 111 ∈ L) {S : St} {r : Int32} {S9 : St} (h : f_X6_read L N S = some (r, S9)) {H : Heap} {locs : List Loc} {ls : Array Slot} (hW : GW g A ad L S H) (hS : va_S A s.heap H locs) (hl : lv_has ls 2 [(0, .ref (ad 110))]) : W p l e (rmk 234) s m args below meth c H locs 0 0 (MQ below (qz g A ad L r S9) args s 0 0 A) (F0 m 0 ls []) := by
  obtain ⟨hx, hb, hml, hown, hts, hr, hlocks, hK, hN, hT⟩ := id C
  unfold f_X6_read at h
  refine lv_aload_n hx hb dX6_read_0 rfl (lv_at hl 0 rfl) ?_
  refine g_get (C := RX6) (T := TX6) (N := 5) (ci := 6) hx hb hts inX6 hown hK hW h110 kd_110 rfl 3 (by decide) mw_475 rfl rfl dX6_read_1 ?_
  rcases hq_2 : (gr S 110 3) with _ | n_1
  · rw [hq_2] at h
    cases h
  · rw [hq_2] at h
    obtain ⟨hn_3, h⟩ := ck_t h
    refine W.eq (g2 := F0 m 4 ls (.ref (ad n_1) :: [])) rfl ?_
    obtain ⟨S_5, hc_4, h⟩ := cl0_ex h
    refine g_cv (g_runV (ci := 5) (o := n_1) (As := []) (rest := []) hx hb hml hown hts hK hN hT hS hW (c_X5_clear hB hn_3 hc_4) hn_3.2.2.1 (kd_ord hn_3) rfl (gw_V mw_492 mw_493 mw_494 mw_73 mw_495) hv_X5_clear rfl rfl rfl (rm_ok (by decide) (by decide)) hl.1 (Nat.le_of_ble_eq_true rfl) dX6_read_4 rfl ⟨Nat.zero_le _, Nat.zero_le _⟩) hS (fun H locs hW hS => ?_)
    refine lv_aload_n hx hb dX6_read_7 rfl (lv_at hl 0 rfl) ?_
    refine g_get (C := RX6) (T := TX6) (N := 5) (ci := 6) hx hb hts inX6 hown hK hW h110 kd_110 rfl 2 (by decide) mw_474 rfl rfl dX6_read_8 ?_
    obtain ⟨S_7, hc_6, h⟩ := cl0_ex h
    refine g_cv (g_runV (ci := 3) (o := 111) (As := []) (rest := []) hx hb hml hown hts hK hN hT hS hW (c_X3_advance hB h111 hc_6) h111 kd_111 rfl (gw_V mw_496 mw_497 mw_498 mw_77 mw_499) hv_X3_advance rfl rfl rfl (rm_ok (by decide) (by decide)) hl.1 (Nat.le_of_ble_eq_true rfl) dX6_read_11 rfl ⟨Nat.zero_le _, Nat.zero_le _⟩) hS (fun H locs hW hS => ?_)
    refine lv_iconst (v := 0) hx hb dX6_read_14 (by decide) ?_
    refine lv_istore_n (lv' := [(1, .int 0), (0, .ref (ad 110))]) hx hb dX6_read_15 rfl hl (by decide) rfl (fun ls hl => ?_)
    refine t_X6_read_l16 C hB h110 h111 ?_ _ _ _ h _ _ _ hW hS (lv_sub hl [1, 0] rfl)
    intro S_16 h H locs ls hW hS hl
    refine lv_aload_n hx hb dX6_read_51 rfl (lv_at hl 0 rfl) ?_
    refine g_get (C := RX6) (T := TX6) (N := 5) (ci := 6) hx hb hts inX6 hown hK hW h110 kd_110 rfl 2 (by decide) mw_474 rfl rfl dX6_read_52 ?_
    refine g_get (C := RX3) (T := TX3) (N := 6) (ci := 3) hx hb hts inX3 hown hK hW h111 kd_111 rfl 0 (by decide) mw_449 rfl rfl dX6_read_55 ?_
    refine lv_bipush (v := 27) hx hb dX6_read_58 (by decide) ?_
    refine lv_icmp_eq (tgt := 70) hx hb dX6_read_60 (by decide) (fun c_17 => ?_) (fun c_17 => ?_)
    · have h := it_t c_17 h
      refine lv_iconst (v := 1) hx hb dX6_read_70 (by decide) ?_
      refine lv_goto (tgt := 75) hx hb dX6_read_71 (by decide) ?_
      cases h
      exact g_zret hx hb hr hlocks hW hS (rfl) dX6_read_75
    · have h := it_f c_17 h
      refine lv_aload_n hx hb dX6_read_63 rfl (lv_at hl 0 rfl) ?_
      obtain ⟨r_19, S_20, hc_18, h⟩ := cl1_ex h
      refine g_cz (g_runV (ci := 6) (o := 110) (As := []) (rest := []) hx hb hml hown hts hK hN hT hS hW (c_X6_refuse hB h110 h111 hc_18) h110 kd_110 rfl (gw_V mw_648 mw_650 mw_12 mw_76 mw_651) hv_X6_refuse rfl rfl rfl (rm_ok (by decide) (by decide)) hl.1 (Nat.le_of_ble_eq_true rfl) dX6_read_64 rfl ⟨Nat.zero_le _, Nat.zero_le _⟩) hS (fun hz_21 H locs hW hS => ?_)
      refine lv_if_eq (tgt := 74) hx hb dX6_read_67 (by decide) (fun c_22 => ?_) (fun c_22 => ?_)
      · have h := it_t c_22 h
        refine lv_iconst (v := 0) hx hb dX6_read_74 (by decide) ?_
        cases h
        exact g_zret hx hb hr hlocks hW hS (rfl) dX6_read_75
      · have h := it_f c_22 h
        refine lv_iconst (v := 1) hx hb dX6_read_70 (by decide) ?_
        refine lv_goto (tgt := 75) hx hb dX6_read_71 (by decide) ?_
        cases h
        exact g_zret hx hb hr hlocks hW hS (rfl) dX6_read_75
theorem c_X6_read (hB : Lk L) (h110 : 110 ∈ L) (h111 : 111 ∈ L) {S : St} {r : Int32} {S9 : St} (h : f_X6_read L N S = some (r, S9)) : Met l yX6_read (gws yX6_read cX6_read 2 (some .boolean)) (rmk 234) (va_Pc [.ref (ad 110)] (WU g A ad L S)) (qz g A ad L r S9) 0 0 A :=
  g_met [.ref (ad 110)] (by decide) (Nat.le_of_ble_eq_true rfl) (fun p e s m below meth c ls C hW hl _ => t_X6_read C hB h110 h111 h hW va_S.rf hl)
theorem hv_X6_read : yX6_read.cls = RX6 ∧ yX6_read.cls ≠ "java/lang/invoke/MethodHandle" ∧ yX6_read.cls ≠ "java/lang/invoke/VarHandle" ∧ (parseMethodDescriptor yX6_read.desc).map (fun d => d.parameters.length) = some 0 := by decide +kernel
end S33
