section S33
variable {p : Program} {l : Launch} {e : Env} {s : State} {m : MethodId} {args : Array Value} {below : List Frame} {meth : Method} {c : Code} {A : Nat → Prop} {g : Cx} {ad : Nat → Nat} {L : List Nat} {N : Nat} {q0 : Nat}
/-! DroveRoads$Parser.read -/
def f_X6_read_l18 (L : List Nat) (N : Nat) (k : St → Int32 → Option (Int32 × St)) : Nat → St → Int32 → Int32 → Option (Int32 × St)
  | 0, _, _, _ => none
  | n + 1, S, v1, v2 => if 8 ≤ v2 then (k S v1) else (if v1 = 0 then (k S v1) else (if (gv S 111 0) = 27 then (k S v1) else (cl1 (f_X6_take N S 0) fun r_12 S_13 => if r_12 = 0 then (bn (v2 + 1) fun x_16 => f_X6_read_l18 L N k n S_13 0 x_16) else (cl1 ((lev L N 10).1 S_13 0) fun r_18 S_19 => if r_18 = 0 then (bn (v2 + 1) fun x_22 => f_X6_read_l18 L N k n S_19 0 x_22) else (cl1 (f_X6_take N S_19 1) fun r_24 S_25 => if r_24 = 0 then (bn (v2 + 1) fun x_28 => f_X6_read_l18 L N k n S_25 0 x_28) else (cl1 (f_X6_readAct L N S_25) fun r_30 S_31 => if r_30 = 0 then (bn (v2 + 1) fun x_34 => f_X6_read_l18 L N k n S_31 0 x_34) else (cl1 (f_X6_take N S_31 17) fun r_36 S_37 => if r_36 = 0 then (bn (v2 + 1) fun x_40 => f_X6_read_l18 L N k n S_37 0 x_40) else (bn (v2 + 1) fun x_41 => f_X6_read_l18 L N k n S_37 1 x_41))))))))
set_option maxHeartbeats 4000000 in
theorem t_X6_read_l18 (C : MC p s m args meth c cX6_read 3 (some .boolean) RX6 g A) (hB : Lk L) (h110 : 110 ∈ L) (h111 : 111 ∈ L) {r : Int32} {S9 : St} {k : St → Int32 → Option (Int32 × St)} (hk : ∀ (S : St) (w1 : Int32), k S w1 = some (r, S9) → ∀ (H : Heap) (locs : List Loc) (ls : Array Slot), GW g A ad L S H → va_S A s.heap H locs → lv_has ls 3 [(0, .ref (ad 110)), (1, .int w1)] → W p l e (rmk 233) s m args below meth c H locs 0 0 (MQ below (qz g A ad L r S9) args s 0 0 A) (F0 m 92 ls [])) : ∀ (n : Nat) (S : St) (v1 : Int32) (v2 : Int32), f_X6_read_l18 L N k n S v1 v2 = some (r, S9) → ∀ (H : Heap) (locs : List Loc) (ls : Array Slot), GW g A ad L S H → va_S A s.heap H locs → lv_has ls 3 [(0, .ref (ad 110)), (1, .int v1), (2, .int v2)] → W p l e (rmk 233) s m args below meth c H locs 0 0 (MQ below (qz g A ad L r S9) args s 0 0 A) (F0 m 18 ls []) := by
  obtain ⟨hx, hb, hml, hown, hts, hr, hlocks, hK, hN, hT⟩ := id C
  intro n
  induction n with
  | zero =>
    intro S v1 v2 h
    have h : (none : Option (Int32 × St)) = some (r, S9) := h
    cases h
  | succ n ih =>
    intro S v1 v2 h H locs ls hW hS hl
    rw [f_X6_read_l18] at h
    refine lv_iload_n hx hb dX6_read_18 rfl (lv_at hl 2 rfl) ?_
    refine lv_bipush (v := 8) hx hb dX6_read_19 (by decide) ?_
    refine lv_icmp_ge (tgt := 92) hx hb dX6_read_21 (by decide) (fun c_8 => ?_) (fun c_8 => ?_)
    · have h := it_t c_8 h
      exact hk _ _ h _ _ _ hW hS (lv_sub hl [0, 1] rfl)
    · have h := it_f c_8 h
      refine lv_iload_n hx hb dX6_read_24 rfl (lv_at hl 1 rfl) ?_
      refine lv_if_eq (tgt := 92) hx hb dX6_read_25 (by decide) (fun c_9 => ?_) (fun c_9 => ?_)
      · have h := it_t c_9 h
        exact hk _ _ h _ _ _ hW hS (lv_sub hl [0, 1] rfl)
      · have h := it_f c_9 h
        refine lv_aload_n hx hb dX6_read_28 rfl (lv_at hl 0 rfl) ?_
        refine g_get (C := RX6) (T := TX6) (N := 5) (ci := 6) hx hb hts inX6 hown hK hW h110 kd_110 rfl 2 (by decide) mw_473 rfl rfl dX6_read_29 ?_
        refine g_get (C := RX3) (T := TX3) (N := 6) (ci := 3) hx hb hts inX3 hown hK hW h111 kd_111 rfl 0 (by decide) mw_448 rfl rfl dX6_read_32 ?_
        refine lv_bipush (v := 27) hx hb dX6_read_35 (by decide) ?_
        refine lv_icmp_eq (tgt := 92) hx hb dX6_read_37 (by decide) (fun c_10 => ?_) (fun c_10 => ?_)
        · have h := it_t c_10 h
          exact hk _ _ h _ _ _ hW hS (lv_sub hl [0, 1] rfl)
        · have h := it_f c_10 h
          refine lv_aload_n hx hb dX6_read_40 rfl (lv_at hl 0 rfl) ?_
          refine lv_iconst (v := 0) hx hb dX6_read_41 (by decide) ?_
          obtain ⟨r_12, S_13, hc_11, h⟩ := cl1_ex h
          refine g_cz (g_runV (ci := 6) (o := 110) (As := [.int 0]) (rest := []) hx hb hml hown hts hK hN hT hS hW (c_X6_take hB h110 h111 hc_11) h110 kd_110 rfl (gw_V mw_639 mw_641 mw_10 mw_75 mw_642) hv_X6_take rfl rfl rfl (rm_ok (by decide) (by decide)) hl.1 (Nat.le_of_ble_eq_true rfl) dX6_read_42 rfl ⟨Nat.zero_le _, Nat.zero_le _⟩) hS (fun hz_14 H locs hW hS => ?_)
          refine lv_if_eq (tgt := 84) hx hb dX6_read_45 (by decide) (fun c_15 => ?_) (fun c_15 => ?_)
          · have h := it_t c_15 h
            refine lv_iconst (v := 0) hx hb dX6_read_84 (by decide) ?_
            refine lv_istore_n (lv' := [(1, .int 0), (0, .ref (ad 110)), (2, .int v2)]) hx hb dX6_read_85 rfl hl (by decide) rfl (fun ls hl => ?_)
            obtain ⟨x_16, ex_16⟩ : ∃ z : Int32, z = v2 + 1 := ⟨_, rfl⟩
            have h := bn_at ex_16 h
            refine lv_iinc (v := x_16) (lv' := [(2, .int x_16), (1, .int 0), (0, .ref (ad 110))]) hx hb dX6_read_86 hl (k := 2) rfl (by rw [ex_16]; rfl) (by decide) rfl (fun ls hl => ?_)
            refine lv_goto (tgt := 18) hx hb dX6_read_89 (by decide) ?_
            exact ih _ _ _ h _ _ _ hW hS (lv_sub hl [2, 1, 0] rfl)
          · have h := it_f c_15 h
            refine lv_aload_n hx hb dX6_read_48 rfl (lv_at hl 0 rfl) ?_
            refine lv_iconst (v := 0) hx hb dX6_read_49 (by decide) ?_
            obtain ⟨r_18, S_19, hc_17, h⟩ := cl1_ex h
            refine g_cz (g_runV (ci := 6) (o := 110) (As := [.int 0]) (rest := []) hx hb hml hown hts hK hN hT hS hW ((lev_ok hB h110 h111 10).1 hc_17) h110 kd_110 rfl (gw_V mw_651 mw_653 mw_13 mw_75 mw_654) hv_X6_readE rfl rfl rfl (rm_ok (by decide) (by decide)) hl.1 (Nat.le_of_ble_eq_true rfl) dX6_read_50 rfl ⟨Nat.zero_le _, Nat.zero_le _⟩) hS (fun hz_20 H locs hW hS => ?_)
            refine lv_if_eq (tgt := 84) hx hb dX6_read_53 (by decide) (fun c_21 => ?_) (fun c_21 => ?_)
            · have h := it_t c_21 h
              refine lv_iconst (v := 0) hx hb dX6_read_84 (by decide) ?_
              refine lv_istore_n (lv' := [(1, .int 0), (0, .ref (ad 110)), (2, .int v2)]) hx hb dX6_read_85 rfl hl (by decide) rfl (fun ls hl => ?_)
              obtain ⟨x_22, ex_22⟩ : ∃ z : Int32, z = v2 + 1 := ⟨_, rfl⟩
              have h := bn_at ex_22 h
              refine lv_iinc (v := x_22) (lv' := [(2, .int x_22), (1, .int 0), (0, .ref (ad 110))]) hx hb dX6_read_86 hl (k := 2) rfl (by rw [ex_22]; rfl) (by decide) rfl (fun ls hl => ?_)
              refine lv_goto (tgt := 18) hx hb dX6_read_89 (by decide) ?_
              exact ih _ _ _ h _ _ _ hW hS (lv_sub hl [2, 1, 0] rfl)
            · have h := it_f c_21 h
              refine lv_aload_n hx hb dX6_read_56 rfl (lv_at hl 0 rfl) ?_
              refine lv_iconst (v := 1) hx hb dX6_read_57 (by decide) ?_
              obtain ⟨r_24, S_25, hc_23, h⟩ := cl1_ex h
              refine g_cz (g_runV (ci := 6) (o := 110) (As := [.int 1]) (rest := []) hx hb hml hown hts hK hN hT hS hW (c_X6_take hB h110 h111 hc_23) h110 kd_110 rfl (gw_V mw_639 mw_641 mw_10 mw_75 mw_642) hv_X6_take rfl rfl rfl (rm_ok (by decide) (by decide)) hl.1 (Nat.le_of_ble_eq_true rfl) dX6_read_58 rfl ⟨Nat.zero_le _, Nat.zero_le _⟩) hS (fun hz_26 H locs hW hS => ?_)
              refine lv_if_eq (tgt := 84) hx hb dX6_read_61 (by decide) (fun c_27 => ?_) (fun c_27 => ?_)
              · have h := it_t c_27 h
                refine lv_iconst (v := 0) hx hb dX6_read_84 (by decide) ?_
                refine lv_istore_n (lv' := [(1, .int 0), (0, .ref (ad 110)), (2, .int v2)]) hx hb dX6_read_85 rfl hl (by decide) rfl (fun ls hl => ?_)
                obtain ⟨x_28, ex_28⟩ : ∃ z : Int32, z = v2 + 1 := ⟨_, rfl⟩
                have h := bn_at ex_28 h
                refine lv_iinc (v := x_28) (lv' := [(2, .int x_28), (1, .int 0), (0, .ref (ad 110))]) hx hb dX6_read_86 hl (k := 2) rfl (by rw [ex_28]; rfl) (by decide) rfl (fun ls hl => ?_)
                refine lv_goto (tgt := 18) hx hb dX6_read_89 (by decide) ?_
                exact ih _ _ _ h _ _ _ hW hS (lv_sub hl [2, 1, 0] rfl)
              · have h := it_f c_27 h
                refine lv_aload_n hx hb dX6_read_64 rfl (lv_at hl 0 rfl) ?_
                obtain ⟨r_30, S_31, hc_29, h⟩ := cl1_ex h
                refine g_cz (g_runV (ci := 6) (o := 110) (As := []) (rest := []) hx hb hml hown hts hK hN hT hS hW (c_X6_readAct hB h110 h111 hc_29) h110 kd_110 rfl (gw_V mw_684 mw_686 mw_20 mw_75 mw_687) hv_X6_readAct rfl rfl rfl (rm_ok (by decide) (by decide)) hl.1 (Nat.le_of_ble_eq_true rfl) dX6_read_65 rfl ⟨Nat.zero_le _, Nat.zero_le _⟩) hS (fun hz_32 H locs hW hS => ?_)
                refine lv_if_eq (tgt := 84) hx hb dX6_read_68 (by decide) (fun c_33 => ?_) (fun c_33 => ?_)
                · have h := it_t c_33 h
                  refine lv_iconst (v := 0) hx hb dX6_read_84 (by decide) ?_
                  refine lv_istore_n (lv' := [(1, .int 0), (0, .ref (ad 110)), (2, .int v2)]) hx hb dX6_read_85 rfl hl (by decide) rfl (fun ls hl => ?_)
                  obtain ⟨x_34, ex_34⟩ : ∃ z : Int32, z = v2 + 1 := ⟨_, rfl⟩
                  have h := bn_at ex_34 h
                  refine lv_iinc (v := x_34) (lv' := [(2, .int x_34), (1, .int 0), (0, .ref (ad 110))]) hx hb dX6_read_86 hl (k := 2) rfl (by rw [ex_34]; rfl) (by decide) rfl (fun ls hl => ?_)
                  refine lv_goto (tgt := 18) hx hb dX6_read_89 (by decide) ?_
                  exact ih _ _ _ h _ _ _ hW hS (lv_sub hl [2, 1, 0] rfl)
                · have h := it_f c_33 h
                  refine lv_aload_n hx hb dX6_read_71 rfl (lv_at hl 0 rfl) ?_
                  refine lv_bipush (v := 17) hx hb dX6_read_72 (by decide) ?_
                  obtain ⟨r_36, S_37, hc_35, h⟩ := cl1_ex h
                  refine g_cz (g_runV (ci := 6) (o := 110) (As := [.int 17]) (rest := []) hx hb hml hown hts hK hN hT hS hW (c_X6_take hB h110 h111 hc_35) h110 kd_110 rfl (gw_V mw_639 mw_641 mw_10 mw_75 mw_642) hv_X6_take rfl rfl rfl (rm_ok (by decide) (by decide)) hl.1 (Nat.le_of_ble_eq_true rfl) dX6_read_74 rfl ⟨Nat.zero_le _, Nat.zero_le _⟩) hS (fun hz_38 H locs hW hS => ?_)
                  refine lv_if_eq (tgt := 84) hx hb dX6_read_77 (by decide) (fun c_39 => ?_) (fun c_39 => ?_)
                  · have h := it_t c_39 h
                    refine lv_iconst (v := 0) hx hb dX6_read_84 (by decide) ?_
                    refine lv_istore_n (lv' := [(1, .int 0), (0, .ref (ad 110)), (2, .int v2)]) hx hb dX6_read_85 rfl hl (by decide) rfl (fun ls hl => ?_)
                    obtain ⟨x_40, ex_40⟩ : ∃ z : Int32, z = v2 + 1 := ⟨_, rfl⟩
                    have h := bn_at ex_40 h
                    refine lv_iinc (v := x_40) (lv' := [(2, .int x_40), (1, .int 0), (0, .ref (ad 110))]) hx hb dX6_read_86 hl (k := 2) rfl (by rw [ex_40]; rfl) (by decide) rfl (fun ls hl => ?_)
                    refine lv_goto (tgt := 18) hx hb dX6_read_89 (by decide) ?_
                    exact ih _ _ _ h _ _ _ hW hS (lv_sub hl [2, 1, 0] rfl)
                  · have h := it_f c_39 h
                    refine lv_iconst (v := 1) hx hb dX6_read_80 (by decide) ?_
                    refine lv_goto (tgt := 85) hx hb dX6_read_81 (by decide) ?_
                    refine lv_istore_n (lv' := [(1, .int 1), (0, .ref (ad 110)), (2, .int v2)]) hx hb dX6_read_85 rfl hl (by decide) rfl (fun ls hl => ?_)
                    obtain ⟨x_41, ex_41⟩ : ∃ z : Int32, z = v2 + 1 := ⟨_, rfl⟩
                    have h := bn_at ex_41 h
                    refine lv_iinc (v := x_41) (lv' := [(2, .int x_41), (1, .int 1), (0, .ref (ad 110))]) hx hb dX6_read_86 hl (k := 2) rfl (by rw [ex_41]; rfl) (by decide) rfl (fun ls hl => ?_)
                    refine lv_goto (tgt := 18) hx hb dX6_read_89 (by decide) ?_
                    exact ih _ _ _ h _ _ _ hW hS (lv_sub hl [2, 1, 0] rfl)
def f_X6_read (L : List Nat) (N : Nat) (S : St) : Option (Int32 × St) := oc (gr S 110 3) (none) fun n_1 => if oko L n_1 then (cl0 (f_X5_clear S n_1) fun S_5 => cl0 (f_X3_advance N S_5) fun S_7 => f_X6_read_l18 L N (fun S_42 x_43 => if x_43 = 0 then (some (0, S_42)) else (cl1 (f_X6_take N S_42 27) fun r_46 S_47 => if r_46 = 0 then (some (0, S_47)) else (some (1, S_47)))) N S_7 1 0) else none
set_option maxHeartbeats 4000000 in
theorem t_X6_read (C : MC p s m args meth c cX6_read 3 (some .boolean) RX6 g A) (hB : Lk L) (h110 : 110 ∈ L) (h111 : 111 ∈ L) {S : St} {r : Int32} {S9 : St} (h : f_X6_read L N S = some (r, S9)) {H : Heap} {locs : List Loc} {ls : Array Slot} (hW : GW g A ad L S H) (hS : va_S A s.heap H locs) (hl : lv_has ls 3 [(0, .ref (ad 110))]) : W p l e (rmk 233) s m args below meth c H locs 0 0 (MQ below (qz g A ad L r S9) args s 0 0 A) (F0 m 0 ls []) := by
  obtain ⟨hx, hb, hml, hown, hts, hr, hlocks, hK, hN, hT⟩ := id C
  unfold f_X6_read at h
  refine lv_aload_n hx hb dX6_read_0 rfl (lv_at hl 0 rfl) ?_
  refine g_get (C := RX6) (T := TX6) (N := 5) (ci := 6) hx hb hts inX6 hown hK hW h110 kd_110 rfl 3 (by decide) mw_474 rfl rfl dX6_read_1 ?_
  rcases hq_2 : (gr S 110 3) with _ | n_1
  · rw [hq_2] at h
    cases h
  · rw [hq_2] at h
    obtain ⟨hn_3, h⟩ := ck_t h
    refine W.eq (g2 := F0 m 4 ls (.ref (ad n_1) :: [])) rfl ?_
    obtain ⟨S_5, hc_4, h⟩ := cl0_ex h
    refine g_cv (g_runV (ci := 5) (o := n_1) (As := []) (rest := []) hx hb hml hown hts hK hN hT hS hW (c_X5_clear hB hn_3 hc_4) hn_3.2.2.1 (kd_ord hn_3) rfl (gw_V mw_491 mw_492 mw_493 mw_72 mw_494) hv_X5_clear rfl rfl rfl (rm_ok (by decide) (by decide)) hl.1 (Nat.le_of_ble_eq_true rfl) dX6_read_4 rfl ⟨Nat.zero_le _, Nat.zero_le _⟩) hS (fun H locs hW hS => ?_)
    refine lv_aload_n hx hb dX6_read_7 rfl (lv_at hl 0 rfl) ?_
    refine g_get (C := RX6) (T := TX6) (N := 5) (ci := 6) hx hb hts inX6 hown hK hW h110 kd_110 rfl 2 (by decide) mw_473 rfl rfl dX6_read_8 ?_
    obtain ⟨S_7, hc_6, h⟩ := cl0_ex h
    refine g_cv (g_runV (ci := 3) (o := 111) (As := []) (rest := []) hx hb hml hown hts hK hN hT hS hW (c_X3_advance hB h111 hc_6) h111 kd_111 rfl (gw_V mw_495 mw_496 mw_497 mw_76 mw_498) hv_X3_advance rfl rfl rfl (rm_ok (by decide) (by decide)) hl.1 (Nat.le_of_ble_eq_true rfl) dX6_read_11 rfl ⟨Nat.zero_le _, Nat.zero_le _⟩) hS (fun H locs hW hS => ?_)
    refine lv_iconst (v := 1) hx hb dX6_read_14 (by decide) ?_
    refine lv_istore_n (lv' := [(1, .int 1), (0, .ref (ad 110))]) hx hb dX6_read_15 rfl hl (by decide) rfl (fun ls hl => ?_)
    refine lv_iconst (v := 0) hx hb dX6_read_16 (by decide) ?_
    refine lv_istore_n (lv' := [(2, .int 0), (1, .int 1), (0, .ref (ad 110))]) hx hb dX6_read_17 rfl hl (by decide) rfl (fun ls hl => ?_)
    refine t_X6_read_l18 C hB h110 h111 ?_ _ _ _ _ h _ _ _ hW hS (lv_sub hl [2, 1, 0] rfl)
    intro S_42 x_43 h H locs ls hW hS hl
    refine lv_iload_n hx hb dX6_read_92 rfl (lv_at hl 1 rfl) ?_
    refine lv_if_eq (tgt := 109) hx hb dX6_read_93 (by decide) (fun c_44 => ?_) (fun c_44 => ?_)
    · have h := it_t c_44 h
      refine lv_iconst (v := 0) hx hb dX6_read_109 (by decide) ?_
      cases h
      exact g_zret hx hb hr hlocks hW hS (rfl) dX6_read_110
    · have h := it_f c_44 h
      refine lv_aload_n hx hb dX6_read_96 rfl (lv_at hl 0 rfl) ?_
      refine lv_bipush (v := 27) hx hb dX6_read_97 (by decide) ?_
      obtain ⟨r_46, S_47, hc_45, h⟩ := cl1_ex h
      refine g_cz (g_runV (ci := 6) (o := 110) (As := [.int 27]) (rest := []) hx hb hml hown hts hK hN hT hS hW (c_X6_take hB h110 h111 hc_45) h110 kd_110 rfl (gw_V mw_639 mw_641 mw_10 mw_75 mw_642) hv_X6_take rfl rfl rfl (rm_ok (by decide) (by decide)) hl.1 (Nat.le_of_ble_eq_true rfl) dX6_read_99 rfl ⟨Nat.zero_le _, Nat.zero_le _⟩) hS (fun hz_48 H locs hW hS => ?_)
      refine lv_if_eq (tgt := 109) hx hb dX6_read_102 (by decide) (fun c_49 => ?_) (fun c_49 => ?_)
      · have h := it_t c_49 h
        refine lv_iconst (v := 0) hx hb dX6_read_109 (by decide) ?_
        cases h
        exact g_zret hx hb hr hlocks hW hS (rfl) dX6_read_110
      · have h := it_f c_49 h
        refine lv_iconst (v := 1) hx hb dX6_read_105 (by decide) ?_
        refine lv_goto (tgt := 110) hx hb dX6_read_106 (by decide) ?_
        cases h
        exact g_zret hx hb hr hlocks hW hS (rfl) dX6_read_110
theorem c_X6_read (hB : Lk L) (h110 : 110 ∈ L) (h111 : 111 ∈ L) {S : St} {r : Int32} {S9 : St} (h : f_X6_read L N S = some (r, S9)) : Met l yX6_read (gws yX6_read cX6_read 3 (some .boolean)) (rmk 233) (va_Pc [.ref (ad 110)] (WU g A ad L S)) (qz g A ad L r S9) 0 0 A :=
  g_met [.ref (ad 110)] (by decide) (Nat.le_of_ble_eq_true rfl) (fun p e s m below meth c ls C hW hl _ => t_X6_read C hB h110 h111 h hW va_S.rf hl)
theorem hv_X6_read : yX6_read.cls = RX6 ∧ yX6_read.cls ≠ "java/lang/invoke/MethodHandle" ∧ yX6_read.cls ≠ "java/lang/invoke/VarHandle" ∧ (parseMethodDescriptor yX6_read.desc).map (fun d => d.parameters.length) = some 0 := by decide +kernel
end S33
