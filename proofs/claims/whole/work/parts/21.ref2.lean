section S21
variable {p : Program} {l : Launch} {e : Env} {s : State} {m : MethodId} {args : Array Value} {below : List Frame} {meth : Method} {c : Code} {A : Nat → Prop} {g : Cx} {ad : Nat → Nat} {L : List Nat} {N : Nat} {q0 : Nat}
/-! DroveRoadsModel.here -/
def f_X11_here (S : St) (p1 : Int32) : Option (Int32) := if (gv S 200 41) ≤ ((gv S 200 40) + p1) then (some (-1)) else (if ((gv S 200 40) + p1) < 0 ∨ 500 ≤ ix ((gv S 200 40) + p1) then none else some (gv S 237 (ix ((gv S 200 40) + p1))))
set_option maxHeartbeats 4000000 in
theorem t_X11_here (C : MC p s m args meth c cX11_here 2 (some .int) RX11 g A) (hB : Lk L) {S : St} {r : Int32} {p1 : Int32} (h : f_X11_here S p1 = some r) {H : Heap} {locs : List Loc} {ls : Array Slot} (hW : GW g A ad L S H) (hS : va_S A s.heap H locs) (hl : lv_has ls 2 [(0, .ref (ad 200)), (1, .int p1)]) : W p l e (rmk 1) s m args below meth c H locs 0 0 (MQ below (qi g A ad L r S) args s 0 0 A) (F0 m 0 ls []) := by
  obtain ⟨hx, hb, hml, hown, hts, hr, hlocks, hK, hN, hT⟩ := id C
  unfold f_X11_here at h
  refine lv_aload_n hx hb dX11_here_0 rfl (lv_at hl 0 rfl) ?_
  refine g_get (C := RX11) (T := TX11) (N := 67) (ci := 11) hx hb hts inX11 hown hK hW (hB 200 bb_200) kd_200 rfl 40 (by decide) mw_1001 rfl rfl dX11_here_1 ?_
  refine lv_iload_n hx hb dX11_here_4 rfl (lv_at hl 1 rfl) ?_
  refine lv_iadd hx hb dX11_here_5 ?_
  refine lv_aload_n hx hb dX11_here_6 rfl (lv_at hl 0 rfl) ?_
  refine g_get (C := RX11) (T := TX11) (N := 67) (ci := 11) hx hb hts inX11 hown hK hW (hB 200 bb_200) kd_200 rfl 41 (by decide) mw_1002 rfl rfl dX11_here_7 ?_
  refine lv_icmp_ge (tgt := 27) hx hb dX11_here_10 (by decide) (fun c_1 => ?_) (fun c_1 => ?_)
  · have h := it_t c_1 h
    refine lv_iconst (v := (-1)) hx hb dX11_here_27 (by decide) ?_
    cases h
    exact g_iret hx hb hr hlocks hW hS dX11_here_28
  · have h := it_f c_1 h
    refine lv_aload_n hx hb dX11_here_13 rfl (lv_at hl 0 rfl) ?_
    refine g_get (C := RX11) (T := TX11) (N := 67) (ci := 11) hx hb hts inX11 hown hK hW (hB 200 bb_200) kd_200 rfl 36 (by decide) mw_997 rfl rfl dX11_here_14 ?_
    refine lv_aload_n hx hb dX11_here_17 rfl (lv_at hl 0 rfl) ?_
    refine g_get (C := RX11) (T := TX11) (N := 67) (ci := 11) hx hb hts inX11 hown hK hW (hB 200 bb_200) kd_200 rfl 40 (by decide) mw_1001 rfl rfl dX11_here_18 ?_
    refine lv_iload_n hx hb dX11_here_21 rfl (lv_at hl 1 rfl) ?_
    refine lv_iadd hx hb dX11_here_22 ?_
    obtain ⟨hi_2, h⟩ := ck_n h
    refine g_iald hx hb hK hW (hB 237 bb_237) kd_237 hi_2 dX11_here_23 ?_
    refine lv_goto (tgt := 28) hx hb dX11_here_24 (by decide) ?_
    cases h
    exact g_iret hx hb hr hlocks hW hS dX11_here_28
theorem c_X11_here (hB : Lk L) {S : St} {r : Int32} {p1 : Int32} (h : f_X11_here S p1 = some r) : Met l yX11_here (gws yX11_here cX11_here 2 (some .int)) (rmk 1) (va_Pc [.ref (ad 200), .int p1] (WU g A ad L S)) (qi g A ad L r S) 0 0 A :=
  g_met [.ref (ad 200), .int p1] (by decide) (Nat.le_of_ble_eq_true rfl) (fun p e s m below meth c ls C hW hl _ => t_X11_here C hB h hW va_S.rf hl)
theorem hv_X11_here : yX11_here.cls = RX11 ∧ yX11_here.cls ≠ "java/lang/invoke/MethodHandle" ∧ yX11_here.cls ≠ "java/lang/invoke/VarHandle" ∧ (parseMethodDescriptor yX11_here.desc).map (fun d => d.parameters.length) = some 1 := by decide +kernel
/-! DroveRoadsModel.isLetter -/
def f_X11_isLetter (S : St) (p1 : Int32) : Option (Int32) := if p1 < 97 then (some 0) else (if 122 < p1 then (some 0) else (some 1))
set_option maxHeartbeats 4000000 in
theorem t_X11_isLetter (C : MC p s m args meth c cX11_isLetter 1 (some .boolean) RX11 g A) (hB : Lk L) {S : St} {r : Int32} {p1 : Int32} (h : f_X11_isLetter S p1 = some r) {H : Heap} {locs : List Loc} {ls : Array Slot} (hW : GW g A ad L S H) (hS : va_S A s.heap H locs) (hl : lv_has ls 1 [(0, .int p1)]) : W p l e (rmk 1) s m args below meth c H locs 0 0 (MQ below (qz g A ad L r S) args s 0 0 A) (F0 m 0 ls []) := by
  obtain ⟨hx, hb, hml, hown, hts, hr, hlocks, hK, hN, hT⟩ := id C
  unfold f_X11_isLetter at h
  refine lv_iload_n hx hb dX11_isLetter_0 rfl (lv_at hl 0 rfl) ?_
  refine lv_bipush (v := 97) hx hb dX11_isLetter_1 (by decide) ?_
  refine lv_icmp_lt (tgt := 16) hx hb dX11_isLetter_3 (by decide) (fun c_1 => ?_) (fun c_1 => ?_)
  · have h := it_t c_1 h
    refine lv_iconst (v := 0) hx hb dX11_isLetter_16 (by decide) ?_
    cases h
    exact g_zret hx hb hr hlocks hW hS (rfl) dX11_isLetter_17
  · have h := it_f c_1 h
    refine lv_iload_n hx hb dX11_isLetter_6 rfl (lv_at hl 0 rfl) ?_
    refine lv_bipush (v := 122) hx hb dX11_isLetter_7 (by decide) ?_
    refine lv_icmp_gt (tgt := 16) hx hb dX11_isLetter_9 (by decide) (fun c_2 => ?_) (fun c_2 => ?_)
    · have h := it_t c_2 h
      refine lv_iconst (v := 0) hx hb dX11_isLetter_16 (by decide) ?_
      cases h
      exact g_zret hx hb hr hlocks hW hS (rfl) dX11_isLetter_17
    · have h := it_f c_2 h
      refine lv_iconst (v := 1) hx hb dX11_isLetter_12 (by decide) ?_
      refine lv_goto (tgt := 17) hx hb dX11_isLetter_13 (by decide) ?_
      cases h
      exact g_zret hx hb hr hlocks hW hS (rfl) dX11_isLetter_17
theorem c_X11_isLetter (hB : Lk L) {S : St} {r : Int32} {p1 : Int32} (h : f_X11_isLetter S p1 = some r) : Met l yX11_isLetter (gws yX11_isLetter cX11_isLetter 1 (some .boolean)) (rmk 1) (va_Pc [.int p1] (WU g A ad L S)) (qz g A ad L r S) 0 0 A :=
  g_met [.int p1] (by decide) (Nat.le_of_ble_eq_true rfl) (fun p e s m below meth c ls C hW hl _ => t_X11_isLetter C hB h hW va_S.rf hl)
theorem hs_X11_isLetter : yX11_isLetter.cls ≠ "java/lang/invoke/MethodHandle" ∧ yX11_isLetter.cls ≠ "java/lang/invoke/VarHandle" ∧ (parseMethodDescriptor yX11_isLetter.desc).map (fun d => d.parameters.length) = some 1 := by decide +kernel
/-! DroveRoadsModel.isDigit -/
def f_X11_isDigit (S : St) (p1 : Int32) : Option (Int32) := if p1 < 48 then (some 0) else (if 57 < p1 then (some 0) else (some 1))
set_option maxHeartbeats 4000000 in
theorem t_X11_isDigit (C : MC p s m args meth c cX11_isDigit 1 (some .boolean) RX11 g A) (hB : Lk L) {S : St} {r : Int32} {p1 : Int32} (h : f_X11_isDigit S p1 = some r) {H : Heap} {locs : List Loc} {ls : Array Slot} (hW : GW g A ad L S H) (hS : va_S A s.heap H locs) (hl : lv_has ls 1 [(0, .int p1)]) : W p l e (rmk 1) s m args below meth c H locs 0 0 (MQ below (qz g A ad L r S) args s 0 0 A) (F0 m 0 ls []) := by
  obtain ⟨hx, hb, hml, hown, hts, hr, hlocks, hK, hN, hT⟩ := id C
  unfold f_X11_isDigit at h
  refine lv_iload_n hx hb dX11_isDigit_0 rfl (lv_at hl 0 rfl) ?_
  refine lv_bipush (v := 48) hx hb dX11_isDigit_1 (by decide) ?_
  refine lv_icmp_lt (tgt := 16) hx hb dX11_isDigit_3 (by decide) (fun c_1 => ?_) (fun c_1 => ?_)
  · have h := it_t c_1 h
    refine lv_iconst (v := 0) hx hb dX11_isDigit_16 (by decide) ?_
    cases h
    exact g_zret hx hb hr hlocks hW hS (rfl) dX11_isDigit_17
  · have h := it_f c_1 h
    refine lv_iload_n hx hb dX11_isDigit_6 rfl (lv_at hl 0 rfl) ?_
    refine lv_bipush (v := 57) hx hb dX11_isDigit_7 (by decide) ?_
    refine lv_icmp_gt (tgt := 16) hx hb dX11_isDigit_9 (by decide) (fun c_2 => ?_) (fun c_2 => ?_)
    · have h := it_t c_2 h
      refine lv_iconst (v := 0) hx hb dX11_isDigit_16 (by decide) ?_
      cases h
      exact g_zret hx hb hr hlocks hW hS (rfl) dX11_isDigit_17
    · have h := it_f c_2 h
      refine lv_iconst (v := 1) hx hb dX11_isDigit_12 (by decide) ?_
      refine lv_goto (tgt := 17) hx hb dX11_isDigit_13 (by decide) ?_
      cases h
      exact g_zret hx hb hr hlocks hW hS (rfl) dX11_isDigit_17
theorem c_X11_isDigit (hB : Lk L) {S : St} {r : Int32} {p1 : Int32} (h : f_X11_isDigit S p1 = some r) : Met l yX11_isDigit (gws yX11_isDigit cX11_isDigit 1 (some .boolean)) (rmk 1) (va_Pc [.int p1] (WU g A ad L S)) (qz g A ad L r S) 0 0 A :=
  g_met [.int p1] (by decide) (Nat.le_of_ble_eq_true rfl) (fun p e s m below meth c ls C hW hl _ => t_X11_isDigit C hB h hW va_S.rf hl)
theorem hs_X11_isDigit : yX11_isDigit.cls ≠ "java/lang/invoke/MethodHandle" ∧ yX11_isDigit.cls ≠ "java/lang/invoke/VarHandle" ∧ (parseMethodDescriptor yX11_isDigit.desc).map (fun d => d.parameters.length) = some 1 := by decide +kernel
/-! DroveRoadsModel.isSign -/
def f_X11_isSign (S : St) (p1 : Int32) : Option (Int32) := if p1 = 59 then (some 1) else (if p1 = 61 then (some 1) else (if p1 = 60 then (some 1) else (if p1 = 62 then (some 1) else (if p1 = 43 then (some 1) else (if p1 = 45 then (some 1) else (if p1 = 40 then (some 1) else (if p1 = 41 then (some 1) else (some 0))))))))
set_option maxHeartbeats 4000000 in
theorem t_X11_isSign (C : MC p s m args meth c cX11_isSign 1 (some .boolean) RX11 g A) (hB : Lk L) {S : St} {r : Int32} {p1 : Int32} (h : f_X11_isSign S p1 = some r) {H : Heap} {locs : List Loc} {ls : Array Slot} (hW : GW g A ad L S H) (hS : va_S A s.heap H locs) (hl : lv_has ls 1 [(0, .int p1)]) : W p l e (rmk 1) s m args below meth c H locs 0 0 (MQ below (qz g A ad L r S) args s 0 0 A) (F0 m 0 ls []) := by
  obtain ⟨hx, hb, hml, hown, hts, hr, hlocks, hK, hN, hT⟩ := id C
  unfold f_X11_isSign at h
  refine lv_iload_n hx hb dX11_isSign_0 rfl (lv_at hl 0 rfl) ?_
  refine lv_bipush (v := 59) hx hb dX11_isSign_1 (by decide) ?_
  refine lv_icmp_eq (tgt := 48) hx hb dX11_isSign_3 (by decide) (fun c_1 => ?_) (fun c_1 => ?_)
  · have h := it_t c_1 h
    refine lv_iconst (v := 1) hx hb dX11_isSign_48 (by decide) ?_
    refine lv_goto (tgt := 53) hx hb dX11_isSign_49 (by decide) ?_
    cases h
    exact g_zret hx hb hr hlocks hW hS (rfl) dX11_isSign_53
  · have h := it_f c_1 h
    refine lv_iload_n hx hb dX11_isSign_6 rfl (lv_at hl 0 rfl) ?_
    refine lv_bipush (v := 61) hx hb dX11_isSign_7 (by decide) ?_
    refine lv_icmp_eq (tgt := 48) hx hb dX11_isSign_9 (by decide) (fun c_2 => ?_) (fun c_2 => ?_)
    · have h := it_t c_2 h
      refine lv_iconst (v := 1) hx hb dX11_isSign_48 (by decide) ?_
      refine lv_goto (tgt := 53) hx hb dX11_isSign_49 (by decide) ?_
      cases h
      exact g_zret hx hb hr hlocks hW hS (rfl) dX11_isSign_53
    · have h := it_f c_2 h
      refine lv_iload_n hx hb dX11_isSign_12 rfl (lv_at hl 0 rfl) ?_
      refine lv_bipush (v := 60) hx hb dX11_isSign_13 (by decide) ?_
      refine lv_icmp_eq (tgt := 48) hx hb dX11_isSign_15 (by decide) (fun c_3 => ?_) (fun c_3 => ?_)
      · have h := it_t c_3 h
        refine lv_iconst (v := 1) hx hb dX11_isSign_48 (by decide) ?_
        refine lv_goto (tgt := 53) hx hb dX11_isSign_49 (by decide) ?_
        cases h
        exact g_zret hx hb hr hlocks hW hS (rfl) dX11_isSign_53
      · have h := it_f c_3 h
        refine lv_iload_n hx hb dX11_isSign_18 rfl (lv_at hl 0 rfl) ?_
        refine lv_bipush (v := 62) hx hb dX11_isSign_19 (by decide) ?_
        refine lv_icmp_eq (tgt := 48) hx hb dX11_isSign_21 (by decide) (fun c_4 => ?_) (fun c_4 => ?_)
        · have h := it_t c_4 h
          refine lv_iconst (v := 1) hx hb dX11_isSign_48 (by decide) ?_
          refine lv_goto (tgt := 53) hx hb dX11_isSign_49 (by decide) ?_
          cases h
          exact g_zret hx hb hr hlocks hW hS (rfl) dX11_isSign_53
        · have h := it_f c_4 h
          refine lv_iload_n hx hb dX11_isSign_24 rfl (lv_at hl 0 rfl) ?_
          refine lv_bipush (v := 43) hx hb dX11_isSign_25 (by decide) ?_
          refine lv_icmp_eq (tgt := 48) hx hb dX11_isSign_27 (by decide) (fun c_5 => ?_) (fun c_5 => ?_)
          · have h := it_t c_5 h
            refine lv_iconst (v := 1) hx hb dX11_isSign_48 (by decide) ?_
            refine lv_goto (tgt := 53) hx hb dX11_isSign_49 (by decide) ?_
            cases h
            exact g_zret hx hb hr hlocks hW hS (rfl) dX11_isSign_53
          · have h := it_f c_5 h
            refine lv_iload_n hx hb dX11_isSign_30 rfl (lv_at hl 0 rfl) ?_
            refine lv_bipush (v := 45) hx hb dX11_isSign_31 (by decide) ?_
            refine lv_icmp_eq (tgt := 48) hx hb dX11_isSign_33 (by decide) (fun c_6 => ?_) (fun c_6 => ?_)
            · have h := it_t c_6 h
              refine lv_iconst (v := 1) hx hb dX11_isSign_48 (by decide) ?_
              refine lv_goto (tgt := 53) hx hb dX11_isSign_49 (by decide) ?_
              cases h
              exact g_zret hx hb hr hlocks hW hS (rfl) dX11_isSign_53
            · have h := it_f c_6 h
              refine lv_iload_n hx hb dX11_isSign_36 rfl (lv_at hl 0 rfl) ?_
              refine lv_bipush (v := 40) hx hb dX11_isSign_37 (by decide) ?_
              refine lv_icmp_eq (tgt := 48) hx hb dX11_isSign_39 (by decide) (fun c_7 => ?_) (fun c_7 => ?_)
              · have h := it_t c_7 h
                refine lv_iconst (v := 1) hx hb dX11_isSign_48 (by decide) ?_
                refine lv_goto (tgt := 53) hx hb dX11_isSign_49 (by decide) ?_
                cases h
                exact g_zret hx hb hr hlocks hW hS (rfl) dX11_isSign_53
              · have h := it_f c_7 h
                refine lv_iload_n hx hb dX11_isSign_42 rfl (lv_at hl 0 rfl) ?_
                refine lv_bipush (v := 41) hx hb dX11_isSign_43 (by decide) ?_
                refine lv_icmp_ne (tgt := 52) hx hb dX11_isSign_45 (by decide) (fun c_8 => ?_) (fun c_8 => ?_)
                · have h := it_f c_8 h
                  refine lv_iconst (v := 0) hx hb dX11_isSign_52 (by decide) ?_
                  cases h
                  exact g_zret hx hb hr hlocks hW hS (rfl) dX11_isSign_53
                · have h := it_t c_8 h
                  refine lv_iconst (v := 1) hx hb dX11_isSign_48 (by decide) ?_
                  refine lv_goto (tgt := 53) hx hb dX11_isSign_49 (by decide) ?_
                  cases h
                  exact g_zret hx hb hr hlocks hW hS (rfl) dX11_isSign_53
theorem c_X11_isSign (hB : Lk L) {S : St} {r : Int32} {p1 : Int32} (h : f_X11_isSign S p1 = some r) : Met l yX11_isSign (gws yX11_isSign cX11_isSign 1 (some .boolean)) (rmk 1) (va_Pc [.int p1] (WU g A ad L S)) (qz g A ad L r S) 0 0 A :=
  g_met [.int p1] (by decide) (Nat.le_of_ble_eq_true rfl) (fun p e s m below meth c ls C hW hl _ => t_X11_isSign C hB h hW va_S.rf hl)
theorem hs_X11_isSign : yX11_isSign.cls ≠ "java/lang/invoke/MethodHandle" ∧ yX11_isSign.cls ≠ "java/lang/invoke/VarHandle" ∧ (parseMethodDescriptor yX11_isSign.desc).map (fun d => d.parameters.length) = some 1 := by decide +kernel
/-! DroveRoadsModel.next -/
def f_X11_next_l0 (N : Nat) (k : St → Option (St)) : Nat → St → Option (St)
  | 0, _ => none
  | n + 1, S => cl0 (f_X11_here S 0) fun r_2 => if r_2 = 32 then (bn (sv S 200 40 ((gv S 200 40) + 1)) fun S_4 => f_X11_next_l0 N k n S_4) else (cl0 (f_X11_here S 0) fun r_6 => if r_6 = 10 then (bn (sv S 200 40 ((gv S 200 40) + 1)) fun S_8 => f_X11_next_l0 N k n S_8) else (k S))
set_option maxHeartbeats 4000000 in
theorem t_X11_next_l0 (C : MC p s m args meth c cX11_next 3 none RX11 g A) (hB : Lk L) {S9 : St} {k : St → Option (St)} (hk : ∀ (S : St), k S = some S9 → ∀ (H : Heap) (locs : List Loc) (ls : Array Slot), GW g A ad L S H → va_S A s.heap H locs → lv_has ls 3 [(0, .ref (ad 200))] → W p l e (rmk 2) s m args below meth c H locs 0 0 (MQ below (qv g A ad L S9) args s 0 0 A) (F0 m 33 ls [])) : ∀ (n : Nat) (S : St), f_X11_next_l0 N k n S = some S9 → ∀ (H : Heap) (locs : List Loc) (ls : Array Slot), GW g A ad L S H → va_S A s.heap H locs → lv_has ls 3 [(0, .ref (ad 200))] → W p l e (rmk 2) s m args below meth c H locs 0 0 (MQ below (qv g A ad L S9) args s 0 0 A) (F0 m 0 ls []) := by
  obtain ⟨hx, hb, hml, hown, hts, hr, hlocks, hK, hN, hT⟩ := id C
  intro n
  induction n with
  | zero =>
    intro S h
    have h : (none : Option (St)) = some S9 := h
    cases h
  | succ n ih =>
    intro S h H locs ls hW hS hl
    rw [f_X11_next_l0] at h
    refine lv_aload_n hx hb dX11_next_0 rfl (lv_at hl 0 rfl) ?_
    refine lv_iconst (v := 0) hx hb dX11_next_1 (by decide) ?_
    obtain ⟨r_2, hc_1, h⟩ := cl0_ex h
    refine g_ci (g_runV (ci := 11) (o := 200) (As := [.int 0]) (rest := []) hx hb hml hown hts hK hN hT hS hW (c_X11_here hB hc_1) (hB 200 bb_200) kd_200 rfl (gw_V mw_1240 mw_1242 mw_42 mw_73 mw_1243) hv_X11_here rfl rfl rfl (rm_ok (by decide) (by decide)) hl.1 (Nat.le_of_ble_eq_true rfl) dX11_next_2 rfl ⟨Nat.zero_le _, Nat.zero_le _⟩) hS (fun H locs hW hS => ?_)
    refine lv_bipush (v := 32) hx hb dX11_next_5 (by decide) ?_
    refine lv_icmp_eq (tgt := 20) hx hb dX11_next_7 (by decide) (fun c_3 => ?_) (fun c_3 => ?_)
    · have h := it_t c_3 h
      refine lv_aload_n hx hb dX11_next_20 rfl (lv_at hl 0 rfl) ?_
      refine lv_dup hx hb dX11_next_21 rfl ?_
      refine g_get (C := RX11) (T := TX11) (N := 67) (ci := 11) hx hb hts inX11 hown hK hW (hB 200 bb_200) kd_200 rfl 40 (by decide) mw_1001 rfl rfl dX11_next_22 ?_
      refine lv_iconst (v := 1) hx hb dX11_next_25 (by decide) ?_
      refine lv_iadd hx hb dX11_next_26 ?_
      refine g_put (C := RX11) (T := TX11) (N := 67) (ci := 11) hx hb hts inX11 tyX11 tyX11_ok nmX11 hown hK hW hS (hB 200 bb_200) kd_200 rfl 40 (by decide) mw_1001 rfl rfl rfl rfl (Nat.le_of_ble_eq_true rfl) (sv S 200 40 ((gv S 200 40) + 1)) (ps_200_40) cellOf_sv dX11_next_27 (fun S_4 eS_4 H locs hW hS => ?_)
      have h := bn_at eS_4 h
      refine lv_goto (tgt := 0) hx hb dX11_next_30 (by decide) ?_
      exact ih _ h _ _ _ hW hS (lv_sub hl [0] rfl)
    · have h := it_f c_3 h
      refine lv_aload_n hx hb dX11_next_10 rfl (lv_at hl 0 rfl) ?_
      refine lv_iconst (v := 0) hx hb dX11_next_11 (by decide) ?_
      obtain ⟨r_6, hc_5, h⟩ := cl0_ex h
      refine g_ci (g_runV (ci := 11) (o := 200) (As := [.int 0]) (rest := []) hx hb hml hown hts hK hN hT hS hW (c_X11_here hB hc_5) (hB 200 bb_200) kd_200 rfl (gw_V mw_1240 mw_1242 mw_42 mw_73 mw_1243) hv_X11_here rfl rfl rfl (rm_ok (by decide) (by decide)) hl.1 (Nat.le_of_ble_eq_true rfl) dX11_next_12 rfl ⟨Nat.zero_le _, Nat.zero_le _⟩) hS (fun H locs hW hS => ?_)
      refine lv_bipush (v := 10) hx hb dX11_next_15 (by decide) ?_
      refine lv_icmp_ne (tgt := 33) hx hb dX11_next_17 (by decide) (fun c_7 => ?_) (fun c_7 => ?_)
      · have h := it_f c_7 h
        exact hk _ h _ _ _ hW hS (lv_sub hl [0] rfl)
      · have h := it_t c_7 h
        refine lv_aload_n hx hb dX11_next_20 rfl (lv_at hl 0 rfl) ?_
        refine lv_dup hx hb dX11_next_21 rfl ?_
        refine g_get (C := RX11) (T := TX11) (N := 67) (ci := 11) hx hb hts inX11 hown hK hW (hB 200 bb_200) kd_200 rfl 40 (by decide) mw_1001 rfl rfl dX11_next_22 ?_
        refine lv_iconst (v := 1) hx hb dX11_next_25 (by decide) ?_
        refine lv_iadd hx hb dX11_next_26 ?_
        refine g_put (C := RX11) (T := TX11) (N := 67) (ci := 11) hx hb hts inX11 tyX11 tyX11_ok nmX11 hown hK hW hS (hB 200 bb_200) kd_200 rfl 40 (by decide) mw_1001 rfl rfl rfl rfl (Nat.le_of_ble_eq_true rfl) (sv S 200 40 ((gv S 200 40) + 1)) (ps_200_40) cellOf_sv dX11_next_27 (fun S_8 eS_8 H locs hW hS => ?_)
        have h := bn_at eS_8 h
        refine lv_goto (tgt := 0) hx hb dX11_next_30 (by decide) ?_
        exact ih _ h _ _ _ hW hS (lv_sub hl [0] rfl)
def f_X11_next_l144 (N : Nat) (k : St → Int32 → Option (St)) : Nat → St → Int32 → Option (St)
  | 0, _, _ => none
  | n + 1, S, v2 => cl0 (f_X11_here S v2) fun r_35 => cl0 (f_X11_isDigit S r_35) fun r_37 => if r_37 = 0 then (k S v2) else (if 6 ≤ v2 then (bn (v2 + 1) fun x_41 => f_X11_next_l144 N k n S x_41) else (cl0 (f_X11_here S v2) fun r_43 => bn (sv S 200 44 (((10 * (gv S 200 44)) + r_43) - 48)) fun S_44 => bn (v2 + 1) fun x_45 => f_X11_next_l144 N k n S_44 x_45))
set_option maxHeartbeats 4000000 in
theorem t_X11_next_l144 (C : MC p s m args meth c cX11_next 3 none RX11 g A) (hB : Lk L) {S9 : St} {k : St → Int32 → Option (St)} (hk : ∀ (S : St) (w2 : Int32), k S w2 = some S9 → ∀ (H : Heap) (locs : List Loc) (ls : Array Slot), GW g A ad L S H → va_S A s.heap H locs → lv_has ls 3 [(0, .ref (ad 200)), (2, .int w2)] → W p l e (rmk 2) s m args below meth c H locs 0 0 (MQ below (qv g A ad L S9) args s 0 0 A) (F0 m 187 ls [])) : ∀ (n : Nat) (S : St) (v2 : Int32), f_X11_next_l144 N k n S v2 = some S9 → ∀ (H : Heap) (locs : List Loc) (ls : Array Slot), GW g A ad L S H → va_S A s.heap H locs → lv_has ls 3 [(0, .ref (ad 200)), (2, .int v2)] → W p l e (rmk 2) s m args below meth c H locs 0 0 (MQ below (qv g A ad L S9) args s 0 0 A) (F0 m 144 ls []) := by
  obtain ⟨hx, hb, hml, hown, hts, hr, hlocks, hK, hN, hT⟩ := id C
  intro n
  induction n with
  | zero =>
    intro S v2 h
    have h : (none : Option (St)) = some S9 := h
    cases h
  | succ n ih =>
    intro S v2 h H locs ls hW hS hl
    rw [f_X11_next_l144] at h
    refine lv_aload_n hx hb dX11_next_144 rfl (lv_at hl 0 rfl) ?_
    refine lv_iload_n hx hb dX11_next_145 rfl (lv_at hl 1 rfl) ?_
    obtain ⟨r_35, hc_34, h⟩ := cl0_ex h
    refine g_ci (g_runV (ci := 11) (o := 200) (As := [.int v2]) (rest := []) hx hb hml hown hts hK hN hT hS hW (c_X11_here hB hc_34) (hB 200 bb_200) kd_200 rfl (gw_V mw_1240 mw_1242 mw_42 mw_73 mw_1243) hv_X11_here rfl rfl rfl (rm_ok (by decide) (by decide)) hl.1 (Nat.le_of_ble_eq_true rfl) dX11_next_146 rfl ⟨Nat.zero_le _, Nat.zero_le _⟩) hS (fun H locs hW hS => ?_)
    obtain ⟨r_37, hc_36, h⟩ := cl0_ex h
    refine g_cz (g_runS (As := [.int r_35]) (rest := []) hx hb hml hown hts hK hN hT hS hW (c_X11_isDigit hB hc_36) (gw_S mw_1247 mw_1248 mw_73 mw_1249) hs_X11_isDigit rfl rfl rfl (rm_ok (by decide) (by decide)) hl.1 (Nat.le_of_ble_eq_true rfl) dX11_next_149 rfl ⟨Nat.zero_le _, Nat.zero_le _⟩) hS (fun hz_38 H locs hW hS => ?_)
    refine lv_if_eq (tgt := 187) hx hb dX11_next_152 (by decide) (fun c_39 => ?_) (fun c_39 => ?_)
    · have h := it_t c_39 h
      exact hk _ _ h _ _ _ hW hS (lv_sub hl [0, 1] rfl)
    · have h := it_f c_39 h
      refine lv_iload_n hx hb dX11_next_155 rfl (lv_at hl 1 rfl) ?_
      refine lv_bipush (v := 6) hx hb dX11_next_156 (by decide) ?_
      refine lv_icmp_ge (tgt := 181) hx hb dX11_next_158 (by decide) (fun c_40 => ?_) (fun c_40 => ?_)
      · have h := it_t c_40 h
        obtain ⟨x_41, ex_41⟩ : ∃ z : Int32, z = v2 + 1 := ⟨_, rfl⟩
        have h := bn_at ex_41 h
        refine lv_iinc (v := x_41) (lv' := [(2, .int x_41), (0, .ref (ad 200))]) hx hb dX11_next_181 hl (k := 1) rfl (by rw [ex_41]; rfl) (by decide) rfl (fun ls hl => ?_)
        refine lv_goto (tgt := 144) hx hb dX11_next_184 (by decide) ?_
        exact ih _ _ h _ _ _ hW hS (lv_sub hl [1, 0] rfl)
      · have h := it_f c_40 h
        refine lv_aload_n hx hb dX11_next_161 rfl (lv_at hl 0 rfl) ?_
        refine lv_bipush (v := 10) hx hb dX11_next_162 (by decide) ?_
        refine lv_aload_n hx hb dX11_next_164 rfl (lv_at hl 0 rfl) ?_
        refine g_get (C := RX11) (T := TX11) (N := 67) (ci := 11) hx hb hts inX11 hown hK hW (hB 200 bb_200) kd_200 rfl 44 (by decide) mw_1005 rfl rfl dX11_next_165 ?_
        refine lv_imul hx hb dX11_next_168 ?_
        refine lv_aload_n hx hb dX11_next_169 rfl (lv_at hl 0 rfl) ?_
        refine lv_iload_n hx hb dX11_next_170 rfl (lv_at hl 1 rfl) ?_
        obtain ⟨r_43, hc_42, h⟩ := cl0_ex h
        refine g_ci (g_runV (ci := 11) (o := 200) (As := [.int v2]) (rest := [.int (10 * (gv S 200 44)), .ref (ad 200)]) hx hb hml hown hts hK hN hT hS hW (c_X11_here hB hc_42) (hB 200 bb_200) kd_200 rfl (gw_V mw_1240 mw_1242 mw_42 mw_73 mw_1243) hv_X11_here rfl rfl rfl (rm_ok (by decide) (by decide)) hl.1 (Nat.le_of_ble_eq_true rfl) dX11_next_171 rfl ⟨Nat.zero_le _, Nat.zero_le _⟩) hS (fun H locs hW hS => ?_)
        refine lv_iadd hx hb dX11_next_174 ?_
        refine lv_bipush (v := 48) hx hb dX11_next_175 (by decide) ?_
        refine lv_isub hx hb dX11_next_177 ?_
        refine g_put (C := RX11) (T := TX11) (N := 67) (ci := 11) hx hb hts inX11 tyX11 tyX11_ok nmX11 hown hK hW hS (hB 200 bb_200) kd_200 rfl 44 (by decide) mw_1005 rfl rfl rfl rfl (Nat.le_of_ble_eq_true rfl) (sv S 200 44 (((10 * (gv S 200 44)) + r_43) - 48)) (ps_200_44) cellOf_sv dX11_next_178 (fun S_44 eS_44 H locs hW hS => ?_)
        have h := bn_at eS_44 h
        obtain ⟨x_45, ex_45⟩ : ∃ z : Int32, z = v2 + 1 := ⟨_, rfl⟩
        have h := bn_at ex_45 h
        refine lv_iinc (v := x_45) (lv' := [(2, .int x_45), (0, .ref (ad 200))]) hx hb dX11_next_181 hl (k := 1) rfl (by rw [ex_45]; rfl) (by decide) rfl (fun ls hl => ?_)
        refine lv_goto (tgt := 144) hx hb dX11_next_184 (by decide) ?_
        exact ih _ _ h _ _ _ hW hS (lv_sub hl [1, 0] rfl)
def f_X11_next_j205 (N : Nat) (S : St) (v2 : Int32) : Option (St) := bn (sv S 200 42 3) fun S_49 => if (gv S_49 200 42) = 3 then (some S_49) else (bn (sv S_49 200 40 ((gv S_49 200 40) + v2)) fun S_51 => some S_51)
set_option maxHeartbeats 4000000 in
theorem t_X11_next_j205 (C : MC p s m args meth c cX11_next 3 none RX11 g A) (hB : Lk L) {S : St} {S9 : St} {v2 : Int32} (h : f_X11_next_j205 N S v2 = some S9) {H : Heap} {locs : List Loc} {ls : Array Slot} (hW : GW g A ad L S H) (hS : va_S A s.heap H locs) (hl : lv_has ls 3 [(0, .ref (ad 200)), (2, .int v2)]) : W p l e (rmk 2) s m args below meth c H locs 0 0 (MQ below (qv g A ad L S9) args s 0 0 A) (F0 m 205 ls [.ref (ad 200)]) := by
  obtain ⟨hx, hb, hml, hown, hts, hr, hlocks, hK, hN, hT⟩ := id C
  unfold f_X11_next_j205 at h
  refine lv_iconst (v := 3) hx hb dX11_next_205 (by decide) ?_
  refine lv_goto (tgt := 210) hx hb dX11_next_206 (by decide) ?_
  refine g_put (C := RX11) (T := TX11) (N := 67) (ci := 11) hx hb hts inX11 tyX11 tyX11_ok nmX11 hown hK hW hS (hB 200 bb_200) kd_200 rfl 42 (by decide) mw_1003 rfl rfl rfl rfl (Nat.le_of_ble_eq_true rfl) (sv S 200 42 3) (ps_200_42) cellOf_sv dX11_next_210 (fun S_49 eS_49 H locs hW hS => ?_)
  have h := bn_at eS_49 h
  refine lv_goto (tgt := 234) hx hb dX11_next_213 (by decide) ?_
  refine lv_aload_n hx hb dX11_next_234 rfl (lv_at hl 0 rfl) ?_
  refine g_get (C := RX11) (T := TX11) (N := 67) (ci := 11) hx hb hts inX11 hown hK hW (hB 200 bb_200) kd_200 rfl 42 (by decide) mw_1003 rfl rfl dX11_next_235 ?_
  refine lv_iconst (v := 3) hx hb dX11_next_238 (by decide) ?_
  refine lv_icmp_eq (tgt := 252) hx hb dX11_next_239 (by decide) (fun c_50 => ?_) (fun c_50 => ?_)
  · have h := it_t c_50 h
    cases h
    exact g_vret hx hb hr hlocks hW hS dX11_next_252
  · have h := it_f c_50 h
    refine lv_aload_n hx hb dX11_next_242 rfl (lv_at hl 0 rfl) ?_
    refine lv_dup hx hb dX11_next_243 rfl ?_
    refine g_get (C := RX11) (T := TX11) (N := 67) (ci := 11) hx hb hts inX11 hown hK hW (hB 200 bb_200) kd_200 rfl 40 (by decide) mw_1001 rfl rfl dX11_next_244 ?_
    refine lv_iload_n hx hb dX11_next_247 rfl (lv_at hl 1 rfl) ?_
    refine lv_iadd hx hb dX11_next_248 ?_
    refine g_put (C := RX11) (T := TX11) (N := 67) (ci := 11) hx hb hts inX11 tyX11 tyX11_ok nmX11 hown hK hW hS (hB 200 bb_200) kd_200 rfl 40 (by decide) mw_1001 rfl rfl rfl rfl (Nat.le_of_ble_eq_true rfl) (sv S_49 200 40 ((gv S_49 200 40) + v2)) (ps_200_40) cellOf_sv dX11_next_249 (fun S_51 eS_51 H locs hW hS => ?_)
    have h := bn_at eS_51 h
    cases h
    exact g_vret hx hb hr hlocks hW hS dX11_next_252
def f_X11_next_l78 (N : Nat) (k : St → Int32 → Option (St)) : Nat → St → Int32 → Option (St)
  | 0, _, _ => none
  | n + 1, S, v2 => cl0 (f_X11_here S v2) fun r_62 => cl0 (f_X11_isLetter S r_62) fun r_64 => if r_64 = 0 then (k S v2) else (if 8 ≤ v2 then (bn (v2 + 1) fun x_68 => f_X11_next_l78 N k n S x_68) else (cl0 (f_X11_here S v2) fun r_70 => bn (sl S 200 (((gl S 200) <<< ((8 : Int32).toInt64 &&& 63)) ||| r_70.toInt64)) fun S_71 => bn (v2 + 1) fun x_72 => f_X11_next_l78 N k n S_71 x_72))
set_option maxHeartbeats 4000000 in
theorem t_X11_next_l78 (C : MC p s m args meth c cX11_next 3 none RX11 g A) (hB : Lk L) {S9 : St} {k : St → Int32 → Option (St)} (hk : ∀ (S : St) (w2 : Int32), k S w2 = some S9 → ∀ (H : Heap) (locs : List Loc) (ls : Array Slot), GW g A ad L S H → va_S A s.heap H locs → lv_has ls 3 [(0, .ref (ad 200)), (2, .int w2)] → W p l e (rmk 2) s m args below meth c H locs 0 0 (MQ below (qv g A ad L S9) args s 0 0 A) (F0 m 119 ls [])) : ∀ (n : Nat) (S : St) (v2 : Int32), f_X11_next_l78 N k n S v2 = some S9 → ∀ (H : Heap) (locs : List Loc) (ls : Array Slot), GW g A ad L S H → va_S A s.heap H locs → lv_has ls 3 [(0, .ref (ad 200)), (2, .int v2)] → W p l e (rmk 2) s m args below meth c H locs 0 0 (MQ below (qv g A ad L S9) args s 0 0 A) (F0 m 78 ls []) := by
  obtain ⟨hx, hb, hml, hown, hts, hr, hlocks, hK, hN, hT⟩ := id C
  intro n
  induction n with
  | zero =>
    intro S v2 h
    have h : (none : Option (St)) = some S9 := h
    cases h
  | succ n ih =>
    intro S v2 h H locs ls hW hS hl
    rw [f_X11_next_l78] at h
    refine lv_aload_n hx hb dX11_next_78 rfl (lv_at hl 0 rfl) ?_
    refine lv_iload_n hx hb dX11_next_79 rfl (lv_at hl 1 rfl) ?_
    obtain ⟨r_62, hc_61, h⟩ := cl0_ex h
    refine g_ci (g_runV (ci := 11) (o := 200) (As := [.int v2]) (rest := []) hx hb hml hown hts hK hN hT hS hW (c_X11_here hB hc_61) (hB 200 bb_200) kd_200 rfl (gw_V mw_1240 mw_1242 mw_42 mw_73 mw_1243) hv_X11_here rfl rfl rfl (rm_ok (by decide) (by decide)) hl.1 (Nat.le_of_ble_eq_true rfl) dX11_next_80 rfl ⟨Nat.zero_le _, Nat.zero_le _⟩) hS (fun H locs hW hS => ?_)
    obtain ⟨r_64, hc_63, h⟩ := cl0_ex h
    refine g_cz (g_runS (As := [.int r_62]) (rest := []) hx hb hml hown hts hK hN hT hS hW (c_X11_isLetter hB hc_63) (gw_S mw_1244 mw_1245 mw_73 mw_1246) hs_X11_isLetter rfl rfl rfl (rm_ok (by decide) (by decide)) hl.1 (Nat.le_of_ble_eq_true rfl) dX11_next_83 rfl ⟨Nat.zero_le _, Nat.zero_le _⟩) hS (fun hz_65 H locs hW hS => ?_)
    refine lv_if_eq (tgt := 119) hx hb dX11_next_86 (by decide) (fun c_66 => ?_) (fun c_66 => ?_)
    · have h := it_t c_66 h
      exact hk _ _ h _ _ _ hW hS (lv_sub hl [0, 1] rfl)
    · have h := it_f c_66 h
      refine lv_iload_n hx hb dX11_next_89 rfl (lv_at hl 1 rfl) ?_
      refine lv_bipush (v := 8) hx hb dX11_next_90 (by decide) ?_
      refine lv_icmp_ge (tgt := 113) hx hb dX11_next_92 (by decide) (fun c_67 => ?_) (fun c_67 => ?_)
      · have h := it_t c_67 h
        obtain ⟨x_68, ex_68⟩ : ∃ z : Int32, z = v2 + 1 := ⟨_, rfl⟩
        have h := bn_at ex_68 h
        refine lv_iinc (v := x_68) (lv' := [(2, .int x_68), (0, .ref (ad 200))]) hx hb dX11_next_113 hl (k := 1) rfl (by rw [ex_68]; rfl) (by decide) rfl (fun ls hl => ?_)
        refine lv_goto (tgt := 78) hx hb dX11_next_116 (by decide) ?_
        exact ih _ _ h _ _ _ hW hS (lv_sub hl [1, 0] rfl)
      · have h := it_f c_67 h
        refine lv_aload_n hx hb dX11_next_95 rfl (lv_at hl 0 rfl) ?_
        refine lv_aload_n hx hb dX11_next_96 rfl (lv_at hl 0 rfl) ?_
        refine g_get (C := RX11) (T := TX11) (N := 67) (ci := 11) hx hb hts inX11 hown hK hW (hB 200 bb_200) kd_200 rfl 45 (by decide) mw_1006 rfl rfl dX11_next_97 ?_
        refine lv_bipush (v := 8) hx hb dX11_next_100 (by decide) ?_
        refine lv_lshl hx hb dX11_next_102 rfl ?_
        refine lv_aload_n hx hb dX11_next_103 rfl (lv_at hl 0 rfl) ?_
        refine lv_iload_n hx hb dX11_next_104 rfl (lv_at hl 1 rfl) ?_
        obtain ⟨r_70, hc_69, h⟩ := cl0_ex h
        refine g_ci (g_runV (ci := 11) (o := 200) (As := [.int v2]) (rest := [.long ((gl S 200) <<< ((8 : Int32).toInt64 &&& 63)), .ref (ad 200)]) hx hb hml hown hts hK hN hT hS hW (c_X11_here hB hc_69) (hB 200 bb_200) kd_200 rfl (gw_V mw_1240 mw_1242 mw_42 mw_73 mw_1243) hv_X11_here rfl rfl rfl (rm_ok (by decide) (by decide)) hl.1 (Nat.le_of_ble_eq_true rfl) dX11_next_105 rfl ⟨Nat.zero_le _, Nat.zero_le _⟩) hS (fun H locs hW hS => ?_)
        refine lv_i2l hx hb dX11_next_108 rfl ?_
        refine lv_lor hx hb dX11_next_109 ?_
        refine g_put (C := RX11) (T := TX11) (N := 67) (ci := 11) hx hb hts inX11 tyX11 tyX11_ok nmX11 hown hK hW hS (hB 200 bb_200) kd_200 rfl 45 (by decide) mw_1006 rfl rfl rfl rfl (Nat.le_of_ble_eq_true rfl) (sl S 200 (((gl S 200) <<< ((8 : Int32).toInt64 &&& 63)) ||| r_70.toInt64)) (ps_200_45) cellOf_sl dX11_next_110 (fun S_71 eS_71 H locs hW hS => ?_)
        have h := bn_at eS_71 h
        obtain ⟨x_72, ex_72⟩ : ∃ z : Int32, z = v2 + 1 := ⟨_, rfl⟩
        have h := bn_at ex_72 h
        refine lv_iinc (v := x_72) (lv' := [(2, .int x_72), (0, .ref (ad 200))]) hx hb dX11_next_113 hl (k := 1) rfl (by rw [ex_72]; rfl) (by decide) rfl (fun ls hl => ?_)
        refine lv_goto (tgt := 78) hx hb dX11_next_116 (by decide) ?_
        exact ih _ _ h _ _ _ hW hS (lv_sub hl [1, 0] rfl)
def f_X11_next (N : Nat) (S : St) : Option (St) := f_X11_next_l0 N (fun S_9 => bn (sv S_9 200 43 (gv S_9 200 40)) fun S_10 => cl0 (f_X11_here S_10 0) fun r_12 => bn (sl S_10 200 0) fun S_13 => bn (sv S_13 200 44 0) fun S_14 => if 0 ≤ r_12 then (cl0 (f_X11_isLetter S_14 r_12) fun r_17 => if r_17 = 0 then (cl0 (f_X11_isDigit S_14 r_12) fun r_21 => if r_21 = 0 then (cl0 (f_X11_isSign S_14 r_12) fun r_25 => if r_25 = 0 then (bn (sv S_14 200 42 3) fun S_28 => if (gv S_28 200 42) = 3 then (some S_28) else (bn (sv S_28 200 40 ((gv S_28 200 40) + 1)) fun S_30 => some S_30)) else (bn (sv S_14 200 42 r_12) fun S_31 => if (gv S_31 200 42) = 3 then (some S_31) else (bn (sv S_31 200 40 ((gv S_31 200 40) + 1)) fun S_33 => some S_33))) else (f_X11_next_l144 N (fun S_46 x_47 => if 6 < x_47 then (f_X11_next_j205 N S_46 x_47) else (cl0 (f_X11_here S_46 x_47) fun r_53 => cl0 (f_X11_isLetter S_46 r_53) fun r_55 => if r_55 = 0 then (bn (sv S_46 200 42 2) fun S_58 => if (gv S_58 200 42) = 3 then (some S_58) else (bn (sv S_58 200 40 ((gv S_58 200 40) + x_47)) fun S_60 => some S_60)) else (f_X11_next_j205 N S_46 x_47))) N S_14 0)) else (f_X11_next_l78 N (fun S_73 x_74 => if x_74 ≤ 8 then (bn (sv S_73 200 42 1) fun S_76 => if (gv S_76 200 42) = 3 then (some S_76) else (bn (sv S_76 200 40 ((gv S_76 200 40) + x_74)) fun S_78 => some S_78)) else (bn (sv S_73 200 42 3) fun S_79 => if (gv S_79 200 42) = 3 then (some S_79) else (bn (sv S_79 200 40 ((gv S_79 200 40) + x_74)) fun S_81 => some S_81))) N S_14 0)) else (bn (sv S_14 200 42 0) fun S_82 => if (gv S_82 200 42) = 3 then (some S_82) else (bn (sv S_82 200 40 ((gv S_82 200 40) + 0)) fun S_84 => some S_84))) N S
set_option maxHeartbeats 4000000 in
theorem t_X11_next (C : MC p s m args meth c cX11_next 3 none RX11 g A) (hB : Lk L) {S : St} {S9 : St} (h : f_X11_next N S = some S9) {H : Heap} {locs : List Loc} {ls : Array Slot} (hW : GW g A ad L S H) (hS : va_S A s.heap H locs) (hl : lv_has ls 3 [(0, .ref (ad 200))]) : W p l e (rmk 2) s m args below meth c H locs 0 0 (MQ below (qv g A ad L S9) args s 0 0 A) (F0 m 0 ls []) := by
  obtain ⟨hx, hb, hml, hown, hts, hr, hlocks, hK, hN, hT⟩ := id C
  unfold f_X11_next at h
  refine t_X11_next_l0 C hB ?_ _ _ h _ _ _ hW hS (lv_sub hl [0] rfl)
  intro S_9 h H locs ls hW hS hl
  refine lv_aload_n hx hb dX11_next_33 rfl (lv_at hl 0 rfl) ?_
  refine lv_aload_n hx hb dX11_next_34 rfl (lv_at hl 0 rfl) ?_
  refine g_get (C := RX11) (T := TX11) (N := 67) (ci := 11) hx hb hts inX11 hown hK hW (hB 200 bb_200) kd_200 rfl 40 (by decide) mw_1001 rfl rfl dX11_next_35 ?_
  refine g_put (C := RX11) (T := TX11) (N := 67) (ci := 11) hx hb hts inX11 tyX11 tyX11_ok nmX11 hown hK hW hS (hB 200 bb_200) kd_200 rfl 43 (by decide) mw_1004 rfl rfl rfl rfl (Nat.le_of_ble_eq_true rfl) (sv S_9 200 43 (gv S_9 200 40)) (ps_200_43) cellOf_sv dX11_next_38 (fun S_10 eS_10 H locs hW hS => ?_)
  have h := bn_at eS_10 h
  refine lv_aload_n hx hb dX11_next_41 rfl (lv_at hl 0 rfl) ?_
  refine lv_iconst (v := 0) hx hb dX11_next_42 (by decide) ?_
  obtain ⟨r_12, hc_11, h⟩ := cl0_ex h
  refine g_ci (g_runV (ci := 11) (o := 200) (As := [.int 0]) (rest := []) hx hb hml hown hts hK hN hT hS hW (c_X11_here hB hc_11) (hB 200 bb_200) kd_200 rfl (gw_V mw_1240 mw_1242 mw_42 mw_73 mw_1243) hv_X11_here rfl rfl rfl (rm_ok (by decide) (by decide)) hl.1 (Nat.le_of_ble_eq_true rfl) dX11_next_43 rfl ⟨Nat.zero_le _, Nat.zero_le _⟩) hS (fun H locs hW hS => ?_)
  refine lv_istore_n (lv' := [(1, .int r_12), (0, .ref (ad 200))]) hx hb dX11_next_46 rfl hl (by decide) rfl (fun ls hl => ?_)
  refine lv_iconst (v := 0) hx hb dX11_next_47 (by decide) ?_
  refine lv_istore_n (lv' := [(2, .int 0), (1, .int r_12), (0, .ref (ad 200))]) hx hb dX11_next_48 rfl hl (by decide) rfl (fun ls hl => ?_)
  refine lv_aload_n hx hb dX11_next_49 rfl (lv_at hl 2 rfl) ?_
  refine lv_lconst (v := 0) hx hb dX11_next_50 (by decide) ?_
  refine g_put (C := RX11) (T := TX11) (N := 67) (ci := 11) hx hb hts inX11 tyX11 tyX11_ok nmX11 hown hK hW hS (hB 200 bb_200) kd_200 rfl 45 (by decide) mw_1006 rfl rfl rfl rfl (Nat.le_of_ble_eq_true rfl) (sl S_10 200 0) (ps_200_45) cellOf_sl dX11_next_51 (fun S_13 eS_13 H locs hW hS => ?_)
  have h := bn_at eS_13 h
  refine lv_aload_n hx hb dX11_next_54 rfl (lv_at hl 2 rfl) ?_
  refine lv_iconst (v := 0) hx hb dX11_next_55 (by decide) ?_
  refine g_put (C := RX11) (T := TX11) (N := 67) (ci := 11) hx hb hts inX11 tyX11 tyX11_ok nmX11 hown hK hW hS (hB 200 bb_200) kd_200 rfl 44 (by decide) mw_1005 rfl rfl rfl rfl (Nat.le_of_ble_eq_true rfl) (sv S_13 200 44 0) (ps_200_44) cellOf_sv dX11_next_56 (fun S_14 eS_14 H locs hW hS => ?_)
  have h := bn_at eS_14 h
  refine lv_iload_n hx hb dX11_next_59 rfl (lv_at hl 1 rfl) ?_
  refine lv_if_ge (tgt := 71) hx hb dX11_next_60 (by decide) (fun c_15 => ?_) (fun c_15 => ?_)
  · have h := it_t c_15 h
    refine lv_iload_n hx hb dX11_next_71 rfl (lv_at hl 1 rfl) ?_
    obtain ⟨r_17, hc_16, h⟩ := cl0_ex h
    refine g_cz (g_runS (As := [.int r_12]) (rest := []) hx hb hml hown hts hK hN hT hS hW (c_X11_isLetter hB hc_16) (gw_S mw_1244 mw_1245 mw_73 mw_1246) hs_X11_isLetter rfl rfl rfl (rm_ok (by decide) (by decide)) hl.1 (Nat.le_of_ble_eq_true rfl) dX11_next_72 rfl ⟨Nat.zero_le _, Nat.zero_le _⟩) hS (fun hz_18 H locs hW hS => ?_)
    refine lv_if_eq (tgt := 137) hx hb dX11_next_75 (by decide) (fun c_19 => ?_) (fun c_19 => ?_)
    · have h := it_t c_19 h
      refine lv_iload_n hx hb dX11_next_137 rfl (lv_at hl 1 rfl) ?_
      obtain ⟨r_21, hc_20, h⟩ := cl0_ex h
      refine g_cz (g_runS (As := [.int r_12]) (rest := []) hx hb hml hown hts hK hN hT hS hW (c_X11_isDigit hB hc_20) (gw_S mw_1247 mw_1248 mw_73 mw_1249) hs_X11_isDigit rfl rfl rfl (rm_ok (by decide) (by decide)) hl.1 (Nat.le_of_ble_eq_true rfl) dX11_next_138 rfl ⟨Nat.zero_le _, Nat.zero_le _⟩) hS (fun hz_22 H locs hW hS => ?_)
      refine lv_if_eq (tgt := 216) hx hb dX11_next_141 (by decide) (fun c_23 => ?_) (fun c_23 => ?_)
      · have h := it_t c_23 h
        refine lv_iconst (v := 1) hx hb dX11_next_216 (by decide) ?_
        refine lv_istore_n (lv' := [(2, .int 1), (1, .int r_12), (0, .ref (ad 200))]) hx hb dX11_next_217 rfl hl (by decide) rfl (fun ls hl => ?_)
        refine lv_aload_n hx hb dX11_next_218 rfl (lv_at hl 2 rfl) ?_
        refine lv_iload_n hx hb dX11_next_219 rfl (lv_at hl 1 rfl) ?_
        obtain ⟨r_25, hc_24, h⟩ := cl0_ex h
        refine g_cz (g_runS (As := [.int r_12]) (rest := [.ref (ad 200)]) hx hb hml hown hts hK hN hT hS hW (c_X11_isSign hB hc_24) (gw_S mw_1250 mw_1251 mw_73 mw_1252) hs_X11_isSign rfl rfl rfl (rm_ok (by decide) (by decide)) hl.1 (Nat.le_of_ble_eq_true rfl) dX11_next_220 rfl ⟨Nat.zero_le _, Nat.zero_le _⟩) hS (fun hz_26 H locs hW hS => ?_)
        refine lv_if_eq (tgt := 230) hx hb dX11_next_223 (by decide) (fun c_27 => ?_) (fun c_27 => ?_)
        · have h := it_t c_27 h
          refine lv_iconst (v := 3) hx hb dX11_next_230 (by decide) ?_
          refine g_put (C := RX11) (T := TX11) (N := 67) (ci := 11) hx hb hts inX11 tyX11 tyX11_ok nmX11 hown hK hW hS (hB 200 bb_200) kd_200 rfl 42 (by decide) mw_1003 rfl rfl rfl rfl (Nat.le_of_ble_eq_true rfl) (sv S_14 200 42 3) (ps_200_42) cellOf_sv dX11_next_231 (fun S_28 eS_28 H locs hW hS => ?_)
          have h := bn_at eS_28 h
          refine lv_aload_n hx hb dX11_next_234 rfl (lv_at hl 2 rfl) ?_
          refine g_get (C := RX11) (T := TX11) (N := 67) (ci := 11) hx hb hts inX11 hown hK hW (hB 200 bb_200) kd_200 rfl 42 (by decide) mw_1003 rfl rfl dX11_next_235 ?_
          refine lv_iconst (v := 3) hx hb dX11_next_238 (by decide) ?_
          refine lv_icmp_eq (tgt := 252) hx hb dX11_next_239 (by decide) (fun c_29 => ?_) (fun c_29 => ?_)
          · have h := it_t c_29 h
            cases h
            exact g_vret hx hb hr hlocks hW hS dX11_next_252
          · have h := it_f c_29 h
            refine lv_aload_n hx hb dX11_next_242 rfl (lv_at hl 2 rfl) ?_
            refine lv_dup hx hb dX11_next_243 rfl ?_
            refine g_get (C := RX11) (T := TX11) (N := 67) (ci := 11) hx hb hts inX11 hown hK hW (hB 200 bb_200) kd_200 rfl 40 (by decide) mw_1001 rfl rfl dX11_next_244 ?_
            refine lv_iload_n hx hb dX11_next_247 rfl (lv_at hl 0 rfl) ?_
            refine lv_iadd hx hb dX11_next_248 ?_
            refine g_put (C := RX11) (T := TX11) (N := 67) (ci := 11) hx hb hts inX11 tyX11 tyX11_ok nmX11 hown hK hW hS (hB 200 bb_200) kd_200 rfl 40 (by decide) mw_1001 rfl rfl rfl rfl (Nat.le_of_ble_eq_true rfl) (sv S_28 200 40 ((gv S_28 200 40) + 1)) (ps_200_40) cellOf_sv dX11_next_249 (fun S_30 eS_30 H locs hW hS => ?_)
            have h := bn_at eS_30 h
            cases h
            exact g_vret hx hb hr hlocks hW hS dX11_next_252
        · have h := it_f c_27 h
          refine lv_iload_n hx hb dX11_next_226 rfl (lv_at hl 1 rfl) ?_
          refine lv_goto (tgt := 231) hx hb dX11_next_227 (by decide) ?_
          refine g_put (C := RX11) (T := TX11) (N := 67) (ci := 11) hx hb hts inX11 tyX11 tyX11_ok nmX11 hown hK hW hS (hB 200 bb_200) kd_200 rfl 42 (by decide) mw_1003 rfl rfl rfl rfl (Nat.le_of_ble_eq_true rfl) (sv S_14 200 42 r_12) (ps_200_42) cellOf_sv dX11_next_231 (fun S_31 eS_31 H locs hW hS => ?_)
          have h := bn_at eS_31 h
          refine lv_aload_n hx hb dX11_next_234 rfl (lv_at hl 2 rfl) ?_
          refine g_get (C := RX11) (T := TX11) (N := 67) (ci := 11) hx hb hts inX11 hown hK hW (hB 200 bb_200) kd_200 rfl 42 (by decide) mw_1003 rfl rfl dX11_next_235 ?_
          refine lv_iconst (v := 3) hx hb dX11_next_238 (by decide) ?_
          refine lv_icmp_eq (tgt := 252) hx hb dX11_next_239 (by decide) (fun c_32 => ?_) (fun c_32 => ?_)
          · have h := it_t c_32 h
            cases h
            exact g_vret hx hb hr hlocks hW hS dX11_next_252
          · have h := it_f c_32 h
            refine lv_aload_n hx hb dX11_next_242 rfl (lv_at hl 2 rfl) ?_
            refine lv_dup hx hb dX11_next_243 rfl ?_
            refine g_get (C := RX11) (T := TX11) (N := 67) (ci := 11) hx hb hts inX11 hown hK hW (hB 200 bb_200) kd_200 rfl 40 (by decide) mw_1001 rfl rfl dX11_next_244 ?_
            refine lv_iload_n hx hb dX11_next_247 rfl (lv_at hl 0 rfl) ?_
            refine lv_iadd hx hb dX11_next_248 ?_
            refine g_put (C := RX11) (T := TX11) (N := 67) (ci := 11) hx hb hts inX11 tyX11 tyX11_ok nmX11 hown hK hW hS (hB 200 bb_200) kd_200 rfl 40 (by decide) mw_1001 rfl rfl rfl rfl (Nat.le_of_ble_eq_true rfl) (sv S_31 200 40 ((gv S_31 200 40) + 1)) (ps_200_40) cellOf_sv dX11_next_249 (fun S_33 eS_33 H locs hW hS => ?_)
            have h := bn_at eS_33 h
            cases h
            exact g_vret hx hb hr hlocks hW hS dX11_next_252
      · have h := it_f c_23 h
        refine t_X11_next_l144 C hB ?_ _ _ _ h _ _ _ hW hS (lv_sub hl [2, 0] rfl)
        intro S_46 x_47 h H locs ls hW hS hl
        refine lv_aload_n hx hb dX11_next_187 rfl (lv_at hl 0 rfl) ?_
        refine lv_iload_n hx hb dX11_next_188 rfl (lv_at hl 1 rfl) ?_
        refine lv_bipush (v := 6) hx hb dX11_next_189 (by decide) ?_
        refine lv_icmp_gt (tgt := 205) hx hb dX11_next_191 (by decide) (fun c_48 => ?_) (fun c_48 => ?_)
        · have h := it_t c_48 h
          exact t_X11_next_j205 C hB h hW hS (lv_sub hl [0, 1] rfl)
        · have h := it_f c_48 h
          refine lv_aload_n hx hb dX11_next_194 rfl (lv_at hl 0 rfl) ?_
          refine lv_iload_n hx hb dX11_next_195 rfl (lv_at hl 1 rfl) ?_
          obtain ⟨r_53, hc_52, h⟩ := cl0_ex h
          refine g_ci (g_runV (ci := 11) (o := 200) (As := [.int x_47]) (rest := [.ref (ad 200)]) hx hb hml hown hts hK hN hT hS hW (c_X11_here hB hc_52) (hB 200 bb_200) kd_200 rfl (gw_V mw_1240 mw_1242 mw_42 mw_73 mw_1243) hv_X11_here rfl rfl rfl (rm_ok (by decide) (by decide)) hl.1 (Nat.le_of_ble_eq_true rfl) dX11_next_196 rfl ⟨Nat.zero_le _, Nat.zero_le _⟩) hS (fun H locs hW hS => ?_)
          obtain ⟨r_55, hc_54, h⟩ := cl0_ex h
          refine g_cz (g_runS (As := [.int r_53]) (rest := [.ref (ad 200)]) hx hb hml hown hts hK hN hT hS hW (c_X11_isLetter hB hc_54) (gw_S mw_1244 mw_1245 mw_73 mw_1246) hs_X11_isLetter rfl rfl rfl (rm_ok (by decide) (by decide)) hl.1 (Nat.le_of_ble_eq_true rfl) dX11_next_199 rfl ⟨Nat.zero_le _, Nat.zero_le _⟩) hS (fun hz_56 H locs hW hS => ?_)
          refine lv_if_eq (tgt := 209) hx hb dX11_next_202 (by decide) (fun c_57 => ?_) (fun c_57 => ?_)
          · have h := it_t c_57 h
            refine lv_iconst (v := 2) hx hb dX11_next_209 (by decide) ?_
            refine g_put (C := RX11) (T := TX11) (N := 67) (ci := 11) hx hb hts inX11 tyX11 tyX11_ok nmX11 hown hK hW hS (hB 200 bb_200) kd_200 rfl 42 (by decide) mw_1003 rfl rfl rfl rfl (Nat.le_of_ble_eq_true rfl) (sv S_46 200 42 2) (ps_200_42) cellOf_sv dX11_next_210 (fun S_58 eS_58 H locs hW hS => ?_)
            have h := bn_at eS_58 h
            refine lv_goto (tgt := 234) hx hb dX11_next_213 (by decide) ?_
            refine lv_aload_n hx hb dX11_next_234 rfl (lv_at hl 0 rfl) ?_
            refine g_get (C := RX11) (T := TX11) (N := 67) (ci := 11) hx hb hts inX11 hown hK hW (hB 200 bb_200) kd_200 rfl 42 (by decide) mw_1003 rfl rfl dX11_next_235 ?_
            refine lv_iconst (v := 3) hx hb dX11_next_238 (by decide) ?_
            refine lv_icmp_eq (tgt := 252) hx hb dX11_next_239 (by decide) (fun c_59 => ?_) (fun c_59 => ?_)
            · have h := it_t c_59 h
              cases h
              exact g_vret hx hb hr hlocks hW hS dX11_next_252
            · have h := it_f c_59 h
              refine lv_aload_n hx hb dX11_next_242 rfl (lv_at hl 0 rfl) ?_
              refine lv_dup hx hb dX11_next_243 rfl ?_
              refine g_get (C := RX11) (T := TX11) (N := 67) (ci := 11) hx hb hts inX11 hown hK hW (hB 200 bb_200) kd_200 rfl 40 (by decide) mw_1001 rfl rfl dX11_next_244 ?_
              refine lv_iload_n hx hb dX11_next_247 rfl (lv_at hl 1 rfl) ?_
              refine lv_iadd hx hb dX11_next_248 ?_
              refine g_put (C := RX11) (T := TX11) (N := 67) (ci := 11) hx hb hts inX11 tyX11 tyX11_ok nmX11 hown hK hW hS (hB 200 bb_200) kd_200 rfl 40 (by decide) mw_1001 rfl rfl rfl rfl (Nat.le_of_ble_eq_true rfl) (sv S_58 200 40 ((gv S_58 200 40) + x_47)) (ps_200_40) cellOf_sv dX11_next_249 (fun S_60 eS_60 H locs hW hS => ?_)
              have h := bn_at eS_60 h
              cases h
              exact g_vret hx hb hr hlocks hW hS dX11_next_252
          · have h := it_f c_57 h
            exact t_X11_next_j205 C hB h hW hS (lv_sub hl [0, 1] rfl)
    · have h := it_f c_19 h
      refine t_X11_next_l78 C hB ?_ _ _ _ h _ _ _ hW hS (lv_sub hl [2, 0] rfl)
      intro S_73 x_74 h H locs ls hW hS hl
      refine lv_aload_n hx hb dX11_next_119 rfl (lv_at hl 0 rfl) ?_
      refine lv_iload_n hx hb dX11_next_120 rfl (lv_at hl 1 rfl) ?_
      refine lv_bipush (v := 8) hx hb dX11_next_121 (by decide) ?_
      refine lv_icmp_le (tgt := 130) hx hb dX11_next_123 (by decide) (fun c_75 => ?_) (fun c_75 => ?_)
      · have h := it_t c_75 h
        refine lv_iconst (v := 1) hx hb dX11_next_130 (by decide) ?_
        refine g_put (C := RX11) (T := TX11) (N := 67) (ci := 11) hx hb hts inX11 tyX11 tyX11_ok nmX11 hown hK hW hS (hB 200 bb_200) kd_200 rfl 42 (by decide) mw_1003 rfl rfl rfl rfl (Nat.le_of_ble_eq_true rfl) (sv S_73 200 42 1) (ps_200_42) cellOf_sv dX11_next_131 (fun S_76 eS_76 H locs hW hS => ?_)
        have h := bn_at eS_76 h
        refine lv_goto (tgt := 234) hx hb dX11_next_134 (by decide) ?_
        refine lv_aload_n hx hb dX11_next_234 rfl (lv_at hl 0 rfl) ?_
        refine g_get (C := RX11) (T := TX11) (N := 67) (ci := 11) hx hb hts inX11 hown hK hW (hB 200 bb_200) kd_200 rfl 42 (by decide) mw_1003 rfl rfl dX11_next_235 ?_
        refine lv_iconst (v := 3) hx hb dX11_next_238 (by decide) ?_
        refine lv_icmp_eq (tgt := 252) hx hb dX11_next_239 (by decide) (fun c_77 => ?_) (fun c_77 => ?_)
        · have h := it_t c_77 h
          cases h
          exact g_vret hx hb hr hlocks hW hS dX11_next_252
        · have h := it_f c_77 h
          refine lv_aload_n hx hb dX11_next_242 rfl (lv_at hl 0 rfl) ?_
          refine lv_dup hx hb dX11_next_243 rfl ?_
          refine g_get (C := RX11) (T := TX11) (N := 67) (ci := 11) hx hb hts inX11 hown hK hW (hB 200 bb_200) kd_200 rfl 40 (by decide) mw_1001 rfl rfl dX11_next_244 ?_
          refine lv_iload_n hx hb dX11_next_247 rfl (lv_at hl 1 rfl) ?_
          refine lv_iadd hx hb dX11_next_248 ?_
          refine g_put (C := RX11) (T := TX11) (N := 67) (ci := 11) hx hb hts inX11 tyX11 tyX11_ok nmX11 hown hK hW hS (hB 200 bb_200) kd_200 rfl 40 (by decide) mw_1001 rfl rfl rfl rfl (Nat.le_of_ble_eq_true rfl) (sv S_76 200 40 ((gv S_76 200 40) + x_74)) (ps_200_40) cellOf_sv dX11_next_249 (fun S_78 eS_78 H locs hW hS => ?_)
          have h := bn_at eS_78 h
          cases h
          exact g_vret hx hb hr hlocks hW hS dX11_next_252
      · have h := it_f c_75 h
        refine lv_iconst (v := 3) hx hb dX11_next_126 (by decide) ?_
        refine lv_goto (tgt := 131) hx hb dX11_next_127 (by decide) ?_
        refine g_put (C := RX11) (T := TX11) (N := 67) (ci := 11) hx hb hts inX11 tyX11 tyX11_ok nmX11 hown hK hW hS (hB 200 bb_200) kd_200 rfl 42 (by decide) mw_1003 rfl rfl rfl rfl (Nat.le_of_ble_eq_true rfl) (sv S_73 200 42 3) (ps_200_42) cellOf_sv dX11_next_131 (fun S_79 eS_79 H locs hW hS => ?_)
        have h := bn_at eS_79 h
        refine lv_goto (tgt := 234) hx hb dX11_next_134 (by decide) ?_
        refine lv_aload_n hx hb dX11_next_234 rfl (lv_at hl 0 rfl) ?_
        refine g_get (C := RX11) (T := TX11) (N := 67) (ci := 11) hx hb hts inX11 hown hK hW (hB 200 bb_200) kd_200 rfl 42 (by decide) mw_1003 rfl rfl dX11_next_235 ?_
        refine lv_iconst (v := 3) hx hb dX11_next_238 (by decide) ?_
        refine lv_icmp_eq (tgt := 252) hx hb dX11_next_239 (by decide) (fun c_80 => ?_) (fun c_80 => ?_)
        · have h := it_t c_80 h
          cases h
          exact g_vret hx hb hr hlocks hW hS dX11_next_252
        · have h := it_f c_80 h
          refine lv_aload_n hx hb dX11_next_242 rfl (lv_at hl 0 rfl) ?_
          refine lv_dup hx hb dX11_next_243 rfl ?_
          refine g_get (C := RX11) (T := TX11) (N := 67) (ci := 11) hx hb hts inX11 hown hK hW (hB 200 bb_200) kd_200 rfl 40 (by decide) mw_1001 rfl rfl dX11_next_244 ?_
          refine lv_iload_n hx hb dX11_next_247 rfl (lv_at hl 1 rfl) ?_
          refine lv_iadd hx hb dX11_next_248 ?_
          refine g_put (C := RX11) (T := TX11) (N := 67) (ci := 11) hx hb hts inX11 tyX11 tyX11_ok nmX11 hown hK hW hS (hB 200 bb_200) kd_200 rfl 40 (by decide) mw_1001 rfl rfl rfl rfl (Nat.le_of_ble_eq_true rfl) (sv S_79 200 40 ((gv S_79 200 40) + x_74)) (ps_200_40) cellOf_sv dX11_next_249 (fun S_81 eS_81 H locs hW hS => ?_)
          have h := bn_at eS_81 h
          cases h
          exact g_vret hx hb hr hlocks hW hS dX11_next_252
  · have h := it_f c_15 h
    refine lv_aload_n hx hb dX11_next_63 rfl (lv_at hl 2 rfl) ?_
    refine lv_iconst (v := 0) hx hb dX11_next_64 (by decide) ?_
    refine g_put (C := RX11) (T := TX11) (N := 67) (ci := 11) hx hb hts inX11 tyX11 tyX11_ok nmX11 hown hK hW hS (hB 200 bb_200) kd_200 rfl 42 (by decide) mw_1003 rfl rfl rfl rfl (Nat.le_of_ble_eq_true rfl) (sv S_14 200 42 0) (ps_200_42) cellOf_sv dX11_next_65 (fun S_82 eS_82 H locs hW hS => ?_)
    have h := bn_at eS_82 h
    refine lv_goto (tgt := 234) hx hb dX11_next_68 (by decide) ?_
    refine lv_aload_n hx hb dX11_next_234 rfl (lv_at hl 2 rfl) ?_
    refine g_get (C := RX11) (T := TX11) (N := 67) (ci := 11) hx hb hts inX11 hown hK hW (hB 200 bb_200) kd_200 rfl 42 (by decide) mw_1003 rfl rfl dX11_next_235 ?_
    refine lv_iconst (v := 3) hx hb dX11_next_238 (by decide) ?_
    refine lv_icmp_eq (tgt := 252) hx hb dX11_next_239 (by decide) (fun c_83 => ?_) (fun c_83 => ?_)
    · have h := it_t c_83 h
      cases h
      exact g_vret hx hb hr hlocks hW hS dX11_next_252
    · have h := it_f c_83 h
      refine lv_aload_n hx hb dX11_next_242 rfl (lv_at hl 2 rfl) ?_
      refine lv_dup hx hb dX11_next_243 rfl ?_
      refine g_get (C := RX11) (T := TX11) (N := 67) (ci := 11) hx hb hts inX11 hown hK hW (hB 200 bb_200) kd_200 rfl 40 (by decide) mw_1001 rfl rfl dX11_next_244 ?_
      refine lv_iload_n hx hb dX11_next_247 rfl (lv_at hl 0 rfl) ?_
      refine lv_iadd hx hb dX11_next_248 ?_
      refine g_put (C := RX11) (T := TX11) (N := 67) (ci := 11) hx hb hts inX11 tyX11 tyX11_ok nmX11 hown hK hW hS (hB 200 bb_200) kd_200 rfl 40 (by decide) mw_1001 rfl rfl rfl rfl (Nat.le_of_ble_eq_true rfl) (sv S_82 200 40 ((gv S_82 200 40) + 0)) (ps_200_40) cellOf_sv dX11_next_249 (fun S_84 eS_84 H locs hW hS => ?_)
      have h := bn_at eS_84 h
      cases h
      exact g_vret hx hb hr hlocks hW hS dX11_next_252
theorem c_X11_next (hB : Lk L) {S : St} {S9 : St} (h : f_X11_next N S = some S9) : Met l yX11_next (gws yX11_next cX11_next 3 none) (rmk 2) (va_Pc [.ref (ad 200)] (WU g A ad L S)) (qv g A ad L S9) 0 0 A :=
  g_met [.ref (ad 200)] (by decide) (Nat.le_of_ble_eq_true rfl) (fun p e s m below meth c ls C hW hl _ => t_X11_next C hB h hW va_S.rf hl)
theorem hv_X11_next : yX11_next.cls = RX11 ∧ yX11_next.cls ≠ "java/lang/invoke/MethodHandle" ∧ yX11_next.cls ≠ "java/lang/invoke/VarHandle" ∧ (parseMethodDescriptor yX11_next.desc).map (fun d => d.parameters.length) = some 0 := by decide +kernel
/-! DroveRoadsModel.wrong -/
def f_X11_wrong (S : St) (p1 : Int32) : Option (St) := if (gv S 200 38) ≤ 0 then (if (gv S 200 42) = 3 then (bn (sv S 200 38 1) fun S_5 => bn (sv S_5 200 39 (gv S_5 200 43)) fun S_6 => some S_6) else (bn (sv S 200 38 p1) fun S_3 => bn (sv S_3 200 39 (gv S_3 200 43)) fun S_4 => some S_4)) else (some S)
set_option maxHeartbeats 4000000 in
theorem t_X11_wrong (C : MC p s m args meth c cX11_wrong 2 none RX11 g A) (hB : Lk L) {S : St} {S9 : St} {p1 : Int32} (h : f_X11_wrong S p1 = some S9) {H : Heap} {locs : List Loc} {ls : Array Slot} (hW : GW g A ad L S H) (hS : va_S A s.heap H locs) (hl : lv_has ls 2 [(0, .ref (ad 200)), (1, .int p1)]) : W p l e (rmk 1) s m args below meth c H locs 0 0 (MQ below (qv g A ad L S9) args s 0 0 A) (F0 m 0 ls []) := by
  obtain ⟨hx, hb, hml, hown, hts, hr, hlocks, hK, hN, hT⟩ := id C
  unfold f_X11_wrong at h
  refine lv_aload_n hx hb dX11_wrong_0 rfl (lv_at hl 0 rfl) ?_
  refine g_get (C := RX11) (T := TX11) (N := 67) (ci := 11) hx hb hts inX11 hown hK hW (hB 200 bb_200) kd_200 rfl 38 (by decide) mw_999 rfl rfl dX11_wrong_1 ?_
  refine lv_if_le (tgt := 8) hx hb dX11_wrong_4 (by decide) (fun c_1 => ?_) (fun c_1 => ?_)
  · have h := it_t c_1 h
    refine lv_aload_n hx hb dX11_wrong_8 rfl (lv_at hl 0 rfl) ?_
    refine lv_aload_n hx hb dX11_wrong_9 rfl (lv_at hl 0 rfl) ?_
    refine g_get (C := RX11) (T := TX11) (N := 67) (ci := 11) hx hb hts inX11 hown hK hW (hB 200 bb_200) kd_200 rfl 42 (by decide) mw_1003 rfl rfl dX11_wrong_10 ?_
    refine lv_iconst (v := 3) hx hb dX11_wrong_13 (by decide) ?_
    refine lv_icmp_ne (tgt := 21) hx hb dX11_wrong_14 (by decide) (fun c_2 => ?_) (fun c_2 => ?_)
    · have h := it_f c_2 h
      refine lv_iload_n hx hb dX11_wrong_21 rfl (lv_at hl 1 rfl) ?_
      refine g_put (C := RX11) (T := TX11) (N := 67) (ci := 11) hx hb hts inX11 tyX11 tyX11_ok nmX11 hown hK hW hS (hB 200 bb_200) kd_200 rfl 38 (by decide) mw_999 rfl rfl rfl rfl (Nat.le_of_ble_eq_true rfl) (sv S 200 38 p1) (ps_200_38) cellOf_sv dX11_wrong_22 (fun S_3 eS_3 H locs hW hS => ?_)
      have h := bn_at eS_3 h
      refine lv_aload_n hx hb dX11_wrong_25 rfl (lv_at hl 0 rfl) ?_
      refine lv_aload_n hx hb dX11_wrong_26 rfl (lv_at hl 0 rfl) ?_
      refine g_get (C := RX11) (T := TX11) (N := 67) (ci := 11) hx hb hts inX11 hown hK hW (hB 200 bb_200) kd_200 rfl 43 (by decide) mw_1004 rfl rfl dX11_wrong_27 ?_
      refine g_put (C := RX11) (T := TX11) (N := 67) (ci := 11) hx hb hts inX11 tyX11 tyX11_ok nmX11 hown hK hW hS (hB 200 bb_200) kd_200 rfl 39 (by decide) mw_1000 rfl rfl rfl rfl (Nat.le_of_ble_eq_true rfl) (sv S_3 200 39 (gv S_3 200 43)) (ps_200_39) cellOf_sv dX11_wrong_30 (fun S_4 eS_4 H locs hW hS => ?_)
      have h := bn_at eS_4 h
      cases h
      exact g_vret hx hb hr hlocks hW hS dX11_wrong_33
    · have h := it_t c_2 h
      refine lv_iconst (v := 1) hx hb dX11_wrong_17 (by decide) ?_
      refine lv_goto (tgt := 22) hx hb dX11_wrong_18 (by decide) ?_
      refine g_put (C := RX11) (T := TX11) (N := 67) (ci := 11) hx hb hts inX11 tyX11 tyX11_ok nmX11 hown hK hW hS (hB 200 bb_200) kd_200 rfl 38 (by decide) mw_999 rfl rfl rfl rfl (Nat.le_of_ble_eq_true rfl) (sv S 200 38 1) (ps_200_38) cellOf_sv dX11_wrong_22 (fun S_5 eS_5 H locs hW hS => ?_)
      have h := bn_at eS_5 h
      refine lv_aload_n hx hb dX11_wrong_25 rfl (lv_at hl 0 rfl) ?_
      refine lv_aload_n hx hb dX11_wrong_26 rfl (lv_at hl 0 rfl) ?_
      refine g_get (C := RX11) (T := TX11) (N := 67) (ci := 11) hx hb hts inX11 hown hK hW (hB 200 bb_200) kd_200 rfl 43 (by decide) mw_1004 rfl rfl dX11_wrong_27 ?_
      refine g_put (C := RX11) (T := TX11) (N := 67) (ci := 11) hx hb hts inX11 tyX11 tyX11_ok nmX11 hown hK hW hS (hB 200 bb_200) kd_200 rfl 39 (by decide) mw_1000 rfl rfl rfl rfl (Nat.le_of_ble_eq_true rfl) (sv S_5 200 39 (gv S_5 200 43)) (ps_200_39) cellOf_sv dX11_wrong_30 (fun S_6 eS_6 H locs hW hS => ?_)
      have h := bn_at eS_6 h
      cases h
      exact g_vret hx hb hr hlocks hW hS dX11_wrong_33
  · have h := it_f c_1 h
    cases h
    exact g_vret hx hb hr hlocks hW hS dX11_wrong_7
theorem c_X11_wrong (hB : Lk L) {S : St} {S9 : St} {p1 : Int32} (h : f_X11_wrong S p1 = some S9) : Met l yX11_wrong (gws yX11_wrong cX11_wrong 2 none) (rmk 1) (va_Pc [.ref (ad 200), .int p1] (WU g A ad L S)) (qv g A ad L S9) 0 0 A :=
  g_met [.ref (ad 200), .int p1] (by decide) (Nat.le_of_ble_eq_true rfl) (fun p e s m below meth c ls C hW hl _ => t_X11_wrong C hB h hW va_S.rf hl)
theorem hv_X11_wrong : yX11_wrong.cls = RX11 ∧ yX11_wrong.cls ≠ "java/lang/invoke/MethodHandle" ∧ yX11_wrong.cls ≠ "java/lang/invoke/VarHandle" ∧ (parseMethodDescriptor yX11_wrong.desc).map (fun d => d.parameters.length) = some 1 := by decide +kernel
/-! DroveRoadsModel.isWord -/
def f_X11_isWord (S : St) (p1 : Int64) : Option (Int32) := if (gv S 200 42) = 1 then (if (lg_cmp (gl S 200) p1) = 0 then (some 1) else (some 0)) else (some 0)
set_option maxHeartbeats 4000000 in
theorem t_X11_isWord (C : MC p s m args meth c cX11_isWord 3 (some .boolean) RX11 g A) (hB : Lk L) {S : St} {r : Int32} {p1 : Int64} (h : f_X11_isWord S p1 = some r) {H : Heap} {locs : List Loc} {ls : Array Slot} (hW : GW g A ad L S H) (hS : va_S A s.heap H locs) (hl : lv_has ls 3 [(0, .ref (ad 200)), (1, .long p1)]) : W p l e (rmk 1) s m args below meth c H locs 0 0 (MQ below (qz g A ad L r S) args s 0 0 A) (F0 m 0 ls []) := by
  obtain ⟨hx, hb, hml, hown, hts, hr, hlocks, hK, hN, hT⟩ := id C
  unfold f_X11_isWord at h
  refine lv_aload_n hx hb dX11_isWord_0 rfl (lv_at hl 0 rfl) ?_
  refine g_get (C := RX11) (T := TX11) (N := 67) (ci := 11) hx hb hts inX11 hown hK hW (hB 200 bb_200) kd_200 rfl 42 (by decide) mw_1003 rfl rfl dX11_isWord_1 ?_
  refine lv_iconst (v := 1) hx hb dX11_isWord_4 (by decide) ?_
  refine lv_icmp_ne (tgt := 21) hx hb dX11_isWord_5 (by decide) (fun c_1 => ?_) (fun c_1 => ?_)
  · have h := it_f c_1 h
    refine lv_iconst (v := 0) hx hb dX11_isWord_21 (by decide) ?_
    cases h
    exact g_zret hx hb hr hlocks hW hS (rfl) dX11_isWord_22
  · have h := it_t c_1 h
    refine lv_aload_n hx hb dX11_isWord_8 rfl (lv_at hl 0 rfl) ?_
    refine g_get (C := RX11) (T := TX11) (N := 67) (ci := 11) hx hb hts inX11 hown hK hW (hB 200 bb_200) kd_200 rfl 45 (by decide) mw_1006 rfl rfl dX11_isWord_9 ?_
    refine lv_lload_n hx hb dX11_isWord_12 rfl (lv_at hl 1 rfl) ?_
    refine W.lcmp hx hb dX11_isWord_13 ?_
    refine lv_if_ne (tgt := 21) hx hb dX11_isWord_14 (by decide) (fun c_2 => ?_) (fun c_2 => ?_)
    · have h := it_f c_2 h
      refine lv_iconst (v := 0) hx hb dX11_isWord_21 (by decide) ?_
      cases h
      exact g_zret hx hb hr hlocks hW hS (rfl) dX11_isWord_22
    · have h := it_t c_2 h
      refine lv_iconst (v := 1) hx hb dX11_isWord_17 (by decide) ?_
      refine lv_goto (tgt := 22) hx hb dX11_isWord_18 (by decide) ?_
      cases h
      exact g_zret hx hb hr hlocks hW hS (rfl) dX11_isWord_22
theorem c_X11_isWord (hB : Lk L) {S : St} {r : Int32} {p1 : Int64} (h : f_X11_isWord S p1 = some r) : Met l yX11_isWord (gws yX11_isWord cX11_isWord 3 (some .boolean)) (rmk 1) (va_Pc [.ref (ad 200), .long p1] (WU g A ad L S)) (qz g A ad L r S) 0 0 A :=
  g_met [.ref (ad 200), .long p1] (by decide) (Nat.le_of_ble_eq_true rfl) (fun p e s m below meth c ls C hW hl _ => t_X11_isWord C hB h hW va_S.rf hl)
theorem hv_X11_isWord : yX11_isWord.cls = RX11 ∧ yX11_isWord.cls ≠ "java/lang/invoke/MethodHandle" ∧ yX11_isWord.cls ≠ "java/lang/invoke/VarHandle" ∧ (parseMethodDescriptor yX11_isWord.desc).map (fun d => d.parameters.length) = some 1 := by decide +kernel
/-! DroveRoadsModel.isKey -/
def f_X11_isKey (S : St) : Option (Int32) := if (lg_cmp (gl S 200) 2003330414) = 0 then (some 1) else (if (lg_cmp (gl S 200) 25711) = 0 then (some 1) else (if (lg_cmp (gl S 200) 2002873451) = 0 then (some 1) else (if (lg_cmp (gl S 200) 1919251316) = 0 then (some 1) else (if (lg_cmp (gl S 200) 1936026732) = 0 then (some 1) else (if (lg_cmp (gl S 200) 28530) = 0 then (some 1) else (if (lg_cmp (gl S 200) 6385252) = 0 then (some 1) else (if (lg_cmp (gl S 200) 7237492) = 0 then (some 1) else (some 0))))))))
set_option maxHeartbeats 4000000 in
theorem t_X11_isKey (C : MC p s m args meth c cX11_isKey 1 (some .boolean) RX11 g A) (hB : Lk L) {S : St} {r : Int32} (h : f_X11_isKey S = some r) {H : Heap} {locs : List Loc} {ls : Array Slot} (hW : GW g A ad L S H) (hS : va_S A s.heap H locs) (hl : lv_has ls 1 [(0, .ref (ad 200))]) : W p l e (rmk 1) s m args below meth c H locs 0 0 (MQ below (qz g A ad L r S) args s 0 0 A) (F0 m 0 ls []) := by
  obtain ⟨hx, hb, hml, hown, hts, hr, hlocks, hK, hN, hT⟩ := id C
  unfold f_X11_isKey at h
  refine lv_aload_n hx hb dX11_isKey_0 rfl (lv_at hl 0 rfl) ?_
  refine g_get (C := RX11) (T := TX11) (N := 67) (ci := 11) hx hb hts inX11 hown hK hW (hB 200 bb_200) kd_200 rfl 45 (by decide) mw_1006 rfl rfl dX11_isKey_1 ?_
  refine lv_ldc2 (v := 2003330414) hx hb hown (hts _ mw_1253) dX11_isKey_4 ?_
  refine W.lcmp hx hb dX11_isKey_7 ?_
  refine lv_if_eq (tgt := 88) hx hb dX11_isKey_8 (by decide) (fun c_1 => ?_) (fun c_1 => ?_)
  · have h := it_t c_1 h
    refine lv_iconst (v := 1) hx hb dX11_isKey_88 (by decide) ?_
    refine lv_goto (tgt := 93) hx hb dX11_isKey_89 (by decide) ?_
    cases h
    exact g_zret hx hb hr hlocks hW hS (rfl) dX11_isKey_93
  · have h := it_f c_1 h
    refine lv_aload_n hx hb dX11_isKey_11 rfl (lv_at hl 0 rfl) ?_
    refine g_get (C := RX11) (T := TX11) (N := 67) (ci := 11) hx hb hts inX11 hown hK hW (hB 200 bb_200) kd_200 rfl 45 (by decide) mw_1006 rfl rfl dX11_isKey_12 ?_
    refine lv_ldc2 (v := 25711) hx hb hown (hts _ mw_1266) dX11_isKey_15 ?_
    refine W.lcmp hx hb dX11_isKey_18 ?_
    refine lv_if_eq (tgt := 88) hx hb dX11_isKey_19 (by decide) (fun c_2 => ?_) (fun c_2 => ?_)
    · have h := it_t c_2 h
      refine lv_iconst (v := 1) hx hb dX11_isKey_88 (by decide) ?_
      refine lv_goto (tgt := 93) hx hb dX11_isKey_89 (by decide) ?_
      cases h
      exact g_zret hx hb hr hlocks hW hS (rfl) dX11_isKey_93
    · have h := it_f c_2 h
      refine lv_aload_n hx hb dX11_isKey_22 rfl (lv_at hl 0 rfl) ?_
      refine g_get (C := RX11) (T := TX11) (N := 67) (ci := 11) hx hb hts inX11 hown hK hW (hB 200 bb_200) kd_200 rfl 45 (by decide) mw_1006 rfl rfl dX11_isKey_23 ?_
      refine lv_ldc2 (v := 2002873451) hx hb hown (hts _ mw_1305) dX11_isKey_26 ?_
      refine W.lcmp hx hb dX11_isKey_29 ?_
      refine lv_if_eq (tgt := 88) hx hb dX11_isKey_30 (by decide) (fun c_3 => ?_) (fun c_3 => ?_)
      · have h := it_t c_3 h
        refine lv_iconst (v := 1) hx hb dX11_isKey_88 (by decide) ?_
        refine lv_goto (tgt := 93) hx hb dX11_isKey_89 (by decide) ?_
        cases h
        exact g_zret hx hb hr hlocks hW hS (rfl) dX11_isKey_93
      · have h := it_f c_3 h
        refine lv_aload_n hx hb dX11_isKey_33 rfl (lv_at hl 0 rfl) ?_
        refine g_get (C := RX11) (T := TX11) (N := 67) (ci := 11) hx hb hts inX11 hown hK hW (hB 200 bb_200) kd_200 rfl 45 (by decide) mw_1006 rfl rfl dX11_isKey_34 ?_
        refine lv_ldc2 (v := 1919251316) hx hb hown (hts _ mw_1306) dX11_isKey_37 ?_
        refine W.lcmp hx hb dX11_isKey_40 ?_
        refine lv_if_eq (tgt := 88) hx hb dX11_isKey_41 (by decide) (fun c_4 => ?_) (fun c_4 => ?_)
        · have h := it_t c_4 h
          refine lv_iconst (v := 1) hx hb dX11_isKey_88 (by decide) ?_
          refine lv_goto (tgt := 93) hx hb dX11_isKey_89 (by decide) ?_
          cases h
          exact g_zret hx hb hr hlocks hW hS (rfl) dX11_isKey_93
        · have h := it_f c_4 h
          refine lv_aload_n hx hb dX11_isKey_44 rfl (lv_at hl 0 rfl) ?_
          refine g_get (C := RX11) (T := TX11) (N := 67) (ci := 11) hx hb hts inX11 hown hK hW (hB 200 bb_200) kd_200 rfl 45 (by decide) mw_1006 rfl rfl dX11_isKey_45 ?_
          refine lv_ldc2 (v := 1936026732) hx hb hown (hts _ mw_1307) dX11_isKey_48 ?_
          refine W.lcmp hx hb dX11_isKey_51 ?_
          refine lv_if_eq (tgt := 88) hx hb dX11_isKey_52 (by decide) (fun c_5 => ?_) (fun c_5 => ?_)
          · have h := it_t c_5 h
            refine lv_iconst (v := 1) hx hb dX11_isKey_88 (by decide) ?_
            refine lv_goto (tgt := 93) hx hb dX11_isKey_89 (by decide) ?_
            cases h
            exact g_zret hx hb hr hlocks hW hS (rfl) dX11_isKey_93
          · have h := it_f c_5 h
            refine lv_aload_n hx hb dX11_isKey_55 rfl (lv_at hl 0 rfl) ?_
            refine g_get (C := RX11) (T := TX11) (N := 67) (ci := 11) hx hb hts inX11 hown hK hW (hB 200 bb_200) kd_200 rfl 45 (by decide) mw_1006 rfl rfl dX11_isKey_56 ?_
            refine lv_ldc2 (v := 28530) hx hb hown (hts _ mw_1292) dX11_isKey_59 ?_
            refine W.lcmp hx hb dX11_isKey_62 ?_
            refine lv_if_eq (tgt := 88) hx hb dX11_isKey_63 (by decide) (fun c_6 => ?_) (fun c_6 => ?_)
            · have h := it_t c_6 h
              refine lv_iconst (v := 1) hx hb dX11_isKey_88 (by decide) ?_
              refine lv_goto (tgt := 93) hx hb dX11_isKey_89 (by decide) ?_
              cases h
              exact g_zret hx hb hr hlocks hW hS (rfl) dX11_isKey_93
            · have h := it_f c_6 h
              refine lv_aload_n hx hb dX11_isKey_66 rfl (lv_at hl 0 rfl) ?_
              refine g_get (C := RX11) (T := TX11) (N := 67) (ci := 11) hx hb hts inX11 hown hK hW (hB 200 bb_200) kd_200 rfl 45 (by decide) mw_1006 rfl rfl dX11_isKey_67 ?_
              refine lv_ldc2 (v := 6385252) hx hb hown (hts _ mw_1291) dX11_isKey_70 ?_
              refine W.lcmp hx hb dX11_isKey_73 ?_
              refine lv_if_eq (tgt := 88) hx hb dX11_isKey_74 (by decide) (fun c_7 => ?_) (fun c_7 => ?_)
              · have h := it_t c_7 h
                refine lv_iconst (v := 1) hx hb dX11_isKey_88 (by decide) ?_
                refine lv_goto (tgt := 93) hx hb dX11_isKey_89 (by decide) ?_
                cases h
                exact g_zret hx hb hr hlocks hW hS (rfl) dX11_isKey_93
              · have h := it_f c_7 h
                refine lv_aload_n hx hb dX11_isKey_77 rfl (lv_at hl 0 rfl) ?_
                refine g_get (C := RX11) (T := TX11) (N := 67) (ci := 11) hx hb hts inX11 hown hK hW (hB 200 bb_200) kd_200 rfl 45 (by decide) mw_1006 rfl rfl dX11_isKey_78 ?_
                refine lv_ldc2 (v := 7237492) hx hb hown (hts _ mw_1308) dX11_isKey_81 ?_
                refine W.lcmp hx hb dX11_isKey_84 ?_
                refine lv_if_ne (tgt := 92) hx hb dX11_isKey_85 (by decide) (fun c_8 => ?_) (fun c_8 => ?_)
                · have h := it_f c_8 h
                  refine lv_iconst (v := 0) hx hb dX11_isKey_92 (by decide) ?_
                  cases h
                  exact g_zret hx hb hr hlocks hW hS (rfl) dX11_isKey_93
                · have h := it_t c_8 h
                  refine lv_iconst (v := 1) hx hb dX11_isKey_88 (by decide) ?_
                  refine lv_goto (tgt := 93) hx hb dX11_isKey_89 (by decide) ?_
                  cases h
                  exact g_zret hx hb hr hlocks hW hS (rfl) dX11_isKey_93
theorem c_X11_isKey (hB : Lk L) {S : St} {r : Int32} (h : f_X11_isKey S = some r) : Met l yX11_isKey (gws yX11_isKey cX11_isKey 1 (some .boolean)) (rmk 1) (va_Pc [.ref (ad 200)] (WU g A ad L S)) (qz g A ad L r S) 0 0 A :=
  g_met [.ref (ad 200)] (by decide) (Nat.le_of_ble_eq_true rfl) (fun p e s m below meth c ls C hW hl _ => t_X11_isKey C hB h hW va_S.rf hl)
theorem hv_X11_isKey : yX11_isKey.cls = RX11 ∧ yX11_isKey.cls ≠ "java/lang/invoke/MethodHandle" ∧ yX11_isKey.cls ≠ "java/lang/invoke/VarHandle" ∧ (parseMethodDescriptor yX11_isKey.desc).map (fun d => d.parameters.length) = some 0 := by decide +kernel
/-! DroveRoadsModel.named -/
def f_X11_named (S : St) : Option (Int32) := if (lg_cmp (gl S 200) 6578553) = 0 then (some 0) else (if (lg_cmp (gl S 200) 448377480307) = 0 then (some 1) else (if (lg_cmp (gl S 200) 131277443786868) = 0 then (some 2) else (if (lg_cmp (gl S 200) 1936683621) = 0 then (some 3) else (if (lg_cmp (gl S 200) 444300620659) = 0 then (some 4) else (if (lg_cmp (gl S 200) 469920146803) = 0 then (some 5) else (if (lg_cmp (gl S 200) 126943688024933) = 0 then (some 6) else (if (lg_cmp (gl S 200) 482955846501) = 0 then (some 7) else (if (lg_cmp (gl S 200) 2002873972) = 0 then (some 8) else (some (-1))))))))))
set_option maxHeartbeats 4000000 in
theorem t_X11_named (C : MC p s m args meth c cX11_named 1 (some .int) RX11 g A) (hB : Lk L) {S : St} {r : Int32} (h : f_X11_named S = some r) {H : Heap} {locs : List Loc} {ls : Array Slot} (hW : GW g A ad L S H) (hS : va_S A s.heap H locs) (hl : lv_has ls 1 [(0, .ref (ad 200))]) : W p l e (rmk 1) s m args below meth c H locs 0 0 (MQ below (qi g A ad L r S) args s 0 0 A) (F0 m 0 ls []) := by
  obtain ⟨hx, hb, hml, hown, hts, hr, hlocks, hK, hN, hT⟩ := id C
  unfold f_X11_named at h
  refine lv_aload_n hx hb dX11_named_0 rfl (lv_at hl 0 rfl) ?_
  refine g_get (C := RX11) (T := TX11) (N := 67) (ci := 11) hx hb hts inX11 hown hK hW (hB 200 bb_200) kd_200 rfl 45 (by decide) mw_1006 rfl rfl dX11_named_1 ?_
  refine lv_ldc2 (v := 6578553) hx hb hown (hts _ mw_1313) dX11_named_4 ?_
  refine W.lcmp hx hb dX11_named_7 ?_
  refine lv_if_ne (tgt := 13) hx hb dX11_named_8 (by decide) (fun c_1 => ?_) (fun c_1 => ?_)
  · have h := it_f c_1 h
    refine lv_aload_n hx hb dX11_named_13 rfl (lv_at hl 0 rfl) ?_
    refine g_get (C := RX11) (T := TX11) (N := 67) (ci := 11) hx hb hts inX11 hown hK hW (hB 200 bb_200) kd_200 rfl 45 (by decide) mw_1006 rfl rfl dX11_named_14 ?_
    refine lv_ldc2 (v := 448377480307) hx hb hown (hts _ mw_1314) dX11_named_17 ?_
    refine W.lcmp hx hb dX11_named_20 ?_
    refine lv_if_ne (tgt := 26) hx hb dX11_named_21 (by decide) (fun c_2 => ?_) (fun c_2 => ?_)
    · have h := it_f c_2 h
      refine lv_aload_n hx hb dX11_named_26 rfl (lv_at hl 0 rfl) ?_
      refine g_get (C := RX11) (T := TX11) (N := 67) (ci := 11) hx hb hts inX11 hown hK hW (hB 200 bb_200) kd_200 rfl 45 (by decide) mw_1006 rfl rfl dX11_named_27 ?_
      refine lv_ldc2 (v := 131277443786868) hx hb hown (hts _ mw_1315) dX11_named_30 ?_
      refine W.lcmp hx hb dX11_named_33 ?_
      refine lv_if_ne (tgt := 39) hx hb dX11_named_34 (by decide) (fun c_3 => ?_) (fun c_3 => ?_)
      · have h := it_f c_3 h
        refine lv_aload_n hx hb dX11_named_39 rfl (lv_at hl 0 rfl) ?_
        refine g_get (C := RX11) (T := TX11) (N := 67) (ci := 11) hx hb hts inX11 hown hK hW (hB 200 bb_200) kd_200 rfl 45 (by decide) mw_1006 rfl rfl dX11_named_40 ?_
        refine lv_ldc2 (v := 1936683621) hx hb hown (hts _ mw_1316) dX11_named_43 ?_
        refine W.lcmp hx hb dX11_named_46 ?_
        refine lv_if_ne (tgt := 52) hx hb dX11_named_47 (by decide) (fun c_4 => ?_) (fun c_4 => ?_)
        · have h := it_f c_4 h
          refine lv_aload_n hx hb dX11_named_52 rfl (lv_at hl 0 rfl) ?_
          refine g_get (C := RX11) (T := TX11) (N := 67) (ci := 11) hx hb hts inX11 hown hK hW (hB 200 bb_200) kd_200 rfl 45 (by decide) mw_1006 rfl rfl dX11_named_53 ?_
          refine lv_ldc2 (v := 444300620659) hx hb hown (hts _ mw_1317) dX11_named_56 ?_
          refine W.lcmp hx hb dX11_named_59 ?_
          refine lv_if_ne (tgt := 65) hx hb dX11_named_60 (by decide) (fun c_5 => ?_) (fun c_5 => ?_)
          · have h := it_f c_5 h
            refine lv_aload_n hx hb dX11_named_65 rfl (lv_at hl 0 rfl) ?_
            refine g_get (C := RX11) (T := TX11) (N := 67) (ci := 11) hx hb hts inX11 hown hK hW (hB 200 bb_200) kd_200 rfl 45 (by decide) mw_1006 rfl rfl dX11_named_66 ?_
            refine lv_ldc2 (v := 469920146803) hx hb hown (hts _ mw_1318) dX11_named_69 ?_
            refine W.lcmp hx hb dX11_named_72 ?_
            refine lv_if_ne (tgt := 78) hx hb dX11_named_73 (by decide) (fun c_6 => ?_) (fun c_6 => ?_)
            · have h := it_f c_6 h
              refine lv_aload_n hx hb dX11_named_78 rfl (lv_at hl 0 rfl) ?_
              refine g_get (C := RX11) (T := TX11) (N := 67) (ci := 11) hx hb hts inX11 hown hK hW (hB 200 bb_200) kd_200 rfl 45 (by decide) mw_1006 rfl rfl dX11_named_79 ?_
              refine lv_ldc2 (v := 126943688024933) hx hb hown (hts _ mw_1319) dX11_named_82 ?_
              refine W.lcmp hx hb dX11_named_85 ?_
              refine lv_if_ne (tgt := 92) hx hb dX11_named_86 (by decide) (fun c_7 => ?_) (fun c_7 => ?_)
              · have h := it_f c_7 h
                refine lv_aload_n hx hb dX11_named_92 rfl (lv_at hl 0 rfl) ?_
                refine g_get (C := RX11) (T := TX11) (N := 67) (ci := 11) hx hb hts inX11 hown hK hW (hB 200 bb_200) kd_200 rfl 45 (by decide) mw_1006 rfl rfl dX11_named_93 ?_
                refine lv_ldc2 (v := 482955846501) hx hb hown (hts _ mw_1320) dX11_named_96 ?_
                refine W.lcmp hx hb dX11_named_99 ?_
                refine lv_if_ne (tgt := 106) hx hb dX11_named_100 (by decide) (fun c_8 => ?_) (fun c_8 => ?_)
                · have h := it_f c_8 h
                  refine lv_aload_n hx hb dX11_named_106 rfl (lv_at hl 0 rfl) ?_
                  refine g_get (C := RX11) (T := TX11) (N := 67) (ci := 11) hx hb hts inX11 hown hK hW (hB 200 bb_200) kd_200 rfl 45 (by decide) mw_1006 rfl rfl dX11_named_107 ?_
                  refine lv_ldc2 (v := 2002873972) hx hb hown (hts _ mw_1321) dX11_named_110 ?_
                  refine W.lcmp hx hb dX11_named_113 ?_
                  refine lv_if_ne (tgt := 122) hx hb dX11_named_114 (by decide) (fun c_9 => ?_) (fun c_9 => ?_)
                  · have h := it_f c_9 h
                    refine lv_iconst (v := (-1)) hx hb dX11_named_122 (by decide) ?_
                    cases h
                    exact g_iret hx hb hr hlocks hW hS dX11_named_123
                  · have h := it_t c_9 h
                    refine lv_bipush (v := 8) hx hb dX11_named_117 (by decide) ?_
                    refine lv_goto (tgt := 123) hx hb dX11_named_119 (by decide) ?_
                    cases h
                    exact g_iret hx hb hr hlocks hW hS dX11_named_123
                · have h := it_t c_8 h
                  refine lv_bipush (v := 7) hx hb dX11_named_103 (by decide) ?_
                  cases h
                  exact g_iret hx hb hr hlocks hW hS dX11_named_105
              · have h := it_t c_7 h
                refine lv_bipush (v := 6) hx hb dX11_named_89 (by decide) ?_
                cases h
                exact g_iret hx hb hr hlocks hW hS dX11_named_91
            · have h := it_t c_6 h
              refine lv_iconst (v := 5) hx hb dX11_named_76 (by decide) ?_
              cases h
              exact g_iret hx hb hr hlocks hW hS dX11_named_77
          · have h := it_t c_5 h
            refine lv_iconst (v := 4) hx hb dX11_named_63 (by decide) ?_
            cases h
            exact g_iret hx hb hr hlocks hW hS dX11_named_64
        · have h := it_t c_4 h
          refine lv_iconst (v := 3) hx hb dX11_named_50 (by decide) ?_
          cases h
          exact g_iret hx hb hr hlocks hW hS dX11_named_51
      · have h := it_t c_3 h
        refine lv_iconst (v := 2) hx hb dX11_named_37 (by decide) ?_
        cases h
        exact g_iret hx hb hr hlocks hW hS dX11_named_38
    · have h := it_t c_2 h
      refine lv_iconst (v := 1) hx hb dX11_named_24 (by decide) ?_
      cases h
      exact g_iret hx hb hr hlocks hW hS dX11_named_25
  · have h := it_t c_1 h
    refine lv_iconst (v := 0) hx hb dX11_named_11 (by decide) ?_
    cases h
    exact g_iret hx hb hr hlocks hW hS dX11_named_12
theorem c_X11_named (hB : Lk L) {S : St} {r : Int32} (h : f_X11_named S = some r) : Met l yX11_named (gws yX11_named cX11_named 1 (some .int)) (rmk 1) (va_Pc [.ref (ad 200)] (WU g A ad L S)) (qi g A ad L r S) 0 0 A :=
  g_met [.ref (ad 200)] (by decide) (Nat.le_of_ble_eq_true rfl) (fun p e s m below meth c ls C hW hl _ => t_X11_named C hB h hW va_S.rf hl)
theorem hv_X11_named : yX11_named.cls = RX11 ∧ yX11_named.cls ≠ "java/lang/invoke/MethodHandle" ∧ yX11_named.cls ≠ "java/lang/invoke/VarHandle" ∧ (parseMethodDescriptor yX11_named.desc).map (fun d => d.parameters.length) = some 0 := by decide +kernel
/-! DroveRoadsModel.step -/
def f_X11_step (S : St) (p1 : Int32) (p2 : Int32) : Option (St) := if (gv S 200 34) < 0 ∨ 500 ≤ ix (gv S 200 34) then none else bn (sv S 229 (ix (gv S 200 34)) p1) fun S_2 => if (gv S_2 200 34) < 0 ∨ 500 ≤ ix (gv S_2 200 34) then none else bn (sv S_2 230 (ix (gv S_2 200 34)) p2) fun S_4 => bn (sv S_4 200 34 ((gv S_4 200 34) + 1)) fun S_5 => some S_5
set_option maxHeartbeats 4000000 in
theorem t_X11_step (C : MC p s m args meth c cX11_step 3 none RX11 g A) (hB : Lk L) {S : St} {S9 : St} {p1 : Int32} {p2 : Int32} (h : f_X11_step S p1 p2 = some S9) {H : Heap} {locs : List Loc} {ls : Array Slot} (hW : GW g A ad L S H) (hS : va_S A s.heap H locs) (hl : lv_has ls 3 [(0, .ref (ad 200)), (1, .int p1), (2, .int p2)]) : W p l e (rmk 1) s m args below meth c H locs 0 0 (MQ below (qv g A ad L S9) args s 0 0 A) (F0 m 0 ls []) := by
  obtain ⟨hx, hb, hml, hown, hts, hr, hlocks, hK, hN, hT⟩ := id C
  unfold f_X11_step at h
  refine lv_aload_n hx hb dX11_step_0 rfl (lv_at hl 0 rfl) ?_
  refine g_get (C := RX11) (T := TX11) (N := 67) (ci := 11) hx hb hts inX11 hown hK hW (hB 200 bb_200) kd_200 rfl 28 (by decide) mw_989 rfl rfl dX11_step_1 ?_
  refine lv_aload_n hx hb dX11_step_4 rfl (lv_at hl 0 rfl) ?_
  refine g_get (C := RX11) (T := TX11) (N := 67) (ci := 11) hx hb hts inX11 hown hK hW (hB 200 bb_200) kd_200 rfl 34 (by decide) mw_995 rfl rfl dX11_step_5 ?_
  refine lv_iload_n hx hb dX11_step_8 rfl (lv_at hl 1 rfl) ?_
  obtain ⟨hi_1, h⟩ := ck_n h
  refine g_iast hx hb hK hW hS (hB 229 bb_229) (fun _ => kd_229) hi_1 dX11_step_9 (fun S_2 eS_2 H locs hW hS => ?_)
  have h := bn_at eS_2 h
  refine lv_aload_n hx hb dX11_step_10 rfl (lv_at hl 0 rfl) ?_
  refine g_get (C := RX11) (T := TX11) (N := 67) (ci := 11) hx hb hts inX11 hown hK hW (hB 200 bb_200) kd_200 rfl 29 (by decide) mw_990 rfl rfl dX11_step_11 ?_
  refine lv_aload_n hx hb dX11_step_14 rfl (lv_at hl 0 rfl) ?_
  refine g_get (C := RX11) (T := TX11) (N := 67) (ci := 11) hx hb hts inX11 hown hK hW (hB 200 bb_200) kd_200 rfl 34 (by decide) mw_995 rfl rfl dX11_step_15 ?_
  refine lv_iload_n hx hb dX11_step_18 rfl (lv_at hl 2 rfl) ?_
  obtain ⟨hi_3, h⟩ := ck_n h
  refine g_iast hx hb hK hW hS (hB 230 bb_230) (fun _ => kd_230) hi_3 dX11_step_19 (fun S_4 eS_4 H locs hW hS => ?_)
  have h := bn_at eS_4 h
  refine lv_aload_n hx hb dX11_step_20 rfl (lv_at hl 0 rfl) ?_
  refine lv_dup hx hb dX11_step_21 rfl ?_
  refine g_get (C := RX11) (T := TX11) (N := 67) (ci := 11) hx hb hts inX11 hown hK hW (hB 200 bb_200) kd_200 rfl 34 (by decide) mw_995 rfl rfl dX11_step_22 ?_
  refine lv_iconst (v := 1) hx hb dX11_step_25 (by decide) ?_
  refine lv_iadd hx hb dX11_step_26 ?_
  refine g_put (C := RX11) (T := TX11) (N := 67) (ci := 11) hx hb hts inX11 tyX11 tyX11_ok nmX11 hown hK hW hS (hB 200 bb_200) kd_200 rfl 34 (by decide) mw_995 rfl rfl rfl rfl (Nat.le_of_ble_eq_true rfl) (sv S_4 200 34 ((gv S_4 200 34) + 1)) (ps_200_34) cellOf_sv dX11_step_27 (fun S_5 eS_5 H locs hW hS => ?_)
  have h := bn_at eS_5 h
  cases h
  exact g_vret hx hb hr hlocks hW hS dX11_step_30
theorem c_X11_step (hB : Lk L) {S : St} {S9 : St} {p1 : Int32} {p2 : Int32} (h : f_X11_step S p1 p2 = some S9) : Met l yX11_step (gws yX11_step cX11_step 3 none) (rmk 1) (va_Pc [.ref (ad 200), .int p1, .int p2] (WU g A ad L S)) (qv g A ad L S9) 0 0 A :=
  g_met [.ref (ad 200), .int p1, .int p2] (by decide) (Nat.le_of_ble_eq_true rfl) (fun p e s m below meth c ls C hW hl _ => t_X11_step C hB h hW va_S.rf hl)
theorem hv_X11_step : yX11_step.cls = RX11 ∧ yX11_step.cls ≠ "java/lang/invoke/MethodHandle" ∧ yX11_step.cls ≠ "java/lang/invoke/VarHandle" ∧ (parseMethodDescriptor yX11_step.desc).map (fun d => d.parameters.length) = some 2 := by decide +kernel
/-! DroveRoadsModel.hold -/
def f_X11_hold (S : St) (p1 : Int32) : Option (St) := if (gv S 200 47) < 0 ∨ 400 ≤ ix (gv S 200 47) then none else bn (sv S 247 (ix (gv S 200 47)) p1) fun S_2 => bn (sv S_2 200 47 ((gv S_2 200 47) + 1)) fun S_3 => if p1 = 48 then (bn (sv S_3 200 48 ((gv S_3 200 48) + 1)) fun S_5 => some S_5) else (if p1 = 40 then (bn (sv S_3 200 48 ((gv S_3 200 48) + 1)) fun S_7 => some S_7) else (some S_3))
set_option maxHeartbeats 4000000 in
theorem t_X11_hold (C : MC p s m args meth c cX11_hold 2 none RX11 g A) (hB : Lk L) {S : St} {S9 : St} {p1 : Int32} (h : f_X11_hold S p1 = some S9) {H : Heap} {locs : List Loc} {ls : Array Slot} (hW : GW g A ad L S H) (hS : va_S A s.heap H locs) (hl : lv_has ls 2 [(0, .ref (ad 200)), (1, .int p1)]) : W p l e (rmk 1) s m args below meth c H locs 0 0 (MQ below (qv g A ad L S9) args s 0 0 A) (F0 m 0 ls []) := by
  obtain ⟨hx, hb, hml, hown, hts, hr, hlocks, hK, hN, hT⟩ := id C
  unfold f_X11_hold at h
  refine lv_aload_n hx hb dX11_hold_0 rfl (lv_at hl 0 rfl) ?_
  refine g_get (C := RX11) (T := TX11) (N := 67) (ci := 11) hx hb hts inX11 hown hK hW (hB 200 bb_200) kd_200 rfl 46 (by decide) mw_1007 rfl rfl dX11_hold_1 ?_
  refine lv_aload_n hx hb dX11_hold_4 rfl (lv_at hl 0 rfl) ?_
  refine g_get (C := RX11) (T := TX11) (N := 67) (ci := 11) hx hb hts inX11 hown hK hW (hB 200 bb_200) kd_200 rfl 47 (by decide) mw_1008 rfl rfl dX11_hold_5 ?_
  refine lv_iload_n hx hb dX11_hold_8 rfl (lv_at hl 1 rfl) ?_
  obtain ⟨hi_1, h⟩ := ck_n h
  refine g_iast hx hb hK hW hS (hB 247 bb_247) (fun _ => kd_247) hi_1 dX11_hold_9 (fun S_2 eS_2 H locs hW hS => ?_)
  have h := bn_at eS_2 h
  refine lv_aload_n hx hb dX11_hold_10 rfl (lv_at hl 0 rfl) ?_
  refine lv_dup hx hb dX11_hold_11 rfl ?_
  refine g_get (C := RX11) (T := TX11) (N := 67) (ci := 11) hx hb hts inX11 hown hK hW (hB 200 bb_200) kd_200 rfl 47 (by decide) mw_1008 rfl rfl dX11_hold_12 ?_
  refine lv_iconst (v := 1) hx hb dX11_hold_15 (by decide) ?_
  refine lv_iadd hx hb dX11_hold_16 ?_
  refine g_put (C := RX11) (T := TX11) (N := 67) (ci := 11) hx hb hts inX11 tyX11 tyX11_ok nmX11 hown hK hW hS (hB 200 bb_200) kd_200 rfl 47 (by decide) mw_1008 rfl rfl rfl rfl (Nat.le_of_ble_eq_true rfl) (sv S_2 200 47 ((gv S_2 200 47) + 1)) (ps_200_47) cellOf_sv dX11_hold_17 (fun S_3 eS_3 H locs hW hS => ?_)
  have h := bn_at eS_3 h
  refine lv_iload_n hx hb dX11_hold_20 rfl (lv_at hl 1 rfl) ?_
  refine lv_bipush (v := 48) hx hb dX11_hold_21 (by decide) ?_
  refine lv_icmp_eq (tgt := 32) hx hb dX11_hold_23 (by decide) (fun c_4 => ?_) (fun c_4 => ?_)
  · have h := it_t c_4 h
    refine lv_aload_n hx hb dX11_hold_32 rfl (lv_at hl 0 rfl) ?_
    refine lv_dup hx hb dX11_hold_33 rfl ?_
    refine g_get (C := RX11) (T := TX11) (N := 67) (ci := 11) hx hb hts inX11 hown hK hW (hB 200 bb_200) kd_200 rfl 48 (by decide) mw_1009 rfl rfl dX11_hold_34 ?_
    refine lv_iconst (v := 1) hx hb dX11_hold_37 (by decide) ?_
    refine lv_iadd hx hb dX11_hold_38 ?_
    refine g_put (C := RX11) (T := TX11) (N := 67) (ci := 11) hx hb hts inX11 tyX11 tyX11_ok nmX11 hown hK hW hS (hB 200 bb_200) kd_200 rfl 48 (by decide) mw_1009 rfl rfl rfl rfl (Nat.le_of_ble_eq_true rfl) (sv S_3 200 48 ((gv S_3 200 48) + 1)) (ps_200_48) cellOf_sv dX11_hold_39 (fun S_5 eS_5 H locs hW hS => ?_)
    have h := bn_at eS_5 h
    cases h
    exact g_vret hx hb hr hlocks hW hS dX11_hold_42
  · have h := it_f c_4 h
    refine lv_iload_n hx hb dX11_hold_26 rfl (lv_at hl 1 rfl) ?_
    refine lv_bipush (v := 40) hx hb dX11_hold_27 (by decide) ?_
    refine lv_icmp_ne (tgt := 42) hx hb dX11_hold_29 (by decide) (fun c_6 => ?_) (fun c_6 => ?_)
    · have h := it_f c_6 h
      cases h
      exact g_vret hx hb hr hlocks hW hS dX11_hold_42
    · have h := it_t c_6 h
      refine lv_aload_n hx hb dX11_hold_32 rfl (lv_at hl 0 rfl) ?_
      refine lv_dup hx hb dX11_hold_33 rfl ?_
      refine g_get (C := RX11) (T := TX11) (N := 67) (ci := 11) hx hb hts inX11 hown hK hW (hB 200 bb_200) kd_200 rfl 48 (by decide) mw_1009 rfl rfl dX11_hold_34 ?_
      refine lv_iconst (v := 1) hx hb dX11_hold_37 (by decide) ?_
      refine lv_iadd hx hb dX11_hold_38 ?_
      refine g_put (C := RX11) (T := TX11) (N := 67) (ci := 11) hx hb hts inX11 tyX11 tyX11_ok nmX11 hown hK hW hS (hB 200 bb_200) kd_200 rfl 48 (by decide) mw_1009 rfl rfl rfl rfl (Nat.le_of_ble_eq_true rfl) (sv S_3 200 48 ((gv S_3 200 48) + 1)) (ps_200_48) cellOf_sv dX11_hold_39 (fun S_7 eS_7 H locs hW hS => ?_)
      have h := bn_at eS_7 h
      cases h
      exact g_vret hx hb hr hlocks hW hS dX11_hold_42
theorem c_X11_hold (hB : Lk L) {S : St} {S9 : St} {p1 : Int32} (h : f_X11_hold S p1 = some S9) : Met l yX11_hold (gws yX11_hold cX11_hold 2 none) (rmk 1) (va_Pc [.ref (ad 200), .int p1] (WU g A ad L S)) (qv g A ad L S9) 0 0 A :=
  g_met [.ref (ad 200), .int p1] (by decide) (Nat.le_of_ble_eq_true rfl) (fun p e s m below meth c ls C hW hl _ => t_X11_hold C hB h hW va_S.rf hl)
theorem hv_X11_hold : yX11_hold.cls = RX11 ∧ yX11_hold.cls ≠ "java/lang/invoke/MethodHandle" ∧ yX11_hold.cls ≠ "java/lang/invoke/VarHandle" ∧ (parseMethodDescriptor yX11_hold.desc).map (fun d => d.parameters.length) = some 1 := by decide +kernel
/-! DroveRoadsModel.pop -/
def f_X11_pop (S : St) : Option (St) := bn (sv S 200 47 ((gv S 200 47) - 1)) fun S_1 => if (gv S_1 200 47) < 0 ∨ 400 ≤ ix (gv S_1 200 47) then none else if (gv S_1 247 (ix (gv S_1 200 47))) = 40 then (bn (sv S_1 200 48 ((gv S_1 200 48) - 1)) fun S_7 => if (gv S_7 200 47) < 0 ∨ 400 ≤ ix (gv S_7 200 47) then none else cl0 (f_X11_step S_7 (gv S_7 247 (ix (gv S_7 200 47))) 0) fun S_10 => some S_10) else (if (gv S_1 200 47) < 0 ∨ 400 ≤ ix (gv S_1 200 47) then none else cl0 (f_X11_step S_1 (gv S_1 247 (ix (gv S_1 200 47))) 0) fun S_6 => some S_6)
set_option maxHeartbeats 4000000 in
theorem t_X11_pop (C : MC p s m args meth c cX11_pop 1 none RX11 g A) (hB : Lk L) {S : St} {S9 : St} (h : f_X11_pop S = some S9) {H : Heap} {locs : List Loc} {ls : Array Slot} (hW : GW g A ad L S H) (hS : va_S A s.heap H locs) (hl : lv_has ls 1 [(0, .ref (ad 200))]) : W p l e (rmk 2) s m args below meth c H locs 0 0 (MQ below (qv g A ad L S9) args s 0 0 A) (F0 m 0 ls []) := by
  obtain ⟨hx, hb, hml, hown, hts, hr, hlocks, hK, hN, hT⟩ := id C
  unfold f_X11_pop at h
  refine lv_aload_n hx hb dX11_pop_0 rfl (lv_at hl 0 rfl) ?_
  refine lv_dup hx hb dX11_pop_1 rfl ?_
  refine g_get (C := RX11) (T := TX11) (N := 67) (ci := 11) hx hb hts inX11 hown hK hW (hB 200 bb_200) kd_200 rfl 47 (by decide) mw_1008 rfl rfl dX11_pop_2 ?_
  refine lv_iconst (v := 1) hx hb dX11_pop_5 (by decide) ?_
  refine lv_isub hx hb dX11_pop_6 ?_
  refine g_put (C := RX11) (T := TX11) (N := 67) (ci := 11) hx hb hts inX11 tyX11 tyX11_ok nmX11 hown hK hW hS (hB 200 bb_200) kd_200 rfl 47 (by decide) mw_1008 rfl rfl rfl rfl (Nat.le_of_ble_eq_true rfl) (sv S 200 47 ((gv S 200 47) - 1)) (ps_200_47) cellOf_sv dX11_pop_7 (fun S_1 eS_1 H locs hW hS => ?_)
  have h := bn_at eS_1 h
  refine lv_aload_n hx hb dX11_pop_10 rfl (lv_at hl 0 rfl) ?_
  refine g_get (C := RX11) (T := TX11) (N := 67) (ci := 11) hx hb hts inX11 hown hK hW (hB 200 bb_200) kd_200 rfl 46 (by decide) mw_1007 rfl rfl dX11_pop_11 ?_
  refine lv_aload_n hx hb dX11_pop_14 rfl (lv_at hl 0 rfl) ?_
  refine g_get (C := RX11) (T := TX11) (N := 67) (ci := 11) hx hb hts inX11 hown hK hW (hB 200 bb_200) kd_200 rfl 47 (by decide) mw_1008 rfl rfl dX11_pop_15 ?_
  obtain ⟨hi_2, h⟩ := ck_n h
  refine g_iald hx hb hK hW (hB 247 bb_247) kd_247 hi_2 dX11_pop_18 ?_
  refine lv_bipush (v := 40) hx hb dX11_pop_19 (by decide) ?_
  refine lv_icmp_ne (tgt := 34) hx hb dX11_pop_21 (by decide) (fun c_3 => ?_) (fun c_3 => ?_)
  · have h := it_f c_3 h
    refine lv_aload_n hx hb dX11_pop_34 rfl (lv_at hl 0 rfl) ?_
    refine lv_aload_n hx hb dX11_pop_35 rfl (lv_at hl 0 rfl) ?_
    refine g_get (C := RX11) (T := TX11) (N := 67) (ci := 11) hx hb hts inX11 hown hK hW (hB 200 bb_200) kd_200 rfl 46 (by decide) mw_1007 rfl rfl dX11_pop_36 ?_
    refine lv_aload_n hx hb dX11_pop_39 rfl (lv_at hl 0 rfl) ?_
    refine g_get (C := RX11) (T := TX11) (N := 67) (ci := 11) hx hb hts inX11 hown hK hW (hB 200 bb_200) kd_200 rfl 47 (by decide) mw_1008 rfl rfl dX11_pop_40 ?_
    obtain ⟨hi_4, h⟩ := ck_n h
    refine g_iald hx hb hK hW (hB 247 bb_247) kd_247 hi_4 dX11_pop_43 ?_
    refine lv_iconst (v := 0) hx hb dX11_pop_44 (by decide) ?_
    obtain ⟨S_6, hc_5, h⟩ := cl0_ex h
    refine g_cv (g_runV (ci := 11) (o := 200) (As := [.int (gv S_1 247 (ix (gv S_1 200 47))), .int 0]) (rest := []) hx hb hml hown hts hK hN hT hS hW (c_X11_step hB hc_5) (hB 200 bb_200) kd_200 rfl (gw_V mw_1283 mw_1285 mw_50 mw_73 mw_1286) hv_X11_step rfl rfl rfl (rm_ok (by decide) (by decide)) hl.1 (Nat.le_of_ble_eq_true rfl) dX11_pop_45 rfl ⟨Nat.zero_le _, Nat.zero_le _⟩) hS (fun H locs hW hS => ?_)
    cases h
    exact g_vret hx hb hr hlocks hW hS dX11_pop_48
  · have h := it_t c_3 h
    refine lv_aload_n hx hb dX11_pop_24 rfl (lv_at hl 0 rfl) ?_
    refine lv_dup hx hb dX11_pop_25 rfl ?_
    refine g_get (C := RX11) (T := TX11) (N := 67) (ci := 11) hx hb hts inX11 hown hK hW (hB 200 bb_200) kd_200 rfl 48 (by decide) mw_1009 rfl rfl dX11_pop_26 ?_
    refine lv_iconst (v := 1) hx hb dX11_pop_29 (by decide) ?_
    refine lv_isub hx hb dX11_pop_30 ?_
    refine g_put (C := RX11) (T := TX11) (N := 67) (ci := 11) hx hb hts inX11 tyX11 tyX11_ok nmX11 hown hK hW hS (hB 200 bb_200) kd_200 rfl 48 (by decide) mw_1009 rfl rfl rfl rfl (Nat.le_of_ble_eq_true rfl) (sv S_1 200 48 ((gv S_1 200 48) - 1)) (ps_200_48) cellOf_sv dX11_pop_31 (fun S_7 eS_7 H locs hW hS => ?_)
    have h := bn_at eS_7 h
    refine lv_aload_n hx hb dX11_pop_34 rfl (lv_at hl 0 rfl) ?_
    refine lv_aload_n hx hb dX11_pop_35 rfl (lv_at hl 0 rfl) ?_
    refine g_get (C := RX11) (T := TX11) (N := 67) (ci := 11) hx hb hts inX11 hown hK hW (hB 200 bb_200) kd_200 rfl 46 (by decide) mw_1007 rfl rfl dX11_pop_36 ?_
    refine lv_aload_n hx hb dX11_pop_39 rfl (lv_at hl 0 rfl) ?_
    refine g_get (C := RX11) (T := TX11) (N := 67) (ci := 11) hx hb hts inX11 hown hK hW (hB 200 bb_200) kd_200 rfl 47 (by decide) mw_1008 rfl rfl dX11_pop_40 ?_
    obtain ⟨hi_8, h⟩ := ck_n h
    refine g_iald hx hb hK hW (hB 247 bb_247) kd_247 hi_8 dX11_pop_43 ?_
    refine lv_iconst (v := 0) hx hb dX11_pop_44 (by decide) ?_
    obtain ⟨S_10, hc_9, h⟩ := cl0_ex h
    refine g_cv (g_runV (ci := 11) (o := 200) (As := [.int (gv S_7 247 (ix (gv S_7 200 47))), .int 0]) (rest := []) hx hb hml hown hts hK hN hT hS hW (c_X11_step hB hc_9) (hB 200 bb_200) kd_200 rfl (gw_V mw_1283 mw_1285 mw_50 mw_73 mw_1286) hv_X11_step rfl rfl rfl (rm_ok (by decide) (by decide)) hl.1 (Nat.le_of_ble_eq_true rfl) dX11_pop_45 rfl ⟨Nat.zero_le _, Nat.zero_le _⟩) hS (fun H locs hW hS => ?_)
    cases h
    exact g_vret hx hb hr hlocks hW hS dX11_pop_48
theorem c_X11_pop (hB : Lk L) {S : St} {S9 : St} (h : f_X11_pop S = some S9) : Met l yX11_pop (gws yX11_pop cX11_pop 1 none) (rmk 2) (va_Pc [.ref (ad 200)] (WU g A ad L S)) (qv g A ad L S9) 0 0 A :=
  g_met [.ref (ad 200)] (by decide) (Nat.le_of_ble_eq_true rfl) (fun p e s m below meth c ls C hW hl _ => t_X11_pop C hB h hW va_S.rf hl)
theorem hv_X11_pop : yX11_pop.cls = RX11 ∧ yX11_pop.cls ≠ "java/lang/invoke/MethodHandle" ∧ yX11_pop.cls ≠ "java/lang/invoke/VarHandle" ∧ (parseMethodDescriptor yX11_pop.desc).map (fun d => d.parameters.length) = some 0 := by decide +kernel
/-! DroveRoadsModel.settle -/
def f_X11_settle_l0 (N : Nat) (v1 : Int32) (k : St → Option (St)) : Nat → St → Option (St)
  | 0, _ => none
  | n + 1, S => if (gv S 200 47) ≤ 0 then (k S) else (if ((gv S 200 47) - 1) < 0 ∨ 400 ≤ ix ((gv S 200 47) - 1) then none else if (gv S 247 (ix ((gv S 200 47) - 1))) = 48 then (k S) else (if ((gv S 200 47) - 1) < 0 ∨ 400 ≤ ix ((gv S 200 47) - 1) then none else if (gv S 247 (ix ((gv S 200 47) - 1))) < v1 then (k S) else (cl0 (f_X11_pop S) fun S_7 => f_X11_settle_l0 N v1 k n S_7)))
set_option maxHeartbeats 4000000 in
theorem t_X11_settle_l0 (C : MC p s m args meth c cX11_settle 2 none RX11 g A) (hB : Lk L) {v1 : Int32} {S9 : St} {k : St → Option (St)} (hk : ∀ (S : St), k S = some S9 → ∀ (H : Heap) (locs : List Loc) (ls : Array Slot), GW g A ad L S H → va_S A s.heap H locs → lv_has ls 2 [] → W p l e (rmk 3) s m args below meth c H locs 0 0 (MQ below (qv g A ad L S9) args s 0 0 A) (F0 m 45 ls [])) : ∀ (n : Nat) (S : St), f_X11_settle_l0 N v1 k n S = some S9 → ∀ (H : Heap) (locs : List Loc) (ls : Array Slot), GW g A ad L S H → va_S A s.heap H locs → lv_has ls 2 [(0, .ref (ad 200)), (1, .int v1)] → W p l e (rmk 3) s m args below meth c H locs 0 0 (MQ below (qv g A ad L S9) args s 0 0 A) (F0 m 0 ls []) := by
  obtain ⟨hx, hb, hml, hown, hts, hr, hlocks, hK, hN, hT⟩ := id C
  intro n
  induction n with
  | zero =>
    intro S h
    have h : (none : Option (St)) = some S9 := h
    cases h
  | succ n ih =>
    intro S h H locs ls hW hS hl
    rw [f_X11_settle_l0] at h
    refine lv_aload_n hx hb dX11_settle_0 rfl (lv_at hl 0 rfl) ?_
    refine g_get (C := RX11) (T := TX11) (N := 67) (ci := 11) hx hb hts inX11 hown hK hW (hB 200 bb_200) kd_200 rfl 47 (by decide) mw_1008 rfl rfl dX11_settle_1 ?_
    refine lv_if_le (tgt := 45) hx hb dX11_settle_4 (by decide) (fun c_1 => ?_) (fun c_1 => ?_)
    · have h := it_t c_1 h
      exact hk _ h _ _ _ hW hS (lv_sub hl [] rfl)
    · have h := it_f c_1 h
      refine lv_aload_n hx hb dX11_settle_7 rfl (lv_at hl 0 rfl) ?_
      refine g_get (C := RX11) (T := TX11) (N := 67) (ci := 11) hx hb hts inX11 hown hK hW (hB 200 bb_200) kd_200 rfl 46 (by decide) mw_1007 rfl rfl dX11_settle_8 ?_
      refine lv_aload_n hx hb dX11_settle_11 rfl (lv_at hl 0 rfl) ?_
      refine g_get (C := RX11) (T := TX11) (N := 67) (ci := 11) hx hb hts inX11 hown hK hW (hB 200 bb_200) kd_200 rfl 47 (by decide) mw_1008 rfl rfl dX11_settle_12 ?_
      refine lv_iconst (v := 1) hx hb dX11_settle_15 (by decide) ?_
      refine lv_isub hx hb dX11_settle_16 ?_
      obtain ⟨hi_2, h⟩ := ck_n h
      refine g_iald hx hb hK hW (hB 247 bb_247) kd_247 hi_2 dX11_settle_17 ?_
      refine lv_bipush (v := 48) hx hb dX11_settle_18 (by decide) ?_
      refine lv_icmp_eq (tgt := 45) hx hb dX11_settle_20 (by decide) (fun c_3 => ?_) (fun c_3 => ?_)
      · have h := it_t c_3 h
        exact hk _ h _ _ _ hW hS (lv_sub hl [] rfl)
      · have h := it_f c_3 h
        refine lv_aload_n hx hb dX11_settle_23 rfl (lv_at hl 0 rfl) ?_
        refine g_get (C := RX11) (T := TX11) (N := 67) (ci := 11) hx hb hts inX11 hown hK hW (hB 200 bb_200) kd_200 rfl 46 (by decide) mw_1007 rfl rfl dX11_settle_24 ?_
        refine lv_aload_n hx hb dX11_settle_27 rfl (lv_at hl 0 rfl) ?_
        refine g_get (C := RX11) (T := TX11) (N := 67) (ci := 11) hx hb hts inX11 hown hK hW (hB 200 bb_200) kd_200 rfl 47 (by decide) mw_1008 rfl rfl dX11_settle_28 ?_
        refine lv_iconst (v := 1) hx hb dX11_settle_31 (by decide) ?_
        refine lv_isub hx hb dX11_settle_32 ?_
        obtain ⟨hi_4, h⟩ := ck_n h
        refine g_iald hx hb hK hW (hB 247 bb_247) kd_247 hi_4 dX11_settle_33 ?_
        refine lv_iload_n hx hb dX11_settle_34 rfl (lv_at hl 1 rfl) ?_
        refine lv_icmp_lt (tgt := 45) hx hb dX11_settle_35 (by decide) (fun c_5 => ?_) (fun c_5 => ?_)
        · have h := it_t c_5 h
          exact hk _ h _ _ _ hW hS (lv_sub hl [] rfl)
        · have h := it_f c_5 h
          refine lv_aload_n hx hb dX11_settle_38 rfl (lv_at hl 0 rfl) ?_
          obtain ⟨S_7, hc_6, h⟩ := cl0_ex h
          refine g_cv (g_runV (ci := 11) (o := 200) (As := []) (rest := []) hx hb hml hown hts hK hN hT hS hW (c_X11_pop hB hc_6) (hB 200 bb_200) kd_200 rfl (gw_V mw_1279 mw_1281 mw_49 mw_73 mw_1282) hv_X11_pop rfl rfl rfl (rm_ok (by decide) (by decide)) hl.1 (Nat.le_of_ble_eq_true rfl) dX11_settle_39 rfl ⟨Nat.zero_le _, Nat.zero_le _⟩) hS (fun H locs hW hS => ?_)
          refine lv_goto (tgt := 0) hx hb dX11_settle_42 (by decide) ?_
          exact ih _ h _ _ _ hW hS (lv_sub hl [0, 1] rfl)
def f_X11_settle (N : Nat) (S : St) (p1 : Int32) : Option (St) := f_X11_settle_l0 N p1 (fun S_8 => some S_8) N S
set_option maxHeartbeats 4000000 in
theorem t_X11_settle (C : MC p s m args meth c cX11_settle 2 none RX11 g A) (hB : Lk L) {S : St} {S9 : St} {p1 : Int32} (h : f_X11_settle N S p1 = some S9) {H : Heap} {locs : List Loc} {ls : Array Slot} (hW : GW g A ad L S H) (hS : va_S A s.heap H locs) (hl : lv_has ls 2 [(0, .ref (ad 200)), (1, .int p1)]) : W p l e (rmk 3) s m args below meth c H locs 0 0 (MQ below (qv g A ad L S9) args s 0 0 A) (F0 m 0 ls []) := by
  obtain ⟨hx, hb, hml, hown, hts, hr, hlocks, hK, hN, hT⟩ := id C
  unfold f_X11_settle at h
  refine t_X11_settle_l0 C hB ?_ _ _ h _ _ _ hW hS (lv_sub hl [0, 1] rfl)
  intro S_8 h H locs ls hW hS hl
  cases h
  exact g_vret hx hb hr hlocks hW hS dX11_settle_45
theorem c_X11_settle (hB : Lk L) {S : St} {S9 : St} {p1 : Int32} (h : f_X11_settle N S p1 = some S9) : Met l yX11_settle (gws yX11_settle cX11_settle 2 none) (rmk 3) (va_Pc [.ref (ad 200), .int p1] (WU g A ad L S)) (qv g A ad L S9) 0 0 A :=
  g_met [.ref (ad 200), .int p1] (by decide) (Nat.le_of_ble_eq_true rfl) (fun p e s m below meth c ls C hW hl _ => t_X11_settle C hB h hW va_S.rf hl)
theorem hv_X11_settle : yX11_settle.cls = RX11 ∧ yX11_settle.cls ≠ "java/lang/invoke/MethodHandle" ∧ yX11_settle.cls ≠ "java/lang/invoke/VarHandle" ∧ (parseMethodDescriptor yX11_settle.desc).map (fun d => d.parameters.length) = some 1 := by decide +kernel
/-! DroveRoadsModel.isOpen -/
def f_X11_isOpen_l4 (N : Nat) (S : St) (k : Int32 → Option (Int32)) : Nat → Int32 → Int32 → Option (Int32)
  | 0, _, _ => none
  | n + 1, v1, v2 => if (gv S 200 47) ≤ v2 then (k v1) else (if v1 = 0 then (if v2 < 0 ∨ 400 ≤ ix v2 then none else if (gv S 247 (ix v2)) = 48 then (bn (v2 + 1) fun x_7 => f_X11_isOpen_l4 N S k n 1 x_7) else (bn (v2 + 1) fun x_6 => f_X11_isOpen_l4 N S k n 0 x_6)) else (bn (v2 + 1) fun x_3 => f_X11_isOpen_l4 N S k n 1 x_3))
set_option maxHeartbeats 4000000 in
theorem t_X11_isOpen_l4 (C : MC p s m args meth c cX11_isOpen 3 (some .boolean) RX11 g A) (hB : Lk L) {S : St} {r : Int32} {k : Int32 → Option (Int32)} (hk : ∀ (w1 : Int32), k w1 = some r → ∀ (H : Heap) (locs : List Loc) (ls : Array Slot), GW g A ad L S H → va_S A s.heap H locs → lv_has ls 3 [(1, .int w1)] → W p l e (rmk 1) s m args below meth c H locs 0 0 (MQ below (qz g A ad L r S) args s 0 0 A) (F0 m 39 ls [])) : ∀ (n : Nat) (v1 : Int32) (v2 : Int32), f_X11_isOpen_l4 N S k n v1 v2 = some r → ∀ (H : Heap) (locs : List Loc) (ls : Array Slot), GW g A ad L S H → va_S A s.heap H locs → lv_has ls 3 [(0, .ref (ad 200)), (1, .int v1), (2, .int v2)] → W p l e (rmk 1) s m args below meth c H locs 0 0 (MQ below (qz g A ad L r S) args s 0 0 A) (F0 m 4 ls []) := by
  obtain ⟨hx, hb, hml, hown, hts, hr, hlocks, hK, hN, hT⟩ := id C
  intro n
  induction n with
  | zero =>
    intro v1 v2 h
    have h : (none : Option (Int32)) = some r := h
    cases h
  | succ n ih =>
    intro v1 v2 h H locs ls hW hS hl
    rw [f_X11_isOpen_l4] at h
    refine lv_iload_n hx hb dX11_isOpen_4 rfl (lv_at hl 2 rfl) ?_
    refine lv_aload_n hx hb dX11_isOpen_5 rfl (lv_at hl 0 rfl) ?_
    refine g_get (C := RX11) (T := TX11) (N := 67) (ci := 11) hx hb hts inX11 hown hK hW (hB 200 bb_200) kd_200 rfl 47 (by decide) mw_1008 rfl rfl dX11_isOpen_6 ?_
    refine lv_icmp_ge (tgt := 39) hx hb dX11_isOpen_9 (by decide) (fun c_1 => ?_) (fun c_1 => ?_)
    · have h := it_t c_1 h
      exact hk _ h _ _ _ hW hS (lv_sub hl [1] rfl)
    · have h := it_f c_1 h
      refine lv_iload_n hx hb dX11_isOpen_12 rfl (lv_at hl 1 rfl) ?_
      refine lv_if_ne (tgt := 27) hx hb dX11_isOpen_13 (by decide) (fun c_2 => ?_) (fun c_2 => ?_)
      · have h := it_f c_2 h
        refine lv_iconst (v := 1) hx hb dX11_isOpen_27 (by decide) ?_
        refine lv_goto (tgt := 32) hx hb dX11_isOpen_28 (by decide) ?_
        refine lv_istore_n (lv' := [(1, .int 1), (0, .ref (ad 200)), (2, .int v2)]) hx hb dX11_isOpen_32 rfl hl (by decide) rfl (fun ls hl => ?_)
        obtain ⟨x_3, ex_3⟩ : ∃ z : Int32, z = v2 + 1 := ⟨_, rfl⟩
        have h := bn_at ex_3 h
        refine lv_iinc (v := x_3) (lv' := [(2, .int x_3), (1, .int 1), (0, .ref (ad 200))]) hx hb dX11_isOpen_33 hl (k := 2) rfl (by rw [ex_3]; rfl) (by decide) rfl (fun ls hl => ?_)
        refine lv_goto (tgt := 4) hx hb dX11_isOpen_36 (by decide) ?_
        exact ih _ _ h _ _ _ hW hS (lv_sub hl [2, 1, 0] rfl)
      · have h := it_t c_2 h
        refine lv_aload_n hx hb dX11_isOpen_16 rfl (lv_at hl 0 rfl) ?_
        refine g_get (C := RX11) (T := TX11) (N := 67) (ci := 11) hx hb hts inX11 hown hK hW (hB 200 bb_200) kd_200 rfl 46 (by decide) mw_1007 rfl rfl dX11_isOpen_17 ?_
        refine lv_iload_n hx hb dX11_isOpen_20 rfl (lv_at hl 2 rfl) ?_
        obtain ⟨hi_4, h⟩ := ck_n h
        refine g_iald hx hb hK hW (hB 247 bb_247) kd_247 hi_4 dX11_isOpen_21 ?_
        refine lv_bipush (v := 48) hx hb dX11_isOpen_22 (by decide) ?_
        refine lv_icmp_ne (tgt := 31) hx hb dX11_isOpen_24 (by decide) (fun c_5 => ?_) (fun c_5 => ?_)
        · have h := it_f c_5 h
          refine lv_iconst (v := 0) hx hb dX11_isOpen_31 (by decide) ?_
          refine lv_istore_n (lv' := [(1, .int 0), (0, .ref (ad 200)), (2, .int v2)]) hx hb dX11_isOpen_32 rfl hl (by decide) rfl (fun ls hl => ?_)
          obtain ⟨x_6, ex_6⟩ : ∃ z : Int32, z = v2 + 1 := ⟨_, rfl⟩
          have h := bn_at ex_6 h
          refine lv_iinc (v := x_6) (lv' := [(2, .int x_6), (1, .int 0), (0, .ref (ad 200))]) hx hb dX11_isOpen_33 hl (k := 2) rfl (by rw [ex_6]; rfl) (by decide) rfl (fun ls hl => ?_)
          refine lv_goto (tgt := 4) hx hb dX11_isOpen_36 (by decide) ?_
          exact ih _ _ h _ _ _ hW hS (lv_sub hl [2, 1, 0] rfl)
        · have h := it_t c_5 h
          refine lv_iconst (v := 1) hx hb dX11_isOpen_27 (by decide) ?_
          refine lv_goto (tgt := 32) hx hb dX11_isOpen_28 (by decide) ?_
          refine lv_istore_n (lv' := [(1, .int 1), (0, .ref (ad 200)), (2, .int v2)]) hx hb dX11_isOpen_32 rfl hl (by decide) rfl (fun ls hl => ?_)
          obtain ⟨x_7, ex_7⟩ : ∃ z : Int32, z = v2 + 1 := ⟨_, rfl⟩
          have h := bn_at ex_7 h
          refine lv_iinc (v := x_7) (lv' := [(2, .int x_7), (1, .int 1), (0, .ref (ad 200))]) hx hb dX11_isOpen_33 hl (k := 2) rfl (by rw [ex_7]; rfl) (by decide) rfl (fun ls hl => ?_)
          refine lv_goto (tgt := 4) hx hb dX11_isOpen_36 (by decide) ?_
          exact ih _ _ h _ _ _ hW hS (lv_sub hl [2, 1, 0] rfl)
def f_X11_isOpen (N : Nat) (S : St) : Option (Int32) := f_X11_isOpen_l4 N S (fun x_8 => if x_8 = 0 ∨ x_8 = 1 then (some x_8) else none) N 0 0
set_option maxHeartbeats 4000000 in
theorem t_X11_isOpen (C : MC p s m args meth c cX11_isOpen 3 (some .boolean) RX11 g A) (hB : Lk L) {S : St} {r : Int32} (h : f_X11_isOpen N S = some r) {H : Heap} {locs : List Loc} {ls : Array Slot} (hW : GW g A ad L S H) (hS : va_S A s.heap H locs) (hl : lv_has ls 3 [(0, .ref (ad 200))]) : W p l e (rmk 1) s m args below meth c H locs 0 0 (MQ below (qz g A ad L r S) args s 0 0 A) (F0 m 0 ls []) := by
  obtain ⟨hx, hb, hml, hown, hts, hr, hlocks, hK, hN, hT⟩ := id C
  unfold f_X11_isOpen at h
  refine lv_iconst (v := 0) hx hb dX11_isOpen_0 (by decide) ?_
  refine lv_istore_n (lv' := [(1, .int 0), (0, .ref (ad 200))]) hx hb dX11_isOpen_1 rfl hl (by decide) rfl (fun ls hl => ?_)
  refine lv_iconst (v := 0) hx hb dX11_isOpen_2 (by decide) ?_
  refine lv_istore_n (lv' := [(2, .int 0), (1, .int 0), (0, .ref (ad 200))]) hx hb dX11_isOpen_3 rfl hl (by decide) rfl (fun ls hl => ?_)
  refine t_X11_isOpen_l4 C hB ?_ _ _ _ h _ _ _ hW hS (lv_sub hl [2, 1, 0] rfl)
  intro x_8 h H locs ls hW hS hl
  refine lv_iload_n hx hb dX11_isOpen_39 rfl (lv_at hl 0 rfl) ?_
  obtain ⟨hz_9, h⟩ := ck_t h
  cases h
  exact g_zret hx hb hr hlocks hW hS (bz_of hz_9) dX11_isOpen_40
theorem c_X11_isOpen (hB : Lk L) {S : St} {r : Int32} (h : f_X11_isOpen N S = some r) : Met l yX11_isOpen (gws yX11_isOpen cX11_isOpen 3 (some .boolean)) (rmk 1) (va_Pc [.ref (ad 200)] (WU g A ad L S)) (qz g A ad L r S) 0 0 A :=
  g_met [.ref (ad 200)] (by decide) (Nat.le_of_ble_eq_true rfl) (fun p e s m below meth c ls C hW hl _ => t_X11_isOpen C hB h hW va_S.rf hl)
theorem hv_X11_isOpen : yX11_isOpen.cls = RX11 ∧ yX11_isOpen.cls ≠ "java/lang/invoke/MethodHandle" ∧ yX11_isOpen.cls ≠ "java/lang/invoke/VarHandle" ∧ (parseMethodDescriptor yX11_isOpen.desc).map (fun d => d.parameters.length) = some 0 := by decide +kernel
end S21
