section WAY
variable {p : Program} {l : Launch} {e : Env} {R : Room} {s : State} {m : MethodId} {args : Array Value} {below : List Frame} {meth : Method} {c : Code} {H : Heap} {locs : List Loc} {cells slots : Nat} {Q : State → Prop}
variable {cc : ByteArray} {pc : Nat} {ls : Array Slot} {rest : List Value} {A : Nat → Prop} {g : Cx} {ad ad2 : Nat → Nat} {L L3 : List Nat} {S S2 : St} {N : Nat}
theorem gcl_pre {cf : Nat → va_E} (h : GC g A ad (L ++ L3) cf H) : GC g A ad L cf H := by
  have e : gcl ad cf (L ++ L3) = gcl ad cf L ++ gcl ad cf L3 := by unfold gcl; rw [List.map_append]
  unfold GC at h ⊢
  rw [e] at h
  have hp : ∀ (k : Nat) (q : Nat × va_E), (gcl ad cf L)[k]? = some q → (gcl ad cf L ++ gcl ad cf L3)[k]? = some q := fun k q hk => by
    rw [List.getElem?_append_left (List.getElem?_eq_some_iff.mp hk).1]; exact hk
  exact ⟨fun k q hk => h.1 k q (hp k q hk), fun i j x y hx hy => h.2.1 i j x y (hp i x hx) (hp j y hy), fun k q hk => h.2.2 k q (hp k q hk)⟩
theorem gw_back (hag : ∀ x ∈ L, ad2 x = ad x) (hC : Cl L S) (hF : Fx L S) (hrow : ∀ o ∈ L, S2.1 o = S.1 o ∧ S2.2.1 o = S.2.1 o ∧ S2.2.2 o = S.2.2 o) (hW : GW g A ad2 (L ++ L3) S2 H) : GW g A ad L S H := by
  have h1 : GC g A ad2 L (cellOf g ad2 S2) H := gcl_pre (L3 := L3) hW
  have e : gcl ad2 (cellOf g ad2 S2) L = gls g ad L S := by
    unfold gcl gls
    apply List.map_congr_left
    intro o ho
    obtain ⟨r1, r2, r3⟩ := hrow o ho
    have e1 : cellOf g ad2 S2 o = cellOf g ad2 S o := by unfold cellOf; rw [r1, r2, r3]
    have e2 : cellD g ad2 S o = cellD g ad S o := kcD_ad (fun k y h => hag y (hC o ho k y h))
    rw [hag o ho, e1, ← cellD_eq (hF o ho), ← cellD_eq (hF o ho), e2]
  unfold GC at h1
  rw [e] at h1
  exact h1
theorem way_rows {a b d : Int32} (h : f_X4_init (zr S 112) a b d = some S2) : (∀ o, o ≠ 112 → S2.1 o = S.1 o ∧ S2.2.1 o = S.2.1 o ∧ S2.2.2 o = S.2.2 o) ∧ gr S2 112 1 = some 1 := by
  unfold f_X4_init at h
  simp only [bn] at h
  cases h
  refine ⟨fun o ho => ?_, rfl⟩
  simp [sv, sr, up2, zr, ho]
theorem Fx_way (hF : Fx L S) (h112 : 112 ∉ L) (hr : (∀ o, o ≠ 112 → S2.1 o = S.1 o ∧ S2.2.1 o = S.2.1 o ∧ S2.2.2 o = S.2.2 o) ∧ gr S2 112 1 = some 1) : Fx (L ++ [112]) S2 := fun o ho k t hk => by
  rcases List.mem_append.mp ho with h | h
  · have hne : o ≠ 112 := fun e => h112 (e ▸ h)
    have := hF o h k t hk
    unfold gr at this ⊢
    rw [(hr.1 o hne).2.1]
    exact this
  · have e := List.mem_singleton.mp h
    subst e
    have hk1 : (if k = 1 then some 1 else (none : Option Nat)) = some t := hk
    by_cases h1 : k = 1
    · subst h1
      rw [if_pos rfl] at hk1
      cases hk1
      exact hr.2
    · rw [if_neg h1] at hk1
      cases hk1
def qw (g : Cx) (A : Nat → Prop) (ad : Nat → Nat) (L : List Nat) (S : St) (ro : Option St) : Array Value → State → Outcome → State → Prop := fun _ st oc t =>
  ((ro = none ∧ oc = .returned (some .null) ∧ GW g A ad L S t.heap) ∨ (∃ (S2 : St) (ad2 : Nat → Nat), ro = some S2 ∧ oc = .returned (some (.ref (ad2 112))) ∧ (∀ x ∈ L, ad2 x = ad x) ∧ GW g A ad2 (L ++ [112]) S2 t.heap)) ∧ va_F A st t
theorem g_cw {a : Array Value} {st : List Value} {ro : Option St} {mc ms : Nat} (hr : va_Run p l e R s m args below meth c H locs cells slots mc ms (F0 m pc ls st) rest (qw g A ad L S ro a) A) (hS : va_S A s.heap H locs)
    (k0 : ro = none → ∀ (H1 : Heap) (locs1 : List Loc), GW g A ad L S H1 → va_S A s.heap H1 locs1 → W p l e R s m args below meth c H1 locs1 (cells + mc) (slots + ms) Q (F0 m (pc + 3) ls (.null :: rest)))
    (k1 : ∀ (S2 : St) (ad2 : Nat → Nat), ro = some S2 → (∀ x ∈ L, ad2 x = ad x) → ∀ (H1 : Heap) (locs1 : List Loc), GW g A ad2 (L ++ [112]) S2 H1 → va_S A s.heap H1 locs1 → W p l e R s m args below meth c H1 locs1 (cells + mc) (slots + ms) Q (F0 m (pc + 3) ls (.ref (ad2 112) :: rest))) : W p l e R s m args below meth c H locs cells slots Q (F0 m pc ls st) := by
  intro T hT X
  obtain ⟨v, st₀, t, T', Lc, h0, X', hL, e1, e2, ⟨hq, hz, hk⟩, sto⟩ := hr T hT X
  rw [h0] at hz hk
  have hS1 : va_S A s.heap T'.heap (locs ++ Lc) := ⟨Nat.le_trans hS.1 (by rw [e1]; exact hz), fun q h1 h2 => by rw [e1, hk q (Nat.lt_of_lt_of_le h1 hS.1) h2]; exact hS.2.1 q h1 h2, fun q hq => by
    rcases List.mem_append.mp hq with h | h
    · exact hS.2.2 q h
    · exact hL q h⟩
  rcases hq with ⟨hro, ho, hg⟩ | ⟨S2, ad2, hro, ho, hag, hg⟩
  · cases ho
    obtain ⟨t2, a1, b1⟩ := k0 hro T'.heap _ (by rw [e1]; exact hg) hS1 T' rfl X'
    exact ⟨t2, sto t2 a1, b1⟩
  · cases ho
    obtain ⟨t2, a1, b1⟩ := k1 S2 ad2 hro hag T'.heap _ (by rw [e1]; exact hg) hS1 T' rfl X'
    exact ⟨t2, sto t2 a1, b1⟩
def f_X10_findWay (L : List Nat) (N : Nat) (S : St) (p1 p2 : Int32) : Option (Option St) := cl0 (f_X10_findHerd L S p1) fun n_2 => oc n_2 (some none) fun n_3 => if okh L n_3 then (if (gv S n_3 2) = 0 then (some none) else (cl0 (f_X10_within S p2 1 60) fun r_6 => if r_6 = 0 then (some none) else (bn (zr S 112) fun S_7 => cl0 (f_X4_init S_7 (gv S_7 n_3 5) (gv S_7 n_3 4) p2) fun S_8 => cl0 (f_X4_comesToFair N S_8) fun r_9 => if r_9 = 0 then (some none) else (some (some S_8))))) else none
set_option maxHeartbeats 4000000 in
theorem t_X10_findWay (C : MC p s m args meth c cX10_findWay 5 (some (.object "DroveRoads$LoneWay")) RX10 g A) (hB : Lk L) (hF : Fx L S) (hC : Cl L S) (h112 : 112 ∉ L) {r : Option St} {p1 p2 : Int32} (h : f_X10_findWay L N S p1 p2 = some r) {H : Heap} {locs : List Loc} {ls : Array Slot} (hW : GW g A ad L S H) (hS : va_S A s.heap H locs) (hl : lv_has ls 5 [(0, .ref (ad 0)), (1, .int p1), (2, .int p2)]) : W p l e (rmc 5 1 4) s m args below meth c H locs 0 0 (MQ below (qw g A ad L S r) args s 1 4 A) (F0 m 0 ls []) := by
  obtain ⟨hx, hb, hml, hown, hts, hr, hlocks, hK, hN, hT⟩ := id C
  have nul : ∀ {H : Heap} {locs : List Loc} {ls : Array Slot} {cells slots : Nat}, cells ≤ 1 → slots ≤ 4 → r = none → GW g A ad L S H → va_S A s.heap H locs → ∀ {pc : Nat}, decode cX10_findWay pc = .ok (.areturn, 1) → W p l e (rmc 5 1 4) s m args below meth c H locs cells slots (MQ below (qw g A ad L S r) args s 1 4 A) (F0 m pc ls [.null]) := fun h1 h2 hn hW hS pc hd => by
    refine W.widen (k := 1) (n := 4) h1 h2 ?_
    exact W.aret hx hb hr (Or.inl ⟨_, rfl⟩) (Or.inl rfl) (fun t ht _ => ⟨Or.inl ⟨hn, rfl, ht.symm ▸ hW⟩, hS.F ht⟩) hS.2.2 hd hlocks
  unfold f_X10_findWay at h
  refine lv_aload_n hx hb dX10_findWay_0 rfl (lv_at hl 0 rfl) ?_
  refine lv_iload_n hx hb dX10_findWay_1 rfl (lv_at hl 1 rfl) ?_
  obtain ⟨n_2, hc_1, h⟩ := cl0_ex h
  refine g_cr (g_runV (ci := 10) (o := 0) (As := [.int p1]) (rest := []) hx hb hml hown hts hK hN hT hS hW (c_X10_findHerd hB hc_1) (hB 0 bb_0) kd_0 rfl (gw_V mw_428 mw_430 mw_3 mw_66 mw_431) hv_X10_findHerd rfl rfl rfl (rc_ok2 (by decide) (by decide)) hl.1 (Nat.le_of_ble_eq_true rfl) dX10_findWay_2 rfl ⟨by decide, by decide⟩) hS (fun H locs hW hS => ?_)
  rcases n_2 with _ | n_3
  · refine W.eq (g2 := F0 m 5 ls (.null :: [])) rfl ?_
    refine lv_astore_nN (lv' := [(3, .null), (0, .ref (ad 0)), (1, .int p1), (2, .int p2)]) hx hb dX10_findWay_5 rfl hl (by decide) rfl (fun ls hl => ?_)
    refine lv_aload_nN hx hb dX10_findWay_6 rfl (lv_at hl 0 rfl) ?_
    refine lv_ifnullN (tgt := 27) hx hb dX10_findWay_7 (by decide) ?_
    refine lv_null hx hb dX10_findWay_27 ?_
    cases h
    exact nul (by decide) (by decide) rfl hW hS dX10_findWay_28
  · obtain ⟨hn_4, h⟩ := ck_t h
    refine W.eq (g2 := F0 m 5 ls (.ref (ad n_3) :: [])) rfl ?_
    refine lv_astore_n (lv' := [(3, .ref (ad n_3)), (0, .ref (ad 0)), (1, .int p1), (2, .int p2)]) hx hb dX10_findWay_5 rfl hl (by decide) rfl (fun ls hl => ?_)
    refine lv_aload_n hx hb dX10_findWay_6 rfl (lv_at hl 0 rfl) ?_
    refine lv_ifnull hx hb dX10_findWay_7 ?_
    refine lv_aload_n hx hb dX10_findWay_10 rfl (lv_at hl 0 rfl) ?_
    refine g_get (C := RX1) (T := TX1) (N := 12) (ci := 1) hx hb hts inX1 hown hK hW hn_4.2.2 (kd_herd hn_4) rfl 2 (by decide) mw_345 rfl rfl dX10_findWay_11 ?_
    refine lv_if_eq (tgt := 27) hx hb dX10_findWay_14 (by decide) (fun c_5 => ?_) (fun c_5 => ?_)
    · have h := it_t c_5 h
      refine lv_null hx hb dX10_findWay_27 ?_
      cases h
      exact nul (by decide) (by decide) rfl hW hS dX10_findWay_28
    · have h := it_f c_5 h
      refine lv_iload_n hx hb dX10_findWay_17 rfl (lv_at hl 3 rfl) ?_
      refine lv_iconst (v := 1) hx hb dX10_findWay_18 (by decide) ?_
      refine lv_bipush (v := 60) hx hb dX10_findWay_19 (by decide) ?_
      obtain ⟨r_6, hc_6, h⟩ := cl0_ex h
      refine g_cz (g_runS (As := [.int p2, .int 1, .int 60]) (rest := []) hx hb hml hown hts hK hN hT hS hW (c_X10_within hB hc_6) (gw_S mw_332 mw_293 mw_66 mw_294) hs_X10_within rfl rfl rfl (rc_ok2 (by decide) (by decide)) hl.1 (Nat.le_of_ble_eq_true rfl) dX10_findWay_21 rfl ⟨by decide, by decide⟩) hS (fun hz_6 H locs hW hS => ?_)
      refine lv_if_ne (tgt := 29) hx hb dX10_findWay_24 (by decide) (fun c_6 => ?_) (fun c_6 => ?_)
      · have h := it_f c_6 h
        have hD := (gd_gw hF).mpr hW
        have hne : n_3 ≠ 112 := by have := hn_4.2.1; omega
        refine gd_new (C := RX4) (T := TX4) (N := 4) (ci := 4) hx hb hts inX4 tyX4 tyX4_ok hown mw_825 mw_826 mw_83 hK hT hD hS hC rfl 112 h112 (fun j hj => by rcases (show j = 0 ∨ j = 1 ∨ j = 2 ∨ j = 3 by omega) with rfl | rfl | rfl | rfl <;> rfl) (fun _ => zD_112) (by decide) (by decide) dX10_findWay_29 (fun S_7 eS_7 ad_7 hag H hD hS hC7 => ?_)
        rw [← hag 0 (by decide), ← hag n_3 hne] at hl
        have h := bn_at eS_7 h
        have hg7 : gr S_7 0 0 = some 1 := by
          have := hF 0 (hB 0 bb_0) 0 1 rfl
          rw [eS_7]
          exact this
        refine lv_dup hx hb dX10_findWay_32 rfl ?_
        refine lv_aload_n hx hb dX10_findWay_33 rfl (lv_at hl 1 rfl) ?_
        refine gd_getr (C := RX10) (T := TX10) (N := 12) (ci := 10) (t := 1) hx hb hts inX10 hown hK hD (me_l (hB 0 bb_0)) cD_0 rfl 0 (by decide) mw_248 rfl hg7 rfl dX10_findWay_34 ?_
        refine lv_aload_n hx hb dX10_findWay_37 rfl (lv_at hl 0 rfl) ?_
        refine gc_get (C := RX1) (T := TX1) (N := 12) (ci := 1) hx hb hts inX1 hown hK hD (me_l hn_4.2.2) (cD_herd hn_4.1 hn_4.2.1) rfl 5 (by decide) mw_353 rfl rfl dX10_findWay_38 ?_
        refine lv_aload_n hx hb dX10_findWay_41 rfl (lv_at hl 0 rfl) ?_
        refine gc_get (C := RX1) (T := TX1) (N := 12) (ci := 1) hx hb hts inX1 hown hK hD (me_l hn_4.2.2) (cD_herd hn_4.1 hn_4.2.1) rfl 4 (by decide) mw_350 rfl rfl dX10_findWay_42 ?_
        refine lv_iload_n hx hb dX10_findWay_45 rfl (lv_at hl 3 rfl) ?_
        obtain ⟨S_8, hc_8, h⟩ := cl0_ex h
        refine gd_c (gd_runI (o := 112) (As := [.ref (ad_7 1), .int (gv S_7 n_3 5), .int (gv S_7 n_3 4), .int p2]) (rest := [.ref (ad_7 112)]) hx hb hml hown hts hK hN hT hS hD (c_X4_init me_r (fun _ h9 => absurd h9 List.not_mem_nil) hC7 (me_l (hB 1 bb_1)) hc_8) mw_829 mw_827 mw_828 mw_83 rfl hi_X4_init rfl rfl rfl (rc_ok (by decide) (by decide)) hl.1 (Nat.le_of_ble_eq_true rfl) dX10_findWay_46 rfl ⟨by decide, by decide⟩) hS (fun ad_8 hag8 H locs hD hS hC8 => ?_)
        rw [← hag8 112 me_r]
        rw [eS_7] at hc_8
        have hrw := way_rows hc_8
        have hF8 := Fx_way hF h112 hrw
        have hW8 := (gd_gw hF8).mp hD
        have hB8 : Lk (L ++ [112]) := fun x hx => me_l (hB x hx)
        have hag9 : ∀ x ∈ L, ad_8 x = ad x := fun x hx => (hag8 x (me_l hx)).trans (hag x (fun e9 => h112 (e9 ▸ hx)))
        refine lv_astore (lv' := [(4, .ref (ad_8 112)), (3, .ref (ad_7 n_3)), (0, .ref (ad_7 0)), (1, .int p1), (2, .int p2)]) hx hb dX10_findWay_49 hl (by decide) rfl (fun ls hl => ?_)
        refine lv_aload hx hb dX10_findWay_51 (lv_at hl 0 rfl) ?_
        obtain ⟨r_9, hc_9, h⟩ := cl0_ex h
        refine g_cz (g_runV (ci := 4) (o := 112) (As := []) (rest := []) hx hb hml hown hts hK hN hT hS hW8 (c_X4_comesToFair hB8 me_r hc_9) me_r kd_112 rfl (gw_V mw_845 mw_846 mw_847 mw_83 mw_848) hv_X4_comesToFair rfl rfl rfl (rc_ok2 (by decide) (by decide)) hl.1 (Nat.le_of_ble_eq_true rfl) dX10_findWay_53 rfl ⟨by decide, by decide⟩) hS (fun hz_9 H locs hW8 hS => ?_)
        have hrow : ∀ o ∈ L, S_8.1 o = S.1 o ∧ S_8.2.1 o = S.2.1 o ∧ S_8.2.2 o = S.2.2 o := fun o ho => hrw.1 o (fun e9 => h112 (e9 ▸ ho))
        refine lv_if_eq (tgt := 64) hx hb dX10_findWay_56 (by decide) (fun c_9 => ?_) (fun c_9 => ?_)
        · have h := it_t c_9 h
          refine lv_null hx hb dX10_findWay_64 ?_
          cases h
          exact nul (by decide) (by decide) rfl (gw_back hag9 hC hF hrow hW8) hS dX10_findWay_65
        · have h := it_f c_9 h
          refine lv_aload hx hb dX10_findWay_59 (lv_at hl 0 rfl) ?_
          refine lv_goto (tgt := 65) hx hb dX10_findWay_61 (by decide) ?_
          cases h
          exact W.aret hx hb hr (Or.inl ⟨_, rfl⟩) (Or.inr ⟨_, rfl⟩) (fun t ht _ => ⟨Or.inr ⟨S_8, ad_8, rfl, rfl, hag9, ht.symm ▸ hW8⟩, hS.F ht⟩) hS.2.2 dX10_findWay_65 hlocks
      · have h := it_t c_6 h
        refine lv_null hx hb dX10_findWay_27 ?_
        cases h
        exact nul (by decide) (by decide) rfl hW hS dX10_findWay_28
theorem c_X10_findWay (hB : Lk L) (hF : Fx L S) (hC : Cl L S) (h112 : 112 ∉ L) {r : Option St} {p1 p2 : Int32} (h : f_X10_findWay L N S p1 p2 = some r) : Met l yX10_findWay (gws yX10_findWay cX10_findWay 5 (some (.object "DroveRoads$LoneWay"))) (rmc 5 1 4) (va_Pc [.ref (ad 0), .int p1, .int p2] (WU g A ad L S)) (qw g A ad L S r) 1 4 A :=
  g_met [.ref (ad 0), .int p1, .int p2] (by decide) (Nat.le_of_ble_eq_true rfl) (fun p e s m below meth c ls C hW hl _ => t_X10_findWay C hB hF hC h112 h hW va_S.rf hl)
theorem hv_X10_findWay : yX10_findWay.cls = RX10 ∧ yX10_findWay.cls ≠ "java/lang/invoke/MethodHandle" ∧ yX10_findWay.cls ≠ "java/lang/invoke/VarHandle" ∧ (parseMethodDescriptor yX10_findWay.desc).map (fun d => d.parameters.length) = some 2 := by decide +kernel
/-- a row of a way that findWay gave: the others are the state's -/
theorem findWay_rows {p1 p2 : Int32} (h112 : 112 ∉ L) (h : f_X10_findWay L N S p1 p2 = some (some S2)) : (∀ o ∈ L, S2.1 o = S.1 o ∧ S2.2.1 o = S.2.1 o ∧ S2.2.2 o = S.2.2 o) := by
  unfold f_X10_findWay at h
  obtain ⟨n_2, -, h⟩ := cl0_ex h
  rcases n_2 with _ | n_3
  · cases h
  · obtain ⟨-, h⟩ := ck_t h
    by_cases c1 : gv S n_3 2 = 0
    · have h := it_t c1 h
      cases h
    · have h := it_f c1 h
      obtain ⟨r, -, h⟩ := cl0_ex h
      by_cases c2 : r = 0
      · have h := it_t c2 h
        cases h
      · have h := it_f c2 h
        have h := bn_at (x := zr S 112) rfl h
        obtain ⟨S8, h8, h⟩ := cl0_ex h
        obtain ⟨r9, -, h⟩ := cl0_ex h
        by_cases c3 : r9 = 0
        · have h := it_t c3 h
          cases h
        · have h := it_f c3 h
          cases h
          exact fun o ho => (way_rows h8).1 o (fun e9 => h112 (e9 ▸ ho))
def f_X10_gain (L : List Nat) (N : Nat) (S : St) (p1 p2 : Int32) : Option Int32 := cl0 (f_X10_findWay L N S p1 p2) fun w_1 => match w_1 with
  | none => some (-100000)
  | some S_8 => cl0 (f_X4_bestGain N S_8) fun r_9 => some r_9
set_option maxHeartbeats 4000000 in
theorem t_X10_gain (C : MC p s m args meth c cX10_gain 4 (some .int) RX10 g A) (hB : Lk L) (hF : Fx L S) (hC : Cl L S) (h112 : 112 ∉ L) {r : Int32} {p1 p2 : Int32} (h : f_X10_gain L N S p1 p2 = some r) {H : Heap} {locs : List Loc} {ls : Array Slot} (hW : GW g A ad L S H) (hS : va_S A s.heap H locs) (hl : lv_has ls 4 [(0, .ref (ad 0)), (1, .int p1), (2, .int p2)]) : W p l e (rmc 6 1 4) s m args below meth c H locs 0 0 (MQ below (qi g A ad L r S) args s 1 4 A) (F0 m 0 ls []) := by
  obtain ⟨hx, hb, hml, hown, hts, hr, hlocks, hK, hN, hT⟩ := id C
  unfold f_X10_gain at h
  refine lv_aload_n hx hb dX10_gain_0 rfl (lv_at hl 0 rfl) ?_
  refine lv_iload_n hx hb dX10_gain_1 rfl (lv_at hl 1 rfl) ?_
  refine lv_iload_n hx hb dX10_gain_2 rfl (lv_at hl 2 rfl) ?_
  obtain ⟨w_1, hc_1, h⟩ := cl0_ex h
  refine g_cw (g_runV (ci := 10) (o := 0) (As := [.int p1, .int p2]) (rest := []) hx hb hml hown hts hK hN hT hS hW (c_X10_findWay hB hF hC h112 hc_1) (hB 0 bb_0) kd_0 rfl (gw_V mw_821 mw_823 mw_31 mw_66 mw_824) hv_X10_findWay rfl rfl rfl (rc_ok (by decide) (by decide)) hl.1 (Nat.le_of_ble_eq_true rfl) dX10_gain_3 rfl ⟨by decide, by decide⟩) hS (fun hro H locs hW hS => ?_) (fun S_8 ad_8 hro hag H locs hW8 hS => ?_)
  · subst hro
    refine lv_astore_nN (lv' := [(3, .null), (0, .ref (ad 0)), (1, .int p1), (2, .int p2)]) hx hb dX10_gain_6 rfl hl (by decide) rfl (fun ls hl => ?_)
    refine lv_aload_nN hx hb dX10_gain_7 rfl (lv_at hl 0 rfl) ?_
    refine lv_ifnonnullN hx hb dX10_gain_8 ?_
    refine lv_ldc (v := (-100000)) hx hb hown (hts _ mw_859) dX10_gain_11 ?_
    refine lv_goto (tgt := 20) hx hb dX10_gain_13 (by decide) ?_
    cases h
    exact g_iret hx hb hr hlocks hW hS dX10_gain_20
  · subst hro
    have hrow := findWay_rows h112 hc_1
    have hB8 : Lk (L ++ [112]) := fun x hx => me_l (hB x hx)
    refine lv_astore_n (lv' := [(3, .ref (ad_8 112)), (0, .ref (ad 0)), (1, .int p1), (2, .int p2)]) hx hb dX10_gain_6 rfl hl (by decide) rfl (fun ls hl => ?_)
    refine lv_aload_n hx hb dX10_gain_7 rfl (lv_at hl 0 rfl) ?_
    refine lv_ifnonnull (tgt := 16) hx hb dX10_gain_8 (by decide) ?_
    refine lv_aload_n hx hb dX10_gain_16 rfl (lv_at hl 0 rfl) ?_
    obtain ⟨r_9, hc_9, h⟩ := cl0_ex h
    refine g_ci (g_runV (ci := 4) (o := 112) (As := []) (rest := []) hx hb hml hown hts hK hN hT hS hW8 (c_X4_bestGain hB8 me_r hc_9) me_r kd_112 rfl (gw_V mw_860 mw_861 mw_862 mw_83 mw_863) hv_X4_bestGain rfl rfl rfl (rc_ok2 (by decide) (by decide)) hl.1 (Nat.le_of_ble_eq_true rfl) dX10_gain_17 rfl ⟨by decide, by decide⟩) hS (fun H locs hW8 hS => ?_)
    cases h
    exact g_iret hx hb hr hlocks (gw_back hag hC hF hrow hW8) hS dX10_gain_20
theorem c_X10_gain (hB : Lk L) (hF : Fx L S) (hC : Cl L S) (h112 : 112 ∉ L) {r : Int32} {p1 p2 : Int32} (h : f_X10_gain L N S p1 p2 = some r) : Met l yX10_gain (gws yX10_gain cX10_gain 4 (some .int)) (rmc 6 1 4) (va_Pc [.ref (ad 0), .int p1, .int p2] (WU g A ad L S)) (qi g A ad L r S) 1 4 A :=
  g_met [.ref (ad 0), .int p1, .int p2] (by decide) (Nat.le_of_ble_eq_true rfl) (fun p e s m below meth c ls C hW hl _ => t_X10_gain C hB hF hC h112 h hW va_S.rf hl)
theorem hv_X10_gain : yX10_gain.cls = RX10 ∧ yX10_gain.cls ≠ "java/lang/invoke/MethodHandle" ∧ yX10_gain.cls ≠ "java/lang/invoke/VarHandle" ∧ (parseMethodDescriptor yX10_gain.desc).map (fun d => d.parameters.length) = some 2 := by decide +kernel
def f_X10_length (L : List Nat) (N : Nat) (S : St) (p1 p2 : Int32) : Option Int32 := cl0 (f_X10_findWay L N S p1 p2) fun w_1 => match w_1 with
  | none => some (-1)
  | some S_8 => some (gv S_8 112 0)
set_option maxHeartbeats 4000000 in
theorem t_X10_length (C : MC p s m args meth c cX10_length 4 (some .int) RX10 g A) (hB : Lk L) (hF : Fx L S) (hC : Cl L S) (h112 : 112 ∉ L) {r : Int32} {p1 p2 : Int32} (h : f_X10_length L N S p1 p2 = some r) {H : Heap} {locs : List Loc} {ls : Array Slot} (hW : GW g A ad L S H) (hS : va_S A s.heap H locs) (hl : lv_has ls 4 [(0, .ref (ad 0)), (1, .int p1), (2, .int p2)]) : W p l e (rmc 6 1 4) s m args below meth c H locs 0 0 (MQ below (qi g A ad L r S) args s 1 4 A) (F0 m 0 ls []) := by
  obtain ⟨hx, hb, hml, hown, hts, hr, hlocks, hK, hN, hT⟩ := id C
  unfold f_X10_length at h
  refine lv_aload_n hx hb dX10_length_0 rfl (lv_at hl 0 rfl) ?_
  refine lv_iload_n hx hb dX10_length_1 rfl (lv_at hl 1 rfl) ?_
  refine lv_iload_n hx hb dX10_length_2 rfl (lv_at hl 2 rfl) ?_
  obtain ⟨w_1, hc_1, h⟩ := cl0_ex h
  refine g_cw (g_runV (ci := 10) (o := 0) (As := [.int p1, .int p2]) (rest := []) hx hb hml hown hts hK hN hT hS hW (c_X10_findWay hB hF hC h112 hc_1) (hB 0 bb_0) kd_0 rfl (gw_V mw_821 mw_823 mw_31 mw_66 mw_824) hv_X10_findWay rfl rfl rfl (rc_ok (by decide) (by decide)) hl.1 (Nat.le_of_ble_eq_true rfl) dX10_length_3 rfl ⟨by decide, by decide⟩) hS (fun hro H locs hW hS => ?_) (fun S_8 ad_8 hro hag H locs hW8 hS => ?_)
  · subst hro
    refine lv_astore_nN (lv' := [(3, .null), (0, .ref (ad 0)), (1, .int p1), (2, .int p2)]) hx hb dX10_length_6 rfl hl (by decide) rfl (fun ls hl => ?_)
    refine lv_aload_nN hx hb dX10_length_7 rfl (lv_at hl 0 rfl) ?_
    refine lv_ifnonnullN hx hb dX10_length_8 ?_
    refine lv_iconst (v := (-1)) hx hb dX10_length_11 (by decide) ?_
    refine lv_goto (tgt := 19) hx hb dX10_length_12 (by decide) ?_
    cases h
    exact g_iret hx hb hr hlocks hW hS dX10_length_19
  · subst hro
    have hrow := findWay_rows h112 hc_1
    have hB8 : Lk (L ++ [112]) := fun x hx => me_l (hB x hx)
    refine lv_astore_n (lv' := [(3, .ref (ad_8 112)), (0, .ref (ad 0)), (1, .int p1), (2, .int p2)]) hx hb dX10_length_6 rfl hl (by decide) rfl (fun ls hl => ?_)
    refine lv_aload_n hx hb dX10_length_7 rfl (lv_at hl 0 rfl) ?_
    refine lv_ifnonnull (tgt := 15) hx hb dX10_length_8 (by decide) ?_
    refine lv_aload_n hx hb dX10_length_15 rfl (lv_at hl 0 rfl) ?_
    refine g_get (C := RX4) (T := TX4) (N := 4) (ci := 4) hx hb hts inX4 hown hK hW8 me_r kd_112 rfl 0 (by decide) mw_832 rfl rfl dX10_length_16 ?_
    cases h
    exact g_iret hx hb hr hlocks (gw_back hag hC hF hrow hW8) hS dX10_length_19
theorem c_X10_length (hB : Lk L) (hF : Fx L S) (hC : Cl L S) (h112 : 112 ∉ L) {r : Int32} {p1 p2 : Int32} (h : f_X10_length L N S p1 p2 = some r) : Met l yX10_length (gws yX10_length cX10_length 4 (some .int)) (rmc 6 1 4) (va_Pc [.ref (ad 0), .int p1, .int p2] (WU g A ad L S)) (qi g A ad L r S) 1 4 A :=
  g_met [.ref (ad 0), .int p1, .int p2] (by decide) (Nat.le_of_ble_eq_true rfl) (fun p e s m below meth c ls C hW hl _ => t_X10_length C hB hF hC h112 h hW va_S.rf hl)
theorem hv_X10_length : yX10_length.cls = RX10 ∧ yX10_length.cls ≠ "java/lang/invoke/MethodHandle" ∧ yX10_length.cls ≠ "java/lang/invoke/VarHandle" ∧ (parseMethodDescriptor yX10_length.desc).map (fun d => d.parameters.length) = some 2 := by decide +kernel
def f_X10_act (L : List Nat) (N : Nat) (S : St) (p1 p2 p3 : Int32) : Option Int32 := cl0 (f_X10_findWay L N S p1 p2) fun w_1 => match w_1 with
  | none => some (-1)
  | some S_8 => cl0 (f_X4_bestAct N S_8 p3) fun r_9 => some r_9
set_option maxHeartbeats 4000000 in
theorem t_X10_act (C : MC p s m args meth c cX10_act 5 (some .int) RX10 g A) (hB : Lk L) (hF : Fx L S) (hC : Cl L S) (h112 : 112 ∉ L) {r : Int32} {p1 p2 p3 : Int32} (h : f_X10_act L N S p1 p2 p3 = some r) {H : Heap} {locs : List Loc} {ls : Array Slot} (hW : GW g A ad L S H) (hS : va_S A s.heap H locs) (hl : lv_has ls 5 [(0, .ref (ad 0)), (1, .int p1), (2, .int p2), (3, .int p3)]) : W p l e (rmc 6 1 4) s m args below meth c H locs 0 0 (MQ below (qi g A ad L r S) args s 1 4 A) (F0 m 0 ls []) := by
  obtain ⟨hx, hb, hml, hown, hts, hr, hlocks, hK, hN, hT⟩ := id C
  unfold f_X10_act at h
  refine lv_aload_n hx hb dX10_act_0 rfl (lv_at hl 0 rfl) ?_
  refine lv_iload_n hx hb dX10_act_1 rfl (lv_at hl 1 rfl) ?_
  refine lv_iload_n hx hb dX10_act_2 rfl (lv_at hl 2 rfl) ?_
  obtain ⟨w_1, hc_1, h⟩ := cl0_ex h
  refine g_cw (g_runV (ci := 10) (o := 0) (As := [.int p1, .int p2]) (rest := []) hx hb hml hown hts hK hN hT hS hW (c_X10_findWay hB hF hC h112 hc_1) (hB 0 bb_0) kd_0 rfl (gw_V mw_821 mw_823 mw_31 mw_66 mw_824) hv_X10_findWay rfl rfl rfl (rc_ok (by decide) (by decide)) hl.1 (Nat.le_of_ble_eq_true rfl) dX10_act_3 rfl ⟨by decide, by decide⟩) hS (fun hro H locs hW hS => ?_) (fun S_8 ad_8 hro hag H locs hW8 hS => ?_)
  · subst hro
    refine lv_astoreN (lv' := [(4, .null), (0, .ref (ad 0)), (1, .int p1), (2, .int p2), (3, .int p3)]) hx hb dX10_act_6 hl (by decide) rfl (fun ls hl => ?_)
    refine lv_aloadN hx hb dX10_act_8 (lv_at hl 0 rfl) ?_
    refine lv_ifnonnullN hx hb dX10_act_10 ?_
    refine lv_iconst (v := (-1)) hx hb dX10_act_13 (by decide) ?_
    refine lv_goto (tgt := 23) hx hb dX10_act_14 (by decide) ?_
    cases h
    exact g_iret hx hb hr hlocks hW hS dX10_act_23
  · subst hro
    have hrow := findWay_rows h112 hc_1
    have hB8 : Lk (L ++ [112]) := fun x hx => me_l (hB x hx)
    refine lv_astore (lv' := [(4, .ref (ad_8 112)), (0, .ref (ad 0)), (1, .int p1), (2, .int p2), (3, .int p3)]) hx hb dX10_act_6 hl (by decide) rfl (fun ls hl => ?_)
    refine lv_aload hx hb dX10_act_8 (lv_at hl 0 rfl) ?_
    refine lv_ifnonnull (tgt := 17) hx hb dX10_act_10 (by decide) ?_
    refine lv_aload hx hb dX10_act_17 (lv_at hl 0 rfl) ?_
    refine lv_iload_n hx hb dX10_act_19 rfl (lv_at hl 4 rfl) ?_
    obtain ⟨r_9, hc_9, h⟩ := cl0_ex h
    refine g_ci (g_runV (ci := 4) (o := 112) (As := [.int p3]) (rest := []) hx hb hml hown hts hK hN hT hS hW8 (c_X4_bestAct hB8 me_r hc_9) me_r kd_112 rfl (gw_V mw_872 mw_873 mw_874 mw_83 mw_875) hv_X4_bestAct rfl rfl rfl (rc_ok2 (by decide) (by decide)) hl.1 (Nat.le_of_ble_eq_true rfl) dX10_act_20 rfl ⟨by decide, by decide⟩) hS (fun H locs hW8 hS => ?_)
    cases h
    exact g_iret hx hb hr hlocks (gw_back hag hC hF hrow hW8) hS dX10_act_23
theorem c_X10_act (hB : Lk L) (hF : Fx L S) (hC : Cl L S) (h112 : 112 ∉ L) {r : Int32} {p1 p2 p3 : Int32} (h : f_X10_act L N S p1 p2 p3 = some r) : Met l yX10_act (gws yX10_act cX10_act 5 (some .int)) (rmc 6 1 4) (va_Pc [.ref (ad 0), .int p1, .int p2, .int p3] (WU g A ad L S)) (qi g A ad L r S) 1 4 A :=
  g_met [.ref (ad 0), .int p1, .int p2, .int p3] (by decide) (Nat.le_of_ble_eq_true rfl) (fun p e s m below meth c ls C hW hl _ => t_X10_act C hB hF hC h112 h hW va_S.rf hl)
theorem hv_X10_act : yX10_act.cls = RX10 ∧ yX10_act.cls ≠ "java/lang/invoke/MethodHandle" ∧ yX10_act.cls ≠ "java/lang/invoke/VarHandle" ∧ (parseMethodDescriptor yX10_act.desc).map (fun d => d.parameters.length) = some 3 := by decide +kernel
end WAY
