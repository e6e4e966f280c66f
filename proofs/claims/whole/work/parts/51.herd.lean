section HERDM
variable {p : Program} {l : Launch} {e : Env} {R : Room} {s : State} {m : MethodId} {args : Array Value} {below : List Frame} {meth : Method} {c : Code} {H : Heap} {locs : List Loc} {cells slots : Nat} {Q : State → Prop}
variable {cc : ByteArray} {pc : Nat} {ls : Array Slot} {rest : List Value} {A : Nat → Prop} {g : Cx} {ad ad2 : Nat → Nat} {L L3 : List Nat} {S S2 : St} {N : Nat}
theorem up_map {ad : Nat → Nat} {R : Nat → Option Nat} {k y : Nat} : (fun i => (va_up R k (some y) i).map ad) = va_up (fun i => (R i).map ad) k (some (ad y)) := by
  funext i
  unfold va_up
  by_cases h : i = k
  · simp [h]
  · simp [h]
theorem gd_aast (hexec : p.tables.exec = Jvm.exec) (hb : c.code = cc) (hK : va_K g.1 vwCl (gtys g) s) (hW : GD g A ad L S H) (hS : va_S A s.heap H locs) (ho : 6 ∈ L) {y : Nat} (hy : y ∈ L) (h1 : 60 ≤ y) (h2 : y < 66) {i : Int32} (hin : ¬ (i < 0 ∨ 6 ≤ ix i)) (hdg : decode cc pc = .ok (.aastore, 1))
    (kk : ∀ S2, S2 = sr S 6 (ix i) (some y) → ∀ (H1 : Heap) (locs1 : List Loc), GD g A ad L S2 H1 → va_S A s.heap H1 locs1 → W p l e R s m args below meth c H1 locs1 cells slots Q (F0 m (pc + 1) ls rest)) : W p l e R s m args below meth c H locs cells slots Q (F0 m pc ls (.ref (ad y) :: .int i :: .ref (ad 6) :: rest)) := by
  obtain ⟨q, hq, hq2⟩ := gcl_at (ad := ad) (cf := cellD g ad S) ho
  obtain ⟨q', hq', hq3⟩ := gcl_at (ad := ad) (cf := cellD g ad S) hy
  rw [cD_herd h1 h2] at hq3
  have hq2 : (gcl ad (cellD g ad S) L)[q]? = some (ad 6, .inl (g.2.2.2.2.1, 6, .inr (.inr (.inr (.inr (fun i => (S.2.1 6 i).map ad)))))) := hq2
  refine va_astq (r := (RX1, TX1, 12)) hexec hb hK hW.1 hW.2 hS q 3 q' 1 hq2 rfl hq3 rfl hin hdg (fun H1 locs1 hP hD hS1 => ?_)
  rw [gcl_set (cf1 := cellD g ad (sr S 6 (ix i) (some y))) hW.2 hq (by
    show kcD g ad 6 _ (up2 S.2.1 6 (ix i) (some y) 6) _ = _
    rw [up2_at]
    show Sum.inl (g.2.2.2.2.1, 6, Sum.inr (Sum.inr (Sum.inr (Sum.inr (fun j => (va_up (S.2.1 6) (ix i) (some y) j).map ad))))) = _
    rw [up_map]) cellD_sr] at hP hD
  exact kk _ rfl H1 locs1 ⟨hP, hD⟩ hS1
theorem herd_rows {hh xx : Nat} {p1 p2 p3 p4 : Int32} (h : f_X1_init (zr S hh) hh p1 p2 p3 p4 xx = some S2) (hx : hh < 66) (hx2 : 70 ≤ xx) : (∀ o, o ≠ hh → o ≠ xx → o ≠ xx + 10 → o ≠ xx + 20 → o ≠ xx + 30 → S2.1 o = S.1 o ∧ S2.2.1 o = S.2.1 o ∧ S2.2.2 o = S.2.2 o) ∧ (∀ k, k ≤ 2 → gr S2 xx k = some (xx + 10 * (k + 1))) := by
  unfold f_X1_init f_X5_init at h
  simp only [bn, cl0] at h
  cases h
  have hne : xx ≠ hh := by omega
  have n1 : ¬ xx = xx + 20 := by omega
  have n2 : ¬ xx = xx + 30 := by omega
  refine ⟨fun o h1 h2 h3 h4 h5 => ?_, fun k hk => ?_⟩
  · simp [sv, sr, up2, zr, h1, h2, h3, h4, h5]
  · have hk : k = 0 ∨ k = 1 ∨ k = 2 := by omega
    rcases hk with rfl | rfl | rfl <;> simp [gr, sv, sr, up2, zr, va_up, hne]
abbrev herdL (L : List Nat) (hh xx : Nat) : List Nat := L ++ [hh] ++ [xx] ++ [xx + 10] ++ [xx + 20] ++ [xx + 30]
theorem Fx_herd {hh xx k0 : Nat} (hF : Fx L S) (h1 : 60 ≤ hh) (h2 : hh < 66) (hx1 : 70 ≤ xx) (hx2 : xx < 77) (hfr : ∀ i ∈ [hh, xx, xx + 10, xx + 20, xx + 30], i ∉ L) (hr : (∀ o, o ≠ hh → o ≠ xx → o ≠ xx + 10 → o ≠ xx + 20 → o ≠ xx + 30 → S2.1 o = S.1 o ∧ S2.2.1 o = S.2.1 o ∧ S2.2.2 o = S.2.2 o) ∧ (∀ k, k ≤ 2 → gr S2 xx k = some (xx + 10 * (k + 1)))) : Fx (herdL L hh xx) (sr S2 6 k0 (some hh)) := fun o ho k t hk => by
  have h6 : o ≠ 6 := fun e => by
    subst e
    have hk : (none : Option Nat) = some t := hk
    cases hk
  rw [gr_sr, if_neg (fun e => h6 e.1)]
  by_cases hL : o ∈ L
  · have n1 : o ≠ hh := fun e => hfr hh (by simp) (e ▸ hL)
    have n2 : o ≠ xx := fun e => hfr xx (by simp) (e ▸ hL)
    have n3 : o ≠ xx + 10 := fun e => hfr (xx + 10) (by simp) (e ▸ hL)
    have n4 : o ≠ xx + 20 := fun e => hfr (xx + 20) (by simp) (e ▸ hL)
    have n5 : o ≠ xx + 30 := fun e => hfr (xx + 30) (by simp) (e ▸ hL)
    have := hF o hL k t hk
    unfold gr at this ⊢
    rw [(hr.1 o n1 n2 n3 n4 n5).2.1]
    exact this
  · have hc : o = hh ∨ o = xx ∨ o = xx + 10 ∨ o = xx + 20 ∨ o = xx + 30 := by
      simp only [herdL, List.mem_append, List.mem_singleton] at ho
      rcases ho with ((((h9 | h9) | h9) | h9) | h9) | h9
      · exact absurd h9 hL
      · exact Or.inl h9
      · exact Or.inr (Or.inl h9)
      · exact Or.inr (Or.inr (Or.inl h9))
      · exact Or.inr (Or.inr (Or.inr (Or.inl h9)))
      · exact Or.inr (Or.inr (Or.inr (Or.inr h9)))
    have hnone : ∀ o, (60 ≤ o ∧ o < 70) ∨ (77 ≤ o ∧ o < 107) → fxs o k = none := fun o h => by
      unfold fxs
      rcases h with ⟨a, b⟩ | ⟨a, b⟩
      · rw [if_neg (by omega), if_neg (by omega), if_neg (by omega), if_neg (by omega), if_neg (by omega), if_neg (by omega), if_pos b]
      · rw [if_neg (by omega), if_neg (by omega), if_neg (by omega), if_neg (by omega), if_neg (by omega), if_neg (by omega), if_neg (by omega), if_neg (by omega), if_pos b]
    rcases hc with rfl | rfl | rfl | rfl | rfl
    · rw [hnone _ (by omega)] at hk; cases hk
    · have hf : fxs o k = if k ≤ 2 then some (o + 10 * (k + 1)) else none := by
        unfold fxs
        rw [if_neg (by omega), if_neg (by omega), if_neg (by omega), if_neg (by omega), if_neg (by omega), if_neg (by omega), if_neg (by omega), if_pos hx2]
      rw [hf] at hk
      by_cases h9 : k ≤ 2
      · rw [if_pos h9] at hk
        rw [hr.2 k h9]
        exact hk
      · rw [if_neg h9] at hk
        cases hk
    · rw [hnone _ (by omega)] at hk; cases hk
    · rw [hnone _ (by omega)] at hk; cases hk
    · rw [hnone _ (by omega)] at hk; cases hk
def qh (g : Cx) (A : Nat → Prop) (ad : Nat → Nat) (L L2 : List Nat) (S : St) (res : Int32 × Option St) : Array Value → State → Outcome → State → Prop := fun _ st oc t =>
  (oc = .returned (some (.int res.1)) ∧ ((res.2 = none ∧ GW g A ad L S t.heap) ∨ ∃ (S9 : St) (ad2 : Nat → Nat), res.2 = some S9 ∧ (∀ x ∈ L, ad2 x = ad x) ∧ GW g A ad2 L2 S9 t.heap ∧ Cl L2 S9 ∧ Fx L2 S9)) ∧ va_F A st t
theorem g_ch {a : Array Value} {st : List Value} {res : Int32 × Option St} {L2 : List Nat} {mc ms : Nat} (hr : va_Run p l e R s m args below meth c H locs cells slots mc ms (F0 m pc ls st) rest (qh g A ad L L2 S res a) A) (hS : va_S A s.heap H locs)
    (k0 : res.2 = none → ∀ (H1 : Heap) (locs1 : List Loc), GW g A ad L S H1 → va_S A s.heap H1 locs1 → W p l e R s m args below meth c H1 locs1 (cells + mc) (slots + ms) Q (F0 m (pc + 3) ls (.int res.1 :: rest)))
    (k1 : ∀ (S9 : St) (ad2 : Nat → Nat), res.2 = some S9 → (∀ x ∈ L, ad2 x = ad x) → ∀ (H1 : Heap) (locs1 : List Loc), GW g A ad2 L2 S9 H1 → va_S A s.heap H1 locs1 → Cl L2 S9 → Fx L2 S9 → W p l e R s m args below meth c H1 locs1 (cells + mc) (slots + ms) Q (F0 m (pc + 3) ls (.int res.1 :: rest))) : W p l e R s m args below meth c H locs cells slots Q (F0 m pc ls st) := by
  intro T hT X
  obtain ⟨v, st₀, t, T', Lc, h0, X', hL, e1, e2, ⟨⟨ho, hq⟩, hz, hk⟩, sto⟩ := hr T hT X
  rw [h0] at hz hk
  have hS1 : va_S A s.heap T'.heap (locs ++ Lc) := ⟨Nat.le_trans hS.1 (by rw [e1]; exact hz), fun q h1 h2 => by rw [e1, hk q (Nat.lt_of_lt_of_le h1 hS.1) h2]; exact hS.2.1 q h1 h2, fun q hq => by
    rcases List.mem_append.mp hq with h | h
    · exact hS.2.2 q h
    · exact hL q h⟩
  cases ho
  rcases hq with ⟨hro, hg⟩ | ⟨S9, ad2, hro, hag, hg, hc, hf⟩
  · obtain ⟨t2, a1, b1⟩ := k0 hro T'.heap _ (by rw [e1]; exact hg) hS1 T' rfl X'
    exact ⟨t2, sto t2 a1, b1⟩
  · obtain ⟨t2, a1, b1⟩ := k1 S9 ad2 hro hag T'.heap _ (by rw [e1]; exact hg) hS1 hc hf T' rfl X'
    exact ⟨t2, sto t2 a1, b1⟩
def f_X10_herd (hh xx : Nat) (S : St) (p1 p2 p3 p4 : Int32) : Option (Int32 × Option St) := cl0 (f_X10_within S p1 1 500) fun r_2 => if r_2 = 0 then (some ((-1), none)) else (cl0 (f_X10_within S p2 100 600) fun r_6 => if r_6 = 0 then (some ((-1), none)) else (cl0 (f_X10_within S p3 1 20) fun r_10 => if r_10 = 0 then (some ((-1), none)) else (cl0 (f_X10_within S p4 (gv S 0 11) 10000) fun r_14 => if r_14 = 0 then (some ((-1), none)) else (if (gv S 0 7) < 6 then (bn (zr S hh) fun S_1 => cl0 (f_X1_init S_1 hh p1 p2 p3 p4 xx) fun S_2 => if (gv S 0 7) < 0 ∨ 6 ≤ ix (gv S 0 7) then none else bn (sr S_2 6 (ix (gv S 0 7)) (some hh)) fun S_3 => bn (sv S_3 0 7 ((gv S_3 0 7) + 1)) fun S_4 => some ((gv S_4 0 7) - 1, some S_4)) else (some ((-1), none))))))
set_option maxHeartbeats 4000000 in
theorem t_X10_herd (C : MC p s m args meth c cX10_herd 6 (some .int) RX10 g A) (hB : Lk L) (hF : Fx L S) (hC : Cl L S) {hh xx : Nat} {res : Int32 × Option St} (hmk : (∃ S4, res.2 = some S4) → 60 ≤ hh ∧ hh < 66 ∧ 70 ≤ xx ∧ xx < 77 ∧ ∀ i ∈ [hh, xx, xx + 10, xx + 20, xx + 30], i ∉ L) {p1 p2 p3 p4 : Int32} (h : f_X10_herd hh xx S p1 p2 p3 p4 = some res) {H : Heap} {locs : List Loc} {ls : Array Slot} (hW : GW g A ad L S H) (hS : va_S A s.heap H locs) (hl : lv_has ls 6 [(0, .ref (ad 0)), (1, .int p1), (2, .int p2), (3, .int p3), (4, .int p4)]) : W p l e (rmc 3 5 533) s m args below meth c H locs 0 0 (MQ below (qh g A ad L (herdL L hh xx) S res) args s 5 533 A) (F0 m 0 ls []) := by
  obtain ⟨hx, hb, hml, hown, hts, hr, hlocks, hK, hN, hT⟩ := id C
  unfold f_X10_herd at h
  refine lv_iload_n hx hb dX10_herd_0 rfl (lv_at hl 1 rfl) ?_
  refine lv_iconst (v := 1) hx hb dX10_herd_1 (by decide) ?_
  refine lv_sipush (v := 500) hx hb dX10_herd_2 (by decide) ?_
  obtain ⟨r_2, hc_1, h⟩ := cl0_ex h
  refine g_cz (g_runS (As := [.int p1, .int 1, .int 500]) (rest := []) hx hb hml hown hts hK hN hT hS hW (c_X10_within hB hc_1) (gw_S mw_332 mw_293 mw_66 mw_294) hs_X10_within rfl rfl rfl (rc_ok2 (by decide) (by decide)) hl.1 (Nat.le_of_ble_eq_true rfl) dX10_herd_5 rfl ⟨by decide, by decide⟩) hS (fun hz_3 H locs hW hS => ?_)
  refine lv_if_eq (tgt := 52) hx hb dX10_herd_8 (by decide) (fun c_4 => ?_) (fun c_4 => ?_)
  · have h := it_t c_4 h
    refine lv_iconst (v := 0) hx hb dX10_herd_52 (by decide) ?_
    refine lv_istore (lv' := [(5, .int 0), (0, .ref (ad 0)), (1, .int p1), (2, .int p2), (3, .int p3), (4, .int p4)]) hx hb dX10_herd_53 hl (by decide) rfl (fun ls hl => ?_)
    refine lv_iload hx hb dX10_herd_55 (lv_at hl 0 rfl) ?_
    refine lv_if_eq (tgt := 69) hx hb dX10_herd_57 (by decide) (fun _ => ?_) (fun c9 => absurd c9 (by decide))
    refine lv_iconst (v := (-1)) hx hb dX10_herd_69 (by decide) ?_
    cases h
    refine W.widen (k := 5) (n := 533) (by decide) (by decide) ?_
    exact W.iret hx hb hr (fun t ht _ => ⟨⟨rfl, Or.inl ⟨rfl, ht.symm ▸ hW⟩⟩, hS.F ht⟩) hS.2.2 dX10_herd_70 hlocks
  · have h := it_f c_4 h
    refine lv_iload_n hx hb dX10_herd_11 rfl (lv_at hl 2 rfl) ?_
    refine lv_bipush (v := 100) hx hb dX10_herd_12 (by decide) ?_
    refine lv_sipush (v := 600) hx hb dX10_herd_14 (by decide) ?_
    obtain ⟨r_6, hc_5, h⟩ := cl0_ex h
    refine g_cz (g_runS (As := [.int p2, .int 100, .int 600]) (rest := []) hx hb hml hown hts hK hN hT hS hW (c_X10_within hB hc_5) (gw_S mw_332 mw_293 mw_66 mw_294) hs_X10_within rfl rfl rfl (rc_ok2 (by decide) (by decide)) hl.1 (Nat.le_of_ble_eq_true rfl) dX10_herd_17 rfl ⟨by decide, by decide⟩) hS (fun hz_7 H locs hW hS => ?_)
    refine lv_if_eq (tgt := 52) hx hb dX10_herd_20 (by decide) (fun c_8 => ?_) (fun c_8 => ?_)
    · have h := it_t c_8 h
      refine lv_iconst (v := 0) hx hb dX10_herd_52 (by decide) ?_
      refine lv_istore (lv' := [(5, .int 0), (0, .ref (ad 0)), (1, .int p1), (2, .int p2), (3, .int p3), (4, .int p4)]) hx hb dX10_herd_53 hl (by decide) rfl (fun ls hl => ?_)
      refine lv_iload hx hb dX10_herd_55 (lv_at hl 0 rfl) ?_
      refine lv_if_eq (tgt := 69) hx hb dX10_herd_57 (by decide) (fun _ => ?_) (fun c9 => absurd c9 (by decide))
      refine lv_iconst (v := (-1)) hx hb dX10_herd_69 (by decide) ?_
      cases h
      refine W.widen (k := 5) (n := 533) (by decide) (by decide) ?_
      exact W.iret hx hb hr (fun t ht _ => ⟨⟨rfl, Or.inl ⟨rfl, ht.symm ▸ hW⟩⟩, hS.F ht⟩) hS.2.2 dX10_herd_70 hlocks
    · have h := it_f c_8 h
      refine lv_iload_n hx hb dX10_herd_23 rfl (lv_at hl 3 rfl) ?_
      refine lv_iconst (v := 1) hx hb dX10_herd_24 (by decide) ?_
      refine lv_bipush (v := 20) hx hb dX10_herd_25 (by decide) ?_
      obtain ⟨r_10, hc_9, h⟩ := cl0_ex h
      refine g_cz (g_runS (As := [.int p3, .int 1, .int 20]) (rest := []) hx hb hml hown hts hK hN hT hS hW (c_X10_within hB hc_9) (gw_S mw_332 mw_293 mw_66 mw_294) hs_X10_within rfl rfl rfl (rc_ok2 (by decide) (by decide)) hl.1 (Nat.le_of_ble_eq_true rfl) dX10_herd_27 rfl ⟨by decide, by decide⟩) hS (fun hz_11 H locs hW hS => ?_)
      refine lv_if_eq (tgt := 52) hx hb dX10_herd_30 (by decide) (fun c_12 => ?_) (fun c_12 => ?_)
      · have h := it_t c_12 h
        refine lv_iconst (v := 0) hx hb dX10_herd_52 (by decide) ?_
        refine lv_istore (lv' := [(5, .int 0), (0, .ref (ad 0)), (1, .int p1), (2, .int p2), (3, .int p3), (4, .int p4)]) hx hb dX10_herd_53 hl (by decide) rfl (fun ls hl => ?_)
        refine lv_iload hx hb dX10_herd_55 (lv_at hl 0 rfl) ?_
        refine lv_if_eq (tgt := 69) hx hb dX10_herd_57 (by decide) (fun _ => ?_) (fun c9 => absurd c9 (by decide))
        refine lv_iconst (v := (-1)) hx hb dX10_herd_69 (by decide) ?_
        cases h
        refine W.widen (k := 5) (n := 533) (by decide) (by decide) ?_
        exact W.iret hx hb hr (fun t ht _ => ⟨⟨rfl, Or.inl ⟨rfl, ht.symm ▸ hW⟩⟩, hS.F ht⟩) hS.2.2 dX10_herd_70 hlocks
      · have h := it_f c_12 h
        refine lv_iload hx hb dX10_herd_33 (lv_at hl 4 rfl) ?_
        refine lv_aload_n hx hb dX10_herd_35 rfl (lv_at hl 0 rfl) ?_
        refine g_get (C := RX10) (T := TX10) (N := 12) (ci := 10) hx hb hts inX10 hown hK hW (hB 0 bb_0) kd_0 rfl 11 (by decide) mw_259 rfl rfl dX10_herd_36 ?_
        refine lv_sipush (v := 10000) hx hb dX10_herd_39 (by decide) ?_
        obtain ⟨r_14, hc_13, h⟩ := cl0_ex h
        refine g_cz (g_runS (As := [.int p4, .int (gv S 0 11), .int 10000]) (rest := []) hx hb hml hown hts hK hN hT hS hW (c_X10_within hB hc_13) (gw_S mw_332 mw_293 mw_66 mw_294) hs_X10_within rfl rfl rfl (rc_ok2 (by decide) (by decide)) hl.1 (Nat.le_of_ble_eq_true rfl) dX10_herd_42 rfl ⟨by decide, by decide⟩) hS (fun hz_15 H locs hW hS => ?_)
        refine lv_if_eq (tgt := 52) hx hb dX10_herd_45 (by decide) (fun c_16 => ?_) (fun c_16 => ?_)
        · have h := it_t c_16 h
          refine lv_iconst (v := 0) hx hb dX10_herd_52 (by decide) ?_
          refine lv_istore (lv' := [(5, .int 0), (0, .ref (ad 0)), (1, .int p1), (2, .int p2), (3, .int p3), (4, .int p4)]) hx hb dX10_herd_53 hl (by decide) rfl (fun ls hl => ?_)
          refine lv_iload hx hb dX10_herd_55 (lv_at hl 0 rfl) ?_
          refine lv_if_eq (tgt := 69) hx hb dX10_herd_57 (by decide) (fun _ => ?_) (fun c9 => absurd c9 (by decide))
          refine lv_iconst (v := (-1)) hx hb dX10_herd_69 (by decide) ?_
          cases h
          refine W.widen (k := 5) (n := 533) (by decide) (by decide) ?_
          exact W.iret hx hb hr (fun t ht _ => ⟨⟨rfl, Or.inl ⟨rfl, ht.symm ▸ hW⟩⟩, hS.F ht⟩) hS.2.2 dX10_herd_70 hlocks
        · have h := it_f c_16 h
          refine lv_iconst (v := 1) hx hb dX10_herd_48 (by decide) ?_
          refine lv_goto (tgt := 53) hx hb dX10_herd_49 (by decide) ?_
          refine lv_istore (lv' := [(5, .int 1), (0, .ref (ad 0)), (1, .int p1), (2, .int p2), (3, .int p3), (4, .int p4)]) hx hb dX10_herd_53 hl (by decide) rfl (fun ls hl => ?_)
          refine lv_iload hx hb dX10_herd_55 (lv_at hl 0 rfl) ?_
          refine lv_if_eq (tgt := 69) hx hb dX10_herd_57 (by decide) (fun c9 => absurd c9 (by decide)) (fun _ => ?_)
          refine lv_aload_n hx hb dX10_herd_60 rfl (lv_at hl 1 rfl) ?_
          refine g_get (C := RX10) (T := TX10) (N := 12) (ci := 10) hx hb hts inX10 hown hK hW (hB 0 bb_0) kd_0 rfl 7 (by decide) mw_255 rfl rfl dX10_herd_61 ?_
          refine lv_bipush (v := 6) hx hb dX10_herd_64 (by decide) ?_
          refine lv_icmp_lt (tgt := 71) hx hb dX10_herd_66 (by decide) (fun c_17 => ?_) (fun c_17 => ?_)
          · have h := it_t c_17 h
            refine lv_aload_n hx hb dX10_herd_71 rfl (lv_at hl 1 rfl) ?_
            refine g_get (C := RX10) (T := TX10) (N := 12) (ci := 10) hx hb hts inX10 hown hK hW (hB 0 bb_0) kd_0 rfl 3 (by decide) mw_251 rfl rfl dX10_herd_72 ?_
            refine lv_aload_n hx hb dX10_herd_75 rfl (lv_at hl 1 rfl) ?_
            refine g_get (C := RX10) (T := TX10) (N := 12) (ci := 10) hx hb hts inX10 hown hK hW (hB 0 bb_0) kd_0 rfl 7 (by decide) mw_255 rfl rfl dX10_herd_76 ?_
            have hres : ∃ S4, res.2 = some S4 := by
              have h := bn_at (x := zr S hh) rfl h
              obtain ⟨S_2, -, h⟩ := cl0_ex h
              obtain ⟨-, h⟩ := ck_n h
              cases h
              exact ⟨_, rfl⟩
            obtain ⟨h1, h2, hx1, hx2, hfr⟩ := hmk hres
            have hD := (gd_gw hF).mpr hW
            refine gd_new (C := RX1) (T := TX1) (N := 12) (ci := 1) hx hb hts inX1 tyX1 tyX1_ok hown mw_201 mw_333 mw_74 hK hT hD hS hC rfl hh (hfr hh (by simp)) (fun j hj => by rcases (show j = 0 ∨ j = 1 ∨ j = 2 ∨ j = 3 ∨ j = 4 ∨ j = 5 ∨ j = 6 ∨ j = 7 ∨ j = 8 ∨ j = 9 ∨ j = 10 ∨ j = 11 by omega) with rfl | rfl | rfl | rfl | rfl | rfl | rfl | rfl | rfl | rfl | rfl | rfl <;> rfl) (fun _ => zD_herd h1 h2) (by decide) (by decide) dX10_herd_79 (fun S_1 eS_1 ad_1 hag H hD hS hC1 => ?_)
            rw [← hag 0 (by omega)] at hl
            rw [← hag 6 (by omega)]
            have h := bn_at eS_1 h
            refine lv_dup hx hb dX10_herd_82 rfl ?_
            refine lv_iload_n hx hb dX10_herd_83 rfl (lv_at hl 2 rfl) ?_
            refine lv_iload_n hx hb dX10_herd_84 rfl (lv_at hl 3 rfl) ?_
            refine lv_iload_n hx hb dX10_herd_85 rfl (lv_at hl 4 rfl) ?_
            refine lv_iload hx hb dX10_herd_86 (lv_at hl 5 rfl) ?_
            obtain ⟨S_2, hc_2, h⟩ := cl0_ex h
            refine gd_c (gd_runI (o := hh) (As := [.int p1, .int p2, .int p3, .int p4]) (rest := [.ref (ad_1 hh), .int (gv S 0 7), .ref (ad_1 6)]) hx hb hml hown hts hK hN hT hS hD (c_X1_init (x := xx) me_r (by intro i9 hi9; simp only [List.mem_cons, List.not_mem_nil, or_false] at hi9; rcases hi9 with rfl | rfl | rfl | rfl <;> exact nm_app (hfr _ (by simp)) (by omega)) hC1 h1 h2 hx1 hx2 hc_2) mw_336 mw_334 mw_335 mw_74 rfl hi_X1_init rfl rfl rfl (rc_ok (by decide) (by decide)) hl.1 (Nat.le_of_ble_eq_true rfl) dX10_herd_88 rfl ⟨by decide, by decide⟩) hS (fun ad_2 hag2 H locs hD hS hC2 => ?_)
            rw [← hag2 0 (me_l (hB 0 bb_0))] at hl
            rw [← hag2 hh me_r, ← hag2 6 (me_l (hB 6 bb_6))]
            obtain ⟨hi_3, h⟩ := ck_n h
            refine gd_aast hx hb hK hD hS (me_l (me_l (me_l (me_l (me_l (hB 6 bb_6)))))) (me_l (me_l (me_l (me_l me_r)))) h1 h2 hi_3 dX10_herd_91 (fun S_3 eS_3 H locs hD hS => ?_)
            have h := bn_at eS_3 h
            rw [eS_1] at hc_2
            have hF3 : Fx (herdL L hh xx) S_3 := eS_3 ▸ Fx_herd hF h1 h2 hx1 hx2 hfr (herd_rows hc_2 h2 hx1)
            have hC3 : Cl (herdL L hh xx) S_3 := eS_3 ▸ Cl_sr hC2 (me_l (me_l (me_l (me_l me_r))))
            have hW := (gd_gw hF3).mp hD
            have hB : Lk (herdL L hh xx) := fun x hx => me_l (me_l (me_l (me_l (me_l (hB x hx)))))
            have hagL : ∀ x ∈ L, ad_2 x = ad x := fun x hx => (hag2 x (me_l hx)).trans (hag x (fun e9 => hfr hh (by simp) (e9 ▸ hx)))
            refine lv_aload_n hx hb dX10_herd_92 rfl (lv_at hl 1 rfl) ?_
            refine lv_dup hx hb dX10_herd_93 rfl ?_
            refine g_get (C := RX10) (T := TX10) (N := 12) (ci := 10) hx hb hts inX10 hown hK hW (hB 0 bb_0) kd_0 rfl 7 (by decide) mw_255 rfl rfl dX10_herd_94 ?_
            refine lv_iconst (v := 1) hx hb dX10_herd_97 (by decide) ?_
            refine lv_iadd hx hb dX10_herd_98 ?_
            refine g_put (C := RX10) (T := TX10) (N := 12) (ci := 10) hx hb hts inX10 tyX10 tyX10_ok nmX10 hown hK hW hS (hB 0 bb_0) kd_0 rfl 7 (by decide) mw_255 rfl rfl rfl rfl (Nat.le_of_ble_eq_true rfl) (sv S_3 0 7 ((gv S_3 0 7) + 1)) (ps_0_7) cellOf_sv dX10_herd_99 (fun S_4 eS_4 H locs hW hS => ?_)
            have h := bn_at eS_4 h
            refine lv_aload_n hx hb dX10_herd_102 rfl (lv_at hl 1 rfl) ?_
            refine g_get (C := RX10) (T := TX10) (N := 12) (ci := 10) hx hb hts inX10 hown hK hW (hB 0 bb_0) kd_0 rfl 7 (by decide) mw_255 rfl rfl dX10_herd_103 ?_
            refine lv_iconst (v := 1) hx hb dX10_herd_106 (by decide) ?_
            refine lv_isub hx hb dX10_herd_107 ?_
            cases h
            exact W.iret hx hb hr (fun t ht _ => ⟨⟨rfl, Or.inr ⟨S_4, ad_2, rfl, hagL, ht.symm ▸ hW, eS_4 ▸ Cl_sv hC3, eS_4 ▸ hF3⟩⟩, hS.F ht⟩) hS.2.2 dX10_herd_108 hlocks
          · have h := it_f c_17 h
            refine lv_iconst (v := (-1)) hx hb dX10_herd_69 (by decide) ?_
            cases h
            refine W.widen (k := 5) (n := 533) (by decide) (by decide) ?_
            exact W.iret hx hb hr (fun t ht _ => ⟨⟨rfl, Or.inl ⟨rfl, ht.symm ▸ hW⟩⟩, hS.F ht⟩) hS.2.2 dX10_herd_70 hlocks
theorem c_X10_herd (hB : Lk L) (hF : Fx L S) (hC : Cl L S) {hh xx : Nat} {res : Int32 × Option St} (hmk : (∃ S4, res.2 = some S4) → 60 ≤ hh ∧ hh < 66 ∧ 70 ≤ xx ∧ xx < 77 ∧ ∀ i ∈ [hh, xx, xx + 10, xx + 20, xx + 30], i ∉ L) {p1 p2 p3 p4 : Int32} (h : f_X10_herd hh xx S p1 p2 p3 p4 = some res) : Met l yX10_herd (gws yX10_herd cX10_herd 6 (some .int)) (rmc 3 5 533) (va_Pc [.ref (ad 0), .int p1, .int p2, .int p3, .int p4] (WU g A ad L S)) (qh g A ad L (herdL L hh xx) S res) 5 533 A :=
  g_met [.ref (ad 0), .int p1, .int p2, .int p3, .int p4] (by decide) (Nat.le_of_ble_eq_true rfl) (fun p e s m below meth c ls C hW hl _ => t_X10_herd C hB hF hC hmk h hW va_S.rf hl)
theorem hv_X10_herd : yX10_herd.cls = RX10 ∧ yX10_herd.cls ≠ "java/lang/invoke/MethodHandle" ∧ yX10_herd.cls ≠ "java/lang/invoke/VarHandle" ∧ (parseMethodDescriptor yX10_herd.desc).map (fun d => d.parameters.length) = some 4 := by decide +kernel
end HERDM
