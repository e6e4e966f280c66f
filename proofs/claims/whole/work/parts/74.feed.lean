section FEEDM
def bC (v : Int32) (s : Int32) : Int32 := ((v.toUInt32 >>> (s.toUInt32 &&& Int32.toUInt32 31)).toInt32).toInt8.toInt32
def bR (v : Int32) (s : Int32) : Int32 := (v >>> (s &&& 31)) &&& 255
theorem sx8 : ∀ n, n < 256 → (BitVec.ofNat 8 n).signExtend 32 = (sbyte n).toBitVec := by decide +kernel
theorem shr_lo (x : BitVec 32) (s : Nat) (hs : s ≤ 24) : x.sshiftRight s &&& 255#32 = x >>> s &&& 255#32 := by
  apply BitVec.eq_of_getLsbD_eq
  intro i hi
  simp only [BitVec.getLsbD_and, BitVec.getLsbD_sshiftRight, BitVec.getLsbD_ushiftRight]
  by_cases h8 : i < 8
  · have h1 : ¬ 32 ≤ i := by omega
    have h2 : s + i < 32 := by omega
    simp [h1, h2]
  · have h3 : (255#32).getLsbD i = false := by
      have : ∀ i, i < 32 → ¬ i < 8 → (255#32).getLsbD i = false := by decide
      exact this i hi h8
    simp [h3]
theorem byte_rel (v : Int32) (s : Nat) (hs : s = 24 ∨ s = 16 ∨ s = 8 ∨ s = 0) : ∃ b : Nat, b < 256 ∧ bR v (nI s) = nI b ∧ bC v (nI s) = sbyte b := by
  have hs24 : s ≤ 24 := by omega
  refine ⟨(v.toBitVec >>> s &&& 255#32).toNat, ?_, ?_, ?_⟩
  · rw [BitVec.toNat_and]
    exact Nat.lt_of_le_of_lt Nat.and_le_right (by decide)
  · unfold bR
    apply Int32.toBitVec_inj.mp
    rw [Int32.toBitVec_and, Int32.toBitVec_shiftRight]
    have e1 : ((nI s &&& 31).toBitVec.smod 32) = BitVec.ofNat 32 s := by
      rcases hs with h | h | h | h <;> subst h <;> decide
    have e2 : v.toBitVec.sshiftRight' (BitVec.ofNat 32 s) = v.toBitVec.sshiftRight s := by
      show v.toBitVec.sshiftRight (BitVec.ofNat 32 s).toNat = _
      rw [BitVec.toNat_ofNat, Nat.mod_eq_of_lt (by omega)]
    rw [e1, e2]
    have e3 : (255 : Int32).toBitVec = 255#32 := rfl
    rw [e3, shr_lo _ _ hs24]
    have e4 : (nI (v.toBitVec >>> s &&& 255#32).toNat).toBitVec = BitVec.ofNat 32 (v.toBitVec >>> s &&& 255#32).toNat := rfl
    rw [e4, BitVec.ofNat_toNat, BitVec.setWidth_eq]
  · unfold bC
    apply Int32.toBitVec_inj.mp
    have hb : (v.toBitVec >>> s &&& 255#32).toNat < 256 := by
      rw [BitVec.toNat_and]
      exact Nat.lt_of_le_of_lt Nat.and_le_right (by decide)
    rw [← sx8 _ hb]
    have e5 : (v.toUInt32 >>> ((nI s).toUInt32 &&& Int32.toUInt32 31)).toBitVec = v.toBitVec >>> s := by
      rw [UInt32.toBitVec_shiftRight]
      have e6 : (((nI s).toUInt32 &&& Int32.toUInt32 31).toBitVec % 32) = BitVec.ofNat 32 s := by
        rcases hs with h | h | h | h <;> subst h <;> decide
      have e7 : v.toUInt32.toBitVec = v.toBitVec := rfl
      rw [e6, e7]
      show v.toBitVec >>> (BitVec.ofNat 32 s).toNat = _
      rw [BitVec.toNat_ofNat, Nat.mod_eq_of_lt (by omega)]
    rw [Int8.toBitVec_toInt32]
    congr 1
    rw [Int32.toBitVec_toInt8, BitVec.signExtend_eq_setWidth_of_le _ (by omega)]
    show BitVec.setWidth 8 ((v.toUInt32 >>> ((nI s).toUInt32 &&& Int32.toUInt32 31)).toBitVec) = _
    rw [e5]
    apply BitVec.eq_of_toNat_eq
    rw [BitVec.toNat_setWidth, BitVec.toNat_ofNat, BitVec.toNat_and]
    have : (255#32).toNat = 2 ^ 8 - 1 := rfl
    rw [this, Nat.and_two_pow_sub_one_eq_mod, Nat.mod_mod]
def upF (F : Nat → Int32) (m : Nat) (v : Int32) (i : Nat) : Int32 := if i = m then bC v (nI 24) else if i = m + 1 then bC v (nI 16) else if i = m + 2 then bC v (nI 8) else if i = m + 3 then bC v (nI 0) else F i
def upG (F : Nat → Int32) (m : Nat) (v : Int32) (i : Nat) : Int32 := if i = m then bR v (nI 24) else if i = m + 1 then bR v (nI 16) else if i = m + 2 then bR v (nI 8) else if i = m + 3 then bR v (nI 0) else F i
def tP (F G : Nat → Int32) (m : Nat) : Prop := ∀ i, i < m → ∃ b : Nat, b < 256 ∧ G i = nI b ∧ F i = sbyte b
theorem tP_up {F G : Nat → Int32} {m : Nat} {v : Int32} (h : tP F G m) : tP (upF F m v) (upG G m v) (m + 4) := by
  intro i hi
  unfold upF upG
  by_cases c0 : i = m
  · simp only [c0, if_true]; exact byte_rel v 24 (by omega)
  by_cases c1 : i = m + 1
  · simp only [c1, if_true, if_neg (show ¬ m + 1 = m by omega)]; exact byte_rel v 16 (by omega)
  by_cases c2 : i = m + 2
  · simp only [c2, if_true, if_neg (show ¬ m + 2 = m by omega), if_neg (show ¬ m + 2 = m + 1 by omega)]; exact byte_rel v 8 (by omega)
  by_cases c3 : i = m + 3
  · simp only [c3, if_true, if_neg (show ¬ m + 3 = m by omega), if_neg (show ¬ m + 3 = m + 1 by omega), if_neg (show ¬ m + 3 = m + 2 by omega)]; exact byte_rel v 0 (by omega)
  simp only [if_neg c0, if_neg c1, if_neg c2, if_neg c3]
  exact h i (by omega)
def wFC (a j : Nat) : Prop := (a = 0 ∧ j = 8) ∨ a = 7
def wFR (a j : Nat) : Prop := (a = 200 ∧ j = 37) ∨ a = 237
theorem feedC1 {N : Nat} {v : Int32} {k : St → Option St} {fuel m s : Nat} {S : St} (h : gv S 0 8 = nI m) (hm : m < 500) (hs : s < 100) : f_X10_feedFour_l3 N v k (fuel + 1) S (nI s) = f_X10_feedFour_l3 N v k fuel (sv (sv S 7 m (bC v (nI s))) 0 8 (nI (m + 1))) (nI s + (-8)) := by
  rw [f_X10_feedFour_l3]
  simp only [bn, cl0, cl1, oc, gv_sv, gv_sr, gr_sv, gv_sl, gr_sl, gl_sv, gl_sl, or_self, or_false, false_or, if_false, if_true, reduceIte, h, nn (show s < 2147483648 by omega), nn (show m < 2147483648 by omega), ix_nI (show m < 2147483648 by omega), inG hm, show ¬ 500 ≤ nI m from nle_n (b := m) (a := 500) hm (by omega), nl_add1, bC]
  simp [h, nl_add1]
theorem feedR1 {N : Nat} {v : Int32} {k : St → Option St} {fuel m s : Nat} {S : St} (h : gv S 200 37 = nI m) (hm : m < 500) (hs : s < 100) : f_X11_four_l3 N v k (fuel + 1) S (nI s) = f_X11_four_l3 N v k fuel (sv (sv S 237 m (bR v (nI s))) 200 37 (nI (m + 1))) (nI s + (-8)) := by
  rw [f_X11_four_l3]
  simp only [bn, cl0, cl1, oc, gv_sv, gv_sr, gr_sv, gv_sl, gr_sl, gl_sv, gl_sl, or_self, or_false, false_or, if_false, if_true, reduceIte, h, nn (show s < 2147483648 by omega), nn (show m < 2147483648 by omega), ix_nI (show m < 2147483648 by omega), inG hm, nl_add1, bR]
  simp [h, nl_add1]
theorem feedC {N : Nat} {v : Int32} {m : Nat} {S : St} (hN : 100 ≤ N) (h : gv S 0 8 = nI m) (hm : m + 4 ≤ 500) : ∃ S', f_X10_feedFour N S v = some S' ∧ Kp wFC S S' ∧ gv S' 0 8 = nI (m + 4) ∧ (∀ i, gv S' 7 i = upF (gv S 7) m v i) := by
  obtain ⟨q, rfl⟩ : ∃ q, N = q + 5 := ⟨N - 5, by omega⟩
  unfold f_X10_feedFour
  rw [show (24 : Int32) = nI 24 from rfl, feedC1 h (by omega) (by omega), show nI 24 + (-8) = nI 16 from by decide, feedC1 (m := m + 1) (by simp [gv_sv]) (by omega) (by omega), show nI 16 + (-8) = nI 8 from by decide, feedC1 (m := m + 2) (by simp [gv_sv]) (by omega) (by omega), show nI 8 + (-8) = nI 0 from by decide, feedC1 (m := m + 3) (by simp [gv_sv]) (by omega) (by omega), f_X10_feedFour_l3, if_pos (by decide)]
  refine ⟨_, rfl, ?_, by simp [gv_sv], fun i => ?_⟩
  · exact (((((((Kp.rf.sv (by unfold wFC; omega)).sv (by unfold wFC; omega)).sv (by unfold wFC; omega)).sv (by unfold wFC; omega)).sv (by unfold wFC; omega)).sv (by unfold wFC; omega)).sv (by unfold wFC; omega)).sv (by unfold wFC; omega)
  · unfold upF
    by_cases c0 : i = m
    · simp [gv_sv, c0]
    by_cases c1 : i = m + 1
    · simp [gv_sv, c1]
    by_cases c2 : i = m + 2
    · simp [gv_sv, c2]
    by_cases c3 : i = m + 3
    · simp [gv_sv, c3]
    simp [gv_sv, c0, c1, c2, c3]
theorem feedR {N : Nat} {v : Int32} {m : Nat} {S : St} (hN : 100 ≤ N) (h : gv S 200 37 = nI m) (hm : m + 4 ≤ 500) : ∃ S', f_X11_four N S v = some S' ∧ Kp wFR S S' ∧ gv S' 200 37 = nI (m + 4) ∧ (∀ i, gv S' 237 i = upG (gv S 237) m v i) := by
  obtain ⟨q, rfl⟩ : ∃ q, N = q + 5 := ⟨N - 5, by omega⟩
  unfold f_X11_four
  rw [show (24 : Int32) = nI 24 from rfl, feedR1 h (by omega) (by omega), show nI 24 + (-8) = nI 16 from by decide, feedR1 (m := m + 1) (by simp [gv_sv]) (by omega) (by omega), show nI 16 + (-8) = nI 8 from by decide, feedR1 (m := m + 2) (by simp [gv_sv]) (by omega) (by omega), show nI 8 + (-8) = nI 0 from by decide, feedR1 (m := m + 3) (by simp [gv_sv]) (by omega) (by omega), f_X11_four_l3, if_pos (by decide)]
  refine ⟨_, rfl, ?_, by simp [gv_sv], fun i => ?_⟩
  · exact (((((((Kp.rf.sv (by unfold wFR; omega)).sv (by unfold wFR; omega)).sv (by unfold wFR; omega)).sv (by unfold wFR; omega)).sv (by unfold wFR; omega)).sv (by unfold wFR; omega)).sv (by unfold wFR; omega)).sv (by unfold wFR; omega)
  · unfold upG
    by_cases c0 : i = m
    · simp [gv_sv, c0]
    by_cases c1 : i = m + 1
    · simp [gv_sv, c1]
    by_cases c2 : i = m + 2
    · simp [gv_sv, c2]
    by_cases c3 : i = m + 3
    · simp [gv_sv, c3]
    simp [gv_sv, c0, c1, c2, c3]
theorem stp_6 {N : Nat} (hN : 1000 ≤ N) : Stp_6 N Inv := by
  intro L S a b c d e hi
  obtain ⟨n, st, hL, hv⟩ := id hi
  obtain ⟨hn, hr, hDay, hLet, hFlt, hBil, hRoad, hPas, ⟨m, t1, t2, t3, t4⟩, _⟩ := id hv
  unfold f_X10_feed f_X11_feed
  have e20 : nI m + 20 = nI (m + 20) := by rw [show (20 : Int32) = nI 20 from rfl, nI_add]
  by_cases c1 : m + 20 ≤ 500
  · have q : nI m + 20 ≤ 500 := by rw [e20]; exact le_n (b := 500) c1 (by omega)
    obtain ⟨S1, s1, s2, s3, s4⟩ := feedC (N := N) (v := a) (by omega) t2 (by omega)
    obtain ⟨S2, u1, u2, u3, u4⟩ := feedC (N := N) (v := b) (by omega) s3 (by omega)
    obtain ⟨S3, v1, v2, v3, v4⟩ := feedC (N := N) (v := c) (by omega) u3 (by omega)
    obtain ⟨S4, w1, w2, w3, w4⟩ := feedC (N := N) (v := d) (by omega) v3 (by omega)
    obtain ⟨S5, x1, x2, x3, x4⟩ := feedC (N := N) (v := e) (by omega) w3 (by omega)
    have kC : Kp wFC S S5 := (((s2.tr u2).tr v2).tr w2).tr x2
    have r0 : gv S5 200 37 = nI m := by rw [kC.1 _ _ (by unfold wFC; omega)]; exact t3
    obtain ⟨T1, a1, a2, a3, a4⟩ := feedR (N := N) (v := a) (by omega) r0 (by omega)
    obtain ⟨T2, b1, b2, b3, b4⟩ := feedR (N := N) (v := b) (by omega) a3 (by omega)
    obtain ⟨T3, g1, g2, g3, g4⟩ := feedR (N := N) (v := c) (by omega) b3 (by omega)
    obtain ⟨T4, d1, d2, d3, d4⟩ := feedR (N := N) (v := d) (by omega) g3 (by omega)
    obtain ⟨T5, f1, f2, f3, f4⟩ := feedR (N := N) (v := e) (by omega) d3 (by omega)
    have kR : Kp wFR S5 T5 := (((a2.tr b2).tr g2).tr d2).tr f2
    have q0 : tP (gv S 7) (gv S5 237) m := by
      intro i hi
      rw [kC.1 237 i (by unfold wFC; omega)]
      exact t4 i hi
    have q1 := tP_up (v := e) (tP_up (v := d) (tP_up (v := c) (tP_up (v := b) (tP_up (v := a) q0))))
    refine ⟨nI (m + 20), S5, T5, ?_, ?_, n, st, hL, hv.tap ?_ ⟨m + 20, c1, ?_, ?_, ?_⟩⟩
    · simp only [bn, cl0, cl1, oc, t2, if_pos q, s1, u1, v1, w1, x1, x3]
    · simp only [bn, cl0, cl1, oc, r0, if_pos q, a1, b1, g1, d1, f1, f3]
    · exact (kC.mo (fun a j h => by unfold wFC at h; unfold rTap; omega)).tr (kR.mo (fun a j h => by unfold wFR at h; unfold rTap; omega))
    · rw [kR.1 _ _ (by unfold wFR; omega)]; exact x3
    · exact f3
    · intro i hi
      obtain ⟨y, y1, y2, y3⟩ := q1 i hi
      refine ⟨y, y1, ?_, ?_⟩
      · rw [f4, funext d4, funext g4, funext b4, funext a4]; exact y2
      · rw [kR.1 7 i (by unfold wFR; omega), x4, funext w4, funext v4, funext u4, funext s4]; exact y3
  · have q : ¬ nI m + 20 ≤ 500 := by rw [e20]; exact nle_n (b := 500) (by omega) (by omega)
    exact ⟨-1, S, S, by simp [t2, q], by simp [t3, q], hi⟩
end FEEDM
