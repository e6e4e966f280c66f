section LAWC
variable {p : Program} {l : Launch} {e : Env} {R : Room} {s : State} {m : MethodId} {args : Array Value} {below : List Frame} {meth : Method} {c : Code} {H : Heap} {locs : List Loc} {cells slots : Nat} {Q : State → Prop}
variable {pc : Nat} {ls : Array Slot} {rest : List Value} {A : Nat → Prop} {g : Cx} {ad : Nat → Nat} {L : List Nat} {S : St} {N b Lz : Nat} {xs : Nat → Int32}
def R_law : String := "DroveRoadsLaw"
def lw_P (b : Addr) (xs : List Int32) (args : Array Value) (s : State) : Prop := args = #[.ref b] ∧ s.IntsAt b xs ∧ xs.length ≤ 3072 ∧ (Jvm.Cond.and given_1 narrow_1).before args s = true
def lw_Q (_ : Array Value) (s : State) (o : Outcome) (t : State) : Prop := o = .returned (some (.int 1)) ∧ Framed s o t [] room_1.cells room_1.slots
def lw_Z (below : List Frame) (a : Array Value) (s : State) : State → Prop := fun t => ∃ o, t.status = .running ∧ Ended t below o ∧ lw_Q a s o t
/-- the law's own end, with 1 on the stack, nothing written that was there before, its room as the claim has it -/
theorem lw_ret {p : Program} {l : Launch} {e : Env} {s : State} {m : MethodId} {below : List Frame} {meth : Method} {c : Code} {b : Nat} (hx : p.tables.exec = Jvm.exec) (hb : c.code = code) (hr : meth.sig.returnType = ret) (hlocks : meth.locks = false) {pc : Nat} {H : Heap} {ls : Array Slot} (hdg : decode code pc = .ok (.ireturn, 1)) : W p l e room_1 s m #[Value.ref b] below meth c H [] room_1.cells room_1.slots (lw_Z below #[Value.ref b] s) (F0 m pc ls [.int 1]) := by
  intro T hT X
  obtain ⟨fs, hret, hrun, hended, hW, hframe⟩ := X.leave (v := some (.int 1)) (hlocks := hlocks) (fun h => by rw [hr] at h; cases h)
  have hmeth' : T.vm.method? m = some meth := X.method'
  refine ⟨T.setFrames fs, ?_, .returned (some (.int 1)), hrun, hended, rfl, ⟨_, rfl⟩, hW, hframe⟩
  jvm_step X.here [X.here.top, hx, hb, hdg, hmeth', hr, ret, narrow_b1]
  (try refine ⟨rfl, ?_⟩); (try refine ⟨rfl, ?_⟩)
  first | (intro acts; rw [hret _ acts rfl rfl rfl]) | rw [hret _ _ rfl rfl rfl]
  exact Steps.refl _
/-- what holds at the law's entry: the machine, the code, the tables' words (any of lw_tbl by 'hts w (by decide +kernel)'), the script of L ints xs at the cell b, what the Statement gives of the start (any of its parts by flat_of_before) -/
def lw_At (p : Program) (s : State) (m : MethodId) (meth : Method) (c : Code) (b L : Nat) (xs : Nat → Int32) : Prop :=
  p.tables.exec = Jvm.exec ∧ c.code = code ∧ meth.sig.returnType = ret ∧ c.maxLocals = 4 ∧ s.vm.findClass R_law = some m.cls ∧ (∀ w ∈ lw_tbl, w.before #[Value.ref b] s = true) ∧ va_X b L xs s s.heap ∧ b < s.heap.size ∧ meth.locks = false ∧ (Jvm.Cond.and given_1 narrow_1).before #[Value.ref b] s = true
def Stp_0 (N : Nat) (Inv : List Nat → St → Prop) : Prop := ∀ (L : List Nat) (S : St) (a1 : Int32), Inv L S → ∃ r : Int32, ∃ S1 : St, ∃ S2 : St, f_X10_stance N S a1 = some (r, S1) ∧ f_X11_stance S1 a1 = some (r, S2) ∧ Inv L S2
def Stp_1 (N : Nat) (Inv : List Nat → St → Prop) : Prop := ∀ (L : List Nat) (S : St) (a1 : Int32), Inv L S → ∃ r : Int32, ∃ S1 : St, ∃ S2 : St, f_X10_first N S a1 = some (r, S1) ∧ f_X11_first S1 a1 = some (r, S2) ∧ Inv L S2
def Stp_2 (N : Nat) (Inv : List Nat → St → Prop) : Prop := ∀ (L : List Nat) (S : St) (a1 a2 a3 a4 : Int32), Inv L S → ∃ r : Int32, ∃ S1 : St, ∃ S2 : St, f_X10_grass S a1 a2 a3 a4 = some (r, S1) ∧ f_X11_grass S1 a1 a2 a3 a4 = some (r, S2) ∧ Inv L S2
def Stp_3 (N : Nat) (Inv : List Nat → St → Prop) : Prop := ∀ (L : List Nat) (S : St) (a1 a2 a3 a4 : Int32), Inv L S → ∃ (hh xx : Nat) (res : Int32 × Option St) (S2 : St), f_X10_herd hh xx S a1 a2 a3 a4 = some res ∧ ((∃ S4, res.2 = some S4) → 60 ≤ hh ∧ hh < 66 ∧ 70 ≤ xx ∧ xx < 77 ∧ ∀ i ∈ [hh, xx, xx + 10, xx + 20, xx + 30], i ∉ L) ∧ (res.2 = none → f_X11_herd S a1 a2 a3 a4 = some (res.1, S2) ∧ Inv L S2) ∧ (∀ S4, res.2 = some S4 → f_X11_herd S4 a1 a2 a3 a4 = some (res.1, S2) ∧ Inv (herdL L hh xx) S2)
def Stp_4 (N : Nat) (Inv : List Nat → St → Prop) : Prop := ∀ (L : List Nat) (S : St) (a1 : Int32), Inv L S → ∃ r : Int32, ∃ S1 : St, ∃ S2 : St, f_X10_letter S a1 = some (r, S1) ∧ f_X11_letter S1 a1 = some (r, S2) ∧ Inv L S2
def Stp_5 (N : Nat) (Inv : List Nat → St → Prop) : Prop := ∀ (L : List Nat) (S : St) (a1 : Int32), Inv L S → ∃ r : Int32, f_X10_known N S a1 = some r ∧ f_X11_known N S a1 = some r ∧ Inv L S
def Stp_6 (N : Nat) (Inv : List Nat → St → Prop) : Prop := ∀ (L : List Nat) (S : St) (a1 a2 a3 a4 a5 : Int32), Inv L S → ∃ r : Int32, ∃ S1 : St, ∃ S2 : St, f_X10_feed N S a1 a2 a3 a4 a5 = some (r, S1) ∧ f_X11_feed N S1 a1 a2 a3 a4 a5 = some (r, S2) ∧ Inv L S2
def Stp_7 (N : Nat) (Inv : List Nat → St → Prop) : Prop := ∀ (L : List Nat) (S : St) (a1 : Int32), Inv L S → ∃ r : Int32, ∃ S1 : St, ∃ S2 : St, f_X10_end S a1 = some (r, S1) ∧ f_X11_end S1 a1 = some (r, S2) ∧ Inv L S2
def Stp_8 (N : Nat) (Inv : List Nat → St → Prop) : Prop := ∀ (L : List Nat) (S : St) (a1 : Int32), Inv L S → ∃ r : Int32, ∃ S1 : St, ∃ S2 : St, f_X10_orders L N S a1 = some (r, S1) ∧ Cl L S1 ∧ Fx L S1 ∧ f_X11_orders N S1 a1 = some (r, S2) ∧ Inv L S2
def Stp_9 (N : Nat) (Inv : List Nat → St → Prop) : Prop := ∀ (L : List Nat) (S : St) (a1 : Int32), Inv L S → ∃ r : Int32, f_X10_fault S a1 = some r ∧ f_X11_fault S a1 = some r ∧ Inv L S
def Stp_10 (N : Nat) (Inv : List Nat → St → Prop) : Prop := ∀ (L : List Nat) (S : St) (a1 : Int32), Inv L S → ∃ r : Int32, ∃ S1 : St, ∃ S2 : St, f_X10_days L N S a1 = some (r, S1) ∧ f_X11_days N S1 a1 = some (r, S2) ∧ Inv L S2
def Stp_11 (N : Nat) (Inv : List Nat → St → Prop) : Prop := ∀ (L : List Nat) (S : St) (a1 a2 : Int32), Inv L S → ∃ r : Int32, f_X10_of L S a1 a2 = some r ∧ f_X11_of S a1 a2 = some r ∧ Inv L S
def Stp_12 (N : Nat) (Inv : List Nat → St → Prop) : Prop := ∀ (L : List Nat) (S : St) (a1 a2 : Int32), Inv L S → ∃ r : Int32, f_X10_at S a1 a2 = some r ∧ f_X11_at N S a1 a2 = some r ∧ Inv L S
def Stp_13 (N : Nat) (Inv : List Nat → St → Prop) : Prop := ∀ (L : List Nat) (S : St) (a1 a2 : Int32), Inv L S → ∃ r : Int32, ∃ S2 : St, f_X10_gain L N S a1 a2 = some r ∧ f_X11_gain N S a1 a2 = some (r, S2) ∧ Inv L S2
def Stp_14 (N : Nat) (Inv : List Nat → St → Prop) : Prop := ∀ (L : List Nat) (S : St) (a1 a2 : Int32), Inv L S → ∃ r : Int32, ∃ S2 : St, f_X10_length L N S a1 a2 = some r ∧ f_X11_length N S a1 a2 = some (r, S2) ∧ Inv L S2
def Stp_15 (N : Nat) (Inv : List Nat → St → Prop) : Prop := ∀ (L : List Nat) (S : St) (a1 a2 a3 : Int32), Inv L S → ∃ r : Int32, ∃ S2 : St, f_X10_act L N S a1 a2 a3 = some r ∧ f_X11_act N S a1 a2 a3 = some (r, S2) ∧ Inv L S2
def Stp_16 (N : Nat) (Inv : List Nat → St → Prop) : Prop := ∀ (L : List Nat) (S : St) (a1 a2 a3 : Int32), Inv L S → ∃ r : Int32, ∃ S1 : St, ∃ S2 : St, f_X10_bill S a1 a2 a3 = some (r, S1) ∧ f_X11_bill S1 a1 a2 a3 = some (r, S2) ∧ Inv L S2
def Stp_17 (N : Nat) (Inv : List Nat → St → Prop) : Prop := ∀ (L : List Nat) (S : St) (a1 a2 a3 a4 : Int32), Inv L S → ∃ r : Int32, ∃ S1 : St, ∃ S2 : St, f_X10_pass N S a1 a2 a3 a4 = some (r, S1) ∧ f_X11_pass S1 a1 a2 a3 a4 = some (r, S2) ∧ Inv L S2
def Stp_18 (N : Nat) (Inv : List Nat → St → Prop) : Prop := ∀ (L : List Nat) (S : St) (a1 : Int32), Inv L S → ∃ r : Int32, ∃ S1 : St, ∃ S2 : St, f_X10_untell S a1 = some (r, S1) ∧ f_X11_untell S1 a1 = some (r, S2) ∧ Inv L S2
def Stp_19 (N : Nat) (Inv : List Nat → St → Prop) : Prop := ∀ (L : List Nat) (S : St) (a1 a2 a3 : Int32), Inv L S → ∃ r : Int32, f_X10_holder N S a1 a2 a3 = some r ∧ f_X11_holder N S a1 a2 a3 = some r ∧ Inv L S
def Stp_20 (N : Nat) (Inv : List Nat → St → Prop) : Prop := ∀ (L : List Nat) (S : St) (a1 : Int32), Inv L S → ∃ r : Int32, ∃ S1 : St, ∃ S2 : St, f_X10_pay N S a1 = some (r, S1) ∧ f_X11_pay N S1 a1 = some (r, S2) ∧ Inv L S2
def Stp_21 (N : Nat) (Inv : List Nat → St → Prop) : Prop := ∀ (L : List Nat) (S : St) (a1 a2 : Int32), Inv L S → ∃ r : Int32, f_X10_paid S a1 a2 = some r ∧ f_X11_paid S a1 a2 = some r ∧ Inv L S
def Stp_22 (N : Nat) (Inv : List Nat → St → Prop) : Prop := ∀ (L : List Nat) (S : St) (a1 : Int32), Inv L S → ∃ r : Int32, f_X10_about S a1 = some r ∧ f_X11_about S a1 = some r ∧ Inv L S
theorem room_ok {a maxL : Nat} (h : a ≤ 1200) (hm : maxL ≤ 40) : roomy (rmk a) room_1 maxL := by
  show a + 1 ≤ 2048 ∧ 8 + (maxL + 11) + 64 * a ≤ 84000
  omega
theorem room_okc {a ca sa maxL : Nat} (h : a ≤ 1200) (hm : maxL ≤ 40) : roomy (rmc a ca sa) room_1 maxL := by
  show a + 1 ≤ 2048 ∧ 8 + (maxL + 11) + 64 * a ≤ 84000
  omega
theorem g_ciM {a : Array Value} {st : List Value} {mc ms : Nat} {r : Int32} {S1 : St} {H0 : Heap} (hr : va_Run p l e R s m args below meth c H locs cells slots mc ms (F0 m pc ls st) rest (qi g A ad L r S1 a) A) (hS : va_S A H0 H locs)
    (kk : ∀ (H1 : Heap) (locs1 : List Loc), GW g A ad L S1 H1 → va_S A H0 H1 locs1 → W p l e R s m args below meth c H1 locs1 (cells + mc) (slots + ms) Q (F0 m (pc + 3) ls (.int r :: rest))) : W p l e R s m args below meth c H locs cells slots Q (F0 m pc ls st) :=
  va_calli hr hS (fun _ _ h => h) (fun _ h => h) (fun r2 _ t H1 locs1 ht _ hp hB _ _ hS1 => by subst hp; subst ht; exact kk _ locs1 hB hS1)
def c9 : Nat := 100
def s9 : Nat := 800000
/-- what the loop's head knows -/
def LH (p : Program) (l : Launch) (e : Env) (s : State) (m : MethodId) (below : List Frame) (meth : Method) (c : Code) (b : Nat) (g : Cx) (A : Nat → Prop) (Inv : List Nat → St → Prop) (j : Nat) : Prop :=
  ∀ (x3 : Int32), x3 = nI (6 * j) → ∀ (L : List Nat) (S : St), Inv L S → ∀ (ad : Nat → Nat) (H : Heap) (locs : List Loc) (ls : Array Slot) (cells slots : Nat), cells ≤ c9 + 5 * j → slots ≤ s9 + 533 * j → GW g A ad L S H → va_S A s.heap H locs → lv_has ls 4 [(0, .ref b), (1, .ref (ad 0)), (2, .ref (ad 200)), (3, .int x3)] → W p l e room_1 s m #[Value.ref b] below meth c H locs cells slots (lw_Z below #[Value.ref b] s) (F0 m 18 ls [])
theorem sc_in {x3 : Int32} {j Lz d : Nat} (ex : x3 = nI (6 * j)) (h : 6 * j + 6 ≤ Lz) (hL : Lz ≤ 3072) (hd : d < 6) : vp_in (x3 + nI d) Lz := by
  rw [ex, nI_add]
  exact vp_in_nI (by omega) (by omega)
set_option maxHeartbeats 4000000 in
theorem law_c0 (C : MC p s m #[Value.ref b] meth c code 4 (some .boolean) RL g A) (hX : va_X b Lz xs s s.heap) (hbl : b < s.heap.size) (hbA : ¬ A b) (hL : Lz ≤ 3072) {Inv : List Nat → St → Prop} (hI : ∀ L S, Inv L S → Lk L ∧ Fx L S ∧ Cl L S ∧ 110 ∉ L ∧ 111 ∉ L ∧ 112 ∉ L) (hst : Stp_0 N Inv) {j : Nat} (ih : LH p l e s m below meth c b g A Inv (j + 1)) (hj : 6 * j + 6 ≤ Lz) {x3 : Int32} (ex3 : x3 = nI (6 * j)) {L : List Nat} {S : St} (hi : Inv L S) {ad : Nat → Nat} {H : Heap} {locs : List Loc} {ls : Array Slot} {cells slots : Nat} (hce : cells ≤ c9 + 5 * j) (hsl : slots ≤ s9 + 533 * j) (hW : GW g A ad L S H) (hS : va_S A s.heap H locs) (hl : lv_has ls 4 [(0, .ref b), (1, .ref (ad 0)), (2, .ref (ad 200)), (3, .int x3)]) : W p l e room_1 s m #[Value.ref b] below meth c H locs cells slots (lw_Z below #[Value.ref b] s) (F0 m 140 ls []) := by
  obtain ⟨hx, hb, hml, hown, hts, hr, hlocks, hK, hN, hT⟩ := id C
  obtain ⟨hB, hF, hC, h110, h111, h112⟩ := hI L S hi
  have hcb : cells + 0 ≤ room_1.cells ∧ slots + 0 ≤ room_1.slots := ⟨Nat.le_trans (m := 500000) (by unfold c9 at hce; omega) (by decide), Nat.le_trans (m := 7000000) (by unfold s9 at hsl; omega) (by decide)⟩
  have hcb2 : cells + 0 + 0 ≤ room_1.cells ∧ slots + 0 + 0 ≤ room_1.slots := hcb
  obtain ⟨r, S1, S2, h1, h2, hi2⟩ := hst L S (xs (x3 + 1).toNatClampNeg) hi
  refine lv_aload_n hx hb dL_law_140 rfl (lv_at hl 1 rfl) ?_
  refine lv_aload_n hx hb dL_law_141 rfl (lv_at hl 0 rfl) ?_
  refine lv_iload_n hx hb dL_law_142 rfl (lv_at hl 3 rfl) ?_
  refine lv_iconst (v := 1) hx hb dL_law_143 (by decide) ?_
  refine lv_iadd hx hb dL_law_144 ?_
  refine va_sld hx hb hX hbl hbA hS (sc_in (d := 1) ex3 hj hL (by decide)) dL_law_145 ?_
  refine g_ci (g_runV (ci := 10) (o := 0) (As := [.int (xs (x3 + 1).toNatClampNeg)]) (rest := []) hx hb hml hown hts hK hN hT hS hW (c_X10_stance hB h1) (hB 0 bb_0) kd_0 rfl (gw_V mw_285 mw_286 mw_287 mw_66 mw_288) hv_X10_stance rfl rfl rfl (room_ok (by decide) (by decide)) hl.1 (Nat.le_of_ble_eq_true rfl) dL_law_146 rfl hcb) hS (fun H locs hW hS => ?_)
  refine lv_aload_n hx hb dL_law_149 rfl (lv_at hl 2 rfl) ?_
  refine lv_aload_n hx hb dL_law_150 rfl (lv_at hl 0 rfl) ?_
  refine lv_iload_n hx hb dL_law_151 rfl (lv_at hl 3 rfl) ?_
  refine lv_iconst (v := 1) hx hb dL_law_152 (by decide) ?_
  refine lv_iadd hx hb dL_law_153 ?_
  refine va_sld hx hb hX hbl hbA hS (sc_in (d := 1) ex3 hj hL (by decide)) dL_law_154 ?_
  refine g_ci (g_runV (ci := 11) (o := 200) (As := [.int (xs (x3 + 1).toNatClampNeg)]) (rest := [.int r]) hx hb hml hown hts hK hN hT hS hW (c_X11_stance hB h2) (hB 200 bb_200) kd_200 rfl (gw_V mw_1164 mw_1165 mw_1166 mw_73 mw_1167) hv_X11_stance rfl rfl rfl (room_ok (by decide) (by decide)) hl.1 (Nat.le_of_ble_eq_true rfl) dL_law_155 rfl hcb2) hS (fun H locs hW hS => ?_)
  refine lv_icmp_eq (tgt := 909) hx hb dL_law_158 (by decide) (fun _ => ?_) (fun c9 => absurd rfl c9)
  obtain ⟨y3, ey3⟩ : ∃ z : Int32, z = x3 + 6 := ⟨_, rfl⟩
  refine lv_iinc (v := y3) (lv' := [(3, .int y3), (0, .ref b), (1, .ref (ad 0)), (2, .ref (ad 200))]) hx hb dL_law_909 hl (k := 3) rfl (by rw [ey3]; rfl) (by decide) rfl (fun ls hl => ?_)
  refine lv_goto (tgt := 18) hx hb dL_law_912 (by decide) ?_
  exact ih y3 (by rw [ey3, ex3]; exact (nI_add (6 * j) 6)) _ _ hi2 _ _ _ _ _ _ (by omega) (by omega) hW hS (lv_sub hl [1, 2, 3, 0] rfl)
set_option maxHeartbeats 4000000 in
theorem law_c1 (C : MC p s m #[Value.ref b] meth c code 4 (some .boolean) RL g A) (hX : va_X b Lz xs s s.heap) (hbl : b < s.heap.size) (hbA : ¬ A b) (hL : Lz ≤ 3072) {Inv : List Nat → St → Prop} (hI : ∀ L S, Inv L S → Lk L ∧ Fx L S ∧ Cl L S ∧ 110 ∉ L ∧ 111 ∉ L ∧ 112 ∉ L) (hst : Stp_1 N Inv) {j : Nat} (ih : LH p l e s m below meth c b g A Inv (j + 1)) (hj : 6 * j + 6 ≤ Lz) {x3 : Int32} (ex3 : x3 = nI (6 * j)) {L : List Nat} {S : St} (hi : Inv L S) {ad : Nat → Nat} {H : Heap} {locs : List Loc} {ls : Array Slot} {cells slots : Nat} (hce : cells ≤ c9 + 5 * j) (hsl : slots ≤ s9 + 533 * j) (hW : GW g A ad L S H) (hS : va_S A s.heap H locs) (hl : lv_has ls 4 [(0, .ref b), (1, .ref (ad 0)), (2, .ref (ad 200)), (3, .int x3)]) : W p l e room_1 s m #[Value.ref b] below meth c H locs cells slots (lw_Z below #[Value.ref b] s) (F0 m 163 ls []) := by
  obtain ⟨hx, hb, hml, hown, hts, hr, hlocks, hK, hN, hT⟩ := id C
  obtain ⟨hB, hF, hC, h110, h111, h112⟩ := hI L S hi
  have hcb : cells + 0 ≤ room_1.cells ∧ slots + 0 ≤ room_1.slots := ⟨Nat.le_trans (m := 500000) (by unfold c9 at hce; omega) (by decide), Nat.le_trans (m := 7000000) (by unfold s9 at hsl; omega) (by decide)⟩
  have hcb2 : cells + 0 + 0 ≤ room_1.cells ∧ slots + 0 + 0 ≤ room_1.slots := hcb
  obtain ⟨r, S1, S2, h1, h2, hi2⟩ := hst L S (xs (x3 + 1).toNatClampNeg) hi
  refine lv_aload_n hx hb dL_law_163 rfl (lv_at hl 1 rfl) ?_
  refine lv_aload_n hx hb dL_law_164 rfl (lv_at hl 0 rfl) ?_
  refine lv_iload_n hx hb dL_law_165 rfl (lv_at hl 3 rfl) ?_
  refine lv_iconst (v := 1) hx hb dL_law_166 (by decide) ?_
  refine lv_iadd hx hb dL_law_167 ?_
  refine va_sld hx hb hX hbl hbA hS (sc_in (d := 1) ex3 hj hL (by decide)) dL_law_168 ?_
  refine g_cz (g_runV (ci := 10) (o := 0) (As := [.int (xs (x3 + 1).toNatClampNeg)]) (rest := []) hx hb hml hown hts hK hN hT hS hW (c_X10_first hB h1) (hB 0 bb_0) kd_0 rfl (gw_V mw_307 mw_308 mw_309 mw_66 mw_310) hv_X10_first rfl rfl rfl (room_ok (by decide) (by decide)) hl.1 (Nat.le_of_ble_eq_true rfl) dL_law_169 rfl hcb) hS (fun _ H locs hW hS => ?_)
  refine lv_aload_n hx hb dL_law_172 rfl (lv_at hl 2 rfl) ?_
  refine lv_aload_n hx hb dL_law_173 rfl (lv_at hl 0 rfl) ?_
  refine lv_iload_n hx hb dL_law_174 rfl (lv_at hl 3 rfl) ?_
  refine lv_iconst (v := 1) hx hb dL_law_175 (by decide) ?_
  refine lv_iadd hx hb dL_law_176 ?_
  refine va_sld hx hb hX hbl hbA hS (sc_in (d := 1) ex3 hj hL (by decide)) dL_law_177 ?_
  refine g_cz (g_runV (ci := 11) (o := 200) (As := [.int (xs (x3 + 1).toNatClampNeg)]) (rest := [.int r]) hx hb hml hown hts hK hN hT hS hW (c_X11_first hB h2) (hB 200 bb_200) kd_200 rfl (gw_V mw_1171 mw_1172 mw_1173 mw_73 mw_1174) hv_X11_first rfl rfl rfl (room_ok (by decide) (by decide)) hl.1 (Nat.le_of_ble_eq_true rfl) dL_law_178 rfl hcb2) hS (fun _ H locs hW hS => ?_)
  refine lv_icmp_eq (tgt := 909) hx hb dL_law_181 (by decide) (fun _ => ?_) (fun c9 => absurd rfl c9)
  obtain ⟨y3, ey3⟩ : ∃ z : Int32, z = x3 + 6 := ⟨_, rfl⟩
  refine lv_iinc (v := y3) (lv' := [(3, .int y3), (0, .ref b), (1, .ref (ad 0)), (2, .ref (ad 200))]) hx hb dL_law_909 hl (k := 3) rfl (by rw [ey3]; rfl) (by decide) rfl (fun ls hl => ?_)
  refine lv_goto (tgt := 18) hx hb dL_law_912 (by decide) ?_
  exact ih y3 (by rw [ey3, ex3]; exact (nI_add (6 * j) 6)) _ _ hi2 _ _ _ _ _ _ (by omega) (by omega) hW hS (lv_sub hl [1, 2, 3, 0] rfl)
set_option maxHeartbeats 4000000 in
theorem law_c2 (C : MC p s m #[Value.ref b] meth c code 4 (some .boolean) RL g A) (hX : va_X b Lz xs s s.heap) (hbl : b < s.heap.size) (hbA : ¬ A b) (hL : Lz ≤ 3072) {Inv : List Nat → St → Prop} (hI : ∀ L S, Inv L S → Lk L ∧ Fx L S ∧ Cl L S ∧ 110 ∉ L ∧ 111 ∉ L ∧ 112 ∉ L) (hst : Stp_2 N Inv) {j : Nat} (ih : LH p l e s m below meth c b g A Inv (j + 1)) (hj : 6 * j + 6 ≤ Lz) {x3 : Int32} (ex3 : x3 = nI (6 * j)) {L : List Nat} {S : St} (hi : Inv L S) {ad : Nat → Nat} {H : Heap} {locs : List Loc} {ls : Array Slot} {cells slots : Nat} (hce : cells ≤ c9 + 5 * j) (hsl : slots ≤ s9 + 533 * j) (hW : GW g A ad L S H) (hS : va_S A s.heap H locs) (hl : lv_has ls 4 [(0, .ref b), (1, .ref (ad 0)), (2, .ref (ad 200)), (3, .int x3)]) : W p l e room_1 s m #[Value.ref b] below meth c H locs cells slots (lw_Z below #[Value.ref b] s) (F0 m 186 ls []) := by
  obtain ⟨hx, hb, hml, hown, hts, hr, hlocks, hK, hN, hT⟩ := id C
  obtain ⟨hB, hF, hC, h110, h111, h112⟩ := hI L S hi
  have hcb : cells + 0 ≤ room_1.cells ∧ slots + 0 ≤ room_1.slots := ⟨Nat.le_trans (m := 500000) (by unfold c9 at hce; omega) (by decide), Nat.le_trans (m := 7000000) (by unfold s9 at hsl; omega) (by decide)⟩
  have hcb2 : cells + 0 + 0 ≤ room_1.cells ∧ slots + 0 + 0 ≤ room_1.slots := hcb
  obtain ⟨r, S1, S2, h1, h2, hi2⟩ := hst L S (xs (x3 + 1).toNatClampNeg) (xs (x3 + 2).toNatClampNeg) (xs (x3 + 3).toNatClampNeg) (xs (x3 + 4).toNatClampNeg) hi
  refine lv_aload_n hx hb dL_law_186 rfl (lv_at hl 1 rfl) ?_
  refine lv_aload_n hx hb dL_law_187 rfl (lv_at hl 0 rfl) ?_
  refine lv_iload_n hx hb dL_law_188 rfl (lv_at hl 3 rfl) ?_
  refine lv_iconst (v := 1) hx hb dL_law_189 (by decide) ?_
  refine lv_iadd hx hb dL_law_190 ?_
  refine va_sld hx hb hX hbl hbA hS (sc_in (d := 1) ex3 hj hL (by decide)) dL_law_191 ?_
  refine lv_aload_n hx hb dL_law_192 rfl (lv_at hl 0 rfl) ?_
  refine lv_iload_n hx hb dL_law_193 rfl (lv_at hl 3 rfl) ?_
  refine lv_iconst (v := 2) hx hb dL_law_194 (by decide) ?_
  refine lv_iadd hx hb dL_law_195 ?_
  refine va_sld hx hb hX hbl hbA hS (sc_in (d := 2) ex3 hj hL (by decide)) dL_law_196 ?_
  refine lv_aload_n hx hb dL_law_197 rfl (lv_at hl 0 rfl) ?_
  refine lv_iload_n hx hb dL_law_198 rfl (lv_at hl 3 rfl) ?_
  refine lv_iconst (v := 3) hx hb dL_law_199 (by decide) ?_
  refine lv_iadd hx hb dL_law_200 ?_
  refine va_sld hx hb hX hbl hbA hS (sc_in (d := 3) ex3 hj hL (by decide)) dL_law_201 ?_
  refine lv_aload_n hx hb dL_law_202 rfl (lv_at hl 0 rfl) ?_
  refine lv_iload_n hx hb dL_law_203 rfl (lv_at hl 3 rfl) ?_
  refine lv_iconst (v := 4) hx hb dL_law_204 (by decide) ?_
  refine lv_iadd hx hb dL_law_205 ?_
  refine va_sld hx hb hX hbl hbA hS (sc_in (d := 4) ex3 hj hL (by decide)) dL_law_206 ?_
  refine g_cz (g_runV (ci := 10) (o := 0) (As := [.int (xs (x3 + 1).toNatClampNeg), .int (xs (x3 + 2).toNatClampNeg), .int (xs (x3 + 3).toNatClampNeg), .int (xs (x3 + 4).toNatClampNeg)]) (rest := []) hx hb hml hown hts hK hN hT hS hW (c_X10_grass hB h1) (hB 0 bb_0) kd_0 rfl (gw_V mw_315 mw_316 mw_317 mw_66 mw_318) hv_X10_grass rfl rfl rfl (room_ok (by decide) (by decide)) hl.1 (Nat.le_of_ble_eq_true rfl) dL_law_207 rfl hcb) hS (fun _ H locs hW hS => ?_)
  refine lv_aload_n hx hb dL_law_210 rfl (lv_at hl 2 rfl) ?_
  refine lv_aload_n hx hb dL_law_211 rfl (lv_at hl 0 rfl) ?_
  refine lv_iload_n hx hb dL_law_212 rfl (lv_at hl 3 rfl) ?_
  refine lv_iconst (v := 1) hx hb dL_law_213 (by decide) ?_
  refine lv_iadd hx hb dL_law_214 ?_
  refine va_sld hx hb hX hbl hbA hS (sc_in (d := 1) ex3 hj hL (by decide)) dL_law_215 ?_
  refine lv_aload_n hx hb dL_law_216 rfl (lv_at hl 0 rfl) ?_
  refine lv_iload_n hx hb dL_law_217 rfl (lv_at hl 3 rfl) ?_
  refine lv_iconst (v := 2) hx hb dL_law_218 (by decide) ?_
  refine lv_iadd hx hb dL_law_219 ?_
  refine va_sld hx hb hX hbl hbA hS (sc_in (d := 2) ex3 hj hL (by decide)) dL_law_220 ?_
  refine lv_aload_n hx hb dL_law_221 rfl (lv_at hl 0 rfl) ?_
  refine lv_iload_n hx hb dL_law_222 rfl (lv_at hl 3 rfl) ?_
  refine lv_iconst (v := 3) hx hb dL_law_223 (by decide) ?_
  refine lv_iadd hx hb dL_law_224 ?_
  refine va_sld hx hb hX hbl hbA hS (sc_in (d := 3) ex3 hj hL (by decide)) dL_law_225 ?_
  refine lv_aload_n hx hb dL_law_226 rfl (lv_at hl 0 rfl) ?_
  refine lv_iload_n hx hb dL_law_227 rfl (lv_at hl 3 rfl) ?_
  refine lv_iconst (v := 4) hx hb dL_law_228 (by decide) ?_
  refine lv_iadd hx hb dL_law_229 ?_
  refine va_sld hx hb hX hbl hbA hS (sc_in (d := 4) ex3 hj hL (by decide)) dL_law_230 ?_
  refine g_cz (g_runV (ci := 11) (o := 200) (As := [.int (xs (x3 + 1).toNatClampNeg), .int (xs (x3 + 2).toNatClampNeg), .int (xs (x3 + 3).toNatClampNeg), .int (xs (x3 + 4).toNatClampNeg)]) (rest := [.int r]) hx hb hml hown hts hK hN hT hS hW (c_X11_grass hB h2) (hB 200 bb_200) kd_200 rfl (gw_V mw_1175 mw_1176 mw_1177 mw_73 mw_1178) hv_X11_grass rfl rfl rfl (room_ok (by decide) (by decide)) hl.1 (Nat.le_of_ble_eq_true rfl) dL_law_231 rfl hcb2) hS (fun _ H locs hW hS => ?_)
  refine lv_icmp_eq (tgt := 909) hx hb dL_law_234 (by decide) (fun _ => ?_) (fun c9 => absurd rfl c9)
  obtain ⟨y3, ey3⟩ : ∃ z : Int32, z = x3 + 6 := ⟨_, rfl⟩
  refine lv_iinc (v := y3) (lv' := [(3, .int y3), (0, .ref b), (1, .ref (ad 0)), (2, .ref (ad 200))]) hx hb dL_law_909 hl (k := 3) rfl (by rw [ey3]; rfl) (by decide) rfl (fun ls hl => ?_)
  refine lv_goto (tgt := 18) hx hb dL_law_912 (by decide) ?_
  exact ih y3 (by rw [ey3, ex3]; exact (nI_add (6 * j) 6)) _ _ hi2 _ _ _ _ _ _ (by omega) (by omega) hW hS (lv_sub hl [1, 2, 3, 0] rfl)
set_option maxHeartbeats 4000000 in
theorem law_c3 (C : MC p s m #[Value.ref b] meth c code 4 (some .boolean) RL g A) (hX : va_X b Lz xs s s.heap) (hbl : b < s.heap.size) (hbA : ¬ A b) (hL : Lz ≤ 3072) {Inv : List Nat → St → Prop} (hI : ∀ L S, Inv L S → Lk L ∧ Fx L S ∧ Cl L S ∧ 110 ∉ L ∧ 111 ∉ L ∧ 112 ∉ L) (hst : Stp_3 N Inv) {j : Nat} (ih : LH p l e s m below meth c b g A Inv (j + 1)) (hj : 6 * j + 6 ≤ Lz) {x3 : Int32} (ex3 : x3 = nI (6 * j)) {L : List Nat} {S : St} (hi : Inv L S) {ad : Nat → Nat} {H : Heap} {locs : List Loc} {ls : Array Slot} {cells slots : Nat} (hce : cells ≤ c9 + 5 * j) (hsl : slots ≤ s9 + 533 * j) (hW : GW g A ad L S H) (hS : va_S A s.heap H locs) (hl : lv_has ls 4 [(0, .ref b), (1, .ref (ad 0)), (2, .ref (ad 200)), (3, .int x3)]) : W p l e room_1 s m #[Value.ref b] below meth c H locs cells slots (lw_Z below #[Value.ref b] s) (F0 m 239 ls []) := by
  obtain ⟨hx, hb, hml, hown, hts, hr, hlocks, hK, hN, hT⟩ := id C
  obtain ⟨hB, hF, hC, h110, h111, h112⟩ := hI L S hi
  have hcb : cells + 5 ≤ room_1.cells ∧ slots + 533 ≤ room_1.slots := ⟨Nat.le_trans (m := 500000) (by unfold c9 at hce; omega) (by decide), Nat.le_trans (m := 7000000) (by unfold s9 at hsl; omega) (by decide)⟩
  have hcb2 : cells + 5 + 0 ≤ room_1.cells ∧ slots + 533 + 0 ≤ room_1.slots := hcb
  obtain ⟨hh, xx, res, S2, h1, hmk, ha, hb2⟩ := hst L S (xs (x3 + 1).toNatClampNeg) (xs (x3 + 2).toNatClampNeg) (xs (x3 + 3).toNatClampNeg) (xs (x3 + 4).toNatClampNeg) hi
  refine lv_aload_n hx hb dL_law_239 rfl (lv_at hl 1 rfl) ?_
  refine lv_aload_n hx hb dL_law_240 rfl (lv_at hl 0 rfl) ?_
  refine lv_iload_n hx hb dL_law_241 rfl (lv_at hl 3 rfl) ?_
  refine lv_iconst (v := 1) hx hb dL_law_242 (by decide) ?_
  refine lv_iadd hx hb dL_law_243 ?_
  refine va_sld hx hb hX hbl hbA hS (sc_in (d := 1) ex3 hj hL (by decide)) dL_law_244 ?_
  refine lv_aload_n hx hb dL_law_245 rfl (lv_at hl 0 rfl) ?_
  refine lv_iload_n hx hb dL_law_246 rfl (lv_at hl 3 rfl) ?_
  refine lv_iconst (v := 2) hx hb dL_law_247 (by decide) ?_
  refine lv_iadd hx hb dL_law_248 ?_
  refine va_sld hx hb hX hbl hbA hS (sc_in (d := 2) ex3 hj hL (by decide)) dL_law_249 ?_
  refine lv_aload_n hx hb dL_law_250 rfl (lv_at hl 0 rfl) ?_
  refine lv_iload_n hx hb dL_law_251 rfl (lv_at hl 3 rfl) ?_
  refine lv_iconst (v := 3) hx hb dL_law_252 (by decide) ?_
  refine lv_iadd hx hb dL_law_253 ?_
  refine va_sld hx hb hX hbl hbA hS (sc_in (d := 3) ex3 hj hL (by decide)) dL_law_254 ?_
  refine lv_aload_n hx hb dL_law_255 rfl (lv_at hl 0 rfl) ?_
  refine lv_iload_n hx hb dL_law_256 rfl (lv_at hl 3 rfl) ?_
  refine lv_iconst (v := 4) hx hb dL_law_257 (by decide) ?_
  refine lv_iadd hx hb dL_law_258 ?_
  refine va_sld hx hb hX hbl hbA hS (sc_in (d := 4) ex3 hj hL (by decide)) dL_law_259 ?_
  refine g_ch (g_runV (ci := 10) (o := 0) (As := [.int (xs (x3 + 1).toNatClampNeg), .int (xs (x3 + 2).toNatClampNeg), .int (xs (x3 + 3).toNatClampNeg), .int (xs (x3 + 4).toNatClampNeg)]) (rest := []) hx hb hml hown hts hK hN hT hS hW (c_X10_herd hB hF hC hmk h1) (hB 0 bb_0) kd_0 rfl (gw_V mw_328 mw_329 mw_330 mw_66 mw_331) hv_X10_herd rfl rfl rfl (room_okc (by decide) (by decide)) hl.1 (Nat.le_of_ble_eq_true rfl) dL_law_260 rfl hcb) hS (fun hn H locs hW hS => ?_) (fun S4 ad2 hn hag H locs hW hS hC4 hF4 => ?_)
  · obtain ⟨h2, hi2⟩ := ha hn
    refine lv_aload_n hx hb dL_law_263 rfl (lv_at hl 2 rfl) ?_
    refine lv_aload_n hx hb dL_law_264 rfl (lv_at hl 0 rfl) ?_
    refine lv_iload_n hx hb dL_law_265 rfl (lv_at hl 3 rfl) ?_
    refine lv_iconst (v := 1) hx hb dL_law_266 (by decide) ?_
    refine lv_iadd hx hb dL_law_267 ?_
    refine va_sld hx hb hX hbl hbA hS (sc_in (d := 1) ex3 hj hL (by decide)) dL_law_268 ?_
    refine lv_aload_n hx hb dL_law_269 rfl (lv_at hl 0 rfl) ?_
    refine lv_iload_n hx hb dL_law_270 rfl (lv_at hl 3 rfl) ?_
    refine lv_iconst (v := 2) hx hb dL_law_271 (by decide) ?_
    refine lv_iadd hx hb dL_law_272 ?_
    refine va_sld hx hb hX hbl hbA hS (sc_in (d := 2) ex3 hj hL (by decide)) dL_law_273 ?_
    refine lv_aload_n hx hb dL_law_274 rfl (lv_at hl 0 rfl) ?_
    refine lv_iload_n hx hb dL_law_275 rfl (lv_at hl 3 rfl) ?_
    refine lv_iconst (v := 3) hx hb dL_law_276 (by decide) ?_
    refine lv_iadd hx hb dL_law_277 ?_
    refine va_sld hx hb hX hbl hbA hS (sc_in (d := 3) ex3 hj hL (by decide)) dL_law_278 ?_
    refine lv_aload_n hx hb dL_law_279 rfl (lv_at hl 0 rfl) ?_
    refine lv_iload_n hx hb dL_law_280 rfl (lv_at hl 3 rfl) ?_
    refine lv_iconst (v := 4) hx hb dL_law_281 (by decide) ?_
    refine lv_iadd hx hb dL_law_282 ?_
    refine va_sld hx hb hX hbl hbA hS (sc_in (d := 4) ex3 hj hL (by decide)) dL_law_283 ?_
    refine g_ci (g_runV (ci := 11) (o := 200) (As := [.int (xs (x3 + 1).toNatClampNeg), .int (xs (x3 + 2).toNatClampNeg), .int (xs (x3 + 3).toNatClampNeg), .int (xs (x3 + 4).toNatClampNeg)]) (rest := [.int res.1]) hx hb hml hown hts hK hN hT hS hW (c_X11_herd hB h2) (hB 200 bb_200) kd_200 rfl (gw_V mw_1204 mw_1205 mw_1206 mw_73 mw_1207) hv_X11_herd rfl rfl rfl (room_ok (by decide) (by decide)) hl.1 (Nat.le_of_ble_eq_true rfl) dL_law_284 rfl hcb2) hS (fun H locs hW hS => ?_)
    refine lv_icmp_eq (tgt := 909) hx hb dL_law_287 (by decide) (fun _ => ?_) (fun c9 => absurd rfl c9)
    obtain ⟨y3, ey3⟩ : ∃ z : Int32, z = x3 + 6 := ⟨_, rfl⟩
    refine lv_iinc (v := y3) (lv' := [(3, .int y3), (0, .ref b), (1, .ref (ad 0)), (2, .ref (ad 200))]) hx hb dL_law_909 hl (k := 3) rfl (by rw [ey3]; rfl) (by decide) rfl (fun ls hl => ?_)
    refine lv_goto (tgt := 18) hx hb dL_law_912 (by decide) ?_
    exact ih y3 (by rw [ey3, ex3]; exact (nI_add (6 * j) 6)) _ _ hi2 _ _ _ _ _ _ (by omega) (by omega) hW hS (lv_sub hl [1, 2, 3, 0] rfl)
  · obtain ⟨h2, hi2⟩ := hb2 S4 hn
    have hB4 : Lk (herdL L hh xx) := fun x hx => me_l (me_l (me_l (me_l (me_l (hB x hx)))))
    rw [← hag 0 (hB 0 bb_0), ← hag 200 (hB 200 bb_200)] at hl
    refine lv_aload_n hx hb dL_law_263 rfl (lv_at hl 2 rfl) ?_
    refine lv_aload_n hx hb dL_law_264 rfl (lv_at hl 0 rfl) ?_
    refine lv_iload_n hx hb dL_law_265 rfl (lv_at hl 3 rfl) ?_
    refine lv_iconst (v := 1) hx hb dL_law_266 (by decide) ?_
    refine lv_iadd hx hb dL_law_267 ?_
    refine va_sld hx hb hX hbl hbA hS (sc_in (d := 1) ex3 hj hL (by decide)) dL_law_268 ?_
    refine lv_aload_n hx hb dL_law_269 rfl (lv_at hl 0 rfl) ?_
    refine lv_iload_n hx hb dL_law_270 rfl (lv_at hl 3 rfl) ?_
    refine lv_iconst (v := 2) hx hb dL_law_271 (by decide) ?_
    refine lv_iadd hx hb dL_law_272 ?_
    refine va_sld hx hb hX hbl hbA hS (sc_in (d := 2) ex3 hj hL (by decide)) dL_law_273 ?_
    refine lv_aload_n hx hb dL_law_274 rfl (lv_at hl 0 rfl) ?_
    refine lv_iload_n hx hb dL_law_275 rfl (lv_at hl 3 rfl) ?_
    refine lv_iconst (v := 3) hx hb dL_law_276 (by decide) ?_
    refine lv_iadd hx hb dL_law_277 ?_
    refine va_sld hx hb hX hbl hbA hS (sc_in (d := 3) ex3 hj hL (by decide)) dL_law_278 ?_
    refine lv_aload_n hx hb dL_law_279 rfl (lv_at hl 0 rfl) ?_
    refine lv_iload_n hx hb dL_law_280 rfl (lv_at hl 3 rfl) ?_
    refine lv_iconst (v := 4) hx hb dL_law_281 (by decide) ?_
    refine lv_iadd hx hb dL_law_282 ?_
    refine va_sld hx hb hX hbl hbA hS (sc_in (d := 4) ex3 hj hL (by decide)) dL_law_283 ?_
    refine g_ci (g_runV (ci := 11) (o := 200) (As := [.int (xs (x3 + 1).toNatClampNeg), .int (xs (x3 + 2).toNatClampNeg), .int (xs (x3 + 3).toNatClampNeg), .int (xs (x3 + 4).toNatClampNeg)]) (rest := [.int res.1]) hx hb hml hown hts hK hN hT hS hW (c_X11_herd hB4 h2) (hB4 200 bb_200) kd_200 rfl (gw_V mw_1204 mw_1205 mw_1206 mw_73 mw_1207) hv_X11_herd rfl rfl rfl (room_ok (by decide) (by decide)) hl.1 (Nat.le_of_ble_eq_true rfl) dL_law_284 rfl hcb2) hS (fun H locs hW hS => ?_)
    refine lv_icmp_eq (tgt := 909) hx hb dL_law_287 (by decide) (fun _ => ?_) (fun c9 => absurd rfl c9)
    obtain ⟨y3, ey3⟩ : ∃ z : Int32, z = x3 + 6 := ⟨_, rfl⟩
    refine lv_iinc (v := y3) (lv' := [(3, .int y3), (0, .ref b), (1, .ref (ad2 0)), (2, .ref (ad2 200))]) hx hb dL_law_909 hl (k := 3) rfl (by rw [ey3]; rfl) (by decide) rfl (fun ls hl => ?_)
    refine lv_goto (tgt := 18) hx hb dL_law_912 (by decide) ?_
    exact ih y3 (by rw [ey3, ex3]; exact (nI_add (6 * j) 6)) _ _ hi2 _ _ _ _ _ _ (by omega) (by omega) hW hS (lv_sub hl [1, 2, 3, 0] rfl)
set_option maxHeartbeats 4000000 in
theorem law_c4 (C : MC p s m #[Value.ref b] meth c code 4 (some .boolean) RL g A) (hX : va_X b Lz xs s s.heap) (hbl : b < s.heap.size) (hbA : ¬ A b) (hL : Lz ≤ 3072) {Inv : List Nat → St → Prop} (hI : ∀ L S, Inv L S → Lk L ∧ Fx L S ∧ Cl L S ∧ 110 ∉ L ∧ 111 ∉ L ∧ 112 ∉ L) (hst : Stp_4 N Inv) {j : Nat} (ih : LH p l e s m below meth c b g A Inv (j + 1)) (hj : 6 * j + 6 ≤ Lz) {x3 : Int32} (ex3 : x3 = nI (6 * j)) {L : List Nat} {S : St} (hi : Inv L S) {ad : Nat → Nat} {H : Heap} {locs : List Loc} {ls : Array Slot} {cells slots : Nat} (hce : cells ≤ c9 + 5 * j) (hsl : slots ≤ s9 + 533 * j) (hW : GW g A ad L S H) (hS : va_S A s.heap H locs) (hl : lv_has ls 4 [(0, .ref b), (1, .ref (ad 0)), (2, .ref (ad 200)), (3, .int x3)]) : W p l e room_1 s m #[Value.ref b] below meth c H locs cells slots (lw_Z below #[Value.ref b] s) (F0 m 292 ls []) := by
  obtain ⟨hx, hb, hml, hown, hts, hr, hlocks, hK, hN, hT⟩ := id C
  obtain ⟨hB, hF, hC, h110, h111, h112⟩ := hI L S hi
  have hcb : cells + 0 ≤ room_1.cells ∧ slots + 0 ≤ room_1.slots := ⟨Nat.le_trans (m := 500000) (by unfold c9 at hce; omega) (by decide), Nat.le_trans (m := 7000000) (by unfold s9 at hsl; omega) (by decide)⟩
  have hcb2 : cells + 0 + 0 ≤ room_1.cells ∧ slots + 0 + 0 ≤ room_1.slots := hcb
  obtain ⟨r, S1, S2, h1, h2, hi2⟩ := hst L S (xs (x3 + 1).toNatClampNeg) hi
  refine lv_aload_n hx hb dL_law_292 rfl (lv_at hl 1 rfl) ?_
  refine lv_aload_n hx hb dL_law_293 rfl (lv_at hl 0 rfl) ?_
  refine lv_iload_n hx hb dL_law_294 rfl (lv_at hl 3 rfl) ?_
  refine lv_iconst (v := 1) hx hb dL_law_295 (by decide) ?_
  refine lv_iadd hx hb dL_law_296 ?_
  refine va_sld hx hb hX hbl hbA hS (sc_in (d := 1) ex3 hj hL (by decide)) dL_law_297 ?_
  refine g_ci (g_runV (ci := 10) (o := 0) (As := [.int (xs (x3 + 1).toNatClampNeg)]) (rest := []) hx hb hml hown hts hK hN hT hS hW (c_X10_letter hB h1) (hB 0 bb_0) kd_0 rfl (gw_V mw_386 mw_387 mw_388 mw_66 mw_389) hv_X10_letter rfl rfl rfl (room_ok (by decide) (by decide)) hl.1 (Nat.le_of_ble_eq_true rfl) dL_law_298 rfl hcb) hS (fun H locs hW hS => ?_)
  refine lv_aload_n hx hb dL_law_301 rfl (lv_at hl 2 rfl) ?_
  refine lv_aload_n hx hb dL_law_302 rfl (lv_at hl 0 rfl) ?_
  refine lv_iload_n hx hb dL_law_303 rfl (lv_at hl 3 rfl) ?_
  refine lv_iconst (v := 1) hx hb dL_law_304 (by decide) ?_
  refine lv_iadd hx hb dL_law_305 ?_
  refine va_sld hx hb hX hbl hbA hS (sc_in (d := 1) ex3 hj hL (by decide)) dL_law_306 ?_
  refine g_ci (g_runV (ci := 11) (o := 200) (As := [.int (xs (x3 + 1).toNatClampNeg)]) (rest := [.int r]) hx hb hml hown hts hK hN hT hS hW (c_X11_letter hB h2) (hB 200 bb_200) kd_200 rfl (gw_V mw_1188 mw_1189 mw_1190 mw_73 mw_1191) hv_X11_letter rfl rfl rfl (room_ok (by decide) (by decide)) hl.1 (Nat.le_of_ble_eq_true rfl) dL_law_307 rfl hcb2) hS (fun H locs hW hS => ?_)
  refine lv_icmp_eq (tgt := 909) hx hb dL_law_310 (by decide) (fun _ => ?_) (fun c9 => absurd rfl c9)
  obtain ⟨y3, ey3⟩ : ∃ z : Int32, z = x3 + 6 := ⟨_, rfl⟩
  refine lv_iinc (v := y3) (lv' := [(3, .int y3), (0, .ref b), (1, .ref (ad 0)), (2, .ref (ad 200))]) hx hb dL_law_909 hl (k := 3) rfl (by rw [ey3]; rfl) (by decide) rfl (fun ls hl => ?_)
  refine lv_goto (tgt := 18) hx hb dL_law_912 (by decide) ?_
  exact ih y3 (by rw [ey3, ex3]; exact (nI_add (6 * j) 6)) _ _ hi2 _ _ _ _ _ _ (by omega) (by omega) hW hS (lv_sub hl [1, 2, 3, 0] rfl)
set_option maxHeartbeats 4000000 in
theorem law_c5 (C : MC p s m #[Value.ref b] meth c code 4 (some .boolean) RL g A) (hX : va_X b Lz xs s s.heap) (hbl : b < s.heap.size) (hbA : ¬ A b) (hL : Lz ≤ 3072) {Inv : List Nat → St → Prop} (hI : ∀ L S, Inv L S → Lk L ∧ Fx L S ∧ Cl L S ∧ 110 ∉ L ∧ 111 ∉ L ∧ 112 ∉ L) (hst : Stp_5 N Inv) {j : Nat} (ih : LH p l e s m below meth c b g A Inv (j + 1)) (hj : 6 * j + 6 ≤ Lz) {x3 : Int32} (ex3 : x3 = nI (6 * j)) {L : List Nat} {S : St} (hi : Inv L S) {ad : Nat → Nat} {H : Heap} {locs : List Loc} {ls : Array Slot} {cells slots : Nat} (hce : cells ≤ c9 + 5 * j) (hsl : slots ≤ s9 + 533 * j) (hW : GW g A ad L S H) (hS : va_S A s.heap H locs) (hl : lv_has ls 4 [(0, .ref b), (1, .ref (ad 0)), (2, .ref (ad 200)), (3, .int x3)]) : W p l e room_1 s m #[Value.ref b] below meth c H locs cells slots (lw_Z below #[Value.ref b] s) (F0 m 315 ls []) := by
  obtain ⟨hx, hb, hml, hown, hts, hr, hlocks, hK, hN, hT⟩ := id C
  obtain ⟨hB, hF, hC, h110, h111, h112⟩ := hI L S hi
  have hcb : cells + 0 ≤ room_1.cells ∧ slots + 0 ≤ room_1.slots := ⟨Nat.le_trans (m := 500000) (by unfold c9 at hce; omega) (by decide), Nat.le_trans (m := 7000000) (by unfold s9 at hsl; omega) (by decide)⟩
  have hcb2 : cells + 0 + 0 ≤ room_1.cells ∧ slots + 0 + 0 ≤ room_1.slots := hcb
  obtain ⟨r, h1, h2, hi2⟩ := hst L S (xs (x3 + 1).toNatClampNeg) hi
  refine lv_aload_n hx hb dL_law_315 rfl (lv_at hl 1 rfl) ?_
  refine lv_aload_n hx hb dL_law_316 rfl (lv_at hl 0 rfl) ?_
  refine lv_iload_n hx hb dL_law_317 rfl (lv_at hl 3 rfl) ?_
  refine lv_iconst (v := 1) hx hb dL_law_318 (by decide) ?_
  refine lv_iadd hx hb dL_law_319 ?_
  refine va_sld hx hb hX hbl hbA hS (sc_in (d := 1) ex3 hj hL (by decide)) dL_law_320 ?_
  refine g_ci (g_runV (ci := 10) (o := 0) (As := [.int (xs (x3 + 1).toNatClampNeg)]) (rest := []) hx hb hml hown hts hK hN hT hS hW (c_X10_known hB h1) (hB 0 bb_0) kd_0 rfl (gw_V mw_395 mw_396 mw_397 mw_66 mw_398) hv_X10_known rfl rfl rfl (room_ok (by decide) (by decide)) hl.1 (Nat.le_of_ble_eq_true rfl) dL_law_321 rfl hcb) hS (fun H locs hW hS => ?_)
  refine lv_aload_n hx hb dL_law_324 rfl (lv_at hl 2 rfl) ?_
  refine lv_aload_n hx hb dL_law_325 rfl (lv_at hl 0 rfl) ?_
  refine lv_iload_n hx hb dL_law_326 rfl (lv_at hl 3 rfl) ?_
  refine lv_iconst (v := 1) hx hb dL_law_327 (by decide) ?_
  refine lv_iadd hx hb dL_law_328 ?_
  refine va_sld hx hb hX hbl hbA hS (sc_in (d := 1) ex3 hj hL (by decide)) dL_law_329 ?_
  refine g_ci (g_runV (ci := 11) (o := 200) (As := [.int (xs (x3 + 1).toNatClampNeg)]) (rest := [.int r]) hx hb hml hown hts hK hN hT hS hW (c_X11_known hB h2) (hB 200 bb_200) kd_200 rfl (gw_V mw_1192 mw_1193 mw_1194 mw_73 mw_1195) hv_X11_known rfl rfl rfl (room_ok (by decide) (by decide)) hl.1 (Nat.le_of_ble_eq_true rfl) dL_law_330 rfl hcb2) hS (fun H locs hW hS => ?_)
  refine lv_icmp_eq (tgt := 909) hx hb dL_law_333 (by decide) (fun _ => ?_) (fun c9 => absurd rfl c9)
  obtain ⟨y3, ey3⟩ : ∃ z : Int32, z = x3 + 6 := ⟨_, rfl⟩
  refine lv_iinc (v := y3) (lv' := [(3, .int y3), (0, .ref b), (1, .ref (ad 0)), (2, .ref (ad 200))]) hx hb dL_law_909 hl (k := 3) rfl (by rw [ey3]; rfl) (by decide) rfl (fun ls hl => ?_)
  refine lv_goto (tgt := 18) hx hb dL_law_912 (by decide) ?_
  exact ih y3 (by rw [ey3, ex3]; exact (nI_add (6 * j) 6)) _ _ hi2 _ _ _ _ _ _ (by omega) (by omega) hW hS (lv_sub hl [1, 2, 3, 0] rfl)
set_option maxHeartbeats 4000000 in
theorem law_c6 (C : MC p s m #[Value.ref b] meth c code 4 (some .boolean) RL g A) (hX : va_X b Lz xs s s.heap) (hbl : b < s.heap.size) (hbA : ¬ A b) (hL : Lz ≤ 3072) {Inv : List Nat → St → Prop} (hI : ∀ L S, Inv L S → Lk L ∧ Fx L S ∧ Cl L S ∧ 110 ∉ L ∧ 111 ∉ L ∧ 112 ∉ L) (hst : Stp_6 N Inv) {j : Nat} (ih : LH p l e s m below meth c b g A Inv (j + 1)) (hj : 6 * j + 6 ≤ Lz) {x3 : Int32} (ex3 : x3 = nI (6 * j)) {L : List Nat} {S : St} (hi : Inv L S) {ad : Nat → Nat} {H : Heap} {locs : List Loc} {ls : Array Slot} {cells slots : Nat} (hce : cells ≤ c9 + 5 * j) (hsl : slots ≤ s9 + 533 * j) (hW : GW g A ad L S H) (hS : va_S A s.heap H locs) (hl : lv_has ls 4 [(0, .ref b), (1, .ref (ad 0)), (2, .ref (ad 200)), (3, .int x3)]) : W p l e room_1 s m #[Value.ref b] below meth c H locs cells slots (lw_Z below #[Value.ref b] s) (F0 m 338 ls []) := by
  obtain ⟨hx, hb, hml, hown, hts, hr, hlocks, hK, hN, hT⟩ := id C
  obtain ⟨hB, hF, hC, h110, h111, h112⟩ := hI L S hi
  have hcb : cells + 0 ≤ room_1.cells ∧ slots + 0 ≤ room_1.slots := ⟨Nat.le_trans (m := 500000) (by unfold c9 at hce; omega) (by decide), Nat.le_trans (m := 7000000) (by unfold s9 at hsl; omega) (by decide)⟩
  have hcb2 : cells + 0 + 0 ≤ room_1.cells ∧ slots + 0 + 0 ≤ room_1.slots := hcb
  obtain ⟨r, S1, S2, h1, h2, hi2⟩ := hst L S (xs (x3 + 1).toNatClampNeg) (xs (x3 + 2).toNatClampNeg) (xs (x3 + 3).toNatClampNeg) (xs (x3 + 4).toNatClampNeg) (xs (x3 + 5).toNatClampNeg) hi
  refine lv_aload_n hx hb dL_law_338 rfl (lv_at hl 1 rfl) ?_
  refine lv_aload_n hx hb dL_law_339 rfl (lv_at hl 0 rfl) ?_
  refine lv_iload_n hx hb dL_law_340 rfl (lv_at hl 3 rfl) ?_
  refine lv_iconst (v := 1) hx hb dL_law_341 (by decide) ?_
  refine lv_iadd hx hb dL_law_342 ?_
  refine va_sld hx hb hX hbl hbA hS (sc_in (d := 1) ex3 hj hL (by decide)) dL_law_343 ?_
  refine lv_aload_n hx hb dL_law_344 rfl (lv_at hl 0 rfl) ?_
  refine lv_iload_n hx hb dL_law_345 rfl (lv_at hl 3 rfl) ?_
  refine lv_iconst (v := 2) hx hb dL_law_346 (by decide) ?_
  refine lv_iadd hx hb dL_law_347 ?_
  refine va_sld hx hb hX hbl hbA hS (sc_in (d := 2) ex3 hj hL (by decide)) dL_law_348 ?_
  refine lv_aload_n hx hb dL_law_349 rfl (lv_at hl 0 rfl) ?_
  refine lv_iload_n hx hb dL_law_350 rfl (lv_at hl 3 rfl) ?_
  refine lv_iconst (v := 3) hx hb dL_law_351 (by decide) ?_
  refine lv_iadd hx hb dL_law_352 ?_
  refine va_sld hx hb hX hbl hbA hS (sc_in (d := 3) ex3 hj hL (by decide)) dL_law_353 ?_
  refine lv_aload_n hx hb dL_law_354 rfl (lv_at hl 0 rfl) ?_
  refine lv_iload_n hx hb dL_law_355 rfl (lv_at hl 3 rfl) ?_
  refine lv_iconst (v := 4) hx hb dL_law_356 (by decide) ?_
  refine lv_iadd hx hb dL_law_357 ?_
  refine va_sld hx hb hX hbl hbA hS (sc_in (d := 4) ex3 hj hL (by decide)) dL_law_358 ?_
  refine lv_aload_n hx hb dL_law_359 rfl (lv_at hl 0 rfl) ?_
  refine lv_iload_n hx hb dL_law_360 rfl (lv_at hl 3 rfl) ?_
  refine lv_iconst (v := 5) hx hb dL_law_361 (by decide) ?_
  refine lv_iadd hx hb dL_law_362 ?_
  refine va_sld hx hb hX hbl hbA hS (sc_in (d := 5) ex3 hj hL (by decide)) dL_law_363 ?_
  refine g_ci (g_runV (ci := 10) (o := 0) (As := [.int (xs (x3 + 1).toNatClampNeg), .int (xs (x3 + 2).toNatClampNeg), .int (xs (x3 + 3).toNatClampNeg), .int (xs (x3 + 4).toNatClampNeg), .int (xs (x3 + 5).toNatClampNeg)]) (rest := []) hx hb hml hown hts hK hN hT hS hW (c_X10_feed hB h1) (hB 0 bb_0) kd_0 rfl (gw_V mw_412 mw_413 mw_414 mw_66 mw_415) hv_X10_feed rfl rfl rfl (room_ok (by decide) (by decide)) hl.1 (Nat.le_of_ble_eq_true rfl) dL_law_364 rfl hcb) hS (fun H locs hW hS => ?_)
  refine lv_aload_n hx hb dL_law_367 rfl (lv_at hl 2 rfl) ?_
  refine lv_aload_n hx hb dL_law_368 rfl (lv_at hl 0 rfl) ?_
  refine lv_iload_n hx hb dL_law_369 rfl (lv_at hl 3 rfl) ?_
  refine lv_iconst (v := 1) hx hb dL_law_370 (by decide) ?_
  refine lv_iadd hx hb dL_law_371 ?_
  refine va_sld hx hb hX hbl hbA hS (sc_in (d := 1) ex3 hj hL (by decide)) dL_law_372 ?_
  refine lv_aload_n hx hb dL_law_373 rfl (lv_at hl 0 rfl) ?_
  refine lv_iload_n hx hb dL_law_374 rfl (lv_at hl 3 rfl) ?_
  refine lv_iconst (v := 2) hx hb dL_law_375 (by decide) ?_
  refine lv_iadd hx hb dL_law_376 ?_
  refine va_sld hx hb hX hbl hbA hS (sc_in (d := 2) ex3 hj hL (by decide)) dL_law_377 ?_
  refine lv_aload_n hx hb dL_law_378 rfl (lv_at hl 0 rfl) ?_
  refine lv_iload_n hx hb dL_law_379 rfl (lv_at hl 3 rfl) ?_
  refine lv_iconst (v := 3) hx hb dL_law_380 (by decide) ?_
  refine lv_iadd hx hb dL_law_381 ?_
  refine va_sld hx hb hX hbl hbA hS (sc_in (d := 3) ex3 hj hL (by decide)) dL_law_382 ?_
  refine lv_aload_n hx hb dL_law_383 rfl (lv_at hl 0 rfl) ?_
  refine lv_iload_n hx hb dL_law_384 rfl (lv_at hl 3 rfl) ?_
  refine lv_iconst (v := 4) hx hb dL_law_385 (by decide) ?_
  refine lv_iadd hx hb dL_law_386 ?_
  refine va_sld hx hb hX hbl hbA hS (sc_in (d := 4) ex3 hj hL (by decide)) dL_law_387 ?_
  refine lv_aload_n hx hb dL_law_388 rfl (lv_at hl 0 rfl) ?_
  refine lv_iload_n hx hb dL_law_389 rfl (lv_at hl 3 rfl) ?_
  refine lv_iconst (v := 5) hx hb dL_law_390 (by decide) ?_
  refine lv_iadd hx hb dL_law_391 ?_
  refine va_sld hx hb hX hbl hbA hS (sc_in (d := 5) ex3 hj hL (by decide)) dL_law_392 ?_
  refine g_ci (g_runV (ci := 11) (o := 200) (As := [.int (xs (x3 + 1).toNatClampNeg), .int (xs (x3 + 2).toNatClampNeg), .int (xs (x3 + 3).toNatClampNeg), .int (xs (x3 + 4).toNatClampNeg), .int (xs (x3 + 5).toNatClampNeg)]) (rest := [.int r]) hx hb hml hown hts hK hN hT hS hW (c_X11_feed hB h2) (hB 200 bb_200) kd_200 rfl (gw_V mw_1220 mw_1221 mw_1222 mw_73 mw_1223) hv_X11_feed rfl rfl rfl (room_ok (by decide) (by decide)) hl.1 (Nat.le_of_ble_eq_true rfl) dL_law_393 rfl hcb2) hS (fun H locs hW hS => ?_)
  refine lv_icmp_eq (tgt := 909) hx hb dL_law_396 (by decide) (fun _ => ?_) (fun c9 => absurd rfl c9)
  obtain ⟨y3, ey3⟩ : ∃ z : Int32, z = x3 + 6 := ⟨_, rfl⟩
  refine lv_iinc (v := y3) (lv' := [(3, .int y3), (0, .ref b), (1, .ref (ad 0)), (2, .ref (ad 200))]) hx hb dL_law_909 hl (k := 3) rfl (by rw [ey3]; rfl) (by decide) rfl (fun ls hl => ?_)
  refine lv_goto (tgt := 18) hx hb dL_law_912 (by decide) ?_
  exact ih y3 (by rw [ey3, ex3]; exact (nI_add (6 * j) 6)) _ _ hi2 _ _ _ _ _ _ (by omega) (by omega) hW hS (lv_sub hl [1, 2, 3, 0] rfl)
set_option maxHeartbeats 4000000 in
theorem law_c7 (C : MC p s m #[Value.ref b] meth c code 4 (some .boolean) RL g A) (hX : va_X b Lz xs s s.heap) (hbl : b < s.heap.size) (hbA : ¬ A b) (hL : Lz ≤ 3072) {Inv : List Nat → St → Prop} (hI : ∀ L S, Inv L S → Lk L ∧ Fx L S ∧ Cl L S ∧ 110 ∉ L ∧ 111 ∉ L ∧ 112 ∉ L) (hst : Stp_7 N Inv) {j : Nat} (ih : LH p l e s m below meth c b g A Inv (j + 1)) (hj : 6 * j + 6 ≤ Lz) {x3 : Int32} (ex3 : x3 = nI (6 * j)) {L : List Nat} {S : St} (hi : Inv L S) {ad : Nat → Nat} {H : Heap} {locs : List Loc} {ls : Array Slot} {cells slots : Nat} (hce : cells ≤ c9 + 5 * j) (hsl : slots ≤ s9 + 533 * j) (hW : GW g A ad L S H) (hS : va_S A s.heap H locs) (hl : lv_has ls 4 [(0, .ref b), (1, .ref (ad 0)), (2, .ref (ad 200)), (3, .int x3)]) : W p l e room_1 s m #[Value.ref b] below meth c H locs cells slots (lw_Z below #[Value.ref b] s) (F0 m 401 ls []) := by
  obtain ⟨hx, hb, hml, hown, hts, hr, hlocks, hK, hN, hT⟩ := id C
  obtain ⟨hB, hF, hC, h110, h111, h112⟩ := hI L S hi
  have hcb : cells + 0 ≤ room_1.cells ∧ slots + 0 ≤ room_1.slots := ⟨Nat.le_trans (m := 500000) (by unfold c9 at hce; omega) (by decide), Nat.le_trans (m := 7000000) (by unfold s9 at hsl; omega) (by decide)⟩
  have hcb2 : cells + 0 + 0 ≤ room_1.cells ∧ slots + 0 + 0 ≤ room_1.slots := hcb
  obtain ⟨r, S1, S2, h1, h2, hi2⟩ := hst L S (xs (x3 + 1).toNatClampNeg) hi
  refine lv_aload_n hx hb dL_law_401 rfl (lv_at hl 1 rfl) ?_
  refine lv_aload_n hx hb dL_law_402 rfl (lv_at hl 0 rfl) ?_
  refine lv_iload_n hx hb dL_law_403 rfl (lv_at hl 3 rfl) ?_
  refine lv_iconst (v := 1) hx hb dL_law_404 (by decide) ?_
  refine lv_iadd hx hb dL_law_405 ?_
  refine va_sld hx hb hX hbl hbA hS (sc_in (d := 1) ex3 hj hL (by decide)) dL_law_406 ?_
  refine g_ci (g_runV (ci := 10) (o := 0) (As := [.int (xs (x3 + 1).toNatClampNeg)]) (rest := []) hx hb hml hown hts hK hN hT hS hW (c_X10_end hB h1) (hB 0 bb_0) kd_0 rfl (gw_V mw_420 mw_421 mw_422 mw_66 mw_423) hv_X10_end rfl rfl rfl (room_ok (by decide) (by decide)) hl.1 (Nat.le_of_ble_eq_true rfl) dL_law_407 rfl hcb) hS (fun H locs hW hS => ?_)
  refine lv_aload_n hx hb dL_law_410 rfl (lv_at hl 2 rfl) ?_
  refine lv_aload_n hx hb dL_law_411 rfl (lv_at hl 0 rfl) ?_
  refine lv_iload_n hx hb dL_law_412 rfl (lv_at hl 3 rfl) ?_
  refine lv_iconst (v := 1) hx hb dL_law_413 (by decide) ?_
  refine lv_iadd hx hb dL_law_414 ?_
  refine va_sld hx hb hX hbl hbA hS (sc_in (d := 1) ex3 hj hL (by decide)) dL_law_415 ?_
  refine g_ci (g_runV (ci := 11) (o := 200) (As := [.int (xs (x3 + 1).toNatClampNeg)]) (rest := [.int r]) hx hb hml hown hts hK hN hT hS hW (c_X11_end hB h2) (hB 200 bb_200) kd_200 rfl (gw_V mw_1228 mw_1229 mw_1230 mw_73 mw_1231) hv_X11_end rfl rfl rfl (room_ok (by decide) (by decide)) hl.1 (Nat.le_of_ble_eq_true rfl) dL_law_416 rfl hcb2) hS (fun H locs hW hS => ?_)
  refine lv_icmp_eq (tgt := 909) hx hb dL_law_419 (by decide) (fun _ => ?_) (fun c9 => absurd rfl c9)
  obtain ⟨y3, ey3⟩ : ∃ z : Int32, z = x3 + 6 := ⟨_, rfl⟩
  refine lv_iinc (v := y3) (lv' := [(3, .int y3), (0, .ref b), (1, .ref (ad 0)), (2, .ref (ad 200))]) hx hb dL_law_909 hl (k := 3) rfl (by rw [ey3]; rfl) (by decide) rfl (fun ls hl => ?_)
  refine lv_goto (tgt := 18) hx hb dL_law_912 (by decide) ?_
  exact ih y3 (by rw [ey3, ex3]; exact (nI_add (6 * j) 6)) _ _ hi2 _ _ _ _ _ _ (by omega) (by omega) hW hS (lv_sub hl [1, 2, 3, 0] rfl)
set_option maxHeartbeats 4000000 in
theorem law_c8 (C : MC p s m #[Value.ref b] meth c code 4 (some .boolean) RL g A) (hX : va_X b Lz xs s s.heap) (hbl : b < s.heap.size) (hbA : ¬ A b) (hL : Lz ≤ 3072) {Inv : List Nat → St → Prop} (hI : ∀ L S, Inv L S → Lk L ∧ Fx L S ∧ Cl L S ∧ 110 ∉ L ∧ 111 ∉ L ∧ 112 ∉ L) (hst : Stp_8 N Inv) {j : Nat} (ih : LH p l e s m below meth c b g A Inv (j + 1)) (hj : 6 * j + 6 ≤ Lz) {x3 : Int32} (ex3 : x3 = nI (6 * j)) {L : List Nat} {S : St} (hi : Inv L S) {ad : Nat → Nat} {H : Heap} {locs : List Loc} {ls : Array Slot} {cells slots : Nat} (hce : cells ≤ c9 + 5 * j) (hsl : slots ≤ s9 + 533 * j) (hW : GW g A ad L S H) (hS : va_S A s.heap H locs) (hl : lv_has ls 4 [(0, .ref b), (1, .ref (ad 0)), (2, .ref (ad 200)), (3, .int x3)]) : W p l e room_1 s m #[Value.ref b] below meth c H locs cells slots (lw_Z below #[Value.ref b] s) (F0 m 424 ls []) := by
  obtain ⟨hx, hb, hml, hown, hts, hr, hlocks, hK, hN, hT⟩ := id C
  obtain ⟨hB, hF, hC, h110, h111, h112⟩ := hI L S hi
  have hcb : cells + 2 ≤ room_1.cells ∧ slots + 11 ≤ room_1.slots := ⟨Nat.le_trans (m := 500000) (by unfold c9 at hce; omega) (by decide), Nat.le_trans (m := 7000000) (by unfold s9 at hsl; omega) (by decide)⟩
  have hcb2 : cells + 2 + 0 ≤ room_1.cells ∧ slots + 11 + 0 ≤ room_1.slots := hcb
  obtain ⟨r, S1, S2, h1, hC9, hF9, h2, hi2⟩ := hst L S (xs (x3 + 1).toNatClampNeg) hi
  refine lv_aload_n hx hb dL_law_424 rfl (lv_at hl 1 rfl) ?_
  refine lv_aload_n hx hb dL_law_425 rfl (lv_at hl 0 rfl) ?_
  refine lv_iload_n hx hb dL_law_426 rfl (lv_at hl 3 rfl) ?_
  refine lv_iconst (v := 1) hx hb dL_law_427 (by decide) ?_
  refine lv_iadd hx hb dL_law_428 ?_
  refine va_sld hx hb hX hbl hbA hS (sc_in (d := 1) ex3 hj hL (by decide)) dL_law_429 ?_
  refine g_ciM (g_runV (ci := 10) (o := 0) (As := [.int (xs (x3 + 1).toNatClampNeg)]) (rest := []) hx hb hml hown hts hK hN hT hS hW (c_X10_orders hB hF hC h110 h111 hC9 hF9 h1) (hB 0 bb_0) kd_0 rfl (gw_V mw_424 mw_425 mw_426 mw_66 mw_427) hv_X10_orders rfl rfl rfl (room_okc (by decide) (by decide)) hl.1 (Nat.le_of_ble_eq_true rfl) dL_law_430 rfl hcb) hS (fun H locs hW hS => ?_)
  refine lv_aload_n hx hb dL_law_433 rfl (lv_at hl 2 rfl) ?_
  refine lv_aload_n hx hb dL_law_434 rfl (lv_at hl 0 rfl) ?_
  refine lv_iload_n hx hb dL_law_435 rfl (lv_at hl 3 rfl) ?_
  refine lv_iconst (v := 1) hx hb dL_law_436 (by decide) ?_
  refine lv_iadd hx hb dL_law_437 ?_
  refine va_sld hx hb hX hbl hbA hS (sc_in (d := 1) ex3 hj hL (by decide)) dL_law_438 ?_
  refine g_ci (g_runV (ci := 11) (o := 200) (As := [.int (xs (x3 + 1).toNatClampNeg)]) (rest := [.int r]) hx hb hml hown hts hK hN hT hS hW (c_X11_orders hB h2) (hB 200 bb_200) kd_200 rfl (gw_V mw_1232 mw_1233 mw_1234 mw_73 mw_1235) hv_X11_orders rfl rfl rfl (room_ok (by decide) (by decide)) hl.1 (Nat.le_of_ble_eq_true rfl) dL_law_439 rfl hcb2) hS (fun H locs hW hS => ?_)
  refine lv_icmp_eq (tgt := 909) hx hb dL_law_442 (by decide) (fun _ => ?_) (fun c9 => absurd rfl c9)
  obtain ⟨y3, ey3⟩ : ∃ z : Int32, z = x3 + 6 := ⟨_, rfl⟩
  refine lv_iinc (v := y3) (lv' := [(3, .int y3), (0, .ref b), (1, .ref (ad 0)), (2, .ref (ad 200))]) hx hb dL_law_909 hl (k := 3) rfl (by rw [ey3]; rfl) (by decide) rfl (fun ls hl => ?_)
  refine lv_goto (tgt := 18) hx hb dL_law_912 (by decide) ?_
  exact ih y3 (by rw [ey3, ex3]; exact (nI_add (6 * j) 6)) _ _ hi2 _ _ _ _ _ _ (by omega) (by omega) hW hS (lv_sub hl [1, 2, 3, 0] rfl)
set_option maxHeartbeats 4000000 in
theorem law_c9 (C : MC p s m #[Value.ref b] meth c code 4 (some .boolean) RL g A) (hX : va_X b Lz xs s s.heap) (hbl : b < s.heap.size) (hbA : ¬ A b) (hL : Lz ≤ 3072) {Inv : List Nat → St → Prop} (hI : ∀ L S, Inv L S → Lk L ∧ Fx L S ∧ Cl L S ∧ 110 ∉ L ∧ 111 ∉ L ∧ 112 ∉ L) (hst : Stp_9 N Inv) {j : Nat} (ih : LH p l e s m below meth c b g A Inv (j + 1)) (hj : 6 * j + 6 ≤ Lz) {x3 : Int32} (ex3 : x3 = nI (6 * j)) {L : List Nat} {S : St} (hi : Inv L S) {ad : Nat → Nat} {H : Heap} {locs : List Loc} {ls : Array Slot} {cells slots : Nat} (hce : cells ≤ c9 + 5 * j) (hsl : slots ≤ s9 + 533 * j) (hW : GW g A ad L S H) (hS : va_S A s.heap H locs) (hl : lv_has ls 4 [(0, .ref b), (1, .ref (ad 0)), (2, .ref (ad 200)), (3, .int x3)]) : W p l e room_1 s m #[Value.ref b] below meth c H locs cells slots (lw_Z below #[Value.ref b] s) (F0 m 447 ls []) := by
  obtain ⟨hx, hb, hml, hown, hts, hr, hlocks, hK, hN, hT⟩ := id C
  obtain ⟨hB, hF, hC, h110, h111, h112⟩ := hI L S hi
  have hcb : cells + 0 ≤ room_1.cells ∧ slots + 0 ≤ room_1.slots := ⟨Nat.le_trans (m := 500000) (by unfold c9 at hce; omega) (by decide), Nat.le_trans (m := 7000000) (by unfold s9 at hsl; omega) (by decide)⟩
  have hcb2 : cells + 0 + 0 ≤ room_1.cells ∧ slots + 0 + 0 ≤ room_1.slots := hcb
  obtain ⟨r, h1, h2, hi2⟩ := hst L S (xs (x3 + 1).toNatClampNeg) hi
  refine lv_aload_n hx hb dL_law_447 rfl (lv_at hl 1 rfl) ?_
  refine lv_aload_n hx hb dL_law_448 rfl (lv_at hl 0 rfl) ?_
  refine lv_iload_n hx hb dL_law_449 rfl (lv_at hl 3 rfl) ?_
  refine lv_iconst (v := 1) hx hb dL_law_450 (by decide) ?_
  refine lv_iadd hx hb dL_law_451 ?_
  refine va_sld hx hb hX hbl hbA hS (sc_in (d := 1) ex3 hj hL (by decide)) dL_law_452 ?_
  refine g_ci (g_runV (ci := 10) (o := 0) (As := [.int (xs (x3 + 1).toNatClampNeg)]) (rest := []) hx hb hml hown hts hK hN hT hS hW (c_X10_fault hB h1) (hB 0 bb_0) kd_0 rfl (gw_V mw_696 mw_697 mw_698 mw_66 mw_699) hv_X10_fault rfl rfl rfl (room_ok (by decide) (by decide)) hl.1 (Nat.le_of_ble_eq_true rfl) dL_law_453 rfl hcb) hS (fun H locs hW hS => ?_)
  refine lv_aload_n hx hb dL_law_456 rfl (lv_at hl 2 rfl) ?_
  refine lv_aload_n hx hb dL_law_457 rfl (lv_at hl 0 rfl) ?_
  refine lv_iload_n hx hb dL_law_458 rfl (lv_at hl 3 rfl) ?_
  refine lv_iconst (v := 1) hx hb dL_law_459 (by decide) ?_
  refine lv_iadd hx hb dL_law_460 ?_
  refine va_sld hx hb hX hbl hbA hS (sc_in (d := 1) ex3 hj hL (by decide)) dL_law_461 ?_
  refine g_ci (g_runV (ci := 11) (o := 200) (As := [.int (xs (x3 + 1).toNatClampNeg)]) (rest := [.int r]) hx hb hml hown hts hK hN hT hS hW (c_X11_fault hB h2) (hB 200 bb_200) kd_200 rfl (gw_V mw_1326 mw_1327 mw_1328 mw_73 mw_1329) hv_X11_fault rfl rfl rfl (room_ok (by decide) (by decide)) hl.1 (Nat.le_of_ble_eq_true rfl) dL_law_462 rfl hcb2) hS (fun H locs hW hS => ?_)
  refine lv_icmp_eq (tgt := 909) hx hb dL_law_465 (by decide) (fun _ => ?_) (fun c9 => absurd rfl c9)
  obtain ⟨y3, ey3⟩ : ∃ z : Int32, z = x3 + 6 := ⟨_, rfl⟩
  refine lv_iinc (v := y3) (lv' := [(3, .int y3), (0, .ref b), (1, .ref (ad 0)), (2, .ref (ad 200))]) hx hb dL_law_909 hl (k := 3) rfl (by rw [ey3]; rfl) (by decide) rfl (fun ls hl => ?_)
  refine lv_goto (tgt := 18) hx hb dL_law_912 (by decide) ?_
  exact ih y3 (by rw [ey3, ex3]; exact (nI_add (6 * j) 6)) _ _ hi2 _ _ _ _ _ _ (by omega) (by omega) hW hS (lv_sub hl [1, 2, 3, 0] rfl)
set_option maxHeartbeats 4000000 in
theorem law_c10 (C : MC p s m #[Value.ref b] meth c code 4 (some .boolean) RL g A) (hX : va_X b Lz xs s s.heap) (hbl : b < s.heap.size) (hbA : ¬ A b) (hL : Lz ≤ 3072) {Inv : List Nat → St → Prop} (hI : ∀ L S, Inv L S → Lk L ∧ Fx L S ∧ Cl L S ∧ 110 ∉ L ∧ 111 ∉ L ∧ 112 ∉ L) (hst : Stp_10 N Inv) {j : Nat} (ih : LH p l e s m below meth c b g A Inv (j + 1)) (hj : 6 * j + 6 ≤ Lz) {x3 : Int32} (ex3 : x3 = nI (6 * j)) {L : List Nat} {S : St} (hi : Inv L S) {ad : Nat → Nat} {H : Heap} {locs : List Loc} {ls : Array Slot} {cells slots : Nat} (hce : cells ≤ c9 + 5 * j) (hsl : slots ≤ s9 + 533 * j) (hW : GW g A ad L S H) (hS : va_S A s.heap H locs) (hl : lv_has ls 4 [(0, .ref b), (1, .ref (ad 0)), (2, .ref (ad 200)), (3, .int x3)]) : W p l e room_1 s m #[Value.ref b] below meth c H locs cells slots (lw_Z below #[Value.ref b] s) (F0 m 470 ls []) := by
  obtain ⟨hx, hb, hml, hown, hts, hr, hlocks, hK, hN, hT⟩ := id C
  obtain ⟨hB, hF, hC, h110, h111, h112⟩ := hI L S hi
  have hcb : cells + 0 ≤ room_1.cells ∧ slots + 0 ≤ room_1.slots := ⟨Nat.le_trans (m := 500000) (by unfold c9 at hce; omega) (by decide), Nat.le_trans (m := 7000000) (by unfold s9 at hsl; omega) (by decide)⟩
  have hcb2 : cells + 0 + 0 ≤ room_1.cells ∧ slots + 0 + 0 ≤ room_1.slots := hcb
  obtain ⟨r, S1, S2, h1, h2, hi2⟩ := hst L S (xs (x3 + 1).toNatClampNeg) hi
  refine lv_aload_n hx hb dL_law_470 rfl (lv_at hl 1 rfl) ?_
  refine lv_aload_n hx hb dL_law_471 rfl (lv_at hl 0 rfl) ?_
  refine lv_iload_n hx hb dL_law_472 rfl (lv_at hl 3 rfl) ?_
  refine lv_iconst (v := 1) hx hb dL_law_473 (by decide) ?_
  refine lv_iadd hx hb dL_law_474 ?_
  refine va_sld hx hb hX hbl hbA hS (sc_in (d := 1) ex3 hj hL (by decide)) dL_law_475 ?_
  refine g_ci (g_runV (ci := 10) (o := 0) (As := [.int (xs (x3 + 1).toNatClampNeg)]) (rest := []) hx hb hml hown hts hK hN hT hS hW (c_X10_days hB h1) (hB 0 bb_0) kd_0 rfl (gw_V mw_700 mw_701 mw_702 mw_66 mw_703) hv_X10_days rfl rfl rfl (room_ok (by decide) (by decide)) hl.1 (Nat.le_of_ble_eq_true rfl) dL_law_476 rfl hcb) hS (fun H locs hW hS => ?_)
  refine lv_aload_n hx hb dL_law_479 rfl (lv_at hl 2 rfl) ?_
  refine lv_aload_n hx hb dL_law_480 rfl (lv_at hl 0 rfl) ?_
  refine lv_iload_n hx hb dL_law_481 rfl (lv_at hl 3 rfl) ?_
  refine lv_iconst (v := 1) hx hb dL_law_482 (by decide) ?_
  refine lv_iadd hx hb dL_law_483 ?_
  refine va_sld hx hb hX hbl hbA hS (sc_in (d := 1) ex3 hj hL (by decide)) dL_law_484 ?_
  refine g_ci (g_runV (ci := 11) (o := 200) (As := [.int (xs (x3 + 1).toNatClampNeg)]) (rest := [.int r]) hx hb hml hown hts hK hN hT hS hW (c_X11_days hB h2) (hB 200 bb_200) kd_200 rfl (gw_V mw_1330 mw_1331 mw_1332 mw_73 mw_1333) hv_X11_days rfl rfl rfl (room_ok (by decide) (by decide)) hl.1 (Nat.le_of_ble_eq_true rfl) dL_law_485 rfl hcb2) hS (fun H locs hW hS => ?_)
  refine lv_icmp_eq (tgt := 909) hx hb dL_law_488 (by decide) (fun _ => ?_) (fun c9 => absurd rfl c9)
  obtain ⟨y3, ey3⟩ : ∃ z : Int32, z = x3 + 6 := ⟨_, rfl⟩
  refine lv_iinc (v := y3) (lv' := [(3, .int y3), (0, .ref b), (1, .ref (ad 0)), (2, .ref (ad 200))]) hx hb dL_law_909 hl (k := 3) rfl (by rw [ey3]; rfl) (by decide) rfl (fun ls hl => ?_)
  refine lv_goto (tgt := 18) hx hb dL_law_912 (by decide) ?_
  exact ih y3 (by rw [ey3, ex3]; exact (nI_add (6 * j) 6)) _ _ hi2 _ _ _ _ _ _ (by omega) (by omega) hW hS (lv_sub hl [1, 2, 3, 0] rfl)
set_option maxHeartbeats 4000000 in
theorem law_c11 (C : MC p s m #[Value.ref b] meth c code 4 (some .boolean) RL g A) (hX : va_X b Lz xs s s.heap) (hbl : b < s.heap.size) (hbA : ¬ A b) (hL : Lz ≤ 3072) {Inv : List Nat → St → Prop} (hI : ∀ L S, Inv L S → Lk L ∧ Fx L S ∧ Cl L S ∧ 110 ∉ L ∧ 111 ∉ L ∧ 112 ∉ L) (hst : Stp_11 N Inv) {j : Nat} (ih : LH p l e s m below meth c b g A Inv (j + 1)) (hj : 6 * j + 6 ≤ Lz) {x3 : Int32} (ex3 : x3 = nI (6 * j)) {L : List Nat} {S : St} (hi : Inv L S) {ad : Nat → Nat} {H : Heap} {locs : List Loc} {ls : Array Slot} {cells slots : Nat} (hce : cells ≤ c9 + 5 * j) (hsl : slots ≤ s9 + 533 * j) (hW : GW g A ad L S H) (hS : va_S A s.heap H locs) (hl : lv_has ls 4 [(0, .ref b), (1, .ref (ad 0)), (2, .ref (ad 200)), (3, .int x3)]) : W p l e room_1 s m #[Value.ref b] below meth c H locs cells slots (lw_Z below #[Value.ref b] s) (F0 m 493 ls []) := by
  obtain ⟨hx, hb, hml, hown, hts, hr, hlocks, hK, hN, hT⟩ := id C
  obtain ⟨hB, hF, hC, h110, h111, h112⟩ := hI L S hi
  have hcb : cells + 0 ≤ room_1.cells ∧ slots + 0 ≤ room_1.slots := ⟨Nat.le_trans (m := 500000) (by unfold c9 at hce; omega) (by decide), Nat.le_trans (m := 7000000) (by unfold s9 at hsl; omega) (by decide)⟩
  have hcb2 : cells + 0 + 0 ≤ room_1.cells ∧ slots + 0 + 0 ≤ room_1.slots := hcb
  obtain ⟨r, h1, h2, hi2⟩ := hst L S (xs (x3 + 1).toNatClampNeg) (xs (x3 + 2).toNatClampNeg) hi
  refine lv_aload_n hx hb dL_law_493 rfl (lv_at hl 1 rfl) ?_
  refine lv_aload_n hx hb dL_law_494 rfl (lv_at hl 0 rfl) ?_
  refine lv_iload_n hx hb dL_law_495 rfl (lv_at hl 3 rfl) ?_
  refine lv_iconst (v := 1) hx hb dL_law_496 (by decide) ?_
  refine lv_iadd hx hb dL_law_497 ?_
  refine va_sld hx hb hX hbl hbA hS (sc_in (d := 1) ex3 hj hL (by decide)) dL_law_498 ?_
  refine lv_aload_n hx hb dL_law_499 rfl (lv_at hl 0 rfl) ?_
  refine lv_iload_n hx hb dL_law_500 rfl (lv_at hl 3 rfl) ?_
  refine lv_iconst (v := 2) hx hb dL_law_501 (by decide) ?_
  refine lv_iadd hx hb dL_law_502 ?_
  refine va_sld hx hb hX hbl hbA hS (sc_in (d := 2) ex3 hj hL (by decide)) dL_law_503 ?_
  refine g_ci (g_runV (ci := 10) (o := 0) (As := [.int (xs (x3 + 1).toNatClampNeg), .int (xs (x3 + 2).toNatClampNeg)]) (rest := []) hx hb hml hown hts hK hN hT hS hW (c_X10_of hB h1) (hB 0 bb_0) kd_0 rfl (gw_V mw_801 mw_802 mw_803 mw_66 mw_804) hv_X10_of rfl rfl rfl (room_ok (by decide) (by decide)) hl.1 (Nat.le_of_ble_eq_true rfl) dL_law_504 rfl hcb) hS (fun H locs hW hS => ?_)
  refine lv_aload_n hx hb dL_law_507 rfl (lv_at hl 2 rfl) ?_
  refine lv_aload_n hx hb dL_law_508 rfl (lv_at hl 0 rfl) ?_
  refine lv_iload_n hx hb dL_law_509 rfl (lv_at hl 3 rfl) ?_
  refine lv_iconst (v := 1) hx hb dL_law_510 (by decide) ?_
  refine lv_iadd hx hb dL_law_511 ?_
  refine va_sld hx hb hX hbl hbA hS (sc_in (d := 1) ex3 hj hL (by decide)) dL_law_512 ?_
  refine lv_aload_n hx hb dL_law_513 rfl (lv_at hl 0 rfl) ?_
  refine lv_iload_n hx hb dL_law_514 rfl (lv_at hl 3 rfl) ?_
  refine lv_iconst (v := 2) hx hb dL_law_515 (by decide) ?_
  refine lv_iadd hx hb dL_law_516 ?_
  refine va_sld hx hb hX hbl hbA hS (sc_in (d := 2) ex3 hj hL (by decide)) dL_law_517 ?_
  refine g_ci (g_runV (ci := 11) (o := 200) (As := [.int (xs (x3 + 1).toNatClampNeg), .int (xs (x3 + 2).toNatClampNeg)]) (rest := [.int r]) hx hb hml hown hts hK hN hT hS hW (c_X11_of hB h2) (hB 200 bb_200) kd_200 rfl (gw_V mw_1208 mw_1209 mw_1210 mw_73 mw_1211) hv_X11_of rfl rfl rfl (room_ok (by decide) (by decide)) hl.1 (Nat.le_of_ble_eq_true rfl) dL_law_518 rfl hcb2) hS (fun H locs hW hS => ?_)
  refine lv_icmp_eq (tgt := 909) hx hb dL_law_521 (by decide) (fun _ => ?_) (fun c9 => absurd rfl c9)
  obtain ⟨y3, ey3⟩ : ∃ z : Int32, z = x3 + 6 := ⟨_, rfl⟩
  refine lv_iinc (v := y3) (lv' := [(3, .int y3), (0, .ref b), (1, .ref (ad 0)), (2, .ref (ad 200))]) hx hb dL_law_909 hl (k := 3) rfl (by rw [ey3]; rfl) (by decide) rfl (fun ls hl => ?_)
  refine lv_goto (tgt := 18) hx hb dL_law_912 (by decide) ?_
  exact ih y3 (by rw [ey3, ex3]; exact (nI_add (6 * j) 6)) _ _ hi2 _ _ _ _ _ _ (by omega) (by omega) hW hS (lv_sub hl [1, 2, 3, 0] rfl)
set_option maxHeartbeats 4000000 in
theorem law_c12 (C : MC p s m #[Value.ref b] meth c code 4 (some .boolean) RL g A) (hX : va_X b Lz xs s s.heap) (hbl : b < s.heap.size) (hbA : ¬ A b) (hL : Lz ≤ 3072) {Inv : List Nat → St → Prop} (hI : ∀ L S, Inv L S → Lk L ∧ Fx L S ∧ Cl L S ∧ 110 ∉ L ∧ 111 ∉ L ∧ 112 ∉ L) (hst : Stp_12 N Inv) {j : Nat} (ih : LH p l e s m below meth c b g A Inv (j + 1)) (hj : 6 * j + 6 ≤ Lz) {x3 : Int32} (ex3 : x3 = nI (6 * j)) {L : List Nat} {S : St} (hi : Inv L S) {ad : Nat → Nat} {H : Heap} {locs : List Loc} {ls : Array Slot} {cells slots : Nat} (hce : cells ≤ c9 + 5 * j) (hsl : slots ≤ s9 + 533 * j) (hW : GW g A ad L S H) (hS : va_S A s.heap H locs) (hl : lv_has ls 4 [(0, .ref b), (1, .ref (ad 0)), (2, .ref (ad 200)), (3, .int x3)]) : W p l e room_1 s m #[Value.ref b] below meth c H locs cells slots (lw_Z below #[Value.ref b] s) (F0 m 526 ls []) := by
  obtain ⟨hx, hb, hml, hown, hts, hr, hlocks, hK, hN, hT⟩ := id C
  obtain ⟨hB, hF, hC, h110, h111, h112⟩ := hI L S hi
  have hcb : cells + 0 ≤ room_1.cells ∧ slots + 0 ≤ room_1.slots := ⟨Nat.le_trans (m := 500000) (by unfold c9 at hce; omega) (by decide), Nat.le_trans (m := 7000000) (by unfold s9 at hsl; omega) (by decide)⟩
  have hcb2 : cells + 0 + 0 ≤ room_1.cells ∧ slots + 0 + 0 ≤ room_1.slots := hcb
  obtain ⟨r, h1, h2, hi2⟩ := hst L S (xs (x3 + 1).toNatClampNeg) (xs (x3 + 2).toNatClampNeg) hi
  refine lv_aload_n hx hb dL_law_526 rfl (lv_at hl 1 rfl) ?_
  refine lv_aload_n hx hb dL_law_527 rfl (lv_at hl 0 rfl) ?_
  refine lv_iload_n hx hb dL_law_528 rfl (lv_at hl 3 rfl) ?_
  refine lv_iconst (v := 1) hx hb dL_law_529 (by decide) ?_
  refine lv_iadd hx hb dL_law_530 ?_
  refine va_sld hx hb hX hbl hbA hS (sc_in (d := 1) ex3 hj hL (by decide)) dL_law_531 ?_
  refine lv_aload_n hx hb dL_law_532 rfl (lv_at hl 0 rfl) ?_
  refine lv_iload_n hx hb dL_law_533 rfl (lv_at hl 3 rfl) ?_
  refine lv_iconst (v := 2) hx hb dL_law_534 (by decide) ?_
  refine lv_iadd hx hb dL_law_535 ?_
  refine va_sld hx hb hX hbl hbA hS (sc_in (d := 2) ex3 hj hL (by decide)) dL_law_536 ?_
  refine g_ci (g_runV (ci := 10) (o := 0) (As := [.int (xs (x3 + 1).toNatClampNeg), .int (xs (x3 + 2).toNatClampNeg)]) (rest := []) hx hb hml hown hts hK hN hT hS hW (c_X10_at hB h1) (hB 0 bb_0) kd_0 rfl (gw_V mw_809 mw_810 mw_811 mw_66 mw_812) hv_X10_at rfl rfl rfl (room_ok (by decide) (by decide)) hl.1 (Nat.le_of_ble_eq_true rfl) dL_law_537 rfl hcb) hS (fun H locs hW hS => ?_)
  refine lv_aload_n hx hb dL_law_540 rfl (lv_at hl 2 rfl) ?_
  refine lv_aload_n hx hb dL_law_541 rfl (lv_at hl 0 rfl) ?_
  refine lv_iload_n hx hb dL_law_542 rfl (lv_at hl 3 rfl) ?_
  refine lv_iconst (v := 1) hx hb dL_law_543 (by decide) ?_
  refine lv_iadd hx hb dL_law_544 ?_
  refine va_sld hx hb hX hbl hbA hS (sc_in (d := 1) ex3 hj hL (by decide)) dL_law_545 ?_
  refine lv_aload_n hx hb dL_law_546 rfl (lv_at hl 0 rfl) ?_
  refine lv_iload_n hx hb dL_law_547 rfl (lv_at hl 3 rfl) ?_
  refine lv_iconst (v := 2) hx hb dL_law_548 (by decide) ?_
  refine lv_iadd hx hb dL_law_549 ?_
  refine va_sld hx hb hX hbl hbA hS (sc_in (d := 2) ex3 hj hL (by decide)) dL_law_550 ?_
  refine g_ci (g_runV (ci := 11) (o := 200) (As := [.int (xs (x3 + 1).toNatClampNeg), .int (xs (x3 + 2).toNatClampNeg)]) (rest := [.int r]) hx hb hml hown hts hK hN hT hS hW (c_X11_at hB h2) (hB 200 bb_200) kd_200 rfl (gw_V mw_1216 mw_1217 mw_1218 mw_73 mw_1219) hv_X11_at rfl rfl rfl (room_ok (by decide) (by decide)) hl.1 (Nat.le_of_ble_eq_true rfl) dL_law_551 rfl hcb2) hS (fun H locs hW hS => ?_)
  refine lv_icmp_eq (tgt := 909) hx hb dL_law_554 (by decide) (fun _ => ?_) (fun c9 => absurd rfl c9)
  obtain ⟨y3, ey3⟩ : ∃ z : Int32, z = x3 + 6 := ⟨_, rfl⟩
  refine lv_iinc (v := y3) (lv' := [(3, .int y3), (0, .ref b), (1, .ref (ad 0)), (2, .ref (ad 200))]) hx hb dL_law_909 hl (k := 3) rfl (by rw [ey3]; rfl) (by decide) rfl (fun ls hl => ?_)
  refine lv_goto (tgt := 18) hx hb dL_law_912 (by decide) ?_
  exact ih y3 (by rw [ey3, ex3]; exact (nI_add (6 * j) 6)) _ _ hi2 _ _ _ _ _ _ (by omega) (by omega) hW hS (lv_sub hl [1, 2, 3, 0] rfl)
set_option maxHeartbeats 4000000 in
theorem law_c13 (C : MC p s m #[Value.ref b] meth c code 4 (some .boolean) RL g A) (hX : va_X b Lz xs s s.heap) (hbl : b < s.heap.size) (hbA : ¬ A b) (hL : Lz ≤ 3072) {Inv : List Nat → St → Prop} (hI : ∀ L S, Inv L S → Lk L ∧ Fx L S ∧ Cl L S ∧ 110 ∉ L ∧ 111 ∉ L ∧ 112 ∉ L) (hst : Stp_13 N Inv) {j : Nat} (ih : LH p l e s m below meth c b g A Inv (j + 1)) (hj : 6 * j + 6 ≤ Lz) {x3 : Int32} (ex3 : x3 = nI (6 * j)) {L : List Nat} {S : St} (hi : Inv L S) {ad : Nat → Nat} {H : Heap} {locs : List Loc} {ls : Array Slot} {cells slots : Nat} (hce : cells ≤ c9 + 5 * j) (hsl : slots ≤ s9 + 533 * j) (hW : GW g A ad L S H) (hS : va_S A s.heap H locs) (hl : lv_has ls 4 [(0, .ref b), (1, .ref (ad 0)), (2, .ref (ad 200)), (3, .int x3)]) : W p l e room_1 s m #[Value.ref b] below meth c H locs cells slots (lw_Z below #[Value.ref b] s) (F0 m 559 ls []) := by
  obtain ⟨hx, hb, hml, hown, hts, hr, hlocks, hK, hN, hT⟩ := id C
  obtain ⟨hB, hF, hC, h110, h111, h112⟩ := hI L S hi
  have hcb : cells + 1 ≤ room_1.cells ∧ slots + 4 ≤ room_1.slots := ⟨Nat.le_trans (m := 500000) (by unfold c9 at hce; omega) (by decide), Nat.le_trans (m := 7000000) (by unfold s9 at hsl; omega) (by decide)⟩
  have hcb2 : cells + 1 + 0 ≤ room_1.cells ∧ slots + 4 + 0 ≤ room_1.slots := hcb
  obtain ⟨r, S2, h1, h2, hi2⟩ := hst L S (xs (x3 + 1).toNatClampNeg) (xs (x3 + 2).toNatClampNeg) hi
  refine lv_aload_n hx hb dL_law_559 rfl (lv_at hl 1 rfl) ?_
  refine lv_aload_n hx hb dL_law_560 rfl (lv_at hl 0 rfl) ?_
  refine lv_iload_n hx hb dL_law_561 rfl (lv_at hl 3 rfl) ?_
  refine lv_iconst (v := 1) hx hb dL_law_562 (by decide) ?_
  refine lv_iadd hx hb dL_law_563 ?_
  refine va_sld hx hb hX hbl hbA hS (sc_in (d := 1) ex3 hj hL (by decide)) dL_law_564 ?_
  refine lv_aload_n hx hb dL_law_565 rfl (lv_at hl 0 rfl) ?_
  refine lv_iload_n hx hb dL_law_566 rfl (lv_at hl 3 rfl) ?_
  refine lv_iconst (v := 2) hx hb dL_law_567 (by decide) ?_
  refine lv_iadd hx hb dL_law_568 ?_
  refine va_sld hx hb hX hbl hbA hS (sc_in (d := 2) ex3 hj hL (by decide)) dL_law_569 ?_
  refine g_ciM (g_runV (ci := 10) (o := 0) (As := [.int (xs (x3 + 1).toNatClampNeg), .int (xs (x3 + 2).toNatClampNeg)]) (rest := []) hx hb hml hown hts hK hN hT hS hW (c_X10_gain hB hF hC h112 h1) (hB 0 bb_0) kd_0 rfl (gw_V mw_817 mw_818 mw_819 mw_66 mw_820) hv_X10_gain rfl rfl rfl (room_okc (by decide) (by decide)) hl.1 (Nat.le_of_ble_eq_true rfl) dL_law_570 rfl hcb) hS (fun H locs hW hS => ?_)
  refine lv_aload_n hx hb dL_law_573 rfl (lv_at hl 2 rfl) ?_
  refine lv_aload_n hx hb dL_law_574 rfl (lv_at hl 0 rfl) ?_
  refine lv_iload_n hx hb dL_law_575 rfl (lv_at hl 3 rfl) ?_
  refine lv_iconst (v := 1) hx hb dL_law_576 (by decide) ?_
  refine lv_iadd hx hb dL_law_577 ?_
  refine va_sld hx hb hX hbl hbA hS (sc_in (d := 1) ex3 hj hL (by decide)) dL_law_578 ?_
  refine lv_aload_n hx hb dL_law_579 rfl (lv_at hl 0 rfl) ?_
  refine lv_iload_n hx hb dL_law_580 rfl (lv_at hl 3 rfl) ?_
  refine lv_iconst (v := 2) hx hb dL_law_581 (by decide) ?_
  refine lv_iadd hx hb dL_law_582 ?_
  refine va_sld hx hb hX hbl hbA hS (sc_in (d := 2) ex3 hj hL (by decide)) dL_law_583 ?_
  refine g_ci (g_runV (ci := 11) (o := 200) (As := [.int (xs (x3 + 1).toNatClampNeg), .int (xs (x3 + 2).toNatClampNeg)]) (rest := [.int r]) hx hb hml hown hts hK hN hT hS hW (c_X11_gain hB h2) (hB 200 bb_200) kd_200 rfl (gw_V mw_1360 mw_1361 mw_1362 mw_73 mw_1363) hv_X11_gain rfl rfl rfl (room_ok (by decide) (by decide)) hl.1 (Nat.le_of_ble_eq_true rfl) dL_law_584 rfl hcb2) hS (fun H locs hW hS => ?_)
  refine lv_icmp_eq (tgt := 909) hx hb dL_law_587 (by decide) (fun _ => ?_) (fun c9 => absurd rfl c9)
  obtain ⟨y3, ey3⟩ : ∃ z : Int32, z = x3 + 6 := ⟨_, rfl⟩
  refine lv_iinc (v := y3) (lv' := [(3, .int y3), (0, .ref b), (1, .ref (ad 0)), (2, .ref (ad 200))]) hx hb dL_law_909 hl (k := 3) rfl (by rw [ey3]; rfl) (by decide) rfl (fun ls hl => ?_)
  refine lv_goto (tgt := 18) hx hb dL_law_912 (by decide) ?_
  exact ih y3 (by rw [ey3, ex3]; exact (nI_add (6 * j) 6)) _ _ hi2 _ _ _ _ _ _ (by omega) (by omega) hW hS (lv_sub hl [1, 2, 3, 0] rfl)
set_option maxHeartbeats 4000000 in
theorem law_c14 (C : MC p s m #[Value.ref b] meth c code 4 (some .boolean) RL g A) (hX : va_X b Lz xs s s.heap) (hbl : b < s.heap.size) (hbA : ¬ A b) (hL : Lz ≤ 3072) {Inv : List Nat → St → Prop} (hI : ∀ L S, Inv L S → Lk L ∧ Fx L S ∧ Cl L S ∧ 110 ∉ L ∧ 111 ∉ L ∧ 112 ∉ L) (hst : Stp_14 N Inv) {j : Nat} (ih : LH p l e s m below meth c b g A Inv (j + 1)) (hj : 6 * j + 6 ≤ Lz) {x3 : Int32} (ex3 : x3 = nI (6 * j)) {L : List Nat} {S : St} (hi : Inv L S) {ad : Nat → Nat} {H : Heap} {locs : List Loc} {ls : Array Slot} {cells slots : Nat} (hce : cells ≤ c9 + 5 * j) (hsl : slots ≤ s9 + 533 * j) (hW : GW g A ad L S H) (hS : va_S A s.heap H locs) (hl : lv_has ls 4 [(0, .ref b), (1, .ref (ad 0)), (2, .ref (ad 200)), (3, .int x3)]) : W p l e room_1 s m #[Value.ref b] below meth c H locs cells slots (lw_Z below #[Value.ref b] s) (F0 m 592 ls []) := by
  obtain ⟨hx, hb, hml, hown, hts, hr, hlocks, hK, hN, hT⟩ := id C
  obtain ⟨hB, hF, hC, h110, h111, h112⟩ := hI L S hi
  have hcb : cells + 1 ≤ room_1.cells ∧ slots + 4 ≤ room_1.slots := ⟨Nat.le_trans (m := 500000) (by unfold c9 at hce; omega) (by decide), Nat.le_trans (m := 7000000) (by unfold s9 at hsl; omega) (by decide)⟩
  have hcb2 : cells + 1 + 0 ≤ room_1.cells ∧ slots + 4 + 0 ≤ room_1.slots := hcb
  obtain ⟨r, S2, h1, h2, hi2⟩ := hst L S (xs (x3 + 1).toNatClampNeg) (xs (x3 + 2).toNatClampNeg) hi
  refine lv_aload_n hx hb dL_law_592 rfl (lv_at hl 1 rfl) ?_
  refine lv_aload_n hx hb dL_law_593 rfl (lv_at hl 0 rfl) ?_
  refine lv_iload_n hx hb dL_law_594 rfl (lv_at hl 3 rfl) ?_
  refine lv_iconst (v := 1) hx hb dL_law_595 (by decide) ?_
  refine lv_iadd hx hb dL_law_596 ?_
  refine va_sld hx hb hX hbl hbA hS (sc_in (d := 1) ex3 hj hL (by decide)) dL_law_597 ?_
  refine lv_aload_n hx hb dL_law_598 rfl (lv_at hl 0 rfl) ?_
  refine lv_iload_n hx hb dL_law_599 rfl (lv_at hl 3 rfl) ?_
  refine lv_iconst (v := 2) hx hb dL_law_600 (by decide) ?_
  refine lv_iadd hx hb dL_law_601 ?_
  refine va_sld hx hb hX hbl hbA hS (sc_in (d := 2) ex3 hj hL (by decide)) dL_law_602 ?_
  refine g_ciM (g_runV (ci := 10) (o := 0) (As := [.int (xs (x3 + 1).toNatClampNeg), .int (xs (x3 + 2).toNatClampNeg)]) (rest := []) hx hb hml hown hts hK hN hT hS hW (c_X10_length hB hF hC h112 h1) (hB 0 bb_0) kd_0 rfl (gw_V mw_864 mw_865 mw_866 mw_66 mw_867) hv_X10_length rfl rfl rfl (room_okc (by decide) (by decide)) hl.1 (Nat.le_of_ble_eq_true rfl) dL_law_603 rfl hcb) hS (fun H locs hW hS => ?_)
  refine lv_aload_n hx hb dL_law_606 rfl (lv_at hl 2 rfl) ?_
  refine lv_aload_n hx hb dL_law_607 rfl (lv_at hl 0 rfl) ?_
  refine lv_iload_n hx hb dL_law_608 rfl (lv_at hl 3 rfl) ?_
  refine lv_iconst (v := 1) hx hb dL_law_609 (by decide) ?_
  refine lv_iadd hx hb dL_law_610 ?_
  refine va_sld hx hb hX hbl hbA hS (sc_in (d := 1) ex3 hj hL (by decide)) dL_law_611 ?_
  refine lv_aload_n hx hb dL_law_612 rfl (lv_at hl 0 rfl) ?_
  refine lv_iload_n hx hb dL_law_613 rfl (lv_at hl 3 rfl) ?_
  refine lv_iconst (v := 2) hx hb dL_law_614 (by decide) ?_
  refine lv_iadd hx hb dL_law_615 ?_
  refine va_sld hx hb hX hbl hbA hS (sc_in (d := 2) ex3 hj hL (by decide)) dL_law_616 ?_
  refine g_ci (g_runV (ci := 11) (o := 200) (As := [.int (xs (x3 + 1).toNatClampNeg), .int (xs (x3 + 2).toNatClampNeg)]) (rest := [.int r]) hx hb hml hown hts hK hN hT hS hW (c_X11_length hB h2) (hB 200 bb_200) kd_200 rfl (gw_V mw_1372 mw_1373 mw_1374 mw_73 mw_1375) hv_X11_length rfl rfl rfl (room_ok (by decide) (by decide)) hl.1 (Nat.le_of_ble_eq_true rfl) dL_law_617 rfl hcb2) hS (fun H locs hW hS => ?_)
  refine lv_icmp_eq (tgt := 909) hx hb dL_law_620 (by decide) (fun _ => ?_) (fun c9 => absurd rfl c9)
  obtain ⟨y3, ey3⟩ : ∃ z : Int32, z = x3 + 6 := ⟨_, rfl⟩
  refine lv_iinc (v := y3) (lv' := [(3, .int y3), (0, .ref b), (1, .ref (ad 0)), (2, .ref (ad 200))]) hx hb dL_law_909 hl (k := 3) rfl (by rw [ey3]; rfl) (by decide) rfl (fun ls hl => ?_)
  refine lv_goto (tgt := 18) hx hb dL_law_912 (by decide) ?_
  exact ih y3 (by rw [ey3, ex3]; exact (nI_add (6 * j) 6)) _ _ hi2 _ _ _ _ _ _ (by omega) (by omega) hW hS (lv_sub hl [1, 2, 3, 0] rfl)
set_option maxHeartbeats 4000000 in
theorem law_c15 (C : MC p s m #[Value.ref b] meth c code 4 (some .boolean) RL g A) (hX : va_X b Lz xs s s.heap) (hbl : b < s.heap.size) (hbA : ¬ A b) (hL : Lz ≤ 3072) {Inv : List Nat → St → Prop} (hI : ∀ L S, Inv L S → Lk L ∧ Fx L S ∧ Cl L S ∧ 110 ∉ L ∧ 111 ∉ L ∧ 112 ∉ L) (hst : Stp_15 N Inv) {j : Nat} (ih : LH p l e s m below meth c b g A Inv (j + 1)) (hj : 6 * j + 6 ≤ Lz) {x3 : Int32} (ex3 : x3 = nI (6 * j)) {L : List Nat} {S : St} (hi : Inv L S) {ad : Nat → Nat} {H : Heap} {locs : List Loc} {ls : Array Slot} {cells slots : Nat} (hce : cells ≤ c9 + 5 * j) (hsl : slots ≤ s9 + 533 * j) (hW : GW g A ad L S H) (hS : va_S A s.heap H locs) (hl : lv_has ls 4 [(0, .ref b), (1, .ref (ad 0)), (2, .ref (ad 200)), (3, .int x3)]) : W p l e room_1 s m #[Value.ref b] below meth c H locs cells slots (lw_Z below #[Value.ref b] s) (F0 m 625 ls []) := by
  obtain ⟨hx, hb, hml, hown, hts, hr, hlocks, hK, hN, hT⟩ := id C
  obtain ⟨hB, hF, hC, h110, h111, h112⟩ := hI L S hi
  have hcb : cells + 1 ≤ room_1.cells ∧ slots + 4 ≤ room_1.slots := ⟨Nat.le_trans (m := 500000) (by unfold c9 at hce; omega) (by decide), Nat.le_trans (m := 7000000) (by unfold s9 at hsl; omega) (by decide)⟩
  have hcb2 : cells + 1 + 0 ≤ room_1.cells ∧ slots + 4 + 0 ≤ room_1.slots := hcb
  obtain ⟨r, S2, h1, h2, hi2⟩ := hst L S (xs (x3 + 1).toNatClampNeg) (xs (x3 + 2).toNatClampNeg) (xs (x3 + 3).toNatClampNeg) hi
  refine lv_aload_n hx hb dL_law_625 rfl (lv_at hl 1 rfl) ?_
  refine lv_aload_n hx hb dL_law_626 rfl (lv_at hl 0 rfl) ?_
  refine lv_iload_n hx hb dL_law_627 rfl (lv_at hl 3 rfl) ?_
  refine lv_iconst (v := 1) hx hb dL_law_628 (by decide) ?_
  refine lv_iadd hx hb dL_law_629 ?_
  refine va_sld hx hb hX hbl hbA hS (sc_in (d := 1) ex3 hj hL (by decide)) dL_law_630 ?_
  refine lv_aload_n hx hb dL_law_631 rfl (lv_at hl 0 rfl) ?_
  refine lv_iload_n hx hb dL_law_632 rfl (lv_at hl 3 rfl) ?_
  refine lv_iconst (v := 2) hx hb dL_law_633 (by decide) ?_
  refine lv_iadd hx hb dL_law_634 ?_
  refine va_sld hx hb hX hbl hbA hS (sc_in (d := 2) ex3 hj hL (by decide)) dL_law_635 ?_
  refine lv_aload_n hx hb dL_law_636 rfl (lv_at hl 0 rfl) ?_
  refine lv_iload_n hx hb dL_law_637 rfl (lv_at hl 3 rfl) ?_
  refine lv_iconst (v := 3) hx hb dL_law_638 (by decide) ?_
  refine lv_iadd hx hb dL_law_639 ?_
  refine va_sld hx hb hX hbl hbA hS (sc_in (d := 3) ex3 hj hL (by decide)) dL_law_640 ?_
  refine g_ciM (g_runV (ci := 10) (o := 0) (As := [.int (xs (x3 + 1).toNatClampNeg), .int (xs (x3 + 2).toNatClampNeg), .int (xs (x3 + 3).toNatClampNeg)]) (rest := []) hx hb hml hown hts hK hN hT hS hW (c_X10_act hB hF hC h112 h1) (hB 0 bb_0) kd_0 rfl (gw_V mw_868 mw_869 mw_870 mw_66 mw_871) hv_X10_act rfl rfl rfl (room_okc (by decide) (by decide)) hl.1 (Nat.le_of_ble_eq_true rfl) dL_law_641 rfl hcb) hS (fun H locs hW hS => ?_)
  refine lv_aload_n hx hb dL_law_644 rfl (lv_at hl 2 rfl) ?_
  refine lv_aload_n hx hb dL_law_645 rfl (lv_at hl 0 rfl) ?_
  refine lv_iload_n hx hb dL_law_646 rfl (lv_at hl 3 rfl) ?_
  refine lv_iconst (v := 1) hx hb dL_law_647 (by decide) ?_
  refine lv_iadd hx hb dL_law_648 ?_
  refine va_sld hx hb hX hbl hbA hS (sc_in (d := 1) ex3 hj hL (by decide)) dL_law_649 ?_
  refine lv_aload_n hx hb dL_law_650 rfl (lv_at hl 0 rfl) ?_
  refine lv_iload_n hx hb dL_law_651 rfl (lv_at hl 3 rfl) ?_
  refine lv_iconst (v := 2) hx hb dL_law_652 (by decide) ?_
  refine lv_iadd hx hb dL_law_653 ?_
  refine va_sld hx hb hX hbl hbA hS (sc_in (d := 2) ex3 hj hL (by decide)) dL_law_654 ?_
  refine lv_aload_n hx hb dL_law_655 rfl (lv_at hl 0 rfl) ?_
  refine lv_iload_n hx hb dL_law_656 rfl (lv_at hl 3 rfl) ?_
  refine lv_iconst (v := 3) hx hb dL_law_657 (by decide) ?_
  refine lv_iadd hx hb dL_law_658 ?_
  refine va_sld hx hb hX hbl hbA hS (sc_in (d := 3) ex3 hj hL (by decide)) dL_law_659 ?_
  refine g_ci (g_runV (ci := 11) (o := 200) (As := [.int (xs (x3 + 1).toNatClampNeg), .int (xs (x3 + 2).toNatClampNeg), .int (xs (x3 + 3).toNatClampNeg)]) (rest := [.int r]) hx hb hml hown hts hK hN hT hS hW (c_X11_act hB h2) (hB 200 bb_200) kd_200 rfl (gw_V mw_1376 mw_1377 mw_1378 mw_73 mw_1379) hv_X11_act rfl rfl rfl (room_ok (by decide) (by decide)) hl.1 (Nat.le_of_ble_eq_true rfl) dL_law_660 rfl hcb2) hS (fun H locs hW hS => ?_)
  refine lv_icmp_eq (tgt := 909) hx hb dL_law_663 (by decide) (fun _ => ?_) (fun c9 => absurd rfl c9)
  obtain ⟨y3, ey3⟩ : ∃ z : Int32, z = x3 + 6 := ⟨_, rfl⟩
  refine lv_iinc (v := y3) (lv' := [(3, .int y3), (0, .ref b), (1, .ref (ad 0)), (2, .ref (ad 200))]) hx hb dL_law_909 hl (k := 3) rfl (by rw [ey3]; rfl) (by decide) rfl (fun ls hl => ?_)
  refine lv_goto (tgt := 18) hx hb dL_law_912 (by decide) ?_
  exact ih y3 (by rw [ey3, ex3]; exact (nI_add (6 * j) 6)) _ _ hi2 _ _ _ _ _ _ (by omega) (by omega) hW hS (lv_sub hl [1, 2, 3, 0] rfl)
set_option maxHeartbeats 4000000 in
theorem law_c16 (C : MC p s m #[Value.ref b] meth c code 4 (some .boolean) RL g A) (hX : va_X b Lz xs s s.heap) (hbl : b < s.heap.size) (hbA : ¬ A b) (hL : Lz ≤ 3072) {Inv : List Nat → St → Prop} (hI : ∀ L S, Inv L S → Lk L ∧ Fx L S ∧ Cl L S ∧ 110 ∉ L ∧ 111 ∉ L ∧ 112 ∉ L) (hst : Stp_16 N Inv) {j : Nat} (ih : LH p l e s m below meth c b g A Inv (j + 1)) (hj : 6 * j + 6 ≤ Lz) {x3 : Int32} (ex3 : x3 = nI (6 * j)) {L : List Nat} {S : St} (hi : Inv L S) {ad : Nat → Nat} {H : Heap} {locs : List Loc} {ls : Array Slot} {cells slots : Nat} (hce : cells ≤ c9 + 5 * j) (hsl : slots ≤ s9 + 533 * j) (hW : GW g A ad L S H) (hS : va_S A s.heap H locs) (hl : lv_has ls 4 [(0, .ref b), (1, .ref (ad 0)), (2, .ref (ad 200)), (3, .int x3)]) : W p l e room_1 s m #[Value.ref b] below meth c H locs cells slots (lw_Z below #[Value.ref b] s) (F0 m 668 ls []) := by
  obtain ⟨hx, hb, hml, hown, hts, hr, hlocks, hK, hN, hT⟩ := id C
  obtain ⟨hB, hF, hC, h110, h111, h112⟩ := hI L S hi
  have hcb : cells + 0 ≤ room_1.cells ∧ slots + 0 ≤ room_1.slots := ⟨Nat.le_trans (m := 500000) (by unfold c9 at hce; omega) (by decide), Nat.le_trans (m := 7000000) (by unfold s9 at hsl; omega) (by decide)⟩
  have hcb2 : cells + 0 + 0 ≤ room_1.cells ∧ slots + 0 + 0 ≤ room_1.slots := hcb
  obtain ⟨r, S1, S2, h1, h2, hi2⟩ := hst L S (xs (x3 + 1).toNatClampNeg) (xs (x3 + 2).toNatClampNeg) (xs (x3 + 3).toNatClampNeg) hi
  refine lv_aload_n hx hb dL_law_668 rfl (lv_at hl 1 rfl) ?_
  refine lv_aload_n hx hb dL_law_669 rfl (lv_at hl 0 rfl) ?_
  refine lv_iload_n hx hb dL_law_670 rfl (lv_at hl 3 rfl) ?_
  refine lv_iconst (v := 1) hx hb dL_law_671 (by decide) ?_
  refine lv_iadd hx hb dL_law_672 ?_
  refine va_sld hx hb hX hbl hbA hS (sc_in (d := 1) ex3 hj hL (by decide)) dL_law_673 ?_
  refine lv_aload_n hx hb dL_law_674 rfl (lv_at hl 0 rfl) ?_
  refine lv_iload_n hx hb dL_law_675 rfl (lv_at hl 3 rfl) ?_
  refine lv_iconst (v := 2) hx hb dL_law_676 (by decide) ?_
  refine lv_iadd hx hb dL_law_677 ?_
  refine va_sld hx hb hX hbl hbA hS (sc_in (d := 2) ex3 hj hL (by decide)) dL_law_678 ?_
  refine lv_aload_n hx hb dL_law_679 rfl (lv_at hl 0 rfl) ?_
  refine lv_iload_n hx hb dL_law_680 rfl (lv_at hl 3 rfl) ?_
  refine lv_iconst (v := 3) hx hb dL_law_681 (by decide) ?_
  refine lv_iadd hx hb dL_law_682 ?_
  refine va_sld hx hb hX hbl hbA hS (sc_in (d := 3) ex3 hj hL (by decide)) dL_law_683 ?_
  refine g_ci (g_runV (ci := 10) (o := 0) (As := [.int (xs (x3 + 1).toNatClampNeg), .int (xs (x3 + 2).toNatClampNeg), .int (xs (x3 + 3).toNatClampNeg)]) (rest := []) hx hb hml hown hts hK hN hT hS hW (c_X10_bill hB h1) (hB 0 bb_0) kd_0 rfl (gw_V mw_876 mw_877 mw_878 mw_66 mw_879) hv_X10_bill rfl rfl rfl (room_ok (by decide) (by decide)) hl.1 (Nat.le_of_ble_eq_true rfl) dL_law_684 rfl hcb) hS (fun H locs hW hS => ?_)
  refine lv_aload_n hx hb dL_law_687 rfl (lv_at hl 2 rfl) ?_
  refine lv_aload_n hx hb dL_law_688 rfl (lv_at hl 0 rfl) ?_
  refine lv_iload_n hx hb dL_law_689 rfl (lv_at hl 3 rfl) ?_
  refine lv_iconst (v := 1) hx hb dL_law_690 (by decide) ?_
  refine lv_iadd hx hb dL_law_691 ?_
  refine va_sld hx hb hX hbl hbA hS (sc_in (d := 1) ex3 hj hL (by decide)) dL_law_692 ?_
  refine lv_aload_n hx hb dL_law_693 rfl (lv_at hl 0 rfl) ?_
  refine lv_iload_n hx hb dL_law_694 rfl (lv_at hl 3 rfl) ?_
  refine lv_iconst (v := 2) hx hb dL_law_695 (by decide) ?_
  refine lv_iadd hx hb dL_law_696 ?_
  refine va_sld hx hb hX hbl hbA hS (sc_in (d := 2) ex3 hj hL (by decide)) dL_law_697 ?_
  refine lv_aload_n hx hb dL_law_698 rfl (lv_at hl 0 rfl) ?_
  refine lv_iload_n hx hb dL_law_699 rfl (lv_at hl 3 rfl) ?_
  refine lv_iconst (v := 3) hx hb dL_law_700 (by decide) ?_
  refine lv_iadd hx hb dL_law_701 ?_
  refine va_sld hx hb hX hbl hbA hS (sc_in (d := 3) ex3 hj hL (by decide)) dL_law_702 ?_
  refine g_ci (g_runV (ci := 11) (o := 200) (As := [.int (xs (x3 + 1).toNatClampNeg), .int (xs (x3 + 2).toNatClampNeg), .int (xs (x3 + 3).toNatClampNeg)]) (rest := [.int r]) hx hb hml hown hts hK hN hT hS hW (c_X11_bill hB h2) (hB 200 bb_200) kd_200 rfl (gw_V mw_1380 mw_1381 mw_1382 mw_73 mw_1383) hv_X11_bill rfl rfl rfl (room_ok (by decide) (by decide)) hl.1 (Nat.le_of_ble_eq_true rfl) dL_law_703 rfl hcb2) hS (fun H locs hW hS => ?_)
  refine lv_icmp_eq (tgt := 909) hx hb dL_law_706 (by decide) (fun _ => ?_) (fun c9 => absurd rfl c9)
  obtain ⟨y3, ey3⟩ : ∃ z : Int32, z = x3 + 6 := ⟨_, rfl⟩
  refine lv_iinc (v := y3) (lv' := [(3, .int y3), (0, .ref b), (1, .ref (ad 0)), (2, .ref (ad 200))]) hx hb dL_law_909 hl (k := 3) rfl (by rw [ey3]; rfl) (by decide) rfl (fun ls hl => ?_)
  refine lv_goto (tgt := 18) hx hb dL_law_912 (by decide) ?_
  exact ih y3 (by rw [ey3, ex3]; exact (nI_add (6 * j) 6)) _ _ hi2 _ _ _ _ _ _ (by omega) (by omega) hW hS (lv_sub hl [1, 2, 3, 0] rfl)
set_option maxHeartbeats 4000000 in
theorem law_c17 (C : MC p s m #[Value.ref b] meth c code 4 (some .boolean) RL g A) (hX : va_X b Lz xs s s.heap) (hbl : b < s.heap.size) (hbA : ¬ A b) (hL : Lz ≤ 3072) {Inv : List Nat → St → Prop} (hI : ∀ L S, Inv L S → Lk L ∧ Fx L S ∧ Cl L S ∧ 110 ∉ L ∧ 111 ∉ L ∧ 112 ∉ L) (hst : Stp_17 N Inv) {j : Nat} (ih : LH p l e s m below meth c b g A Inv (j + 1)) (hj : 6 * j + 6 ≤ Lz) {x3 : Int32} (ex3 : x3 = nI (6 * j)) {L : List Nat} {S : St} (hi : Inv L S) {ad : Nat → Nat} {H : Heap} {locs : List Loc} {ls : Array Slot} {cells slots : Nat} (hce : cells ≤ c9 + 5 * j) (hsl : slots ≤ s9 + 533 * j) (hW : GW g A ad L S H) (hS : va_S A s.heap H locs) (hl : lv_has ls 4 [(0, .ref b), (1, .ref (ad 0)), (2, .ref (ad 200)), (3, .int x3)]) : W p l e room_1 s m #[Value.ref b] below meth c H locs cells slots (lw_Z below #[Value.ref b] s) (F0 m 711 ls []) := by
  obtain ⟨hx, hb, hml, hown, hts, hr, hlocks, hK, hN, hT⟩ := id C
  obtain ⟨hB, hF, hC, h110, h111, h112⟩ := hI L S hi
  have hcb : cells + 0 ≤ room_1.cells ∧ slots + 0 ≤ room_1.slots := ⟨Nat.le_trans (m := 500000) (by unfold c9 at hce; omega) (by decide), Nat.le_trans (m := 7000000) (by unfold s9 at hsl; omega) (by decide)⟩
  have hcb2 : cells + 0 + 0 ≤ room_1.cells ∧ slots + 0 + 0 ≤ room_1.slots := hcb
  obtain ⟨r, S1, S2, h1, h2, hi2⟩ := hst L S (xs (x3 + 1).toNatClampNeg) (xs (x3 + 2).toNatClampNeg) (xs (x3 + 3).toNatClampNeg) (xs (x3 + 4).toNatClampNeg) hi
  refine lv_aload_n hx hb dL_law_711 rfl (lv_at hl 1 rfl) ?_
  refine lv_aload_n hx hb dL_law_712 rfl (lv_at hl 0 rfl) ?_
  refine lv_iload_n hx hb dL_law_713 rfl (lv_at hl 3 rfl) ?_
  refine lv_iconst (v := 1) hx hb dL_law_714 (by decide) ?_
  refine lv_iadd hx hb dL_law_715 ?_
  refine va_sld hx hb hX hbl hbA hS (sc_in (d := 1) ex3 hj hL (by decide)) dL_law_716 ?_
  refine lv_aload_n hx hb dL_law_717 rfl (lv_at hl 0 rfl) ?_
  refine lv_iload_n hx hb dL_law_718 rfl (lv_at hl 3 rfl) ?_
  refine lv_iconst (v := 2) hx hb dL_law_719 (by decide) ?_
  refine lv_iadd hx hb dL_law_720 ?_
  refine va_sld hx hb hX hbl hbA hS (sc_in (d := 2) ex3 hj hL (by decide)) dL_law_721 ?_
  refine lv_aload_n hx hb dL_law_722 rfl (lv_at hl 0 rfl) ?_
  refine lv_iload_n hx hb dL_law_723 rfl (lv_at hl 3 rfl) ?_
  refine lv_iconst (v := 3) hx hb dL_law_724 (by decide) ?_
  refine lv_iadd hx hb dL_law_725 ?_
  refine va_sld hx hb hX hbl hbA hS (sc_in (d := 3) ex3 hj hL (by decide)) dL_law_726 ?_
  refine lv_aload_n hx hb dL_law_727 rfl (lv_at hl 0 rfl) ?_
  refine lv_iload_n hx hb dL_law_728 rfl (lv_at hl 3 rfl) ?_
  refine lv_iconst (v := 4) hx hb dL_law_729 (by decide) ?_
  refine lv_iadd hx hb dL_law_730 ?_
  refine va_sld hx hb hX hbl hbA hS (sc_in (d := 4) ex3 hj hL (by decide)) dL_law_731 ?_
  refine g_ci (g_runV (ci := 10) (o := 0) (As := [.int (xs (x3 + 1).toNatClampNeg), .int (xs (x3 + 2).toNatClampNeg), .int (xs (x3 + 3).toNatClampNeg), .int (xs (x3 + 4).toNatClampNeg)]) (rest := []) hx hb hml hown hts hK hN hT hS hW (c_X10_pass hB h1) (hB 0 bb_0) kd_0 rfl (gw_V mw_891 mw_892 mw_893 mw_66 mw_894) hv_X10_pass rfl rfl rfl (room_ok (by decide) (by decide)) hl.1 (Nat.le_of_ble_eq_true rfl) dL_law_732 rfl hcb) hS (fun H locs hW hS => ?_)
  refine lv_aload_n hx hb dL_law_735 rfl (lv_at hl 2 rfl) ?_
  refine lv_aload_n hx hb dL_law_736 rfl (lv_at hl 0 rfl) ?_
  refine lv_iload_n hx hb dL_law_737 rfl (lv_at hl 3 rfl) ?_
  refine lv_iconst (v := 1) hx hb dL_law_738 (by decide) ?_
  refine lv_iadd hx hb dL_law_739 ?_
  refine va_sld hx hb hX hbl hbA hS (sc_in (d := 1) ex3 hj hL (by decide)) dL_law_740 ?_
  refine lv_aload_n hx hb dL_law_741 rfl (lv_at hl 0 rfl) ?_
  refine lv_iload_n hx hb dL_law_742 rfl (lv_at hl 3 rfl) ?_
  refine lv_iconst (v := 2) hx hb dL_law_743 (by decide) ?_
  refine lv_iadd hx hb dL_law_744 ?_
  refine va_sld hx hb hX hbl hbA hS (sc_in (d := 2) ex3 hj hL (by decide)) dL_law_745 ?_
  refine lv_aload_n hx hb dL_law_746 rfl (lv_at hl 0 rfl) ?_
  refine lv_iload_n hx hb dL_law_747 rfl (lv_at hl 3 rfl) ?_
  refine lv_iconst (v := 3) hx hb dL_law_748 (by decide) ?_
  refine lv_iadd hx hb dL_law_749 ?_
  refine va_sld hx hb hX hbl hbA hS (sc_in (d := 3) ex3 hj hL (by decide)) dL_law_750 ?_
  refine lv_aload_n hx hb dL_law_751 rfl (lv_at hl 0 rfl) ?_
  refine lv_iload_n hx hb dL_law_752 rfl (lv_at hl 3 rfl) ?_
  refine lv_iconst (v := 4) hx hb dL_law_753 (by decide) ?_
  refine lv_iadd hx hb dL_law_754 ?_
  refine va_sld hx hb hX hbl hbA hS (sc_in (d := 4) ex3 hj hL (by decide)) dL_law_755 ?_
  refine g_ci (g_runV (ci := 11) (o := 200) (As := [.int (xs (x3 + 1).toNatClampNeg), .int (xs (x3 + 2).toNatClampNeg), .int (xs (x3 + 3).toNatClampNeg), .int (xs (x3 + 4).toNatClampNeg)]) (rest := [.int r]) hx hb hml hown hts hK hN hT hS hW (c_X11_pass hB h2) (hB 200 bb_200) kd_200 rfl (gw_V mw_1388 mw_1389 mw_1390 mw_73 mw_1391) hv_X11_pass rfl rfl rfl (room_ok (by decide) (by decide)) hl.1 (Nat.le_of_ble_eq_true rfl) dL_law_756 rfl hcb2) hS (fun H locs hW hS => ?_)
  refine lv_icmp_eq (tgt := 909) hx hb dL_law_759 (by decide) (fun _ => ?_) (fun c9 => absurd rfl c9)
  obtain ⟨y3, ey3⟩ : ∃ z : Int32, z = x3 + 6 := ⟨_, rfl⟩
  refine lv_iinc (v := y3) (lv' := [(3, .int y3), (0, .ref b), (1, .ref (ad 0)), (2, .ref (ad 200))]) hx hb dL_law_909 hl (k := 3) rfl (by rw [ey3]; rfl) (by decide) rfl (fun ls hl => ?_)
  refine lv_goto (tgt := 18) hx hb dL_law_912 (by decide) ?_
  exact ih y3 (by rw [ey3, ex3]; exact (nI_add (6 * j) 6)) _ _ hi2 _ _ _ _ _ _ (by omega) (by omega) hW hS (lv_sub hl [1, 2, 3, 0] rfl)
set_option maxHeartbeats 4000000 in
theorem law_c18 (C : MC p s m #[Value.ref b] meth c code 4 (some .boolean) RL g A) (hX : va_X b Lz xs s s.heap) (hbl : b < s.heap.size) (hbA : ¬ A b) (hL : Lz ≤ 3072) {Inv : List Nat → St → Prop} (hI : ∀ L S, Inv L S → Lk L ∧ Fx L S ∧ Cl L S ∧ 110 ∉ L ∧ 111 ∉ L ∧ 112 ∉ L) (hst : Stp_18 N Inv) {j : Nat} (ih : LH p l e s m below meth c b g A Inv (j + 1)) (hj : 6 * j + 6 ≤ Lz) {x3 : Int32} (ex3 : x3 = nI (6 * j)) {L : List Nat} {S : St} (hi : Inv L S) {ad : Nat → Nat} {H : Heap} {locs : List Loc} {ls : Array Slot} {cells slots : Nat} (hce : cells ≤ c9 + 5 * j) (hsl : slots ≤ s9 + 533 * j) (hW : GW g A ad L S H) (hS : va_S A s.heap H locs) (hl : lv_has ls 4 [(0, .ref b), (1, .ref (ad 0)), (2, .ref (ad 200)), (3, .int x3)]) : W p l e room_1 s m #[Value.ref b] below meth c H locs cells slots (lw_Z below #[Value.ref b] s) (F0 m 764 ls []) := by
  obtain ⟨hx, hb, hml, hown, hts, hr, hlocks, hK, hN, hT⟩ := id C
  obtain ⟨hB, hF, hC, h110, h111, h112⟩ := hI L S hi
  have hcb : cells + 0 ≤ room_1.cells ∧ slots + 0 ≤ room_1.slots := ⟨Nat.le_trans (m := 500000) (by unfold c9 at hce; omega) (by decide), Nat.le_trans (m := 7000000) (by unfold s9 at hsl; omega) (by decide)⟩
  have hcb2 : cells + 0 + 0 ≤ room_1.cells ∧ slots + 0 + 0 ≤ room_1.slots := hcb
  obtain ⟨r, S1, S2, h1, h2, hi2⟩ := hst L S (xs (x3 + 1).toNatClampNeg) hi
  refine lv_aload_n hx hb dL_law_764 rfl (lv_at hl 1 rfl) ?_
  refine lv_aload_n hx hb dL_law_765 rfl (lv_at hl 0 rfl) ?_
  refine lv_iload_n hx hb dL_law_766 rfl (lv_at hl 3 rfl) ?_
  refine lv_iconst (v := 1) hx hb dL_law_767 (by decide) ?_
  refine lv_iadd hx hb dL_law_768 ?_
  refine va_sld hx hb hX hbl hbA hS (sc_in (d := 1) ex3 hj hL (by decide)) dL_law_769 ?_
  refine g_cz (g_runV (ci := 10) (o := 0) (As := [.int (xs (x3 + 1).toNatClampNeg)]) (rest := []) hx hb hml hown hts hK hN hT hS hW (c_X10_untell hB h1) (hB 0 bb_0) kd_0 rfl (gw_V mw_908 mw_909 mw_910 mw_66 mw_911) hv_X10_untell rfl rfl rfl (room_ok (by decide) (by decide)) hl.1 (Nat.le_of_ble_eq_true rfl) dL_law_770 rfl hcb) hS (fun _ H locs hW hS => ?_)
  refine lv_aload_n hx hb dL_law_773 rfl (lv_at hl 2 rfl) ?_
  refine lv_aload_n hx hb dL_law_774 rfl (lv_at hl 0 rfl) ?_
  refine lv_iload_n hx hb dL_law_775 rfl (lv_at hl 3 rfl) ?_
  refine lv_iconst (v := 1) hx hb dL_law_776 (by decide) ?_
  refine lv_iadd hx hb dL_law_777 ?_
  refine va_sld hx hb hX hbl hbA hS (sc_in (d := 1) ex3 hj hL (by decide)) dL_law_778 ?_
  refine g_cz (g_runV (ci := 11) (o := 200) (As := [.int (xs (x3 + 1).toNatClampNeg)]) (rest := [.int r]) hx hb hml hown hts hK hN hT hS hW (c_X11_untell hB h2) (hB 200 bb_200) kd_200 rfl (gw_V mw_1396 mw_1397 mw_1398 mw_73 mw_1399) hv_X11_untell rfl rfl rfl (room_ok (by decide) (by decide)) hl.1 (Nat.le_of_ble_eq_true rfl) dL_law_779 rfl hcb2) hS (fun _ H locs hW hS => ?_)
  refine lv_icmp_eq (tgt := 909) hx hb dL_law_782 (by decide) (fun _ => ?_) (fun c9 => absurd rfl c9)
  obtain ⟨y3, ey3⟩ : ∃ z : Int32, z = x3 + 6 := ⟨_, rfl⟩
  refine lv_iinc (v := y3) (lv' := [(3, .int y3), (0, .ref b), (1, .ref (ad 0)), (2, .ref (ad 200))]) hx hb dL_law_909 hl (k := 3) rfl (by rw [ey3]; rfl) (by decide) rfl (fun ls hl => ?_)
  refine lv_goto (tgt := 18) hx hb dL_law_912 (by decide) ?_
  exact ih y3 (by rw [ey3, ex3]; exact (nI_add (6 * j) 6)) _ _ hi2 _ _ _ _ _ _ (by omega) (by omega) hW hS (lv_sub hl [1, 2, 3, 0] rfl)
set_option maxHeartbeats 4000000 in
theorem law_c19 (C : MC p s m #[Value.ref b] meth c code 4 (some .boolean) RL g A) (hX : va_X b Lz xs s s.heap) (hbl : b < s.heap.size) (hbA : ¬ A b) (hL : Lz ≤ 3072) {Inv : List Nat → St → Prop} (hI : ∀ L S, Inv L S → Lk L ∧ Fx L S ∧ Cl L S ∧ 110 ∉ L ∧ 111 ∉ L ∧ 112 ∉ L) (hst : Stp_19 N Inv) {j : Nat} (ih : LH p l e s m below meth c b g A Inv (j + 1)) (hj : 6 * j + 6 ≤ Lz) {x3 : Int32} (ex3 : x3 = nI (6 * j)) {L : List Nat} {S : St} (hi : Inv L S) {ad : Nat → Nat} {H : Heap} {locs : List Loc} {ls : Array Slot} {cells slots : Nat} (hce : cells ≤ c9 + 5 * j) (hsl : slots ≤ s9 + 533 * j) (hW : GW g A ad L S H) (hS : va_S A s.heap H locs) (hl : lv_has ls 4 [(0, .ref b), (1, .ref (ad 0)), (2, .ref (ad 200)), (3, .int x3)]) : W p l e room_1 s m #[Value.ref b] below meth c H locs cells slots (lw_Z below #[Value.ref b] s) (F0 m 787 ls []) := by
  obtain ⟨hx, hb, hml, hown, hts, hr, hlocks, hK, hN, hT⟩ := id C
  obtain ⟨hB, hF, hC, h110, h111, h112⟩ := hI L S hi
  have hcb : cells + 0 ≤ room_1.cells ∧ slots + 0 ≤ room_1.slots := ⟨Nat.le_trans (m := 500000) (by unfold c9 at hce; omega) (by decide), Nat.le_trans (m := 7000000) (by unfold s9 at hsl; omega) (by decide)⟩
  have hcb2 : cells + 0 + 0 ≤ room_1.cells ∧ slots + 0 + 0 ≤ room_1.slots := hcb
  obtain ⟨r, h1, h2, hi2⟩ := hst L S (xs (x3 + 1).toNatClampNeg) (xs (x3 + 2).toNatClampNeg) (xs (x3 + 3).toNatClampNeg) hi
  refine lv_aload_n hx hb dL_law_787 rfl (lv_at hl 1 rfl) ?_
  refine lv_aload_n hx hb dL_law_788 rfl (lv_at hl 0 rfl) ?_
  refine lv_iload_n hx hb dL_law_789 rfl (lv_at hl 3 rfl) ?_
  refine lv_iconst (v := 1) hx hb dL_law_790 (by decide) ?_
  refine lv_iadd hx hb dL_law_791 ?_
  refine va_sld hx hb hX hbl hbA hS (sc_in (d := 1) ex3 hj hL (by decide)) dL_law_792 ?_
  refine lv_aload_n hx hb dL_law_793 rfl (lv_at hl 0 rfl) ?_
  refine lv_iload_n hx hb dL_law_794 rfl (lv_at hl 3 rfl) ?_
  refine lv_iconst (v := 2) hx hb dL_law_795 (by decide) ?_
  refine lv_iadd hx hb dL_law_796 ?_
  refine va_sld hx hb hX hbl hbA hS (sc_in (d := 2) ex3 hj hL (by decide)) dL_law_797 ?_
  refine lv_aload_n hx hb dL_law_798 rfl (lv_at hl 0 rfl) ?_
  refine lv_iload_n hx hb dL_law_799 rfl (lv_at hl 3 rfl) ?_
  refine lv_iconst (v := 3) hx hb dL_law_800 (by decide) ?_
  refine lv_iadd hx hb dL_law_801 ?_
  refine va_sld hx hb hX hbl hbA hS (sc_in (d := 3) ex3 hj hL (by decide)) dL_law_802 ?_
  refine g_ci (g_runV (ci := 10) (o := 0) (As := [.int (xs (x3 + 1).toNatClampNeg), .int (xs (x3 + 2).toNatClampNeg), .int (xs (x3 + 3).toNatClampNeg)]) (rest := []) hx hb hml hown hts hK hN hT hS hW (c_X10_holder hB h1) (hB 0 bb_0) kd_0 rfl (gw_V mw_916 mw_917 mw_918 mw_66 mw_919) hv_X10_holder rfl rfl rfl (room_ok (by decide) (by decide)) hl.1 (Nat.le_of_ble_eq_true rfl) dL_law_803 rfl hcb) hS (fun H locs hW hS => ?_)
  refine lv_aload_n hx hb dL_law_806 rfl (lv_at hl 2 rfl) ?_
  refine lv_aload_n hx hb dL_law_807 rfl (lv_at hl 0 rfl) ?_
  refine lv_iload_n hx hb dL_law_808 rfl (lv_at hl 3 rfl) ?_
  refine lv_iconst (v := 1) hx hb dL_law_809 (by decide) ?_
  refine lv_iadd hx hb dL_law_810 ?_
  refine va_sld hx hb hX hbl hbA hS (sc_in (d := 1) ex3 hj hL (by decide)) dL_law_811 ?_
  refine lv_aload_n hx hb dL_law_812 rfl (lv_at hl 0 rfl) ?_
  refine lv_iload_n hx hb dL_law_813 rfl (lv_at hl 3 rfl) ?_
  refine lv_iconst (v := 2) hx hb dL_law_814 (by decide) ?_
  refine lv_iadd hx hb dL_law_815 ?_
  refine va_sld hx hb hX hbl hbA hS (sc_in (d := 2) ex3 hj hL (by decide)) dL_law_816 ?_
  refine lv_aload_n hx hb dL_law_817 rfl (lv_at hl 0 rfl) ?_
  refine lv_iload_n hx hb dL_law_818 rfl (lv_at hl 3 rfl) ?_
  refine lv_iconst (v := 3) hx hb dL_law_819 (by decide) ?_
  refine lv_iadd hx hb dL_law_820 ?_
  refine va_sld hx hb hX hbl hbA hS (sc_in (d := 3) ex3 hj hL (by decide)) dL_law_821 ?_
  refine g_ci (g_runV (ci := 11) (o := 200) (As := [.int (xs (x3 + 1).toNatClampNeg), .int (xs (x3 + 2).toNatClampNeg), .int (xs (x3 + 3).toNatClampNeg)]) (rest := [.int r]) hx hb hml hown hts hK hN hT hS hW (c_X11_holder hB h2) (hB 200 bb_200) kd_200 rfl (gw_V mw_1400 mw_1401 mw_1402 mw_73 mw_1403) hv_X11_holder rfl rfl rfl (room_ok (by decide) (by decide)) hl.1 (Nat.le_of_ble_eq_true rfl) dL_law_822 rfl hcb2) hS (fun H locs hW hS => ?_)
  refine lv_icmp_eq (tgt := 909) hx hb dL_law_825 (by decide) (fun _ => ?_) (fun c9 => absurd rfl c9)
  obtain ⟨y3, ey3⟩ : ∃ z : Int32, z = x3 + 6 := ⟨_, rfl⟩
  refine lv_iinc (v := y3) (lv' := [(3, .int y3), (0, .ref b), (1, .ref (ad 0)), (2, .ref (ad 200))]) hx hb dL_law_909 hl (k := 3) rfl (by rw [ey3]; rfl) (by decide) rfl (fun ls hl => ?_)
  refine lv_goto (tgt := 18) hx hb dL_law_912 (by decide) ?_
  exact ih y3 (by rw [ey3, ex3]; exact (nI_add (6 * j) 6)) _ _ hi2 _ _ _ _ _ _ (by omega) (by omega) hW hS (lv_sub hl [1, 2, 3, 0] rfl)
set_option maxHeartbeats 4000000 in
theorem law_c20 (C : MC p s m #[Value.ref b] meth c code 4 (some .boolean) RL g A) (hX : va_X b Lz xs s s.heap) (hbl : b < s.heap.size) (hbA : ¬ A b) (hL : Lz ≤ 3072) {Inv : List Nat → St → Prop} (hI : ∀ L S, Inv L S → Lk L ∧ Fx L S ∧ Cl L S ∧ 110 ∉ L ∧ 111 ∉ L ∧ 112 ∉ L) (hst : Stp_20 N Inv) {j : Nat} (ih : LH p l e s m below meth c b g A Inv (j + 1)) (hj : 6 * j + 6 ≤ Lz) {x3 : Int32} (ex3 : x3 = nI (6 * j)) {L : List Nat} {S : St} (hi : Inv L S) {ad : Nat → Nat} {H : Heap} {locs : List Loc} {ls : Array Slot} {cells slots : Nat} (hce : cells ≤ c9 + 5 * j) (hsl : slots ≤ s9 + 533 * j) (hW : GW g A ad L S H) (hS : va_S A s.heap H locs) (hl : lv_has ls 4 [(0, .ref b), (1, .ref (ad 0)), (2, .ref (ad 200)), (3, .int x3)]) : W p l e room_1 s m #[Value.ref b] below meth c H locs cells slots (lw_Z below #[Value.ref b] s) (F0 m 830 ls []) := by
  obtain ⟨hx, hb, hml, hown, hts, hr, hlocks, hK, hN, hT⟩ := id C
  obtain ⟨hB, hF, hC, h110, h111, h112⟩ := hI L S hi
  have hcb : cells + 0 ≤ room_1.cells ∧ slots + 0 ≤ room_1.slots := ⟨Nat.le_trans (m := 500000) (by unfold c9 at hce; omega) (by decide), Nat.le_trans (m := 7000000) (by unfold s9 at hsl; omega) (by decide)⟩
  have hcb2 : cells + 0 + 0 ≤ room_1.cells ∧ slots + 0 + 0 ≤ room_1.slots := hcb
  obtain ⟨r, S1, S2, h1, h2, hi2⟩ := hst L S (xs (x3 + 1).toNatClampNeg) hi
  refine lv_aload_n hx hb dL_law_830 rfl (lv_at hl 1 rfl) ?_
  refine lv_aload_n hx hb dL_law_831 rfl (lv_at hl 0 rfl) ?_
  refine lv_iload_n hx hb dL_law_832 rfl (lv_at hl 3 rfl) ?_
  refine lv_iconst (v := 1) hx hb dL_law_833 (by decide) ?_
  refine lv_iadd hx hb dL_law_834 ?_
  refine va_sld hx hb hX hbl hbA hS (sc_in (d := 1) ex3 hj hL (by decide)) dL_law_835 ?_
  refine g_ci (g_runV (ci := 10) (o := 0) (As := [.int (xs (x3 + 1).toNatClampNeg)]) (rest := []) hx hb hml hown hts hK hN hT hS hW (c_X10_pay hB h1) (hB 0 bb_0) kd_0 rfl (gw_V mw_933 mw_934 mw_935 mw_66 mw_936) hv_X10_pay rfl rfl rfl (room_ok (by decide) (by decide)) hl.1 (Nat.le_of_ble_eq_true rfl) dL_law_836 rfl hcb) hS (fun H locs hW hS => ?_)
  refine lv_aload_n hx hb dL_law_839 rfl (lv_at hl 2 rfl) ?_
  refine lv_aload_n hx hb dL_law_840 rfl (lv_at hl 0 rfl) ?_
  refine lv_iload_n hx hb dL_law_841 rfl (lv_at hl 3 rfl) ?_
  refine lv_iconst (v := 1) hx hb dL_law_842 (by decide) ?_
  refine lv_iadd hx hb dL_law_843 ?_
  refine va_sld hx hb hX hbl hbA hS (sc_in (d := 1) ex3 hj hL (by decide)) dL_law_844 ?_
  refine g_ci (g_runV (ci := 11) (o := 200) (As := [.int (xs (x3 + 1).toNatClampNeg)]) (rest := [.int r]) hx hb hml hown hts hK hN hT hS hW (c_X11_pay hB h2) (hB 200 bb_200) kd_200 rfl (gw_V mw_1404 mw_1405 mw_1406 mw_73 mw_1407) hv_X11_pay rfl rfl rfl (room_ok (by decide) (by decide)) hl.1 (Nat.le_of_ble_eq_true rfl) dL_law_845 rfl hcb2) hS (fun H locs hW hS => ?_)
  refine lv_icmp_eq (tgt := 909) hx hb dL_law_848 (by decide) (fun _ => ?_) (fun c9 => absurd rfl c9)
  obtain ⟨y3, ey3⟩ : ∃ z : Int32, z = x3 + 6 := ⟨_, rfl⟩
  refine lv_iinc (v := y3) (lv' := [(3, .int y3), (0, .ref b), (1, .ref (ad 0)), (2, .ref (ad 200))]) hx hb dL_law_909 hl (k := 3) rfl (by rw [ey3]; rfl) (by decide) rfl (fun ls hl => ?_)
  refine lv_goto (tgt := 18) hx hb dL_law_912 (by decide) ?_
  exact ih y3 (by rw [ey3, ex3]; exact (nI_add (6 * j) 6)) _ _ hi2 _ _ _ _ _ _ (by omega) (by omega) hW hS (lv_sub hl [1, 2, 3, 0] rfl)
set_option maxHeartbeats 4000000 in
theorem law_c21 (C : MC p s m #[Value.ref b] meth c code 4 (some .boolean) RL g A) (hX : va_X b Lz xs s s.heap) (hbl : b < s.heap.size) (hbA : ¬ A b) (hL : Lz ≤ 3072) {Inv : List Nat → St → Prop} (hI : ∀ L S, Inv L S → Lk L ∧ Fx L S ∧ Cl L S ∧ 110 ∉ L ∧ 111 ∉ L ∧ 112 ∉ L) (hst : Stp_21 N Inv) {j : Nat} (ih : LH p l e s m below meth c b g A Inv (j + 1)) (hj : 6 * j + 6 ≤ Lz) {x3 : Int32} (ex3 : x3 = nI (6 * j)) {L : List Nat} {S : St} (hi : Inv L S) {ad : Nat → Nat} {H : Heap} {locs : List Loc} {ls : Array Slot} {cells slots : Nat} (hce : cells ≤ c9 + 5 * j) (hsl : slots ≤ s9 + 533 * j) (hW : GW g A ad L S H) (hS : va_S A s.heap H locs) (hl : lv_has ls 4 [(0, .ref b), (1, .ref (ad 0)), (2, .ref (ad 200)), (3, .int x3)]) : W p l e room_1 s m #[Value.ref b] below meth c H locs cells slots (lw_Z below #[Value.ref b] s) (F0 m 853 ls []) := by
  obtain ⟨hx, hb, hml, hown, hts, hr, hlocks, hK, hN, hT⟩ := id C
  obtain ⟨hB, hF, hC, h110, h111, h112⟩ := hI L S hi
  have hcb : cells + 0 ≤ room_1.cells ∧ slots + 0 ≤ room_1.slots := ⟨Nat.le_trans (m := 500000) (by unfold c9 at hce; omega) (by decide), Nat.le_trans (m := 7000000) (by unfold s9 at hsl; omega) (by decide)⟩
  have hcb2 : cells + 0 + 0 ≤ room_1.cells ∧ slots + 0 + 0 ≤ room_1.slots := hcb
  obtain ⟨r, h1, h2, hi2⟩ := hst L S (xs (x3 + 1).toNatClampNeg) (xs (x3 + 2).toNatClampNeg) hi
  refine lv_aload_n hx hb dL_law_853 rfl (lv_at hl 1 rfl) ?_
  refine lv_aload_n hx hb dL_law_854 rfl (lv_at hl 0 rfl) ?_
  refine lv_iload_n hx hb dL_law_855 rfl (lv_at hl 3 rfl) ?_
  refine lv_iconst (v := 1) hx hb dL_law_856 (by decide) ?_
  refine lv_iadd hx hb dL_law_857 ?_
  refine va_sld hx hb hX hbl hbA hS (sc_in (d := 1) ex3 hj hL (by decide)) dL_law_858 ?_
  refine lv_aload_n hx hb dL_law_859 rfl (lv_at hl 0 rfl) ?_
  refine lv_iload_n hx hb dL_law_860 rfl (lv_at hl 3 rfl) ?_
  refine lv_iconst (v := 2) hx hb dL_law_861 (by decide) ?_
  refine lv_iadd hx hb dL_law_862 ?_
  refine va_sld hx hb hX hbl hbA hS (sc_in (d := 2) ex3 hj hL (by decide)) dL_law_863 ?_
  refine g_ci (g_runV (ci := 10) (o := 0) (As := [.int (xs (x3 + 1).toNatClampNeg), .int (xs (x3 + 2).toNatClampNeg)]) (rest := []) hx hb hml hown hts hK hN hT hS hW (c_X10_paid hB h1) (hB 0 bb_0) kd_0 rfl (gw_V mw_942 mw_943 mw_944 mw_66 mw_945) hv_X10_paid rfl rfl rfl (room_ok (by decide) (by decide)) hl.1 (Nat.le_of_ble_eq_true rfl) dL_law_864 rfl hcb) hS (fun H locs hW hS => ?_)
  refine lv_aload_n hx hb dL_law_867 rfl (lv_at hl 2 rfl) ?_
  refine lv_aload_n hx hb dL_law_868 rfl (lv_at hl 0 rfl) ?_
  refine lv_iload_n hx hb dL_law_869 rfl (lv_at hl 3 rfl) ?_
  refine lv_iconst (v := 1) hx hb dL_law_870 (by decide) ?_
  refine lv_iadd hx hb dL_law_871 ?_
  refine va_sld hx hb hX hbl hbA hS (sc_in (d := 1) ex3 hj hL (by decide)) dL_law_872 ?_
  refine lv_aload_n hx hb dL_law_873 rfl (lv_at hl 0 rfl) ?_
  refine lv_iload_n hx hb dL_law_874 rfl (lv_at hl 3 rfl) ?_
  refine lv_iconst (v := 2) hx hb dL_law_875 (by decide) ?_
  refine lv_iadd hx hb dL_law_876 ?_
  refine va_sld hx hb hX hbl hbA hS (sc_in (d := 2) ex3 hj hL (by decide)) dL_law_877 ?_
  refine g_ci (g_runV (ci := 11) (o := 200) (As := [.int (xs (x3 + 1).toNatClampNeg), .int (xs (x3 + 2).toNatClampNeg)]) (rest := [.int r]) hx hb hml hown hts hK hN hT hS hW (c_X11_paid hB h2) (hB 200 bb_200) kd_200 rfl (gw_V mw_1409 mw_1410 mw_1411 mw_73 mw_1412) hv_X11_paid rfl rfl rfl (room_ok (by decide) (by decide)) hl.1 (Nat.le_of_ble_eq_true rfl) dL_law_878 rfl hcb2) hS (fun H locs hW hS => ?_)
  refine lv_icmp_eq (tgt := 909) hx hb dL_law_881 (by decide) (fun _ => ?_) (fun c9 => absurd rfl c9)
  obtain ⟨y3, ey3⟩ : ∃ z : Int32, z = x3 + 6 := ⟨_, rfl⟩
  refine lv_iinc (v := y3) (lv' := [(3, .int y3), (0, .ref b), (1, .ref (ad 0)), (2, .ref (ad 200))]) hx hb dL_law_909 hl (k := 3) rfl (by rw [ey3]; rfl) (by decide) rfl (fun ls hl => ?_)
  refine lv_goto (tgt := 18) hx hb dL_law_912 (by decide) ?_
  exact ih y3 (by rw [ey3, ex3]; exact (nI_add (6 * j) 6)) _ _ hi2 _ _ _ _ _ _ (by omega) (by omega) hW hS (lv_sub hl [1, 2, 3, 0] rfl)
set_option maxHeartbeats 4000000 in
theorem law_c22 (C : MC p s m #[Value.ref b] meth c code 4 (some .boolean) RL g A) (hX : va_X b Lz xs s s.heap) (hbl : b < s.heap.size) (hbA : ¬ A b) (hL : Lz ≤ 3072) {Inv : List Nat → St → Prop} (hI : ∀ L S, Inv L S → Lk L ∧ Fx L S ∧ Cl L S ∧ 110 ∉ L ∧ 111 ∉ L ∧ 112 ∉ L) (hst : Stp_22 N Inv) {j : Nat} (ih : LH p l e s m below meth c b g A Inv (j + 1)) (hj : 6 * j + 6 ≤ Lz) {x3 : Int32} (ex3 : x3 = nI (6 * j)) {L : List Nat} {S : St} (hi : Inv L S) {ad : Nat → Nat} {H : Heap} {locs : List Loc} {ls : Array Slot} {cells slots : Nat} (hce : cells ≤ c9 + 5 * j) (hsl : slots ≤ s9 + 533 * j) (hW : GW g A ad L S H) (hS : va_S A s.heap H locs) (hl : lv_has ls 4 [(0, .ref b), (1, .ref (ad 0)), (2, .ref (ad 200)), (3, .int x3)]) : W p l e room_1 s m #[Value.ref b] below meth c H locs cells slots (lw_Z below #[Value.ref b] s) (F0 m 886 ls []) := by
  obtain ⟨hx, hb, hml, hown, hts, hr, hlocks, hK, hN, hT⟩ := id C
  obtain ⟨hB, hF, hC, h110, h111, h112⟩ := hI L S hi
  have hcb : cells + 0 ≤ room_1.cells ∧ slots + 0 ≤ room_1.slots := ⟨Nat.le_trans (m := 500000) (by unfold c9 at hce; omega) (by decide), Nat.le_trans (m := 7000000) (by unfold s9 at hsl; omega) (by decide)⟩
  have hcb2 : cells + 0 + 0 ≤ room_1.cells ∧ slots + 0 + 0 ≤ room_1.slots := hcb
  obtain ⟨r, h1, h2, hi2⟩ := hst L S (xs (x3 + 1).toNatClampNeg) hi
  refine lv_aload_n hx hb dL_law_886 rfl (lv_at hl 1 rfl) ?_
  refine lv_aload_n hx hb dL_law_887 rfl (lv_at hl 0 rfl) ?_
  refine lv_iload_n hx hb dL_law_888 rfl (lv_at hl 3 rfl) ?_
  refine lv_iconst (v := 1) hx hb dL_law_889 (by decide) ?_
  refine lv_iadd hx hb dL_law_890 ?_
  refine va_sld hx hb hX hbl hbA hS (sc_in (d := 1) ex3 hj hL (by decide)) dL_law_891 ?_
  refine g_ci (g_runV (ci := 10) (o := 0) (As := [.int (xs (x3 + 1).toNatClampNeg)]) (rest := []) hx hb hml hown hts hK hN hT hS hW (c_X10_about hB h1) (hB 0 bb_0) kd_0 rfl (gw_V mw_950 mw_951 mw_952 mw_66 mw_953) hv_X10_about rfl rfl rfl (room_ok (by decide) (by decide)) hl.1 (Nat.le_of_ble_eq_true rfl) dL_law_892 rfl hcb) hS (fun H locs hW hS => ?_)
  refine lv_aload_n hx hb dL_law_895 rfl (lv_at hl 2 rfl) ?_
  refine lv_aload_n hx hb dL_law_896 rfl (lv_at hl 0 rfl) ?_
  refine lv_iload_n hx hb dL_law_897 rfl (lv_at hl 3 rfl) ?_
  refine lv_iconst (v := 1) hx hb dL_law_898 (by decide) ?_
  refine lv_iadd hx hb dL_law_899 ?_
  refine va_sld hx hb hX hbl hbA hS (sc_in (d := 1) ex3 hj hL (by decide)) dL_law_900 ?_
  refine g_ci (g_runV (ci := 11) (o := 200) (As := [.int (xs (x3 + 1).toNatClampNeg)]) (rest := [.int r]) hx hb hml hown hts hK hN hT hS hW (c_X11_about hB h2) (hB 200 bb_200) kd_200 rfl (gw_V mw_1413 mw_1414 mw_1415 mw_73 mw_1416) hv_X11_about rfl rfl rfl (room_ok (by decide) (by decide)) hl.1 (Nat.le_of_ble_eq_true rfl) dL_law_901 rfl hcb2) hS (fun H locs hW hS => ?_)
  refine lv_icmp_eq (tgt := 909) hx hb dL_law_904 (by decide) (fun _ => ?_) (fun c9 => absurd rfl c9)
  obtain ⟨y3, ey3⟩ : ∃ z : Int32, z = x3 + 6 := ⟨_, rfl⟩
  refine lv_iinc (v := y3) (lv' := [(3, .int y3), (0, .ref b), (1, .ref (ad 0)), (2, .ref (ad 200))]) hx hb dL_law_909 hl (k := 3) rfl (by rw [ey3]; rfl) (by decide) rfl (fun ls hl => ?_)
  refine lv_goto (tgt := 18) hx hb dL_law_912 (by decide) ?_
  exact ih y3 (by rw [ey3, ex3]; exact (nI_add (6 * j) 6)) _ _ hi2 _ _ _ _ _ _ (by omega) (by omega) hW hS (lv_sub hl [1, 2, 3, 0] rfl)
end LAWC
