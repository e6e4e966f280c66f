section GDR
theorem mw_obj : Cond.code Lib.objectInit ⟨#[0xb1]⟩ 1 none ∈ gw_tbl := gw_at 91 (by decide +kernel) (by decide +kernel)
def rmc (k c s : Nat) : Room := { frames := k, cells := c, slots := s, locals := 64 * k }
def WD (g : Cx) (A : Nat → Prop) (ad : Nat → Nat) (L : List Nat) (S : St) (U : State) : Prop := GD g A ad L S U.heap ∧ va_K g.1 vwCl (gtys g) U ∧ NW U ∧ SW g A U
abbrev qd (g : Cx) (A : Nat → Prop) (ad : Nat → Nat) (L L2 : List Nat) (S9 : St) : Array Value → State → Outcome → State → Prop := va_Qv (fun (ad2 : Nat → Nat) => ∀ x ∈ L, ad2 x = ad x) (fun ad2 t => GD g A ad2 L2 S9 t.heap ∧ Cl L2 S9) A
variable {p : Program} {l : Launch} {e : Env} {R : Room} {s : State} {m : MethodId} {args : Array Value} {below : List Frame} {meth : Method} {c : Code} {H : Heap} {locs : List Loc} {cells slots : Nat} {Q : State → Prop}
variable {cc : ByteArray} {pc : Nat} {ls : Array Slot} {rest : List Value} {A : Nat → Prop} {g : Cx} {ad : Nat → Nat} {L : List Nat} {S : St}
theorem gd_put (hexec : p.tables.exec = Jvm.exec) (hb : c.code = cc) {own ref C : String} {T : u_T} {N ci index : Nat} (hts : ∀ w ∈ gw_tbl, w.before args s = true) (hin : ∀ w ∈ u_ws C T N, w ∈ gw_tbl) (ty0 : Nat → FieldType) (hty : ∀ k, k < N → parseFieldDescriptor (T k).2.2.1 = some (ty0 k)) (hnm : ∀ a, a < N → ∀ b, b < N → a ≠ b → (T a).2.1 ≠ (T b).2.1) (hown : s.vm.findClass own = some m.cls) (hK : va_K g.1 vwCl (gtys g) s) (hW : GD g A ad L S H) (hS : va_S A s.heap H locs) {o : Nat} (ho : o ∈ L) {fs : List Value} (he : cellD g ad S o = .inr (ci, fs)) (hc : vwCl[ci]? = some (C, T, N)) (k : Nat) (hk : k < N) (hlink : Cond.fieldLink own index ref (T k).2.1 (T k).2.2.1 ∈ gw_tbl) (href : ref = (T k).1) (hfin : (T k).2.2.2 = false ∨ (meth.name = "<init>" ∧ (T k).1 = own)) {v : Value} (hn : narrow (ty0 k) v = v) (hfit : fits (ty0 k) v = true) (hl : k < fs.length) (S1 : St) (h1 : cellD g ad S1 o = .inr (ci, fs.set k v)) (h2 : ∀ x ∈ L, x ≠ o → cellD g ad S1 x = cellD g ad S x)
    (hdg : decode cc pc = .ok (.putfield index, 3)) (kk : ∀ S2, S2 = S1 → ∀ (H1 : Heap) (locs1 : List Loc), GD g A ad L S2 H1 → va_S A s.heap H1 locs1 → W p l e R s m args below meth c H1 locs1 cells slots Q (F0 m (pc + 3) ls rest)) : W p l e R s m args below meth c H locs cells slots Q (F0 m pc ls (v :: .ref (ad o) :: rest)) :=
  gc_put hexec hb hts hin ty0 hty hnm hown hK hW hS ho he hc k hk hlink href hfin hn hfit hl (cellD g ad S1) h1 h2 hdg (fun H1 locs1 hW hS => kk S1 rfl H1 locs1 hW hS)
theorem gd_getr (hexec : p.tables.exec = Jvm.exec) (hb : c.code = cc) {own ref C : String} {T : u_T} {N ci index : Nat} (hts : ∀ w ∈ gw_tbl, w.before args s = true) (hin : ∀ w ∈ u_ws C T N, w ∈ gw_tbl) (hown : s.vm.findClass own = some m.cls) (hK : va_K g.1 vwCl (gtys g) s) (hW : GD g A ad L S H) {o : Nat} (ho : o ∈ L) {fs : List Value} (he : cellD g ad S o = .inr (ci, fs)) (hc : vwCl[ci]? = some (C, T, N)) (k : Nat) (hk : k < N) (hlink : Cond.fieldLink own index ref (T k).2.1 (T k).2.2.1 ∈ gw_tbl) (href : ref = (T k).1) {t : Nat} (hr : gr S o k = some t) (hv : fs[k]? = some (va_re ad (gr S o k))) (hdg : decode cc pc = .ok (.getfield index, 3))
    (kk : W p l e R s m args below meth c H locs cells slots Q (F0 m (pc + 3) ls (.ref (ad t) :: rest))) : W p l e R s m args below meth c H locs cells slots Q (F0 m pc ls (.ref (ad o) :: rest)) :=
  gc_get hexec hb hts hin hown hK hW ho he hc k hk hlink href (v := .ref (ad t)) (by rw [hv, hr]; rfl) hdg kk
theorem gd_iast (hexec : p.tables.exec = Jvm.exec) (hb : c.code = cc) (hK : va_K g.1 vwCl (gtys g) s) (hW : GD g A ad L S H) (hS : va_S A s.heap H locs) {o n : Nat} (ho : o ∈ L) (he : ∀ S : St, cellD g ad S o = .inl (g.2.2.1, n, .inl (S.1 o))) {i x : Int32} (hin : ¬ (i < 0 ∨ n ≤ ix i)) (hdg : decode cc pc = .ok (.iastore, 1))
    (kk : ∀ S2, S2 = sv S o (ix i) x → ∀ (H1 : Heap) (locs1 : List Loc), GD g A ad L S2 H1 → va_S A s.heap H1 locs1 → W p l e R s m args below meth c H1 locs1 cells slots Q (F0 m (pc + 1) ls rest)) : W p l e R s m args below meth c H locs cells slots Q (F0 m pc ls (.int x :: .int i :: .ref (ad o) :: rest)) :=
  gc_iast hexec hb hK hW hS ho (he S) hin (cellD g ad (sv S o (ix i) x)) (by rw [he, sv_row]) cellD_sv hdg (fun H1 locs1 hW hS => kk _ rfl H1 locs1 hW hS)
theorem gd_new (hexec : p.tables.exec = Jvm.exec) (hb : c.code = cc) {own C : String} {T : u_T} {N ci index : Nat} (hts : ∀ w ∈ gw_tbl, w.before args s = true) (hin : ∀ w ∈ u_ws C T N, w ∈ gw_tbl) (ty : Nat → FieldType) (hty : ∀ k, k < N → parseFieldDescriptor (T k).2.2.1 = some (ty k)) (hown : s.vm.findClass own = some m.cls) (hcl : Cond.classLink own index C ∈ gw_tbl) (hinst : Cond.instantiable C N ∈ gw_tbl) (hini : Cond.initialized C ∈ gw_tbl) (hK : va_K g.1 vwCl (gtys g) s) (hT : SW g A s) (hW : GD g A ad L S H) (hS : va_S A s.heap H locs) (hC : Cl L S) (hc : vwCl[ci]? = some (C, T, N)) (id : Nat) (hid : id ∉ L) {fs : List Value} (hfs : ∀ j, j < N → defaultValue (ty j) = vp_V fs j) (h1 : ∀ ad1 : Nat → Nat, cellD g ad1 (zr S id) id = .inr (ci, fs)) (hcells : cells + 1 ≤ R.cells) (hslots : slots + N ≤ R.slots) (hdg : decode cc pc = .ok (.new index, 3))
    (kk : ∀ S2, S2 = zr S id → ∀ ad1 : Nat → Nat, (∀ o, o ≠ id → ad1 o = ad o) → ∀ (H1 : Heap), GD g A ad1 (L ++ [id]) S2 H1 → va_S A s.heap H1 locs → Cl (L ++ [id]) S2 → W p l e R s m args below meth c H1 locs (cells + 1) (slots + N) Q (F0 m (pc + 3) ls (.ref (ad1 id) :: rest))) : W p l e R s m args below meth c H locs cells slots Q (F0 m pc ls rest) :=
  gc_new hexec hb hts hin ty hty hown hcl hinst hini hK hW hS hT.2.2.2.2.2 hc id hid hfs (fun ad1 => cellD g ad1 (zr S id)) h1 (fun ad1 hag => cellD_zr hC hid hag) hcells hslots hdg (fun ad1 hag H1 hW hS => kk _ rfl ad1 hag H1 hW hS (Cl_zr hC))
theorem gd_newa (hexec : p.tables.exec = Jvm.exec) (hb : c.code = cc) {atype : ArrayType} {ty : FieldType} (hty : newarray.typeOf atype = ty) (hts : ∀ w ∈ gw_tbl, w.before args s = true) (harr : Cond.arrayClass ty ∈ gw_tbl) (hprim : ∀ C, ty ≠ .object C) (hK : va_K g.1 vwCl (gtys g) s) (hT : SW g A s) (t0 : Nat) {cA0 : ClassId} (ht0 : (gtys g)[t0]? = some (cA0, ty)) (hdef : defaultValue ty = .int 0) (hW : GD g A ad L S H) (hS : va_S A s.heap H locs) (hC : Cl L S) {n : Int32} {N' : Nat} (hn : ¬ n < 0) (hN : n.toNatClampNeg = N') (hbytes : N' * componentBytes ty ≤ 536870912) (id : Nat) (hid : id ∉ L) (h1 : ∀ ad1 : Nat → Nat, cellD g ad1 (zr S id) id = .inl (cA0, N', .inl (fun _ => 0))) (hcells : cells + 1 ≤ R.cells) (hslots : slots + N' ≤ R.slots) (hdg : decode cc pc = .ok (.newarray atype, 2))
    (kk : ∀ S2, S2 = zr S id → ∀ ad1 : Nat → Nat, (∀ o, o ≠ id → ad1 o = ad o) → ∀ (H1 : Heap), GD g A ad1 (L ++ [id]) S2 H1 → va_S A s.heap H1 locs → Cl (L ++ [id]) S2 → W p l e R s m args below meth c H1 locs (cells + 1) (slots + N') Q (F0 m (pc + 2) ls (.ref (ad1 id) :: rest))) : W p l e R s m args below meth c H locs cells slots Q (F0 m pc ls (.int n :: rest)) :=
  gc_newa hexec hb hty hts harr hprim hK t0 ht0 hdef hW hS hT.2.2.2.2.2 hn hN hbytes id hid (fun ad1 => cellD g ad1 (zr S id)) h1 (fun ad1 hag => cellD_zr hC hid hag) hcells hslots hdg (fun ad1 hag H1 hW hS => kk _ rfl ad1 hag H1 hW hS (Cl_zr hC))
theorem gd_newq (hexec : p.tables.exec = Jvm.exec) (hb : c.code = cc) {own : String} {index : Nat} (hown : s.vm.findClass own = some m.cls) (hts : ∀ w ∈ gw_tbl, w.before args s = true) (hcl : Cond.classLink own index "DroveRoads$Herd" ∈ gw_tbl) (hover : va_AO "DroveRoads$Herd" s) (hK : va_K g.1 vwCl (gtys g) s) (hT : SW g A s) (hW : GD g A ad L S H) (hS : va_S A s.heap H locs) (hC : Cl L S) {n : Int32} {N' : Nat} (hn : ¬ n < 0) (hN : n.toNatClampNeg = N') (hbytes : N' * 4 ≤ 536870912) (id : Nat) (hid : id ∉ L) (h1 : ∀ ad1 : Nat → Nat, cellD g ad1 (zr S id) id = .inl (g.2.2.2.2.1, N', .inr (.inr (.inr (.inr (fun _ => none)))))) (hcells : cells + 1 ≤ R.cells) (hslots : slots + N' ≤ R.slots) (hdg : decode cc pc = .ok (.anewarray index, 3))
    (kk : ∀ S2, S2 = zr S id → ∀ ad1 : Nat → Nat, (∀ o, o ≠ id → ad1 o = ad o) → ∀ (H1 : Heap), GD g A ad1 (L ++ [id]) S2 H1 → va_S A s.heap H1 locs → Cl (L ++ [id]) S2 → W p l e R s m args below meth c H1 locs (cells + 1) (slots + N') Q (F0 m (pc + 3) ls (.ref (ad1 id) :: rest))) : W p l e R s m args below meth c H locs cells slots Q (F0 m pc ls (.int n :: rest)) :=
  gc_newq hexec hb hown hts hcl hover hK hW hS hT.2.2.2.2.2 hn hN hbytes id hid (fun ad1 => cellD g ad1 (zr S id)) h1 (fun ad1 hag => cellD_zr hC hid hag) hcells hslots hdg (fun ad1 hag H1 hW hS => kk _ rfl ad1 hag H1 hW hS (Cl_zr hC))
theorem gd_alen (hexec : p.tables.exec = Jvm.exec) (hb : c.code = cc) (hK : va_K g.1 vwCl (gtys g) s) (hW : GD g A ad L S H) {o n : Nat} (ho : o ∈ L) {f : Nat → Int32} (t0 : Nat) {cA : ClassId} {ty : FieldType} (ht : (gtys g)[t0]? = some (cA, ty)) (he : cellD g ad S o = .inl (cA, n, .inl f)) {v : Int32} (hv : Int32.ofNat n = v) (hdg : decode cc pc = .ok (.arraylength, 1))
    (kk : W p l e R s m args below meth c H locs cells slots Q (F0 m (pc + 1) ls (.int v :: rest))) : W p l e R s m args below meth c H locs cells slots Q (F0 m pc ls (.ref (ad o) :: rest)) := by
  obtain ⟨q, hq, hq2⟩ := gcl_at (ad := ad) (cf := cellD g ad S) ho
  rw [he] at hq2
  exact va_alen hexec hb hK hW.1 q t0 hq2 ht hv hdg kk
theorem gd_vret {ad0 : Nat → Nat} {L0 : List Nat} (hexec : p.tables.exec = Jvm.exec) (hb : c.code = cc) (hr : meth.sig.returnType = none) (hlocks : meth.locks = false) (hW : GD g A ad L S H) (hS : va_S A s.heap H locs) (hC : Cl L S) (hg : ∀ x ∈ L0, ad x = ad0 x) (hdg : decode cc pc = .ok (.return_, 1)) : W p l e R s m args below meth c H locs cells slots (MQ below (qd g A ad0 L0 L S) args s cells slots A) (F0 m pc ls []) :=
  W.vret hexec hb hr (fun t ht _ => ⟨⟨ad, rfl, hg, show GD g A ad L S t.heap from ht.symm ▸ hW, hC⟩, hS.F ht⟩) hS.2.2 hdg hlocks
theorem gd_met {y : MethodName} {maxL : Nat} {ret : Option FieldType} {rm : Room} {Qc : Array Value → State → Outcome → State → Prop} {mc ms : Nat} (av : List Value) (hy : plainName y.cls = true) (hav : (lg_sl av).length ≤ maxL)
    (body : ∀ (p : Program) (e : Env) (s : State) (m : MethodId) (below : List Frame) (meth : Method) (c : Code) (ls : Array Slot), MC p s m av.toArray meth c cc maxL ret y.cls g A → GD g A ad L S s.heap → lv_has ls maxL (lv_args 0 av) → meth.name = y.name →
      W p l e rm s m av.toArray below meth c s.heap [] 0 0 (MQ below Qc av.toArray s mc ms A) (F0 m 0 ls [])) : Met l y (gws y cc maxL ret) rm (va_Pc av (WD g A ad L S)) Qc mc ms A := by
  refine Met.ofW (cc := cc) (maxL := maxL) (ret := ret) hy rfl ?_
  intro p e s m args below meth c s₁ B hml hv
  obtain ⟨rfl, hW, hK, hN, hT⟩ := hv
  have hts := atoms_spec (ws := gws y cc maxL ret) B.pre
  have hl := lv_entry av (n := maxL) hav
  rw [lg_entry_eq]
  exact body p e s m below meth c _ ⟨B.exec, B.bytes, hml, findClass_of_methodNamed B.named, fun w hw => hts w (List.mem_cons_of_mem _ hw), B.returns, B.notSynchronized, hK, hN, hT⟩ hW hl (name_of_methodNamed B.named B.method).1
theorem gd_blind {av : List Value} : FrameBlind (va_Pc av (WD g A ad L S)) := fun a U g2 mk q => by
  obtain ⟨q0, qP, qK, qN, qT⟩ := q
  exact ⟨q0, qP, va_K.moved (u := U) (U := U.calling g2 mk a) (Vm.Alike.refl U.vm) qK, qN.calling, qT.calling⟩
theorem gd_pre (hW : GD g A ad L S H) (hK : va_K g.1 vwCl (gtys g) s) (hN : NW s) (hT : SW g A s) (hS : va_S A s.heap H locs) {As : List Value} : PreS s H (va_Pc As (WD g A ad L S)) As :=
  ⟨gd_blind, fun U hU hwm => ⟨rfl, by rw [hU]; exact hW, va_K.moved hwm.alike hK, hN.warm hwm, hT.at hS hU hwm⟩⟩
variable {y : MethodName} {bytes : ByteArray} {maxL nL mc ms n index k : Nat} {rm : Room} {own : String} {As : List Value} {S1 : St}
theorem gd_runI {o : Nat} {Qc : Array Value → State → Outcome → State → Prop} (hx : p.tables.exec = Jvm.exec) (hb : c.code = cc) (hml : c.maxLocals = nL) (hown : s.vm.findClass own = some m.cls) (hts : ∀ w ∈ gw_tbl, w.before args s = true) (hK : va_K g.1 vwCl (gtys g) s) (hN : NW s) (hT : SW g A s) (hS : va_S A s.heap H locs) (hW : GD g A ad L S H)
    (hM : Met l y (gws y bytes maxL none) rm (va_Pc (.ref (ad o) :: As) (WD g A ad L S)) Qc mc ms A) (h5 : Cond.code y bytes maxL none ∈ gw_tbl) (h1 : Cond.methodLink own index y ∈ gw_tbl) (h2 : Cond.instanceMethod y ∈ gw_tbl) (h4 : Cond.initialized y.cls ∈ gw_tbl) (hy : y.name = "<init>")
    (hd : y.cls ≠ "java/lang/invoke/MethodHandle" ∧ y.cls ≠ "java/lang/invoke/VarHandle" ∧ (parseMethodDescriptor y.desc).map (fun d => d.parameters.length) = some n) (hn : As.length = n) (hrc : rm.cells = mc) (hrs : rm.slots = ms) (hroom : roomy rm R maxL) (hsz : ls.size = nL) (hcat : (rest.map fun v => v.category).sum ≤ 8) (hdg : decode cc pc = .ok (.invokespecial index, 3)) {st : List Value} (hst : st = As.reverse ++ .ref (ad o) :: rest) (hf : cells + mc ≤ R.cells ∧ slots + ms ≤ R.slots) :
    va_Run p l e R s m args below meth c H locs cells slots mc ms (F0 m pc ls st) rest (Qc (Value.ref (ad o) :: As).toArray) A := by
  subst hst
  exact va_runI (As := As) (rest := rest) ⟨hx, hb, hml, hown, hts⟩ hM (cwI n hts (gw_GoodIn (gw_gws h5)) rfl hrc hrs (hts _ h4) (hts _ h1) (hts _ h2) hy hd hroom) (gd_pre hW hK hN hT hS) rfl hn hsz rfl (lv_room hcat) hdg hf
theorem gd_runIN {o : Nat} {Qc : Array Value → State → Outcome → State → Prop} (hx : p.tables.exec = Jvm.exec) (hb : c.code = cc) (hml : c.maxLocals = nL) (hown : s.vm.findClass own = some m.cls) (hts : ∀ w ∈ gw_tbl, w.before args s = true) (hK : va_K g.1 vwCl (gtys g) s) (hN : NW s) (hT : SW g A s) (hS : va_S A s.heap H locs) (hW : GD g A ad L S H)
    (hM : Met l y (gws y bytes maxL none) rm (va_Pc (.ref (ad o) :: As) (WD g A ad L S)) Qc mc ms A) (h5 : Cond.code y bytes maxL none ∈ gw_tbl) (h1 : (own, index, y) ∈ nestL) (h2 : Cond.instanceMethod y ∈ gw_tbl) (h4 : Cond.initialized y.cls ∈ gw_tbl) (hy : y.name = "<init>")
    (hd : y.cls ≠ "java/lang/invoke/MethodHandle" ∧ y.cls ≠ "java/lang/invoke/VarHandle" ∧ (parseMethodDescriptor y.desc).map (fun d => d.parameters.length) = some n) (hn : As.length = n) (hrc : rm.cells = mc) (hrs : rm.slots = ms) (hroom : roomy rm R maxL) (hsz : ls.size = nL) (hcat : (rest.map fun v => v.category).sum ≤ 8) (hdg : decode cc pc = .ok (.invokespecial index, 3)) {st : List Value} (hst : st = As.reverse ++ .ref (ad o) :: rest) (hf : cells + mc ≤ R.cells ∧ slots + ms ≤ R.slots) :
    va_Run p l e R s m args below meth c H locs cells slots mc ms (F0 m pc ls st) rest (Qc (Value.ref (ad o) :: As).toArray) A := by
  subst hst
  exact va_runIN (As := As) (rest := rest) (host := "DroveRoads") ⟨hx, hb, hml, hown, hts⟩ hM ⟨va_cnB n hts (gw_GoodIn (gw_gws h5)) rfl hrc hrs (hN.1 _ h1) (hts _ h4) hd hroom, hy, hts _ h2⟩ (gd_pre hW hK hN hT hS) rfl hn hsz rfl (lv_room hcat) hdg hf
theorem gd_c {a : Array Value} {st : List Value} {L0 L2 : List Nat} (hr : va_Run p l e R s m args below meth c H locs cells slots mc ms (F0 m pc ls st) rest (qd g A ad L0 L2 S1 a) A) (hS : va_S A s.heap H locs)
    (kk : ∀ ad2 : Nat → Nat, (∀ x ∈ L0, ad2 x = ad x) → ∀ (H1 : Heap) (locs1 : List Loc), GD g A ad2 L2 S1 H1 → va_S A s.heap H1 locs1 → Cl L2 S1 → W p l e R s m args below meth c H1 locs1 (cells + mc) (slots + ms) Q (F0 m (pc + 3) ls rest)) : W p l e R s m args below meth c H locs cells slots Q (F0 m pc ls st) :=
  va_callv hr hS (fun _ _ h => h) (fun _ h => h) (fun ad2 t H1 locs1 ht _ hp hB _ _ hS1 => by subst ht; exact kk ad2 hp _ locs1 hB.1 hS1 hB.2)
theorem rc_ok {a b ca sa cb sb maxL : Nat} (h : a + 1 ≤ b) (hm : maxL ≤ 40) : roomy (rmc a ca sa) (rmc b cb sb) maxL := by
  unfold roomy rmc
  dsimp only
  omega
theorem rc_ok2 {a b cb sb maxL : Nat} (h : a + 1 ≤ b) (hm : maxL ≤ 40) : roomy (rmk a) (rmc b cb sb) maxL := by
  unfold roomy rmc rmk
  dsimp only
  omega
end GDR
section S42
variable {p : Program} {l : Launch} {e : Env} {s : State} {m : MethodId} {args : Array Value} {below : List Frame} {meth : Method} {c : Code} {A : Nat → Prop} {g : Cx} {ad : Nat → Nat} {L : List Nat} {N : Nat} {q0 : Nat}
def f_X9_init (S : St) : Option St := bn (sv S 1 0 2) fun S_1 => bn (zr S_1 11) fun S_2 => bn (sr S_2 1 1 (some 11)) fun S_4 => bn (zr S_4 12) fun S_5 => bn (sr S_5 1 2 (some 12)) fun S_7 => bn (zr S_7 13) fun S_8 => bn (sr S_8 1 3 (some 13)) fun S_10 => bn (zr S_10 14) fun S_11 => bn (sr S_11 1 4 (some 14)) fun S_13 => bn (zr S_13 15) fun S_14 => bn (sr S_14 1 5 (some 15)) fun S_16 => bn (zr S_16 16) fun S_17 => bn (sr S_17 1 6 (some 16)) fun S_19 => bn (sv S_19 11 (ix 0) 1) fun S_20 => bn (sv S_20 12 (ix 0) 1) fun S_21 => some S_21
set_option maxHeartbeats 8000000 in
set_option maxRecDepth 8000 in
theorem t_X9_init (C : MC p s m args meth c cX9_init 1 none RX9 g A) (hin : meth.name = "<init>") {S S9 : St} (ho : 1 ∈ L) (hfree : ∀ i ∈ [11, 12, 13, 14, 15, 16], i ∉ L) (hC : Cl L S) (h : f_X9_init S = some S9) {H : Heap} {locs : List Loc} {ls : Array Slot} (hW : GD g A ad L S H) (hS : va_S A s.heap H locs) (hl : lv_has ls 1 [(0, .ref (ad 1))]) : W p l e (rmc 1 6 60) s m args below meth c H locs 0 0 (MQ below (qd g A ad L (L ++ [11] ++ [12] ++ [13] ++ [14] ++ [15] ++ [16]) S9) args s 6 60 A) (F0 m 0 ls []) := by
  obtain ⟨hx, hb, hml, hown, hts, hr, hlocks, hK, hN, hT⟩ := id C
  have hg : ∀ x ∈ L, ad x = ad x := fun _ _ => rfl
  unfold f_X9_init at h
  refine lv_aload_n  hx hb dX9_init_0 rfl (lv_at hl 0 rfl) ?_
  refine W.objInit hx hb hown (hts _ mw_97) (hts _ mw_90) (hts _ mw_obj) rfl (by rw [hml]; exact hl.1) rfl dX9_init_1 (by decide) (Nat.le_of_ble_eq_true rfl) ?_
  refine W.eq (g2 := F0 m 4 ls []) rfl ?_
  refine lv_aload_n  hx hb dX9_init_4 rfl (lv_at hl 0 rfl) ?_
  refine lv_iconst (v := 2) hx hb dX9_init_5 (by decide) ?_
  refine gd_put (C := RX9) (T := TX9) (N := 7) (ci := 9) (v := .int 2) hx hb hts inX9 tyX9 tyX9_ok nmX9 hown hK hW hS ho (cD_1) rfl 0 (by decide) mw_98 rfl (Or.inr ⟨hin, rfl⟩) rfl rfl (Nat.le_of_ble_eq_true rfl) (sv S 1 0 2) (dv_1_0) cellD_sv dX9_init_6 (fun S_1 eS_1 H locs hW hS => ?_)
  have h := bn_at eS_1 h
  have hC : Cl L S_1 := eS_1 ▸ Cl_sv hC
  refine lv_aload_n  hx hb dX9_init_9 rfl (lv_at hl 0 rfl) ?_
  refine lv_bipush (v := 10) hx hb dX9_init_10 (by decide) ?_
  refine gd_newa (ty := .int) (N' := 10) hx hb rfl hts mw_121 (fun C h9 => by cases h9) hK hT 1 rfl rfl hW hS hC (by decide) (by decide) (by decide) 11 (hfree 11 (by decide)) (fun _ => zD_11) (by decide) (by decide) dX9_init_12 (fun S_2 eS_2 ad_3 hag H hW hS hC => ?_)
  rw [← hag 1 (by omega)] at hl
  rw [← hag 1 (by omega)]
  have hg : ∀ z9 ∈ L, ad_3 z9 = ad z9 := fun z9 hx => (hag z9 (fun e9 => hfree 11 (by decide) (e9 ▸ hx))).trans (hg z9 hx)
  have h := bn_at eS_2 h
  refine gd_put (C := RX9) (T := TX9) (N := 7) (ci := 9) (v := .ref (ad_3 11)) hx hb hts inX9 tyX9 tyX9_ok nmX9 hown hK hW hS (me_l ho) (cD_1) rfl 1 (by decide) mw_100 rfl (Or.inr ⟨hin, rfl⟩) rfl rfl (Nat.le_of_ble_eq_true rfl) (sr S_2 1 1 (some 11)) (dr_1_1) cellD_sr dX9_init_14 (fun S_4 eS_4 H locs hW hS => ?_)
  have h := bn_at eS_4 h
  have hC : Cl (L ++ [11]) S_4 := eS_4 ▸ Cl_sr hC me_r
  refine lv_aload_n  hx hb dX9_init_17 rfl (lv_at hl 0 rfl) ?_
  refine lv_bipush (v := 10) hx hb dX9_init_18 (by decide) ?_
  refine gd_newa (ty := .int) (N' := 10) hx hb rfl hts mw_121 (fun C h9 => by cases h9) hK hT 1 rfl rfl hW hS hC (by decide) (by decide) (by decide) 12 (nm_app (hfree 12 (by decide)) (by omega)) (fun _ => zD_12) (by decide) (by decide) dX9_init_20 (fun S_5 eS_5 ad_6 hag H hW hS hC => ?_)
  rw [← hag 1 (by omega)] at hl
  rw [← hag 1 (by omega)]
  have hg : ∀ z9 ∈ L, ad_6 z9 = ad z9 := fun z9 hx => (hag z9 (fun e9 => hfree 12 (by decide) (e9 ▸ hx))).trans (hg z9 hx)
  have h := bn_at eS_5 h
  refine gd_put (C := RX9) (T := TX9) (N := 7) (ci := 9) (v := .ref (ad_6 12)) hx hb hts inX9 tyX9 tyX9_ok nmX9 hown hK hW hS (me_l (me_l ho)) (cD_1) rfl 2 (by decide) mw_101 rfl (Or.inr ⟨hin, rfl⟩) rfl rfl (Nat.le_of_ble_eq_true rfl) (sr S_5 1 2 (some 12)) (dr_1_2) cellD_sr dX9_init_22 (fun S_7 eS_7 H locs hW hS => ?_)
  have h := bn_at eS_7 h
  have hC : Cl (L ++ [11] ++ [12]) S_7 := eS_7 ▸ Cl_sr hC me_r
  refine lv_aload_n  hx hb dX9_init_25 rfl (lv_at hl 0 rfl) ?_
  refine lv_bipush (v := 10) hx hb dX9_init_26 (by decide) ?_
  refine gd_newa (ty := .int) (N' := 10) hx hb rfl hts mw_121 (fun C h9 => by cases h9) hK hT 1 rfl rfl hW hS hC (by decide) (by decide) (by decide) 13 (nm_app (nm_app (hfree 13 (by decide)) (by omega)) (by omega)) (fun _ => zD_13) (by decide) (by decide) dX9_init_28 (fun S_8 eS_8 ad_9 hag H hW hS hC => ?_)
  rw [← hag 1 (by omega)] at hl
  rw [← hag 1 (by omega)]
  have hg : ∀ z9 ∈ L, ad_9 z9 = ad z9 := fun z9 hx => (hag z9 (fun e9 => hfree 13 (by decide) (e9 ▸ hx))).trans (hg z9 hx)
  have h := bn_at eS_8 h
  refine gd_put (C := RX9) (T := TX9) (N := 7) (ci := 9) (v := .ref (ad_9 13)) hx hb hts inX9 tyX9 tyX9_ok nmX9 hown hK hW hS (me_l (me_l (me_l ho))) (cD_1) rfl 3 (by decide) mw_102 rfl (Or.inr ⟨hin, rfl⟩) rfl rfl (Nat.le_of_ble_eq_true rfl) (sr S_8 1 3 (some 13)) (dr_1_3) cellD_sr dX9_init_30 (fun S_10 eS_10 H locs hW hS => ?_)
  have h := bn_at eS_10 h
  have hC : Cl (L ++ [11] ++ [12] ++ [13]) S_10 := eS_10 ▸ Cl_sr hC me_r
  refine lv_aload_n  hx hb dX9_init_33 rfl (lv_at hl 0 rfl) ?_
  refine lv_bipush (v := 10) hx hb dX9_init_34 (by decide) ?_
  refine gd_newa (ty := .int) (N' := 10) hx hb rfl hts mw_121 (fun C h9 => by cases h9) hK hT 1 rfl rfl hW hS hC (by decide) (by decide) (by decide) 14 (nm_app (nm_app (nm_app (hfree 14 (by decide)) (by omega)) (by omega)) (by omega)) (fun _ => zD_14) (by decide) (by decide) dX9_init_36 (fun S_11 eS_11 ad_12 hag H hW hS hC => ?_)
  rw [← hag 1 (by omega)] at hl
  rw [← hag 1 (by omega)]
  have hg : ∀ z9 ∈ L, ad_12 z9 = ad z9 := fun z9 hx => (hag z9 (fun e9 => hfree 14 (by decide) (e9 ▸ hx))).trans (hg z9 hx)
  have h := bn_at eS_11 h
  refine gd_put (C := RX9) (T := TX9) (N := 7) (ci := 9) (v := .ref (ad_12 14)) hx hb hts inX9 tyX9 tyX9_ok nmX9 hown hK hW hS (me_l (me_l (me_l (me_l ho)))) (cD_1) rfl 4 (by decide) mw_103 rfl (Or.inr ⟨hin, rfl⟩) rfl rfl (Nat.le_of_ble_eq_true rfl) (sr S_11 1 4 (some 14)) (dr_1_4) cellD_sr dX9_init_38 (fun S_13 eS_13 H locs hW hS => ?_)
  have h := bn_at eS_13 h
  have hC : Cl (L ++ [11] ++ [12] ++ [13] ++ [14]) S_13 := eS_13 ▸ Cl_sr hC me_r
  refine lv_aload_n  hx hb dX9_init_41 rfl (lv_at hl 0 rfl) ?_
  refine lv_bipush (v := 10) hx hb dX9_init_42 (by decide) ?_
  refine gd_newa (ty := .int) (N' := 10) hx hb rfl hts mw_121 (fun C h9 => by cases h9) hK hT 1 rfl rfl hW hS hC (by decide) (by decide) (by decide) 15 (nm_app (nm_app (nm_app (nm_app (hfree 15 (by decide)) (by omega)) (by omega)) (by omega)) (by omega)) (fun _ => zD_15) (by decide) (by decide) dX9_init_44 (fun S_14 eS_14 ad_15 hag H hW hS hC => ?_)
  rw [← hag 1 (by omega)] at hl
  rw [← hag 1 (by omega)]
  have hg : ∀ z9 ∈ L, ad_15 z9 = ad z9 := fun z9 hx => (hag z9 (fun e9 => hfree 15 (by decide) (e9 ▸ hx))).trans (hg z9 hx)
  have h := bn_at eS_14 h
  refine gd_put (C := RX9) (T := TX9) (N := 7) (ci := 9) (v := .ref (ad_15 15)) hx hb hts inX9 tyX9 tyX9_ok nmX9 hown hK hW hS (me_l (me_l (me_l (me_l (me_l ho))))) (cD_1) rfl 5 (by decide) mw_104 rfl (Or.inr ⟨hin, rfl⟩) rfl rfl (Nat.le_of_ble_eq_true rfl) (sr S_14 1 5 (some 15)) (dr_1_5) cellD_sr dX9_init_46 (fun S_16 eS_16 H locs hW hS => ?_)
  have h := bn_at eS_16 h
  have hC : Cl (L ++ [11] ++ [12] ++ [13] ++ [14] ++ [15]) S_16 := eS_16 ▸ Cl_sr hC me_r
  refine lv_aload_n  hx hb dX9_init_49 rfl (lv_at hl 0 rfl) ?_
  refine lv_bipush (v := 10) hx hb dX9_init_50 (by decide) ?_
  refine gd_newa (ty := .int) (N' := 10) hx hb rfl hts mw_121 (fun C h9 => by cases h9) hK hT 1 rfl rfl hW hS hC (by decide) (by decide) (by decide) 16 (nm_app (nm_app (nm_app (nm_app (nm_app (hfree 16 (by decide)) (by omega)) (by omega)) (by omega)) (by omega)) (by omega)) (fun _ => zD_16) (by decide) (by decide) dX9_init_52 (fun S_17 eS_17 ad_18 hag H hW hS hC => ?_)
  rw [← hag 1 (by omega)] at hl
  rw [← hag 1 (by omega)]
  have hg : ∀ z9 ∈ L, ad_18 z9 = ad z9 := fun z9 hx => (hag z9 (fun e9 => hfree 16 (by decide) (e9 ▸ hx))).trans (hg z9 hx)
  have h := bn_at eS_17 h
  refine gd_put (C := RX9) (T := TX9) (N := 7) (ci := 9) (v := .ref (ad_18 16)) hx hb hts inX9 tyX9 tyX9_ok nmX9 hown hK hW hS (me_l (me_l (me_l (me_l (me_l (me_l ho)))))) (cD_1) rfl 6 (by decide) mw_105 rfl (Or.inr ⟨hin, rfl⟩) rfl rfl (Nat.le_of_ble_eq_true rfl) (sr S_17 1 6 (some 16)) (dr_1_6) cellD_sr dX9_init_54 (fun S_19 eS_19 H locs hW hS => ?_)
  have h := bn_at eS_19 h
  have hC : Cl (L ++ [11] ++ [12] ++ [13] ++ [14] ++ [15] ++ [16]) S_19 := eS_19 ▸ Cl_sr hC me_r
  refine lv_aload_n  hx hb dX9_init_57 rfl (lv_at hl 0 rfl) ?_
  refine gd_getr (C := RX9) (T := TX9) (N := 7) (ci := 9) (t := 11) hx hb hts inX9 hown hK hW (me_l (me_l (me_l (me_l (me_l (me_l ho)))))) (cD_1) rfl 1 (by decide) mw_100 rfl (by rw [eS_19, eS_17, eS_16, eS_14, eS_13, eS_11, eS_10, eS_8, eS_7, eS_5, eS_4, eS_2, eS_1]; rfl) rfl dX9_init_58 ?_
  refine lv_iconst (v := 0) hx hb dX9_init_61 (by decide) ?_
  refine lv_iconst (v := 1) hx hb dX9_init_62 (by decide) ?_
  refine gd_iast hx hb hK hW hS (me_l (me_l (me_l (me_l (me_l me_r))))) (fun _ => cD_11) (by decide) dX9_init_63 (fun S_20 eS_20 H locs hW hS => ?_)
  have h := bn_at eS_20 h
  have hC : Cl (L ++ [11] ++ [12] ++ [13] ++ [14] ++ [15] ++ [16]) S_20 := eS_20 ▸ Cl_sv hC
  refine lv_aload_n  hx hb dX9_init_64 rfl (lv_at hl 0 rfl) ?_
  refine gd_getr (C := RX9) (T := TX9) (N := 7) (ci := 9) (t := 12) hx hb hts inX9 hown hK hW (me_l (me_l (me_l (me_l (me_l (me_l ho)))))) (cD_1) rfl 2 (by decide) mw_101 rfl (by rw [eS_20, eS_19, eS_17, eS_16, eS_14, eS_13, eS_11, eS_10, eS_8, eS_7, eS_5, eS_4, eS_2, eS_1]; rfl) rfl dX9_init_65 ?_
  refine lv_iconst (v := 0) hx hb dX9_init_68 (by decide) ?_
  refine lv_iconst (v := 1) hx hb dX9_init_69 (by decide) ?_
  refine gd_iast hx hb hK hW hS (me_l (me_l (me_l (me_l me_r)))) (fun _ => cD_12) (by decide) dX9_init_70 (fun S_21 eS_21 H locs hW hS => ?_)
  have h := bn_at eS_21 h
  have hC : Cl (L ++ [11] ++ [12] ++ [13] ++ [14] ++ [15] ++ [16]) S_21 := eS_21 ▸ Cl_sv hC
  cases h
  exact gd_vret hx hb hr hlocks hW hS hC hg dX9_init_71
theorem c_X9_init {S S9 : St} (ho : 1 ∈ L) (hfree : ∀ i ∈ [11, 12, 13, 14, 15, 16], i ∉ L) (hC : Cl L S) (h : f_X9_init S = some S9) : Met l yX9_init (gws yX9_init cX9_init 1 none) (rmc 1 6 60) (va_Pc [.ref (ad 1)] (WD g A ad L S)) (qd g A ad L (L ++ [11] ++ [12] ++ [13] ++ [14] ++ [15] ++ [16]) S9) 6 60 A :=
  gd_met [.ref (ad 1)] (by decide) (Nat.le_of_ble_eq_true rfl) (fun p e s m below meth c ls C hW hl hin => t_X9_init C hin ho hfree hC h hW va_S.rf hl)
theorem hi_X9_init : yX9_init.cls ≠ "java/lang/invoke/MethodHandle" ∧ yX9_init.cls ≠ "java/lang/invoke/VarHandle" ∧ (parseMethodDescriptor yX9_init.desc).map (fun d => d.parameters.length) = some 0 := by decide +kernel
def f_X2_init (S : St) : Option St := bn (sv S 2 0 0) fun S_1 => bn (zr S_1 21) fun S_2 => bn (sr S_2 2 1 (some 21)) fun S_4 => bn (zr S_4 22) fun S_5 => bn (sr S_5 2 2 (some 22)) fun S_7 => some S_7
set_option maxHeartbeats 8000000 in
set_option maxRecDepth 8000 in
theorem t_X2_init (C : MC p s m args meth c cX2_init 1 none RX2 g A) (hin : meth.name = "<init>") {S S9 : St} (ho : 2 ∈ L) (hfree : ∀ i ∈ [21, 22], i ∉ L) (hC : Cl L S) (h : f_X2_init S = some S9) {H : Heap} {locs : List Loc} {ls : Array Slot} (hW : GD g A ad L S H) (hS : va_S A s.heap H locs) (hl : lv_has ls 1 [(0, .ref (ad 2))]) : W p l e (rmc 1 2 60) s m args below meth c H locs 0 0 (MQ below (qd g A ad L (L ++ [21] ++ [22]) S9) args s 2 60 A) (F0 m 0 ls []) := by
  obtain ⟨hx, hb, hml, hown, hts, hr, hlocks, hK, hN, hT⟩ := id C
  have hg : ∀ x ∈ L, ad x = ad x := fun _ _ => rfl
  unfold f_X2_init at h
  refine lv_aload_n  hx hb dX2_init_0 rfl (lv_at hl 0 rfl) ?_
  refine W.objInit hx hb hown (hts _ mw_127) (hts _ mw_90) (hts _ mw_obj) rfl (by rw [hml]; exact hl.1) rfl dX2_init_1 (by decide) (Nat.le_of_ble_eq_true rfl) ?_
  refine W.eq (g2 := F0 m 4 ls []) rfl ?_
  refine lv_aload_n  hx hb dX2_init_4 rfl (lv_at hl 0 rfl) ?_
  refine lv_iconst (v := 0) hx hb dX2_init_5 (by decide) ?_
  refine gd_put (C := RX2) (T := TX2) (N := 3) (ci := 2) (v := .int 0) hx hb hts inX2 tyX2 tyX2_ok nmX2 hown hK hW hS ho (cD_2) rfl 0 (by decide) mw_128 rfl (Or.inr ⟨hin, rfl⟩) rfl rfl (Nat.le_of_ble_eq_true rfl) (sv S 2 0 0) (dv_2_0) cellD_sv dX2_init_6 (fun S_1 eS_1 H locs hW hS => ?_)
  have h := bn_at eS_1 h
  have hC : Cl L S_1 := eS_1 ▸ Cl_sv hC
  refine lv_aload_n  hx hb dX2_init_9 rfl (lv_at hl 0 rfl) ?_
  refine lv_bipush (v := 30) hx hb dX2_init_10 (by decide) ?_
  refine gd_newa (ty := .int) (N' := 30) hx hb rfl hts mw_121 (fun C h9 => by cases h9) hK hT 1 rfl rfl hW hS hC (by decide) (by decide) (by decide) 21 (hfree 21 (by decide)) (fun _ => zD_21) (by decide) (by decide) dX2_init_12 (fun S_2 eS_2 ad_3 hag H hW hS hC => ?_)
  rw [← hag 2 (by omega)] at hl
  rw [← hag 2 (by omega)]
  have hg : ∀ z9 ∈ L, ad_3 z9 = ad z9 := fun z9 hx => (hag z9 (fun e9 => hfree 21 (by decide) (e9 ▸ hx))).trans (hg z9 hx)
  have h := bn_at eS_2 h
  refine gd_put (C := RX2) (T := TX2) (N := 3) (ci := 2) (v := .ref (ad_3 21)) hx hb hts inX2 tyX2 tyX2_ok nmX2 hown hK hW hS (me_l ho) (cD_2) rfl 1 (by decide) mw_130 rfl (Or.inr ⟨hin, rfl⟩) rfl rfl (Nat.le_of_ble_eq_true rfl) (sr S_2 2 1 (some 21)) (dr_2_1) cellD_sr dX2_init_14 (fun S_4 eS_4 H locs hW hS => ?_)
  have h := bn_at eS_4 h
  have hC : Cl (L ++ [21]) S_4 := eS_4 ▸ Cl_sr hC me_r
  refine lv_aload_n  hx hb dX2_init_17 rfl (lv_at hl 0 rfl) ?_
  refine lv_bipush (v := 30) hx hb dX2_init_18 (by decide) ?_
  refine gd_newa (ty := .int) (N' := 30) hx hb rfl hts mw_121 (fun C h9 => by cases h9) hK hT 1 rfl rfl hW hS hC (by decide) (by decide) (by decide) 22 (nm_app (hfree 22 (by decide)) (by omega)) (fun _ => zD_22) (by decide) (by decide) dX2_init_20 (fun S_5 eS_5 ad_6 hag H hW hS hC => ?_)
  rw [← hag 2 (by omega)] at hl
  rw [← hag 2 (by omega)]
  have hg : ∀ z9 ∈ L, ad_6 z9 = ad z9 := fun z9 hx => (hag z9 (fun e9 => hfree 22 (by decide) (e9 ▸ hx))).trans (hg z9 hx)
  have h := bn_at eS_5 h
  refine gd_put (C := RX2) (T := TX2) (N := 3) (ci := 2) (v := .ref (ad_6 22)) hx hb hts inX2 tyX2 tyX2_ok nmX2 hown hK hW hS (me_l (me_l ho)) (cD_2) rfl 2 (by decide) mw_131 rfl (Or.inr ⟨hin, rfl⟩) rfl rfl (Nat.le_of_ble_eq_true rfl) (sr S_5 2 2 (some 22)) (dr_2_2) cellD_sr dX2_init_22 (fun S_7 eS_7 H locs hW hS => ?_)
  have h := bn_at eS_7 h
  have hC : Cl (L ++ [21] ++ [22]) S_7 := eS_7 ▸ Cl_sr hC me_r
  cases h
  exact gd_vret hx hb hr hlocks hW hS hC hg dX2_init_25
theorem c_X2_init {S S9 : St} (ho : 2 ∈ L) (hfree : ∀ i ∈ [21, 22], i ∉ L) (hC : Cl L S) (h : f_X2_init S = some S9) : Met l yX2_init (gws yX2_init cX2_init 1 none) (rmc 1 2 60) (va_Pc [.ref (ad 2)] (WD g A ad L S)) (qd g A ad L (L ++ [21] ++ [22]) S9) 2 60 A :=
  gd_met [.ref (ad 2)] (by decide) (Nat.le_of_ble_eq_true rfl) (fun p e s m below meth c ls C hW hl hin => t_X2_init C hin ho hfree hC h hW va_S.rf hl)
theorem hi_X2_init : yX2_init.cls ≠ "java/lang/invoke/MethodHandle" ∧ yX2_init.cls ≠ "java/lang/invoke/VarHandle" ∧ (parseMethodDescriptor yX2_init.desc).map (fun d => d.parameters.length) = some 0 := by decide +kernel
def f_X7_init (S : St) : Option St := bn (sv S 4 0 0) fun S_1 => bn (zr S_1 41) fun S_2 => bn (sr S_2 4 1 (some 41)) fun S_4 => bn (zr S_4 42) fun S_5 => bn (sr S_5 4 2 (some 42)) fun S_7 => bn (zr S_7 43) fun S_8 => bn (sr S_8 4 3 (some 43)) fun S_10 => bn (zr S_10 44) fun S_11 => bn (sr S_11 4 4 (some 44)) fun S_13 => bn (zr S_13 45) fun S_14 => bn (sr S_14 4 5 (some 45)) fun S_16 => bn (zr S_16 46) fun S_17 => bn (sr S_17 4 6 (some 46)) fun S_19 => bn (zr S_19 47) fun S_20 => bn (sr S_20 4 7 (some 47)) fun S_22 => some S_22
set_option maxHeartbeats 8000000 in
set_option maxRecDepth 8000 in
theorem t_X7_init (C : MC p s m args meth c cX7_init 1 none RX7 g A) (hin : meth.name = "<init>") {S S9 : St} (ho : 4 ∈ L) (hfree : ∀ i ∈ [41, 42, 43, 44, 45, 46, 47], i ∉ L) (hC : Cl L S) (h : f_X7_init S = some S9) {H : Heap} {locs : List Loc} {ls : Array Slot} (hW : GD g A ad L S H) (hS : va_S A s.heap H locs) (hl : lv_has ls 1 [(0, .ref (ad 4))]) : W p l e (rmc 1 7 420) s m args below meth c H locs 0 0 (MQ below (qd g A ad L (L ++ [41] ++ [42] ++ [43] ++ [44] ++ [45] ++ [46] ++ [47]) S9) args s 7 420 A) (F0 m 0 ls []) := by
  obtain ⟨hx, hb, hml, hown, hts, hr, hlocks, hK, hN, hT⟩ := id C
  have hg : ∀ x ∈ L, ad x = ad x := fun _ _ => rfl
  unfold f_X7_init at h
  refine lv_aload_n  hx hb dX7_init_0 rfl (lv_at hl 0 rfl) ?_
  refine W.objInit hx hb hown (hts _ mw_150) (hts _ mw_90) (hts _ mw_obj) rfl (by rw [hml]; exact hl.1) rfl dX7_init_1 (by decide) (Nat.le_of_ble_eq_true rfl) ?_
  refine W.eq (g2 := F0 m 4 ls []) rfl ?_
  refine lv_aload_n  hx hb dX7_init_4 rfl (lv_at hl 0 rfl) ?_
  refine lv_iconst (v := 0) hx hb dX7_init_5 (by decide) ?_
  refine gd_put (C := RX7) (T := TX7) (N := 8) (ci := 7) (v := .int 0) hx hb hts inX7 tyX7 tyX7_ok nmX7 hown hK hW hS ho (cD_4) rfl 0 (by decide) mw_151 rfl (Or.inr ⟨hin, rfl⟩) rfl rfl (Nat.le_of_ble_eq_true rfl) (sv S 4 0 0) (dv_4_0) cellD_sv dX7_init_6 (fun S_1 eS_1 H locs hW hS => ?_)
  have h := bn_at eS_1 h
  have hC : Cl L S_1 := eS_1 ▸ Cl_sv hC
  refine lv_aload_n  hx hb dX7_init_9 rfl (lv_at hl 0 rfl) ?_
  refine lv_bipush (v := 60) hx hb dX7_init_10 (by decide) ?_
  refine gd_newa (ty := .int) (N' := 60) hx hb rfl hts mw_121 (fun C h9 => by cases h9) hK hT 1 rfl rfl hW hS hC (by decide) (by decide) (by decide) 41 (hfree 41 (by decide)) (fun _ => zD_41) (by decide) (by decide) dX7_init_12 (fun S_2 eS_2 ad_3 hag H hW hS hC => ?_)
  rw [← hag 4 (by omega)] at hl
  rw [← hag 4 (by omega)]
  have hg : ∀ z9 ∈ L, ad_3 z9 = ad z9 := fun z9 hx => (hag z9 (fun e9 => hfree 41 (by decide) (e9 ▸ hx))).trans (hg z9 hx)
  have h := bn_at eS_2 h
  refine gd_put (C := RX7) (T := TX7) (N := 8) (ci := 7) (v := .ref (ad_3 41)) hx hb hts inX7 tyX7 tyX7_ok nmX7 hown hK hW hS (me_l ho) (cD_4) rfl 1 (by decide) mw_153 rfl (Or.inr ⟨hin, rfl⟩) rfl rfl (Nat.le_of_ble_eq_true rfl) (sr S_2 4 1 (some 41)) (dr_4_1) cellD_sr dX7_init_14 (fun S_4 eS_4 H locs hW hS => ?_)
  have h := bn_at eS_4 h
  have hC : Cl (L ++ [41]) S_4 := eS_4 ▸ Cl_sr hC me_r
  refine lv_aload_n  hx hb dX7_init_17 rfl (lv_at hl 0 rfl) ?_
  refine lv_bipush (v := 60) hx hb dX7_init_18 (by decide) ?_
  refine gd_newa (ty := .int) (N' := 60) hx hb rfl hts mw_121 (fun C h9 => by cases h9) hK hT 1 rfl rfl hW hS hC (by decide) (by decide) (by decide) 42 (nm_app (hfree 42 (by decide)) (by omega)) (fun _ => zD_42) (by decide) (by decide) dX7_init_20 (fun S_5 eS_5 ad_6 hag H hW hS hC => ?_)
  rw [← hag 4 (by omega)] at hl
  rw [← hag 4 (by omega)]
  have hg : ∀ z9 ∈ L, ad_6 z9 = ad z9 := fun z9 hx => (hag z9 (fun e9 => hfree 42 (by decide) (e9 ▸ hx))).trans (hg z9 hx)
  have h := bn_at eS_5 h
  refine gd_put (C := RX7) (T := TX7) (N := 8) (ci := 7) (v := .ref (ad_6 42)) hx hb hts inX7 tyX7 tyX7_ok nmX7 hown hK hW hS (me_l (me_l ho)) (cD_4) rfl 2 (by decide) mw_154 rfl (Or.inr ⟨hin, rfl⟩) rfl rfl (Nat.le_of_ble_eq_true rfl) (sr S_5 4 2 (some 42)) (dr_4_2) cellD_sr dX7_init_22 (fun S_7 eS_7 H locs hW hS => ?_)
  have h := bn_at eS_7 h
  have hC : Cl (L ++ [41] ++ [42]) S_7 := eS_7 ▸ Cl_sr hC me_r
  refine lv_aload_n  hx hb dX7_init_25 rfl (lv_at hl 0 rfl) ?_
  refine lv_bipush (v := 60) hx hb dX7_init_26 (by decide) ?_
  refine gd_newa (ty := .int) (N' := 60) hx hb rfl hts mw_121 (fun C h9 => by cases h9) hK hT 1 rfl rfl hW hS hC (by decide) (by decide) (by decide) 43 (nm_app (nm_app (hfree 43 (by decide)) (by omega)) (by omega)) (fun _ => zD_43) (by decide) (by decide) dX7_init_28 (fun S_8 eS_8 ad_9 hag H hW hS hC => ?_)
  rw [← hag 4 (by omega)] at hl
  rw [← hag 4 (by omega)]
  have hg : ∀ z9 ∈ L, ad_9 z9 = ad z9 := fun z9 hx => (hag z9 (fun e9 => hfree 43 (by decide) (e9 ▸ hx))).trans (hg z9 hx)
  have h := bn_at eS_8 h
  refine gd_put (C := RX7) (T := TX7) (N := 8) (ci := 7) (v := .ref (ad_9 43)) hx hb hts inX7 tyX7 tyX7_ok nmX7 hown hK hW hS (me_l (me_l (me_l ho))) (cD_4) rfl 3 (by decide) mw_155 rfl (Or.inr ⟨hin, rfl⟩) rfl rfl (Nat.le_of_ble_eq_true rfl) (sr S_8 4 3 (some 43)) (dr_4_3) cellD_sr dX7_init_30 (fun S_10 eS_10 H locs hW hS => ?_)
  have h := bn_at eS_10 h
  have hC : Cl (L ++ [41] ++ [42] ++ [43]) S_10 := eS_10 ▸ Cl_sr hC me_r
  refine lv_aload_n  hx hb dX7_init_33 rfl (lv_at hl 0 rfl) ?_
  refine lv_bipush (v := 60) hx hb dX7_init_34 (by decide) ?_
  refine gd_newa (ty := .int) (N' := 60) hx hb rfl hts mw_121 (fun C h9 => by cases h9) hK hT 1 rfl rfl hW hS hC (by decide) (by decide) (by decide) 44 (nm_app (nm_app (nm_app (hfree 44 (by decide)) (by omega)) (by omega)) (by omega)) (fun _ => zD_44) (by decide) (by decide) dX7_init_36 (fun S_11 eS_11 ad_12 hag H hW hS hC => ?_)
  rw [← hag 4 (by omega)] at hl
  rw [← hag 4 (by omega)]
  have hg : ∀ z9 ∈ L, ad_12 z9 = ad z9 := fun z9 hx => (hag z9 (fun e9 => hfree 44 (by decide) (e9 ▸ hx))).trans (hg z9 hx)
  have h := bn_at eS_11 h
  refine gd_put (C := RX7) (T := TX7) (N := 8) (ci := 7) (v := .ref (ad_12 44)) hx hb hts inX7 tyX7 tyX7_ok nmX7 hown hK hW hS (me_l (me_l (me_l (me_l ho)))) (cD_4) rfl 4 (by decide) mw_156 rfl (Or.inr ⟨hin, rfl⟩) rfl rfl (Nat.le_of_ble_eq_true rfl) (sr S_11 4 4 (some 44)) (dr_4_4) cellD_sr dX7_init_38 (fun S_13 eS_13 H locs hW hS => ?_)
  have h := bn_at eS_13 h
  have hC : Cl (L ++ [41] ++ [42] ++ [43] ++ [44]) S_13 := eS_13 ▸ Cl_sr hC me_r
  refine lv_aload_n  hx hb dX7_init_41 rfl (lv_at hl 0 rfl) ?_
  refine lv_bipush (v := 60) hx hb dX7_init_42 (by decide) ?_
  refine gd_newa (ty := .int) (N' := 60) hx hb rfl hts mw_121 (fun C h9 => by cases h9) hK hT 1 rfl rfl hW hS hC (by decide) (by decide) (by decide) 45 (nm_app (nm_app (nm_app (nm_app (hfree 45 (by decide)) (by omega)) (by omega)) (by omega)) (by omega)) (fun _ => zD_45) (by decide) (by decide) dX7_init_44 (fun S_14 eS_14 ad_15 hag H hW hS hC => ?_)
  rw [← hag 4 (by omega)] at hl
  rw [← hag 4 (by omega)]
  have hg : ∀ z9 ∈ L, ad_15 z9 = ad z9 := fun z9 hx => (hag z9 (fun e9 => hfree 45 (by decide) (e9 ▸ hx))).trans (hg z9 hx)
  have h := bn_at eS_14 h
  refine gd_put (C := RX7) (T := TX7) (N := 8) (ci := 7) (v := .ref (ad_15 45)) hx hb hts inX7 tyX7 tyX7_ok nmX7 hown hK hW hS (me_l (me_l (me_l (me_l (me_l ho))))) (cD_4) rfl 5 (by decide) mw_157 rfl (Or.inr ⟨hin, rfl⟩) rfl rfl (Nat.le_of_ble_eq_true rfl) (sr S_14 4 5 (some 45)) (dr_4_5) cellD_sr dX7_init_46 (fun S_16 eS_16 H locs hW hS => ?_)
  have h := bn_at eS_16 h
  have hC : Cl (L ++ [41] ++ [42] ++ [43] ++ [44] ++ [45]) S_16 := eS_16 ▸ Cl_sr hC me_r
  refine lv_aload_n  hx hb dX7_init_49 rfl (lv_at hl 0 rfl) ?_
  refine lv_bipush (v := 60) hx hb dX7_init_50 (by decide) ?_
  refine gd_newa (ty := .int) (N' := 60) hx hb rfl hts mw_121 (fun C h9 => by cases h9) hK hT 1 rfl rfl hW hS hC (by decide) (by decide) (by decide) 46 (nm_app (nm_app (nm_app (nm_app (nm_app (hfree 46 (by decide)) (by omega)) (by omega)) (by omega)) (by omega)) (by omega)) (fun _ => zD_46) (by decide) (by decide) dX7_init_52 (fun S_17 eS_17 ad_18 hag H hW hS hC => ?_)
  rw [← hag 4 (by omega)] at hl
  rw [← hag 4 (by omega)]
  have hg : ∀ z9 ∈ L, ad_18 z9 = ad z9 := fun z9 hx => (hag z9 (fun e9 => hfree 46 (by decide) (e9 ▸ hx))).trans (hg z9 hx)
  have h := bn_at eS_17 h
  refine gd_put (C := RX7) (T := TX7) (N := 8) (ci := 7) (v := .ref (ad_18 46)) hx hb hts inX7 tyX7 tyX7_ok nmX7 hown hK hW hS (me_l (me_l (me_l (me_l (me_l (me_l ho)))))) (cD_4) rfl 6 (by decide) mw_158 rfl (Or.inr ⟨hin, rfl⟩) rfl rfl (Nat.le_of_ble_eq_true rfl) (sr S_17 4 6 (some 46)) (dr_4_6) cellD_sr dX7_init_54 (fun S_19 eS_19 H locs hW hS => ?_)
  have h := bn_at eS_19 h
  have hC : Cl (L ++ [41] ++ [42] ++ [43] ++ [44] ++ [45] ++ [46]) S_19 := eS_19 ▸ Cl_sr hC me_r
  refine lv_aload_n  hx hb dX7_init_57 rfl (lv_at hl 0 rfl) ?_
  refine lv_bipush (v := 60) hx hb dX7_init_58 (by decide) ?_
  refine gd_newa (ty := .int) (N' := 60) hx hb rfl hts mw_121 (fun C h9 => by cases h9) hK hT 1 rfl rfl hW hS hC (by decide) (by decide) (by decide) 47 (nm_app (nm_app (nm_app (nm_app (nm_app (nm_app (hfree 47 (by decide)) (by omega)) (by omega)) (by omega)) (by omega)) (by omega)) (by omega)) (fun _ => zD_47) (by decide) (by decide) dX7_init_60 (fun S_20 eS_20 ad_21 hag H hW hS hC => ?_)
  rw [← hag 4 (by omega)] at hl
  rw [← hag 4 (by omega)]
  have hg : ∀ z9 ∈ L, ad_21 z9 = ad z9 := fun z9 hx => (hag z9 (fun e9 => hfree 47 (by decide) (e9 ▸ hx))).trans (hg z9 hx)
  have h := bn_at eS_20 h
  refine gd_put (C := RX7) (T := TX7) (N := 8) (ci := 7) (v := .ref (ad_21 47)) hx hb hts inX7 tyX7 tyX7_ok nmX7 hown hK hW hS (me_l (me_l (me_l (me_l (me_l (me_l (me_l ho))))))) (cD_4) rfl 7 (by decide) mw_159 rfl (Or.inr ⟨hin, rfl⟩) rfl rfl (Nat.le_of_ble_eq_true rfl) (sr S_20 4 7 (some 47)) (dr_4_7) cellD_sr dX7_init_62 (fun S_22 eS_22 H locs hW hS => ?_)
  have h := bn_at eS_22 h
  have hC : Cl (L ++ [41] ++ [42] ++ [43] ++ [44] ++ [45] ++ [46] ++ [47]) S_22 := eS_22 ▸ Cl_sr hC me_r
  cases h
  exact gd_vret hx hb hr hlocks hW hS hC hg dX7_init_65
theorem c_X7_init {S S9 : St} (ho : 4 ∈ L) (hfree : ∀ i ∈ [41, 42, 43, 44, 45, 46, 47], i ∉ L) (hC : Cl L S) (h : f_X7_init S = some S9) : Met l yX7_init (gws yX7_init cX7_init 1 none) (rmc 1 7 420) (va_Pc [.ref (ad 4)] (WD g A ad L S)) (qd g A ad L (L ++ [41] ++ [42] ++ [43] ++ [44] ++ [45] ++ [46] ++ [47]) S9) 7 420 A :=
  gd_met [.ref (ad 4)] (by decide) (Nat.le_of_ble_eq_true rfl) (fun p e s m below meth c ls C hW hl hin => t_X7_init C hin ho hfree hC h hW va_S.rf hl)
theorem hi_X7_init : yX7_init.cls ≠ "java/lang/invoke/MethodHandle" ∧ yX7_init.cls ≠ "java/lang/invoke/VarHandle" ∧ (parseMethodDescriptor yX7_init.desc).map (fun d => d.parameters.length) = some 0 := by decide +kernel
def f_X0_init (S : St) : Option St := bn (sv S 3 0 0) fun S_1 => bn (zr S_1 4) fun S_2 => cl0 (f_X7_init S_2 ) fun S_5 => bn (sr S_5 3 1 (some 4)) fun S_7 => bn (zr S_7 32) fun S_8 => bn (sr S_8 3 2 (some 32)) fun S_10 => bn (zr S_10 33) fun S_11 => bn (sr S_11 3 3 (some 33)) fun S_13 => bn (zr S_13 34) fun S_14 => bn (sr S_14 3 4 (some 34)) fun S_16 => bn (zr S_16 35) fun S_17 => bn (sr S_17 3 5 (some 35)) fun S_19 => bn (zr S_19 36) fun S_20 => bn (sr S_20 3 6 (some 36)) fun S_22 => some S_22
set_option maxHeartbeats 8000000 in
set_option maxRecDepth 8000 in
theorem t_X0_init (C : MC p s m args meth c cX0_init 1 none RX0 g A) (hin : meth.name = "<init>") {S S9 : St} (ho : 3 ∈ L) (hfree : ∀ i ∈ [4, 41, 42, 43, 44, 45, 46, 47, 32, 33, 34, 35, 36], i ∉ L) (hC : Cl L S) (h : f_X0_init S = some S9) {H : Heap} {locs : List Loc} {ls : Array Slot} (hW : GD g A ad L S H) (hS : va_S A s.heap H locs) (hl : lv_has ls 1 [(0, .ref (ad 3))]) : W p l e (rmc 2 13 528) s m args below meth c H locs 0 0 (MQ below (qd g A ad L (L ++ [4] ++ [41] ++ [42] ++ [43] ++ [44] ++ [45] ++ [46] ++ [47] ++ [32] ++ [33] ++ [34] ++ [35] ++ [36]) S9) args s 13 528 A) (F0 m 0 ls []) := by
  obtain ⟨hx, hb, hml, hown, hts, hr, hlocks, hK, hN, hT⟩ := id C
  have hg : ∀ x ∈ L, ad x = ad x := fun _ _ => rfl
  unfold f_X0_init at h
  refine lv_aload_n  hx hb dX0_init_0 rfl (lv_at hl 0 rfl) ?_
  refine W.objInit hx hb hown (hts _ mw_144) (hts _ mw_90) (hts _ mw_obj) rfl (by rw [hml]; exact hl.1) rfl dX0_init_1 (by decide) (Nat.le_of_ble_eq_true rfl) ?_
  refine W.eq (g2 := F0 m 4 ls []) rfl ?_
  refine lv_aload_n  hx hb dX0_init_4 rfl (lv_at hl 0 rfl) ?_
  refine lv_iconst (v := 0) hx hb dX0_init_5 (by decide) ?_
  refine gd_put (C := RX0) (T := TX0) (N := 7) (ci := 0) (v := .int 0) hx hb hts inX0 tyX0 tyX0_ok nmX0 hown hK hW hS ho (cD_3) rfl 0 (by decide) mw_177 rfl (Or.inr ⟨hin, rfl⟩) rfl rfl (Nat.le_of_ble_eq_true rfl) (sv S 3 0 0) (dv_3_0) cellD_sv dX0_init_6 (fun S_1 eS_1 H locs hW hS => ?_)
  have h := bn_at eS_1 h
  have hC : Cl L S_1 := eS_1 ▸ Cl_sv hC
  refine lv_aload_n  hx hb dX0_init_9 rfl (lv_at hl 0 rfl) ?_
  refine gd_new (C := RX7) (T := TX7) (N := 8) (ci := 7) hx hb hts inX7 tyX7 tyX7_ok hown mw_145 mw_146 mw_70 hK hT hW hS hC rfl 4 (hfree 4 (by decide)) (fun j hj => by rcases (show j = 0 ∨ j = 1 ∨ j = 2 ∨ j = 3 ∨ j = 4 ∨ j = 5 ∨ j = 6 ∨ j = 7 by omega) with rfl | rfl | rfl | rfl | rfl | rfl | rfl | rfl <;> rfl) (fun _ => zD_4) (by decide) (by decide) dX0_init_10 (fun S_2 eS_2 ad_3 hag H hW hS hC => ?_)
  rw [← hag 3 (by omega)] at hl
  rw [← hag 3 (by omega)]
  have hg : ∀ z9 ∈ L, ad_3 z9 = ad z9 := fun z9 hx => (hag z9 (fun e9 => hfree 4 (by decide) (e9 ▸ hx))).trans (hg z9 hx)
  have h := bn_at eS_2 h
  refine lv_dup hx hb dX0_init_13 rfl ?_
  obtain ⟨S_5, hc_4, h⟩ := cl0_ex h
  refine gd_c (gd_runIN (o := 4) (As := []) (rest := [.ref (ad_3 4), .ref (ad_3 3)]) hx hb hml hown hts hK hN hT hS hW (c_X7_init me_r (by intro i9 hi9; simp only [List.mem_cons, List.not_mem_nil, or_false] at hi9; rcases hi9 with rfl | rfl | rfl | rfl | rfl | rfl | rfl <;> first | exact (nm_app (hfree 41 (by decide)) (by omega)) | exact (nm_app (hfree 42 (by decide)) (by omega)) | exact (nm_app (hfree 43 (by decide)) (by omega)) | exact (nm_app (hfree 44 (by decide)) (by omega)) | exact (nm_app (hfree 45 (by decide)) (by omega)) | exact (nm_app (hfree 46 (by decide)) (by omega)) | exact (nm_app (hfree 47 (by decide)) (by omega))) hC hc_4) mw_149 (by decide +kernel) mw_148 mw_70 rfl hi_X7_init rfl rfl rfl (rc_ok (by decide) (by decide)) hl.1 (Nat.le_of_ble_eq_true rfl) dX0_init_14 rfl ⟨by decide, by decide⟩) hS (fun ad_6 hag H locs hW hS hC => ?_)
  rw [← hag 3 (me_l ho)] at hl
  rw [← hag 3 (me_l ho), ← hag 4 me_r]
  have hg : ∀ z9 ∈ L, ad_6 z9 = ad z9 := fun z9 hx => (hag z9 (me_l hx)).trans (hg z9 hx)
  refine gd_put (C := RX0) (T := TX0) (N := 7) (ci := 0) (v := .ref (ad_6 4)) hx hb hts inX0 tyX0 tyX0_ok nmX0 hown hK hW hS (me_l (me_l (me_l (me_l (me_l (me_l (me_l (me_l ho)))))))) (cD_3) rfl 1 (by decide) mw_179 rfl (Or.inr ⟨hin, rfl⟩) rfl rfl (Nat.le_of_ble_eq_true rfl) (sr S_5 3 1 (some 4)) (dr_3_1) cellD_sr dX0_init_17 (fun S_7 eS_7 H locs hW hS => ?_)
  have h := bn_at eS_7 h
  have hC : Cl (L ++ [4] ++ [41] ++ [42] ++ [43] ++ [44] ++ [45] ++ [46] ++ [47]) S_7 := eS_7 ▸ Cl_sr hC (me_l (me_l (me_l (me_l (me_l (me_l (me_l me_r)))))))
  refine lv_aload_n  hx hb dX0_init_20 rfl (lv_at hl 0 rfl) ?_
  refine lv_bipush (v := 20) hx hb dX0_init_21 (by decide) ?_
  refine gd_newa (ty := .int) (N' := 20) hx hb rfl hts mw_121 (fun C h9 => by cases h9) hK hT 1 rfl rfl hW hS hC (by decide) (by decide) (by decide) 32 (nm_app (nm_app (nm_app (nm_app (nm_app (nm_app (nm_app (nm_app (hfree 32 (by decide)) (by omega)) (by omega)) (by omega)) (by omega)) (by omega)) (by omega)) (by omega)) (by omega)) (fun _ => zD_32) (by decide) (by decide) dX0_init_23 (fun S_8 eS_8 ad_9 hag H hW hS hC => ?_)
  rw [← hag 3 (by omega)] at hl
  rw [← hag 3 (by omega)]
  have hg : ∀ z9 ∈ L, ad_9 z9 = ad z9 := fun z9 hx => (hag z9 (fun e9 => hfree 32 (by decide) (e9 ▸ hx))).trans (hg z9 hx)
  have h := bn_at eS_8 h
  refine gd_put (C := RX0) (T := TX0) (N := 7) (ci := 0) (v := .ref (ad_9 32)) hx hb hts inX0 tyX0 tyX0_ok nmX0 hown hK hW hS (me_l (me_l (me_l (me_l (me_l (me_l (me_l (me_l (me_l ho))))))))) (cD_3) rfl 2 (by decide) mw_181 rfl (Or.inr ⟨hin, rfl⟩) rfl rfl (Nat.le_of_ble_eq_true rfl) (sr S_8 3 2 (some 32)) (dr_3_2) cellD_sr dX0_init_25 (fun S_10 eS_10 H locs hW hS => ?_)
  have h := bn_at eS_10 h
  have hC : Cl (L ++ [4] ++ [41] ++ [42] ++ [43] ++ [44] ++ [45] ++ [46] ++ [47] ++ [32]) S_10 := eS_10 ▸ Cl_sr hC me_r
  refine lv_aload_n  hx hb dX0_init_28 rfl (lv_at hl 0 rfl) ?_
  refine lv_bipush (v := 20) hx hb dX0_init_29 (by decide) ?_
  refine gd_newa (ty := .int) (N' := 20) hx hb rfl hts mw_121 (fun C h9 => by cases h9) hK hT 1 rfl rfl hW hS hC (by decide) (by decide) (by decide) 33 (nm_app (nm_app (nm_app (nm_app (nm_app (nm_app (nm_app (nm_app (nm_app (hfree 33 (by decide)) (by omega)) (by omega)) (by omega)) (by omega)) (by omega)) (by omega)) (by omega)) (by omega)) (by omega)) (fun _ => zD_33) (by decide) (by decide) dX0_init_31 (fun S_11 eS_11 ad_12 hag H hW hS hC => ?_)
  rw [← hag 3 (by omega)] at hl
  rw [← hag 3 (by omega)]
  have hg : ∀ z9 ∈ L, ad_12 z9 = ad z9 := fun z9 hx => (hag z9 (fun e9 => hfree 33 (by decide) (e9 ▸ hx))).trans (hg z9 hx)
  have h := bn_at eS_11 h
  refine gd_put (C := RX0) (T := TX0) (N := 7) (ci := 0) (v := .ref (ad_12 33)) hx hb hts inX0 tyX0 tyX0_ok nmX0 hown hK hW hS (me_l (me_l (me_l (me_l (me_l (me_l (me_l (me_l (me_l (me_l ho)))))))))) (cD_3) rfl 3 (by decide) mw_182 rfl (Or.inr ⟨hin, rfl⟩) rfl rfl (Nat.le_of_ble_eq_true rfl) (sr S_11 3 3 (some 33)) (dr_3_3) cellD_sr dX0_init_33 (fun S_13 eS_13 H locs hW hS => ?_)
  have h := bn_at eS_13 h
  have hC : Cl (L ++ [4] ++ [41] ++ [42] ++ [43] ++ [44] ++ [45] ++ [46] ++ [47] ++ [32] ++ [33]) S_13 := eS_13 ▸ Cl_sr hC me_r
  refine lv_aload_n  hx hb dX0_init_36 rfl (lv_at hl 0 rfl) ?_
  refine lv_bipush (v := 20) hx hb dX0_init_37 (by decide) ?_
  refine gd_newa (ty := .int) (N' := 20) hx hb rfl hts mw_121 (fun C h9 => by cases h9) hK hT 1 rfl rfl hW hS hC (by decide) (by decide) (by decide) 34 (nm_app (nm_app (nm_app (nm_app (nm_app (nm_app (nm_app (nm_app (nm_app (nm_app (hfree 34 (by decide)) (by omega)) (by omega)) (by omega)) (by omega)) (by omega)) (by omega)) (by omega)) (by omega)) (by omega)) (by omega)) (fun _ => zD_34) (by decide) (by decide) dX0_init_39 (fun S_14 eS_14 ad_15 hag H hW hS hC => ?_)
  rw [← hag 3 (by omega)] at hl
  rw [← hag 3 (by omega)]
  have hg : ∀ z9 ∈ L, ad_15 z9 = ad z9 := fun z9 hx => (hag z9 (fun e9 => hfree 34 (by decide) (e9 ▸ hx))).trans (hg z9 hx)
  have h := bn_at eS_14 h
  refine gd_put (C := RX0) (T := TX0) (N := 7) (ci := 0) (v := .ref (ad_15 34)) hx hb hts inX0 tyX0 tyX0_ok nmX0 hown hK hW hS (me_l (me_l (me_l (me_l (me_l (me_l (me_l (me_l (me_l (me_l (me_l ho))))))))))) (cD_3) rfl 4 (by decide) mw_183 rfl (Or.inr ⟨hin, rfl⟩) rfl rfl (Nat.le_of_ble_eq_true rfl) (sr S_14 3 4 (some 34)) (dr_3_4) cellD_sr dX0_init_41 (fun S_16 eS_16 H locs hW hS => ?_)
  have h := bn_at eS_16 h
  have hC : Cl (L ++ [4] ++ [41] ++ [42] ++ [43] ++ [44] ++ [45] ++ [46] ++ [47] ++ [32] ++ [33] ++ [34]) S_16 := eS_16 ▸ Cl_sr hC me_r
  refine lv_aload_n  hx hb dX0_init_44 rfl (lv_at hl 0 rfl) ?_
  refine lv_bipush (v := 20) hx hb dX0_init_45 (by decide) ?_
  refine gd_newa (ty := .int) (N' := 20) hx hb rfl hts mw_121 (fun C h9 => by cases h9) hK hT 1 rfl rfl hW hS hC (by decide) (by decide) (by decide) 35 (nm_app (nm_app (nm_app (nm_app (nm_app (nm_app (nm_app (nm_app (nm_app (nm_app (nm_app (hfree 35 (by decide)) (by omega)) (by omega)) (by omega)) (by omega)) (by omega)) (by omega)) (by omega)) (by omega)) (by omega)) (by omega)) (by omega)) (fun _ => zD_35) (by decide) (by decide) dX0_init_47 (fun S_17 eS_17 ad_18 hag H hW hS hC => ?_)
  rw [← hag 3 (by omega)] at hl
  rw [← hag 3 (by omega)]
  have hg : ∀ z9 ∈ L, ad_18 z9 = ad z9 := fun z9 hx => (hag z9 (fun e9 => hfree 35 (by decide) (e9 ▸ hx))).trans (hg z9 hx)
  have h := bn_at eS_17 h
  refine gd_put (C := RX0) (T := TX0) (N := 7) (ci := 0) (v := .ref (ad_18 35)) hx hb hts inX0 tyX0 tyX0_ok nmX0 hown hK hW hS (me_l (me_l (me_l (me_l (me_l (me_l (me_l (me_l (me_l (me_l (me_l (me_l ho)))))))))))) (cD_3) rfl 5 (by decide) mw_184 rfl (Or.inr ⟨hin, rfl⟩) rfl rfl (Nat.le_of_ble_eq_true rfl) (sr S_17 3 5 (some 35)) (dr_3_5) cellD_sr dX0_init_49 (fun S_19 eS_19 H locs hW hS => ?_)
  have h := bn_at eS_19 h
  have hC : Cl (L ++ [4] ++ [41] ++ [42] ++ [43] ++ [44] ++ [45] ++ [46] ++ [47] ++ [32] ++ [33] ++ [34] ++ [35]) S_19 := eS_19 ▸ Cl_sr hC me_r
  refine lv_aload_n  hx hb dX0_init_52 rfl (lv_at hl 0 rfl) ?_
  refine lv_bipush (v := 20) hx hb dX0_init_53 (by decide) ?_
  refine gd_newa (ty := .int) (N' := 20) hx hb rfl hts mw_121 (fun C h9 => by cases h9) hK hT 1 rfl rfl hW hS hC (by decide) (by decide) (by decide) 36 (nm_app (nm_app (nm_app (nm_app (nm_app (nm_app (nm_app (nm_app (nm_app (nm_app (nm_app (nm_app (hfree 36 (by decide)) (by omega)) (by omega)) (by omega)) (by omega)) (by omega)) (by omega)) (by omega)) (by omega)) (by omega)) (by omega)) (by omega)) (by omega)) (fun _ => zD_36) (by decide) (by decide) dX0_init_55 (fun S_20 eS_20 ad_21 hag H hW hS hC => ?_)
  rw [← hag 3 (by omega)] at hl
  rw [← hag 3 (by omega)]
  have hg : ∀ z9 ∈ L, ad_21 z9 = ad z9 := fun z9 hx => (hag z9 (fun e9 => hfree 36 (by decide) (e9 ▸ hx))).trans (hg z9 hx)
  have h := bn_at eS_20 h
  refine gd_put (C := RX0) (T := TX0) (N := 7) (ci := 0) (v := .ref (ad_21 36)) hx hb hts inX0 tyX0 tyX0_ok nmX0 hown hK hW hS (me_l (me_l (me_l (me_l (me_l (me_l (me_l (me_l (me_l (me_l (me_l (me_l (me_l ho))))))))))))) (cD_3) rfl 6 (by decide) mw_185 rfl (Or.inr ⟨hin, rfl⟩) rfl rfl (Nat.le_of_ble_eq_true rfl) (sr S_20 3 6 (some 36)) (dr_3_6) cellD_sr dX0_init_57 (fun S_22 eS_22 H locs hW hS => ?_)
  have h := bn_at eS_22 h
  have hC : Cl (L ++ [4] ++ [41] ++ [42] ++ [43] ++ [44] ++ [45] ++ [46] ++ [47] ++ [32] ++ [33] ++ [34] ++ [35] ++ [36]) S_22 := eS_22 ▸ Cl_sr hC me_r
  cases h
  exact gd_vret hx hb hr hlocks hW hS hC hg dX0_init_60
theorem c_X0_init {S S9 : St} (ho : 3 ∈ L) (hfree : ∀ i ∈ [4, 41, 42, 43, 44, 45, 46, 47, 32, 33, 34, 35, 36], i ∉ L) (hC : Cl L S) (h : f_X0_init S = some S9) : Met l yX0_init (gws yX0_init cX0_init 1 none) (rmc 2 13 528) (va_Pc [.ref (ad 3)] (WD g A ad L S)) (qd g A ad L (L ++ [4] ++ [41] ++ [42] ++ [43] ++ [44] ++ [45] ++ [46] ++ [47] ++ [32] ++ [33] ++ [34] ++ [35] ++ [36]) S9) 13 528 A :=
  gd_met [.ref (ad 3)] (by decide) (Nat.le_of_ble_eq_true rfl) (fun p e s m below meth c ls C hW hl hin => t_X0_init C hin ho hfree hC h hW va_S.rf hl)
theorem hi_X0_init : yX0_init.cls ≠ "java/lang/invoke/MethodHandle" ∧ yX0_init.cls ≠ "java/lang/invoke/VarHandle" ∧ (parseMethodDescriptor yX0_init.desc).map (fun d => d.parameters.length) = some 0 := by decide +kernel
def f_X8_init (S : St) : Option St := bn (zr S 50) fun S_1 => bn (sr S_1 5 0 (some 50)) fun S_3 => bn (zr S_3 51) fun S_4 => bn (sr S_4 5 1 (some 51)) fun S_6 => bn (sv S_6 5 2 0) fun S_7 => some S_7
set_option maxHeartbeats 8000000 in
set_option maxRecDepth 8000 in
theorem t_X8_init (C : MC p s m args meth c cX8_init 1 none RX8 g A) (hin : meth.name = "<init>") {S S9 : St} (ho : 5 ∈ L) (hfree : ∀ i ∈ [50, 51], i ∉ L) (hC : Cl L S) (h : f_X8_init S = some S9) {H : Heap} {locs : List Loc} {ls : Array Slot} (hW : GD g A ad L S H) (hS : va_S A s.heap H locs) (hl : lv_has ls 1 [(0, .ref (ad 5))]) : W p l e (rmc 1 2 89) s m args below meth c H locs 0 0 (MQ below (qd g A ad L (L ++ [50] ++ [51]) S9) args s 2 89 A) (F0 m 0 ls []) := by
  obtain ⟨hx, hb, hml, hown, hts, hr, hlocks, hK, hN, hT⟩ := id C
  have hg : ∀ x ∈ L, ad x = ad x := fun _ _ => rfl
  unfold f_X8_init at h
  refine lv_aload_n  hx hb dX8_init_0 rfl (lv_at hl 0 rfl) ?_
  refine W.objInit hx hb hown (hts _ mw_208) (hts _ mw_90) (hts _ mw_obj) rfl (by rw [hml]; exact hl.1) rfl dX8_init_1 (by decide) (Nat.le_of_ble_eq_true rfl) ?_
  refine W.eq (g2 := F0 m 4 ls []) rfl ?_
  refine lv_aload_n  hx hb dX8_init_4 rfl (lv_at hl 0 rfl) ?_
  refine lv_bipush (v := 9) hx hb dX8_init_5 (by decide) ?_
  refine gd_newa (ty := .int) (N' := 9) hx hb rfl hts mw_121 (fun C h9 => by cases h9) hK hT 1 rfl rfl hW hS hC (by decide) (by decide) (by decide) 50 (hfree 50 (by decide)) (fun _ => zD_50) (by decide) (by decide) dX8_init_7 (fun S_1 eS_1 ad_2 hag H hW hS hC => ?_)
  rw [← hag 5 (by omega)] at hl
  rw [← hag 5 (by omega)]
  have hg : ∀ z9 ∈ L, ad_2 z9 = ad z9 := fun z9 hx => (hag z9 (fun e9 => hfree 50 (by decide) (e9 ▸ hx))).trans (hg z9 hx)
  have h := bn_at eS_1 h
  refine gd_put (C := RX8) (T := TX8) (N := 3) (ci := 8) (v := .ref (ad_2 50)) hx hb hts inX8 tyX8 tyX8_ok nmX8 hown hK hW hS (me_l ho) (cD_5) rfl 0 (by decide) mw_209 rfl (Or.inr ⟨hin, rfl⟩) rfl rfl (Nat.le_of_ble_eq_true rfl) (sr S_1 5 0 (some 50)) (dr_5_0) cellD_sr dX8_init_9 (fun S_3 eS_3 H locs hW hS => ?_)
  have h := bn_at eS_3 h
  have hC : Cl (L ++ [50]) S_3 := eS_3 ▸ Cl_sr hC me_r
  refine lv_aload_n  hx hb dX8_init_12 rfl (lv_at hl 0 rfl) ?_
  refine lv_bipush (v := 80) hx hb dX8_init_13 (by decide) ?_
  refine gd_newa (ty := .int) (N' := 80) hx hb rfl hts mw_121 (fun C h9 => by cases h9) hK hT 1 rfl rfl hW hS hC (by decide) (by decide) (by decide) 51 (nm_app (hfree 51 (by decide)) (by omega)) (fun _ => zD_51) (by decide) (by decide) dX8_init_15 (fun S_4 eS_4 ad_5 hag H hW hS hC => ?_)
  rw [← hag 5 (by omega)] at hl
  rw [← hag 5 (by omega)]
  have hg : ∀ z9 ∈ L, ad_5 z9 = ad z9 := fun z9 hx => (hag z9 (fun e9 => hfree 51 (by decide) (e9 ▸ hx))).trans (hg z9 hx)
  have h := bn_at eS_4 h
  refine gd_put (C := RX8) (T := TX8) (N := 3) (ci := 8) (v := .ref (ad_5 51)) hx hb hts inX8 tyX8 tyX8_ok nmX8 hown hK hW hS (me_l (me_l ho)) (cD_5) rfl 1 (by decide) mw_210 rfl (Or.inr ⟨hin, rfl⟩) rfl rfl (Nat.le_of_ble_eq_true rfl) (sr S_4 5 1 (some 51)) (dr_5_1) cellD_sr dX8_init_17 (fun S_6 eS_6 H locs hW hS => ?_)
  have h := bn_at eS_6 h
  have hC : Cl (L ++ [50] ++ [51]) S_6 := eS_6 ▸ Cl_sr hC me_r
  refine lv_aload_n  hx hb dX8_init_20 rfl (lv_at hl 0 rfl) ?_
  refine lv_iconst (v := 0) hx hb dX8_init_21 (by decide) ?_
  refine gd_put (C := RX8) (T := TX8) (N := 3) (ci := 8) (v := .int 0) hx hb hts inX8 tyX8 tyX8_ok nmX8 hown hK hW hS (me_l (me_l ho)) (cD_5) rfl 2 (by decide) mw_211 rfl (Or.inr ⟨hin, rfl⟩) rfl rfl (Nat.le_of_ble_eq_true rfl) (sv S_6 5 2 0) (dv_5_2) cellD_sv dX8_init_22 (fun S_7 eS_7 H locs hW hS => ?_)
  have h := bn_at eS_7 h
  have hC : Cl (L ++ [50] ++ [51]) S_7 := eS_7 ▸ Cl_sv hC
  cases h
  exact gd_vret hx hb hr hlocks hW hS hC hg dX8_init_25
theorem c_X8_init {S S9 : St} (ho : 5 ∈ L) (hfree : ∀ i ∈ [50, 51], i ∉ L) (hC : Cl L S) (h : f_X8_init S = some S9) : Met l yX8_init (gws yX8_init cX8_init 1 none) (rmc 1 2 89) (va_Pc [.ref (ad 5)] (WD g A ad L S)) (qd g A ad L (L ++ [50] ++ [51]) S9) 2 89 A :=
  gd_met [.ref (ad 5)] (by decide) (Nat.le_of_ble_eq_true rfl) (fun p e s m below meth c ls C hW hl hin => t_X8_init C hin ho hfree hC h hW va_S.rf hl)
theorem hi_X8_init : yX8_init.cls ≠ "java/lang/invoke/MethodHandle" ∧ yX8_init.cls ≠ "java/lang/invoke/VarHandle" ∧ (parseMethodDescriptor yX8_init.desc).map (fun d => d.parameters.length) = some 0 := by decide +kernel
def f_X5_init (S : St) (o : Nat) : Option St := bn (zr S (o + 10)) fun S_1 => bn (sr S_1 o 0 (some (o + 10))) fun S_3 => bn (zr S_3 (o + 20)) fun S_4 => bn (sr S_4 o 1 (some (o + 20))) fun S_6 => bn (zr S_6 (o + 30)) fun S_7 => bn (sr S_7 o 2 (some (o + 30))) fun S_9 => bn (sv S_9 o 3 0) fun S_10 => bn (sv S_10 o 4 0) fun S_11 => some S_11
set_option maxHeartbeats 8000000 in
set_option maxRecDepth 8000 in
theorem t_X5_init (C : MC p s m args meth c cX5_init 1 none RX5 g A) (hin : meth.name = "<init>") {S S9 : St} {o : Nat} (ho : o ∈ L) (hfree : ∀ i ∈ [o + 10, o + 20, o + 30], i ∉ L) (hC : Cl L S) (h1_o : 70 ≤ o) (h2_o : o < 77) (h : f_X5_init S o = some S9) {H : Heap} {locs : List Loc} {ls : Array Slot} (hW : GD g A ad L S H) (hS : va_S A s.heap H locs) (hl : lv_has ls 1 [(0, .ref (ad o))]) : W p l e (rmc 1 3 516) s m args below meth c H locs 0 0 (MQ below (qd g A ad L (L ++ [o + 10] ++ [o + 20] ++ [o + 30]) S9) args s 3 516 A) (F0 m 0 ls []) := by
  obtain ⟨hx, hb, hml, hown, hts, hr, hlocks, hK, hN, hT⟩ := id C
  have hg : ∀ x ∈ L, ad x = ad x := fun _ _ => rfl
  unfold f_X5_init at h
  refine lv_aload_n  hx hb dX5_init_0 rfl (lv_at hl 0 rfl) ?_
  refine W.objInit hx hb hown (hts _ mw_225) (hts _ mw_90) (hts _ mw_obj) rfl (by rw [hml]; exact hl.1) rfl dX5_init_1 (by decide) (Nat.le_of_ble_eq_true rfl) ?_
  refine W.eq (g2 := F0 m 4 ls []) rfl ?_
  refine lv_aload_n  hx hb dX5_init_4 rfl (lv_at hl 0 rfl) ?_
  refine lv_sipush (v := 500) hx hb dX5_init_5 (by decide) ?_
  refine gd_newa (ty := .int) (N' := 500) hx hb rfl hts mw_121 (fun C h9 => by cases h9) hK hT 1 rfl rfl hW hS hC (by decide) (by decide) (by decide) (o + 10) (hfree (o + 10) (by simp)) (fun _ => (zD_ordA (by omega) (by omega))) (by decide) (by decide) dX5_init_8 (fun S_1 eS_1 ad_2 hag H hW hS hC => ?_)
  rw [← hag o (by omega)] at hl
  rw [← hag o (by omega)]
  have hg : ∀ z9 ∈ L, ad_2 z9 = ad z9 := fun z9 hx => (hag z9 (fun e9 => hfree (o + 10) (by simp) (e9 ▸ hx))).trans (hg z9 hx)
  have h := bn_at eS_1 h
  refine gd_put (C := RX5) (T := TX5) (N := 5) (ci := 5) (v := .ref (ad_2 (o + 10))) hx hb hts inX5 tyX5 tyX5_ok nmX5 hown hK hW hS (me_l ho) (cD_ord h1_o h2_o) rfl 0 (by decide) mw_226 rfl (Or.inr ⟨hin, rfl⟩) rfl rfl (Nat.le_of_ble_eq_true rfl) (sr S_1 o 0 (some (o + 10))) (dr_ord_0 h1_o h2_o) cellD_sr dX5_init_10 (fun S_3 eS_3 H locs hW hS => ?_)
  have h := bn_at eS_3 h
  have hC : Cl (L ++ [o + 10]) S_3 := eS_3 ▸ Cl_sr hC me_r
  refine lv_aload_n  hx hb dX5_init_13 rfl (lv_at hl 0 rfl) ?_
  refine lv_bipush (v := 8) hx hb dX5_init_14 (by decide) ?_
  refine gd_newa (ty := .int) (N' := 8) hx hb rfl hts mw_121 (fun C h9 => by cases h9) hK hT 1 rfl rfl hW hS hC (by decide) (by decide) (by decide) (o + 20) (nm_app (hfree (o + 20) (by simp)) (by omega)) (fun _ => (zD_ordB (by omega) (by omega))) (by decide) (by decide) dX5_init_16 (fun S_4 eS_4 ad_5 hag H hW hS hC => ?_)
  rw [← hag o (by omega)] at hl
  rw [← hag o (by omega)]
  have hg : ∀ z9 ∈ L, ad_5 z9 = ad z9 := fun z9 hx => (hag z9 (fun e9 => hfree (o + 20) (by simp) (e9 ▸ hx))).trans (hg z9 hx)
  have h := bn_at eS_4 h
  refine gd_put (C := RX5) (T := TX5) (N := 5) (ci := 5) (v := .ref (ad_5 (o + 20))) hx hb hts inX5 tyX5 tyX5_ok nmX5 hown hK hW hS (me_l (me_l ho)) (cD_ord h1_o h2_o) rfl 1 (by decide) mw_228 rfl (Or.inr ⟨hin, rfl⟩) rfl rfl (Nat.le_of_ble_eq_true rfl) (sr S_4 o 1 (some (o + 20))) (dr_ord_1 h1_o h2_o) cellD_sr dX5_init_18 (fun S_6 eS_6 H locs hW hS => ?_)
  have h := bn_at eS_6 h
  have hC : Cl (L ++ [o + 10] ++ [o + 20]) S_6 := eS_6 ▸ Cl_sr hC me_r
  refine lv_aload_n  hx hb dX5_init_21 rfl (lv_at hl 0 rfl) ?_
  refine lv_bipush (v := 8) hx hb dX5_init_22 (by decide) ?_
  refine gd_newa (ty := .int) (N' := 8) hx hb rfl hts mw_121 (fun C h9 => by cases h9) hK hT 1 rfl rfl hW hS hC (by decide) (by decide) (by decide) (o + 30) (nm_app (nm_app (hfree (o + 30) (by simp)) (by omega)) (by omega)) (fun _ => (zD_ordC (by omega) (by omega))) (by decide) (by decide) dX5_init_24 (fun S_7 eS_7 ad_8 hag H hW hS hC => ?_)
  rw [← hag o (by omega)] at hl
  rw [← hag o (by omega)]
  have hg : ∀ z9 ∈ L, ad_8 z9 = ad z9 := fun z9 hx => (hag z9 (fun e9 => hfree (o + 30) (by simp) (e9 ▸ hx))).trans (hg z9 hx)
  have h := bn_at eS_7 h
  refine gd_put (C := RX5) (T := TX5) (N := 5) (ci := 5) (v := .ref (ad_8 (o + 30))) hx hb hts inX5 tyX5 tyX5_ok nmX5 hown hK hW hS (me_l (me_l (me_l ho))) (cD_ord h1_o h2_o) rfl 2 (by decide) mw_230 rfl (Or.inr ⟨hin, rfl⟩) rfl rfl (Nat.le_of_ble_eq_true rfl) (sr S_7 o 2 (some (o + 30))) (dr_ord_2 h1_o h2_o) cellD_sr dX5_init_26 (fun S_9 eS_9 H locs hW hS => ?_)
  have h := bn_at eS_9 h
  have hC : Cl (L ++ [o + 10] ++ [o + 20] ++ [o + 30]) S_9 := eS_9 ▸ Cl_sr hC me_r
  refine lv_aload_n  hx hb dX5_init_29 rfl (lv_at hl 0 rfl) ?_
  refine lv_iconst (v := 0) hx hb dX5_init_30 (by decide) ?_
  refine gd_put (C := RX5) (T := TX5) (N := 5) (ci := 5) (v := .int 0) hx hb hts inX5 tyX5 tyX5_ok nmX5 hown hK hW hS (me_l (me_l (me_l ho))) (cD_ord h1_o h2_o) rfl 3 (by decide) mw_232 rfl (Or.inr ⟨hin, rfl⟩) rfl rfl (Nat.le_of_ble_eq_true rfl) (sv S_9 o 3 0) (dv_ord_3 h1_o h2_o) cellD_sv dX5_init_31 (fun S_10 eS_10 H locs hW hS => ?_)
  have h := bn_at eS_10 h
  have hC : Cl (L ++ [o + 10] ++ [o + 20] ++ [o + 30]) S_10 := eS_10 ▸ Cl_sv hC
  refine lv_aload_n  hx hb dX5_init_34 rfl (lv_at hl 0 rfl) ?_
  refine lv_iconst (v := 0) hx hb dX5_init_35 (by decide) ?_
  refine gd_put (C := RX5) (T := TX5) (N := 5) (ci := 5) (v := .int 0) hx hb hts inX5 tyX5 tyX5_ok nmX5 hown hK hW hS (me_l (me_l (me_l ho))) (cD_ord h1_o h2_o) rfl 4 (by decide) mw_236 rfl (Or.inr ⟨hin, rfl⟩) rfl rfl (Nat.le_of_ble_eq_true rfl) (sv S_10 o 4 0) (dv_ord_4 h1_o h2_o) cellD_sv dX5_init_36 (fun S_11 eS_11 H locs hW hS => ?_)
  have h := bn_at eS_11 h
  have hC : Cl (L ++ [o + 10] ++ [o + 20] ++ [o + 30]) S_11 := eS_11 ▸ Cl_sv hC
  cases h
  exact gd_vret hx hb hr hlocks hW hS hC hg dX5_init_39
theorem c_X5_init {S S9 : St} {o : Nat} (ho : o ∈ L) (hfree : ∀ i ∈ [o + 10, o + 20, o + 30], i ∉ L) (hC : Cl L S) (h1_o : 70 ≤ o) (h2_o : o < 77) (h : f_X5_init S o = some S9) : Met l yX5_init (gws yX5_init cX5_init 1 none) (rmc 1 3 516) (va_Pc [.ref (ad o)] (WD g A ad L S)) (qd g A ad L (L ++ [o + 10] ++ [o + 20] ++ [o + 30]) S9) 3 516 A :=
  gd_met [.ref (ad o)] (by decide) (Nat.le_of_ble_eq_true rfl) (fun p e s m below meth c ls C hW hl hin => t_X5_init C hin ho hfree hC h1_o h2_o h hW va_S.rf hl)
theorem hi_X5_init : yX5_init.cls ≠ "java/lang/invoke/MethodHandle" ∧ yX5_init.cls ≠ "java/lang/invoke/VarHandle" ∧ (parseMethodDescriptor yX5_init.desc).map (fun d => d.parameters.length) = some 0 := by decide +kernel
def f_X10_init (S : St) : Option St := bn (zr S 1) fun S_1 => cl0 (f_X9_init S_1 ) fun S_4 => bn (sr S_4 0 0 (some 1)) fun S_6 => bn (zr S_6 2) fun S_7 => cl0 (f_X2_init S_7 ) fun S_10 => bn (sr S_10 0 1 (some 2)) fun S_12 => bn (zr S_12 3) fun S_13 => cl0 (f_X0_init S_13 ) fun S_16 => bn (sr S_16 0 2 (some 3)) fun S_18 => bn (zr S_18 6) fun S_19 => bn (sr S_19 0 3 (some 6)) fun S_21 => bn (zr S_21 7) fun S_22 => bn (sr S_22 0 4 (some 7)) fun S_24 => bn (zr S_24 5) fun S_25 => cl0 (f_X8_init S_25 ) fun S_28 => bn (sr S_28 0 5 (some 5)) fun S_30 => bn (zr S_30 70) fun S_31 => cl0 (f_X5_init S_31 70 ) fun S_34 => bn (sr S_34 0 6 (some 70)) fun S_36 => bn (sv S_36 0 7 0) fun S_37 => bn (sv S_37 0 8 0) fun S_38 => bn (sv S_38 0 9 0) fun S_39 => bn (sv S_39 0 10 (-1)) fun S_40 => bn (sv S_40 0 11 0) fun S_41 => some S_41
set_option maxHeartbeats 8000000 in
set_option maxRecDepth 8000 in
theorem t_X10_init (C : MC p s m args meth c cX10_init 1 none RX10 g A) (hin : meth.name = "<init>") {S S9 : St} (ho : 0 ∈ L) (hfree : ∀ i ∈ [1, 11, 12, 13, 14, 15, 16, 2, 21, 22, 3, 4, 41, 42, 43, 44, 45, 46, 47, 32, 33, 34, 35, 36, 6, 7, 5, 50, 51, 70, 70 + 10, 70 + 20, 70 + 30], i ∉ L) (hC : Cl L S) (h : f_X10_init S = some S9) {H : Heap} {locs : List Loc} {ls : Array Slot} (hW : GD g A ad L S H) (hS : va_S A s.heap H locs) (hl : lv_has ls 1 [(0, .ref (ad 0))]) : W p l e (rmc 3 33 1784) s m args below meth c H locs 0 0 (MQ below (qd g A ad L (L ++ [1] ++ [11] ++ [12] ++ [13] ++ [14] ++ [15] ++ [16] ++ [2] ++ [21] ++ [22] ++ [3] ++ [4] ++ [41] ++ [42] ++ [43] ++ [44] ++ [45] ++ [46] ++ [47] ++ [32] ++ [33] ++ [34] ++ [35] ++ [36] ++ [6] ++ [7] ++ [5] ++ [50] ++ [51] ++ [70] ++ [70 + 10] ++ [70 + 20] ++ [70 + 30]) S9) args s 33 1784 A) (F0 m 0 ls []) := by
  obtain ⟨hx, hb, hml, hown, hts, hr, hlocks, hK, hN, hT⟩ := id C
  have hg : ∀ x ∈ L, ad x = ad x := fun _ _ => rfl
  unfold f_X10_init at h
  refine lv_aload_n  hx hb dX10_init_0 rfl (lv_at hl 0 rfl) ?_
  refine W.objInit hx hb hown (hts _ mw_89) (hts _ mw_90) (hts _ mw_obj) rfl (by rw [hml]; exact hl.1) rfl dX10_init_1 (by decide) (Nat.le_of_ble_eq_true rfl) ?_
  refine W.eq (g2 := F0 m 4 ls []) rfl ?_
  refine lv_aload_n  hx hb dX10_init_4 rfl (lv_at hl 0 rfl) ?_
  refine gd_new (C := RX9) (T := TX9) (N := 7) (ci := 9) hx hb hts inX9 tyX9 tyX9_ok hown mw_92 mw_93 mw_67 hK hT hW hS hC rfl 1 (hfree 1 (by decide)) (fun j hj => by rcases (show j = 0 ∨ j = 1 ∨ j = 2 ∨ j = 3 ∨ j = 4 ∨ j = 5 ∨ j = 6 by omega) with rfl | rfl | rfl | rfl | rfl | rfl | rfl <;> rfl) (fun _ => zD_1) (by decide) (by decide) dX10_init_5 (fun S_1 eS_1 ad_2 hag H hW hS hC => ?_)
  rw [← hag 0 (by omega)] at hl
  rw [← hag 0 (by omega)]
  have hg : ∀ z9 ∈ L, ad_2 z9 = ad z9 := fun z9 hx => (hag z9 (fun e9 => hfree 1 (by decide) (e9 ▸ hx))).trans (hg z9 hx)
  have h := bn_at eS_1 h
  refine lv_dup hx hb dX10_init_8 rfl ?_
  obtain ⟨S_4, hc_3, h⟩ := cl0_ex h
  refine gd_c (gd_runI (o := 1) (As := []) (rest := [.ref (ad_2 1), .ref (ad_2 0)]) hx hb hml hown hts hK hN hT hS hW (c_X9_init me_r (by intro i9 hi9; simp only [List.mem_cons, List.not_mem_nil, or_false] at hi9; rcases hi9 with rfl | rfl | rfl | rfl | rfl | rfl <;> first | exact (nm_app (hfree 11 (by decide)) (by omega)) | exact (nm_app (hfree 12 (by decide)) (by omega)) | exact (nm_app (hfree 13 (by decide)) (by omega)) | exact (nm_app (hfree 14 (by decide)) (by omega)) | exact (nm_app (hfree 15 (by decide)) (by omega)) | exact (nm_app (hfree 16 (by decide)) (by omega))) hC hc_3) mw_96 mw_94 mw_95 mw_67 rfl hi_X9_init rfl rfl rfl (rc_ok (by decide) (by decide)) hl.1 (Nat.le_of_ble_eq_true rfl) dX10_init_9 rfl ⟨by decide, by decide⟩) hS (fun ad_5 hag H locs hW hS hC => ?_)
  rw [← hag 0 (me_l ho)] at hl
  rw [← hag 0 (me_l ho), ← hag 1 me_r]
  have hg : ∀ z9 ∈ L, ad_5 z9 = ad z9 := fun z9 hx => (hag z9 (me_l hx)).trans (hg z9 hx)
  refine gd_put (C := RX10) (T := TX10) (N := 12) (ci := 10) (v := .ref (ad_5 1)) hx hb hts inX10 tyX10 tyX10_ok nmX10 hown hK hW hS (me_l (me_l (me_l (me_l (me_l (me_l (me_l ho))))))) (cD_0) rfl 0 (by decide) mw_248 rfl (Or.inr ⟨hin, rfl⟩) rfl rfl (Nat.le_of_ble_eq_true rfl) (sr S_4 0 0 (some 1)) (dr_0_0) cellD_sr dX10_init_12 (fun S_6 eS_6 H locs hW hS => ?_)
  have h := bn_at eS_6 h
  have hC : Cl (L ++ [1] ++ [11] ++ [12] ++ [13] ++ [14] ++ [15] ++ [16]) S_6 := eS_6 ▸ Cl_sr hC (me_l (me_l (me_l (me_l (me_l (me_l me_r))))))
  refine lv_aload_n  hx hb dX10_init_15 rfl (lv_at hl 0 rfl) ?_
  refine gd_new (C := RX2) (T := TX2) (N := 3) (ci := 2) hx hb hts inX2 tyX2 tyX2_ok hown mw_122 mw_123 mw_68 hK hT hW hS hC rfl 2 (nm_app (nm_app (nm_app (nm_app (nm_app (nm_app (nm_app (hfree 2 (by decide)) (by omega)) (by omega)) (by omega)) (by omega)) (by omega)) (by omega)) (by omega)) (fun j hj => by rcases (show j = 0 ∨ j = 1 ∨ j = 2 by omega) with rfl | rfl | rfl <;> rfl) (fun _ => zD_2) (by decide) (by decide) dX10_init_16 (fun S_7 eS_7 ad_8 hag H hW hS hC => ?_)
  rw [← hag 0 (by omega)] at hl
  rw [← hag 0 (by omega)]
  have hg : ∀ z9 ∈ L, ad_8 z9 = ad z9 := fun z9 hx => (hag z9 (fun e9 => hfree 2 (by decide) (e9 ▸ hx))).trans (hg z9 hx)
  have h := bn_at eS_7 h
  refine lv_dup hx hb dX10_init_19 rfl ?_
  obtain ⟨S_10, hc_9, h⟩ := cl0_ex h
  refine gd_c (gd_runIN (o := 2) (As := []) (rest := [.ref (ad_8 2), .ref (ad_8 0)]) hx hb hml hown hts hK hN hT hS hW (c_X2_init me_r (by intro i9 hi9; simp only [List.mem_cons, List.not_mem_nil, or_false] at hi9; rcases hi9 with rfl | rfl <;> first | exact (nm_app (nm_app (nm_app (nm_app (nm_app (nm_app (nm_app (nm_app (hfree 21 (by decide)) (by omega)) (by omega)) (by omega)) (by omega)) (by omega)) (by omega)) (by omega)) (by omega)) | exact (nm_app (nm_app (nm_app (nm_app (nm_app (nm_app (nm_app (nm_app (hfree 22 (by decide)) (by omega)) (by omega)) (by omega)) (by omega)) (by omega)) (by omega)) (by omega)) (by omega))) hC hc_9) mw_126 (by decide +kernel) mw_125 mw_68 rfl hi_X2_init rfl rfl rfl (rc_ok (by decide) (by decide)) hl.1 (Nat.le_of_ble_eq_true rfl) dX10_init_20 rfl ⟨by decide, by decide⟩) hS (fun ad_11 hag H locs hW hS hC => ?_)
  rw [← hag 0 (me_l (me_l (me_l (me_l (me_l (me_l (me_l (me_l ho))))))))] at hl
  rw [← hag 0 (me_l (me_l (me_l (me_l (me_l (me_l (me_l (me_l ho)))))))), ← hag 2 me_r]
  have hg : ∀ z9 ∈ L, ad_11 z9 = ad z9 := fun z9 hx => (hag z9 (me_l (me_l (me_l (me_l (me_l (me_l (me_l (me_l hx))))))))).trans (hg z9 hx)
  refine gd_put (C := RX10) (T := TX10) (N := 12) (ci := 10) (v := .ref (ad_11 2)) hx hb hts inX10 tyX10 tyX10_ok nmX10 hown hK hW hS (me_l (me_l (me_l (me_l (me_l (me_l (me_l (me_l (me_l (me_l ho)))))))))) (cD_0) rfl 1 (by decide) mw_249 rfl (Or.inr ⟨hin, rfl⟩) rfl rfl (Nat.le_of_ble_eq_true rfl) (sr S_10 0 1 (some 2)) (dr_0_1) cellD_sr dX10_init_23 (fun S_12 eS_12 H locs hW hS => ?_)
  have h := bn_at eS_12 h
  have hC : Cl (L ++ [1] ++ [11] ++ [12] ++ [13] ++ [14] ++ [15] ++ [16] ++ [2] ++ [21] ++ [22]) S_12 := eS_12 ▸ Cl_sr hC (me_l (me_l me_r))
  refine lv_aload_n  hx hb dX10_init_26 rfl (lv_at hl 0 rfl) ?_
  refine gd_new (C := RX0) (T := TX0) (N := 7) (ci := 0) hx hb hts inX0 tyX0 tyX0_ok hown mw_139 mw_140 mw_69 hK hT hW hS hC rfl 3 (nm_app (nm_app (nm_app (nm_app (nm_app (nm_app (nm_app (nm_app (nm_app (nm_app (hfree 3 (by decide)) (by omega)) (by omega)) (by omega)) (by omega)) (by omega)) (by omega)) (by omega)) (by omega)) (by omega)) (by omega)) (fun j hj => by rcases (show j = 0 ∨ j = 1 ∨ j = 2 ∨ j = 3 ∨ j = 4 ∨ j = 5 ∨ j = 6 by omega) with rfl | rfl | rfl | rfl | rfl | rfl | rfl <;> rfl) (fun _ => zD_3) (by decide) (by decide) dX10_init_27 (fun S_13 eS_13 ad_14 hag H hW hS hC => ?_)
  rw [← hag 0 (by omega)] at hl
  rw [← hag 0 (by omega)]
  have hg : ∀ z9 ∈ L, ad_14 z9 = ad z9 := fun z9 hx => (hag z9 (fun e9 => hfree 3 (by decide) (e9 ▸ hx))).trans (hg z9 hx)
  have h := bn_at eS_13 h
  refine lv_dup hx hb dX10_init_30 rfl ?_
  obtain ⟨S_16, hc_15, h⟩ := cl0_ex h
  refine gd_c (gd_runIN (o := 3) (As := []) (rest := [.ref (ad_14 3), .ref (ad_14 0)]) hx hb hml hown hts hK hN hT hS hW (c_X0_init me_r (by intro i9 hi9; simp only [List.mem_cons, List.not_mem_nil, or_false] at hi9; rcases hi9 with rfl | rfl | rfl | rfl | rfl | rfl | rfl | rfl | rfl | rfl | rfl | rfl | rfl <;> first | exact (nm_app (nm_app (nm_app (nm_app (nm_app (nm_app (nm_app (nm_app (nm_app (nm_app (nm_app (hfree 4 (by decide)) (by omega)) (by omega)) (by omega)) (by omega)) (by omega)) (by omega)) (by omega)) (by omega)) (by omega)) (by omega)) (by omega)) | exact (nm_app (nm_app (nm_app (nm_app (nm_app (nm_app (nm_app (nm_app (nm_app (nm_app (nm_app (hfree 41 (by decide)) (by omega)) (by omega)) (by omega)) (by omega)) (by omega)) (by omega)) (by omega)) (by omega)) (by omega)) (by omega)) (by omega)) | exact (nm_app (nm_app (nm_app (nm_app (nm_app (nm_app (nm_app (nm_app (nm_app (nm_app (nm_app (hfree 42 (by decide)) (by omega)) (by omega)) (by omega)) (by omega)) (by omega)) (by omega)) (by omega)) (by omega)) (by omega)) (by omega)) (by omega)) | exact (nm_app (nm_app (nm_app (nm_app (nm_app (nm_app (nm_app (nm_app (nm_app (nm_app (nm_app (hfree 43 (by decide)) (by omega)) (by omega)) (by omega)) (by omega)) (by omega)) (by omega)) (by omega)) (by omega)) (by omega)) (by omega)) (by omega)) | exact (nm_app (nm_app (nm_app (nm_app (nm_app (nm_app (nm_app (nm_app (nm_app (nm_app (nm_app (hfree 44 (by decide)) (by omega)) (by omega)) (by omega)) (by omega)) (by omega)) (by omega)) (by omega)) (by omega)) (by omega)) (by omega)) (by omega)) | exact (nm_app (nm_app (nm_app (nm_app (nm_app (nm_app (nm_app (nm_app (nm_app (nm_app (nm_app (hfree 45 (by decide)) (by omega)) (by omega)) (by omega)) (by omega)) (by omega)) (by omega)) (by omega)) (by omega)) (by omega)) (by omega)) (by omega)) | exact (nm_app (nm_app (nm_app (nm_app (nm_app (nm_app (nm_app (nm_app (nm_app (nm_app (nm_app (hfree 46 (by decide)) (by omega)) (by omega)) (by omega)) (by omega)) (by omega)) (by omega)) (by omega)) (by omega)) (by omega)) (by omega)) (by omega)) | exact (nm_app (nm_app (nm_app (nm_app (nm_app (nm_app (nm_app (nm_app (nm_app (nm_app (nm_app (hfree 47 (by decide)) (by omega)) (by omega)) (by omega)) (by omega)) (by omega)) (by omega)) (by omega)) (by omega)) (by omega)) (by omega)) (by omega)) | exact (nm_app (nm_app (nm_app (nm_app (nm_app (nm_app (nm_app (nm_app (nm_app (nm_app (nm_app (hfree 32 (by decide)) (by omega)) (by omega)) (by omega)) (by omega)) (by omega)) (by omega)) (by omega)) (by omega)) (by omega)) (by omega)) (by omega)) | exact (nm_app (nm_app (nm_app (nm_app (nm_app (nm_app (nm_app (nm_app (nm_app (nm_app (nm_app (hfree 33 (by decide)) (by omega)) (by omega)) (by omega)) (by omega)) (by omega)) (by omega)) (by omega)) (by omega)) (by omega)) (by omega)) (by omega)) | exact (nm_app (nm_app (nm_app (nm_app (nm_app (nm_app (nm_app (nm_app (nm_app (nm_app (nm_app (hfree 34 (by decide)) (by omega)) (by omega)) (by omega)) (by omega)) (by omega)) (by omega)) (by omega)) (by omega)) (by omega)) (by omega)) (by omega)) | exact (nm_app (nm_app (nm_app (nm_app (nm_app (nm_app (nm_app (nm_app (nm_app (nm_app (nm_app (hfree 35 (by decide)) (by omega)) (by omega)) (by omega)) (by omega)) (by omega)) (by omega)) (by omega)) (by omega)) (by omega)) (by omega)) (by omega)) | exact (nm_app (nm_app (nm_app (nm_app (nm_app (nm_app (nm_app (nm_app (nm_app (nm_app (nm_app (hfree 36 (by decide)) (by omega)) (by omega)) (by omega)) (by omega)) (by omega)) (by omega)) (by omega)) (by omega)) (by omega)) (by omega)) (by omega))) hC hc_15) mw_143 (by decide +kernel) mw_142 mw_69 rfl hi_X0_init rfl rfl rfl (rc_ok (by decide) (by decide)) hl.1 (Nat.le_of_ble_eq_true rfl) dX10_init_31 rfl ⟨by decide, by decide⟩) hS (fun ad_17 hag H locs hW hS hC => ?_)
  rw [← hag 0 (me_l (me_l (me_l (me_l (me_l (me_l (me_l (me_l (me_l (me_l (me_l ho)))))))))))] at hl
  rw [← hag 0 (me_l (me_l (me_l (me_l (me_l (me_l (me_l (me_l (me_l (me_l (me_l ho))))))))))), ← hag 3 me_r]
  have hg : ∀ z9 ∈ L, ad_17 z9 = ad z9 := fun z9 hx => (hag z9 (me_l (me_l (me_l (me_l (me_l (me_l (me_l (me_l (me_l (me_l (me_l hx)))))))))))).trans (hg z9 hx)
  refine gd_put (C := RX10) (T := TX10) (N := 12) (ci := 10) (v := .ref (ad_17 3)) hx hb hts inX10 tyX10 tyX10_ok nmX10 hown hK hW hS (me_l (me_l (me_l (me_l (me_l (me_l (me_l (me_l (me_l (me_l (me_l (me_l (me_l (me_l (me_l (me_l (me_l (me_l (me_l (me_l (me_l (me_l (me_l (me_l ho)))))))))))))))))))))))) (cD_0) rfl 2 (by decide) mw_250 rfl (Or.inr ⟨hin, rfl⟩) rfl rfl (Nat.le_of_ble_eq_true rfl) (sr S_16 0 2 (some 3)) (dr_0_2) cellD_sr dX10_init_34 (fun S_18 eS_18 H locs hW hS => ?_)
  have h := bn_at eS_18 h
  have hC : Cl (L ++ [1] ++ [11] ++ [12] ++ [13] ++ [14] ++ [15] ++ [16] ++ [2] ++ [21] ++ [22] ++ [3] ++ [4] ++ [41] ++ [42] ++ [43] ++ [44] ++ [45] ++ [46] ++ [47] ++ [32] ++ [33] ++ [34] ++ [35] ++ [36]) S_18 := eS_18 ▸ Cl_sr hC (me_l (me_l (me_l (me_l (me_l (me_l (me_l (me_l (me_l (me_l (me_l (me_l (me_l me_r)))))))))))))
  refine lv_aload_n  hx hb dX10_init_37 rfl (lv_at hl 0 rfl) ?_
  refine lv_bipush (v := 6) hx hb dX10_init_38 (by decide) ?_
  refine gd_newq (N' := 6) hx hb hown hts mw_201 hN.2 hK hT hW hS hC (by decide) (by decide) (by decide) 6 (nm_app (nm_app (nm_app (nm_app (nm_app (nm_app (nm_app (nm_app (nm_app (nm_app (nm_app (nm_app (nm_app (nm_app (nm_app (nm_app (nm_app (nm_app (nm_app (nm_app (nm_app (nm_app (nm_app (nm_app (hfree 6 (by decide)) (by omega)) (by omega)) (by omega)) (by omega)) (by omega)) (by omega)) (by omega)) (by omega)) (by omega)) (by omega)) (by omega)) (by omega)) (by omega)) (by omega)) (by omega)) (by omega)) (by omega)) (by omega)) (by omega)) (by omega)) (by omega)) (by omega)) (by omega)) (by omega)) (fun _ => zD_6) (by decide) (by decide) dX10_init_40 (fun S_19 eS_19 ad_20 hag H hW hS hC => ?_)
  rw [← hag 0 (by decide)] at hl
  rw [← hag 0 (by decide)]
  have hg : ∀ z9 ∈ L, ad_20 z9 = ad z9 := fun z9 hx => (hag z9 (fun e9 => hfree 6 (by decide) (e9 ▸ hx))).trans (hg z9 hx)
  have h := bn_at eS_19 h
  refine gd_put (C := RX10) (T := TX10) (N := 12) (ci := 10) (v := .ref (ad_20 6)) hx hb hts inX10 tyX10 tyX10_ok nmX10 hown hK hW hS (me_l (me_l (me_l (me_l (me_l (me_l (me_l (me_l (me_l (me_l (me_l (me_l (me_l (me_l (me_l (me_l (me_l (me_l (me_l (me_l (me_l (me_l (me_l (me_l (me_l ho))))))))))))))))))))))))) (cD_0) rfl 3 (by decide) mw_251 rfl (Or.inr ⟨hin, rfl⟩) rfl rfl (Nat.le_of_ble_eq_true rfl) (sr S_19 0 3 (some 6)) (dr_0_3) cellD_sr dX10_init_43 (fun S_21 eS_21 H locs hW hS => ?_)
  have h := bn_at eS_21 h
  have hC : Cl (L ++ [1] ++ [11] ++ [12] ++ [13] ++ [14] ++ [15] ++ [16] ++ [2] ++ [21] ++ [22] ++ [3] ++ [4] ++ [41] ++ [42] ++ [43] ++ [44] ++ [45] ++ [46] ++ [47] ++ [32] ++ [33] ++ [34] ++ [35] ++ [36] ++ [6]) S_21 := eS_21 ▸ Cl_sr hC me_r
  refine lv_aload_n  hx hb dX10_init_46 rfl (lv_at hl 0 rfl) ?_
  refine lv_sipush (v := 500) hx hb dX10_init_47 (by decide) ?_
  refine gd_newa (ty := .byte) (N' := 500) hx hb rfl hts mw_219 (fun C h9 => by cases h9) hK hT 0 rfl rfl hW hS hC (by decide) (by decide) (by decide) 7 (nm_app (nm_app (nm_app (nm_app (nm_app (nm_app (nm_app (nm_app (nm_app (nm_app (nm_app (nm_app (nm_app (nm_app (nm_app (nm_app (nm_app (nm_app (nm_app (nm_app (nm_app (nm_app (nm_app (nm_app (nm_app (hfree 7 (by decide)) (by omega)) (by omega)) (by omega)) (by omega)) (by omega)) (by omega)) (by omega)) (by omega)) (by omega)) (by omega)) (by omega)) (by omega)) (by omega)) (by omega)) (by omega)) (by omega)) (by omega)) (by omega)) (by omega)) (by omega)) (by omega)) (by omega)) (by omega)) (by omega)) (by omega)) (fun _ => zD_7) (by decide) (by decide) dX10_init_50 (fun S_22 eS_22 ad_23 hag H hW hS hC => ?_)
  rw [← hag 0 (by omega)] at hl
  rw [← hag 0 (by omega)]
  have hg : ∀ z9 ∈ L, ad_23 z9 = ad z9 := fun z9 hx => (hag z9 (fun e9 => hfree 7 (by decide) (e9 ▸ hx))).trans (hg z9 hx)
  have h := bn_at eS_22 h
  refine gd_put (C := RX10) (T := TX10) (N := 12) (ci := 10) (v := .ref (ad_23 7)) hx hb hts inX10 tyX10 tyX10_ok nmX10 hown hK hW hS (me_l (me_l (me_l (me_l (me_l (me_l (me_l (me_l (me_l (me_l (me_l (me_l (me_l (me_l (me_l (me_l (me_l (me_l (me_l (me_l (me_l (me_l (me_l (me_l (me_l (me_l ho)))))))))))))))))))))))))) (cD_0) rfl 4 (by decide) mw_252 rfl (Or.inr ⟨hin, rfl⟩) rfl rfl (Nat.le_of_ble_eq_true rfl) (sr S_22 0 4 (some 7)) (dr_0_4) cellD_sr dX10_init_52 (fun S_24 eS_24 H locs hW hS => ?_)
  have h := bn_at eS_24 h
  have hC : Cl (L ++ [1] ++ [11] ++ [12] ++ [13] ++ [14] ++ [15] ++ [16] ++ [2] ++ [21] ++ [22] ++ [3] ++ [4] ++ [41] ++ [42] ++ [43] ++ [44] ++ [45] ++ [46] ++ [47] ++ [32] ++ [33] ++ [34] ++ [35] ++ [36] ++ [6] ++ [7]) S_24 := eS_24 ▸ Cl_sr hC me_r
  refine lv_aload_n  hx hb dX10_init_55 rfl (lv_at hl 0 rfl) ?_
  refine gd_new (C := RX8) (T := TX8) (N := 3) (ci := 8) hx hb hts inX8 tyX8 tyX8_ok hown mw_203 mw_204 mw_71 hK hT hW hS hC rfl 5 (nm_app (nm_app (nm_app (nm_app (nm_app (nm_app (nm_app (nm_app (nm_app (nm_app (nm_app (nm_app (nm_app (nm_app (nm_app (nm_app (nm_app (nm_app (nm_app (nm_app (nm_app (nm_app (nm_app (nm_app (nm_app (nm_app (hfree 5 (by decide)) (by omega)) (by omega)) (by omega)) (by omega)) (by omega)) (by omega)) (by omega)) (by omega)) (by omega)) (by omega)) (by omega)) (by omega)) (by omega)) (by omega)) (by omega)) (by omega)) (by omega)) (by omega)) (by omega)) (by omega)) (by omega)) (by omega)) (by omega)) (by omega)) (by omega)) (by omega)) (fun j hj => by rcases (show j = 0 ∨ j = 1 ∨ j = 2 by omega) with rfl | rfl | rfl <;> rfl) (fun _ => zD_5) (by decide) (by decide) dX10_init_56 (fun S_25 eS_25 ad_26 hag H hW hS hC => ?_)
  rw [← hag 0 (by omega)] at hl
  rw [← hag 0 (by omega)]
  have hg : ∀ z9 ∈ L, ad_26 z9 = ad z9 := fun z9 hx => (hag z9 (fun e9 => hfree 5 (by decide) (e9 ▸ hx))).trans (hg z9 hx)
  have h := bn_at eS_25 h
  refine lv_dup hx hb dX10_init_59 rfl ?_
  obtain ⟨S_28, hc_27, h⟩ := cl0_ex h
  refine gd_c (gd_runIN (o := 5) (As := []) (rest := [.ref (ad_26 5), .ref (ad_26 0)]) hx hb hml hown hts hK hN hT hS hW (c_X8_init me_r (by intro i9 hi9; simp only [List.mem_cons, List.not_mem_nil, or_false] at hi9; rcases hi9 with rfl | rfl <;> first | exact (nm_app (nm_app (nm_app (nm_app (nm_app (nm_app (nm_app (nm_app (nm_app (nm_app (nm_app (nm_app (nm_app (nm_app (nm_app (nm_app (nm_app (nm_app (nm_app (nm_app (nm_app (nm_app (nm_app (nm_app (nm_app (nm_app (nm_app (hfree 50 (by decide)) (by omega)) (by omega)) (by omega)) (by omega)) (by omega)) (by omega)) (by omega)) (by omega)) (by omega)) (by omega)) (by omega)) (by omega)) (by omega)) (by omega)) (by omega)) (by omega)) (by omega)) (by omega)) (by omega)) (by omega)) (by omega)) (by omega)) (by omega)) (by omega)) (by omega)) (by omega)) (by omega)) | exact (nm_app (nm_app (nm_app (nm_app (nm_app (nm_app (nm_app (nm_app (nm_app (nm_app (nm_app (nm_app (nm_app (nm_app (nm_app (nm_app (nm_app (nm_app (nm_app (nm_app (nm_app (nm_app (nm_app (nm_app (nm_app (nm_app (nm_app (hfree 51 (by decide)) (by omega)) (by omega)) (by omega)) (by omega)) (by omega)) (by omega)) (by omega)) (by omega)) (by omega)) (by omega)) (by omega)) (by omega)) (by omega)) (by omega)) (by omega)) (by omega)) (by omega)) (by omega)) (by omega)) (by omega)) (by omega)) (by omega)) (by omega)) (by omega)) (by omega)) (by omega)) (by omega))) hC hc_27) mw_207 (by decide +kernel) mw_206 mw_71 rfl hi_X8_init rfl rfl rfl (rc_ok (by decide) (by decide)) hl.1 (Nat.le_of_ble_eq_true rfl) dX10_init_60 rfl ⟨by decide, by decide⟩) hS (fun ad_29 hag H locs hW hS hC => ?_)
  rw [← hag 0 (me_l (me_l (me_l (me_l (me_l (me_l (me_l (me_l (me_l (me_l (me_l (me_l (me_l (me_l (me_l (me_l (me_l (me_l (me_l (me_l (me_l (me_l (me_l (me_l (me_l (me_l (me_l ho)))))))))))))))))))))))))))] at hl
  rw [← hag 0 (me_l (me_l (me_l (me_l (me_l (me_l (me_l (me_l (me_l (me_l (me_l (me_l (me_l (me_l (me_l (me_l (me_l (me_l (me_l (me_l (me_l (me_l (me_l (me_l (me_l (me_l (me_l ho))))))))))))))))))))))))))), ← hag 5 me_r]
  have hg : ∀ z9 ∈ L, ad_29 z9 = ad z9 := fun z9 hx => (hag z9 (me_l (me_l (me_l (me_l (me_l (me_l (me_l (me_l (me_l (me_l (me_l (me_l (me_l (me_l (me_l (me_l (me_l (me_l (me_l (me_l (me_l (me_l (me_l (me_l (me_l (me_l (me_l hx)))))))))))))))))))))))))))).trans (hg z9 hx)
  refine gd_put (C := RX10) (T := TX10) (N := 12) (ci := 10) (v := .ref (ad_29 5)) hx hb hts inX10 tyX10 tyX10_ok nmX10 hown hK hW hS (me_l (me_l (me_l (me_l (me_l (me_l (me_l (me_l (me_l (me_l (me_l (me_l (me_l (me_l (me_l (me_l (me_l (me_l (me_l (me_l (me_l (me_l (me_l (me_l (me_l (me_l (me_l (me_l (me_l ho))))))))))))))))))))))))))))) (cD_0) rfl 5 (by decide) mw_253 rfl (Or.inr ⟨hin, rfl⟩) rfl rfl (Nat.le_of_ble_eq_true rfl) (sr S_28 0 5 (some 5)) (dr_0_5) cellD_sr dX10_init_63 (fun S_30 eS_30 H locs hW hS => ?_)
  have h := bn_at eS_30 h
  have hC : Cl (L ++ [1] ++ [11] ++ [12] ++ [13] ++ [14] ++ [15] ++ [16] ++ [2] ++ [21] ++ [22] ++ [3] ++ [4] ++ [41] ++ [42] ++ [43] ++ [44] ++ [45] ++ [46] ++ [47] ++ [32] ++ [33] ++ [34] ++ [35] ++ [36] ++ [6] ++ [7] ++ [5] ++ [50] ++ [51]) S_30 := eS_30 ▸ Cl_sr hC (me_l (me_l me_r))
  refine lv_aload_n  hx hb dX10_init_66 rfl (lv_at hl 0 rfl) ?_
  refine gd_new (C := RX5) (T := TX5) (N := 5) (ci := 5) hx hb hts inX5 tyX5 tyX5_ok hown mw_220 mw_221 mw_72 hK hT hW hS hC rfl 70 (nm_app (nm_app (nm_app (nm_app (nm_app (nm_app (nm_app (nm_app (nm_app (nm_app (nm_app (nm_app (nm_app (nm_app (nm_app (nm_app (nm_app (nm_app (nm_app (nm_app (nm_app (nm_app (nm_app (nm_app (nm_app (nm_app (nm_app (nm_app (nm_app (hfree 70 (by decide)) (by omega)) (by omega)) (by omega)) (by omega)) (by omega)) (by omega)) (by omega)) (by omega)) (by omega)) (by omega)) (by omega)) (by omega)) (by omega)) (by omega)) (by omega)) (by omega)) (by omega)) (by omega)) (by omega)) (by omega)) (by omega)) (by omega)) (by omega)) (by omega)) (by omega)) (by omega)) (by omega)) (by omega)) (by omega)) (fun j hj => by rcases (show j = 0 ∨ j = 1 ∨ j = 2 ∨ j = 3 ∨ j = 4 by omega) with rfl | rfl | rfl | rfl | rfl <;> rfl) (fun _ => (zD_ord (by decide) (by decide))) (by decide) (by decide) dX10_init_67 (fun S_31 eS_31 ad_32 hag H hW hS hC => ?_)
  rw [← hag 0 (by omega)] at hl
  rw [← hag 0 (by omega)]
  have hg : ∀ z9 ∈ L, ad_32 z9 = ad z9 := fun z9 hx => (hag z9 (fun e9 => hfree 70 (by decide) (e9 ▸ hx))).trans (hg z9 hx)
  have h := bn_at eS_31 h
  refine lv_dup hx hb dX10_init_70 rfl ?_
  obtain ⟨S_34, hc_33, h⟩ := cl0_ex h
  refine gd_c (gd_runIN (o := 70) (As := []) (rest := [.ref (ad_32 70), .ref (ad_32 0)]) hx hb hml hown hts hK hN hT hS hW (c_X5_init me_r (by intro i9 hi9; simp only [List.mem_cons, List.not_mem_nil, or_false] at hi9; rcases hi9 with rfl | rfl | rfl <;> first | exact (nm_app (nm_app (nm_app (nm_app (nm_app (nm_app (nm_app (nm_app (nm_app (nm_app (nm_app (nm_app (nm_app (nm_app (nm_app (nm_app (nm_app (nm_app (nm_app (nm_app (nm_app (nm_app (nm_app (nm_app (nm_app (nm_app (nm_app (nm_app (nm_app (nm_app (hfree (70 + 10) (by decide)) (by omega)) (by omega)) (by omega)) (by omega)) (by omega)) (by omega)) (by omega)) (by omega)) (by omega)) (by omega)) (by omega)) (by omega)) (by omega)) (by omega)) (by omega)) (by omega)) (by omega)) (by omega)) (by omega)) (by omega)) (by omega)) (by omega)) (by omega)) (by omega)) (by omega)) (by omega)) (by omega)) (by omega)) (by omega)) (by omega)) | exact (nm_app (nm_app (nm_app (nm_app (nm_app (nm_app (nm_app (nm_app (nm_app (nm_app (nm_app (nm_app (nm_app (nm_app (nm_app (nm_app (nm_app (nm_app (nm_app (nm_app (nm_app (nm_app (nm_app (nm_app (nm_app (nm_app (nm_app (nm_app (nm_app (nm_app (hfree (70 + 20) (by decide)) (by omega)) (by omega)) (by omega)) (by omega)) (by omega)) (by omega)) (by omega)) (by omega)) (by omega)) (by omega)) (by omega)) (by omega)) (by omega)) (by omega)) (by omega)) (by omega)) (by omega)) (by omega)) (by omega)) (by omega)) (by omega)) (by omega)) (by omega)) (by omega)) (by omega)) (by omega)) (by omega)) (by omega)) (by omega)) (by omega)) | exact (nm_app (nm_app (nm_app (nm_app (nm_app (nm_app (nm_app (nm_app (nm_app (nm_app (nm_app (nm_app (nm_app (nm_app (nm_app (nm_app (nm_app (nm_app (nm_app (nm_app (nm_app (nm_app (nm_app (nm_app (nm_app (nm_app (nm_app (nm_app (nm_app (nm_app (hfree (70 + 30) (by decide)) (by omega)) (by omega)) (by omega)) (by omega)) (by omega)) (by omega)) (by omega)) (by omega)) (by omega)) (by omega)) (by omega)) (by omega)) (by omega)) (by omega)) (by omega)) (by omega)) (by omega)) (by omega)) (by omega)) (by omega)) (by omega)) (by omega)) (by omega)) (by omega)) (by omega)) (by omega)) (by omega)) (by omega)) (by omega)) (by omega))) hC (by decide) (by decide) hc_33) mw_224 (by decide +kernel) mw_223 mw_72 rfl hi_X5_init rfl rfl rfl (rc_ok (by decide) (by decide)) hl.1 (Nat.le_of_ble_eq_true rfl) dX10_init_71 rfl ⟨by decide, by decide⟩) hS (fun ad_35 hag H locs hW hS hC => ?_)
  rw [← hag 0 (me_l (me_l (me_l (me_l (me_l (me_l (me_l (me_l (me_l (me_l (me_l (me_l (me_l (me_l (me_l (me_l (me_l (me_l (me_l (me_l (me_l (me_l (me_l (me_l (me_l (me_l (me_l (me_l (me_l (me_l ho))))))))))))))))))))))))))))))] at hl
  rw [← hag 0 (me_l (me_l (me_l (me_l (me_l (me_l (me_l (me_l (me_l (me_l (me_l (me_l (me_l (me_l (me_l (me_l (me_l (me_l (me_l (me_l (me_l (me_l (me_l (me_l (me_l (me_l (me_l (me_l (me_l (me_l ho)))))))))))))))))))))))))))))), ← hag 70 me_r]
  have hg : ∀ z9 ∈ L, ad_35 z9 = ad z9 := fun z9 hx => (hag z9 (me_l (me_l (me_l (me_l (me_l (me_l (me_l (me_l (me_l (me_l (me_l (me_l (me_l (me_l (me_l (me_l (me_l (me_l (me_l (me_l (me_l (me_l (me_l (me_l (me_l (me_l (me_l (me_l (me_l (me_l hx))))))))))))))))))))))))))))))).trans (hg z9 hx)
  refine gd_put (C := RX10) (T := TX10) (N := 12) (ci := 10) (v := .ref (ad_35 70)) hx hb hts inX10 tyX10 tyX10_ok nmX10 hown hK hW hS (me_l (me_l (me_l (me_l (me_l (me_l (me_l (me_l (me_l (me_l (me_l (me_l (me_l (me_l (me_l (me_l (me_l (me_l (me_l (me_l (me_l (me_l (me_l (me_l (me_l (me_l (me_l (me_l (me_l (me_l (me_l (me_l (me_l ho))))))))))))))))))))))))))))))))) (cD_0) rfl 6 (by decide) mw_254 rfl (Or.inr ⟨hin, rfl⟩) rfl rfl (Nat.le_of_ble_eq_true rfl) (sr S_34 0 6 (some 70)) (dr_0_6) cellD_sr dX10_init_74 (fun S_36 eS_36 H locs hW hS => ?_)
  have h := bn_at eS_36 h
  have hC : Cl (L ++ [1] ++ [11] ++ [12] ++ [13] ++ [14] ++ [15] ++ [16] ++ [2] ++ [21] ++ [22] ++ [3] ++ [4] ++ [41] ++ [42] ++ [43] ++ [44] ++ [45] ++ [46] ++ [47] ++ [32] ++ [33] ++ [34] ++ [35] ++ [36] ++ [6] ++ [7] ++ [5] ++ [50] ++ [51] ++ [70] ++ [70 + 10] ++ [70 + 20] ++ [70 + 30]) S_36 := eS_36 ▸ Cl_sr hC (me_l (me_l (me_l me_r)))
  refine lv_aload_n  hx hb dX10_init_77 rfl (lv_at hl 0 rfl) ?_
  refine lv_iconst (v := 0) hx hb dX10_init_78 (by decide) ?_
  refine gd_put (C := RX10) (T := TX10) (N := 12) (ci := 10) (v := .int 0) hx hb hts inX10 tyX10 tyX10_ok nmX10 hown hK hW hS (me_l (me_l (me_l (me_l (me_l (me_l (me_l (me_l (me_l (me_l (me_l (me_l (me_l (me_l (me_l (me_l (me_l (me_l (me_l (me_l (me_l (me_l (me_l (me_l (me_l (me_l (me_l (me_l (me_l (me_l (me_l (me_l (me_l ho))))))))))))))))))))))))))))))))) (cD_0) rfl 7 (by decide) mw_255 rfl (Or.inr ⟨hin, rfl⟩) rfl rfl (Nat.le_of_ble_eq_true rfl) (sv S_36 0 7 0) (dv_0_7) cellD_sv dX10_init_79 (fun S_37 eS_37 H locs hW hS => ?_)
  have h := bn_at eS_37 h
  have hC : Cl (L ++ [1] ++ [11] ++ [12] ++ [13] ++ [14] ++ [15] ++ [16] ++ [2] ++ [21] ++ [22] ++ [3] ++ [4] ++ [41] ++ [42] ++ [43] ++ [44] ++ [45] ++ [46] ++ [47] ++ [32] ++ [33] ++ [34] ++ [35] ++ [36] ++ [6] ++ [7] ++ [5] ++ [50] ++ [51] ++ [70] ++ [70 + 10] ++ [70 + 20] ++ [70 + 30]) S_37 := eS_37 ▸ Cl_sv hC
  refine lv_aload_n  hx hb dX10_init_82 rfl (lv_at hl 0 rfl) ?_
  refine lv_iconst (v := 0) hx hb dX10_init_83 (by decide) ?_
  refine gd_put (C := RX10) (T := TX10) (N := 12) (ci := 10) (v := .int 0) hx hb hts inX10 tyX10 tyX10_ok nmX10 hown hK hW hS (me_l (me_l (me_l (me_l (me_l (me_l (me_l (me_l (me_l (me_l (me_l (me_l (me_l (me_l (me_l (me_l (me_l (me_l (me_l (me_l (me_l (me_l (me_l (me_l (me_l (me_l (me_l (me_l (me_l (me_l (me_l (me_l (me_l ho))))))))))))))))))))))))))))))))) (cD_0) rfl 8 (by decide) mw_256 rfl (Or.inr ⟨hin, rfl⟩) rfl rfl (Nat.le_of_ble_eq_true rfl) (sv S_37 0 8 0) (dv_0_8) cellD_sv dX10_init_84 (fun S_38 eS_38 H locs hW hS => ?_)
  have h := bn_at eS_38 h
  have hC : Cl (L ++ [1] ++ [11] ++ [12] ++ [13] ++ [14] ++ [15] ++ [16] ++ [2] ++ [21] ++ [22] ++ [3] ++ [4] ++ [41] ++ [42] ++ [43] ++ [44] ++ [45] ++ [46] ++ [47] ++ [32] ++ [33] ++ [34] ++ [35] ++ [36] ++ [6] ++ [7] ++ [5] ++ [50] ++ [51] ++ [70] ++ [70 + 10] ++ [70 + 20] ++ [70 + 30]) S_38 := eS_38 ▸ Cl_sv hC
  refine lv_aload_n  hx hb dX10_init_87 rfl (lv_at hl 0 rfl) ?_
  refine lv_iconst (v := 0) hx hb dX10_init_88 (by decide) ?_
  refine gd_put (C := RX10) (T := TX10) (N := 12) (ci := 10) (v := .int 0) hx hb hts inX10 tyX10 tyX10_ok nmX10 hown hK hW hS (me_l (me_l (me_l (me_l (me_l (me_l (me_l (me_l (me_l (me_l (me_l (me_l (me_l (me_l (me_l (me_l (me_l (me_l (me_l (me_l (me_l (me_l (me_l (me_l (me_l (me_l (me_l (me_l (me_l (me_l (me_l (me_l (me_l ho))))))))))))))))))))))))))))))))) (cD_0) rfl 9 (by decide) mw_257 rfl (Or.inr ⟨hin, rfl⟩) rfl rfl (Nat.le_of_ble_eq_true rfl) (sv S_38 0 9 0) (dv_0_9) cellD_sv dX10_init_89 (fun S_39 eS_39 H locs hW hS => ?_)
  have h := bn_at eS_39 h
  have hC : Cl (L ++ [1] ++ [11] ++ [12] ++ [13] ++ [14] ++ [15] ++ [16] ++ [2] ++ [21] ++ [22] ++ [3] ++ [4] ++ [41] ++ [42] ++ [43] ++ [44] ++ [45] ++ [46] ++ [47] ++ [32] ++ [33] ++ [34] ++ [35] ++ [36] ++ [6] ++ [7] ++ [5] ++ [50] ++ [51] ++ [70] ++ [70 + 10] ++ [70 + 20] ++ [70 + 30]) S_39 := eS_39 ▸ Cl_sv hC
  refine lv_aload_n  hx hb dX10_init_92 rfl (lv_at hl 0 rfl) ?_
  refine lv_iconst (v := (-1)) hx hb dX10_init_93 (by decide) ?_
  refine gd_put (C := RX10) (T := TX10) (N := 12) (ci := 10) (v := .int (-1)) hx hb hts inX10 tyX10 tyX10_ok nmX10 hown hK hW hS (me_l (me_l (me_l (me_l (me_l (me_l (me_l (me_l (me_l (me_l (me_l (me_l (me_l (me_l (me_l (me_l (me_l (me_l (me_l (me_l (me_l (me_l (me_l (me_l (me_l (me_l (me_l (me_l (me_l (me_l (me_l (me_l (me_l ho))))))))))))))))))))))))))))))))) (cD_0) rfl 10 (by decide) mw_258 rfl (Or.inr ⟨hin, rfl⟩) rfl rfl (Nat.le_of_ble_eq_true rfl) (sv S_39 0 10 (-1)) (dv_0_10) cellD_sv dX10_init_94 (fun S_40 eS_40 H locs hW hS => ?_)
  have h := bn_at eS_40 h
  have hC : Cl (L ++ [1] ++ [11] ++ [12] ++ [13] ++ [14] ++ [15] ++ [16] ++ [2] ++ [21] ++ [22] ++ [3] ++ [4] ++ [41] ++ [42] ++ [43] ++ [44] ++ [45] ++ [46] ++ [47] ++ [32] ++ [33] ++ [34] ++ [35] ++ [36] ++ [6] ++ [7] ++ [5] ++ [50] ++ [51] ++ [70] ++ [70 + 10] ++ [70 + 20] ++ [70 + 30]) S_40 := eS_40 ▸ Cl_sv hC
  refine lv_aload_n  hx hb dX10_init_97 rfl (lv_at hl 0 rfl) ?_
  refine lv_iconst (v := 0) hx hb dX10_init_98 (by decide) ?_
  refine gd_put (C := RX10) (T := TX10) (N := 12) (ci := 10) (v := .int 0) hx hb hts inX10 tyX10 tyX10_ok nmX10 hown hK hW hS (me_l (me_l (me_l (me_l (me_l (me_l (me_l (me_l (me_l (me_l (me_l (me_l (me_l (me_l (me_l (me_l (me_l (me_l (me_l (me_l (me_l (me_l (me_l (me_l (me_l (me_l (me_l (me_l (me_l (me_l (me_l (me_l (me_l ho))))))))))))))))))))))))))))))))) (cD_0) rfl 11 (by decide) mw_259 rfl (Or.inr ⟨hin, rfl⟩) rfl rfl (Nat.le_of_ble_eq_true rfl) (sv S_40 0 11 0) (dv_0_11) cellD_sv dX10_init_99 (fun S_41 eS_41 H locs hW hS => ?_)
  have h := bn_at eS_41 h
  have hC : Cl (L ++ [1] ++ [11] ++ [12] ++ [13] ++ [14] ++ [15] ++ [16] ++ [2] ++ [21] ++ [22] ++ [3] ++ [4] ++ [41] ++ [42] ++ [43] ++ [44] ++ [45] ++ [46] ++ [47] ++ [32] ++ [33] ++ [34] ++ [35] ++ [36] ++ [6] ++ [7] ++ [5] ++ [50] ++ [51] ++ [70] ++ [70 + 10] ++ [70 + 20] ++ [70 + 30]) S_41 := eS_41 ▸ Cl_sv hC
  cases h
  exact gd_vret hx hb hr hlocks hW hS hC hg dX10_init_102
theorem c_X10_init {S S9 : St} (ho : 0 ∈ L) (hfree : ∀ i ∈ [1, 11, 12, 13, 14, 15, 16, 2, 21, 22, 3, 4, 41, 42, 43, 44, 45, 46, 47, 32, 33, 34, 35, 36, 6, 7, 5, 50, 51, 70, 70 + 10, 70 + 20, 70 + 30], i ∉ L) (hC : Cl L S) (h : f_X10_init S = some S9) : Met l yX10_init (gws yX10_init cX10_init 1 none) (rmc 3 33 1784) (va_Pc [.ref (ad 0)] (WD g A ad L S)) (qd g A ad L (L ++ [1] ++ [11] ++ [12] ++ [13] ++ [14] ++ [15] ++ [16] ++ [2] ++ [21] ++ [22] ++ [3] ++ [4] ++ [41] ++ [42] ++ [43] ++ [44] ++ [45] ++ [46] ++ [47] ++ [32] ++ [33] ++ [34] ++ [35] ++ [36] ++ [6] ++ [7] ++ [5] ++ [50] ++ [51] ++ [70] ++ [70 + 10] ++ [70 + 20] ++ [70 + 30]) S9) 33 1784 A :=
  gd_met [.ref (ad 0)] (by decide) (Nat.le_of_ble_eq_true rfl) (fun p e s m below meth c ls C hW hl hin => t_X10_init C hin ho hfree hC h hW va_S.rf hl)
theorem hi_X10_init : yX10_init.cls ≠ "java/lang/invoke/MethodHandle" ∧ yX10_init.cls ≠ "java/lang/invoke/VarHandle" ∧ (parseMethodDescriptor yX10_init.desc).map (fun d => d.parameters.length) = some 0 := by decide +kernel
def f_X1_init (S : St) (o : Nat) (p1 : Int32) (p2 : Int32) (p3 : Int32) (p4 : Int32) (x : Nat) : Option St := bn (sv S o 4 0) fun S_1 => bn (sv S_1 o 5 0) fun S_2 => bn (zr S_2 x) fun S_3 => cl0 (f_X5_init S_3 x ) fun S_6 => bn (sr S_6 o 6 (some x)) fun S_8 => bn (sv S_8 o 7 0) fun S_9 => bn (sv S_9 o 8 0) fun S_10 => bn (sv S_10 o 9 0) fun S_11 => bn (sv S_11 o 10 0) fun S_12 => bn (sv S_12 o 11 0) fun S_13 => bn (sv S_13 o 2 p1) fun S_14 => bn (sv S_14 o 3 p2) fun S_15 => bn (sv S_15 o 0 p3) fun S_16 => bn (sv S_16 o 1 p4) fun S_17 => some S_17
set_option maxHeartbeats 8000000 in
set_option maxRecDepth 8000 in
theorem t_X1_init (C : MC p s m args meth c cX1_init 5 none RX1 g A) (hin : meth.name = "<init>") {S S9 : St} {o : Nat} {p1 : Int32} {p2 : Int32} {p3 : Int32} {p4 : Int32} {x : Nat} (ho : o ∈ L) (hfree : ∀ i ∈ [x, x + 10, x + 20, x + 30], i ∉ L) (hC : Cl L S) (h1_o : 60 ≤ o) (h2_o : o < 66) (h1_x : 70 ≤ x) (h2_x : x < 77) (h : f_X1_init S o p1 p2 p3 p4 x = some S9) {H : Heap} {locs : List Loc} {ls : Array Slot} (hW : GD g A ad L S H) (hS : va_S A s.heap H locs) (hl : lv_has ls 5 [(0, .ref (ad o)), (1, .int p1), (2, .int p2), (3, .int p3), (4, .int p4)]) : W p l e (rmc 2 4 521) s m args below meth c H locs 0 0 (MQ below (qd g A ad L (L ++ [x] ++ [x + 10] ++ [x + 20] ++ [x + 30]) S9) args s 4 521 A) (F0 m 0 ls []) := by
  obtain ⟨hx, hb, hml, hown, hts, hr, hlocks, hK, hN, hT⟩ := id C
  have hg : ∀ x ∈ L, ad x = ad x := fun _ _ => rfl
  unfold f_X1_init at h
  refine lv_aload_n  hx hb dX1_init_0 rfl (lv_at hl 0 rfl) ?_
  refine W.objInit hx hb hown (hts _ mw_337) (hts _ mw_90) (hts _ mw_obj) rfl (by rw [hml]; exact hl.1) rfl dX1_init_1 (by decide) (Nat.le_of_ble_eq_true rfl) ?_
  refine W.eq (g2 := F0 m 4 ls []) rfl ?_
  refine lv_aload_n  hx hb dX1_init_4 rfl (lv_at hl 0 rfl) ?_
  refine lv_iconst (v := 0) hx hb dX1_init_5 (by decide) ?_
  refine gd_put (C := RX1) (T := TX1) (N := 12) (ci := 1) (v := .int 0) hx hb hts inX1 tyX1 tyX1_ok nmX1 hown hK hW hS ho (cD_herd h1_o h2_o) rfl 4 (by decide) mw_348 rfl (Or.inr ⟨hin, rfl⟩) rfl rfl (Nat.le_of_ble_eq_true rfl) (sv S o 4 0) (dv_herd_4 h1_o h2_o) cellD_sv dX1_init_6 (fun S_1 eS_1 H locs hW hS => ?_)
  have h := bn_at eS_1 h
  have hC : Cl L S_1 := eS_1 ▸ Cl_sv hC
  refine lv_aload_n  hx hb dX1_init_9 rfl (lv_at hl 0 rfl) ?_
  refine lv_iconst (v := 0) hx hb dX1_init_10 (by decide) ?_
  refine gd_put (C := RX1) (T := TX1) (N := 12) (ci := 1) (v := .int 0) hx hb hts inX1 tyX1 tyX1_ok nmX1 hown hK hW hS ho (cD_herd h1_o h2_o) rfl 5 (by decide) mw_351 rfl (Or.inr ⟨hin, rfl⟩) rfl rfl (Nat.le_of_ble_eq_true rfl) (sv S_1 o 5 0) (dv_herd_5 h1_o h2_o) cellD_sv dX1_init_11 (fun S_2 eS_2 H locs hW hS => ?_)
  have h := bn_at eS_2 h
  have hC : Cl L S_2 := eS_2 ▸ Cl_sv hC
  refine lv_aload_n  hx hb dX1_init_14 rfl (lv_at hl 0 rfl) ?_
  refine gd_new (C := RX5) (T := TX5) (N := 5) (ci := 5) hx hb hts inX5 tyX5 tyX5_ok hown mw_338 mw_221 mw_72 hK hT hW hS hC rfl x (hfree x (by simp)) (fun j hj => by rcases (show j = 0 ∨ j = 1 ∨ j = 2 ∨ j = 3 ∨ j = 4 by omega) with rfl | rfl | rfl | rfl | rfl <;> rfl) (fun _ => (zD_ord h1_x h2_x)) (by decide) (by decide) dX1_init_15 (fun S_3 eS_3 ad_4 hag H hW hS hC => ?_)
  rw [← hag o (by omega)] at hl
  rw [← hag o (by omega)]
  have hg : ∀ z9 ∈ L, ad_4 z9 = ad z9 := fun z9 hx => (hag z9 (fun e9 => hfree x (by simp) (e9 ▸ hx))).trans (hg z9 hx)
  have h := bn_at eS_3 h
  refine lv_dup hx hb dX1_init_18 rfl ?_
  obtain ⟨S_6, hc_5, h⟩ := cl0_ex h
  refine gd_c (gd_runIN (o := x) (As := []) (rest := [.ref (ad_4 x), .ref (ad_4 o)]) hx hb hml hown hts hK hN hT hS hW (c_X5_init me_r (by intro i9 hi9; simp only [List.mem_cons, List.not_mem_nil, or_false] at hi9; rcases hi9 with rfl | rfl | rfl <;> first | exact (nm_app (hfree (x + 10) (by simp)) (by omega)) | exact (nm_app (hfree (x + 20) (by simp)) (by omega)) | exact (nm_app (hfree (x + 30) (by simp)) (by omega))) hC h1_x h2_x hc_5) mw_224 (by decide +kernel) mw_223 mw_72 rfl hi_X5_init rfl rfl rfl (rc_ok (by decide) (by decide)) hl.1 (Nat.le_of_ble_eq_true rfl) dX1_init_19 rfl ⟨by decide, by decide⟩) hS (fun ad_7 hag H locs hW hS hC => ?_)
  rw [← hag o (me_l ho)] at hl
  rw [← hag o (me_l ho), ← hag x me_r]
  have hg : ∀ z9 ∈ L, ad_7 z9 = ad z9 := fun z9 hx => (hag z9 (me_l hx)).trans (hg z9 hx)
  refine gd_put (C := RX1) (T := TX1) (N := 12) (ci := 1) (v := .ref (ad_7 x)) hx hb hts inX1 tyX1 tyX1_ok nmX1 hown hK hW hS (me_l (me_l (me_l (me_l ho)))) (cD_herd h1_o h2_o) rfl 6 (by decide) mw_354 rfl (Or.inr ⟨hin, rfl⟩) rfl rfl (Nat.le_of_ble_eq_true rfl) (sr S_6 o 6 (some x)) (dr_herd_6 h1_o h2_o) cellD_sr dX1_init_22 (fun S_8 eS_8 H locs hW hS => ?_)
  have h := bn_at eS_8 h
  have hC : Cl (L ++ [x] ++ [x + 10] ++ [x + 20] ++ [x + 30]) S_8 := eS_8 ▸ Cl_sr hC (me_l (me_l (me_l me_r)))
  refine lv_aload_n  hx hb dX1_init_25 rfl (lv_at hl 0 rfl) ?_
  refine lv_iconst (v := 0) hx hb dX1_init_26 (by decide) ?_
  refine gd_put (C := RX1) (T := TX1) (N := 12) (ci := 1) (v := .int 0) hx hb hts inX1 tyX1 tyX1_ok nmX1 hown hK hW hS (me_l (me_l (me_l (me_l ho)))) (cD_herd h1_o h2_o) rfl 7 (by decide) mw_356 rfl (Or.inr ⟨hin, rfl⟩) rfl rfl (Nat.le_of_ble_eq_true rfl) (sv S_8 o 7 0) (dv_herd_7 h1_o h2_o) cellD_sv dX1_init_27 (fun S_9 eS_9 H locs hW hS => ?_)
  have h := bn_at eS_9 h
  have hC : Cl (L ++ [x] ++ [x + 10] ++ [x + 20] ++ [x + 30]) S_9 := eS_9 ▸ Cl_sv hC
  refine lv_aload_n  hx hb dX1_init_30 rfl (lv_at hl 0 rfl) ?_
  refine lv_iconst (v := 0) hx hb dX1_init_31 (by decide) ?_
  refine gd_put (C := RX1) (T := TX1) (N := 12) (ci := 1) (v := .int 0) hx hb hts inX1 tyX1 tyX1_ok nmX1 hown hK hW hS (me_l (me_l (me_l (me_l ho)))) (cD_herd h1_o h2_o) rfl 8 (by decide) mw_357 rfl (Or.inr ⟨hin, rfl⟩) rfl rfl (Nat.le_of_ble_eq_true rfl) (sv S_9 o 8 0) (dv_herd_8 h1_o h2_o) cellD_sv dX1_init_32 (fun S_10 eS_10 H locs hW hS => ?_)
  have h := bn_at eS_10 h
  have hC : Cl (L ++ [x] ++ [x + 10] ++ [x + 20] ++ [x + 30]) S_10 := eS_10 ▸ Cl_sv hC
  refine lv_aload_n  hx hb dX1_init_35 rfl (lv_at hl 0 rfl) ?_
  refine lv_iconst (v := 0) hx hb dX1_init_36 (by decide) ?_
  refine gd_put (C := RX1) (T := TX1) (N := 12) (ci := 1) (v := .int 0) hx hb hts inX1 tyX1 tyX1_ok nmX1 hown hK hW hS (me_l (me_l (me_l (me_l ho)))) (cD_herd h1_o h2_o) rfl 9 (by decide) mw_358 rfl (Or.inr ⟨hin, rfl⟩) rfl rfl (Nat.le_of_ble_eq_true rfl) (sv S_10 o 9 0) (dv_herd_9 h1_o h2_o) cellD_sv dX1_init_37 (fun S_11 eS_11 H locs hW hS => ?_)
  have h := bn_at eS_11 h
  have hC : Cl (L ++ [x] ++ [x + 10] ++ [x + 20] ++ [x + 30]) S_11 := eS_11 ▸ Cl_sv hC
  refine lv_aload_n  hx hb dX1_init_40 rfl (lv_at hl 0 rfl) ?_
  refine lv_iconst (v := 0) hx hb dX1_init_41 (by decide) ?_
  refine gd_put (C := RX1) (T := TX1) (N := 12) (ci := 1) (v := .int 0) hx hb hts inX1 tyX1 tyX1_ok nmX1 hown hK hW hS (me_l (me_l (me_l (me_l ho)))) (cD_herd h1_o h2_o) rfl 10 (by decide) mw_359 rfl (Or.inr ⟨hin, rfl⟩) rfl rfl (Nat.le_of_ble_eq_true rfl) (sv S_11 o 10 0) (dv_herd_10 h1_o h2_o) cellD_sv dX1_init_42 (fun S_12 eS_12 H locs hW hS => ?_)
  have h := bn_at eS_12 h
  have hC : Cl (L ++ [x] ++ [x + 10] ++ [x + 20] ++ [x + 30]) S_12 := eS_12 ▸ Cl_sv hC
  refine lv_aload_n  hx hb dX1_init_45 rfl (lv_at hl 0 rfl) ?_
  refine lv_iconst (v := 0) hx hb dX1_init_46 (by decide) ?_
  refine gd_put (C := RX1) (T := TX1) (N := 12) (ci := 1) (v := .int 0) hx hb hts inX1 tyX1 tyX1_ok nmX1 hown hK hW hS (me_l (me_l (me_l (me_l ho)))) (cD_herd h1_o h2_o) rfl 11 (by decide) mw_360 rfl (Or.inr ⟨hin, rfl⟩) rfl rfl (Nat.le_of_ble_eq_true rfl) (sv S_12 o 11 0) (dv_herd_11 h1_o h2_o) cellD_sv dX1_init_47 (fun S_13 eS_13 H locs hW hS => ?_)
  have h := bn_at eS_13 h
  have hC : Cl (L ++ [x] ++ [x + 10] ++ [x + 20] ++ [x + 30]) S_13 := eS_13 ▸ Cl_sv hC
  refine lv_aload_n  hx hb dX1_init_50 rfl (lv_at hl 0 rfl) ?_
  refine lv_iload_n  hx hb dX1_init_51 rfl (lv_at hl 1 rfl) ?_
  refine gd_put (C := RX1) (T := TX1) (N := 12) (ci := 1) (v := .int p1) hx hb hts inX1 tyX1 tyX1_ok nmX1 hown hK hW hS (me_l (me_l (me_l (me_l ho)))) (cD_herd h1_o h2_o) rfl 2 (by decide) mw_343 rfl (Or.inr ⟨hin, rfl⟩) rfl rfl (Nat.le_of_ble_eq_true rfl) (sv S_13 o 2 p1) (dv_herd_2 h1_o h2_o) cellD_sv dX1_init_52 (fun S_14 eS_14 H locs hW hS => ?_)
  have h := bn_at eS_14 h
  have hC : Cl (L ++ [x] ++ [x + 10] ++ [x + 20] ++ [x + 30]) S_14 := eS_14 ▸ Cl_sv hC
  refine lv_aload_n  hx hb dX1_init_55 rfl (lv_at hl 0 rfl) ?_
  refine lv_iload_n  hx hb dX1_init_56 rfl (lv_at hl 2 rfl) ?_
  refine gd_put (C := RX1) (T := TX1) (N := 12) (ci := 1) (v := .int p2) hx hb hts inX1 tyX1 tyX1_ok nmX1 hown hK hW hS (me_l (me_l (me_l (me_l ho)))) (cD_herd h1_o h2_o) rfl 3 (by decide) mw_346 rfl (Or.inr ⟨hin, rfl⟩) rfl rfl (Nat.le_of_ble_eq_true rfl) (sv S_14 o 3 p2) (dv_herd_3 h1_o h2_o) cellD_sv dX1_init_57 (fun S_15 eS_15 H locs hW hS => ?_)
  have h := bn_at eS_15 h
  have hC : Cl (L ++ [x] ++ [x + 10] ++ [x + 20] ++ [x + 30]) S_15 := eS_15 ▸ Cl_sv hC
  refine lv_aload_n  hx hb dX1_init_60 rfl (lv_at hl 0 rfl) ?_
  refine lv_iload_n  hx hb dX1_init_61 rfl (lv_at hl 3 rfl) ?_
  refine gd_put (C := RX1) (T := TX1) (N := 12) (ci := 1) (v := .int p3) hx hb hts inX1 tyX1 tyX1_ok nmX1 hown hK hW hS (me_l (me_l (me_l (me_l ho)))) (cD_herd h1_o h2_o) rfl 0 (by decide) mw_340 rfl (Or.inr ⟨hin, rfl⟩) rfl rfl (Nat.le_of_ble_eq_true rfl) (sv S_15 o 0 p3) (dv_herd_0 h1_o h2_o) cellD_sv dX1_init_62 (fun S_16 eS_16 H locs hW hS => ?_)
  have h := bn_at eS_16 h
  have hC : Cl (L ++ [x] ++ [x + 10] ++ [x + 20] ++ [x + 30]) S_16 := eS_16 ▸ Cl_sv hC
  refine lv_aload_n  hx hb dX1_init_65 rfl (lv_at hl 0 rfl) ?_
  refine lv_iload  hx hb dX1_init_66 (lv_at hl 4 rfl) ?_
  refine gd_put (C := RX1) (T := TX1) (N := 12) (ci := 1) (v := .int p4) hx hb hts inX1 tyX1 tyX1_ok nmX1 hown hK hW hS (me_l (me_l (me_l (me_l ho)))) (cD_herd h1_o h2_o) rfl 1 (by decide) mw_341 rfl (Or.inr ⟨hin, rfl⟩) rfl rfl (Nat.le_of_ble_eq_true rfl) (sv S_16 o 1 p4) (dv_herd_1 h1_o h2_o) cellD_sv dX1_init_68 (fun S_17 eS_17 H locs hW hS => ?_)
  have h := bn_at eS_17 h
  have hC : Cl (L ++ [x] ++ [x + 10] ++ [x + 20] ++ [x + 30]) S_17 := eS_17 ▸ Cl_sv hC
  cases h
  exact gd_vret hx hb hr hlocks hW hS hC hg dX1_init_71
theorem c_X1_init {S S9 : St} {o : Nat} {p1 : Int32} {p2 : Int32} {p3 : Int32} {p4 : Int32} {x : Nat} (ho : o ∈ L) (hfree : ∀ i ∈ [x, x + 10, x + 20, x + 30], i ∉ L) (hC : Cl L S) (h1_o : 60 ≤ o) (h2_o : o < 66) (h1_x : 70 ≤ x) (h2_x : x < 77) (h : f_X1_init S o p1 p2 p3 p4 x = some S9) : Met l yX1_init (gws yX1_init cX1_init 5 none) (rmc 2 4 521) (va_Pc [.ref (ad o), .int p1, .int p2, .int p3, .int p4] (WD g A ad L S)) (qd g A ad L (L ++ [x] ++ [x + 10] ++ [x + 20] ++ [x + 30]) S9) 4 521 A :=
  gd_met [.ref (ad o), .int p1, .int p2, .int p3, .int p4] (by decide) (Nat.le_of_ble_eq_true rfl) (fun p e s m below meth c ls C hW hl hin => t_X1_init C hin ho hfree hC h1_o h2_o h1_x h2_x h hW va_S.rf hl)
theorem hi_X1_init : yX1_init.cls ≠ "java/lang/invoke/MethodHandle" ∧ yX1_init.cls ≠ "java/lang/invoke/VarHandle" ∧ (parseMethodDescriptor yX1_init.desc).map (fun d => d.parameters.length) = some 4 := by decide +kernel
def f_X4_init (S : St) (p2 : Int32) (p3 : Int32) (p4 : Int32) : Option St := bn (sr S 112 1 (some 1)) fun S_1 => bn (sv S_1 112 0 p4) fun S_2 => bn (sv S_2 112 2 p2) fun S_3 => bn (sv S_3 112 3 p3) fun S_4 => some S_4
set_option maxHeartbeats 8000000 in
set_option maxRecDepth 8000 in
theorem t_X4_init (C : MC p s m args meth c cX4_init 5 none RX4 g A) (hin : meth.name = "<init>") {S S9 : St} {p2 : Int32} {p3 : Int32} {p4 : Int32} (ho : 112 ∈ L) (hfree : ∀ i ∈ ([] : List Nat), i ∉ L) (hC : Cl L S) (h_1 : 1 ∈ L) (h : f_X4_init S p2 p3 p4 = some S9) {H : Heap} {locs : List Loc} {ls : Array Slot} (hW : GD g A ad L S H) (hS : va_S A s.heap H locs) (hl : lv_has ls 5 [(0, .ref (ad 112)), (1, .ref (ad 1)), (2, .int p2), (3, .int p3), (4, .int p4)]) : W p l e (rmc 1 0 0) s m args below meth c H locs 0 0 (MQ below (qd g A ad L L S9) args s 0 0 A) (F0 m 0 ls []) := by
  obtain ⟨hx, hb, hml, hown, hts, hr, hlocks, hK, hN, hT⟩ := id C
  have hg : ∀ x ∈ L, ad x = ad x := fun _ _ => rfl
  unfold f_X4_init at h
  refine lv_aload_n  hx hb dX4_init_0 rfl (lv_at hl 0 rfl) ?_
  refine W.objInit hx hb hown (hts _ mw_830) (hts _ mw_90) (hts _ mw_obj) rfl (by rw [hml]; exact hl.1) rfl dX4_init_1 (by decide) (Nat.le_of_ble_eq_true rfl) ?_
  refine W.eq (g2 := F0 m 4 ls []) rfl ?_
  refine lv_aload_n  hx hb dX4_init_4 rfl (lv_at hl 0 rfl) ?_
  refine lv_aload_n  hx hb dX4_init_5 rfl (lv_at hl 1 rfl) ?_
  refine gd_put (C := RX4) (T := TX4) (N := 4) (ci := 4) (v := .ref (ad 1)) hx hb hts inX4 tyX4 tyX4_ok nmX4 hown hK hW hS ho (cD_112) rfl 1 (by decide) mw_833 rfl (Or.inr ⟨hin, rfl⟩) rfl rfl (Nat.le_of_ble_eq_true rfl) (sr S 112 1 (some 1)) (dr_112_1) cellD_sr dX4_init_6 (fun S_1 eS_1 H locs hW hS => ?_)
  have h := bn_at eS_1 h
  have hC : Cl L S_1 := eS_1 ▸ Cl_sr hC h_1
  refine lv_aload_n  hx hb dX4_init_9 rfl (lv_at hl 0 rfl) ?_
  refine lv_iload  hx hb dX4_init_10 (lv_at hl 4 rfl) ?_
  refine gd_put (C := RX4) (T := TX4) (N := 4) (ci := 4) (v := .int p4) hx hb hts inX4 tyX4 tyX4_ok nmX4 hown hK hW hS ho (cD_112) rfl 0 (by decide) mw_831 rfl (Or.inr ⟨hin, rfl⟩) rfl rfl (Nat.le_of_ble_eq_true rfl) (sv S_1 112 0 p4) (dv_112_0) cellD_sv dX4_init_12 (fun S_2 eS_2 H locs hW hS => ?_)
  have h := bn_at eS_2 h
  have hC : Cl L S_2 := eS_2 ▸ Cl_sv hC
  refine lv_aload_n  hx hb dX4_init_15 rfl (lv_at hl 0 rfl) ?_
  refine lv_iload_n  hx hb dX4_init_16 rfl (lv_at hl 2 rfl) ?_
  refine gd_put (C := RX4) (T := TX4) (N := 4) (ci := 4) (v := .int p2) hx hb hts inX4 tyX4 tyX4_ok nmX4 hown hK hW hS ho (cD_112) rfl 2 (by decide) mw_834 rfl (Or.inr ⟨hin, rfl⟩) rfl rfl (Nat.le_of_ble_eq_true rfl) (sv S_2 112 2 p2) (dv_112_2) cellD_sv dX4_init_17 (fun S_3 eS_3 H locs hW hS => ?_)
  have h := bn_at eS_3 h
  have hC : Cl L S_3 := eS_3 ▸ Cl_sv hC
  refine lv_aload_n  hx hb dX4_init_20 rfl (lv_at hl 0 rfl) ?_
  refine lv_iload_n  hx hb dX4_init_21 rfl (lv_at hl 3 rfl) ?_
  refine gd_put (C := RX4) (T := TX4) (N := 4) (ci := 4) (v := .int p3) hx hb hts inX4 tyX4 tyX4_ok nmX4 hown hK hW hS ho (cD_112) rfl 3 (by decide) mw_835 rfl (Or.inr ⟨hin, rfl⟩) rfl rfl (Nat.le_of_ble_eq_true rfl) (sv S_3 112 3 p3) (dv_112_3) cellD_sv dX4_init_22 (fun S_4 eS_4 H locs hW hS => ?_)
  have h := bn_at eS_4 h
  have hC : Cl L S_4 := eS_4 ▸ Cl_sv hC
  cases h
  exact gd_vret hx hb hr hlocks hW hS hC hg dX4_init_25
theorem c_X4_init {S S9 : St} {p2 : Int32} {p3 : Int32} {p4 : Int32} (ho : 112 ∈ L) (hfree : ∀ i ∈ ([] : List Nat), i ∉ L) (hC : Cl L S) (h_1 : 1 ∈ L) (h : f_X4_init S p2 p3 p4 = some S9) : Met l yX4_init (gws yX4_init cX4_init 5 none) (rmc 1 0 0) (va_Pc [.ref (ad 112), .ref (ad 1), .int p2, .int p3, .int p4] (WD g A ad L S)) (qd g A ad L L S9) 0 0 A :=
  gd_met [.ref (ad 112), .ref (ad 1), .int p2, .int p3, .int p4] (by decide) (Nat.le_of_ble_eq_true rfl) (fun p e s m below meth c ls C hW hl hin => t_X4_init C hin ho hfree hC h_1 h hW va_S.rf hl)
theorem hi_X4_init : yX4_init.cls ≠ "java/lang/invoke/MethodHandle" ∧ yX4_init.cls ≠ "java/lang/invoke/VarHandle" ∧ (parseMethodDescriptor yX4_init.desc).map (fun d => d.parameters.length) = some 4 := by decide +kernel
def f_X3_init (S : St) (p2 : Int32) : Option St := bn (sv S 111 0 27) fun S_1 => bn (sv S_1 111 1 0) fun S_2 => bn (sv S_2 111 2 0) fun S_3 => bn (sv S_3 111 5 0) fun S_4 => bn (sr S_4 111 3 (some 7)) fun S_5 => bn (if 500 < p2 then 500 else p2) fun x_6 => bn (sv S_5 111 4 x_6) fun S_7 => some S_7
set_option maxHeartbeats 8000000 in
set_option maxRecDepth 8000 in
theorem t_X3_init (C : MC p s m args meth c cX3_init 3 none RX3 g A) (hin : meth.name = "<init>") {S S9 : St} {p2 : Int32} (ho : 111 ∈ L) (hfree : ∀ i ∈ ([] : List Nat), i ∉ L) (hC : Cl L S) (h_7 : 7 ∈ L) (h : f_X3_init S p2 = some S9) {H : Heap} {locs : List Loc} {ls : Array Slot} (hW : GD g A ad L S H) (hS : va_S A s.heap H locs) (hl : lv_has ls 3 [(0, .ref (ad 111)), (1, .ref (ad 7)), (2, .int p2)]) : W p l e (rmc 1 0 0) s m args below meth c H locs 0 0 (MQ below (qd g A ad L L S9) args s 0 0 A) (F0 m 0 ls []) := by
  obtain ⟨hx, hb, hml, hown, hts, hr, hlocks, hK, hN, hT⟩ := id C
  have hg : ∀ x ∈ L, ad x = ad x := fun _ _ => rfl
  unfold f_X3_init at h
  refine lv_aload_n  hx hb dX3_init_0 rfl (lv_at hl 0 rfl) ?_
  refine W.objInit hx hb hown (hts _ mw_443) (hts _ mw_90) (hts _ mw_obj) rfl (by rw [hml]; exact hl.1) rfl dX3_init_1 (by decide) (Nat.le_of_ble_eq_true rfl) ?_
  refine W.eq (g2 := F0 m 4 ls []) rfl ?_
  refine lv_aload_n  hx hb dX3_init_4 rfl (lv_at hl 0 rfl) ?_
  refine lv_bipush (v := 27) hx hb dX3_init_5 (by decide) ?_
  refine gd_put (C := RX3) (T := TX3) (N := 6) (ci := 3) (v := .int 27) hx hb hts inX3 tyX3 tyX3_ok nmX3 hown hK hW hS ho (cD_111) rfl 0 (by decide) mw_447 rfl (Or.inr ⟨hin, rfl⟩) rfl rfl (Nat.le_of_ble_eq_true rfl) (sv S 111 0 27) (dv_111_0) cellD_sv dX3_init_7 (fun S_1 eS_1 H locs hW hS => ?_)
  have h := bn_at eS_1 h
  have hC : Cl L S_1 := eS_1 ▸ Cl_sv hC
  refine lv_aload_n  hx hb dX3_init_10 rfl (lv_at hl 0 rfl) ?_
  refine lv_iconst (v := 0) hx hb dX3_init_11 (by decide) ?_
  refine gd_put (C := RX3) (T := TX3) (N := 6) (ci := 3) (v := .int 0) hx hb hts inX3 tyX3 tyX3_ok nmX3 hown hK hW hS ho (cD_111) rfl 1 (by decide) mw_449 rfl (Or.inr ⟨hin, rfl⟩) rfl rfl (Nat.le_of_ble_eq_true rfl) (sv S_1 111 1 0) (dv_111_1) cellD_sv dX3_init_12 (fun S_2 eS_2 H locs hW hS => ?_)
  have h := bn_at eS_2 h
  have hC : Cl L S_2 := eS_2 ▸ Cl_sv hC
  refine lv_aload_n  hx hb dX3_init_15 rfl (lv_at hl 0 rfl) ?_
  refine lv_iconst (v := 0) hx hb dX3_init_16 (by decide) ?_
  refine gd_put (C := RX3) (T := TX3) (N := 6) (ci := 3) (v := .int 0) hx hb hts inX3 tyX3 tyX3_ok nmX3 hown hK hW hS ho (cD_111) rfl 2 (by decide) mw_451 rfl (Or.inr ⟨hin, rfl⟩) rfl rfl (Nat.le_of_ble_eq_true rfl) (sv S_2 111 2 0) (dv_111_2) cellD_sv dX3_init_17 (fun S_3 eS_3 H locs hW hS => ?_)
  have h := bn_at eS_3 h
  have hC : Cl L S_3 := eS_3 ▸ Cl_sv hC
  refine lv_aload_n  hx hb dX3_init_20 rfl (lv_at hl 0 rfl) ?_
  refine lv_iconst (v := 0) hx hb dX3_init_21 (by decide) ?_
  refine gd_put (C := RX3) (T := TX3) (N := 6) (ci := 3) (v := .int 0) hx hb hts inX3 tyX3 tyX3_ok nmX3 hown hK hW hS ho (cD_111) rfl 5 (by decide) mw_455 rfl (Or.inr ⟨hin, rfl⟩) rfl rfl (Nat.le_of_ble_eq_true rfl) (sv S_3 111 5 0) (dv_111_5) cellD_sv dX3_init_22 (fun S_4 eS_4 H locs hW hS => ?_)
  have h := bn_at eS_4 h
  have hC : Cl L S_4 := eS_4 ▸ Cl_sv hC
  refine lv_aload_n  hx hb dX3_init_25 rfl (lv_at hl 0 rfl) ?_
  refine lv_aload_n  hx hb dX3_init_26 rfl (lv_at hl 1 rfl) ?_
  refine gd_put (C := RX3) (T := TX3) (N := 6) (ci := 3) (v := .ref (ad 7)) hx hb hts inX3 tyX3 tyX3_ok nmX3 hown hK hW hS ho (cD_111) rfl 3 (by decide) mw_453 rfl (Or.inr ⟨hin, rfl⟩) rfl rfl (Nat.le_of_ble_eq_true rfl) (sr S_4 111 3 (some 7)) (dr_111_3) cellD_sr dX3_init_27 (fun S_5 eS_5 H locs hW hS => ?_)
  have h := bn_at eS_5 h
  have hC : Cl L S_5 := eS_5 ▸ Cl_sr hC h_7
  refine lv_aload_n  hx hb dX3_init_30 rfl (lv_at hl 0 rfl) ?_
  refine lv_iload_n  hx hb dX3_init_31 rfl (lv_at hl 2 rfl) ?_
  refine lv_aload_n  hx hb dX3_init_32 rfl (lv_at hl 1 rfl) ?_
  refine gd_alen (v := 500) hx hb hK hW h_7 0 rfl cD_7 (by decide) dX3_init_33 ?_
  refine g_min (rest := [.ref (ad 111)]) hx hb hml hl.1 hown hts mw_444 mw_445 mw_77 mw_cmin (by decide) (Nat.le_of_ble_eq_true rfl) (by decide) (by decide) dX3_init_34 (fun x_6 ex_6 => ?_)
  have h := bn_at ex_6 h
  refine gd_put (C := RX3) (T := TX3) (N := 6) (ci := 3) (v := .int x_6) hx hb hts inX3 tyX3 tyX3_ok nmX3 hown hK hW hS ho (cD_111) rfl 4 (by decide) mw_454 rfl (Or.inr ⟨hin, rfl⟩) rfl rfl (Nat.le_of_ble_eq_true rfl) (sv S_5 111 4 x_6) (dv_111_4) cellD_sv dX3_init_37 (fun S_7 eS_7 H locs hW hS => ?_)
  have h := bn_at eS_7 h
  have hC : Cl L S_7 := eS_7 ▸ Cl_sv hC
  cases h
  exact gd_vret hx hb hr hlocks hW hS hC hg dX3_init_40
theorem c_X3_init {S S9 : St} {p2 : Int32} (ho : 111 ∈ L) (hfree : ∀ i ∈ ([] : List Nat), i ∉ L) (hC : Cl L S) (h_7 : 7 ∈ L) (h : f_X3_init S p2 = some S9) : Met l yX3_init (gws yX3_init cX3_init 3 none) (rmc 1 0 0) (va_Pc [.ref (ad 111), .ref (ad 7), .int p2] (WD g A ad L S)) (qd g A ad L L S9) 0 0 A :=
  gd_met [.ref (ad 111), .ref (ad 7), .int p2] (by decide) (Nat.le_of_ble_eq_true rfl) (fun p e s m below meth c ls C hW hl hin => t_X3_init C hin ho hfree hC h_7 h hW va_S.rf hl)
theorem hi_X3_init : yX3_init.cls ≠ "java/lang/invoke/MethodHandle" ∧ yX3_init.cls ≠ "java/lang/invoke/VarHandle" ∧ (parseMethodDescriptor yX3_init.desc).map (fun d => d.parameters.length) = some 2 := by decide +kernel
def f_X6_init (S : St) (p2 : Int32) (x : Nat) : Option St := bn (sv S 110 0 0) fun S_1 => bn (sv S_1 110 1 (-1)) fun S_2 => bn (sv S_2 110 4 0) fun S_3 => bn (zr S_3 111) fun S_4 => cl0 (f_X3_init S_4 p2) fun S_7 => bn (sr S_7 110 2 (some 111)) fun S_9 => bn (sr S_9 110 3 (some x)) fun S_10 => some S_10
set_option maxHeartbeats 8000000 in
set_option maxRecDepth 8000 in
theorem t_X6_init (C : MC p s m args meth c cX6_init 4 none RX6 g A) (hin : meth.name = "<init>") {S S9 : St} {p2 : Int32} {x : Nat} (ho : 110 ∈ L) (hfree : ∀ i ∈ [111], i ∉ L) (hC : Cl L S) (h_7 : 7 ∈ L) (h_x : x ∈ L) (h1_x : 70 ≤ x) (h2_x : x < 77) (h : f_X6_init S p2 x = some S9) {H : Heap} {locs : List Loc} {ls : Array Slot} (hW : GD g A ad L S H) (hS : va_S A s.heap H locs) (hl : lv_has ls 4 [(0, .ref (ad 110)), (1, .ref (ad 7)), (2, .int p2), (3, .ref (ad x))]) : W p l e (rmc 2 1 6) s m args below meth c H locs 0 0 (MQ below (qd g A ad L (L ++ [111]) S9) args s 1 6 A) (F0 m 0 ls []) := by
  obtain ⟨hx, hb, hml, hown, hts, hr, hlocks, hK, hN, hT⟩ := id C
  have hg : ∀ x ∈ L, ad x = ad x := fun _ _ => rfl
  unfold f_X6_init at h
  refine lv_aload_n  hx hb dX6_init_0 rfl (lv_at hl 0 rfl) ?_
  refine W.objInit hx hb hown (hts _ mw_437) (hts _ mw_90) (hts _ mw_obj) rfl (by rw [hml]; exact hl.1) rfl dX6_init_1 (by decide) (Nat.le_of_ble_eq_true rfl) ?_
  refine W.eq (g2 := F0 m 4 ls []) rfl ?_
  refine lv_aload_n  hx hb dX6_init_4 rfl (lv_at hl 0 rfl) ?_
  refine lv_iconst (v := 0) hx hb dX6_init_5 (by decide) ?_
  refine gd_put (C := RX6) (T := TX6) (N := 5) (ci := 6) (v := .int 0) hx hb hts inX6 tyX6 tyX6_ok nmX6 hown hK hW hS ho (cD_110) rfl 0 (by decide) mw_469 rfl (Or.inr ⟨hin, rfl⟩) rfl rfl (Nat.le_of_ble_eq_true rfl) (sv S 110 0 0) (dv_110_0) cellD_sv dX6_init_6 (fun S_1 eS_1 H locs hW hS => ?_)
  have h := bn_at eS_1 h
  have hC : Cl L S_1 := eS_1 ▸ Cl_sv hC
  refine lv_aload_n  hx hb dX6_init_9 rfl (lv_at hl 0 rfl) ?_
  refine lv_iconst (v := (-1)) hx hb dX6_init_10 (by decide) ?_
  refine gd_put (C := RX6) (T := TX6) (N := 5) (ci := 6) (v := .int (-1)) hx hb hts inX6 tyX6 tyX6_ok nmX6 hown hK hW hS ho (cD_110) rfl 1 (by decide) mw_471 rfl (Or.inr ⟨hin, rfl⟩) rfl rfl (Nat.le_of_ble_eq_true rfl) (sv S_1 110 1 (-1)) (dv_110_1) cellD_sv dX6_init_11 (fun S_2 eS_2 H locs hW hS => ?_)
  have h := bn_at eS_2 h
  have hC : Cl L S_2 := eS_2 ▸ Cl_sv hC
  refine lv_aload_n  hx hb dX6_init_14 rfl (lv_at hl 0 rfl) ?_
  refine lv_iconst (v := 0) hx hb dX6_init_15 (by decide) ?_
  refine gd_put (C := RX6) (T := TX6) (N := 5) (ci := 6) (v := .int 0) hx hb hts inX6 tyX6 tyX6_ok nmX6 hown hK hW hS ho (cD_110) rfl 4 (by decide) mw_475 rfl (Or.inr ⟨hin, rfl⟩) rfl rfl (Nat.le_of_ble_eq_true rfl) (sv S_2 110 4 0) (dv_110_4) cellD_sv dX6_init_16 (fun S_3 eS_3 H locs hW hS => ?_)
  have h := bn_at eS_3 h
  have hC : Cl L S_3 := eS_3 ▸ Cl_sv hC
  refine lv_aload_n  hx hb dX6_init_19 rfl (lv_at hl 0 rfl) ?_
  refine gd_new (C := RX3) (T := TX3) (N := 6) (ci := 3) hx hb hts inX3 tyX3 tyX3_ok hown mw_438 mw_439 mw_76 hK hT hW hS hC rfl 111 (hfree 111 (by decide)) (fun j hj => by rcases (show j = 0 ∨ j = 1 ∨ j = 2 ∨ j = 3 ∨ j = 4 ∨ j = 5 by omega) with rfl | rfl | rfl | rfl | rfl | rfl <;> rfl) (fun _ => zD_111) (by decide) (by decide) dX6_init_20 (fun S_4 eS_4 ad_5 hag H hW hS hC => ?_)
  rw [← hag 110 (by omega), ← hag 7 (by omega), ← hag x (by omega)] at hl
  rw [← hag 110 (by omega)]
  have hg : ∀ z9 ∈ L, ad_5 z9 = ad z9 := fun z9 hx => (hag z9 (fun e9 => hfree 111 (by decide) (e9 ▸ hx))).trans (hg z9 hx)
  have h := bn_at eS_4 h
  refine lv_dup hx hb dX6_init_23 rfl ?_
  refine lv_aload_n  hx hb dX6_init_24 rfl (lv_at hl 1 rfl) ?_
  refine lv_iload_n  hx hb dX6_init_25 rfl (lv_at hl 2 rfl) ?_
  obtain ⟨S_7, hc_6, h⟩ := cl0_ex h
  refine gd_c (gd_runI (o := 111) (As := [.ref (ad_5 7), .int p2]) (rest := [.ref (ad_5 111), .ref (ad_5 110)]) hx hb hml hown hts hK hN hT hS hW (c_X3_init me_r (fun _ h9 => absurd h9 List.not_mem_nil) hC (me_l h_7) hc_6) mw_442 mw_440 mw_441 mw_76 rfl hi_X3_init rfl rfl rfl (rc_ok (by decide) (by decide)) hl.1 (Nat.le_of_ble_eq_true rfl) dX6_init_26 rfl ⟨by decide, by decide⟩) hS (fun ad_8 hag H locs hW hS hC => ?_)
  rw [← hag 110 (me_l ho), ← hag 7 (me_l h_7), ← hag x (me_l h_x)] at hl
  rw [← hag 110 (me_l ho), ← hag 111 me_r]
  have hg : ∀ z9 ∈ L, ad_8 z9 = ad z9 := fun z9 hx => (hag z9 (me_l hx)).trans (hg z9 hx)
  refine gd_put (C := RX6) (T := TX6) (N := 5) (ci := 6) (v := .ref (ad_8 111)) hx hb hts inX6 tyX6 tyX6_ok nmX6 hown hK hW hS (me_l ho) (cD_110) rfl 2 (by decide) mw_473 rfl (Or.inr ⟨hin, rfl⟩) rfl rfl (Nat.le_of_ble_eq_true rfl) (sr S_7 110 2 (some 111)) (dr_110_2) cellD_sr dX6_init_29 (fun S_9 eS_9 H locs hW hS => ?_)
  have h := bn_at eS_9 h
  have hC : Cl (L ++ [111]) S_9 := eS_9 ▸ Cl_sr hC me_r
  refine lv_aload_n  hx hb dX6_init_32 rfl (lv_at hl 0 rfl) ?_
  refine lv_aload_n  hx hb dX6_init_33 rfl (lv_at hl 3 rfl) ?_
  refine gd_put (C := RX6) (T := TX6) (N := 5) (ci := 6) (v := .ref (ad_8 x)) hx hb hts inX6 tyX6 tyX6_ok nmX6 hown hK hW hS (me_l ho) (cD_110) rfl 3 (by decide) mw_474 rfl (Or.inr ⟨hin, rfl⟩) rfl rfl (Nat.le_of_ble_eq_true rfl) (sr S_9 110 3 (some x)) (dr_110_3) cellD_sr dX6_init_34 (fun S_10 eS_10 H locs hW hS => ?_)
  have h := bn_at eS_10 h
  have hC : Cl (L ++ [111]) S_10 := eS_10 ▸ Cl_sr hC (me_l h_x)
  cases h
  exact gd_vret hx hb hr hlocks hW hS hC hg dX6_init_37
theorem c_X6_init {S S9 : St} {p2 : Int32} {x : Nat} (ho : 110 ∈ L) (hfree : ∀ i ∈ [111], i ∉ L) (hC : Cl L S) (h_7 : 7 ∈ L) (h_x : x ∈ L) (h1_x : 70 ≤ x) (h2_x : x < 77) (h : f_X6_init S p2 x = some S9) : Met l yX6_init (gws yX6_init cX6_init 4 none) (rmc 2 1 6) (va_Pc [.ref (ad 110), .ref (ad 7), .int p2, .ref (ad x)] (WD g A ad L S)) (qd g A ad L (L ++ [111]) S9) 1 6 A :=
  gd_met [.ref (ad 110), .ref (ad 7), .int p2, .ref (ad x)] (by decide) (Nat.le_of_ble_eq_true rfl) (fun p e s m below meth c ls C hW hl hin => t_X6_init C hin ho hfree hC h_7 h_x h1_x h2_x h hW va_S.rf hl)
theorem hi_X6_init : yX6_init.cls ≠ "java/lang/invoke/MethodHandle" ∧ yX6_init.cls ≠ "java/lang/invoke/VarHandle" ∧ (parseMethodDescriptor yX6_init.desc).map (fun d => d.parameters.length) = some 3 := by decide +kernel
end S42
