/-! a world by any cells -/
def gcl (ad : Nat → Nat) (cf : Nat → va_E) (L : List Nat) : va_W := L.map fun o => (ad o, cf o)
def GC (g : Cx) (A : Nat → Prop) (ad : Nat → Nat) (L : List Nat) (cf : Nat → va_E) (H : Heap) : Prop := va_P g.1 vwCl (gcl ad cf L) H ∧ va_D A (gcl ad cf L)
theorem gcl_at {ad : Nat → Nat} {cf : Nat → va_E} {L : List Nat} {o : Nat} (ho : o ∈ L) : ∃ q : Nat, L[q]? = some o ∧ (gcl ad cf L)[q]? = some (ad o, cf o) := by
  obtain ⟨q, hq⟩ := List.getElem?_of_mem ho
  exact ⟨q, hq, by unfold gcl; rw [List.getElem?_map, hq]; rfl⟩
theorem gcl_set {A : Nat → Prop} {ad : Nat → Nat} {cf cf1 : Nat → va_E} {L : List Nat} {o q : Nat} {e : va_E} (hD : va_D A (gcl ad cf L)) (hq : L[q]? = some o) (h1 : cf1 o = e) (h2 : ∀ x ∈ L, x ≠ o → cf1 x = cf x) : (gcl ad cf L).set q (ad o, e) = gcl ad cf1 L := by
  apply List.ext_getElem?
  intro i
  rw [List.getElem?_set]
  have hql : q < (gcl ad cf L).length := by unfold gcl; rw [List.length_map]; exact (List.getElem?_eq_some_iff.mp hq).1
  by_cases hi : q = i
  · subst hi
    rw [if_pos rfl, if_pos hql]
    unfold gcl
    rw [List.getElem?_map, hq]
    show _ = some (ad o, cf1 o)
    rw [h1]
  · rw [if_neg hi]
    cases hx : L[i]? with
    | none => unfold gcl; rw [List.getElem?_map, List.getElem?_map, hx]; rfl
    | some x =>
      have hxo : x ≠ o := fun e2 => by
        subst e2
        exact hi (hD.1 q i (ad x, cf x) (ad x, cf x) (by unfold gcl; rw [List.getElem?_map, hq]; rfl) (by unfold gcl; rw [List.getElem?_map, hx]; rfl) rfl)
      unfold gcl
      rw [List.getElem?_map, List.getElem?_map, hx]
      show some (ad x, cf x) = some (ad x, cf1 x)
      rw [h2 x (List.mem_of_getElem? hx) hxo]
theorem gcl_add {ad : Nat → Nat} {cf cf1 : Nat → va_E} {L : List Nat} {o q : Nat} {e : va_E} (hid : o ∉ L) (h1 : cf1 o = e) (h2 : ∀ x ∈ L, cf1 x = cf x) : gcl ad cf L ++ [(q, e)] = gcl (va_up ad o q) cf1 (L ++ [o]) := by
  unfold gcl
  rw [List.map_append]
  congr 1
  · apply List.map_congr_left
    intro x hx
    have hne : x ≠ o := fun h => hid (h ▸ hx)
    show (ad x, cf x) = (va_up ad o q x, cf1 x)
    rw [h2 x hx]
    simp only [va_up, if_neg hne]
  · show [(q, e)] = [(va_up ad o q o, cf1 o)]
    rw [h1]
    simp only [va_up, if_true]
section GCR
variable {p : Program} {l : Launch} {e : Env} {R : Room} {s : State} {m : MethodId} {args : Array Value} {below : List Frame} {meth : Method} {c : Code} {H : Heap} {locs : List Loc} {cells slots : Nat} {Q : State → Prop}
variable {cc : ByteArray} {pc : Nat} {ls : Array Slot} {rest : List Value} {A : Nat → Prop} {g : Cx} {ad : Nat → Nat} {L : List Nat} {cf : Nat → va_E}
theorem gc_get (hexec : p.tables.exec = Jvm.exec) (hb : c.code = cc) {own ref C : String} {T : u_T} {N ci index : Nat} (hts : ∀ w ∈ gw_tbl, w.before args s = true) (hin : ∀ w ∈ u_ws C T N, w ∈ gw_tbl) (hown : s.vm.findClass own = some m.cls) (hK : va_K g.1 vwCl (gtys g) s) (hW : GC g A ad L cf H) {o : Nat} (ho : o ∈ L) {fs : List Value} (he : cf o = .inr (ci, fs)) (hc : vwCl[ci]? = some (C, T, N)) (k : Nat) (hk : k < N) (hlink : Cond.fieldLink own index ref (T k).2.1 (T k).2.2.1 ∈ gw_tbl) (href : ref = (T k).1) {v : Value} (hv : fs[k]? = some v) (hdg : decode cc pc = .ok (.getfield index, 3))
    (kk : W p l e R s m args below meth c H locs cells slots Q (F0 m (pc + 3) ls (v :: rest))) : W p l e R s m args below meth c H locs cells slots Q (F0 m pc ls (.ref (ad o) :: rest)) := by
  obtain ⟨q, hq, hq2⟩ := gcl_at (ad := ad) (cf := cf) ho
  rw [he] at hq2
  exact va_get hexec hb hts hin hown hK hW.1 q hq2 hc k hk (hts _ hlink) (fun x h => by rw [href]; exact h) hv hdg kk
theorem gc_put (hexec : p.tables.exec = Jvm.exec) (hb : c.code = cc) {own ref C : String} {T : u_T} {N ci index : Nat} (hts : ∀ w ∈ gw_tbl, w.before args s = true) (hin : ∀ w ∈ u_ws C T N, w ∈ gw_tbl) (ty0 : Nat → FieldType) (hty : ∀ k, k < N → parseFieldDescriptor (T k).2.2.1 = some (ty0 k)) (hnm : ∀ a, a < N → ∀ b, b < N → a ≠ b → (T a).2.1 ≠ (T b).2.1) (hown : s.vm.findClass own = some m.cls) (hK : va_K g.1 vwCl (gtys g) s) (hW : GC g A ad L cf H) (hS : va_S A s.heap H locs) {o : Nat} (ho : o ∈ L) {fs : List Value} (he : cf o = .inr (ci, fs)) (hc : vwCl[ci]? = some (C, T, N)) (k : Nat) (hk : k < N) (hlink : Cond.fieldLink own index ref (T k).2.1 (T k).2.2.1 ∈ gw_tbl) (href : ref = (T k).1) (hfin : (T k).2.2.2 = false ∨ (meth.name = "<init>" ∧ (T k).1 = own)) {v : Value} (hn : narrow (ty0 k) v = v) (hfit : fits (ty0 k) v = true) (hl : k < fs.length) (cf1 : Nat → va_E) (h1 : cf1 o = .inr (ci, fs.set k v)) (h2 : ∀ x ∈ L, x ≠ o → cf1 x = cf x)
    (hdg : decode cc pc = .ok (.putfield index, 3)) (kk : ∀ (H1 : Heap) (locs1 : List Loc), GC g A ad L cf1 H1 → va_S A s.heap H1 locs1 → W p l e R s m args below meth c H1 locs1 cells slots Q (F0 m (pc + 3) ls rest)) : W p l e R s m args below meth c H locs cells slots Q (F0 m pc ls (v :: .ref (ad o) :: rest)) := by
  obtain ⟨q, hq, hq2⟩ := gcl_at (ad := ad) (cf := cf) ho
  rw [he] at hq2
  have hset := gcl_set (cf1 := cf1) hW.2 hq h1 h2
  by_cases hf : (T k).2.2.2 = false
  · refine va_put hexec hb hts hin ty0 hty hnm hown hK hW.1 hW.2 hS q hq2 hc k hk (hts _ hlink) (fun x h => by rw [href]; exact h) hf (hty k hk) hn hfit hl hdg (fun H1 locs1 hP hD hS1 => ?_)
    rw [hset] at hP hD
    exact kk H1 locs1 ⟨hP, hD⟩ hS1
  · have hin2 := hfin.resolve_left hf
    refine va_putF hexec hb hts hin ty0 hty hnm hown hK hW.1 hW.2 hS q hq2 hc k hk (hts _ hlink) (fun x h => by rw [href]; exact h) (by cases h9 : (T k).2.2.2 with | true => rfl | false => exact absurd h9 hf) hin2.1 hin2.2 (hty k hk) hn hfit hl hdg (fun H1 locs1 hP hD hS1 => ?_)
    rw [hset] at hP hD
    exact kk H1 locs1 ⟨hP, hD⟩ hS1
theorem gc_iast (hexec : p.tables.exec = Jvm.exec) (hb : c.code = cc) (hK : va_K g.1 vwCl (gtys g) s) (hW : GC g A ad L cf H) (hS : va_S A s.heap H locs) {o n : Nat} {f : Nat → Int32} (ho : o ∈ L) (he : cf o = .inl (g.2.2.1, n, .inl f)) {i x : Int32} (hin : ¬ (i < 0 ∨ n ≤ ix i)) (cf1 : Nat → va_E) (h1 : cf1 o = .inl (g.2.2.1, n, .inl (upd f (ix i) x))) (h2 : ∀ y ∈ L, y ≠ o → cf1 y = cf y) (hdg : decode cc pc = .ok (.iastore, 1))
    (kk : ∀ (H1 : Heap) (locs1 : List Loc), GC g A ad L cf1 H1 → va_S A s.heap H1 locs1 → W p l e R s m args below meth c H1 locs1 cells slots Q (F0 m (pc + 1) ls rest)) : W p l e R s m args below meth c H locs cells slots Q (F0 m pc ls (.int x :: .int i :: .ref (ad o) :: rest)) := by
  obtain ⟨q, hq, hq2⟩ := gcl_at (ad := ad) (cf := cf) ho
  rw [he] at hq2
  refine va_iast hexec hb hK hW.1 hW.2 hS q 1 hq2 rfl hin hdg (fun H1 locs1 hP hD hS1 => ?_)
  rw [gcl_set (cf1 := cf1) hW.2 hq h1 h2] at hP hD
  exact kk H1 locs1 ⟨hP, hD⟩ hS1
theorem gc_new (hexec : p.tables.exec = Jvm.exec) (hb : c.code = cc) {own C : String} {T : u_T} {N ci index : Nat} (hts : ∀ w ∈ gw_tbl, w.before args s = true) (hin : ∀ w ∈ u_ws C T N, w ∈ gw_tbl) (ty : Nat → FieldType) (hty : ∀ k, k < N → parseFieldDescriptor (T k).2.2.1 = some (ty k)) (hown : s.vm.findClass own = some m.cls) (hcl : Cond.classLink own index C ∈ gw_tbl) (hinst : Cond.instantiable C N ∈ gw_tbl) (hini : Cond.initialized C ∈ gw_tbl) (hK : va_K g.1 vwCl (gtys g) s) (hW : GC g A ad L cf H) (hS : va_S A s.heap H locs) (hA : ∀ q, s.heap.size ≤ q → A q) (hc : vwCl[ci]? = some (C, T, N)) (id : Nat) (hid : id ∉ L) {fs : List Value} (hfs : ∀ j, j < N → defaultValue (ty j) = vp_V fs j) (cf1 : (Nat → Nat) → Nat → va_E) (h1 : ∀ ad1, cf1 ad1 id = .inr (ci, fs)) (h2 : ∀ ad1 : Nat → Nat, (∀ o, o ≠ id → ad1 o = ad o) → ∀ x ∈ L, cf1 ad1 x = cf x) (hcells : cells + 1 ≤ R.cells) (hslots : slots + N ≤ R.slots) (hdg : decode cc pc = .ok (.new index, 3))
    (kk : ∀ ad1 : Nat → Nat, (∀ o, o ≠ id → ad1 o = ad o) → ∀ (H1 : Heap), GC g A ad1 (L ++ [id]) (cf1 ad1) H1 → va_S A s.heap H1 locs → W p l e R s m args below meth c H1 locs (cells + 1) (slots + N) Q (F0 m (pc + 3) ls (.ref (ad1 id) :: rest))) : W p l e R s m args below meth c H locs cells slots Q (F0 m pc ls rest) := by
  refine va_new hexec hb hts hin ty hty hown (hts _ hcl) (hts _ hinst) (hts _ hini) hK hW.1 hW.2 hS hA hc hfs hcells hslots hdg (fun q H1 hP hD hS1 => ?_)
  have hag : ∀ o, o ≠ id → va_up ad id q o = ad o := fun o h => by simp only [va_up, if_neg h]
  rw [gcl_add (cf1 := cf1 (va_up ad id q)) hid (h1 _) (h2 _ hag)] at hP hD
  have := kk (va_up ad id q) hag H1 ⟨hP, hD⟩ hS1
  rwa [show va_up ad id q id = q by simp only [va_up, if_true]] at this
theorem gc_newa (hexec : p.tables.exec = Jvm.exec) (hb : c.code = cc) {atype : ArrayType} {ty : FieldType} (hty : newarray.typeOf atype = ty) (hts : ∀ w ∈ gw_tbl, w.before args s = true) (harr : Cond.arrayClass ty ∈ gw_tbl) (hprim : ∀ C, ty ≠ .object C) (hK : va_K g.1 vwCl (gtys g) s) (t0 : Nat) {cA0 : ClassId} (ht0 : (gtys g)[t0]? = some (cA0, ty)) (hdef : defaultValue ty = .int 0) (hW : GC g A ad L cf H) (hS : va_S A s.heap H locs) (hA : ∀ q, s.heap.size ≤ q → A q) {n : Int32} {N' : Nat} (hn : ¬ n < 0) (hN : n.toNatClampNeg = N') (hbytes : N' * componentBytes ty ≤ 536870912) (id : Nat) (hid : id ∉ L) (cf1 : (Nat → Nat) → Nat → va_E) (h1 : ∀ ad1, cf1 ad1 id = .inl (cA0, N', .inl (fun _ => 0))) (h2 : ∀ ad1 : Nat → Nat, (∀ o, o ≠ id → ad1 o = ad o) → ∀ x ∈ L, cf1 ad1 x = cf x) (hcells : cells + 1 ≤ R.cells) (hslots : slots + N' ≤ R.slots) (hdg : decode cc pc = .ok (.newarray atype, 2))
    (kk : ∀ ad1 : Nat → Nat, (∀ o, o ≠ id → ad1 o = ad o) → ∀ (H1 : Heap), GC g A ad1 (L ++ [id]) (cf1 ad1) H1 → va_S A s.heap H1 locs → W p l e R s m args below meth c H1 locs (cells + 1) (slots + N') Q (F0 m (pc + 2) ls (.ref (ad1 id) :: rest))) : W p l e R s m args below meth c H locs cells slots Q (F0 m pc ls (.int n :: rest)) := by
  refine va_newa (a0 := (N', .inl (fun _ => 0))) hexec hb (by rw [hty]; exact hts _ harr) hty hK hW.1 hW.2 hS hA (fun cA => by rw [vp_cell_i, hdef]) hn hN hbytes hcells hslots hdg (fun q cA H1 hK1 hP hD hS1 => ?_)
  have hag : ∀ o, o ≠ id → va_up ad id q o = ad o := fun o h => by simp only [va_up, if_neg h]
  have e1 := (hK1.2 4 (cA, ty) rfl).2
  have e2 := (hK.2 t0 (cA0, ty) ht0).2
  have hc : cA = cA0 := by
    cases ty with
    | object C => exact absurd rfl (hprim C)
    | _ => exact Option.some.inj (Eq.trans (Eq.symm e1) e2)
  subst hc
  rw [gcl_add (cf1 := cf1 (va_up ad id q)) hid (h1 _) (h2 _ hag)] at hP hD
  have := kk (va_up ad id q) hag H1 ⟨hP, hD⟩ hS1
  rwa [show va_up ad id q id = q by simp only [va_up, if_true]] at this
theorem gc_newq (hexec : p.tables.exec = Jvm.exec) (hb : c.code = cc) {own : String} {index : Nat} (hown : s.vm.findClass own = some m.cls) (hts : ∀ w ∈ gw_tbl, w.before args s = true) (hcl : Cond.classLink own index "DroveRoads$Herd" ∈ gw_tbl) (hover : va_AO "DroveRoads$Herd" s) (hK : va_K g.1 vwCl (gtys g) s) (hW : GC g A ad L cf H) (hS : va_S A s.heap H locs) (hA : ∀ q, s.heap.size ≤ q → A q) {n : Int32} {N' : Nat} (hn : ¬ n < 0) (hN : n.toNatClampNeg = N') (hbytes : N' * 4 ≤ 536870912) (id : Nat) (hid : id ∉ L) (cf1 : (Nat → Nat) → Nat → va_E) (h1 : ∀ ad1, cf1 ad1 id = .inl (g.2.2.2.2.1, N', .inr (.inr (.inr (.inr (fun _ => none)))))) (h2 : ∀ ad1 : Nat → Nat, (∀ o, o ≠ id → ad1 o = ad o) → ∀ x ∈ L, cf1 ad1 x = cf x) (hcells : cells + 1 ≤ R.cells) (hslots : slots + N' ≤ R.slots) (hdg : decode cc pc = .ok (.anewarray index, 3))
    (kk : ∀ ad1 : Nat → Nat, (∀ o, o ≠ id → ad1 o = ad o) → ∀ (H1 : Heap), GC g A ad1 (L ++ [id]) (cf1 ad1) H1 → va_S A s.heap H1 locs → W p l e R s m args below meth c H1 locs (cells + 1) (slots + N') Q (F0 m (pc + 3) ls (.ref (ad1 id) :: rest))) : W p l e R s m args below meth c H locs cells slots Q (F0 m pc ls (.int n :: rest)) := by
  refine va_newq hexec hb hown (hts _ hcl) hover hK hW.1 hW.2 hS hA hn hN hbytes hcells hslots hdg (fun q cA H1 hK1 hP hD hS1 => ?_)
  have hag : ∀ o, o ≠ id → va_up ad id q o = ad o := fun o h => by simp only [va_up, if_neg h]
  obtain ⟨kA, comp, a1, a2, a3, a4⟩ := (hK1.2 4 (cA, .object "DroveRoads$Herd") rfl).2
  obtain ⟨kA', comp', b1, b2, b3, b4⟩ := (hK.2 3 (g.2.2.2.2.1, .object "DroveRoads$Herd") rfl).2
  have hc : cA = g.2.2.2.2.1 := Option.some.inj (a4.symm.trans b4)
  subst hc
  rw [gcl_add (cf1 := cf1 (va_up ad id q)) hid (h1 _) (h2 _ hag)] at hP hD
  have := kk (va_up ad id q) hag H1 ⟨hP, hD⟩ hS1
  rwa [show va_up ad id q id = q by simp only [va_up, if_true]] at this
end GCR
