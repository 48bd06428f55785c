/-! The constructors: what stands beside the worlds. -/
def db_nIL : List (String × Nat × MethodName × String) := [("DaysOnBread$Shelf", 27, ⟨"DaysOnBread$Book", "<init>", "()V"⟩, "DaysOnBread"), ("DaysOnBread", 43, ⟨"DaysOnBread$Payings", "<init>", "()V"⟩, "DaysOnBread"), ("DaysOnBread", 50, ⟨"DaysOnBread$Puttings", "<init>", "()V"⟩, "DaysOnBread")]
def db_nI (U : State) : Prop := (∀ q ∈ db_nIL, va_Nw (.methodLinkNest q.1 q.2.1 q.2.2.1 q.2.2.2) U) ∧ va_Nw (.fieldLinkNest "DaysOnBread$Payings" 9 "DaysOnBread" "AT_FIRST" "[I" "DaysOnBread") U ∧ va_Nw (.castable "[I" "java/lang/Cloneable") U ∧ va_AO "DaysOnBread$Book" U
theorem db_nI.m {U : State} (h : db_nI U) : ∀ q ∈ db_nIL, va_Nw (.methodLinkNest q.1 q.2.1 q.2.2.1 q.2.2.2) U := h.1
theorem db_nI.at {U : State} (h : db_nI U) : va_Nw (.fieldLinkNest "DaysOnBread$Payings" 9 "DaysOnBread" "AT_FIRST" "[I" "DaysOnBread") U := h.2.1
theorem db_nI.ca {U : State} (h : db_nI U) : va_Nw (.castable "[I" "java/lang/Cloneable") U := h.2.2.1
theorem db_nI.ao {U : State} (h : db_nI U) : va_AO "DaysOnBread$Book" U := h.2.2.2
theorem db_nI.same {u U : State} (h : u.vm = U.vm) (hn : db_nI u) : db_nI U := ⟨fun q hq => va_Nw.same rfl h (hn.1 q hq), va_Nw.same rfl h hn.2.1, va_Nw.same rfl h hn.2.2.1, va_AO.moved (by rw [h]; exact Vm.Alike.refl _) hn.2.2.2⟩
theorem db_nI.warm {s U : State} (h : s.WarmedH U.vm) (hn : db_nI s) : db_nI U := ⟨fun q hq => va_Nw.warmM h (hn.1 q hq), va_Nw.warmF h hn.2.1, va_Nw.warmC h hn.2.2.1, va_AO.moved h.alike hn.2.2.2⟩
def db_aF : Nat → Int32 := fun j => ([10, 5, 1, 999, 1, 1, 9, 999, 5, 2, 3, 999, 8, 6, 1, 999, 10, 1, 0, 999, 30, 20, 1, 999] : List Int32).getD j 0
def db_tA (E : db_E) : Nat := E.2.2.2.1 1000
/-- the static array AT_FIRST: its cell, outside what may be written -/
def db_ATc (E : db_E) (A : Nat → Prop) (U : State) (H : Heap) : Prop := ∃ cell : Cell, H[db_tA E]? = some cell ∧ cell.cls = db_cy E 0 ∧ cell.vm.isStatics = false ∧ cell.vm ≠ .unknown ∧ cell.slots = Array.ofFn (n := 24) (fun j => Value.int (db_aF j.val)) ∧ ¬ A (db_tA E)
def db_AT (E : db_E) (A : Nat → Prop) (U : State) (H : Heap) : Prop := va_Z "DaysOnBread" "AT_FIRST" "[I" (.ref (db_tA E)) A U H ∧ db_ATc E A U H
theorem db_AT.moved {E : db_E} {A : Nat → Prop} {u U : State} {H : Heap} (hvm : u.vm.Alike U.vm) (h : db_AT E A u H) : db_AT E A U H := ⟨h.1.moved hvm, h.2⟩
theorem db_AT.kept {E : db_E} {A : Nat → Prop} {U : State} {H H1 : Heap} (h : db_AT E A U H) (hq : ∀ a : Nat, a < H.size → ¬ A a → H1[a]? = H[a]?) : db_AT E A U H1 := by
  refine ⟨h.1.kept hq, ?_⟩
  obtain ⟨cell, h1, h2⟩ := h.2
  exact ⟨cell, by rw [hq _ (Array.getElem?_eq_some_iff.mp h1).1 h2.2.2.2.2]; exact h1, h2⟩
theorem db_AT.narrow {E : db_E} {A B : Nat → Prop} {U : State} {H : Heap} (h : db_AT E A U H) (hAB : ∀ q, B q → A q) : db_AT E B U H := by
  refine ⟨h.1.narrow hAB, ?_⟩
  obtain ⟨cell, h1, h2, h3, h4, h5, h6⟩ := h.2
  exact ⟨cell, h1, h2, h3, h4, h5, fun z => h6 (hAB _ z)⟩
section DIN
variable {p : Program} {l : Launch} {e : Env} {R : Room} {s : State} {m : MethodId} {args : Array Value} {below : List Frame} {meth : Method} {c : Code} {H : Heap} {locs : List Loc} {cells slots : Nat} {Q : State → Prop}
variable {cc : ByteArray} {pc : Nat} {ls : Array Slot} {rest : List Value} {E : db_E} {A : Nat → Prop} {ws : va_W} {H0 : Heap} {n : Int32} {N : Nat}
theorem di_newint (hx : p.tables.exec = Jvm.exec) (hb : c.code = cc) (harr : (Cond.arrayClass .int).before args s = true) (hK : va_K (db_G E) vwCl (db_tys E) s) (hP : va_P (db_G E) vwCl ws H) (hD : va_D A ws) (hS : va_S A H0 H locs) (hA : ∀ q, H0.size ≤ q → A q) (hn : ¬ n < 0) (hN : n.toNatClampNeg = N) (hbytes : N * 8 ≤ 536870912) (hcells : cells + 1 ≤ R.cells) (hslots : slots + N ≤ R.slots) (hdg : decode cc pc = .ok (.newarray .int, 2))
    (kk : ∀ (q : Nat) (H1 : Heap), va_P (db_G E) vwCl (ws ++ [(q, .inl (db_cy E 0, N, .inl (fun _ => 0)))]) H1 → va_D A (ws ++ [(q, .inl (db_cy E 0, N, .inl (fun _ => 0)))]) → va_S A H0 H1 locs → W p l e R s m args below meth c H1 locs (cells + 1) (slots + N) Q (F0 m (pc + 2) ls (.ref q :: rest))) : W p l e R s m args below meth c H locs cells slots Q (F0 m pc ls (.int n :: rest)) := by
  refine va_newa hx hb (atype := .int) harr (ty := .int) rfl hK hP hD hS hA (a0 := (N, .inl (fun _ => 0))) (fun cA => rfl) hn hN (Nat.le_trans (Nat.mul_le_mul_left N (show componentBytes .int ≤ 8 by decide)) hbytes) hcells hslots hdg (fun q cA H1 hK1 hP1 hD1 hS1 => ?_)
  have e : cA = db_cy E 0 := Option.some.inj ((va_nm_int (hK1.2 5 (cA, .int) rfl).2).symm.trans (va_nm_int (hK1.2 0 (db_cy E 0, .int) rfl).2))
  rw [e] at hP1 hD1
  exact kk q H1 hP1 hD1 hS1
theorem di_newbyte (hx : p.tables.exec = Jvm.exec) (hb : c.code = cc) (harr : (Cond.arrayClass .byte).before args s = true) (hK : va_K (db_G E) vwCl (db_tys E) s) (hP : va_P (db_G E) vwCl ws H) (hD : va_D A ws) (hS : va_S A H0 H locs) (hA : ∀ q, H0.size ≤ q → A q) (hn : ¬ n < 0) (hN : n.toNatClampNeg = N) (hbytes : N * 8 ≤ 536870912) (hcells : cells + 1 ≤ R.cells) (hslots : slots + N ≤ R.slots) (hdg : decode cc pc = .ok (.newarray .byte, 2))
    (kk : ∀ (q : Nat) (H1 : Heap), va_P (db_G E) vwCl (ws ++ [(q, .inl (db_cy E 1, N, .inl (fun _ => 0)))]) H1 → va_D A (ws ++ [(q, .inl (db_cy E 1, N, .inl (fun _ => 0)))]) → va_S A H0 H1 locs → W p l e R s m args below meth c H1 locs (cells + 1) (slots + N) Q (F0 m (pc + 2) ls (.ref q :: rest))) : W p l e R s m args below meth c H locs cells slots Q (F0 m pc ls (.int n :: rest)) := by
  refine va_newa hx hb (atype := .byte) harr (ty := .byte) rfl hK hP hD hS hA (a0 := (N, .inl (fun _ => 0))) (fun cA => rfl) hn hN (Nat.le_trans (Nat.mul_le_mul_left N (show componentBytes .byte ≤ 8 by decide)) hbytes) hcells hslots hdg (fun q cA H1 hK1 hP1 hD1 hS1 => ?_)
  have e : cA = db_cy E 1 := Option.some.inj ((va_nm_byte (hK1.2 5 (cA, .byte) rfl).2).symm.trans (va_nm_byte (hK1.2 1 (db_cy E 1, .byte) rfl).2))
  rw [e] at hP1 hD1
  exact kk q H1 hP1 hD1 hS1
theorem di_newlong (hx : p.tables.exec = Jvm.exec) (hb : c.code = cc) (harr : (Cond.arrayClass .long).before args s = true) (hK : va_K (db_G E) vwCl (db_tys E) s) (hP : va_P (db_G E) vwCl ws H) (hD : va_D A ws) (hS : va_S A H0 H locs) (hA : ∀ q, H0.size ≤ q → A q) (hn : ¬ n < 0) (hN : n.toNatClampNeg = N) (hbytes : N * 8 ≤ 536870912) (hcells : cells + 1 ≤ R.cells) (hslots : slots + N ≤ R.slots) (hdg : decode cc pc = .ok (.newarray .long, 2))
    (kk : ∀ (q : Nat) (H1 : Heap), va_P (db_G E) vwCl (ws ++ [(q, .inl (db_cy E 2, N, .inr (.inl (fun _ => 0))))]) H1 → va_D A (ws ++ [(q, .inl (db_cy E 2, N, .inr (.inl (fun _ => 0))))]) → va_S A H0 H1 locs → W p l e R s m args below meth c H1 locs (cells + 1) (slots + N) Q (F0 m (pc + 2) ls (.ref q :: rest))) : W p l e R s m args below meth c H locs cells slots Q (F0 m pc ls (.int n :: rest)) := by
  refine va_newa hx hb (atype := .long) harr (ty := .long) rfl hK hP hD hS hA (a0 := (N, .inr (.inl (fun _ => 0)))) (fun cA => rfl) hn hN (Nat.le_trans (Nat.mul_le_mul_left N (show componentBytes .long ≤ 8 by decide)) hbytes) hcells hslots hdg (fun q cA H1 hK1 hP1 hD1 hS1 => ?_)
  have e : cA = db_cy E 2 := Option.some.inj ((va_nm_long (hK1.2 5 (cA, .long) rfl).2).symm.trans (va_nm_long (hK1.2 2 (db_cy E 2, .long) rfl).2))
  rw [e] at hP1 hD1
  exact kk q H1 hP1 hD1 hS1
theorem di_newboolean (hx : p.tables.exec = Jvm.exec) (hb : c.code = cc) (harr : (Cond.arrayClass .boolean).before args s = true) (hK : va_K (db_G E) vwCl (db_tys E) s) (hP : va_P (db_G E) vwCl ws H) (hD : va_D A ws) (hS : va_S A H0 H locs) (hA : ∀ q, H0.size ≤ q → A q) (hn : ¬ n < 0) (hN : n.toNatClampNeg = N) (hbytes : N * 8 ≤ 536870912) (hcells : cells + 1 ≤ R.cells) (hslots : slots + N ≤ R.slots) (hdg : decode cc pc = .ok (.newarray .boolean, 2))
    (kk : ∀ (q : Nat) (H1 : Heap), va_P (db_G E) vwCl (ws ++ [(q, .inl (db_cy E 3, N, .inl (fun _ => 0)))]) H1 → va_D A (ws ++ [(q, .inl (db_cy E 3, N, .inl (fun _ => 0)))]) → va_S A H0 H1 locs → W p l e R s m args below meth c H1 locs (cells + 1) (slots + N) Q (F0 m (pc + 2) ls (.ref q :: rest))) : W p l e R s m args below meth c H locs cells slots Q (F0 m pc ls (.int n :: rest)) := by
  refine va_newa hx hb (atype := .boolean) harr (ty := .boolean) rfl hK hP hD hS hA (a0 := (N, .inl (fun _ => 0))) (fun cA => rfl) hn hN (Nat.le_trans (Nat.mul_le_mul_left N (show componentBytes .boolean ≤ 8 by decide)) hbytes) hcells hslots hdg (fun q cA H1 hK1 hP1 hD1 hS1 => ?_)
  have e : cA = db_cy E 3 := Option.some.inj ((va_nm_boolean (hK1.2 5 (cA, .boolean) rfl).2).symm.trans (va_nm_boolean (hK1.2 3 (db_cy E 3, .boolean) rfl).2))
  rw [e] at hP1 hD1
  exact kk q H1 hP1 hD1 hS1
theorem di_newq (hx : p.tables.exec = Jvm.exec) (hb : c.code = cc) {own : String} {index : Nat} (hown : s.vm.findClass own = some m.cls) (hclink : (Cond.classLink own index "DaysOnBread$Book").before args s = true) (hover : va_AO "DaysOnBread$Book" s) (hK : va_K (db_G E) vwCl (db_tys E) s) (hP : va_P (db_G E) vwCl ws H) (hD : va_D A ws) (hS : va_S A H0 H locs) (hA : ∀ q, H0.size ≤ q → A q) (hn : ¬ n < 0) (hN : n.toNatClampNeg = N) (hbytes : N * 4 ≤ 536870912) (hcells : cells + 1 ≤ R.cells) (hslots : slots + N ≤ R.slots) (hdg : decode cc pc = .ok (.anewarray index, 3))
    (kk : ∀ (q : Nat) (H1 : Heap), va_P (db_G E) vwCl (ws ++ [(q, .inl (db_cy E 4, N, .inr (.inr (.inr (.inr (fun _ => none))))))]) H1 → va_D A (ws ++ [(q, .inl (db_cy E 4, N, .inr (.inr (.inr (.inr (fun _ => none))))))]) → va_S A H0 H1 locs → W p l e R s m args below meth c H1 locs (cells + 1) (slots + N) Q (F0 m (pc + 3) ls (.ref q :: rest))) : W p l e R s m args below meth c H locs cells slots Q (F0 m pc ls (.int n :: rest)) := by
  refine va_newq hx hb hown hclink hover hK hP hD hS hA hn hN hbytes hcells hslots hdg (fun q cA H1 hK1 hP1 hD1 hS1 => ?_)
  obtain ⟨_, _, _, _, _, h1⟩ : ∃ (kA : Class) (comp : ClassId), s.vm.classes[cA]? = some kA ∧ kA.kind = .array comp (.object "DaysOnBread$Book") ∧ s.vm.findClass "DaysOnBread$Book" = some comp ∧ s.vm.findClass ("[" ++ (FieldType.object "DaysOnBread$Book").toString) = some cA := (hK1.2 5 (cA, .object "DaysOnBread$Book") rfl).2
  obtain ⟨_, _, _, _, _, h2⟩ : ∃ (kA : Class) (comp : ClassId), s.vm.classes[db_cy E 4]? = some kA ∧ kA.kind = .array comp (.object "DaysOnBread$Book") ∧ s.vm.findClass "DaysOnBread$Book" = some comp ∧ s.vm.findClass ("[" ++ (FieldType.object "DaysOnBread$Book").toString) = some (db_cy E 4) := (hK1.2 4 (db_cy E 4, .object "DaysOnBread$Book") rfl).2
  have e : cA = db_cy E 4 := Option.some.inj (h1.symm.trans h2)
  rw [e] at hP1 hD1
  exact kk q H1 hP1 hD1 hS1
theorem di_clone (hx : p.tables.exec = Jvm.exec) (hb : c.code = cc) (hml : c.maxLocals = ls.size) {own : String} {index : Nat} (hown : s.vm.findClass own = some m.cls)
    (hlink : (Cond.methodLink own index ⟨"[I", "clone", "()Ljava/lang/Object;"⟩).before args s = true) (hsame : (Cond.sameMethod "[I" "java/lang/Object" "clone" "()Ljava/lang/Object;").before args s = true)
    (hnat : (Cond.native ⟨"java/lang/Object", "clone", "()Ljava/lang/Object;"⟩).before args s = true) (hinst : (Cond.instanceMethod ⟨"java/lang/Object", "clone", "()Ljava/lang/Object;"⟩).before args s = true)
    (hsel : (Cond.selects "[I" ⟨"[I", "clone", "()Ljava/lang/Object;"⟩ ⟨"java/lang/Object", "clone", "()Ljava/lang/Object;"⟩).before args s = true) (hcl : va_Nw (.castable "[I" "java/lang/Cloneable") s)
    (hK : va_K (db_G E) vwCl (db_tys E) s) (hP : va_P (db_G E) vwCl ws H) (hD : va_D A ws) (hS : va_S A s.heap H locs) (hA : ∀ q, s.heap.size ≤ q → A q) (hT : db_ATc E A s s.heap)
    (hframes : 1 ≤ R.frames) (hlocals : (rest.map fun v => v.category).sum + 14 ≤ R.locals) (hcells : cells + 1 ≤ R.cells) (hslots : slots + 24 ≤ R.slots) (hdg : decode cc pc = .ok (.invokevirtual index, 3))
    (kk : ∀ (q : Nat) (H1 : Heap), va_P (db_G E) vwCl (ws ++ [(q, .inl (db_cy E 0, 24, .inl db_aF))]) H1 → va_D A (ws ++ [(q, .inl (db_cy E 0, 24, .inl db_aF))]) → va_S A s.heap H1 locs →
      W p l e R s m args below meth c H1 locs (cells + 1) (slots + 24) Q (F0 m (pc + 3) ls (.ref q :: rest))) : W p l e R s m args below meth c H locs cells slots Q (F0 m pc ls (.ref (db_tA E) :: rest)) := by
  obtain ⟨cell, g1, g2, g3, g4, g5, g6⟩ := hT
  have hsz : cell.slots.size = 24 := by rw [g5]; simp
  have hnm : s.vm.findClass "[I" = some (db_cy E 0) := va_nm_int (hK.2 0 (db_cy E 0, .int) rfl).2
  obtain ⟨c0, t0', f1, f2, f3⟩ := Cond.castable_spec (va_Nw.use (A := args) rfl hcl)
  cases hnm.symm.trans f1
  intro T hT X
  have hcellT : T.heap[db_tA E]? = some cell := by rw [hT, hS.2.1 _ (Array.getElem?_eq_some_iff.mp g1).1 g6]; exact g1
  obtain ⟨-, kA, hkA, comp, hkind⟩ := State.isArrayOf_alike X.warmed.alike ((hK.2 0 (db_cy E 0, .int) rfl).1 0 (fun _ => .null))
  obtain ⟨-, kS, hkS, compS, hkindS⟩ := (hK.2 0 (db_cy E 0, .int) rfl).1 0 (fun _ => .null)
  obtain ⟨vm', X', st⟩ := X.cloneArray hx hown hlink hsame hnat hinst hsel (a := db_tA E) (cell := cell) hcellT (fun k h => by rw [h] at g3; cases g3) g4 (by rw [g2]; exact hnm) f2 (by rw [g2]; exact f3)
    (fun i v hv => by
      rw [g2]
      have hk' : T.vm.classes[db_cy E 0]? = some kA := hkA
      have hv2 : fits .int v = true := by
        rw [g5] at hv
        simp only [Array.getElem?_ofFn] at hv
        split at hv
        · cases hv; rfl
        · cases hv
      simpa [State.fitsSlot, State.slotType?, hk', hkind] using hv2)
    (g := F0 m pc ls (.ref (db_tA E) :: rest)) rfl (by rw [hml]) rfl (by rw [hb]; exact hdg) hframes (by show 2 * 0 + _ + 14 ≤ _; omega) hcells (by rw [hsz]; exact hslots) (hloader := by rw [g2]; exact Vm.clonesLoader_of_array hkS hkindS)
  have hcellE : ({ cls := cell.cls, slots := cell.slots } : Cell) = vp_cell (db_cy E 0) (24, .inl db_aF) := by
    rw [g2, g5, vp_cell_i]; rfl
  rw [hcellE, hsz] at X'
  generalize hH1 : H.push (vp_cell (db_cy E 0) (24, .inl db_aF)) = H1
  have z1 : H1.size = H.size + 1 := by rw [← hH1, Array.size_push]
  have e1 : H1[H.size]? = some (vp_cell (db_cy E 0) (24, .inl db_aF)) := by rw [← hH1, Array.getElem?_push_size]
  have o1 : ∀ q : Nat, q < H.size → H1[q]? = H[q]? := fun q hq => by rw [← hH1, Array.getElem?_push, if_neg (Nat.ne_of_lt hq)]
  have hk : ∀ (k : Nat) (y : Nat × va_E), ws[k]? = some y → H1[y.1]? = H[y.1]? := fun k y hy => o1 y.1 ((hP k y hy).lt)
  obtain ⟨t, b1, b2⟩ := kk H.size H1 ((hP.kept hk).app (fun k y hy => by
      have hz : k < 1 := (List.getElem?_eq_some_iff.mp hy).1
      rw [show k = 0 by omega] at hy
      cases hy
      exact e1)) (hD.push hP rfl (hA _ hS.1)) ⟨Nat.le_trans hS.1 (by omega), fun y h1 h2 => (o1 y (Nat.lt_of_lt_of_le h1 hS.1)).trans (hS.2.1 y h1 h2), hS.2.2⟩
    ((T.setVm vm').pushCell (vp_cell (db_cy E 0) (24, .inl db_aF))) (by rw [← hH1, ← hT]; rfl) X'
  refine ⟨t, st t ?_, b2⟩
  rw [hcellE, hT]
  exact b1
end DIN
theorem di_Pm {D : va_G} {cl : List vw_C} {ws : va_W} {H : Heap} : va_P D cl ws H ↔ ∀ q ∈ ws, va_at D cl q H :=
  ⟨fun h q hq => by obtain ⟨k, hk⟩ := List.getElem?_of_mem hq; exact h k q hk, fun h k q hk => h q (List.mem_of_getElem? hk)⟩
theorem di_Dm {A : Nat → Prop} {ws : va_W} : va_D A ws ↔ (ws.map Prod.fst).Pairwise (fun a b => a ≠ b) ∧ ∀ q ∈ ws, A q.1 := by
  constructor
  · intro h
    refine ⟨List.pairwise_iff_getElem.mpr (fun i j hi hj hij e => ?_), fun q hq => ?_⟩
    · simp only [List.length_map] at hi hj
      simp only [List.getElem_map] at e
      have := h.1 i j ws[i] ws[j] (List.getElem?_eq_getElem hi) (List.getElem?_eq_getElem hj) e
      omega
    · obtain ⟨k, hk⟩ := List.getElem?_of_mem hq
      exact h.2 k q hk
  · intro h
    refine ⟨fun i j p q hi hj e => ?_, fun k q hk => h.2 q (List.mem_of_getElem? hk)⟩
    obtain ⟨hi1, hi2⟩ := List.getElem?_eq_some_iff.mp hi
    obtain ⟨hj1, hj2⟩ := List.getElem?_eq_some_iff.mp hj
    have hp := List.pairwise_iff_getElem.mp h.1
    rcases Nat.lt_trichotomy i j with g | g | g
    · have h3 := hp i j (by simpa using hi1) (by simpa using hj1) g
      simp only [List.getElem_map, hi2, hj2] at h3
      exact absurd e h3
    · exact g
    · have h3 := hp j i (by simpa using hj1) (by simpa using hi1) g
      simp only [List.getElem_map, hi2, hj2] at h3
      exact absurd e.symm h3
theorem di_mvP {D : va_G} {cl : List vw_C} {F G : va_W} {x : Nat × va_E} {H : Heap} (h : va_P D cl ((F ++ G) ++ [x]) H) : va_P D cl ((F ++ [x]) ++ G) H := by
  rw [di_Pm] at h ⊢
  intro q hq
  refine h q ?_
  simp only [List.mem_append] at hq ⊢
  rcases hq with (hq | hq) | hq
  · exact Or.inl (Or.inl hq)
  · exact Or.inr hq
  · exact Or.inl (Or.inr hq)
theorem di_mvD {A : Nat → Prop} {F G : va_W} {x : Nat × va_E} (h : va_D A ((F ++ G) ++ [x])) : va_D A ((F ++ [x]) ++ G) := by
  rw [di_Dm] at h ⊢
  obtain ⟨h1, h2⟩ := h
  simp only [List.map_append, List.pairwise_append, List.mem_append] at h1 ⊢
  obtain ⟨⟨a1, a2, a3⟩, a4, a5⟩ := h1
  refine ⟨⟨⟨a1, a4, fun a ha b hb => a5 a (Or.inl ha) b hb⟩, a2, fun a ha b hb => ?_⟩, fun q hq => h2 q ?_⟩
  · rcases ha with ha | ha
    · exact a3 a ha b hb
    · exact fun e => a5 b (Or.inr hb) a ha e.symm
  · rcases hq with (hq | hq) | hq
    · exact List.mem_append_left _ (List.mem_append_left _ hq)
    · exact List.mem_append_right _ hq
    · exact List.mem_append_left _ (List.mem_append_right _ hq)
theorem di_join {A0 : Nat → Prop} {D : va_G} {cl : List vw_C} {F G w1 : va_W} {x : Nat × va_E} {H H1 : Heap} (hP : va_P D cl ((F ++ [x]) ++ G) H) (hD : va_D A0 ((F ++ [x]) ++ G)) (hk : ∀ q : Nat, q < H.size → ¬ va_A [x] H.size q → H1[q]? = H[q]?) (hF : ∀ q, va_A [x] H.size q → A0 q) (hP1 : va_P D cl w1 H1) (hD1 : va_D (va_A [x] H.size) w1) : va_P D cl (F ++ (w1 ++ G)) H1 ∧ va_D A0 (F ++ (w1 ++ G)) := by
  rw [di_Pm] at hP hP1
  rw [di_Dm] at hD hD1
  rw [di_Pm, di_Dm]
  obtain ⟨h1, h2⟩ := hD
  obtain ⟨g1, g2⟩ := hD1
  simp only [List.map_append, List.pairwise_append, List.mem_append, List.map_cons, List.map_nil, List.mem_singleton] at h1
  obtain ⟨⟨a1, -, a3⟩, a4, a5⟩ := h1
  have old : ∀ q : Nat × va_E, q ∈ F ∨ q ∈ G → q.1 < H.size ∧ ¬ va_A [x] H.size q.1 := by
    intro q hq
    have hl : q.1 < H.size := (hP q (by simp only [List.mem_append]; rcases hq with z | z; exact Or.inl (Or.inl z); exact Or.inr z)).lt
    refine ⟨hl, fun z => ?_⟩
    rcases z with ⟨k, e, hz⟩ | z
    · have hm := List.mem_of_getElem? hz
      rw [List.mem_singleton] at hm
      have e1 : q.1 = x.1 := by rw [← hm]
      rcases hq with hq | hq
      · exact a3 q.1 (List.mem_map_of_mem hq) x.1 rfl e1
      · exact a5 x.1 (Or.inr rfl) q.1 (List.mem_map_of_mem hq) e1.symm
    · omega
  have new : ∀ q : Nat × va_E, q ∈ F ∨ q ∈ G → ∀ r ∈ w1, q.1 ≠ r.1 := fun q hq r hr e => (old q hq).2 (by rw [e]; exact g2 r hr)
  refine ⟨fun q hq => ?_, ?_, fun q hq => ?_⟩
  · simp only [List.mem_append] at hq
    rcases hq with hq | hq | hq
    · exact (hP q (by simp [hq])).kept (hk q.1 (old q (Or.inl hq)).1 (old q (Or.inl hq)).2)
    · exact hP1 q hq
    · exact (hP q (by simp [hq])).kept (hk q.1 (old q (Or.inr hq)).1 (old q (Or.inr hq)).2)
  · simp only [List.map_append, List.pairwise_append, List.mem_append]
    refine ⟨a1, ⟨g1, a4, fun a ha b hb => ?_⟩, fun a ha b hb => ?_⟩
    · obtain ⟨r, hr, rfl⟩ := List.mem_map.mp ha
      obtain ⟨q, hq, rfl⟩ := List.mem_map.mp hb
      exact fun e => new q (Or.inr hq) r hr e.symm
    · obtain ⟨q, hq, rfl⟩ := List.mem_map.mp ha
      rcases hb with hb | hb
      · obtain ⟨r, hr, rfl⟩ := List.mem_map.mp hb
        exact new q (Or.inl hq) r hr
      · exact a5 q.1 (Or.inl (List.mem_map_of_mem hq)) b hb
  · simp only [List.mem_append] at hq
    rcases hq with hq | hq | hq
    · exact h2 q (by simp [hq])
    · exact hF q.1 (g2 q hq)
    · exact h2 q (by simp [hq])
