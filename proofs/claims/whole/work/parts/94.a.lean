/-! The law's start: what the tables say. -/
theorem st_nest {args : Array Value} {s : State} (hts : ∀ w ∈ lw_tbl, w.before args s = true) : db_nest s := by
  refine ⟨?_, ?_⟩
  · unfold db_nestF
    exact List.forall_mem_cons.mpr ⟨va_Nw.of rfl (hts _ (List.mem_append_right _ (List.mem_of_getElem? (i := 51) (by decide +kernel)))), List.forall_mem_cons.mpr ⟨va_Nw.of rfl (hts _ (List.mem_append_right _ (List.mem_of_getElem? (i := 53) (by decide +kernel)))), List.forall_mem_cons.mpr ⟨va_Nw.of rfl (hts _ (List.mem_append_right _ (List.mem_of_getElem? (i := 54) (by decide +kernel)))), List.forall_mem_cons.mpr ⟨va_Nw.of rfl (hts _ (List.mem_append_right _ (List.mem_of_getElem? (i := 56) (by decide +kernel)))), List.forall_mem_cons.mpr ⟨va_Nw.of rfl (hts _ (List.mem_append_right _ (List.mem_of_getElem? (i := 83) (by decide +kernel)))), List.forall_mem_cons.mpr ⟨va_Nw.of rfl (hts _ (List.mem_append_right _ (List.mem_of_getElem? (i := 85) (by decide +kernel)))), List.forall_mem_cons.mpr ⟨va_Nw.of rfl (hts _ (List.mem_append_right _ (List.mem_of_getElem? (i := 87) (by decide +kernel)))), List.forall_mem_cons.mpr ⟨va_Nw.of rfl (hts _ (List.mem_append_right _ (List.mem_of_getElem? (i := 88) (by decide +kernel)))), List.forall_mem_cons.mpr ⟨va_Nw.of rfl (hts _ (List.mem_append_right _ (List.mem_of_getElem? (i := 90) (by decide +kernel)))), List.forall_mem_cons.mpr ⟨va_Nw.of rfl (hts _ (List.mem_append_right _ (List.mem_of_getElem? (i := 91) (by decide +kernel)))), List.forall_mem_cons.mpr ⟨va_Nw.of rfl (hts _ (List.mem_append_right _ (List.mem_of_getElem? (i := 93) (by decide +kernel)))), List.forall_mem_cons.mpr ⟨va_Nw.of rfl (hts _ (List.mem_append_right _ (List.mem_of_getElem? (i := 94) (by decide +kernel)))), List.forall_mem_cons.mpr ⟨va_Nw.of rfl (hts _ (List.mem_append_right _ (List.mem_of_getElem? (i := 95) (by decide +kernel)))), List.forall_mem_cons.mpr ⟨va_Nw.of rfl (hts _ (List.mem_append_right _ (List.mem_of_getElem? (i := 97) (by decide +kernel)))), List.forall_mem_cons.mpr ⟨va_Nw.of rfl (hts _ (List.mem_append_right _ (List.mem_of_getElem? (i := 112) (by decide +kernel)))), List.forall_mem_cons.mpr ⟨va_Nw.of rfl (hts _ (List.mem_append_right _ (List.mem_of_getElem? (i := 117) (by decide +kernel)))), List.forall_mem_cons.mpr ⟨va_Nw.of rfl (hts _ (List.mem_append_right _ (List.mem_of_getElem? (i := 146) (by decide +kernel)))), List.forall_mem_cons.mpr ⟨va_Nw.of rfl (hts _ (List.mem_append_right _ (List.mem_of_getElem? (i := 147) (by decide +kernel)))), List.forall_mem_cons.mpr ⟨va_Nw.of rfl (hts _ (List.mem_append_right _ (List.mem_of_getElem? (i := 148) (by decide +kernel)))), List.forall_mem_cons.mpr ⟨va_Nw.of rfl (hts _ (List.mem_append_right _ (List.mem_of_getElem? (i := 150) (by decide +kernel)))), List.forall_mem_cons.mpr ⟨va_Nw.of rfl (hts _ (List.mem_append_right _ (List.mem_of_getElem? (i := 165) (by decide +kernel)))), List.forall_mem_cons.mpr ⟨va_Nw.of rfl (hts _ (List.mem_append_right _ (List.mem_of_getElem? (i := 166) (by decide +kernel)))), List.forall_mem_cons.mpr ⟨va_Nw.of rfl (hts _ (List.mem_append_right _ (List.mem_of_getElem? (i := 168) (by decide +kernel)))), List.forall_mem_cons.mpr ⟨va_Nw.of rfl (hts _ (List.mem_append_right _ (List.mem_of_getElem? (i := 169) (by decide +kernel)))), List.forall_mem_cons.mpr ⟨va_Nw.of rfl (hts _ (List.mem_append_right _ (List.mem_of_getElem? (i := 171) (by decide +kernel)))), List.forall_mem_cons.mpr ⟨va_Nw.of rfl (hts _ (List.mem_append_right _ (List.mem_of_getElem? (i := 172) (by decide +kernel)))), List.forall_mem_cons.mpr ⟨va_Nw.of rfl (hts _ (List.mem_append_right _ (List.mem_of_getElem? (i := 174) (by decide +kernel)))), List.forall_mem_cons.mpr ⟨va_Nw.of rfl (hts _ (List.mem_append_right _ (List.mem_of_getElem? (i := 175) (by decide +kernel)))), List.forall_mem_cons.mpr ⟨va_Nw.of rfl (hts _ (List.mem_append_right _ (List.mem_of_getElem? (i := 177) (by decide +kernel)))), List.forall_mem_cons.mpr ⟨va_Nw.of rfl (hts _ (List.mem_append_right _ (List.mem_of_getElem? (i := 178) (by decide +kernel)))), List.forall_mem_cons.mpr ⟨va_Nw.of rfl (hts _ (List.mem_append_right _ (List.mem_of_getElem? (i := 179) (by decide +kernel)))), List.forall_mem_cons.mpr ⟨va_Nw.of rfl (hts _ (List.mem_append_right _ (List.mem_of_getElem? (i := 204) (by decide +kernel)))), List.forall_mem_cons.mpr ⟨va_Nw.of rfl (hts _ (List.mem_append_right _ (List.mem_of_getElem? (i := 356) (by decide +kernel)))), (fun _ h_ => absurd h_ List.not_mem_nil)⟩⟩⟩⟩⟩⟩⟩⟩⟩⟩⟩⟩⟩⟩⟩⟩⟩⟩⟩⟩⟩⟩⟩⟩⟩⟩⟩⟩⟩⟩⟩⟩⟩
  · unfold db_nestM
    exact List.forall_mem_cons.mpr ⟨va_Nw.of rfl (hts _ (List.mem_append_right _ (List.mem_of_getElem? (i := 401) (by decide +kernel)))), List.forall_mem_cons.mpr ⟨va_Nw.of rfl (hts _ (List.mem_append_right _ (List.mem_of_getElem? (i := 549) (by decide +kernel)))), (fun _ h_ => absurd h_ List.not_mem_nil)⟩⟩
theorem st_nI {args : Array Value} {s : State} (hts : ∀ w ∈ lw_tbl, w.before args s = true) : db_nI s := by
  refine ⟨?_, va_Nw.of rfl (hts _ (List.mem_append_right _ (List.mem_of_getElem? (i := 135) (by decide +kernel)))), va_Nw.of rfl (hts _ (List.mem_append_right _ (List.mem_of_getElem? (i := 142) (by decide +kernel)))), va_AO.of (hts _ (List.mem_append_right _ (List.mem_of_getElem? (i := 76) (by decide +kernel))))⟩
  unfold db_nIL
  exact List.forall_mem_cons.mpr ⟨va_Nw.of rfl (hts _ (List.mem_append_right _ (List.mem_of_getElem? (i := 78) (by decide +kernel)))), List.forall_mem_cons.mpr ⟨va_Nw.of rfl (hts _ (List.mem_append_right _ (List.mem_of_getElem? (i := 131) (by decide +kernel)))), List.forall_mem_cons.mpr ⟨va_Nw.of rfl (hts _ (List.mem_append_right _ (List.mem_of_getElem? (i := 160) (by decide +kernel)))), (fun _ h_ => absurd h_ List.not_mem_nil)⟩⟩⟩
theorem st_prim {args : Array Value} {s : State} {ty : FieldType} (h : (Cond.arrayClass ty).before args s = true) : ∃ cA : ClassId, ArrOfT s cA ty ∧ s.vm.findClass ("[" ++ ty.toString) = some cA := by
  obtain ⟨c, k, comp, h1, h2, h3⟩ := Cond.arrayClass_spec h
  exact ⟨c, fun n z => ⟨fun k h => (by cases h), k, h2, comp, h3⟩, h1⟩
theorem st_obj {args : Array Value} {s : State} {C : String} (h : (Cond.arrayOver (.object C)).before args s = true) : ∃ cA : ClassId, ArrOfT s cA (.object C) ∧ va_RA s cA (.object C) := by
  obtain ⟨comp, c, k, f1, f2, f3, f4, f5⟩ := Cond.arrayOver_spec h
  exact ⟨c, fun n z => ⟨fun k h => (by cases h), k, f3, comp, f4⟩, k, comp, f3, f4, f1, f5⟩
theorem st_K {args : Array Value} {s : State} (hts : ∀ w ∈ lw_tbl, w.before args s = true) : ∃ (dC : Nat → ClassId) (dI : Nat → Nat → Nat), ∀ (k : Nat) (q : vw_C), vwCl[k]? = some q → u_Kn s q.1 q.2.1 q.2.2 (dC k) (dI k) := by
  obtain ⟨c0, i0, k0⟩ := u_known (C := RX0) (T := TX0) (N := 6) (n := 6) hts inX0 (hts (.instantiable RX0 6) (List.mem_append_right _ (List.mem_of_getElem? (i := 77) (by decide +kernel))))
  obtain ⟨c1, i1, k1⟩ := u_known (C := RX1) (T := TX1) (N := 3) (n := 3) hts inX1 (hts (.instantiable RX1 3) (List.mem_append_right _ (List.mem_of_getElem? (i := 221) (by decide +kernel))))
  obtain ⟨c2, i2, k2⟩ := u_known (C := RX2) (T := TX2) (N := 2) (n := 2) hts inX2 (hts (.instantiable RX2 2) (List.mem_append_right _ (List.mem_of_getElem? (i := 26) (by decide +kernel))))
  obtain ⟨c3, i3, k3⟩ := u_known (C := RX3) (T := TX3) (N := 7) (n := 7) hts inX3 (hts (.instantiable RX3 7) (List.mem_append_right _ (List.mem_of_getElem? (i := 192) (by decide +kernel))))
  obtain ⟨c4, i4, k4⟩ := u_known (C := RX4) (T := TX4) (N := 3) (n := 3) hts inX4 (hts (.instantiable RX4 3) (List.mem_append_right _ (List.mem_of_getElem? (i := 130) (by decide +kernel))))
  obtain ⟨c5, i5, k5⟩ := u_known (C := RX5) (T := TX5) (N := 5) (n := 5) hts inX5 (hts (.instantiable RX5 5) (List.mem_append_right _ (List.mem_of_getElem? (i := 159) (by decide +kernel))))
  obtain ⟨c6, i6, k6⟩ := u_known (C := RX6) (T := TX6) (N := 2) (n := 2) hts inX6 (hts (.instantiable RX6 2) (List.mem_append_right _ (List.mem_of_getElem? (i := 254) (by decide +kernel))))
  obtain ⟨c7, i7, k7⟩ := u_known (C := RX7) (T := TX7) (N := 5) (n := 5) hts inX7 (hts (.instantiable RX7 5) (List.mem_append_right _ (List.mem_of_getElem? (i := 44) (by decide +kernel))))
  obtain ⟨c8, i8, k8⟩ := u_known (C := RX8) (T := TX8) (N := 5) (n := 5) hts inX8 (hts (.instantiable RX8 5) (List.mem_append_right _ (List.mem_of_getElem? (i := 70) (by decide +kernel))))
  obtain ⟨c9, i9, k9⟩ := u_known (C := RX9) (T := TX9) (N := 3) (n := 3) hts inX9 (hts (.instantiable RX9 3) (List.mem_append_right _ (List.mem_of_getElem? (i := 237) (by decide +kernel))))
  obtain ⟨c10, i10, k10⟩ := u_known (C := RX10) (T := TX10) (N := 15) (n := 15) hts inX10 (hts (.instantiable RX10 15) (List.mem_append_right _ (List.mem_of_getElem? (i := 18) (by decide +kernel))))
  obtain ⟨c11, i11, k11⟩ := u_known (C := RX11) (T := TX11) (N := 19) (n := 19) hts inX11 (hts (.instantiable RX11 19) (List.mem_append_right _ (List.mem_of_getElem? (i := 735) (by decide +kernel))))
  refine ⟨fun k => [c0, c1, c2, c3, c4, c5, c6, c7, c8, c9, c10, c11].getD k c0, fun k => [i0, i1, i2, i3, i4, i5, i6, i7, i8, i9, i10, i11].getD k i0, ?_⟩
  intro k q hq
  match k, hq with
  | 0, hq => cases hq; exact k0
  | 1, hq => cases hq; exact k1
  | 2, hq => cases hq; exact k2
  | 3, hq => cases hq; exact k3
  | 4, hq => cases hq; exact k4
  | 5, hq => cases hq; exact k5
  | 6, hq => cases hq; exact k6
  | 7, hq => cases hq; exact k7
  | 8, hq => cases hq; exact k8
  | 9, hq => cases hq; exact k9
  | 10, hq => cases hq; exact k10
  | 11, hq => cases hq; exact k11
  | k + 12, hq => simp [vwCl] at hq
theorem st_len {args : Array Value} {s : State} {t : Term} {N : Nat} (hN : N < 2 ^ 31) (h : (Term.length t).eval args s none [] s = some (.int (Int32.ofNat N))) : ∃ a cell, t.eval args s none [] s = some (.ref a) ∧ s.arrayAt? a = some cell ∧ cell.slots.size = N := by
  simp only [Term.eval, Option.bind_eq_bind] at h
  cases ht : t.eval args s none [] s with
  | none => simp [ht] at h
  | some x =>
    cases x <;> simp [ht] at h
    case ref a =>
      obtain ⟨cell, hcell, h⟩ := Option.bind_eq_some_iff.mp h
      by_cases hn : cell.slots.size < 2147483648
      · rw [if_pos hn] at h
        have e : Value.int cell.slots.size.toInt32 = Value.int (Int32.ofNat N) := Option.some.inj h
        exact ⟨a, cell, rfl, hcell, (nI_eq hn hN).mp (Value.int.inj e)⟩
      · rw [if_neg hn] at h; cases h
abbrev st_at : Term := .static "DaysOnBread" "AT_FIRST" "[I"
abbrev st_gr : Term := .static "DaysOnBread" "GREATEST" "[I"
abbrev st_ms : Term := .static "DaysOnBread" "MARK_SIGNS" "[C"
theorem st_gr_ok {args : Array Value} {s : State} (hgv : (Jvm.Cond.and given_1 narrow_1).before args s = true) (hts : ∀ w ∈ lw_tbl, w.before args s = true) : ∃ t : Nat, va_Z "DaysOnBread" "GREATEST" "[I" (.ref t) (fun q => s.heap.size ≤ q) s s.heap ∧ va_T .int t 4 db_fG (fun q => s.heap.size ≤ q) s s.heap := by
  have hs := flat_of_before _ hgv
  obtain ⟨t, h1, h2⟩ := va_Tof (tm := st_gr) (ty := .int) (N := 4) (f := db_fG) (A := fun q => s.heap.size ≤ q) (by decide) (hs (Cond.arrayOf st_gr .int) (by decide +kernel)) (va_eqt (hs (Cond.eq (.length st_gr) (.int 4)) (by decide +kernel))) (fun j hj => by
    rcases (show j = 0 ∨ j = 1 ∨ j = 2 ∨ j = 3 by omega) with rfl | rfl | rfl | rfl
    · exact va_eqt (hs (Cond.eq (.elem st_gr (.int 0)) (.int 99)) (by decide +kernel))
    · exact va_eqt (hs (Cond.eq (.elem st_gr (.int 1)) (.int 99)) (by decide +kernel))
    · exact va_eqt (hs (Cond.eq (.elem st_gr (.int 2)) (.int 9)) (by decide +kernel))
    · exact va_eqt (hs (Cond.eq (.elem st_gr (.int 3)) (.int 999)) (by decide +kernel))) (fun a ha => Nat.not_le.mpr ha)
  exact ⟨t, va_Zref (hts _ (List.mem_append_right _ (List.mem_of_getElem? (i := 442) (by decide +kernel)))) (hts _ (List.mem_append_right _ (List.mem_of_getElem? (i := 1) (by decide +kernel)))) h1 (fun a ha => Nat.not_le.mpr ha), h2⟩
theorem st_ms_ok {args : Array Value} {s : State} (hgv : (Jvm.Cond.and given_1 narrow_1).before args s = true) (hts : ∀ w ∈ lw_tbl, w.before args s = true) : ∃ t : Nat, va_Z "DaysOnBread" "MARK_SIGNS" "[C" (.ref t) (fun q => s.heap.size ≤ q) s s.heap ∧ va_T .char t 4 db_fM (fun q => s.heap.size ≤ q) s s.heap := by
  have hs := flat_of_before _ hgv
  obtain ⟨t, h1, h2⟩ := va_Tof (tm := st_ms) (ty := .char) (N := 4) (f := db_fM) (A := fun q => s.heap.size ≤ q) (by decide) (hs (Cond.arrayOf st_ms .char) (by decide +kernel)) (va_eqt (hs (Cond.eq (.length st_ms) (.int 4)) (by decide +kernel))) (fun j hj => by
    rcases (show j = 0 ∨ j = 1 ∨ j = 2 ∨ j = 3 by omega) with rfl | rfl | rfl | rfl
    · exact va_eqt (hs (Cond.eq (.elem st_ms (.int 0)) (.int 98)) (by decide +kernel))
    · exact va_eqt (hs (Cond.eq (.elem st_ms (.int 1)) (.int 100)) (by decide +kernel))
    · exact va_eqt (hs (Cond.eq (.elem st_ms (.int 2)) (.int 109)) (by decide +kernel))
    · exact va_eqt (hs (Cond.eq (.elem st_ms (.int 3)) (.int 114)) (by decide +kernel))) (fun a ha => Nat.not_le.mpr ha)
  exact ⟨t, va_Zref (hts _ (List.mem_append_right _ (List.mem_of_getElem? (i := 357) (by decide +kernel)))) (hts _ (List.mem_append_right _ (List.mem_of_getElem? (i := 1) (by decide +kernel)))) h1 (fun a ha => Nat.not_le.mpr ha), h2⟩
theorem st_at_ok {args : Array Value} {s : State} (hgv : (Jvm.Cond.and given_1 narrow_1).before args s = true) (hts : ∀ w ∈ lw_tbl, w.before args s = true) : ∃ (t : Nat) (cell : Cell) (cI : ClassId), va_Z "DaysOnBread" "AT_FIRST" "[I" (.ref t) (fun q => s.heap.size ≤ q) s s.heap ∧ s.heap[t]? = some cell ∧ s.vm.findClass "[I" = some cI ∧ cell.cls = cI ∧ cell.vm.isStatics = false ∧ cell.vm ≠ .unknown ∧ cell.slots = Array.ofFn (n := 24) (fun j => Value.int (db_aF j.val)) ∧ t < s.heap.size := by
  have hs := flat_of_before _ hgv
  have hlen := va_eqt (hs (Cond.eq (.length st_at) (.int 24)) (by decide +kernel))
  obtain ⟨t, h1, h2⟩ := va_Tof (tm := st_at) (ty := .int) (N := 24) (f := fun j => .int (db_aF j)) (A := fun q => s.heap.size ≤ q) (by decide) (hs (Cond.arrayOf st_at .int) (by decide +kernel)) hlen (fun j hj => by
    rcases (show j = 0 ∨ j = 1 ∨ j = 2 ∨ j = 3 ∨ j = 4 ∨ j = 5 ∨ j = 6 ∨ j = 7 ∨ j = 8 ∨ j = 9 ∨ j = 10 ∨ j = 11 ∨ j = 12 ∨ j = 13 ∨ j = 14 ∨ j = 15 ∨ j = 16 ∨ j = 17 ∨ j = 18 ∨ j = 19 ∨ j = 20 ∨ j = 21 ∨ j = 22 ∨ j = 23 by omega) with rfl | rfl | rfl | rfl | rfl | rfl | rfl | rfl | rfl | rfl | rfl | rfl | rfl | rfl | rfl | rfl | rfl | rfl | rfl | rfl | rfl | rfl | rfl | rfl
    · exact va_eqt (hs (Cond.eq (.elem st_at (.int 0)) (.int 10)) (by decide +kernel))
    · exact va_eqt (hs (Cond.eq (.elem st_at (.int 1)) (.int 5)) (by decide +kernel))
    · exact va_eqt (hs (Cond.eq (.elem st_at (.int 2)) (.int 1)) (by decide +kernel))
    · exact va_eqt (hs (Cond.eq (.elem st_at (.int 3)) (.int 999)) (by decide +kernel))
    · exact va_eqt (hs (Cond.eq (.elem st_at (.int 4)) (.int 1)) (by decide +kernel))
    · exact va_eqt (hs (Cond.eq (.elem st_at (.int 5)) (.int 1)) (by decide +kernel))
    · exact va_eqt (hs (Cond.eq (.elem st_at (.int 6)) (.int 9)) (by decide +kernel))
    · exact va_eqt (hs (Cond.eq (.elem st_at (.int 7)) (.int 999)) (by decide +kernel))
    · exact va_eqt (hs (Cond.eq (.elem st_at (.int 8)) (.int 5)) (by decide +kernel))
    · exact va_eqt (hs (Cond.eq (.elem st_at (.int 9)) (.int 2)) (by decide +kernel))
    · exact va_eqt (hs (Cond.eq (.elem st_at (.int 10)) (.int 3)) (by decide +kernel))
    · exact va_eqt (hs (Cond.eq (.elem st_at (.int 11)) (.int 999)) (by decide +kernel))
    · exact va_eqt (hs (Cond.eq (.elem st_at (.int 12)) (.int 8)) (by decide +kernel))
    · exact va_eqt (hs (Cond.eq (.elem st_at (.int 13)) (.int 6)) (by decide +kernel))
    · exact va_eqt (hs (Cond.eq (.elem st_at (.int 14)) (.int 1)) (by decide +kernel))
    · exact va_eqt (hs (Cond.eq (.elem st_at (.int 15)) (.int 999)) (by decide +kernel))
    · exact va_eqt (hs (Cond.eq (.elem st_at (.int 16)) (.int 10)) (by decide +kernel))
    · exact va_eqt (hs (Cond.eq (.elem st_at (.int 17)) (.int 1)) (by decide +kernel))
    · exact va_eqt (hs (Cond.eq (.elem st_at (.int 18)) (.int 0)) (by decide +kernel))
    · exact va_eqt (hs (Cond.eq (.elem st_at (.int 19)) (.int 999)) (by decide +kernel))
    · exact va_eqt (hs (Cond.eq (.elem st_at (.int 20)) (.int 30)) (by decide +kernel))
    · exact va_eqt (hs (Cond.eq (.elem st_at (.int 21)) (.int 20)) (by decide +kernel))
    · exact va_eqt (hs (Cond.eq (.elem st_at (.int 22)) (.int 1)) (by decide +kernel))
    · exact va_eqt (hs (Cond.eq (.elem st_at (.int 23)) (.int 999)) (by decide +kernel))) (fun a ha => Nat.not_le.mpr ha)
  obtain ⟨t2, cell, g1, g2, g3⟩ := st_len (N := 24) (by decide) hlen
  obtain ⟨t3, cI, cell3, k, f1, f2, f3, f4, f5, f6, _⟩ := Cond.exactly_spec (hs (Cond.exactly st_at "[I") (by decide +kernel))
  obtain ⟨cell4, j1, j2, j3, j4, j5, j6, j7⟩ := h2
  cases h1.symm.trans g1
  cases h1.symm.trans f1
  obtain ⟨m1, m2, m3, m4⟩ := State.arrayAt?_spec g2
  cases m1.symm.trans f3
  cases m1.symm.trans j1
  refine ⟨t, cell, cI, va_Zref (hts _ (List.mem_append_right _ (List.mem_of_getElem? (i := 136) (by decide +kernel)))) (hts _ (List.mem_append_right _ (List.mem_of_getElem? (i := 1) (by decide +kernel)))) h1 (fun a ha => Nat.not_le.mpr ha), m1, f2, f6, f5, m2, ?_, (Array.getElem?_eq_some_iff.mp m1).1⟩
  apply Array.ext
  · rw [g3, Array.size_ofFn]
  · intro i z1 z2
    have e := j6 i (by rw [g3] at z1; exact z1)
    rw [Array.getElem?_eq_getElem z1] at e
    rw [Array.getElem_ofFn]
    exact Option.some.inj e
