abbrev rs_X0 (E : db_E) (h0 : Nat)  (b : Nat → Nat) : va_W := [(h0, .inr (0, [.ref (b 0), .ref (b 1), .ref (b 2), .int 0, .int (-1 : Int32), .int 0])), ((b 0), .inl (db_cy E 0, 10, .inl (fun _ => 0))), ((b 1), .inl (db_cy E 0, 10, .inl (fun _ => 0))), ((b 2), .inl (db_cy E 0, 10, .inl (fun _ => 0)))]
abbrev rmi_X0 : Room := { frames := 1, cells := 3, slots := 30, locals := 12 }
set_option maxHeartbeats 8000000 in
set_option maxRecDepth 100000 in
theorem ci_X0 (l : Launch) (E : db_E) (h0 : Nat)  (sz : Nat) : Met l yX0_init wsX0_init rmi_X0 (va_Pc [.ref h0] (fun U => U.heap.size = sz ∧ va_P (db_G E) vwCl [(h0, .inr (0, [.null, .null, .null, .int 0, .int 0, .int 0]))] U.heap ∧ va_K (db_G E) vwCl (db_tys E) U ∧ va_D (fun _ => True) [(h0, .inr (0, [.null, .null, .null, .int 0, .int 0, .int 0]))])) (va_Qv (fun _ : Unit => True) (fun _ t => ∃ b : Nat → Nat, va_P (db_G E) vwCl (rs_X0 E h0  b) t.heap ∧ va_D (va_A [(h0, .inr (0, [.null, .null, .null, .int 0, .int 0, .int 0]))] sz) (rs_X0 E h0  b)) (va_A [(h0, .inr (0, [.null, .null, .null, .int 0, .int 0, .int 0]))] sz)) 3 30 (va_A [(h0, .inr (0, [.null, .null, .null, .int 0, .int 0, .int 0]))] sz) := by
  refine Met.ofW (cc := cX0_init) (maxL := 1) (ret := none) (by decide) rfl ?_
  intro p e s m args below meth c s₁ B hml hv
  obtain ⟨rfl, hsz, hP, hK, hD0⟩ := hv
  have hx := B.exec
  have hb := B.bytes
  have hr := B.returns
  have hts := atoms_spec (ws := wsX0_init) B.pre
  have hown : s.vm.findClass RX0 = some m.cls := findClass_of_methodNamed B.named
  have hlocks := B.notSynchronized
  have hin : meth.name = "<init>" := (name_of_methodNamed B.named B.method).1
  subst hsz
  have hD := hD0.self (sz := s.heap.size)
  generalize hAe : va_A [(h0, .inr (0, [.null, .null, .null, .int 0, .int 0, .int 0]))] s.heap.size = A at hD ⊢
  have hA : ∀ q : Nat, s.heap.size ≤ q → A q := fun q h => by rw [← hAe]; exact Or.inr h
  have hS : va_S A s.heap s.heap [] := va_S.rf
  have hiX0 : ∀ w ∈ wsX00, w ∈ wsX0_init := fun w_ h_ => List.mem_cons_of_mem _ (List.mem_append_right _ h_)
  have hl := lv_entry ([.ref h0]) (n := 1) (Nat.le_of_ble_eq_true rfl)
  rw [lg_entry_eq]
  generalize (lg_sl ([.ref h0]) ++ List.replicate (1 - (lg_sl ([.ref h0])).length) Slot.unset).toArray = ls at hl ⊢
  have hl : lv_has ls 1 [(0, .ref h0)] := hl
  refine lv_aload_n hx hb dX0_init_0 rfl (lv_at hl 0 rfl) ?_
  refine W.objInit hx hb hown (hts _ (List.mem_of_getElem? (i := 1) rfl)) (hts _ (List.mem_of_getElem? (i := 2) rfl)) (hts _ (List.mem_of_getElem? (i := 3) rfl)) rfl (by rw [hml]; exact hl.1) rfl dX0_init_1 (Nat.le_of_ble_eq_true rfl) (Nat.le_of_ble_eq_true rfl) ?_
  refine W.eq (g2 := F0 m 4 ls []) rfl ?_
  refine lv_aload_n hx hb dX0_init_4 rfl (lv_at hl 0 rfl) ?_
  refine lv_bipush (v := (10 : Int32)) hx hb dX0_init_5 (by decide) ?_
  refine di_newint hx hb (hts _ (List.mem_of_getElem? (i := 4) rfl)) hK hP hD hS hA (n := (10 : Int32)) (N := 10) (by decide) (by decide) (Nat.le_of_ble_eq_true rfl) (Nat.le_of_ble_eq_true rfl) (Nat.le_of_ble_eq_true rfl) dX0_init_7 (fun q1 H hP hD hS => ?_)
  have hP : va_P (db_G E) vwCl [(h0, .inr (0, [.null, .null, .null, .int 0, .int 0, .int 0])), (q1, .inl (db_cy E 0, 10, .inl (fun _ => 0)))] H := hP
  have hD : va_D A [(h0, .inr (0, [.null, .null, .null, .int 0, .int 0, .int 0])), (q1, .inl (db_cy E 0, 10, .inl (fun _ => 0)))] := hD
  refine W.widen (k := 1) (n := 10) (Nat.le_of_ble_eq_true rfl) (Nat.le_of_ble_eq_true rfl) ?_
  refine va_putF (D := db_G E) (ci := 0) (v := .ref q1) (ty := tyX0 0) (C := RX0) (T := TX0) (N := 6) hx hb hts hiX0 tyX0 tyX0_ok nmX0 hown hK hP hD hS 0 rfl rfl 0 (by decide) (hts _ (List.mem_of_getElem? (i := 5) rfl)) (fun _ h9 => h9) rfl hin rfl (tyX0_ok 0 (by decide)) rfl rfl (Nat.le_of_ble_eq_true rfl) dX0_init_9 (fun H locs hP hD hS => ?_)
  have hP : va_P (db_G E) vwCl [(h0, .inr (0, [.ref q1, .null, .null, .int 0, .int 0, .int 0])), (q1, .inl (db_cy E 0, 10, .inl (fun _ => 0)))] H := hP
  have hD : va_D A [(h0, .inr (0, [.ref q1, .null, .null, .int 0, .int 0, .int 0])), (q1, .inl (db_cy E 0, 10, .inl (fun _ => 0)))] := hD
  refine lv_aload_n hx hb dX0_init_12 rfl (lv_at hl 0 rfl) ?_
  refine lv_bipush (v := (10 : Int32)) hx hb dX0_init_13 (by decide) ?_
  refine di_newint hx hb (hts _ (List.mem_of_getElem? (i := 4) rfl)) hK hP hD hS hA (n := (10 : Int32)) (N := 10) (by decide) (by decide) (Nat.le_of_ble_eq_true rfl) (Nat.le_of_ble_eq_true rfl) (Nat.le_of_ble_eq_true rfl) dX0_init_15 (fun q2 H hP hD hS => ?_)
  have hP : va_P (db_G E) vwCl [(h0, .inr (0, [.ref q1, .null, .null, .int 0, .int 0, .int 0])), (q1, .inl (db_cy E 0, 10, .inl (fun _ => 0))), (q2, .inl (db_cy E 0, 10, .inl (fun _ => 0)))] H := hP
  have hD : va_D A [(h0, .inr (0, [.ref q1, .null, .null, .int 0, .int 0, .int 0])), (q1, .inl (db_cy E 0, 10, .inl (fun _ => 0))), (q2, .inl (db_cy E 0, 10, .inl (fun _ => 0)))] := hD
  refine W.widen (k := 2) (n := 20) (Nat.le_of_ble_eq_true rfl) (Nat.le_of_ble_eq_true rfl) ?_
  refine va_putF (D := db_G E) (ci := 0) (v := .ref q2) (ty := tyX0 1) (C := RX0) (T := TX0) (N := 6) hx hb hts hiX0 tyX0 tyX0_ok nmX0 hown hK hP hD hS 0 rfl rfl 1 (by decide) (hts _ (List.mem_of_getElem? (i := 6) rfl)) (fun _ h9 => h9) rfl hin rfl (tyX0_ok 1 (by decide)) rfl rfl (Nat.le_of_ble_eq_true rfl) dX0_init_17 (fun H locs hP hD hS => ?_)
  have hP : va_P (db_G E) vwCl [(h0, .inr (0, [.ref q1, .ref q2, .null, .int 0, .int 0, .int 0])), (q1, .inl (db_cy E 0, 10, .inl (fun _ => 0))), (q2, .inl (db_cy E 0, 10, .inl (fun _ => 0)))] H := hP
  have hD : va_D A [(h0, .inr (0, [.ref q1, .ref q2, .null, .int 0, .int 0, .int 0])), (q1, .inl (db_cy E 0, 10, .inl (fun _ => 0))), (q2, .inl (db_cy E 0, 10, .inl (fun _ => 0)))] := hD
  refine lv_aload_n hx hb dX0_init_20 rfl (lv_at hl 0 rfl) ?_
  refine lv_bipush (v := (10 : Int32)) hx hb dX0_init_21 (by decide) ?_
  refine di_newint hx hb (hts _ (List.mem_of_getElem? (i := 4) rfl)) hK hP hD hS hA (n := (10 : Int32)) (N := 10) (by decide) (by decide) (Nat.le_of_ble_eq_true rfl) (Nat.le_of_ble_eq_true rfl) (Nat.le_of_ble_eq_true rfl) dX0_init_23 (fun q3 H hP hD hS => ?_)
  have hP : va_P (db_G E) vwCl [(h0, .inr (0, [.ref q1, .ref q2, .null, .int 0, .int 0, .int 0])), (q1, .inl (db_cy E 0, 10, .inl (fun _ => 0))), (q2, .inl (db_cy E 0, 10, .inl (fun _ => 0))), (q3, .inl (db_cy E 0, 10, .inl (fun _ => 0)))] H := hP
  have hD : va_D A [(h0, .inr (0, [.ref q1, .ref q2, .null, .int 0, .int 0, .int 0])), (q1, .inl (db_cy E 0, 10, .inl (fun _ => 0))), (q2, .inl (db_cy E 0, 10, .inl (fun _ => 0))), (q3, .inl (db_cy E 0, 10, .inl (fun _ => 0)))] := hD
  refine W.widen (k := 3) (n := 30) (Nat.le_of_ble_eq_true rfl) (Nat.le_of_ble_eq_true rfl) ?_
  refine va_putF (D := db_G E) (ci := 0) (v := .ref q3) (ty := tyX0 2) (C := RX0) (T := TX0) (N := 6) hx hb hts hiX0 tyX0 tyX0_ok nmX0 hown hK hP hD hS 0 rfl rfl 2 (by decide) (hts _ (List.mem_of_getElem? (i := 7) rfl)) (fun _ h9 => h9) rfl hin rfl (tyX0_ok 2 (by decide)) rfl rfl (Nat.le_of_ble_eq_true rfl) dX0_init_25 (fun H locs hP hD hS => ?_)
  have hP : va_P (db_G E) vwCl [(h0, .inr (0, [.ref q1, .ref q2, .ref q3, .int 0, .int 0, .int 0])), (q1, .inl (db_cy E 0, 10, .inl (fun _ => 0))), (q2, .inl (db_cy E 0, 10, .inl (fun _ => 0))), (q3, .inl (db_cy E 0, 10, .inl (fun _ => 0)))] H := hP
  have hD : va_D A [(h0, .inr (0, [.ref q1, .ref q2, .ref q3, .int 0, .int 0, .int 0])), (q1, .inl (db_cy E 0, 10, .inl (fun _ => 0))), (q2, .inl (db_cy E 0, 10, .inl (fun _ => 0))), (q3, .inl (db_cy E 0, 10, .inl (fun _ => 0)))] := hD
  refine lv_aload_n hx hb dX0_init_28 rfl (lv_at hl 0 rfl) ?_
  refine lv_iconst (v := (-1 : Int32)) hx hb dX0_init_29 (by decide) ?_
  refine va_put (D := db_G E) (ci := 0) (v := .int (-1 : Int32)) (ty := tyX0 4) (C := RX0) (T := TX0) (N := 6) hx hb hts hiX0 tyX0 tyX0_ok nmX0 hown hK hP hD hS 0 rfl rfl 4 (by decide) (hts _ (List.mem_of_getElem? (i := 8) rfl)) (fun _ h9 => h9) rfl (tyX0_ok 4 (by decide)) rfl rfl (Nat.le_of_ble_eq_true rfl) dX0_init_30 (fun H locs hP hD hS => ?_)
  have hP : va_P (db_G E) vwCl [(h0, .inr (0, [.ref q1, .ref q2, .ref q3, .int 0, .int (-1 : Int32), .int 0])), (q1, .inl (db_cy E 0, 10, .inl (fun _ => 0))), (q2, .inl (db_cy E 0, 10, .inl (fun _ => 0))), (q3, .inl (db_cy E 0, 10, .inl (fun _ => 0)))] H := hP
  have hD : va_D A [(h0, .inr (0, [.ref q1, .ref q2, .ref q3, .int 0, .int (-1 : Int32), .int 0])), (q1, .inl (db_cy E 0, 10, .inl (fun _ => 0))), (q2, .inl (db_cy E 0, 10, .inl (fun _ => 0))), (q3, .inl (db_cy E 0, 10, .inl (fun _ => 0)))] := hD
  subst hAe
  exact W.vret hx hb hr (fun t ht hW => ⟨⟨(), rfl, trivial, (fun k_ => ([q1, q2, q3] : List Nat).getD k_ 0), by rw [ht]; exact hP, hD⟩, hS.F ht⟩) hS.2.2 dX0_init_33
abbrev rs_X1 (E : db_E) (h0 : Nat) (g1 : Nat) (b : Nat → Nat) : va_W := [(h0, .inr (1, [.ref g1, .ref (b 0), .ref (b 1)])), ((b 0), .inl (db_cy E 0, 7007, .inl (fun _ => 0))), ((b 1), .inl (db_cy E 0, 6, .inl (fun _ => 0)))]
abbrev rmi_X1 : Room := { frames := 1, cells := 2, slots := 7013, locals := 12 }
set_option maxHeartbeats 8000000 in
set_option maxRecDepth 100000 in
theorem ci_X1 (l : Launch) (E : db_E) (h0 : Nat) (g1 : Nat) (sz : Nat) : Met l yX1_init wsX1_init rmi_X1 (va_Pc [.ref h0, .ref g1] (fun U => U.heap.size = sz ∧ va_P (db_G E) vwCl [(h0, .inr (1, [.null, .null, .null]))] U.heap ∧ va_K (db_G E) vwCl (db_tys E) U ∧ va_D (fun _ => True) [(h0, .inr (1, [.null, .null, .null]))])) (va_Qv (fun _ : Unit => True) (fun _ t => ∃ b : Nat → Nat, va_P (db_G E) vwCl (rs_X1 E h0 g1 b) t.heap ∧ va_D (va_A [(h0, .inr (1, [.null, .null, .null]))] sz) (rs_X1 E h0 g1 b)) (va_A [(h0, .inr (1, [.null, .null, .null]))] sz)) 2 7013 (va_A [(h0, .inr (1, [.null, .null, .null]))] sz) := by
  refine Met.ofW (cc := cX1_init) (maxL := 2) (ret := none) (by decide) rfl ?_
  intro p e s m args below meth c s₁ B hml hv
  obtain ⟨rfl, hsz, hP, hK, hD0⟩ := hv
  have hx := B.exec
  have hb := B.bytes
  have hr := B.returns
  have hts := atoms_spec (ws := wsX1_init) B.pre
  have hown : s.vm.findClass RX1 = some m.cls := findClass_of_methodNamed B.named
  have hlocks := B.notSynchronized
  have hin : meth.name = "<init>" := (name_of_methodNamed B.named B.method).1
  subst hsz
  have hD := hD0.self (sz := s.heap.size)
  generalize hAe : va_A [(h0, .inr (1, [.null, .null, .null]))] s.heap.size = A at hD ⊢
  have hA : ∀ q : Nat, s.heap.size ≤ q → A q := fun q h => by rw [← hAe]; exact Or.inr h
  have hS : va_S A s.heap s.heap [] := va_S.rf
  have hiX1 : ∀ w ∈ wsX10, w ∈ wsX1_init := fun w_ h_ => List.mem_cons_of_mem _ (List.mem_append_right _ h_)
  have hl := lv_entry ([.ref h0, .ref g1]) (n := 2) (Nat.le_of_ble_eq_true rfl)
  rw [lg_entry_eq]
  generalize (lg_sl ([.ref h0, .ref g1]) ++ List.replicate (2 - (lg_sl ([.ref h0, .ref g1])).length) Slot.unset).toArray = ls at hl ⊢
  have hl : lv_has ls 2 [(0, .ref h0), (1, .ref g1)] := hl
  refine lv_aload_n hx hb dX1_init_0 rfl (lv_at hl 0 rfl) ?_
  refine W.objInit hx hb hown (hts _ (List.mem_of_getElem? (i := 1) rfl)) (hts _ (List.mem_of_getElem? (i := 2) rfl)) (hts _ (List.mem_of_getElem? (i := 3) rfl)) rfl (by rw [hml]; exact hl.1) rfl dX1_init_1 (Nat.le_of_ble_eq_true rfl) (Nat.le_of_ble_eq_true rfl) ?_
  refine W.eq (g2 := F0 m 4 ls []) rfl ?_
  refine lv_aload_n hx hb dX1_init_4 rfl (lv_at hl 0 rfl) ?_
  refine lv_sipush (v := (7007 : Int32)) hx hb dX1_init_5 (by decide) ?_
  refine di_newint hx hb (hts _ (List.mem_of_getElem? (i := 4) rfl)) hK hP hD hS hA (n := (7007 : Int32)) (N := 7007) (by decide) (by decide) (Nat.le_of_ble_eq_true rfl) (Nat.le_of_ble_eq_true rfl) (Nat.le_of_ble_eq_true rfl) dX1_init_8 (fun q1 H hP hD hS => ?_)
  have hP : va_P (db_G E) vwCl [(h0, .inr (1, [.null, .null, .null])), (q1, .inl (db_cy E 0, 7007, .inl (fun _ => 0)))] H := hP
  have hD : va_D A [(h0, .inr (1, [.null, .null, .null])), (q1, .inl (db_cy E 0, 7007, .inl (fun _ => 0)))] := hD
  refine W.widen (k := 1) (n := 7007) (Nat.le_of_ble_eq_true rfl) (Nat.le_of_ble_eq_true rfl) ?_
  refine va_putF (D := db_G E) (ci := 1) (v := .ref q1) (ty := tyX1 1) (C := RX1) (T := TX1) (N := 3) hx hb hts hiX1 tyX1 tyX1_ok nmX1 hown hK hP hD hS 0 rfl rfl 1 (by decide) (hts _ (List.mem_of_getElem? (i := 5) rfl)) (fun _ h9 => h9) rfl hin rfl (tyX1_ok 1 (by decide)) rfl rfl (Nat.le_of_ble_eq_true rfl) dX1_init_10 (fun H locs hP hD hS => ?_)
  have hP : va_P (db_G E) vwCl [(h0, .inr (1, [.null, .ref q1, .null])), (q1, .inl (db_cy E 0, 7007, .inl (fun _ => 0)))] H := hP
  have hD : va_D A [(h0, .inr (1, [.null, .ref q1, .null])), (q1, .inl (db_cy E 0, 7007, .inl (fun _ => 0)))] := hD
  refine lv_aload_n hx hb dX1_init_13 rfl (lv_at hl 0 rfl) ?_
  refine lv_bipush (v := (6 : Int32)) hx hb dX1_init_14 (by decide) ?_
  refine di_newint hx hb (hts _ (List.mem_of_getElem? (i := 4) rfl)) hK hP hD hS hA (n := (6 : Int32)) (N := 6) (by decide) (by decide) (Nat.le_of_ble_eq_true rfl) (Nat.le_of_ble_eq_true rfl) (Nat.le_of_ble_eq_true rfl) dX1_init_16 (fun q2 H hP hD hS => ?_)
  have hP : va_P (db_G E) vwCl [(h0, .inr (1, [.null, .ref q1, .null])), (q1, .inl (db_cy E 0, 7007, .inl (fun _ => 0))), (q2, .inl (db_cy E 0, 6, .inl (fun _ => 0)))] H := hP
  have hD : va_D A [(h0, .inr (1, [.null, .ref q1, .null])), (q1, .inl (db_cy E 0, 7007, .inl (fun _ => 0))), (q2, .inl (db_cy E 0, 6, .inl (fun _ => 0)))] := hD
  refine W.widen (k := 2) (n := 7013) (Nat.le_of_ble_eq_true rfl) (Nat.le_of_ble_eq_true rfl) ?_
  refine va_putF (D := db_G E) (ci := 1) (v := .ref q2) (ty := tyX1 2) (C := RX1) (T := TX1) (N := 3) hx hb hts hiX1 tyX1 tyX1_ok nmX1 hown hK hP hD hS 0 rfl rfl 2 (by decide) (hts _ (List.mem_of_getElem? (i := 6) rfl)) (fun _ h9 => h9) rfl hin rfl (tyX1_ok 2 (by decide)) rfl rfl (Nat.le_of_ble_eq_true rfl) dX1_init_18 (fun H locs hP hD hS => ?_)
  have hP : va_P (db_G E) vwCl [(h0, .inr (1, [.null, .ref q1, .ref q2])), (q1, .inl (db_cy E 0, 7007, .inl (fun _ => 0))), (q2, .inl (db_cy E 0, 6, .inl (fun _ => 0)))] H := hP
  have hD : va_D A [(h0, .inr (1, [.null, .ref q1, .ref q2])), (q1, .inl (db_cy E 0, 7007, .inl (fun _ => 0))), (q2, .inl (db_cy E 0, 6, .inl (fun _ => 0)))] := hD
  refine lv_aload_n hx hb dX1_init_21 rfl (lv_at hl 0 rfl) ?_
  refine lv_aload_n hx hb dX1_init_22 rfl (lv_at hl 1 rfl) ?_
  refine va_putF (D := db_G E) (ci := 1) (v := .ref g1) (ty := tyX1 0) (C := RX1) (T := TX1) (N := 3) hx hb hts hiX1 tyX1 tyX1_ok nmX1 hown hK hP hD hS 0 rfl rfl 0 (by decide) (hts _ (List.mem_of_getElem? (i := 7) rfl)) (fun _ h9 => h9) rfl hin rfl (tyX1_ok 0 (by decide)) rfl rfl (Nat.le_of_ble_eq_true rfl) dX1_init_23 (fun H locs hP hD hS => ?_)
  have hP : va_P (db_G E) vwCl [(h0, .inr (1, [.ref g1, .ref q1, .ref q2])), (q1, .inl (db_cy E 0, 7007, .inl (fun _ => 0))), (q2, .inl (db_cy E 0, 6, .inl (fun _ => 0)))] H := hP
  have hD : va_D A [(h0, .inr (1, [.ref g1, .ref q1, .ref q2])), (q1, .inl (db_cy E 0, 7007, .inl (fun _ => 0))), (q2, .inl (db_cy E 0, 6, .inl (fun _ => 0)))] := hD
  subst hAe
  exact W.vret hx hb hr (fun t ht hW => ⟨⟨(), rfl, trivial, (fun k_ => ([q1, q2] : List Nat).getD k_ 0), by rw [ht]; exact hP, hD⟩, hS.F ht⟩) hS.2.2 dX1_init_26
abbrev rs_X2_16 (E : db_E) (h0 : Nat)  (b : Nat → Nat) : va_W := [(h0, .inr (2, [.ref (b 0), .int 0])), ((b 0), .inl (db_cy E 1, 16, .inl (fun _ => 0)))]
abbrev rmi_X2_16 : Room := { frames := 1, cells := 1, slots := 16, locals := 40 }
set_option maxHeartbeats 8000000 in
set_option maxRecDepth 100000 in
theorem ci_X2_16 (l : Launch) (E : db_E) (h0 : Nat)  (sz : Nat) : Met l yX2_init wsX2_init rmi_X2_16 (va_Pc [.ref h0, .int (16 : Int32)] (fun U => U.heap.size = sz ∧ va_P (db_G E) vwCl [(h0, .inr (2, [.null, .int 0]))] U.heap ∧ va_K (db_G E) vwCl (db_tys E) U ∧ va_D (fun _ => True) [(h0, .inr (2, [.null, .int 0]))])) (va_Qv (fun _ : Unit => True) (fun _ t => ∃ b : Nat → Nat, va_P (db_G E) vwCl (rs_X2_16 E h0  b) t.heap ∧ va_D (va_A [(h0, .inr (2, [.null, .int 0]))] sz) (rs_X2_16 E h0  b)) (va_A [(h0, .inr (2, [.null, .int 0]))] sz)) 1 16 (va_A [(h0, .inr (2, [.null, .int 0]))] sz) := by
  refine Met.ofW (cc := cX2_init) (maxL := 2) (ret := none) (by decide) rfl ?_
  intro p e s m args below meth c s₁ B hml hv
  obtain ⟨rfl, hsz, hP, hK, hD0⟩ := hv
  have hx := B.exec
  have hb := B.bytes
  have hr := B.returns
  have hts := atoms_spec (ws := wsX2_init) B.pre
  have hown : s.vm.findClass RX2 = some m.cls := findClass_of_methodNamed B.named
  have hlocks := B.notSynchronized
  have hin : meth.name = "<init>" := (name_of_methodNamed B.named B.method).1
  subst hsz
  have hD := hD0.self (sz := s.heap.size)
  generalize hAe : va_A [(h0, .inr (2, [.null, .int 0]))] s.heap.size = A at hD ⊢
  have hA : ∀ q : Nat, s.heap.size ≤ q → A q := fun q h => by rw [← hAe]; exact Or.inr h
  have hS : va_S A s.heap s.heap [] := va_S.rf
  have hiX2 : ∀ w ∈ wsX20, w ∈ wsX2_init := fun w_ h_ => List.mem_cons_of_mem _ (List.mem_append_right _ h_)
  have hl := lv_entry ([.ref h0, .int (16 : Int32)]) (n := 2) (Nat.le_of_ble_eq_true rfl)
  rw [lg_entry_eq]
  generalize (lg_sl ([.ref h0, .int (16 : Int32)]) ++ List.replicate (2 - (lg_sl ([.ref h0, .int (16 : Int32)])).length) Slot.unset).toArray = ls at hl ⊢
  have hl : lv_has ls 2 [(0, .ref h0), (1, .int (16 : Int32))] := hl
  refine lv_aload_n hx hb dX2_init_0 rfl (lv_at hl 0 rfl) ?_
  refine W.objInit hx hb hown (hts _ (List.mem_of_getElem? (i := 1) rfl)) (hts _ (List.mem_of_getElem? (i := 2) rfl)) (hts _ (List.mem_of_getElem? (i := 3) rfl)) rfl (by rw [hml]; exact hl.1) rfl dX2_init_1 (Nat.le_of_ble_eq_true rfl) (Nat.le_of_ble_eq_true rfl) ?_
  refine W.eq (g2 := F0 m 4 ls []) rfl ?_
  refine lv_aload_n hx hb dX2_init_4 rfl (lv_at hl 0 rfl) ?_
  refine lv_iload_n hx hb dX2_init_5 rfl (lv_at hl 1 rfl) ?_
  refine lv_iconst (v := (0 : Int32)) hx hb dX2_init_6 (by decide) ?_
  refine va_mmax hx hb (hml.trans hl.1.symm) hown (hts _ (List.mem_of_getElem? (i := 4) rfl)) (hts _ (List.mem_of_getElem? (i := 5) rfl)) (hts _ (List.mem_of_getElem? (i := 6) rfl)) (hts _ (List.mem_of_getElem? (i := 7) rfl)) (Nat.le_of_ble_eq_true rfl) (Nat.le_of_ble_eq_true rfl) (Nat.zero_le _) (Nat.zero_le _) dX2_init_7 ?_
  rw [if_neg (show ¬ (16 : Int32) < (0 : Int32) by decide)]
  refine di_newbyte hx hb (hts _ (List.mem_of_getElem? (i := 8) rfl)) hK hP hD hS hA (n := (16 : Int32)) (N := 16) (by decide) (by decide) (Nat.le_of_ble_eq_true rfl) (Nat.le_of_ble_eq_true rfl) (Nat.le_of_ble_eq_true rfl) dX2_init_10 (fun q1 H hP hD hS => ?_)
  have hP : va_P (db_G E) vwCl [(h0, .inr (2, [.null, .int 0])), (q1, .inl (db_cy E 1, 16, .inl (fun _ => 0)))] H := hP
  have hD : va_D A [(h0, .inr (2, [.null, .int 0])), (q1, .inl (db_cy E 1, 16, .inl (fun _ => 0)))] := hD
  refine W.widen (k := 1) (n := 16) (Nat.le_of_ble_eq_true rfl) (Nat.le_of_ble_eq_true rfl) ?_
  refine va_putF (D := db_G E) (ci := 2) (v := .ref q1) (ty := tyX2 0) (C := RX2) (T := TX2) (N := 2) hx hb hts hiX2 tyX2 tyX2_ok nmX2 hown hK hP hD hS 0 rfl rfl 0 (by decide) (hts _ (List.mem_of_getElem? (i := 9) rfl)) (fun _ h9 => h9) rfl hin rfl (tyX2_ok 0 (by decide)) rfl rfl (Nat.le_of_ble_eq_true rfl) dX2_init_12 (fun H locs hP hD hS => ?_)
  have hP : va_P (db_G E) vwCl [(h0, .inr (2, [.ref q1, .int 0])), (q1, .inl (db_cy E 1, 16, .inl (fun _ => 0)))] H := hP
  have hD : va_D A [(h0, .inr (2, [.ref q1, .int 0])), (q1, .inl (db_cy E 1, 16, .inl (fun _ => 0)))] := hD
  subst hAe
  exact W.vret hx hb hr (fun t ht hW => ⟨⟨(), rfl, trivial, (fun k_ => ([q1] : List Nat).getD k_ 0), by rw [ht]; exact hP, hD⟩, hS.F ht⟩) hS.2.2 dX2_init_15
abbrev rs_X2_100 (E : db_E) (h0 : Nat)  (b : Nat → Nat) : va_W := [(h0, .inr (2, [.ref (b 0), .int 0])), ((b 0), .inl (db_cy E 1, 100, .inl (fun _ => 0)))]
abbrev rmi_X2_100 : Room := { frames := 1, cells := 1, slots := 100, locals := 40 }
set_option maxHeartbeats 8000000 in
set_option maxRecDepth 100000 in
theorem ci_X2_100 (l : Launch) (E : db_E) (h0 : Nat)  (sz : Nat) : Met l yX2_init wsX2_init rmi_X2_100 (va_Pc [.ref h0, .int (100 : Int32)] (fun U => U.heap.size = sz ∧ va_P (db_G E) vwCl [(h0, .inr (2, [.null, .int 0]))] U.heap ∧ va_K (db_G E) vwCl (db_tys E) U ∧ va_D (fun _ => True) [(h0, .inr (2, [.null, .int 0]))])) (va_Qv (fun _ : Unit => True) (fun _ t => ∃ b : Nat → Nat, va_P (db_G E) vwCl (rs_X2_100 E h0  b) t.heap ∧ va_D (va_A [(h0, .inr (2, [.null, .int 0]))] sz) (rs_X2_100 E h0  b)) (va_A [(h0, .inr (2, [.null, .int 0]))] sz)) 1 100 (va_A [(h0, .inr (2, [.null, .int 0]))] sz) := by
  refine Met.ofW (cc := cX2_init) (maxL := 2) (ret := none) (by decide) rfl ?_
  intro p e s m args below meth c s₁ B hml hv
  obtain ⟨rfl, hsz, hP, hK, hD0⟩ := hv
  have hx := B.exec
  have hb := B.bytes
  have hr := B.returns
  have hts := atoms_spec (ws := wsX2_init) B.pre
  have hown : s.vm.findClass RX2 = some m.cls := findClass_of_methodNamed B.named
  have hlocks := B.notSynchronized
  have hin : meth.name = "<init>" := (name_of_methodNamed B.named B.method).1
  subst hsz
  have hD := hD0.self (sz := s.heap.size)
  generalize hAe : va_A [(h0, .inr (2, [.null, .int 0]))] s.heap.size = A at hD ⊢
  have hA : ∀ q : Nat, s.heap.size ≤ q → A q := fun q h => by rw [← hAe]; exact Or.inr h
  have hS : va_S A s.heap s.heap [] := va_S.rf
  have hiX2 : ∀ w ∈ wsX20, w ∈ wsX2_init := fun w_ h_ => List.mem_cons_of_mem _ (List.mem_append_right _ h_)
  have hl := lv_entry ([.ref h0, .int (100 : Int32)]) (n := 2) (Nat.le_of_ble_eq_true rfl)
  rw [lg_entry_eq]
  generalize (lg_sl ([.ref h0, .int (100 : Int32)]) ++ List.replicate (2 - (lg_sl ([.ref h0, .int (100 : Int32)])).length) Slot.unset).toArray = ls at hl ⊢
  have hl : lv_has ls 2 [(0, .ref h0), (1, .int (100 : Int32))] := hl
  refine lv_aload_n hx hb dX2_init_0 rfl (lv_at hl 0 rfl) ?_
  refine W.objInit hx hb hown (hts _ (List.mem_of_getElem? (i := 1) rfl)) (hts _ (List.mem_of_getElem? (i := 2) rfl)) (hts _ (List.mem_of_getElem? (i := 3) rfl)) rfl (by rw [hml]; exact hl.1) rfl dX2_init_1 (Nat.le_of_ble_eq_true rfl) (Nat.le_of_ble_eq_true rfl) ?_
  refine W.eq (g2 := F0 m 4 ls []) rfl ?_
  refine lv_aload_n hx hb dX2_init_4 rfl (lv_at hl 0 rfl) ?_
  refine lv_iload_n hx hb dX2_init_5 rfl (lv_at hl 1 rfl) ?_
  refine lv_iconst (v := (0 : Int32)) hx hb dX2_init_6 (by decide) ?_
  refine va_mmax hx hb (hml.trans hl.1.symm) hown (hts _ (List.mem_of_getElem? (i := 4) rfl)) (hts _ (List.mem_of_getElem? (i := 5) rfl)) (hts _ (List.mem_of_getElem? (i := 6) rfl)) (hts _ (List.mem_of_getElem? (i := 7) rfl)) (Nat.le_of_ble_eq_true rfl) (Nat.le_of_ble_eq_true rfl) (Nat.zero_le _) (Nat.zero_le _) dX2_init_7 ?_
  rw [if_neg (show ¬ (100 : Int32) < (0 : Int32) by decide)]
  refine di_newbyte hx hb (hts _ (List.mem_of_getElem? (i := 8) rfl)) hK hP hD hS hA (n := (100 : Int32)) (N := 100) (by decide) (by decide) (Nat.le_of_ble_eq_true rfl) (Nat.le_of_ble_eq_true rfl) (Nat.le_of_ble_eq_true rfl) dX2_init_10 (fun q1 H hP hD hS => ?_)
  have hP : va_P (db_G E) vwCl [(h0, .inr (2, [.null, .int 0])), (q1, .inl (db_cy E 1, 100, .inl (fun _ => 0)))] H := hP
  have hD : va_D A [(h0, .inr (2, [.null, .int 0])), (q1, .inl (db_cy E 1, 100, .inl (fun _ => 0)))] := hD
  refine W.widen (k := 1) (n := 100) (Nat.le_of_ble_eq_true rfl) (Nat.le_of_ble_eq_true rfl) ?_
  refine va_putF (D := db_G E) (ci := 2) (v := .ref q1) (ty := tyX2 0) (C := RX2) (T := TX2) (N := 2) hx hb hts hiX2 tyX2 tyX2_ok nmX2 hown hK hP hD hS 0 rfl rfl 0 (by decide) (hts _ (List.mem_of_getElem? (i := 9) rfl)) (fun _ h9 => h9) rfl hin rfl (tyX2_ok 0 (by decide)) rfl rfl (Nat.le_of_ble_eq_true rfl) dX2_init_12 (fun H locs hP hD hS => ?_)
  have hP : va_P (db_G E) vwCl [(h0, .inr (2, [.ref q1, .int 0])), (q1, .inl (db_cy E 1, 100, .inl (fun _ => 0)))] H := hP
  have hD : va_D A [(h0, .inr (2, [.ref q1, .int 0])), (q1, .inl (db_cy E 1, 100, .inl (fun _ => 0)))] := hD
  subst hAe
  exact W.vret hx hb hr (fun t ht hW => ⟨⟨(), rfl, trivial, (fun k_ => ([q1] : List Nat).getD k_ 0), by rw [ht]; exact hP, hD⟩, hS.F ht⟩) hS.2.2 dX2_init_15
abbrev rs_X3 (E : db_E) (h0 : Nat) (g1 : Nat) (b : Nat → Nat) : va_W := [(h0, .inr (3, [.ref g1, .ref (b 0), .ref (b 1), .int 0, .int 0, .int 0, .int 0])), ((b 0), .inl (db_cy E 0, 6, .inl (fun _ => 0))), ((b 1), .inl (db_cy E 0, 6, .inl (fun _ => 0)))]
abbrev rmi_X3 : Room := { frames := 1, cells := 2, slots := 12, locals := 12 }
set_option maxHeartbeats 8000000 in
set_option maxRecDepth 100000 in
theorem ci_X3 (l : Launch) (E : db_E) (h0 : Nat) (g1 : Nat) (sz : Nat) : Met l yX3_init wsX3_init rmi_X3 (va_Pc [.ref h0, .ref g1] (fun U => U.heap.size = sz ∧ va_P (db_G E) vwCl [(h0, .inr (3, [.null, .null, .null, .int 0, .int 0, .int 0, .int 0]))] U.heap ∧ va_K (db_G E) vwCl (db_tys E) U ∧ va_D (fun _ => True) [(h0, .inr (3, [.null, .null, .null, .int 0, .int 0, .int 0, .int 0]))])) (va_Qv (fun _ : Unit => True) (fun _ t => ∃ b : Nat → Nat, va_P (db_G E) vwCl (rs_X3 E h0 g1 b) t.heap ∧ va_D (va_A [(h0, .inr (3, [.null, .null, .null, .int 0, .int 0, .int 0, .int 0]))] sz) (rs_X3 E h0 g1 b)) (va_A [(h0, .inr (3, [.null, .null, .null, .int 0, .int 0, .int 0, .int 0]))] sz)) 2 12 (va_A [(h0, .inr (3, [.null, .null, .null, .int 0, .int 0, .int 0, .int 0]))] sz) := by
  refine Met.ofW (cc := cX3_init) (maxL := 2) (ret := none) (by decide) rfl ?_
  intro p e s m args below meth c s₁ B hml hv
  obtain ⟨rfl, hsz, hP, hK, hD0⟩ := hv
  have hx := B.exec
  have hb := B.bytes
  have hr := B.returns
  have hts := atoms_spec (ws := wsX3_init) B.pre
  have hown : s.vm.findClass RX3 = some m.cls := findClass_of_methodNamed B.named
  have hlocks := B.notSynchronized
  have hin : meth.name = "<init>" := (name_of_methodNamed B.named B.method).1
  subst hsz
  have hD := hD0.self (sz := s.heap.size)
  generalize hAe : va_A [(h0, .inr (3, [.null, .null, .null, .int 0, .int 0, .int 0, .int 0]))] s.heap.size = A at hD ⊢
  have hA : ∀ q : Nat, s.heap.size ≤ q → A q := fun q h => by rw [← hAe]; exact Or.inr h
  have hS : va_S A s.heap s.heap [] := va_S.rf
  have hiX3 : ∀ w ∈ wsX30, w ∈ wsX3_init := fun w_ h_ => List.mem_cons_of_mem _ (List.mem_append_right _ h_)
  have hl := lv_entry ([.ref h0, .ref g1]) (n := 2) (Nat.le_of_ble_eq_true rfl)
  rw [lg_entry_eq]
  generalize (lg_sl ([.ref h0, .ref g1]) ++ List.replicate (2 - (lg_sl ([.ref h0, .ref g1])).length) Slot.unset).toArray = ls at hl ⊢
  have hl : lv_has ls 2 [(0, .ref h0), (1, .ref g1)] := hl
  refine lv_aload_n hx hb dX3_init_0 rfl (lv_at hl 0 rfl) ?_
  refine W.objInit hx hb hown (hts _ (List.mem_of_getElem? (i := 1) rfl)) (hts _ (List.mem_of_getElem? (i := 2) rfl)) (hts _ (List.mem_of_getElem? (i := 3) rfl)) rfl (by rw [hml]; exact hl.1) rfl dX3_init_1 (Nat.le_of_ble_eq_true rfl) (Nat.le_of_ble_eq_true rfl) ?_
  refine W.eq (g2 := F0 m 4 ls []) rfl ?_
  refine lv_aload_n hx hb dX3_init_4 rfl (lv_at hl 0 rfl) ?_
  refine lv_bipush (v := (6 : Int32)) hx hb dX3_init_5 (by decide) ?_
  refine di_newint hx hb (hts _ (List.mem_of_getElem? (i := 4) rfl)) hK hP hD hS hA (n := (6 : Int32)) (N := 6) (by decide) (by decide) (Nat.le_of_ble_eq_true rfl) (Nat.le_of_ble_eq_true rfl) (Nat.le_of_ble_eq_true rfl) dX3_init_7 (fun q1 H hP hD hS => ?_)
  have hP : va_P (db_G E) vwCl [(h0, .inr (3, [.null, .null, .null, .int 0, .int 0, .int 0, .int 0])), (q1, .inl (db_cy E 0, 6, .inl (fun _ => 0)))] H := hP
  have hD : va_D A [(h0, .inr (3, [.null, .null, .null, .int 0, .int 0, .int 0, .int 0])), (q1, .inl (db_cy E 0, 6, .inl (fun _ => 0)))] := hD
  refine W.widen (k := 1) (n := 6) (Nat.le_of_ble_eq_true rfl) (Nat.le_of_ble_eq_true rfl) ?_
  refine va_putF (D := db_G E) (ci := 3) (v := .ref q1) (ty := tyX3 1) (C := RX3) (T := TX3) (N := 7) hx hb hts hiX3 tyX3 tyX3_ok nmX3 hown hK hP hD hS 0 rfl rfl 1 (by decide) (hts _ (List.mem_of_getElem? (i := 5) rfl)) (fun _ h9 => h9) rfl hin rfl (tyX3_ok 1 (by decide)) rfl rfl (Nat.le_of_ble_eq_true rfl) dX3_init_9 (fun H locs hP hD hS => ?_)
  have hP : va_P (db_G E) vwCl [(h0, .inr (3, [.null, .ref q1, .null, .int 0, .int 0, .int 0, .int 0])), (q1, .inl (db_cy E 0, 6, .inl (fun _ => 0)))] H := hP
  have hD : va_D A [(h0, .inr (3, [.null, .ref q1, .null, .int 0, .int 0, .int 0, .int 0])), (q1, .inl (db_cy E 0, 6, .inl (fun _ => 0)))] := hD
  refine lv_aload_n hx hb dX3_init_12 rfl (lv_at hl 0 rfl) ?_
  refine lv_bipush (v := (6 : Int32)) hx hb dX3_init_13 (by decide) ?_
  refine di_newint hx hb (hts _ (List.mem_of_getElem? (i := 4) rfl)) hK hP hD hS hA (n := (6 : Int32)) (N := 6) (by decide) (by decide) (Nat.le_of_ble_eq_true rfl) (Nat.le_of_ble_eq_true rfl) (Nat.le_of_ble_eq_true rfl) dX3_init_15 (fun q2 H hP hD hS => ?_)
  have hP : va_P (db_G E) vwCl [(h0, .inr (3, [.null, .ref q1, .null, .int 0, .int 0, .int 0, .int 0])), (q1, .inl (db_cy E 0, 6, .inl (fun _ => 0))), (q2, .inl (db_cy E 0, 6, .inl (fun _ => 0)))] H := hP
  have hD : va_D A [(h0, .inr (3, [.null, .ref q1, .null, .int 0, .int 0, .int 0, .int 0])), (q1, .inl (db_cy E 0, 6, .inl (fun _ => 0))), (q2, .inl (db_cy E 0, 6, .inl (fun _ => 0)))] := hD
  refine W.widen (k := 2) (n := 12) (Nat.le_of_ble_eq_true rfl) (Nat.le_of_ble_eq_true rfl) ?_
  refine va_putF (D := db_G E) (ci := 3) (v := .ref q2) (ty := tyX3 2) (C := RX3) (T := TX3) (N := 7) hx hb hts hiX3 tyX3 tyX3_ok nmX3 hown hK hP hD hS 0 rfl rfl 2 (by decide) (hts _ (List.mem_of_getElem? (i := 6) rfl)) (fun _ h9 => h9) rfl hin rfl (tyX3_ok 2 (by decide)) rfl rfl (Nat.le_of_ble_eq_true rfl) dX3_init_17 (fun H locs hP hD hS => ?_)
  have hP : va_P (db_G E) vwCl [(h0, .inr (3, [.null, .ref q1, .ref q2, .int 0, .int 0, .int 0, .int 0])), (q1, .inl (db_cy E 0, 6, .inl (fun _ => 0))), (q2, .inl (db_cy E 0, 6, .inl (fun _ => 0)))] H := hP
  have hD : va_D A [(h0, .inr (3, [.null, .ref q1, .ref q2, .int 0, .int 0, .int 0, .int 0])), (q1, .inl (db_cy E 0, 6, .inl (fun _ => 0))), (q2, .inl (db_cy E 0, 6, .inl (fun _ => 0)))] := hD
  refine lv_aload_n hx hb dX3_init_20 rfl (lv_at hl 0 rfl) ?_
  refine lv_aload_n hx hb dX3_init_21 rfl (lv_at hl 1 rfl) ?_
  refine va_putF (D := db_G E) (ci := 3) (v := .ref g1) (ty := tyX3 0) (C := RX3) (T := TX3) (N := 7) hx hb hts hiX3 tyX3 tyX3_ok nmX3 hown hK hP hD hS 0 rfl rfl 0 (by decide) (hts _ (List.mem_of_getElem? (i := 7) rfl)) (fun _ h9 => h9) rfl hin rfl (tyX3_ok 0 (by decide)) rfl rfl (Nat.le_of_ble_eq_true rfl) dX3_init_22 (fun H locs hP hD hS => ?_)
  have hP : va_P (db_G E) vwCl [(h0, .inr (3, [.ref g1, .ref q1, .ref q2, .int 0, .int 0, .int 0, .int 0])), (q1, .inl (db_cy E 0, 6, .inl (fun _ => 0))), (q2, .inl (db_cy E 0, 6, .inl (fun _ => 0)))] H := hP
  have hD : va_D A [(h0, .inr (3, [.ref g1, .ref q1, .ref q2, .int 0, .int 0, .int 0, .int 0])), (q1, .inl (db_cy E 0, 6, .inl (fun _ => 0))), (q2, .inl (db_cy E 0, 6, .inl (fun _ => 0)))] := hD
  subst hAe
  exact W.vret hx hb hr (fun t ht hW => ⟨⟨(), rfl, trivial, (fun k_ => ([q1, q2] : List Nat).getD k_ 0), by rw [ht]; exact hP, hD⟩, hS.F ht⟩) hS.2.2 dX3_init_25
abbrev rs_X4 (E : db_E) (h0 : Nat)  (b : Nat → Nat) : va_W := [(h0, .inr (4, [.ref (b 0), .int 0, .int 0])), ((b 0), .inl (db_cy E 0, 24, .inl db_aF))]
abbrev rmi_X4 : Room := { frames := 1, cells := 1, slots := 24, locals := 40 }
set_option maxHeartbeats 8000000 in
set_option maxRecDepth 100000 in
theorem ci_X4 (l : Launch) (E : db_E) (h0 : Nat)  (sz : Nat) : Met l yX4_init wsX4_init rmi_X4 (va_Pc [.ref h0] (fun U => U.heap.size = sz ∧ va_P (db_G E) vwCl [(h0, .inr (4, [.null, .int 0, .int 0]))] U.heap ∧ va_K (db_G E) vwCl (db_tys E) U ∧ va_D (fun _ => True) [(h0, .inr (4, [.null, .int 0, .int 0]))] ∧ db_nI U ∧ db_AT E (va_A [(h0, .inr (4, [.null, .int 0, .int 0]))] U.heap.size) U U.heap)) (va_Qv (fun _ : Unit => True) (fun _ t => ∃ b : Nat → Nat, va_P (db_G E) vwCl (rs_X4 E h0  b) t.heap ∧ va_D (va_A [(h0, .inr (4, [.null, .int 0, .int 0]))] sz) (rs_X4 E h0  b)) (va_A [(h0, .inr (4, [.null, .int 0, .int 0]))] sz)) 1 24 (va_A [(h0, .inr (4, [.null, .int 0, .int 0]))] sz) := by
  refine Met.ofW (cc := cX4_init) (maxL := 1) (ret := none) (by decide) rfl ?_
  intro p e s m args below meth c s₁ B hml hv
  obtain ⟨rfl, hsz, hP, hK, hD0, hN, hT⟩ := hv
  have hx := B.exec
  have hb := B.bytes
  have hr := B.returns
  have hts := atoms_spec (ws := wsX4_init) B.pre
  have hown : s.vm.findClass RX4 = some m.cls := findClass_of_methodNamed B.named
  have hlocks := B.notSynchronized
  have hin : meth.name = "<init>" := (name_of_methodNamed B.named B.method).1
  subst hsz
  have hD := hD0.self (sz := s.heap.size)
  generalize hAe : va_A [(h0, .inr (4, [.null, .int 0, .int 0]))] s.heap.size = A at hD hT ⊢
  have hA : ∀ q : Nat, s.heap.size ≤ q → A q := fun q h => by rw [← hAe]; exact Or.inr h
  have hS : va_S A s.heap s.heap [] := va_S.rf
  have hiX4 : ∀ w ∈ wsX40, w ∈ wsX4_init := fun w_ h_ => List.mem_cons_of_mem _ (List.mem_append_right _ h_)
  have hl := lv_entry ([.ref h0]) (n := 1) (Nat.le_of_ble_eq_true rfl)
  rw [lg_entry_eq]
  generalize (lg_sl ([.ref h0]) ++ List.replicate (1 - (lg_sl ([.ref h0])).length) Slot.unset).toArray = ls at hl ⊢
  have hl : lv_has ls 1 [(0, .ref h0)] := hl
  refine lv_aload_n hx hb dX4_init_0 rfl (lv_at hl 0 rfl) ?_
  refine W.objInit hx hb hown (hts _ (List.mem_of_getElem? (i := 1) rfl)) (hts _ (List.mem_of_getElem? (i := 2) rfl)) (hts _ (List.mem_of_getElem? (i := 3) rfl)) rfl (by rw [hml]; exact hl.1) rfl dX4_init_1 (Nat.le_of_ble_eq_true rfl) (Nat.le_of_ble_eq_true rfl) ?_
  refine W.eq (g2 := F0 m 4 ls []) rfl ?_
  refine lv_aload_n hx hb dX4_init_4 rfl (lv_at hl 0 rfl) ?_
  refine va_getsN hx hb hT.1 hS hown (va_Nw.use rfl (hN.at)) (fun _ h => h) dX4_init_5 ?_
  refine di_clone hx hb (hml.trans hl.1.symm) hown (hts _ (List.mem_of_getElem? (i := 4) rfl)) (hts _ (List.mem_of_getElem? (i := 5) rfl)) (hts _ (List.mem_of_getElem? (i := 6) rfl)) (hts _ (List.mem_of_getElem? (i := 7) rfl)) (hts _ (List.mem_of_getElem? (i := 8) rfl)) hN.ca hK hP hD hS hA hT.2 (Nat.le_of_ble_eq_true rfl) (Nat.le_of_ble_eq_true rfl) (Nat.le_of_ble_eq_true rfl) (Nat.le_of_ble_eq_true rfl) dX4_init_8 (fun q1 H hP hD hS => ?_)
  have hP : va_P (db_G E) vwCl [(h0, .inr (4, [.null, .int 0, .int 0])), (q1, .inl (db_cy E 0, 24, .inl db_aF))] H := hP
  have hD : va_D A [(h0, .inr (4, [.null, .int 0, .int 0])), (q1, .inl (db_cy E 0, 24, .inl db_aF))] := hD
  refine W.widen (k := 1) (n := 24) (Nat.le_of_ble_eq_true rfl) (Nat.le_of_ble_eq_true rfl) ?_
  refine va_castA hx hb hown (hts _ (List.mem_of_getElem? (i := 9) rfl)) hP 1 rfl (va_nm_int (hK.2 0 _ rfl).2) dX4_init_11 ?_
  refine va_putF (D := db_G E) (ci := 4) (v := .ref q1) (ty := tyX4 0) (C := RX4) (T := TX4) (N := 3) hx hb hts hiX4 tyX4 tyX4_ok nmX4 hown hK hP hD hS 0 rfl rfl 0 (by decide) (hts _ (List.mem_of_getElem? (i := 10) rfl)) (fun _ h9 => h9) rfl hin rfl (tyX4_ok 0 (by decide)) rfl rfl (Nat.le_of_ble_eq_true rfl) dX4_init_14 (fun H locs hP hD hS => ?_)
  have hP : va_P (db_G E) vwCl [(h0, .inr (4, [.ref q1, .int 0, .int 0])), (q1, .inl (db_cy E 0, 24, .inl db_aF))] H := hP
  have hD : va_D A [(h0, .inr (4, [.ref q1, .int 0, .int 0])), (q1, .inl (db_cy E 0, 24, .inl db_aF))] := hD
  subst hAe
  exact W.vret hx hb hr (fun t ht hW => ⟨⟨(), rfl, trivial, (fun k_ => ([q1] : List Nat).getD k_ 0), by rw [ht]; exact hP, hD⟩, hS.F ht⟩) hS.2.2 dX4_init_17
abbrev rs_X5 (E : db_E) (h0 : Nat)  (b : Nat → Nat) : va_W := [(h0, .inr (5, [.ref (b 0), .ref (b 1), .ref (b 2), .ref (b 3), .int 0])), ((b 0), .inl (db_cy E 0, 12, .inl (fun _ => 0))), ((b 1), .inl (db_cy E 0, 12, .inl (fun _ => 0))), ((b 2), .inl (db_cy E 0, 12, .inl (fun _ => 0))), ((b 3), .inl (db_cy E 0, 12, .inl (fun _ => 0)))]
abbrev rmi_X5 : Room := { frames := 1, cells := 4, slots := 48, locals := 12 }
set_option maxHeartbeats 8000000 in
set_option maxRecDepth 100000 in
theorem ci_X5 (l : Launch) (E : db_E) (h0 : Nat)  (sz : Nat) : Met l yX5_init wsX5_init rmi_X5 (va_Pc [.ref h0] (fun U => U.heap.size = sz ∧ va_P (db_G E) vwCl [(h0, .inr (5, [.null, .null, .null, .null, .int 0]))] U.heap ∧ va_K (db_G E) vwCl (db_tys E) U ∧ va_D (fun _ => True) [(h0, .inr (5, [.null, .null, .null, .null, .int 0]))])) (va_Qv (fun _ : Unit => True) (fun _ t => ∃ b : Nat → Nat, va_P (db_G E) vwCl (rs_X5 E h0  b) t.heap ∧ va_D (va_A [(h0, .inr (5, [.null, .null, .null, .null, .int 0]))] sz) (rs_X5 E h0  b)) (va_A [(h0, .inr (5, [.null, .null, .null, .null, .int 0]))] sz)) 4 48 (va_A [(h0, .inr (5, [.null, .null, .null, .null, .int 0]))] sz) := by
  refine Met.ofW (cc := cX5_init) (maxL := 1) (ret := none) (by decide) rfl ?_
  intro p e s m args below meth c s₁ B hml hv
  obtain ⟨rfl, hsz, hP, hK, hD0⟩ := hv
  have hx := B.exec
  have hb := B.bytes
  have hr := B.returns
  have hts := atoms_spec (ws := wsX5_init) B.pre
  have hown : s.vm.findClass RX5 = some m.cls := findClass_of_methodNamed B.named
  have hlocks := B.notSynchronized
  have hin : meth.name = "<init>" := (name_of_methodNamed B.named B.method).1
  subst hsz
  have hD := hD0.self (sz := s.heap.size)
  generalize hAe : va_A [(h0, .inr (5, [.null, .null, .null, .null, .int 0]))] s.heap.size = A at hD ⊢
  have hA : ∀ q : Nat, s.heap.size ≤ q → A q := fun q h => by rw [← hAe]; exact Or.inr h
  have hS : va_S A s.heap s.heap [] := va_S.rf
  have hiX5 : ∀ w ∈ wsX50, w ∈ wsX5_init := fun w_ h_ => List.mem_cons_of_mem _ (List.mem_append_right _ h_)
  have hl := lv_entry ([.ref h0]) (n := 1) (Nat.le_of_ble_eq_true rfl)
  rw [lg_entry_eq]
  generalize (lg_sl ([.ref h0]) ++ List.replicate (1 - (lg_sl ([.ref h0])).length) Slot.unset).toArray = ls at hl ⊢
  have hl : lv_has ls 1 [(0, .ref h0)] := hl
  refine lv_aload_n hx hb dX5_init_0 rfl (lv_at hl 0 rfl) ?_
  refine W.objInit hx hb hown (hts _ (List.mem_of_getElem? (i := 1) rfl)) (hts _ (List.mem_of_getElem? (i := 2) rfl)) (hts _ (List.mem_of_getElem? (i := 3) rfl)) rfl (by rw [hml]; exact hl.1) rfl dX5_init_1 (Nat.le_of_ble_eq_true rfl) (Nat.le_of_ble_eq_true rfl) ?_
  refine W.eq (g2 := F0 m 4 ls []) rfl ?_
  refine lv_aload_n hx hb dX5_init_4 rfl (lv_at hl 0 rfl) ?_
  refine lv_bipush (v := (12 : Int32)) hx hb dX5_init_5 (by decide) ?_
  refine di_newint hx hb (hts _ (List.mem_of_getElem? (i := 4) rfl)) hK hP hD hS hA (n := (12 : Int32)) (N := 12) (by decide) (by decide) (Nat.le_of_ble_eq_true rfl) (Nat.le_of_ble_eq_true rfl) (Nat.le_of_ble_eq_true rfl) dX5_init_7 (fun q1 H hP hD hS => ?_)
  have hP : va_P (db_G E) vwCl [(h0, .inr (5, [.null, .null, .null, .null, .int 0])), (q1, .inl (db_cy E 0, 12, .inl (fun _ => 0)))] H := hP
  have hD : va_D A [(h0, .inr (5, [.null, .null, .null, .null, .int 0])), (q1, .inl (db_cy E 0, 12, .inl (fun _ => 0)))] := hD
  refine W.widen (k := 1) (n := 12) (Nat.le_of_ble_eq_true rfl) (Nat.le_of_ble_eq_true rfl) ?_
  refine va_putF (D := db_G E) (ci := 5) (v := .ref q1) (ty := tyX5 0) (C := RX5) (T := TX5) (N := 5) hx hb hts hiX5 tyX5 tyX5_ok nmX5 hown hK hP hD hS 0 rfl rfl 0 (by decide) (hts _ (List.mem_of_getElem? (i := 5) rfl)) (fun _ h9 => h9) rfl hin rfl (tyX5_ok 0 (by decide)) rfl rfl (Nat.le_of_ble_eq_true rfl) dX5_init_9 (fun H locs hP hD hS => ?_)
  have hP : va_P (db_G E) vwCl [(h0, .inr (5, [.ref q1, .null, .null, .null, .int 0])), (q1, .inl (db_cy E 0, 12, .inl (fun _ => 0)))] H := hP
  have hD : va_D A [(h0, .inr (5, [.ref q1, .null, .null, .null, .int 0])), (q1, .inl (db_cy E 0, 12, .inl (fun _ => 0)))] := hD
  refine lv_aload_n hx hb dX5_init_12 rfl (lv_at hl 0 rfl) ?_
  refine lv_bipush (v := (12 : Int32)) hx hb dX5_init_13 (by decide) ?_
  refine di_newint hx hb (hts _ (List.mem_of_getElem? (i := 4) rfl)) hK hP hD hS hA (n := (12 : Int32)) (N := 12) (by decide) (by decide) (Nat.le_of_ble_eq_true rfl) (Nat.le_of_ble_eq_true rfl) (Nat.le_of_ble_eq_true rfl) dX5_init_15 (fun q2 H hP hD hS => ?_)
  have hP : va_P (db_G E) vwCl [(h0, .inr (5, [.ref q1, .null, .null, .null, .int 0])), (q1, .inl (db_cy E 0, 12, .inl (fun _ => 0))), (q2, .inl (db_cy E 0, 12, .inl (fun _ => 0)))] H := hP
  have hD : va_D A [(h0, .inr (5, [.ref q1, .null, .null, .null, .int 0])), (q1, .inl (db_cy E 0, 12, .inl (fun _ => 0))), (q2, .inl (db_cy E 0, 12, .inl (fun _ => 0)))] := hD
  refine W.widen (k := 2) (n := 24) (Nat.le_of_ble_eq_true rfl) (Nat.le_of_ble_eq_true rfl) ?_
  refine va_putF (D := db_G E) (ci := 5) (v := .ref q2) (ty := tyX5 1) (C := RX5) (T := TX5) (N := 5) hx hb hts hiX5 tyX5 tyX5_ok nmX5 hown hK hP hD hS 0 rfl rfl 1 (by decide) (hts _ (List.mem_of_getElem? (i := 6) rfl)) (fun _ h9 => h9) rfl hin rfl (tyX5_ok 1 (by decide)) rfl rfl (Nat.le_of_ble_eq_true rfl) dX5_init_17 (fun H locs hP hD hS => ?_)
  have hP : va_P (db_G E) vwCl [(h0, .inr (5, [.ref q1, .ref q2, .null, .null, .int 0])), (q1, .inl (db_cy E 0, 12, .inl (fun _ => 0))), (q2, .inl (db_cy E 0, 12, .inl (fun _ => 0)))] H := hP
  have hD : va_D A [(h0, .inr (5, [.ref q1, .ref q2, .null, .null, .int 0])), (q1, .inl (db_cy E 0, 12, .inl (fun _ => 0))), (q2, .inl (db_cy E 0, 12, .inl (fun _ => 0)))] := hD
  refine lv_aload_n hx hb dX5_init_20 rfl (lv_at hl 0 rfl) ?_
  refine lv_bipush (v := (12 : Int32)) hx hb dX5_init_21 (by decide) ?_
  refine di_newint hx hb (hts _ (List.mem_of_getElem? (i := 4) rfl)) hK hP hD hS hA (n := (12 : Int32)) (N := 12) (by decide) (by decide) (Nat.le_of_ble_eq_true rfl) (Nat.le_of_ble_eq_true rfl) (Nat.le_of_ble_eq_true rfl) dX5_init_23 (fun q3 H hP hD hS => ?_)
  have hP : va_P (db_G E) vwCl [(h0, .inr (5, [.ref q1, .ref q2, .null, .null, .int 0])), (q1, .inl (db_cy E 0, 12, .inl (fun _ => 0))), (q2, .inl (db_cy E 0, 12, .inl (fun _ => 0))), (q3, .inl (db_cy E 0, 12, .inl (fun _ => 0)))] H := hP
  have hD : va_D A [(h0, .inr (5, [.ref q1, .ref q2, .null, .null, .int 0])), (q1, .inl (db_cy E 0, 12, .inl (fun _ => 0))), (q2, .inl (db_cy E 0, 12, .inl (fun _ => 0))), (q3, .inl (db_cy E 0, 12, .inl (fun _ => 0)))] := hD
  refine W.widen (k := 3) (n := 36) (Nat.le_of_ble_eq_true rfl) (Nat.le_of_ble_eq_true rfl) ?_
  refine va_putF (D := db_G E) (ci := 5) (v := .ref q3) (ty := tyX5 2) (C := RX5) (T := TX5) (N := 5) hx hb hts hiX5 tyX5 tyX5_ok nmX5 hown hK hP hD hS 0 rfl rfl 2 (by decide) (hts _ (List.mem_of_getElem? (i := 7) rfl)) (fun _ h9 => h9) rfl hin rfl (tyX5_ok 2 (by decide)) rfl rfl (Nat.le_of_ble_eq_true rfl) dX5_init_25 (fun H locs hP hD hS => ?_)
  have hP : va_P (db_G E) vwCl [(h0, .inr (5, [.ref q1, .ref q2, .ref q3, .null, .int 0])), (q1, .inl (db_cy E 0, 12, .inl (fun _ => 0))), (q2, .inl (db_cy E 0, 12, .inl (fun _ => 0))), (q3, .inl (db_cy E 0, 12, .inl (fun _ => 0)))] H := hP
  have hD : va_D A [(h0, .inr (5, [.ref q1, .ref q2, .ref q3, .null, .int 0])), (q1, .inl (db_cy E 0, 12, .inl (fun _ => 0))), (q2, .inl (db_cy E 0, 12, .inl (fun _ => 0))), (q3, .inl (db_cy E 0, 12, .inl (fun _ => 0)))] := hD
  refine lv_aload_n hx hb dX5_init_28 rfl (lv_at hl 0 rfl) ?_
  refine lv_bipush (v := (12 : Int32)) hx hb dX5_init_29 (by decide) ?_
  refine di_newint hx hb (hts _ (List.mem_of_getElem? (i := 4) rfl)) hK hP hD hS hA (n := (12 : Int32)) (N := 12) (by decide) (by decide) (Nat.le_of_ble_eq_true rfl) (Nat.le_of_ble_eq_true rfl) (Nat.le_of_ble_eq_true rfl) dX5_init_31 (fun q4 H hP hD hS => ?_)
  have hP : va_P (db_G E) vwCl [(h0, .inr (5, [.ref q1, .ref q2, .ref q3, .null, .int 0])), (q1, .inl (db_cy E 0, 12, .inl (fun _ => 0))), (q2, .inl (db_cy E 0, 12, .inl (fun _ => 0))), (q3, .inl (db_cy E 0, 12, .inl (fun _ => 0))), (q4, .inl (db_cy E 0, 12, .inl (fun _ => 0)))] H := hP
  have hD : va_D A [(h0, .inr (5, [.ref q1, .ref q2, .ref q3, .null, .int 0])), (q1, .inl (db_cy E 0, 12, .inl (fun _ => 0))), (q2, .inl (db_cy E 0, 12, .inl (fun _ => 0))), (q3, .inl (db_cy E 0, 12, .inl (fun _ => 0))), (q4, .inl (db_cy E 0, 12, .inl (fun _ => 0)))] := hD
  refine W.widen (k := 4) (n := 48) (Nat.le_of_ble_eq_true rfl) (Nat.le_of_ble_eq_true rfl) ?_
  refine va_putF (D := db_G E) (ci := 5) (v := .ref q4) (ty := tyX5 3) (C := RX5) (T := TX5) (N := 5) hx hb hts hiX5 tyX5 tyX5_ok nmX5 hown hK hP hD hS 0 rfl rfl 3 (by decide) (hts _ (List.mem_of_getElem? (i := 8) rfl)) (fun _ h9 => h9) rfl hin rfl (tyX5_ok 3 (by decide)) rfl rfl (Nat.le_of_ble_eq_true rfl) dX5_init_33 (fun H locs hP hD hS => ?_)
  have hP : va_P (db_G E) vwCl [(h0, .inr (5, [.ref q1, .ref q2, .ref q3, .ref q4, .int 0])), (q1, .inl (db_cy E 0, 12, .inl (fun _ => 0))), (q2, .inl (db_cy E 0, 12, .inl (fun _ => 0))), (q3, .inl (db_cy E 0, 12, .inl (fun _ => 0))), (q4, .inl (db_cy E 0, 12, .inl (fun _ => 0)))] H := hP
  have hD : va_D A [(h0, .inr (5, [.ref q1, .ref q2, .ref q3, .ref q4, .int 0])), (q1, .inl (db_cy E 0, 12, .inl (fun _ => 0))), (q2, .inl (db_cy E 0, 12, .inl (fun _ => 0))), (q3, .inl (db_cy E 0, 12, .inl (fun _ => 0))), (q4, .inl (db_cy E 0, 12, .inl (fun _ => 0)))] := hD
  subst hAe
  exact W.vret hx hb hr (fun t ht hW => ⟨⟨(), rfl, trivial, (fun k_ => ([q1, q2, q3, q4] : List Nat).getD k_ 0), by rw [ht]; exact hP, hD⟩, hS.F ht⟩) hS.2.2 dX5_init_36
abbrev rs_X6 (E : db_E) (h0 : Nat) (g1 : Nat) (b : Nat → Nat) : va_W := [(h0, .inr (6, [.ref g1, .ref (b 0)])), ((b 0), .inl (db_cy E 3, 4096, .inl (fun _ => 0)))]
abbrev rmi_X6 : Room := { frames := 1, cells := 1, slots := 4096, locals := 12 }
set_option maxHeartbeats 8000000 in
set_option maxRecDepth 100000 in
theorem ci_X6 (l : Launch) (E : db_E) (h0 : Nat) (g1 : Nat) (sz : Nat) : Met l yX6_init wsX6_init rmi_X6 (va_Pc [.ref h0, .ref g1] (fun U => U.heap.size = sz ∧ va_P (db_G E) vwCl [(h0, .inr (6, [.null, .null]))] U.heap ∧ va_K (db_G E) vwCl (db_tys E) U ∧ va_D (fun _ => True) [(h0, .inr (6, [.null, .null]))])) (va_Qv (fun _ : Unit => True) (fun _ t => ∃ b : Nat → Nat, va_P (db_G E) vwCl (rs_X6 E h0 g1 b) t.heap ∧ va_D (va_A [(h0, .inr (6, [.null, .null]))] sz) (rs_X6 E h0 g1 b)) (va_A [(h0, .inr (6, [.null, .null]))] sz)) 1 4096 (va_A [(h0, .inr (6, [.null, .null]))] sz) := by
  refine Met.ofW (cc := cX6_init) (maxL := 2) (ret := none) (by decide) rfl ?_
  intro p e s m args below meth c s₁ B hml hv
  obtain ⟨rfl, hsz, hP, hK, hD0⟩ := hv
  have hx := B.exec
  have hb := B.bytes
  have hr := B.returns
  have hts := atoms_spec (ws := wsX6_init) B.pre
  have hown : s.vm.findClass RX6 = some m.cls := findClass_of_methodNamed B.named
  have hlocks := B.notSynchronized
  have hin : meth.name = "<init>" := (name_of_methodNamed B.named B.method).1
  subst hsz
  have hD := hD0.self (sz := s.heap.size)
  generalize hAe : va_A [(h0, .inr (6, [.null, .null]))] s.heap.size = A at hD ⊢
  have hA : ∀ q : Nat, s.heap.size ≤ q → A q := fun q h => by rw [← hAe]; exact Or.inr h
  have hS : va_S A s.heap s.heap [] := va_S.rf
  have hiX6 : ∀ w ∈ wsX60, w ∈ wsX6_init := fun w_ h_ => List.mem_cons_of_mem _ (List.mem_append_right _ h_)
  have hl := lv_entry ([.ref h0, .ref g1]) (n := 2) (Nat.le_of_ble_eq_true rfl)
  rw [lg_entry_eq]
  generalize (lg_sl ([.ref h0, .ref g1]) ++ List.replicate (2 - (lg_sl ([.ref h0, .ref g1])).length) Slot.unset).toArray = ls at hl ⊢
  have hl : lv_has ls 2 [(0, .ref h0), (1, .ref g1)] := hl
  refine lv_aload_n hx hb dX6_init_0 rfl (lv_at hl 0 rfl) ?_
  refine W.objInit hx hb hown (hts _ (List.mem_of_getElem? (i := 1) rfl)) (hts _ (List.mem_of_getElem? (i := 2) rfl)) (hts _ (List.mem_of_getElem? (i := 3) rfl)) rfl (by rw [hml]; exact hl.1) rfl dX6_init_1 (Nat.le_of_ble_eq_true rfl) (Nat.le_of_ble_eq_true rfl) ?_
  refine W.eq (g2 := F0 m 4 ls []) rfl ?_
  refine lv_aload_n hx hb dX6_init_4 rfl (lv_at hl 0 rfl) ?_
  refine lv_sipush (v := (4096 : Int32)) hx hb dX6_init_5 (by decide) ?_
  refine di_newboolean hx hb (hts _ (List.mem_of_getElem? (i := 4) rfl)) hK hP hD hS hA (n := (4096 : Int32)) (N := 4096) (by decide) (by decide) (Nat.le_of_ble_eq_true rfl) (Nat.le_of_ble_eq_true rfl) (Nat.le_of_ble_eq_true rfl) dX6_init_8 (fun q1 H hP hD hS => ?_)
  have hP : va_P (db_G E) vwCl [(h0, .inr (6, [.null, .null])), (q1, .inl (db_cy E 3, 4096, .inl (fun _ => 0)))] H := hP
  have hD : va_D A [(h0, .inr (6, [.null, .null])), (q1, .inl (db_cy E 3, 4096, .inl (fun _ => 0)))] := hD
  refine W.widen (k := 1) (n := 4096) (Nat.le_of_ble_eq_true rfl) (Nat.le_of_ble_eq_true rfl) ?_
  refine va_putF (D := db_G E) (ci := 6) (v := .ref q1) (ty := tyX6 1) (C := RX6) (T := TX6) (N := 2) hx hb hts hiX6 tyX6 tyX6_ok nmX6 hown hK hP hD hS 0 rfl rfl 1 (by decide) (hts _ (List.mem_of_getElem? (i := 5) rfl)) (fun _ h9 => h9) rfl hin rfl (tyX6_ok 1 (by decide)) rfl rfl (Nat.le_of_ble_eq_true rfl) dX6_init_10 (fun H locs hP hD hS => ?_)
  have hP : va_P (db_G E) vwCl [(h0, .inr (6, [.null, .ref q1])), (q1, .inl (db_cy E 3, 4096, .inl (fun _ => 0)))] H := hP
  have hD : va_D A [(h0, .inr (6, [.null, .ref q1])), (q1, .inl (db_cy E 3, 4096, .inl (fun _ => 0)))] := hD
  refine lv_aload_n hx hb dX6_init_13 rfl (lv_at hl 0 rfl) ?_
  refine lv_aload_n hx hb dX6_init_14 rfl (lv_at hl 1 rfl) ?_
  refine va_putF (D := db_G E) (ci := 6) (v := .ref g1) (ty := tyX6 0) (C := RX6) (T := TX6) (N := 2) hx hb hts hiX6 tyX6 tyX6_ok nmX6 hown hK hP hD hS 0 rfl rfl 0 (by decide) (hts _ (List.mem_of_getElem? (i := 6) rfl)) (fun _ h9 => h9) rfl hin rfl (tyX6_ok 0 (by decide)) rfl rfl (Nat.le_of_ble_eq_true rfl) dX6_init_15 (fun H locs hP hD hS => ?_)
  have hP : va_P (db_G E) vwCl [(h0, .inr (6, [.ref g1, .ref q1])), (q1, .inl (db_cy E 3, 4096, .inl (fun _ => 0)))] H := hP
  have hD : va_D A [(h0, .inr (6, [.ref g1, .ref q1])), (q1, .inl (db_cy E 3, 4096, .inl (fun _ => 0)))] := hD
  subst hAe
  exact W.vret hx hb hr (fun t ht hW => ⟨⟨(), rfl, trivial, (fun k_ => ([q1] : List Nat).getD k_ 0), by rw [ht]; exact hP, hD⟩, hS.F ht⟩) hS.2.2 dX6_init_18
abbrev rs_X7 (E : db_E) (h0 : Nat) (g1 : Nat) (b : Nat → Nat) : va_W := [(h0, .inr (7, [.ref g1, .int 0, .int 0, .int 0, .int 0]))]
abbrev rmi_X7 : Room := { frames := 1, cells := 0, slots := 0, locals := 12 }
set_option maxHeartbeats 8000000 in
set_option maxRecDepth 100000 in
theorem ci_X7 (l : Launch) (E : db_E) (h0 : Nat) (g1 : Nat) (sz : Nat) : Met l yX7_init wsX7_init rmi_X7 (va_Pc [.ref h0, .ref g1] (fun U => U.heap.size = sz ∧ va_P (db_G E) vwCl [(h0, .inr (7, [.null, .int 0, .int 0, .int 0, .int 0]))] U.heap ∧ va_K (db_G E) vwCl (db_tys E) U ∧ va_D (fun _ => True) [(h0, .inr (7, [.null, .int 0, .int 0, .int 0, .int 0]))])) (va_Qv (fun _ : Unit => True) (fun _ t => ∃ b : Nat → Nat, va_P (db_G E) vwCl (rs_X7 E h0 g1 b) t.heap ∧ va_D (va_A [(h0, .inr (7, [.null, .int 0, .int 0, .int 0, .int 0]))] sz) (rs_X7 E h0 g1 b)) (va_A [(h0, .inr (7, [.null, .int 0, .int 0, .int 0, .int 0]))] sz)) 0 0 (va_A [(h0, .inr (7, [.null, .int 0, .int 0, .int 0, .int 0]))] sz) := by
  refine Met.ofW (cc := cX7_init) (maxL := 2) (ret := none) (by decide) rfl ?_
  intro p e s m args below meth c s₁ B hml hv
  obtain ⟨rfl, hsz, hP, hK, hD0⟩ := hv
  have hx := B.exec
  have hb := B.bytes
  have hr := B.returns
  have hts := atoms_spec (ws := wsX7_init) B.pre
  have hown : s.vm.findClass RX7 = some m.cls := findClass_of_methodNamed B.named
  have hlocks := B.notSynchronized
  have hin : meth.name = "<init>" := (name_of_methodNamed B.named B.method).1
  subst hsz
  have hD := hD0.self (sz := s.heap.size)
  generalize hAe : va_A [(h0, .inr (7, [.null, .int 0, .int 0, .int 0, .int 0]))] s.heap.size = A at hD ⊢
  have hA : ∀ q : Nat, s.heap.size ≤ q → A q := fun q h => by rw [← hAe]; exact Or.inr h
  have hS : va_S A s.heap s.heap [] := va_S.rf
  have hiX7 : ∀ w ∈ wsX70, w ∈ wsX7_init := fun w_ h_ => List.mem_cons_of_mem _ (List.mem_append_right _ h_)
  have hl := lv_entry ([.ref h0, .ref g1]) (n := 2) (Nat.le_of_ble_eq_true rfl)
  rw [lg_entry_eq]
  generalize (lg_sl ([.ref h0, .ref g1]) ++ List.replicate (2 - (lg_sl ([.ref h0, .ref g1])).length) Slot.unset).toArray = ls at hl ⊢
  have hl : lv_has ls 2 [(0, .ref h0), (1, .ref g1)] := hl
  refine lv_aload_n hx hb dX7_init_0 rfl (lv_at hl 0 rfl) ?_
  refine W.objInit hx hb hown (hts _ (List.mem_of_getElem? (i := 1) rfl)) (hts _ (List.mem_of_getElem? (i := 2) rfl)) (hts _ (List.mem_of_getElem? (i := 3) rfl)) rfl (by rw [hml]; exact hl.1) rfl dX7_init_1 (Nat.le_of_ble_eq_true rfl) (Nat.le_of_ble_eq_true rfl) ?_
  refine W.eq (g2 := F0 m 4 ls []) rfl ?_
  refine lv_aload_n hx hb dX7_init_4 rfl (lv_at hl 0 rfl) ?_
  refine lv_aload_n hx hb dX7_init_5 rfl (lv_at hl 1 rfl) ?_
  refine va_putF (D := db_G E) (ci := 7) (v := .ref g1) (ty := tyX7 0) (C := RX7) (T := TX7) (N := 5) hx hb hts hiX7 tyX7 tyX7_ok nmX7 hown hK hP hD hS 0 rfl rfl 0 (by decide) (hts _ (List.mem_of_getElem? (i := 4) rfl)) (fun _ h9 => h9) rfl hin rfl (tyX7_ok 0 (by decide)) rfl rfl (Nat.le_of_ble_eq_true rfl) dX7_init_6 (fun H locs hP hD hS => ?_)
  have hP : va_P (db_G E) vwCl [(h0, .inr (7, [.ref g1, .int 0, .int 0, .int 0, .int 0]))] H := hP
  have hD : va_D A [(h0, .inr (7, [.ref g1, .int 0, .int 0, .int 0, .int 0]))] := hD
  subst hAe
  exact W.vret hx hb hr (fun t ht hW => ⟨⟨(), rfl, trivial, (fun k_ => ([] : List Nat).getD k_ 0), by rw [ht]; exact hP, hD⟩, hS.F ht⟩) hS.2.2 dX7_init_9
abbrev rs_X9 (E : db_E) (h0 : Nat) (g1 : Nat) (b : Nat → Nat) : va_W := [(h0, .inr (9, [.ref g1, .ref (b 0), .ref (b 1)])), ((b 0), .inl (db_cy E 2, 384, .inr (.inl (fun _ => 0)))), ((b 1), .inl (db_cy E 2, 384, .inr (.inl (fun _ => 0))))]
abbrev rmi_X9 : Room := { frames := 1, cells := 2, slots := 768, locals := 12 }
set_option maxHeartbeats 8000000 in
set_option maxRecDepth 100000 in
theorem ci_X9 (l : Launch) (E : db_E) (h0 : Nat) (g1 : Nat) (sz : Nat) : Met l yX9_init wsX9_init rmi_X9 (va_Pc [.ref h0, .ref g1] (fun U => U.heap.size = sz ∧ va_P (db_G E) vwCl [(h0, .inr (9, [.null, .null, .null]))] U.heap ∧ va_K (db_G E) vwCl (db_tys E) U ∧ va_D (fun _ => True) [(h0, .inr (9, [.null, .null, .null]))])) (va_Qv (fun _ : Unit => True) (fun _ t => ∃ b : Nat → Nat, va_P (db_G E) vwCl (rs_X9 E h0 g1 b) t.heap ∧ va_D (va_A [(h0, .inr (9, [.null, .null, .null]))] sz) (rs_X9 E h0 g1 b)) (va_A [(h0, .inr (9, [.null, .null, .null]))] sz)) 2 768 (va_A [(h0, .inr (9, [.null, .null, .null]))] sz) := by
  refine Met.ofW (cc := cX9_init) (maxL := 2) (ret := none) (by decide) rfl ?_
  intro p e s m args below meth c s₁ B hml hv
  obtain ⟨rfl, hsz, hP, hK, hD0⟩ := hv
  have hx := B.exec
  have hb := B.bytes
  have hr := B.returns
  have hts := atoms_spec (ws := wsX9_init) B.pre
  have hown : s.vm.findClass RX9 = some m.cls := findClass_of_methodNamed B.named
  have hlocks := B.notSynchronized
  have hin : meth.name = "<init>" := (name_of_methodNamed B.named B.method).1
  subst hsz
  have hD := hD0.self (sz := s.heap.size)
  generalize hAe : va_A [(h0, .inr (9, [.null, .null, .null]))] s.heap.size = A at hD ⊢
  have hA : ∀ q : Nat, s.heap.size ≤ q → A q := fun q h => by rw [← hAe]; exact Or.inr h
  have hS : va_S A s.heap s.heap [] := va_S.rf
  have hiX9 : ∀ w ∈ wsX90, w ∈ wsX9_init := fun w_ h_ => List.mem_cons_of_mem _ (List.mem_append_right _ h_)
  have hl := lv_entry ([.ref h0, .ref g1]) (n := 2) (Nat.le_of_ble_eq_true rfl)
  rw [lg_entry_eq]
  generalize (lg_sl ([.ref h0, .ref g1]) ++ List.replicate (2 - (lg_sl ([.ref h0, .ref g1])).length) Slot.unset).toArray = ls at hl ⊢
  have hl : lv_has ls 2 [(0, .ref h0), (1, .ref g1)] := hl
  refine lv_aload_n hx hb dX9_init_0 rfl (lv_at hl 0 rfl) ?_
  refine W.objInit hx hb hown (hts _ (List.mem_of_getElem? (i := 1) rfl)) (hts _ (List.mem_of_getElem? (i := 2) rfl)) (hts _ (List.mem_of_getElem? (i := 3) rfl)) rfl (by rw [hml]; exact hl.1) rfl dX9_init_1 (Nat.le_of_ble_eq_true rfl) (Nat.le_of_ble_eq_true rfl) ?_
  refine W.eq (g2 := F0 m 4 ls []) rfl ?_
  refine lv_aload_n hx hb dX9_init_4 rfl (lv_at hl 0 rfl) ?_
  refine lv_sipush (v := (384 : Int32)) hx hb dX9_init_5 (by decide) ?_
  refine di_newlong hx hb (hts _ (List.mem_of_getElem? (i := 4) rfl)) hK hP hD hS hA (n := (384 : Int32)) (N := 384) (by decide) (by decide) (Nat.le_of_ble_eq_true rfl) (Nat.le_of_ble_eq_true rfl) (Nat.le_of_ble_eq_true rfl) dX9_init_8 (fun q1 H hP hD hS => ?_)
  have hP : va_P (db_G E) vwCl [(h0, .inr (9, [.null, .null, .null])), (q1, .inl (db_cy E 2, 384, .inr (.inl (fun _ => 0))))] H := hP
  have hD : va_D A [(h0, .inr (9, [.null, .null, .null])), (q1, .inl (db_cy E 2, 384, .inr (.inl (fun _ => 0))))] := hD
  refine W.widen (k := 1) (n := 384) (Nat.le_of_ble_eq_true rfl) (Nat.le_of_ble_eq_true rfl) ?_
  refine va_putF (D := db_G E) (ci := 9) (v := .ref q1) (ty := tyX9 1) (C := RX9) (T := TX9) (N := 3) hx hb hts hiX9 tyX9 tyX9_ok nmX9 hown hK hP hD hS 0 rfl rfl 1 (by decide) (hts _ (List.mem_of_getElem? (i := 5) rfl)) (fun _ h9 => h9) rfl hin rfl (tyX9_ok 1 (by decide)) rfl rfl (Nat.le_of_ble_eq_true rfl) dX9_init_10 (fun H locs hP hD hS => ?_)
  have hP : va_P (db_G E) vwCl [(h0, .inr (9, [.null, .ref q1, .null])), (q1, .inl (db_cy E 2, 384, .inr (.inl (fun _ => 0))))] H := hP
  have hD : va_D A [(h0, .inr (9, [.null, .ref q1, .null])), (q1, .inl (db_cy E 2, 384, .inr (.inl (fun _ => 0))))] := hD
  refine lv_aload_n hx hb dX9_init_13 rfl (lv_at hl 0 rfl) ?_
  refine lv_sipush (v := (384 : Int32)) hx hb dX9_init_14 (by decide) ?_
  refine di_newlong hx hb (hts _ (List.mem_of_getElem? (i := 4) rfl)) hK hP hD hS hA (n := (384 : Int32)) (N := 384) (by decide) (by decide) (Nat.le_of_ble_eq_true rfl) (Nat.le_of_ble_eq_true rfl) (Nat.le_of_ble_eq_true rfl) dX9_init_17 (fun q2 H hP hD hS => ?_)
  have hP : va_P (db_G E) vwCl [(h0, .inr (9, [.null, .ref q1, .null])), (q1, .inl (db_cy E 2, 384, .inr (.inl (fun _ => 0)))), (q2, .inl (db_cy E 2, 384, .inr (.inl (fun _ => 0))))] H := hP
  have hD : va_D A [(h0, .inr (9, [.null, .ref q1, .null])), (q1, .inl (db_cy E 2, 384, .inr (.inl (fun _ => 0)))), (q2, .inl (db_cy E 2, 384, .inr (.inl (fun _ => 0))))] := hD
  refine W.widen (k := 2) (n := 768) (Nat.le_of_ble_eq_true rfl) (Nat.le_of_ble_eq_true rfl) ?_
  refine va_putF (D := db_G E) (ci := 9) (v := .ref q2) (ty := tyX9 2) (C := RX9) (T := TX9) (N := 3) hx hb hts hiX9 tyX9 tyX9_ok nmX9 hown hK hP hD hS 0 rfl rfl 2 (by decide) (hts _ (List.mem_of_getElem? (i := 6) rfl)) (fun _ h9 => h9) rfl hin rfl (tyX9_ok 2 (by decide)) rfl rfl (Nat.le_of_ble_eq_true rfl) dX9_init_19 (fun H locs hP hD hS => ?_)
  have hP : va_P (db_G E) vwCl [(h0, .inr (9, [.null, .ref q1, .ref q2])), (q1, .inl (db_cy E 2, 384, .inr (.inl (fun _ => 0)))), (q2, .inl (db_cy E 2, 384, .inr (.inl (fun _ => 0))))] H := hP
  have hD : va_D A [(h0, .inr (9, [.null, .ref q1, .ref q2])), (q1, .inl (db_cy E 2, 384, .inr (.inl (fun _ => 0)))), (q2, .inl (db_cy E 2, 384, .inr (.inl (fun _ => 0))))] := hD
  refine lv_aload_n hx hb dX9_init_22 rfl (lv_at hl 0 rfl) ?_
  refine lv_aload_n hx hb dX9_init_23 rfl (lv_at hl 1 rfl) ?_
  refine va_putF (D := db_G E) (ci := 9) (v := .ref g1) (ty := tyX9 0) (C := RX9) (T := TX9) (N := 3) hx hb hts hiX9 tyX9 tyX9_ok nmX9 hown hK hP hD hS 0 rfl rfl 0 (by decide) (hts _ (List.mem_of_getElem? (i := 7) rfl)) (fun _ h9 => h9) rfl hin rfl (tyX9_ok 0 (by decide)) rfl rfl (Nat.le_of_ble_eq_true rfl) dX9_init_24 (fun H locs hP hD hS => ?_)
  have hP : va_P (db_G E) vwCl [(h0, .inr (9, [.ref g1, .ref q1, .ref q2])), (q1, .inl (db_cy E 2, 384, .inr (.inl (fun _ => 0)))), (q2, .inl (db_cy E 2, 384, .inr (.inl (fun _ => 0))))] H := hP
  have hD : va_D A [(h0, .inr (9, [.ref g1, .ref q1, .ref q2])), (q1, .inl (db_cy E 2, 384, .inr (.inl (fun _ => 0)))), (q2, .inl (db_cy E 2, 384, .inr (.inl (fun _ => 0))))] := hD
  subst hAe
  exact W.vret hx hb hr (fun t ht hW => ⟨⟨(), rfl, trivial, (fun k_ => ([q1, q2] : List Nat).getD k_ 0), by rw [ht]; exact hP, hD⟩, hS.F ht⟩) hS.2.2 dX9_init_27
abbrev rs_X8 (E : db_E) (h0 : Nat)  (b : Nat → Nat) : va_W := [(h0, .inr (8, [.ref (b 0), .ref (b 1), .ref (b 2), .ref (b 3), .int 0])), ((b 0), .inl (db_cy E 4, 6, .inr (.inr (.inr (.inr (va_up (va_up (va_up (va_up (va_up (va_up (fun _ => none) (0 : Int32).toNatClampNeg (some (b 4))) (1 : Int32).toNatClampNeg (some (b 8))) (2 : Int32).toNatClampNeg (some (b 12))) (3 : Int32).toNatClampNeg (some (b 16))) (4 : Int32).toNatClampNeg (some (b 20))) (5 : Int32).toNatClampNeg (some (b 24)))))))), ((b 1), .inl (db_cy E 0, 12, .inl (fun _ => 0))), ((b 2), .inl (db_cy E 0, 12, .inl (fun _ => 0))), ((b 3), .inl (db_cy E 0, 12, .inl (fun _ => 0))), ((b 4), .inr (0, [.ref (b 5), .ref (b 6), .ref (b 7), .int 0, .int (-1 : Int32), .int 0])), ((b 5), .inl (db_cy E 0, 10, .inl (fun _ => 0))), ((b 6), .inl (db_cy E 0, 10, .inl (fun _ => 0))), ((b 7), .inl (db_cy E 0, 10, .inl (fun _ => 0))), ((b 8), .inr (0, [.ref (b 9), .ref (b 10), .ref (b 11), .int 0, .int (-1 : Int32), .int 0])), ((b 9), .inl (db_cy E 0, 10, .inl (fun _ => 0))), ((b 10), .inl (db_cy E 0, 10, .inl (fun _ => 0))), ((b 11), .inl (db_cy E 0, 10, .inl (fun _ => 0))), ((b 12), .inr (0, [.ref (b 13), .ref (b 14), .ref (b 15), .int 0, .int (-1 : Int32), .int 0])), ((b 13), .inl (db_cy E 0, 10, .inl (fun _ => 0))), ((b 14), .inl (db_cy E 0, 10, .inl (fun _ => 0))), ((b 15), .inl (db_cy E 0, 10, .inl (fun _ => 0))), ((b 16), .inr (0, [.ref (b 17), .ref (b 18), .ref (b 19), .int 0, .int (-1 : Int32), .int 0])), ((b 17), .inl (db_cy E 0, 10, .inl (fun _ => 0))), ((b 18), .inl (db_cy E 0, 10, .inl (fun _ => 0))), ((b 19), .inl (db_cy E 0, 10, .inl (fun _ => 0))), ((b 20), .inr (0, [.ref (b 21), .ref (b 22), .ref (b 23), .int 0, .int (-1 : Int32), .int 0])), ((b 21), .inl (db_cy E 0, 10, .inl (fun _ => 0))), ((b 22), .inl (db_cy E 0, 10, .inl (fun _ => 0))), ((b 23), .inl (db_cy E 0, 10, .inl (fun _ => 0))), ((b 24), .inr (0, [.ref (b 25), .ref (b 26), .ref (b 27), .int 0, .int (-1 : Int32), .int 0])), ((b 25), .inl (db_cy E 0, 10, .inl (fun _ => 0))), ((b 26), .inl (db_cy E 0, 10, .inl (fun _ => 0))), ((b 27), .inl (db_cy E 0, 10, .inl (fun _ => 0)))]
abbrev rmi_X8 : Room := { frames := 2, cells := 28, slots := 258, locals := 32 }
set_option maxHeartbeats 8000000 in
set_option maxRecDepth 100000 in
theorem ci_X8 (l : Launch) (E : db_E) (h0 : Nat)  (sz : Nat) : Met l yX8_init wsX8_init rmi_X8 (va_Pc [.ref h0] (fun U => U.heap.size = sz ∧ va_P (db_G E) vwCl [(h0, .inr (8, [.null, .null, .null, .null, .int 0]))] U.heap ∧ va_K (db_G E) vwCl (db_tys E) U ∧ va_D (fun _ => True) [(h0, .inr (8, [.null, .null, .null, .null, .int 0]))] ∧ db_nI U)) (va_Qv (fun _ : Unit => True) (fun _ t => ∃ b : Nat → Nat, va_P (db_G E) vwCl (rs_X8 E h0  b) t.heap ∧ va_D (va_A [(h0, .inr (8, [.null, .null, .null, .null, .int 0]))] sz) (rs_X8 E h0  b)) (va_A [(h0, .inr (8, [.null, .null, .null, .null, .int 0]))] sz)) 28 258 (va_A [(h0, .inr (8, [.null, .null, .null, .null, .int 0]))] sz) := by
  refine Met.ofW (cc := cX8_init) (maxL := 2) (ret := none) (by decide) rfl ?_
  intro p e s m args below meth c s₁ B hml hv
  obtain ⟨rfl, hsz, hP, hK, hD0, hN⟩ := hv
  have hx := B.exec
  have hb := B.bytes
  have hr := B.returns
  have hts := atoms_spec (ws := wsX8_init) B.pre
  have hown : s.vm.findClass RX8 = some m.cls := findClass_of_methodNamed B.named
  have hlocks := B.notSynchronized
  have hin : meth.name = "<init>" := (name_of_methodNamed B.named B.method).1
  subst hsz
  have hD := hD0.self (sz := s.heap.size)
  generalize hAe : va_A [(h0, .inr (8, [.null, .null, .null, .null, .int 0]))] s.heap.size = A at hD ⊢
  have hA : ∀ q : Nat, s.heap.size ≤ q → A q := fun q h => by rw [← hAe]; exact Or.inr h
  have hS : va_S A s.heap s.heap [] := va_S.rf
  have hiX8 : ∀ w ∈ wsX80, w ∈ wsX8_init := fun w_ h_ => List.mem_cons_of_mem _ (List.mem_append_left _ (List.mem_append_right _ h_))
  have hiX0 : ∀ w ∈ wsX00, w ∈ wsX8_init := fun w_ h_ => List.mem_cons_of_mem _ (List.mem_append_right _ h_)
  have hl := lv_entry ([.ref h0]) (n := 2) (Nat.le_of_ble_eq_true rfl)
  rw [lg_entry_eq]
  generalize (lg_sl ([.ref h0]) ++ List.replicate (2 - (lg_sl ([.ref h0])).length) Slot.unset).toArray = ls at hl ⊢
  have hl : lv_has ls 2 [(0, .ref h0)] := hl
  refine lv_aload_n hx hb dX8_init_0 rfl (lv_at hl 0 rfl) ?_
  refine W.objInit hx hb hown (hts _ (List.mem_of_getElem? (i := 1) rfl)) (hts _ (List.mem_of_getElem? (i := 2) rfl)) (hts _ (List.mem_of_getElem? (i := 3) rfl)) rfl (by rw [hml]; exact hl.1) rfl dX8_init_1 (Nat.le_of_ble_eq_true rfl) (Nat.le_of_ble_eq_true rfl) ?_
  refine W.eq (g2 := F0 m 4 ls []) rfl ?_
  refine lv_aload_n hx hb dX8_init_4 rfl (lv_at hl 0 rfl) ?_
  refine lv_bipush (v := (6 : Int32)) hx hb dX8_init_5 (by decide) ?_
  refine di_newq hx hb hown (hts _ (List.mem_of_getElem? (i := 4) rfl)) hN.ao hK hP hD hS hA (n := (6 : Int32)) (N := 6) (by decide) (by decide) (Nat.le_of_ble_eq_true rfl) (Nat.le_of_ble_eq_true rfl) (Nat.le_of_ble_eq_true rfl) dX8_init_7 (fun q1 H hP hD hS => ?_)
  have hP : va_P (db_G E) vwCl [(h0, .inr (8, [.null, .null, .null, .null, .int 0])), (q1, .inl (db_cy E 4, 6, .inr (.inr (.inr (.inr (fun _ => none))))))] H := hP
  have hD : va_D A [(h0, .inr (8, [.null, .null, .null, .null, .int 0])), (q1, .inl (db_cy E 4, 6, .inr (.inr (.inr (.inr (fun _ => none))))))] := hD
  refine W.widen (k := 1) (n := 6) (Nat.le_of_ble_eq_true rfl) (Nat.le_of_ble_eq_true rfl) ?_
  refine va_putF (D := db_G E) (ci := 8) (v := .ref q1) (ty := tyX8 0) (C := RX8) (T := TX8) (N := 5) hx hb hts hiX8 tyX8 tyX8_ok nmX8 hown hK hP hD hS 0 rfl rfl 0 (by decide) (hts _ (List.mem_of_getElem? (i := 5) rfl)) (fun _ h9 => h9) rfl hin rfl (tyX8_ok 0 (by decide)) rfl rfl (Nat.le_of_ble_eq_true rfl) dX8_init_10 (fun H locs hP hD hS => ?_)
  have hP : va_P (db_G E) vwCl [(h0, .inr (8, [.ref q1, .null, .null, .null, .int 0])), (q1, .inl (db_cy E 4, 6, .inr (.inr (.inr (.inr (fun _ => none))))))] H := hP
  have hD : va_D A [(h0, .inr (8, [.ref q1, .null, .null, .null, .int 0])), (q1, .inl (db_cy E 4, 6, .inr (.inr (.inr (.inr (fun _ => none))))))] := hD
  refine lv_aload_n hx hb dX8_init_13 rfl (lv_at hl 0 rfl) ?_
  refine lv_bipush (v := (12 : Int32)) hx hb dX8_init_14 (by decide) ?_
  refine di_newint hx hb (hts _ (List.mem_of_getElem? (i := 6) rfl)) hK hP hD hS hA (n := (12 : Int32)) (N := 12) (by decide) (by decide) (Nat.le_of_ble_eq_true rfl) (Nat.le_of_ble_eq_true rfl) (Nat.le_of_ble_eq_true rfl) dX8_init_16 (fun q2 H hP hD hS => ?_)
  have hP : va_P (db_G E) vwCl [(h0, .inr (8, [.ref q1, .null, .null, .null, .int 0])), (q1, .inl (db_cy E 4, 6, .inr (.inr (.inr (.inr (fun _ => none)))))), (q2, .inl (db_cy E 0, 12, .inl (fun _ => 0)))] H := hP
  have hD : va_D A [(h0, .inr (8, [.ref q1, .null, .null, .null, .int 0])), (q1, .inl (db_cy E 4, 6, .inr (.inr (.inr (.inr (fun _ => none)))))), (q2, .inl (db_cy E 0, 12, .inl (fun _ => 0)))] := hD
  refine W.widen (k := 2) (n := 18) (Nat.le_of_ble_eq_true rfl) (Nat.le_of_ble_eq_true rfl) ?_
  refine va_putF (D := db_G E) (ci := 8) (v := .ref q2) (ty := tyX8 1) (C := RX8) (T := TX8) (N := 5) hx hb hts hiX8 tyX8 tyX8_ok nmX8 hown hK hP hD hS 0 rfl rfl 1 (by decide) (hts _ (List.mem_of_getElem? (i := 7) rfl)) (fun _ h9 => h9) rfl hin rfl (tyX8_ok 1 (by decide)) rfl rfl (Nat.le_of_ble_eq_true rfl) dX8_init_18 (fun H locs hP hD hS => ?_)
  have hP : va_P (db_G E) vwCl [(h0, .inr (8, [.ref q1, .ref q2, .null, .null, .int 0])), (q1, .inl (db_cy E 4, 6, .inr (.inr (.inr (.inr (fun _ => none)))))), (q2, .inl (db_cy E 0, 12, .inl (fun _ => 0)))] H := hP
  have hD : va_D A [(h0, .inr (8, [.ref q1, .ref q2, .null, .null, .int 0])), (q1, .inl (db_cy E 4, 6, .inr (.inr (.inr (.inr (fun _ => none)))))), (q2, .inl (db_cy E 0, 12, .inl (fun _ => 0)))] := hD
  refine lv_aload_n hx hb dX8_init_21 rfl (lv_at hl 0 rfl) ?_
  refine lv_bipush (v := (12 : Int32)) hx hb dX8_init_22 (by decide) ?_
  refine di_newint hx hb (hts _ (List.mem_of_getElem? (i := 6) rfl)) hK hP hD hS hA (n := (12 : Int32)) (N := 12) (by decide) (by decide) (Nat.le_of_ble_eq_true rfl) (Nat.le_of_ble_eq_true rfl) (Nat.le_of_ble_eq_true rfl) dX8_init_24 (fun q3 H hP hD hS => ?_)
  have hP : va_P (db_G E) vwCl [(h0, .inr (8, [.ref q1, .ref q2, .null, .null, .int 0])), (q1, .inl (db_cy E 4, 6, .inr (.inr (.inr (.inr (fun _ => none)))))), (q2, .inl (db_cy E 0, 12, .inl (fun _ => 0))), (q3, .inl (db_cy E 0, 12, .inl (fun _ => 0)))] H := hP
  have hD : va_D A [(h0, .inr (8, [.ref q1, .ref q2, .null, .null, .int 0])), (q1, .inl (db_cy E 4, 6, .inr (.inr (.inr (.inr (fun _ => none)))))), (q2, .inl (db_cy E 0, 12, .inl (fun _ => 0))), (q3, .inl (db_cy E 0, 12, .inl (fun _ => 0)))] := hD
  refine W.widen (k := 3) (n := 30) (Nat.le_of_ble_eq_true rfl) (Nat.le_of_ble_eq_true rfl) ?_
  refine va_putF (D := db_G E) (ci := 8) (v := .ref q3) (ty := tyX8 2) (C := RX8) (T := TX8) (N := 5) hx hb hts hiX8 tyX8 tyX8_ok nmX8 hown hK hP hD hS 0 rfl rfl 2 (by decide) (hts _ (List.mem_of_getElem? (i := 8) rfl)) (fun _ h9 => h9) rfl hin rfl (tyX8_ok 2 (by decide)) rfl rfl (Nat.le_of_ble_eq_true rfl) dX8_init_26 (fun H locs hP hD hS => ?_)
  have hP : va_P (db_G E) vwCl [(h0, .inr (8, [.ref q1, .ref q2, .ref q3, .null, .int 0])), (q1, .inl (db_cy E 4, 6, .inr (.inr (.inr (.inr (fun _ => none)))))), (q2, .inl (db_cy E 0, 12, .inl (fun _ => 0))), (q3, .inl (db_cy E 0, 12, .inl (fun _ => 0)))] H := hP
  have hD : va_D A [(h0, .inr (8, [.ref q1, .ref q2, .ref q3, .null, .int 0])), (q1, .inl (db_cy E 4, 6, .inr (.inr (.inr (.inr (fun _ => none)))))), (q2, .inl (db_cy E 0, 12, .inl (fun _ => 0))), (q3, .inl (db_cy E 0, 12, .inl (fun _ => 0)))] := hD
  refine lv_aload_n hx hb dX8_init_29 rfl (lv_at hl 0 rfl) ?_
  refine lv_bipush (v := (12 : Int32)) hx hb dX8_init_30 (by decide) ?_
  refine di_newint hx hb (hts _ (List.mem_of_getElem? (i := 6) rfl)) hK hP hD hS hA (n := (12 : Int32)) (N := 12) (by decide) (by decide) (Nat.le_of_ble_eq_true rfl) (Nat.le_of_ble_eq_true rfl) (Nat.le_of_ble_eq_true rfl) dX8_init_32 (fun q4 H hP hD hS => ?_)
  have hP : va_P (db_G E) vwCl [(h0, .inr (8, [.ref q1, .ref q2, .ref q3, .null, .int 0])), (q1, .inl (db_cy E 4, 6, .inr (.inr (.inr (.inr (fun _ => none)))))), (q2, .inl (db_cy E 0, 12, .inl (fun _ => 0))), (q3, .inl (db_cy E 0, 12, .inl (fun _ => 0))), (q4, .inl (db_cy E 0, 12, .inl (fun _ => 0)))] H := hP
  have hD : va_D A [(h0, .inr (8, [.ref q1, .ref q2, .ref q3, .null, .int 0])), (q1, .inl (db_cy E 4, 6, .inr (.inr (.inr (.inr (fun _ => none)))))), (q2, .inl (db_cy E 0, 12, .inl (fun _ => 0))), (q3, .inl (db_cy E 0, 12, .inl (fun _ => 0))), (q4, .inl (db_cy E 0, 12, .inl (fun _ => 0)))] := hD
  refine W.widen (k := 4) (n := 42) (Nat.le_of_ble_eq_true rfl) (Nat.le_of_ble_eq_true rfl) ?_
  refine va_putF (D := db_G E) (ci := 8) (v := .ref q4) (ty := tyX8 3) (C := RX8) (T := TX8) (N := 5) hx hb hts hiX8 tyX8 tyX8_ok nmX8 hown hK hP hD hS 0 rfl rfl 3 (by decide) (hts _ (List.mem_of_getElem? (i := 9) rfl)) (fun _ h9 => h9) rfl hin rfl (tyX8_ok 3 (by decide)) rfl rfl (Nat.le_of_ble_eq_true rfl) dX8_init_34 (fun H locs hP hD hS => ?_)
  have hP : va_P (db_G E) vwCl [(h0, .inr (8, [.ref q1, .ref q2, .ref q3, .ref q4, .int 0])), (q1, .inl (db_cy E 4, 6, .inr (.inr (.inr (.inr (fun _ => none)))))), (q2, .inl (db_cy E 0, 12, .inl (fun _ => 0))), (q3, .inl (db_cy E 0, 12, .inl (fun _ => 0))), (q4, .inl (db_cy E 0, 12, .inl (fun _ => 0)))] H := hP
  have hD : va_D A [(h0, .inr (8, [.ref q1, .ref q2, .ref q3, .ref q4, .int 0])), (q1, .inl (db_cy E 4, 6, .inr (.inr (.inr (.inr (fun _ => none)))))), (q2, .inl (db_cy E 0, 12, .inl (fun _ => 0))), (q3, .inl (db_cy E 0, 12, .inl (fun _ => 0))), (q4, .inl (db_cy E 0, 12, .inl (fun _ => 0)))] := hD
  refine lv_iconst (v := (0 : Int32)) hx hb dX8_init_37 (by decide) ?_
  refine lv_istore_n (lv' := [(1, .int (0 : Int32)), (0, .ref h0)]) hx hb dX8_init_38 rfl hl (by decide) rfl (fun ls hl => ?_)
  refine lv_iload_n hx hb dX8_init_39 rfl (lv_at hl 0 rfl) ?_
  refine lv_bipush (v := (6 : Int32)) hx hb dX8_init_40 (by decide) ?_
  refine lv_icmp_ge (tgt := 64) hx hb dX8_init_42 (by decide) (fun c_ => absurd c_ (by decide)) (fun _ => ?_)
  refine lv_aload_n hx hb dX8_init_45 rfl (lv_at hl 1 rfl) ?_
  refine va_get (D := db_G E) (ci := 8) (v := .ref q1) (C := RX8) (T := TX8) (N := 5) hx hb hts hiX8 hown hK hP 0 rfl rfl 0 (by decide) (hts _ (List.mem_of_getElem? (i := 5) rfl)) (fun _ h9 => h9) rfl dX8_init_46 ?_
  refine lv_iload_n hx hb dX8_init_49 rfl (lv_at hl 0 rfl) ?_
  refine va_new (ci := 0) (fs := [.null, .null, .null, .int 0, .int 0, .int 0]) (C := RX0) (T := TX0) (N := 6) hx hb hts hiX0 tyX0 tyX0_ok hown (hts _ (List.mem_of_getElem? (i := 4) rfl)) (hts _ (List.mem_of_getElem? (i := 10) rfl)) (hts _ (List.mem_of_getElem? (i := 11) rfl)) hK hP hD hS hA rfl (fun j hj => by rcases (show j = 0 ∨ j = 1 ∨ j = 2 ∨ j = 3 ∨ j = 4 ∨ j = 5 by omega) with rfl | rfl | rfl | rfl | rfl | rfl <;> rfl) (Nat.le_of_ble_eq_true rfl) (Nat.le_of_ble_eq_true rfl) dX8_init_50 (fun q5 H hP hD hS => ?_)
  have hP : va_P (db_G E) vwCl [(h0, .inr (8, [.ref q1, .ref q2, .ref q3, .ref q4, .int 0])), (q1, .inl (db_cy E 4, 6, .inr (.inr (.inr (.inr (fun _ => none)))))), (q2, .inl (db_cy E 0, 12, .inl (fun _ => 0))), (q3, .inl (db_cy E 0, 12, .inl (fun _ => 0))), (q4, .inl (db_cy E 0, 12, .inl (fun _ => 0))), (q5, .inr (0, [.null, .null, .null, .int 0, .int 0, .int 0]))] H := hP
  have hD : va_D A [(h0, .inr (8, [.ref q1, .ref q2, .ref q3, .ref q4, .int 0])), (q1, .inl (db_cy E 4, 6, .inr (.inr (.inr (.inr (fun _ => none)))))), (q2, .inl (db_cy E 0, 12, .inl (fun _ => 0))), (q3, .inl (db_cy E 0, 12, .inl (fun _ => 0))), (q4, .inl (db_cy E 0, 12, .inl (fun _ => 0))), (q5, .inr (0, [.null, .null, .null, .int 0, .int 0, .int 0]))] := hD
  refine W.widen (k := 5) (n := 48) (Nat.le_of_ble_eq_true rfl) (Nat.le_of_ble_eq_true rfl) ?_
  refine lv_dup hx hb dX8_init_53 rfl ?_
  have hPc := hP.sub (ws' := [(q5, .inr (0, [.null, .null, .null, .int 0, .int 0, .int 0]))]) [5] rfl
  have hDc := hD.sub (ws' := [(q5, .inr (0, [.null, .null, .null, .int 0, .int 0, .int 0]))]) [5] (by decide) rfl
  have hFc := va_free (wc := [(q5, .inr (0, [.null, .null, .null, .int 0, .int 0, .int 0]))]) hD hS hA [5] rfl
  refine va_callv (va_runIN (As := []) (rest := [.ref q5, .int (0 : Int32), .ref q1]) ⟨hx, hb, hml, hown, hts⟩ (ci_X0 l E q5  H.size) ⟨va_cnB 0 hts gX8_init_X0_init_n27 rfl rfl rfl (hN.1 ("DaysOnBread$Shelf", 27, ⟨"DaysOnBread$Book", "<init>", "()V"⟩, "DaysOnBread") (List.mem_of_getElem? (i := 0) rfl)) (hts (.initialized RX0) (List.mem_of_getElem? (i := 11) rfl)) (by decide +kernel) ⟨Nat.le_of_ble_eq_true rfl, Nat.le_of_ble_eq_true rfl⟩, rfl, (hts _ (List.mem_of_getElem? (i := 12) rfl))⟩ ⟨fun a U g mk q => by obtain ⟨q0, q1, qP, qK, qD⟩ := q; exact ⟨q0, q1, qP, va_K.moved (u := U) (U := U.calling g mk a) (Vm.Alike.refl U.vm) qK, qD⟩, fun U hU hW => ⟨rfl, by rw [hU], by rw [hU]; exact hPc, va_K.moved hW.alike hK, hDc.weaken (fun _ _ _ _ => trivial)⟩⟩ rfl rfl hl.1 rfl (lv_room (Nat.le_of_ble_eq_true rfl)) dX8_init_54 ⟨Nat.le_of_ble_eq_true rfl, Nat.le_of_ble_eq_true rfl⟩) hS (fun q _ h => hFc q h) hFc (fun u t H1 locs ht hvm hw hB hz1 hk1 hS => ?_)
  obtain ⟨b6, hP1, hD1⟩ := hB
  rw [ht] at hP1
  obtain ⟨hP, hD⟩ := va_join (wr := [(h0, .inr (8, [.ref q1, .ref q2, .ref q3, .ref q4, .int 0])), (q1, .inl (db_cy E 4, 6, .inr (.inr (.inr (.inr (fun _ => none)))))), (q2, .inl (db_cy E 0, 12, .inl (fun _ => 0))), (q3, .inl (db_cy E 0, 12, .inl (fun _ => 0))), (q4, .inl (db_cy E 0, 12, .inl (fun _ => 0)))]) (w1 := [(q5, .inr (0, [.ref (b6 0), .ref (b6 1), .ref (b6 2), .int 0, .int (-1 : Int32), .int 0])), ((b6 0), .inl (db_cy E 0, 10, .inl (fun _ => 0))), ((b6 1), .inl (db_cy E 0, 10, .inl (fun _ => 0))), ((b6 2), .inl (db_cy E 0, 10, .inl (fun _ => 0)))]) hP hD [5] [0, 1, 2, 3, 4] rfl rfl (by decide) (by decide) hk1 hFc hP1 hD1
  generalize H1 = H at hP hS ⊢
  obtain ⟨q7, eq7⟩ : ∃ z_, z_ = b6 0 := ⟨_, rfl⟩
  obtain ⟨q8, eq8⟩ : ∃ z_, z_ = b6 1 := ⟨_, rfl⟩
  obtain ⟨q9, eq9⟩ : ∃ z_, z_ = b6 2 := ⟨_, rfl⟩
  simp only [← eq7, ← eq8, ← eq9] at hP hD
  have hP : va_P (db_G E) vwCl [(h0, .inr (8, [.ref q1, .ref q2, .ref q3, .ref q4, .int 0])), (q1, .inl (db_cy E 4, 6, .inr (.inr (.inr (.inr (fun _ => none)))))), (q2, .inl (db_cy E 0, 12, .inl (fun _ => 0))), (q3, .inl (db_cy E 0, 12, .inl (fun _ => 0))), (q4, .inl (db_cy E 0, 12, .inl (fun _ => 0))), (q5, .inr (0, [.ref q7, .ref q8, .ref q9, .int 0, .int (-1 : Int32), .int 0])), (q7, .inl (db_cy E 0, 10, .inl (fun _ => 0))), (q8, .inl (db_cy E 0, 10, .inl (fun _ => 0))), (q9, .inl (db_cy E 0, 10, .inl (fun _ => 0)))] H := hP
  have hD : va_D A [(h0, .inr (8, [.ref q1, .ref q2, .ref q3, .ref q4, .int 0])), (q1, .inl (db_cy E 4, 6, .inr (.inr (.inr (.inr (fun _ => none)))))), (q2, .inl (db_cy E 0, 12, .inl (fun _ => 0))), (q3, .inl (db_cy E 0, 12, .inl (fun _ => 0))), (q4, .inl (db_cy E 0, 12, .inl (fun _ => 0))), (q5, .inr (0, [.ref q7, .ref q8, .ref q9, .int 0, .int (-1 : Int32), .int 0])), (q7, .inl (db_cy E 0, 10, .inl (fun _ => 0))), (q8, .inl (db_cy E 0, 10, .inl (fun _ => 0))), (q9, .inl (db_cy E 0, 10, .inl (fun _ => 0)))] := hD
  refine W.widen (k := 8) (n := 78) (Nat.le_of_ble_eq_true rfl) (Nat.le_of_ble_eq_true rfl) ?_
  refine va_astq (D := db_G E) hx hb hK hP hD hS 1 4 5 0 (r := (RX0, TX0, 6)) rfl rfl rfl rfl (i := (0 : Int32)) (show ¬ ((0 : Int32) < 0 ∨ 6 ≤ (0 : Int32).toNatClampNeg) by decide) dX8_init_57 (fun H locs hP hD hS => ?_)
  have hP : va_P (db_G E) vwCl [(h0, .inr (8, [.ref q1, .ref q2, .ref q3, .ref q4, .int 0])), (q1, .inl (db_cy E 4, 6, .inr (.inr (.inr (.inr (va_up (fun _ => none) (0 : Int32).toNatClampNeg (some q5))))))), (q2, .inl (db_cy E 0, 12, .inl (fun _ => 0))), (q3, .inl (db_cy E 0, 12, .inl (fun _ => 0))), (q4, .inl (db_cy E 0, 12, .inl (fun _ => 0))), (q5, .inr (0, [.ref q7, .ref q8, .ref q9, .int 0, .int (-1 : Int32), .int 0])), (q7, .inl (db_cy E 0, 10, .inl (fun _ => 0))), (q8, .inl (db_cy E 0, 10, .inl (fun _ => 0))), (q9, .inl (db_cy E 0, 10, .inl (fun _ => 0)))] H := hP
  have hD : va_D A [(h0, .inr (8, [.ref q1, .ref q2, .ref q3, .ref q4, .int 0])), (q1, .inl (db_cy E 4, 6, .inr (.inr (.inr (.inr (va_up (fun _ => none) (0 : Int32).toNatClampNeg (some q5))))))), (q2, .inl (db_cy E 0, 12, .inl (fun _ => 0))), (q3, .inl (db_cy E 0, 12, .inl (fun _ => 0))), (q4, .inl (db_cy E 0, 12, .inl (fun _ => 0))), (q5, .inr (0, [.ref q7, .ref q8, .ref q9, .int 0, .int (-1 : Int32), .int 0])), (q7, .inl (db_cy E 0, 10, .inl (fun _ => 0))), (q8, .inl (db_cy E 0, 10, .inl (fun _ => 0))), (q9, .inl (db_cy E 0, 10, .inl (fun _ => 0)))] := hD
  refine lv_iinc (v := (1 : Int32)) (lv' := [(1, .int (1 : Int32)), (0, .ref h0)]) hx hb dX8_init_58 hl (k := 0) rfl (by decide) (by decide) rfl (fun ls hl => ?_)
  refine lv_goto (tgt := 39) hx hb dX8_init_61 (by decide) ?_
  refine lv_iload_n hx hb dX8_init_39 rfl (lv_at hl 0 rfl) ?_
  refine lv_bipush (v := (6 : Int32)) hx hb dX8_init_40 (by decide) ?_
  refine lv_icmp_ge (tgt := 64) hx hb dX8_init_42 (by decide) (fun c_ => absurd c_ (by decide)) (fun _ => ?_)
  refine lv_aload_n hx hb dX8_init_45 rfl (lv_at hl 1 rfl) ?_
  refine va_get (D := db_G E) (ci := 8) (v := .ref q1) (C := RX8) (T := TX8) (N := 5) hx hb hts hiX8 hown hK hP 0 rfl rfl 0 (by decide) (hts _ (List.mem_of_getElem? (i := 5) rfl)) (fun _ h9 => h9) rfl dX8_init_46 ?_
  refine lv_iload_n hx hb dX8_init_49 rfl (lv_at hl 0 rfl) ?_
  refine va_new (ci := 0) (fs := [.null, .null, .null, .int 0, .int 0, .int 0]) (C := RX0) (T := TX0) (N := 6) hx hb hts hiX0 tyX0 tyX0_ok hown (hts _ (List.mem_of_getElem? (i := 4) rfl)) (hts _ (List.mem_of_getElem? (i := 10) rfl)) (hts _ (List.mem_of_getElem? (i := 11) rfl)) hK hP hD hS hA rfl (fun j hj => by rcases (show j = 0 ∨ j = 1 ∨ j = 2 ∨ j = 3 ∨ j = 4 ∨ j = 5 by omega) with rfl | rfl | rfl | rfl | rfl | rfl <;> rfl) (Nat.le_of_ble_eq_true rfl) (Nat.le_of_ble_eq_true rfl) dX8_init_50 (fun q10 H hP hD hS => ?_)
  have hP : va_P (db_G E) vwCl [(h0, .inr (8, [.ref q1, .ref q2, .ref q3, .ref q4, .int 0])), (q1, .inl (db_cy E 4, 6, .inr (.inr (.inr (.inr (va_up (fun _ => none) (0 : Int32).toNatClampNeg (some q5))))))), (q2, .inl (db_cy E 0, 12, .inl (fun _ => 0))), (q3, .inl (db_cy E 0, 12, .inl (fun _ => 0))), (q4, .inl (db_cy E 0, 12, .inl (fun _ => 0))), (q5, .inr (0, [.ref q7, .ref q8, .ref q9, .int 0, .int (-1 : Int32), .int 0])), (q7, .inl (db_cy E 0, 10, .inl (fun _ => 0))), (q8, .inl (db_cy E 0, 10, .inl (fun _ => 0))), (q9, .inl (db_cy E 0, 10, .inl (fun _ => 0))), (q10, .inr (0, [.null, .null, .null, .int 0, .int 0, .int 0]))] H := hP
  have hD : va_D A [(h0, .inr (8, [.ref q1, .ref q2, .ref q3, .ref q4, .int 0])), (q1, .inl (db_cy E 4, 6, .inr (.inr (.inr (.inr (va_up (fun _ => none) (0 : Int32).toNatClampNeg (some q5))))))), (q2, .inl (db_cy E 0, 12, .inl (fun _ => 0))), (q3, .inl (db_cy E 0, 12, .inl (fun _ => 0))), (q4, .inl (db_cy E 0, 12, .inl (fun _ => 0))), (q5, .inr (0, [.ref q7, .ref q8, .ref q9, .int 0, .int (-1 : Int32), .int 0])), (q7, .inl (db_cy E 0, 10, .inl (fun _ => 0))), (q8, .inl (db_cy E 0, 10, .inl (fun _ => 0))), (q9, .inl (db_cy E 0, 10, .inl (fun _ => 0))), (q10, .inr (0, [.null, .null, .null, .int 0, .int 0, .int 0]))] := hD
  refine W.widen (k := 9) (n := 84) (Nat.le_of_ble_eq_true rfl) (Nat.le_of_ble_eq_true rfl) ?_
  refine lv_dup hx hb dX8_init_53 rfl ?_
  have hPc := hP.sub (ws' := [(q10, .inr (0, [.null, .null, .null, .int 0, .int 0, .int 0]))]) [9] rfl
  have hDc := hD.sub (ws' := [(q10, .inr (0, [.null, .null, .null, .int 0, .int 0, .int 0]))]) [9] (by decide) rfl
  have hFc := va_free (wc := [(q10, .inr (0, [.null, .null, .null, .int 0, .int 0, .int 0]))]) hD hS hA [9] rfl
  refine va_callv (va_runIN (As := []) (rest := [.ref q10, .int (1 : Int32), .ref q1]) ⟨hx, hb, hml, hown, hts⟩ (ci_X0 l E q10  H.size) ⟨va_cnB 0 hts gX8_init_X0_init_n27 rfl rfl rfl (hN.1 ("DaysOnBread$Shelf", 27, ⟨"DaysOnBread$Book", "<init>", "()V"⟩, "DaysOnBread") (List.mem_of_getElem? (i := 0) rfl)) (hts (.initialized RX0) (List.mem_of_getElem? (i := 11) rfl)) (by decide +kernel) ⟨Nat.le_of_ble_eq_true rfl, Nat.le_of_ble_eq_true rfl⟩, rfl, (hts _ (List.mem_of_getElem? (i := 12) rfl))⟩ ⟨fun a U g mk q => by obtain ⟨q0, q1, qP, qK, qD⟩ := q; exact ⟨q0, q1, qP, va_K.moved (u := U) (U := U.calling g mk a) (Vm.Alike.refl U.vm) qK, qD⟩, fun U hU hW => ⟨rfl, by rw [hU], by rw [hU]; exact hPc, va_K.moved hW.alike hK, hDc.weaken (fun _ _ _ _ => trivial)⟩⟩ rfl rfl hl.1 rfl (lv_room (Nat.le_of_ble_eq_true rfl)) dX8_init_54 ⟨Nat.le_of_ble_eq_true rfl, Nat.le_of_ble_eq_true rfl⟩) hS (fun q _ h => hFc q h) hFc (fun u t H1 locs ht hvm hw hB hz1 hk1 hS => ?_)
  obtain ⟨b11, hP1, hD1⟩ := hB
  rw [ht] at hP1
  obtain ⟨hP, hD⟩ := va_join (wr := [(h0, .inr (8, [.ref q1, .ref q2, .ref q3, .ref q4, .int 0])), (q1, .inl (db_cy E 4, 6, .inr (.inr (.inr (.inr (va_up (fun _ => none) (0 : Int32).toNatClampNeg (some q5))))))), (q2, .inl (db_cy E 0, 12, .inl (fun _ => 0))), (q3, .inl (db_cy E 0, 12, .inl (fun _ => 0))), (q4, .inl (db_cy E 0, 12, .inl (fun _ => 0))), (q5, .inr (0, [.ref q7, .ref q8, .ref q9, .int 0, .int (-1 : Int32), .int 0])), (q7, .inl (db_cy E 0, 10, .inl (fun _ => 0))), (q8, .inl (db_cy E 0, 10, .inl (fun _ => 0))), (q9, .inl (db_cy E 0, 10, .inl (fun _ => 0)))]) (w1 := [(q10, .inr (0, [.ref (b11 0), .ref (b11 1), .ref (b11 2), .int 0, .int (-1 : Int32), .int 0])), ((b11 0), .inl (db_cy E 0, 10, .inl (fun _ => 0))), ((b11 1), .inl (db_cy E 0, 10, .inl (fun _ => 0))), ((b11 2), .inl (db_cy E 0, 10, .inl (fun _ => 0)))]) hP hD [9] [0, 1, 2, 3, 4, 5, 6, 7, 8] rfl rfl (by decide) (by decide) hk1 hFc hP1 hD1
  generalize H1 = H at hP hS ⊢
  obtain ⟨q12, eq12⟩ : ∃ z_, z_ = b11 0 := ⟨_, rfl⟩
  obtain ⟨q13, eq13⟩ : ∃ z_, z_ = b11 1 := ⟨_, rfl⟩
  obtain ⟨q14, eq14⟩ : ∃ z_, z_ = b11 2 := ⟨_, rfl⟩
  simp only [← eq12, ← eq13, ← eq14] at hP hD
  have hP : va_P (db_G E) vwCl [(h0, .inr (8, [.ref q1, .ref q2, .ref q3, .ref q4, .int 0])), (q1, .inl (db_cy E 4, 6, .inr (.inr (.inr (.inr (va_up (fun _ => none) (0 : Int32).toNatClampNeg (some q5))))))), (q2, .inl (db_cy E 0, 12, .inl (fun _ => 0))), (q3, .inl (db_cy E 0, 12, .inl (fun _ => 0))), (q4, .inl (db_cy E 0, 12, .inl (fun _ => 0))), (q5, .inr (0, [.ref q7, .ref q8, .ref q9, .int 0, .int (-1 : Int32), .int 0])), (q7, .inl (db_cy E 0, 10, .inl (fun _ => 0))), (q8, .inl (db_cy E 0, 10, .inl (fun _ => 0))), (q9, .inl (db_cy E 0, 10, .inl (fun _ => 0))), (q10, .inr (0, [.ref q12, .ref q13, .ref q14, .int 0, .int (-1 : Int32), .int 0])), (q12, .inl (db_cy E 0, 10, .inl (fun _ => 0))), (q13, .inl (db_cy E 0, 10, .inl (fun _ => 0))), (q14, .inl (db_cy E 0, 10, .inl (fun _ => 0)))] H := hP
  have hD : va_D A [(h0, .inr (8, [.ref q1, .ref q2, .ref q3, .ref q4, .int 0])), (q1, .inl (db_cy E 4, 6, .inr (.inr (.inr (.inr (va_up (fun _ => none) (0 : Int32).toNatClampNeg (some q5))))))), (q2, .inl (db_cy E 0, 12, .inl (fun _ => 0))), (q3, .inl (db_cy E 0, 12, .inl (fun _ => 0))), (q4, .inl (db_cy E 0, 12, .inl (fun _ => 0))), (q5, .inr (0, [.ref q7, .ref q8, .ref q9, .int 0, .int (-1 : Int32), .int 0])), (q7, .inl (db_cy E 0, 10, .inl (fun _ => 0))), (q8, .inl (db_cy E 0, 10, .inl (fun _ => 0))), (q9, .inl (db_cy E 0, 10, .inl (fun _ => 0))), (q10, .inr (0, [.ref q12, .ref q13, .ref q14, .int 0, .int (-1 : Int32), .int 0])), (q12, .inl (db_cy E 0, 10, .inl (fun _ => 0))), (q13, .inl (db_cy E 0, 10, .inl (fun _ => 0))), (q14, .inl (db_cy E 0, 10, .inl (fun _ => 0)))] := hD
  refine W.widen (k := 12) (n := 114) (Nat.le_of_ble_eq_true rfl) (Nat.le_of_ble_eq_true rfl) ?_
  refine va_astq (D := db_G E) hx hb hK hP hD hS 1 4 9 0 (r := (RX0, TX0, 6)) rfl rfl rfl rfl (i := (1 : Int32)) (show ¬ ((1 : Int32) < 0 ∨ 6 ≤ (1 : Int32).toNatClampNeg) by decide) dX8_init_57 (fun H locs hP hD hS => ?_)
  have hP : va_P (db_G E) vwCl [(h0, .inr (8, [.ref q1, .ref q2, .ref q3, .ref q4, .int 0])), (q1, .inl (db_cy E 4, 6, .inr (.inr (.inr (.inr (va_up (va_up (fun _ => none) (0 : Int32).toNatClampNeg (some q5)) (1 : Int32).toNatClampNeg (some q10))))))), (q2, .inl (db_cy E 0, 12, .inl (fun _ => 0))), (q3, .inl (db_cy E 0, 12, .inl (fun _ => 0))), (q4, .inl (db_cy E 0, 12, .inl (fun _ => 0))), (q5, .inr (0, [.ref q7, .ref q8, .ref q9, .int 0, .int (-1 : Int32), .int 0])), (q7, .inl (db_cy E 0, 10, .inl (fun _ => 0))), (q8, .inl (db_cy E 0, 10, .inl (fun _ => 0))), (q9, .inl (db_cy E 0, 10, .inl (fun _ => 0))), (q10, .inr (0, [.ref q12, .ref q13, .ref q14, .int 0, .int (-1 : Int32), .int 0])), (q12, .inl (db_cy E 0, 10, .inl (fun _ => 0))), (q13, .inl (db_cy E 0, 10, .inl (fun _ => 0))), (q14, .inl (db_cy E 0, 10, .inl (fun _ => 0)))] H := hP
  have hD : va_D A [(h0, .inr (8, [.ref q1, .ref q2, .ref q3, .ref q4, .int 0])), (q1, .inl (db_cy E 4, 6, .inr (.inr (.inr (.inr (va_up (va_up (fun _ => none) (0 : Int32).toNatClampNeg (some q5)) (1 : Int32).toNatClampNeg (some q10))))))), (q2, .inl (db_cy E 0, 12, .inl (fun _ => 0))), (q3, .inl (db_cy E 0, 12, .inl (fun _ => 0))), (q4, .inl (db_cy E 0, 12, .inl (fun _ => 0))), (q5, .inr (0, [.ref q7, .ref q8, .ref q9, .int 0, .int (-1 : Int32), .int 0])), (q7, .inl (db_cy E 0, 10, .inl (fun _ => 0))), (q8, .inl (db_cy E 0, 10, .inl (fun _ => 0))), (q9, .inl (db_cy E 0, 10, .inl (fun _ => 0))), (q10, .inr (0, [.ref q12, .ref q13, .ref q14, .int 0, .int (-1 : Int32), .int 0])), (q12, .inl (db_cy E 0, 10, .inl (fun _ => 0))), (q13, .inl (db_cy E 0, 10, .inl (fun _ => 0))), (q14, .inl (db_cy E 0, 10, .inl (fun _ => 0)))] := hD
  refine lv_iinc (v := (2 : Int32)) (lv' := [(1, .int (2 : Int32)), (0, .ref h0)]) hx hb dX8_init_58 hl (k := 0) rfl (by decide) (by decide) rfl (fun ls hl => ?_)
  refine lv_goto (tgt := 39) hx hb dX8_init_61 (by decide) ?_
  refine lv_iload_n hx hb dX8_init_39 rfl (lv_at hl 0 rfl) ?_
  refine lv_bipush (v := (6 : Int32)) hx hb dX8_init_40 (by decide) ?_
  refine lv_icmp_ge (tgt := 64) hx hb dX8_init_42 (by decide) (fun c_ => absurd c_ (by decide)) (fun _ => ?_)
  refine lv_aload_n hx hb dX8_init_45 rfl (lv_at hl 1 rfl) ?_
  refine va_get (D := db_G E) (ci := 8) (v := .ref q1) (C := RX8) (T := TX8) (N := 5) hx hb hts hiX8 hown hK hP 0 rfl rfl 0 (by decide) (hts _ (List.mem_of_getElem? (i := 5) rfl)) (fun _ h9 => h9) rfl dX8_init_46 ?_
  refine lv_iload_n hx hb dX8_init_49 rfl (lv_at hl 0 rfl) ?_
  refine va_new (ci := 0) (fs := [.null, .null, .null, .int 0, .int 0, .int 0]) (C := RX0) (T := TX0) (N := 6) hx hb hts hiX0 tyX0 tyX0_ok hown (hts _ (List.mem_of_getElem? (i := 4) rfl)) (hts _ (List.mem_of_getElem? (i := 10) rfl)) (hts _ (List.mem_of_getElem? (i := 11) rfl)) hK hP hD hS hA rfl (fun j hj => by rcases (show j = 0 ∨ j = 1 ∨ j = 2 ∨ j = 3 ∨ j = 4 ∨ j = 5 by omega) with rfl | rfl | rfl | rfl | rfl | rfl <;> rfl) (Nat.le_of_ble_eq_true rfl) (Nat.le_of_ble_eq_true rfl) dX8_init_50 (fun q15 H hP hD hS => ?_)
  have hP : va_P (db_G E) vwCl [(h0, .inr (8, [.ref q1, .ref q2, .ref q3, .ref q4, .int 0])), (q1, .inl (db_cy E 4, 6, .inr (.inr (.inr (.inr (va_up (va_up (fun _ => none) (0 : Int32).toNatClampNeg (some q5)) (1 : Int32).toNatClampNeg (some q10))))))), (q2, .inl (db_cy E 0, 12, .inl (fun _ => 0))), (q3, .inl (db_cy E 0, 12, .inl (fun _ => 0))), (q4, .inl (db_cy E 0, 12, .inl (fun _ => 0))), (q5, .inr (0, [.ref q7, .ref q8, .ref q9, .int 0, .int (-1 : Int32), .int 0])), (q7, .inl (db_cy E 0, 10, .inl (fun _ => 0))), (q8, .inl (db_cy E 0, 10, .inl (fun _ => 0))), (q9, .inl (db_cy E 0, 10, .inl (fun _ => 0))), (q10, .inr (0, [.ref q12, .ref q13, .ref q14, .int 0, .int (-1 : Int32), .int 0])), (q12, .inl (db_cy E 0, 10, .inl (fun _ => 0))), (q13, .inl (db_cy E 0, 10, .inl (fun _ => 0))), (q14, .inl (db_cy E 0, 10, .inl (fun _ => 0))), (q15, .inr (0, [.null, .null, .null, .int 0, .int 0, .int 0]))] H := hP
  have hD : va_D A [(h0, .inr (8, [.ref q1, .ref q2, .ref q3, .ref q4, .int 0])), (q1, .inl (db_cy E 4, 6, .inr (.inr (.inr (.inr (va_up (va_up (fun _ => none) (0 : Int32).toNatClampNeg (some q5)) (1 : Int32).toNatClampNeg (some q10))))))), (q2, .inl (db_cy E 0, 12, .inl (fun _ => 0))), (q3, .inl (db_cy E 0, 12, .inl (fun _ => 0))), (q4, .inl (db_cy E 0, 12, .inl (fun _ => 0))), (q5, .inr (0, [.ref q7, .ref q8, .ref q9, .int 0, .int (-1 : Int32), .int 0])), (q7, .inl (db_cy E 0, 10, .inl (fun _ => 0))), (q8, .inl (db_cy E 0, 10, .inl (fun _ => 0))), (q9, .inl (db_cy E 0, 10, .inl (fun _ => 0))), (q10, .inr (0, [.ref q12, .ref q13, .ref q14, .int 0, .int (-1 : Int32), .int 0])), (q12, .inl (db_cy E 0, 10, .inl (fun _ => 0))), (q13, .inl (db_cy E 0, 10, .inl (fun _ => 0))), (q14, .inl (db_cy E 0, 10, .inl (fun _ => 0))), (q15, .inr (0, [.null, .null, .null, .int 0, .int 0, .int 0]))] := hD
  refine W.widen (k := 13) (n := 120) (Nat.le_of_ble_eq_true rfl) (Nat.le_of_ble_eq_true rfl) ?_
  refine lv_dup hx hb dX8_init_53 rfl ?_
  have hPc := hP.sub (ws' := [(q15, .inr (0, [.null, .null, .null, .int 0, .int 0, .int 0]))]) [13] rfl
  have hDc := hD.sub (ws' := [(q15, .inr (0, [.null, .null, .null, .int 0, .int 0, .int 0]))]) [13] (by decide) rfl
  have hFc := va_free (wc := [(q15, .inr (0, [.null, .null, .null, .int 0, .int 0, .int 0]))]) hD hS hA [13] rfl
  refine va_callv (va_runIN (As := []) (rest := [.ref q15, .int (2 : Int32), .ref q1]) ⟨hx, hb, hml, hown, hts⟩ (ci_X0 l E q15  H.size) ⟨va_cnB 0 hts gX8_init_X0_init_n27 rfl rfl rfl (hN.1 ("DaysOnBread$Shelf", 27, ⟨"DaysOnBread$Book", "<init>", "()V"⟩, "DaysOnBread") (List.mem_of_getElem? (i := 0) rfl)) (hts (.initialized RX0) (List.mem_of_getElem? (i := 11) rfl)) (by decide +kernel) ⟨Nat.le_of_ble_eq_true rfl, Nat.le_of_ble_eq_true rfl⟩, rfl, (hts _ (List.mem_of_getElem? (i := 12) rfl))⟩ ⟨fun a U g mk q => by obtain ⟨q0, q1, qP, qK, qD⟩ := q; exact ⟨q0, q1, qP, va_K.moved (u := U) (U := U.calling g mk a) (Vm.Alike.refl U.vm) qK, qD⟩, fun U hU hW => ⟨rfl, by rw [hU], by rw [hU]; exact hPc, va_K.moved hW.alike hK, hDc.weaken (fun _ _ _ _ => trivial)⟩⟩ rfl rfl hl.1 rfl (lv_room (Nat.le_of_ble_eq_true rfl)) dX8_init_54 ⟨Nat.le_of_ble_eq_true rfl, Nat.le_of_ble_eq_true rfl⟩) hS (fun q _ h => hFc q h) hFc (fun u t H1 locs ht hvm hw hB hz1 hk1 hS => ?_)
  obtain ⟨b16, hP1, hD1⟩ := hB
  rw [ht] at hP1
  obtain ⟨hP, hD⟩ := va_join (wr := [(h0, .inr (8, [.ref q1, .ref q2, .ref q3, .ref q4, .int 0])), (q1, .inl (db_cy E 4, 6, .inr (.inr (.inr (.inr (va_up (va_up (fun _ => none) (0 : Int32).toNatClampNeg (some q5)) (1 : Int32).toNatClampNeg (some q10))))))), (q2, .inl (db_cy E 0, 12, .inl (fun _ => 0))), (q3, .inl (db_cy E 0, 12, .inl (fun _ => 0))), (q4, .inl (db_cy E 0, 12, .inl (fun _ => 0))), (q5, .inr (0, [.ref q7, .ref q8, .ref q9, .int 0, .int (-1 : Int32), .int 0])), (q7, .inl (db_cy E 0, 10, .inl (fun _ => 0))), (q8, .inl (db_cy E 0, 10, .inl (fun _ => 0))), (q9, .inl (db_cy E 0, 10, .inl (fun _ => 0))), (q10, .inr (0, [.ref q12, .ref q13, .ref q14, .int 0, .int (-1 : Int32), .int 0])), (q12, .inl (db_cy E 0, 10, .inl (fun _ => 0))), (q13, .inl (db_cy E 0, 10, .inl (fun _ => 0))), (q14, .inl (db_cy E 0, 10, .inl (fun _ => 0)))]) (w1 := [(q15, .inr (0, [.ref (b16 0), .ref (b16 1), .ref (b16 2), .int 0, .int (-1 : Int32), .int 0])), ((b16 0), .inl (db_cy E 0, 10, .inl (fun _ => 0))), ((b16 1), .inl (db_cy E 0, 10, .inl (fun _ => 0))), ((b16 2), .inl (db_cy E 0, 10, .inl (fun _ => 0)))]) hP hD [13] [0, 1, 2, 3, 4, 5, 6, 7, 8, 9, 10, 11, 12] rfl rfl (by decide) (by decide) hk1 hFc hP1 hD1
  generalize H1 = H at hP hS ⊢
  obtain ⟨q17, eq17⟩ : ∃ z_, z_ = b16 0 := ⟨_, rfl⟩
  obtain ⟨q18, eq18⟩ : ∃ z_, z_ = b16 1 := ⟨_, rfl⟩
  obtain ⟨q19, eq19⟩ : ∃ z_, z_ = b16 2 := ⟨_, rfl⟩
  simp only [← eq17, ← eq18, ← eq19] at hP hD
  have hP : va_P (db_G E) vwCl [(h0, .inr (8, [.ref q1, .ref q2, .ref q3, .ref q4, .int 0])), (q1, .inl (db_cy E 4, 6, .inr (.inr (.inr (.inr (va_up (va_up (fun _ => none) (0 : Int32).toNatClampNeg (some q5)) (1 : Int32).toNatClampNeg (some q10))))))), (q2, .inl (db_cy E 0, 12, .inl (fun _ => 0))), (q3, .inl (db_cy E 0, 12, .inl (fun _ => 0))), (q4, .inl (db_cy E 0, 12, .inl (fun _ => 0))), (q5, .inr (0, [.ref q7, .ref q8, .ref q9, .int 0, .int (-1 : Int32), .int 0])), (q7, .inl (db_cy E 0, 10, .inl (fun _ => 0))), (q8, .inl (db_cy E 0, 10, .inl (fun _ => 0))), (q9, .inl (db_cy E 0, 10, .inl (fun _ => 0))), (q10, .inr (0, [.ref q12, .ref q13, .ref q14, .int 0, .int (-1 : Int32), .int 0])), (q12, .inl (db_cy E 0, 10, .inl (fun _ => 0))), (q13, .inl (db_cy E 0, 10, .inl (fun _ => 0))), (q14, .inl (db_cy E 0, 10, .inl (fun _ => 0))), (q15, .inr (0, [.ref q17, .ref q18, .ref q19, .int 0, .int (-1 : Int32), .int 0])), (q17, .inl (db_cy E 0, 10, .inl (fun _ => 0))), (q18, .inl (db_cy E 0, 10, .inl (fun _ => 0))), (q19, .inl (db_cy E 0, 10, .inl (fun _ => 0)))] H := hP
  have hD : va_D A [(h0, .inr (8, [.ref q1, .ref q2, .ref q3, .ref q4, .int 0])), (q1, .inl (db_cy E 4, 6, .inr (.inr (.inr (.inr (va_up (va_up (fun _ => none) (0 : Int32).toNatClampNeg (some q5)) (1 : Int32).toNatClampNeg (some q10))))))), (q2, .inl (db_cy E 0, 12, .inl (fun _ => 0))), (q3, .inl (db_cy E 0, 12, .inl (fun _ => 0))), (q4, .inl (db_cy E 0, 12, .inl (fun _ => 0))), (q5, .inr (0, [.ref q7, .ref q8, .ref q9, .int 0, .int (-1 : Int32), .int 0])), (q7, .inl (db_cy E 0, 10, .inl (fun _ => 0))), (q8, .inl (db_cy E 0, 10, .inl (fun _ => 0))), (q9, .inl (db_cy E 0, 10, .inl (fun _ => 0))), (q10, .inr (0, [.ref q12, .ref q13, .ref q14, .int 0, .int (-1 : Int32), .int 0])), (q12, .inl (db_cy E 0, 10, .inl (fun _ => 0))), (q13, .inl (db_cy E 0, 10, .inl (fun _ => 0))), (q14, .inl (db_cy E 0, 10, .inl (fun _ => 0))), (q15, .inr (0, [.ref q17, .ref q18, .ref q19, .int 0, .int (-1 : Int32), .int 0])), (q17, .inl (db_cy E 0, 10, .inl (fun _ => 0))), (q18, .inl (db_cy E 0, 10, .inl (fun _ => 0))), (q19, .inl (db_cy E 0, 10, .inl (fun _ => 0)))] := hD
  refine W.widen (k := 16) (n := 150) (Nat.le_of_ble_eq_true rfl) (Nat.le_of_ble_eq_true rfl) ?_
  refine va_astq (D := db_G E) hx hb hK hP hD hS 1 4 13 0 (r := (RX0, TX0, 6)) rfl rfl rfl rfl (i := (2 : Int32)) (show ¬ ((2 : Int32) < 0 ∨ 6 ≤ (2 : Int32).toNatClampNeg) by decide) dX8_init_57 (fun H locs hP hD hS => ?_)
  have hP : va_P (db_G E) vwCl [(h0, .inr (8, [.ref q1, .ref q2, .ref q3, .ref q4, .int 0])), (q1, .inl (db_cy E 4, 6, .inr (.inr (.inr (.inr (va_up (va_up (va_up (fun _ => none) (0 : Int32).toNatClampNeg (some q5)) (1 : Int32).toNatClampNeg (some q10)) (2 : Int32).toNatClampNeg (some q15))))))), (q2, .inl (db_cy E 0, 12, .inl (fun _ => 0))), (q3, .inl (db_cy E 0, 12, .inl (fun _ => 0))), (q4, .inl (db_cy E 0, 12, .inl (fun _ => 0))), (q5, .inr (0, [.ref q7, .ref q8, .ref q9, .int 0, .int (-1 : Int32), .int 0])), (q7, .inl (db_cy E 0, 10, .inl (fun _ => 0))), (q8, .inl (db_cy E 0, 10, .inl (fun _ => 0))), (q9, .inl (db_cy E 0, 10, .inl (fun _ => 0))), (q10, .inr (0, [.ref q12, .ref q13, .ref q14, .int 0, .int (-1 : Int32), .int 0])), (q12, .inl (db_cy E 0, 10, .inl (fun _ => 0))), (q13, .inl (db_cy E 0, 10, .inl (fun _ => 0))), (q14, .inl (db_cy E 0, 10, .inl (fun _ => 0))), (q15, .inr (0, [.ref q17, .ref q18, .ref q19, .int 0, .int (-1 : Int32), .int 0])), (q17, .inl (db_cy E 0, 10, .inl (fun _ => 0))), (q18, .inl (db_cy E 0, 10, .inl (fun _ => 0))), (q19, .inl (db_cy E 0, 10, .inl (fun _ => 0)))] H := hP
  have hD : va_D A [(h0, .inr (8, [.ref q1, .ref q2, .ref q3, .ref q4, .int 0])), (q1, .inl (db_cy E 4, 6, .inr (.inr (.inr (.inr (va_up (va_up (va_up (fun _ => none) (0 : Int32).toNatClampNeg (some q5)) (1 : Int32).toNatClampNeg (some q10)) (2 : Int32).toNatClampNeg (some q15))))))), (q2, .inl (db_cy E 0, 12, .inl (fun _ => 0))), (q3, .inl (db_cy E 0, 12, .inl (fun _ => 0))), (q4, .inl (db_cy E 0, 12, .inl (fun _ => 0))), (q5, .inr (0, [.ref q7, .ref q8, .ref q9, .int 0, .int (-1 : Int32), .int 0])), (q7, .inl (db_cy E 0, 10, .inl (fun _ => 0))), (q8, .inl (db_cy E 0, 10, .inl (fun _ => 0))), (q9, .inl (db_cy E 0, 10, .inl (fun _ => 0))), (q10, .inr (0, [.ref q12, .ref q13, .ref q14, .int 0, .int (-1 : Int32), .int 0])), (q12, .inl (db_cy E 0, 10, .inl (fun _ => 0))), (q13, .inl (db_cy E 0, 10, .inl (fun _ => 0))), (q14, .inl (db_cy E 0, 10, .inl (fun _ => 0))), (q15, .inr (0, [.ref q17, .ref q18, .ref q19, .int 0, .int (-1 : Int32), .int 0])), (q17, .inl (db_cy E 0, 10, .inl (fun _ => 0))), (q18, .inl (db_cy E 0, 10, .inl (fun _ => 0))), (q19, .inl (db_cy E 0, 10, .inl (fun _ => 0)))] := hD
  refine lv_iinc (v := (3 : Int32)) (lv' := [(1, .int (3 : Int32)), (0, .ref h0)]) hx hb dX8_init_58 hl (k := 0) rfl (by decide) (by decide) rfl (fun ls hl => ?_)
  refine lv_goto (tgt := 39) hx hb dX8_init_61 (by decide) ?_
  refine lv_iload_n hx hb dX8_init_39 rfl (lv_at hl 0 rfl) ?_
  refine lv_bipush (v := (6 : Int32)) hx hb dX8_init_40 (by decide) ?_
  refine lv_icmp_ge (tgt := 64) hx hb dX8_init_42 (by decide) (fun c_ => absurd c_ (by decide)) (fun _ => ?_)
  refine lv_aload_n hx hb dX8_init_45 rfl (lv_at hl 1 rfl) ?_
  refine va_get (D := db_G E) (ci := 8) (v := .ref q1) (C := RX8) (T := TX8) (N := 5) hx hb hts hiX8 hown hK hP 0 rfl rfl 0 (by decide) (hts _ (List.mem_of_getElem? (i := 5) rfl)) (fun _ h9 => h9) rfl dX8_init_46 ?_
  refine lv_iload_n hx hb dX8_init_49 rfl (lv_at hl 0 rfl) ?_
  refine va_new (ci := 0) (fs := [.null, .null, .null, .int 0, .int 0, .int 0]) (C := RX0) (T := TX0) (N := 6) hx hb hts hiX0 tyX0 tyX0_ok hown (hts _ (List.mem_of_getElem? (i := 4) rfl)) (hts _ (List.mem_of_getElem? (i := 10) rfl)) (hts _ (List.mem_of_getElem? (i := 11) rfl)) hK hP hD hS hA rfl (fun j hj => by rcases (show j = 0 ∨ j = 1 ∨ j = 2 ∨ j = 3 ∨ j = 4 ∨ j = 5 by omega) with rfl | rfl | rfl | rfl | rfl | rfl <;> rfl) (Nat.le_of_ble_eq_true rfl) (Nat.le_of_ble_eq_true rfl) dX8_init_50 (fun q20 H hP hD hS => ?_)
  have hP : va_P (db_G E) vwCl [(h0, .inr (8, [.ref q1, .ref q2, .ref q3, .ref q4, .int 0])), (q1, .inl (db_cy E 4, 6, .inr (.inr (.inr (.inr (va_up (va_up (va_up (fun _ => none) (0 : Int32).toNatClampNeg (some q5)) (1 : Int32).toNatClampNeg (some q10)) (2 : Int32).toNatClampNeg (some q15))))))), (q2, .inl (db_cy E 0, 12, .inl (fun _ => 0))), (q3, .inl (db_cy E 0, 12, .inl (fun _ => 0))), (q4, .inl (db_cy E 0, 12, .inl (fun _ => 0))), (q5, .inr (0, [.ref q7, .ref q8, .ref q9, .int 0, .int (-1 : Int32), .int 0])), (q7, .inl (db_cy E 0, 10, .inl (fun _ => 0))), (q8, .inl (db_cy E 0, 10, .inl (fun _ => 0))), (q9, .inl (db_cy E 0, 10, .inl (fun _ => 0))), (q10, .inr (0, [.ref q12, .ref q13, .ref q14, .int 0, .int (-1 : Int32), .int 0])), (q12, .inl (db_cy E 0, 10, .inl (fun _ => 0))), (q13, .inl (db_cy E 0, 10, .inl (fun _ => 0))), (q14, .inl (db_cy E 0, 10, .inl (fun _ => 0))), (q15, .inr (0, [.ref q17, .ref q18, .ref q19, .int 0, .int (-1 : Int32), .int 0])), (q17, .inl (db_cy E 0, 10, .inl (fun _ => 0))), (q18, .inl (db_cy E 0, 10, .inl (fun _ => 0))), (q19, .inl (db_cy E 0, 10, .inl (fun _ => 0))), (q20, .inr (0, [.null, .null, .null, .int 0, .int 0, .int 0]))] H := hP
  have hD : va_D A [(h0, .inr (8, [.ref q1, .ref q2, .ref q3, .ref q4, .int 0])), (q1, .inl (db_cy E 4, 6, .inr (.inr (.inr (.inr (va_up (va_up (va_up (fun _ => none) (0 : Int32).toNatClampNeg (some q5)) (1 : Int32).toNatClampNeg (some q10)) (2 : Int32).toNatClampNeg (some q15))))))), (q2, .inl (db_cy E 0, 12, .inl (fun _ => 0))), (q3, .inl (db_cy E 0, 12, .inl (fun _ => 0))), (q4, .inl (db_cy E 0, 12, .inl (fun _ => 0))), (q5, .inr (0, [.ref q7, .ref q8, .ref q9, .int 0, .int (-1 : Int32), .int 0])), (q7, .inl (db_cy E 0, 10, .inl (fun _ => 0))), (q8, .inl (db_cy E 0, 10, .inl (fun _ => 0))), (q9, .inl (db_cy E 0, 10, .inl (fun _ => 0))), (q10, .inr (0, [.ref q12, .ref q13, .ref q14, .int 0, .int (-1 : Int32), .int 0])), (q12, .inl (db_cy E 0, 10, .inl (fun _ => 0))), (q13, .inl (db_cy E 0, 10, .inl (fun _ => 0))), (q14, .inl (db_cy E 0, 10, .inl (fun _ => 0))), (q15, .inr (0, [.ref q17, .ref q18, .ref q19, .int 0, .int (-1 : Int32), .int 0])), (q17, .inl (db_cy E 0, 10, .inl (fun _ => 0))), (q18, .inl (db_cy E 0, 10, .inl (fun _ => 0))), (q19, .inl (db_cy E 0, 10, .inl (fun _ => 0))), (q20, .inr (0, [.null, .null, .null, .int 0, .int 0, .int 0]))] := hD
  refine W.widen (k := 17) (n := 156) (Nat.le_of_ble_eq_true rfl) (Nat.le_of_ble_eq_true rfl) ?_
  refine lv_dup hx hb dX8_init_53 rfl ?_
  have hPc := hP.sub (ws' := [(q20, .inr (0, [.null, .null, .null, .int 0, .int 0, .int 0]))]) [17] rfl
  have hDc := hD.sub (ws' := [(q20, .inr (0, [.null, .null, .null, .int 0, .int 0, .int 0]))]) [17] (by decide) rfl
  have hFc := va_free (wc := [(q20, .inr (0, [.null, .null, .null, .int 0, .int 0, .int 0]))]) hD hS hA [17] rfl
  refine va_callv (va_runIN (As := []) (rest := [.ref q20, .int (3 : Int32), .ref q1]) ⟨hx, hb, hml, hown, hts⟩ (ci_X0 l E q20  H.size) ⟨va_cnB 0 hts gX8_init_X0_init_n27 rfl rfl rfl (hN.1 ("DaysOnBread$Shelf", 27, ⟨"DaysOnBread$Book", "<init>", "()V"⟩, "DaysOnBread") (List.mem_of_getElem? (i := 0) rfl)) (hts (.initialized RX0) (List.mem_of_getElem? (i := 11) rfl)) (by decide +kernel) ⟨Nat.le_of_ble_eq_true rfl, Nat.le_of_ble_eq_true rfl⟩, rfl, (hts _ (List.mem_of_getElem? (i := 12) rfl))⟩ ⟨fun a U g mk q => by obtain ⟨q0, q1, qP, qK, qD⟩ := q; exact ⟨q0, q1, qP, va_K.moved (u := U) (U := U.calling g mk a) (Vm.Alike.refl U.vm) qK, qD⟩, fun U hU hW => ⟨rfl, by rw [hU], by rw [hU]; exact hPc, va_K.moved hW.alike hK, hDc.weaken (fun _ _ _ _ => trivial)⟩⟩ rfl rfl hl.1 rfl (lv_room (Nat.le_of_ble_eq_true rfl)) dX8_init_54 ⟨Nat.le_of_ble_eq_true rfl, Nat.le_of_ble_eq_true rfl⟩) hS (fun q _ h => hFc q h) hFc (fun u t H1 locs ht hvm hw hB hz1 hk1 hS => ?_)
  obtain ⟨b21, hP1, hD1⟩ := hB
  rw [ht] at hP1
  obtain ⟨hP, hD⟩ := va_join (wr := [(h0, .inr (8, [.ref q1, .ref q2, .ref q3, .ref q4, .int 0])), (q1, .inl (db_cy E 4, 6, .inr (.inr (.inr (.inr (va_up (va_up (va_up (fun _ => none) (0 : Int32).toNatClampNeg (some q5)) (1 : Int32).toNatClampNeg (some q10)) (2 : Int32).toNatClampNeg (some q15))))))), (q2, .inl (db_cy E 0, 12, .inl (fun _ => 0))), (q3, .inl (db_cy E 0, 12, .inl (fun _ => 0))), (q4, .inl (db_cy E 0, 12, .inl (fun _ => 0))), (q5, .inr (0, [.ref q7, .ref q8, .ref q9, .int 0, .int (-1 : Int32), .int 0])), (q7, .inl (db_cy E 0, 10, .inl (fun _ => 0))), (q8, .inl (db_cy E 0, 10, .inl (fun _ => 0))), (q9, .inl (db_cy E 0, 10, .inl (fun _ => 0))), (q10, .inr (0, [.ref q12, .ref q13, .ref q14, .int 0, .int (-1 : Int32), .int 0])), (q12, .inl (db_cy E 0, 10, .inl (fun _ => 0))), (q13, .inl (db_cy E 0, 10, .inl (fun _ => 0))), (q14, .inl (db_cy E 0, 10, .inl (fun _ => 0))), (q15, .inr (0, [.ref q17, .ref q18, .ref q19, .int 0, .int (-1 : Int32), .int 0])), (q17, .inl (db_cy E 0, 10, .inl (fun _ => 0))), (q18, .inl (db_cy E 0, 10, .inl (fun _ => 0))), (q19, .inl (db_cy E 0, 10, .inl (fun _ => 0)))]) (w1 := [(q20, .inr (0, [.ref (b21 0), .ref (b21 1), .ref (b21 2), .int 0, .int (-1 : Int32), .int 0])), ((b21 0), .inl (db_cy E 0, 10, .inl (fun _ => 0))), ((b21 1), .inl (db_cy E 0, 10, .inl (fun _ => 0))), ((b21 2), .inl (db_cy E 0, 10, .inl (fun _ => 0)))]) hP hD [17] [0, 1, 2, 3, 4, 5, 6, 7, 8, 9, 10, 11, 12, 13, 14, 15, 16] rfl rfl (by decide) (by decide) hk1 hFc hP1 hD1
  generalize H1 = H at hP hS ⊢
  obtain ⟨q22, eq22⟩ : ∃ z_, z_ = b21 0 := ⟨_, rfl⟩
  obtain ⟨q23, eq23⟩ : ∃ z_, z_ = b21 1 := ⟨_, rfl⟩
  obtain ⟨q24, eq24⟩ : ∃ z_, z_ = b21 2 := ⟨_, rfl⟩
  simp only [← eq22, ← eq23, ← eq24] at hP hD
  have hP : va_P (db_G E) vwCl [(h0, .inr (8, [.ref q1, .ref q2, .ref q3, .ref q4, .int 0])), (q1, .inl (db_cy E 4, 6, .inr (.inr (.inr (.inr (va_up (va_up (va_up (fun _ => none) (0 : Int32).toNatClampNeg (some q5)) (1 : Int32).toNatClampNeg (some q10)) (2 : Int32).toNatClampNeg (some q15))))))), (q2, .inl (db_cy E 0, 12, .inl (fun _ => 0))), (q3, .inl (db_cy E 0, 12, .inl (fun _ => 0))), (q4, .inl (db_cy E 0, 12, .inl (fun _ => 0))), (q5, .inr (0, [.ref q7, .ref q8, .ref q9, .int 0, .int (-1 : Int32), .int 0])), (q7, .inl (db_cy E 0, 10, .inl (fun _ => 0))), (q8, .inl (db_cy E 0, 10, .inl (fun _ => 0))), (q9, .inl (db_cy E 0, 10, .inl (fun _ => 0))), (q10, .inr (0, [.ref q12, .ref q13, .ref q14, .int 0, .int (-1 : Int32), .int 0])), (q12, .inl (db_cy E 0, 10, .inl (fun _ => 0))), (q13, .inl (db_cy E 0, 10, .inl (fun _ => 0))), (q14, .inl (db_cy E 0, 10, .inl (fun _ => 0))), (q15, .inr (0, [.ref q17, .ref q18, .ref q19, .int 0, .int (-1 : Int32), .int 0])), (q17, .inl (db_cy E 0, 10, .inl (fun _ => 0))), (q18, .inl (db_cy E 0, 10, .inl (fun _ => 0))), (q19, .inl (db_cy E 0, 10, .inl (fun _ => 0))), (q20, .inr (0, [.ref q22, .ref q23, .ref q24, .int 0, .int (-1 : Int32), .int 0])), (q22, .inl (db_cy E 0, 10, .inl (fun _ => 0))), (q23, .inl (db_cy E 0, 10, .inl (fun _ => 0))), (q24, .inl (db_cy E 0, 10, .inl (fun _ => 0)))] H := hP
  have hD : va_D A [(h0, .inr (8, [.ref q1, .ref q2, .ref q3, .ref q4, .int 0])), (q1, .inl (db_cy E 4, 6, .inr (.inr (.inr (.inr (va_up (va_up (va_up (fun _ => none) (0 : Int32).toNatClampNeg (some q5)) (1 : Int32).toNatClampNeg (some q10)) (2 : Int32).toNatClampNeg (some q15))))))), (q2, .inl (db_cy E 0, 12, .inl (fun _ => 0))), (q3, .inl (db_cy E 0, 12, .inl (fun _ => 0))), (q4, .inl (db_cy E 0, 12, .inl (fun _ => 0))), (q5, .inr (0, [.ref q7, .ref q8, .ref q9, .int 0, .int (-1 : Int32), .int 0])), (q7, .inl (db_cy E 0, 10, .inl (fun _ => 0))), (q8, .inl (db_cy E 0, 10, .inl (fun _ => 0))), (q9, .inl (db_cy E 0, 10, .inl (fun _ => 0))), (q10, .inr (0, [.ref q12, .ref q13, .ref q14, .int 0, .int (-1 : Int32), .int 0])), (q12, .inl (db_cy E 0, 10, .inl (fun _ => 0))), (q13, .inl (db_cy E 0, 10, .inl (fun _ => 0))), (q14, .inl (db_cy E 0, 10, .inl (fun _ => 0))), (q15, .inr (0, [.ref q17, .ref q18, .ref q19, .int 0, .int (-1 : Int32), .int 0])), (q17, .inl (db_cy E 0, 10, .inl (fun _ => 0))), (q18, .inl (db_cy E 0, 10, .inl (fun _ => 0))), (q19, .inl (db_cy E 0, 10, .inl (fun _ => 0))), (q20, .inr (0, [.ref q22, .ref q23, .ref q24, .int 0, .int (-1 : Int32), .int 0])), (q22, .inl (db_cy E 0, 10, .inl (fun _ => 0))), (q23, .inl (db_cy E 0, 10, .inl (fun _ => 0))), (q24, .inl (db_cy E 0, 10, .inl (fun _ => 0)))] := hD
  refine W.widen (k := 20) (n := 186) (Nat.le_of_ble_eq_true rfl) (Nat.le_of_ble_eq_true rfl) ?_
  refine va_astq (D := db_G E) hx hb hK hP hD hS 1 4 17 0 (r := (RX0, TX0, 6)) rfl rfl rfl rfl (i := (3 : Int32)) (show ¬ ((3 : Int32) < 0 ∨ 6 ≤ (3 : Int32).toNatClampNeg) by decide) dX8_init_57 (fun H locs hP hD hS => ?_)
  have hP : va_P (db_G E) vwCl [(h0, .inr (8, [.ref q1, .ref q2, .ref q3, .ref q4, .int 0])), (q1, .inl (db_cy E 4, 6, .inr (.inr (.inr (.inr (va_up (va_up (va_up (va_up (fun _ => none) (0 : Int32).toNatClampNeg (some q5)) (1 : Int32).toNatClampNeg (some q10)) (2 : Int32).toNatClampNeg (some q15)) (3 : Int32).toNatClampNeg (some q20))))))), (q2, .inl (db_cy E 0, 12, .inl (fun _ => 0))), (q3, .inl (db_cy E 0, 12, .inl (fun _ => 0))), (q4, .inl (db_cy E 0, 12, .inl (fun _ => 0))), (q5, .inr (0, [.ref q7, .ref q8, .ref q9, .int 0, .int (-1 : Int32), .int 0])), (q7, .inl (db_cy E 0, 10, .inl (fun _ => 0))), (q8, .inl (db_cy E 0, 10, .inl (fun _ => 0))), (q9, .inl (db_cy E 0, 10, .inl (fun _ => 0))), (q10, .inr (0, [.ref q12, .ref q13, .ref q14, .int 0, .int (-1 : Int32), .int 0])), (q12, .inl (db_cy E 0, 10, .inl (fun _ => 0))), (q13, .inl (db_cy E 0, 10, .inl (fun _ => 0))), (q14, .inl (db_cy E 0, 10, .inl (fun _ => 0))), (q15, .inr (0, [.ref q17, .ref q18, .ref q19, .int 0, .int (-1 : Int32), .int 0])), (q17, .inl (db_cy E 0, 10, .inl (fun _ => 0))), (q18, .inl (db_cy E 0, 10, .inl (fun _ => 0))), (q19, .inl (db_cy E 0, 10, .inl (fun _ => 0))), (q20, .inr (0, [.ref q22, .ref q23, .ref q24, .int 0, .int (-1 : Int32), .int 0])), (q22, .inl (db_cy E 0, 10, .inl (fun _ => 0))), (q23, .inl (db_cy E 0, 10, .inl (fun _ => 0))), (q24, .inl (db_cy E 0, 10, .inl (fun _ => 0)))] H := hP
  have hD : va_D A [(h0, .inr (8, [.ref q1, .ref q2, .ref q3, .ref q4, .int 0])), (q1, .inl (db_cy E 4, 6, .inr (.inr (.inr (.inr (va_up (va_up (va_up (va_up (fun _ => none) (0 : Int32).toNatClampNeg (some q5)) (1 : Int32).toNatClampNeg (some q10)) (2 : Int32).toNatClampNeg (some q15)) (3 : Int32).toNatClampNeg (some q20))))))), (q2, .inl (db_cy E 0, 12, .inl (fun _ => 0))), (q3, .inl (db_cy E 0, 12, .inl (fun _ => 0))), (q4, .inl (db_cy E 0, 12, .inl (fun _ => 0))), (q5, .inr (0, [.ref q7, .ref q8, .ref q9, .int 0, .int (-1 : Int32), .int 0])), (q7, .inl (db_cy E 0, 10, .inl (fun _ => 0))), (q8, .inl (db_cy E 0, 10, .inl (fun _ => 0))), (q9, .inl (db_cy E 0, 10, .inl (fun _ => 0))), (q10, .inr (0, [.ref q12, .ref q13, .ref q14, .int 0, .int (-1 : Int32), .int 0])), (q12, .inl (db_cy E 0, 10, .inl (fun _ => 0))), (q13, .inl (db_cy E 0, 10, .inl (fun _ => 0))), (q14, .inl (db_cy E 0, 10, .inl (fun _ => 0))), (q15, .inr (0, [.ref q17, .ref q18, .ref q19, .int 0, .int (-1 : Int32), .int 0])), (q17, .inl (db_cy E 0, 10, .inl (fun _ => 0))), (q18, .inl (db_cy E 0, 10, .inl (fun _ => 0))), (q19, .inl (db_cy E 0, 10, .inl (fun _ => 0))), (q20, .inr (0, [.ref q22, .ref q23, .ref q24, .int 0, .int (-1 : Int32), .int 0])), (q22, .inl (db_cy E 0, 10, .inl (fun _ => 0))), (q23, .inl (db_cy E 0, 10, .inl (fun _ => 0))), (q24, .inl (db_cy E 0, 10, .inl (fun _ => 0)))] := hD
  refine lv_iinc (v := (4 : Int32)) (lv' := [(1, .int (4 : Int32)), (0, .ref h0)]) hx hb dX8_init_58 hl (k := 0) rfl (by decide) (by decide) rfl (fun ls hl => ?_)
  refine lv_goto (tgt := 39) hx hb dX8_init_61 (by decide) ?_
  refine lv_iload_n hx hb dX8_init_39 rfl (lv_at hl 0 rfl) ?_
  refine lv_bipush (v := (6 : Int32)) hx hb dX8_init_40 (by decide) ?_
  refine lv_icmp_ge (tgt := 64) hx hb dX8_init_42 (by decide) (fun c_ => absurd c_ (by decide)) (fun _ => ?_)
  refine lv_aload_n hx hb dX8_init_45 rfl (lv_at hl 1 rfl) ?_
  refine va_get (D := db_G E) (ci := 8) (v := .ref q1) (C := RX8) (T := TX8) (N := 5) hx hb hts hiX8 hown hK hP 0 rfl rfl 0 (by decide) (hts _ (List.mem_of_getElem? (i := 5) rfl)) (fun _ h9 => h9) rfl dX8_init_46 ?_
  refine lv_iload_n hx hb dX8_init_49 rfl (lv_at hl 0 rfl) ?_
  refine va_new (ci := 0) (fs := [.null, .null, .null, .int 0, .int 0, .int 0]) (C := RX0) (T := TX0) (N := 6) hx hb hts hiX0 tyX0 tyX0_ok hown (hts _ (List.mem_of_getElem? (i := 4) rfl)) (hts _ (List.mem_of_getElem? (i := 10) rfl)) (hts _ (List.mem_of_getElem? (i := 11) rfl)) hK hP hD hS hA rfl (fun j hj => by rcases (show j = 0 ∨ j = 1 ∨ j = 2 ∨ j = 3 ∨ j = 4 ∨ j = 5 by omega) with rfl | rfl | rfl | rfl | rfl | rfl <;> rfl) (Nat.le_of_ble_eq_true rfl) (Nat.le_of_ble_eq_true rfl) dX8_init_50 (fun q25 H hP hD hS => ?_)
  have hP : va_P (db_G E) vwCl [(h0, .inr (8, [.ref q1, .ref q2, .ref q3, .ref q4, .int 0])), (q1, .inl (db_cy E 4, 6, .inr (.inr (.inr (.inr (va_up (va_up (va_up (va_up (fun _ => none) (0 : Int32).toNatClampNeg (some q5)) (1 : Int32).toNatClampNeg (some q10)) (2 : Int32).toNatClampNeg (some q15)) (3 : Int32).toNatClampNeg (some q20))))))), (q2, .inl (db_cy E 0, 12, .inl (fun _ => 0))), (q3, .inl (db_cy E 0, 12, .inl (fun _ => 0))), (q4, .inl (db_cy E 0, 12, .inl (fun _ => 0))), (q5, .inr (0, [.ref q7, .ref q8, .ref q9, .int 0, .int (-1 : Int32), .int 0])), (q7, .inl (db_cy E 0, 10, .inl (fun _ => 0))), (q8, .inl (db_cy E 0, 10, .inl (fun _ => 0))), (q9, .inl (db_cy E 0, 10, .inl (fun _ => 0))), (q10, .inr (0, [.ref q12, .ref q13, .ref q14, .int 0, .int (-1 : Int32), .int 0])), (q12, .inl (db_cy E 0, 10, .inl (fun _ => 0))), (q13, .inl (db_cy E 0, 10, .inl (fun _ => 0))), (q14, .inl (db_cy E 0, 10, .inl (fun _ => 0))), (q15, .inr (0, [.ref q17, .ref q18, .ref q19, .int 0, .int (-1 : Int32), .int 0])), (q17, .inl (db_cy E 0, 10, .inl (fun _ => 0))), (q18, .inl (db_cy E 0, 10, .inl (fun _ => 0))), (q19, .inl (db_cy E 0, 10, .inl (fun _ => 0))), (q20, .inr (0, [.ref q22, .ref q23, .ref q24, .int 0, .int (-1 : Int32), .int 0])), (q22, .inl (db_cy E 0, 10, .inl (fun _ => 0))), (q23, .inl (db_cy E 0, 10, .inl (fun _ => 0))), (q24, .inl (db_cy E 0, 10, .inl (fun _ => 0))), (q25, .inr (0, [.null, .null, .null, .int 0, .int 0, .int 0]))] H := hP
  have hD : va_D A [(h0, .inr (8, [.ref q1, .ref q2, .ref q3, .ref q4, .int 0])), (q1, .inl (db_cy E 4, 6, .inr (.inr (.inr (.inr (va_up (va_up (va_up (va_up (fun _ => none) (0 : Int32).toNatClampNeg (some q5)) (1 : Int32).toNatClampNeg (some q10)) (2 : Int32).toNatClampNeg (some q15)) (3 : Int32).toNatClampNeg (some q20))))))), (q2, .inl (db_cy E 0, 12, .inl (fun _ => 0))), (q3, .inl (db_cy E 0, 12, .inl (fun _ => 0))), (q4, .inl (db_cy E 0, 12, .inl (fun _ => 0))), (q5, .inr (0, [.ref q7, .ref q8, .ref q9, .int 0, .int (-1 : Int32), .int 0])), (q7, .inl (db_cy E 0, 10, .inl (fun _ => 0))), (q8, .inl (db_cy E 0, 10, .inl (fun _ => 0))), (q9, .inl (db_cy E 0, 10, .inl (fun _ => 0))), (q10, .inr (0, [.ref q12, .ref q13, .ref q14, .int 0, .int (-1 : Int32), .int 0])), (q12, .inl (db_cy E 0, 10, .inl (fun _ => 0))), (q13, .inl (db_cy E 0, 10, .inl (fun _ => 0))), (q14, .inl (db_cy E 0, 10, .inl (fun _ => 0))), (q15, .inr (0, [.ref q17, .ref q18, .ref q19, .int 0, .int (-1 : Int32), .int 0])), (q17, .inl (db_cy E 0, 10, .inl (fun _ => 0))), (q18, .inl (db_cy E 0, 10, .inl (fun _ => 0))), (q19, .inl (db_cy E 0, 10, .inl (fun _ => 0))), (q20, .inr (0, [.ref q22, .ref q23, .ref q24, .int 0, .int (-1 : Int32), .int 0])), (q22, .inl (db_cy E 0, 10, .inl (fun _ => 0))), (q23, .inl (db_cy E 0, 10, .inl (fun _ => 0))), (q24, .inl (db_cy E 0, 10, .inl (fun _ => 0))), (q25, .inr (0, [.null, .null, .null, .int 0, .int 0, .int 0]))] := hD
  refine W.widen (k := 21) (n := 192) (Nat.le_of_ble_eq_true rfl) (Nat.le_of_ble_eq_true rfl) ?_
  refine lv_dup hx hb dX8_init_53 rfl ?_
  have hPc := hP.sub (ws' := [(q25, .inr (0, [.null, .null, .null, .int 0, .int 0, .int 0]))]) [21] rfl
  have hDc := hD.sub (ws' := [(q25, .inr (0, [.null, .null, .null, .int 0, .int 0, .int 0]))]) [21] (by decide) rfl
  have hFc := va_free (wc := [(q25, .inr (0, [.null, .null, .null, .int 0, .int 0, .int 0]))]) hD hS hA [21] rfl
  refine va_callv (va_runIN (As := []) (rest := [.ref q25, .int (4 : Int32), .ref q1]) ⟨hx, hb, hml, hown, hts⟩ (ci_X0 l E q25  H.size) ⟨va_cnB 0 hts gX8_init_X0_init_n27 rfl rfl rfl (hN.1 ("DaysOnBread$Shelf", 27, ⟨"DaysOnBread$Book", "<init>", "()V"⟩, "DaysOnBread") (List.mem_of_getElem? (i := 0) rfl)) (hts (.initialized RX0) (List.mem_of_getElem? (i := 11) rfl)) (by decide +kernel) ⟨Nat.le_of_ble_eq_true rfl, Nat.le_of_ble_eq_true rfl⟩, rfl, (hts _ (List.mem_of_getElem? (i := 12) rfl))⟩ ⟨fun a U g mk q => by obtain ⟨q0, q1, qP, qK, qD⟩ := q; exact ⟨q0, q1, qP, va_K.moved (u := U) (U := U.calling g mk a) (Vm.Alike.refl U.vm) qK, qD⟩, fun U hU hW => ⟨rfl, by rw [hU], by rw [hU]; exact hPc, va_K.moved hW.alike hK, hDc.weaken (fun _ _ _ _ => trivial)⟩⟩ rfl rfl hl.1 rfl (lv_room (Nat.le_of_ble_eq_true rfl)) dX8_init_54 ⟨Nat.le_of_ble_eq_true rfl, Nat.le_of_ble_eq_true rfl⟩) hS (fun q _ h => hFc q h) hFc (fun u t H1 locs ht hvm hw hB hz1 hk1 hS => ?_)
  obtain ⟨b26, hP1, hD1⟩ := hB
  rw [ht] at hP1
  obtain ⟨hP, hD⟩ := va_join (wr := [(h0, .inr (8, [.ref q1, .ref q2, .ref q3, .ref q4, .int 0])), (q1, .inl (db_cy E 4, 6, .inr (.inr (.inr (.inr (va_up (va_up (va_up (va_up (fun _ => none) (0 : Int32).toNatClampNeg (some q5)) (1 : Int32).toNatClampNeg (some q10)) (2 : Int32).toNatClampNeg (some q15)) (3 : Int32).toNatClampNeg (some q20))))))), (q2, .inl (db_cy E 0, 12, .inl (fun _ => 0))), (q3, .inl (db_cy E 0, 12, .inl (fun _ => 0))), (q4, .inl (db_cy E 0, 12, .inl (fun _ => 0))), (q5, .inr (0, [.ref q7, .ref q8, .ref q9, .int 0, .int (-1 : Int32), .int 0])), (q7, .inl (db_cy E 0, 10, .inl (fun _ => 0))), (q8, .inl (db_cy E 0, 10, .inl (fun _ => 0))), (q9, .inl (db_cy E 0, 10, .inl (fun _ => 0))), (q10, .inr (0, [.ref q12, .ref q13, .ref q14, .int 0, .int (-1 : Int32), .int 0])), (q12, .inl (db_cy E 0, 10, .inl (fun _ => 0))), (q13, .inl (db_cy E 0, 10, .inl (fun _ => 0))), (q14, .inl (db_cy E 0, 10, .inl (fun _ => 0))), (q15, .inr (0, [.ref q17, .ref q18, .ref q19, .int 0, .int (-1 : Int32), .int 0])), (q17, .inl (db_cy E 0, 10, .inl (fun _ => 0))), (q18, .inl (db_cy E 0, 10, .inl (fun _ => 0))), (q19, .inl (db_cy E 0, 10, .inl (fun _ => 0))), (q20, .inr (0, [.ref q22, .ref q23, .ref q24, .int 0, .int (-1 : Int32), .int 0])), (q22, .inl (db_cy E 0, 10, .inl (fun _ => 0))), (q23, .inl (db_cy E 0, 10, .inl (fun _ => 0))), (q24, .inl (db_cy E 0, 10, .inl (fun _ => 0)))]) (w1 := [(q25, .inr (0, [.ref (b26 0), .ref (b26 1), .ref (b26 2), .int 0, .int (-1 : Int32), .int 0])), ((b26 0), .inl (db_cy E 0, 10, .inl (fun _ => 0))), ((b26 1), .inl (db_cy E 0, 10, .inl (fun _ => 0))), ((b26 2), .inl (db_cy E 0, 10, .inl (fun _ => 0)))]) hP hD [21] [0, 1, 2, 3, 4, 5, 6, 7, 8, 9, 10, 11, 12, 13, 14, 15, 16, 17, 18, 19, 20] rfl rfl (by decide) (by decide) hk1 hFc hP1 hD1
  generalize H1 = H at hP hS ⊢
  obtain ⟨q27, eq27⟩ : ∃ z_, z_ = b26 0 := ⟨_, rfl⟩
  obtain ⟨q28, eq28⟩ : ∃ z_, z_ = b26 1 := ⟨_, rfl⟩
  obtain ⟨q29, eq29⟩ : ∃ z_, z_ = b26 2 := ⟨_, rfl⟩
  simp only [← eq27, ← eq28, ← eq29] at hP hD
  have hP : va_P (db_G E) vwCl [(h0, .inr (8, [.ref q1, .ref q2, .ref q3, .ref q4, .int 0])), (q1, .inl (db_cy E 4, 6, .inr (.inr (.inr (.inr (va_up (va_up (va_up (va_up (fun _ => none) (0 : Int32).toNatClampNeg (some q5)) (1 : Int32).toNatClampNeg (some q10)) (2 : Int32).toNatClampNeg (some q15)) (3 : Int32).toNatClampNeg (some q20))))))), (q2, .inl (db_cy E 0, 12, .inl (fun _ => 0))), (q3, .inl (db_cy E 0, 12, .inl (fun _ => 0))), (q4, .inl (db_cy E 0, 12, .inl (fun _ => 0))), (q5, .inr (0, [.ref q7, .ref q8, .ref q9, .int 0, .int (-1 : Int32), .int 0])), (q7, .inl (db_cy E 0, 10, .inl (fun _ => 0))), (q8, .inl (db_cy E 0, 10, .inl (fun _ => 0))), (q9, .inl (db_cy E 0, 10, .inl (fun _ => 0))), (q10, .inr (0, [.ref q12, .ref q13, .ref q14, .int 0, .int (-1 : Int32), .int 0])), (q12, .inl (db_cy E 0, 10, .inl (fun _ => 0))), (q13, .inl (db_cy E 0, 10, .inl (fun _ => 0))), (q14, .inl (db_cy E 0, 10, .inl (fun _ => 0))), (q15, .inr (0, [.ref q17, .ref q18, .ref q19, .int 0, .int (-1 : Int32), .int 0])), (q17, .inl (db_cy E 0, 10, .inl (fun _ => 0))), (q18, .inl (db_cy E 0, 10, .inl (fun _ => 0))), (q19, .inl (db_cy E 0, 10, .inl (fun _ => 0))), (q20, .inr (0, [.ref q22, .ref q23, .ref q24, .int 0, .int (-1 : Int32), .int 0])), (q22, .inl (db_cy E 0, 10, .inl (fun _ => 0))), (q23, .inl (db_cy E 0, 10, .inl (fun _ => 0))), (q24, .inl (db_cy E 0, 10, .inl (fun _ => 0))), (q25, .inr (0, [.ref q27, .ref q28, .ref q29, .int 0, .int (-1 : Int32), .int 0])), (q27, .inl (db_cy E 0, 10, .inl (fun _ => 0))), (q28, .inl (db_cy E 0, 10, .inl (fun _ => 0))), (q29, .inl (db_cy E 0, 10, .inl (fun _ => 0)))] H := hP
  have hD : va_D A [(h0, .inr (8, [.ref q1, .ref q2, .ref q3, .ref q4, .int 0])), (q1, .inl (db_cy E 4, 6, .inr (.inr (.inr (.inr (va_up (va_up (va_up (va_up (fun _ => none) (0 : Int32).toNatClampNeg (some q5)) (1 : Int32).toNatClampNeg (some q10)) (2 : Int32).toNatClampNeg (some q15)) (3 : Int32).toNatClampNeg (some q20))))))), (q2, .inl (db_cy E 0, 12, .inl (fun _ => 0))), (q3, .inl (db_cy E 0, 12, .inl (fun _ => 0))), (q4, .inl (db_cy E 0, 12, .inl (fun _ => 0))), (q5, .inr (0, [.ref q7, .ref q8, .ref q9, .int 0, .int (-1 : Int32), .int 0])), (q7, .inl (db_cy E 0, 10, .inl (fun _ => 0))), (q8, .inl (db_cy E 0, 10, .inl (fun _ => 0))), (q9, .inl (db_cy E 0, 10, .inl (fun _ => 0))), (q10, .inr (0, [.ref q12, .ref q13, .ref q14, .int 0, .int (-1 : Int32), .int 0])), (q12, .inl (db_cy E 0, 10, .inl (fun _ => 0))), (q13, .inl (db_cy E 0, 10, .inl (fun _ => 0))), (q14, .inl (db_cy E 0, 10, .inl (fun _ => 0))), (q15, .inr (0, [.ref q17, .ref q18, .ref q19, .int 0, .int (-1 : Int32), .int 0])), (q17, .inl (db_cy E 0, 10, .inl (fun _ => 0))), (q18, .inl (db_cy E 0, 10, .inl (fun _ => 0))), (q19, .inl (db_cy E 0, 10, .inl (fun _ => 0))), (q20, .inr (0, [.ref q22, .ref q23, .ref q24, .int 0, .int (-1 : Int32), .int 0])), (q22, .inl (db_cy E 0, 10, .inl (fun _ => 0))), (q23, .inl (db_cy E 0, 10, .inl (fun _ => 0))), (q24, .inl (db_cy E 0, 10, .inl (fun _ => 0))), (q25, .inr (0, [.ref q27, .ref q28, .ref q29, .int 0, .int (-1 : Int32), .int 0])), (q27, .inl (db_cy E 0, 10, .inl (fun _ => 0))), (q28, .inl (db_cy E 0, 10, .inl (fun _ => 0))), (q29, .inl (db_cy E 0, 10, .inl (fun _ => 0)))] := hD
  refine W.widen (k := 24) (n := 222) (Nat.le_of_ble_eq_true rfl) (Nat.le_of_ble_eq_true rfl) ?_
  refine va_astq (D := db_G E) hx hb hK hP hD hS 1 4 21 0 (r := (RX0, TX0, 6)) rfl rfl rfl rfl (i := (4 : Int32)) (show ¬ ((4 : Int32) < 0 ∨ 6 ≤ (4 : Int32).toNatClampNeg) by decide) dX8_init_57 (fun H locs hP hD hS => ?_)
  have hP : va_P (db_G E) vwCl [(h0, .inr (8, [.ref q1, .ref q2, .ref q3, .ref q4, .int 0])), (q1, .inl (db_cy E 4, 6, .inr (.inr (.inr (.inr (va_up (va_up (va_up (va_up (va_up (fun _ => none) (0 : Int32).toNatClampNeg (some q5)) (1 : Int32).toNatClampNeg (some q10)) (2 : Int32).toNatClampNeg (some q15)) (3 : Int32).toNatClampNeg (some q20)) (4 : Int32).toNatClampNeg (some q25))))))), (q2, .inl (db_cy E 0, 12, .inl (fun _ => 0))), (q3, .inl (db_cy E 0, 12, .inl (fun _ => 0))), (q4, .inl (db_cy E 0, 12, .inl (fun _ => 0))), (q5, .inr (0, [.ref q7, .ref q8, .ref q9, .int 0, .int (-1 : Int32), .int 0])), (q7, .inl (db_cy E 0, 10, .inl (fun _ => 0))), (q8, .inl (db_cy E 0, 10, .inl (fun _ => 0))), (q9, .inl (db_cy E 0, 10, .inl (fun _ => 0))), (q10, .inr (0, [.ref q12, .ref q13, .ref q14, .int 0, .int (-1 : Int32), .int 0])), (q12, .inl (db_cy E 0, 10, .inl (fun _ => 0))), (q13, .inl (db_cy E 0, 10, .inl (fun _ => 0))), (q14, .inl (db_cy E 0, 10, .inl (fun _ => 0))), (q15, .inr (0, [.ref q17, .ref q18, .ref q19, .int 0, .int (-1 : Int32), .int 0])), (q17, .inl (db_cy E 0, 10, .inl (fun _ => 0))), (q18, .inl (db_cy E 0, 10, .inl (fun _ => 0))), (q19, .inl (db_cy E 0, 10, .inl (fun _ => 0))), (q20, .inr (0, [.ref q22, .ref q23, .ref q24, .int 0, .int (-1 : Int32), .int 0])), (q22, .inl (db_cy E 0, 10, .inl (fun _ => 0))), (q23, .inl (db_cy E 0, 10, .inl (fun _ => 0))), (q24, .inl (db_cy E 0, 10, .inl (fun _ => 0))), (q25, .inr (0, [.ref q27, .ref q28, .ref q29, .int 0, .int (-1 : Int32), .int 0])), (q27, .inl (db_cy E 0, 10, .inl (fun _ => 0))), (q28, .inl (db_cy E 0, 10, .inl (fun _ => 0))), (q29, .inl (db_cy E 0, 10, .inl (fun _ => 0)))] H := hP
  have hD : va_D A [(h0, .inr (8, [.ref q1, .ref q2, .ref q3, .ref q4, .int 0])), (q1, .inl (db_cy E 4, 6, .inr (.inr (.inr (.inr (va_up (va_up (va_up (va_up (va_up (fun _ => none) (0 : Int32).toNatClampNeg (some q5)) (1 : Int32).toNatClampNeg (some q10)) (2 : Int32).toNatClampNeg (some q15)) (3 : Int32).toNatClampNeg (some q20)) (4 : Int32).toNatClampNeg (some q25))))))), (q2, .inl (db_cy E 0, 12, .inl (fun _ => 0))), (q3, .inl (db_cy E 0, 12, .inl (fun _ => 0))), (q4, .inl (db_cy E 0, 12, .inl (fun _ => 0))), (q5, .inr (0, [.ref q7, .ref q8, .ref q9, .int 0, .int (-1 : Int32), .int 0])), (q7, .inl (db_cy E 0, 10, .inl (fun _ => 0))), (q8, .inl (db_cy E 0, 10, .inl (fun _ => 0))), (q9, .inl (db_cy E 0, 10, .inl (fun _ => 0))), (q10, .inr (0, [.ref q12, .ref q13, .ref q14, .int 0, .int (-1 : Int32), .int 0])), (q12, .inl (db_cy E 0, 10, .inl (fun _ => 0))), (q13, .inl (db_cy E 0, 10, .inl (fun _ => 0))), (q14, .inl (db_cy E 0, 10, .inl (fun _ => 0))), (q15, .inr (0, [.ref q17, .ref q18, .ref q19, .int 0, .int (-1 : Int32), .int 0])), (q17, .inl (db_cy E 0, 10, .inl (fun _ => 0))), (q18, .inl (db_cy E 0, 10, .inl (fun _ => 0))), (q19, .inl (db_cy E 0, 10, .inl (fun _ => 0))), (q20, .inr (0, [.ref q22, .ref q23, .ref q24, .int 0, .int (-1 : Int32), .int 0])), (q22, .inl (db_cy E 0, 10, .inl (fun _ => 0))), (q23, .inl (db_cy E 0, 10, .inl (fun _ => 0))), (q24, .inl (db_cy E 0, 10, .inl (fun _ => 0))), (q25, .inr (0, [.ref q27, .ref q28, .ref q29, .int 0, .int (-1 : Int32), .int 0])), (q27, .inl (db_cy E 0, 10, .inl (fun _ => 0))), (q28, .inl (db_cy E 0, 10, .inl (fun _ => 0))), (q29, .inl (db_cy E 0, 10, .inl (fun _ => 0)))] := hD
  refine lv_iinc (v := (5 : Int32)) (lv' := [(1, .int (5 : Int32)), (0, .ref h0)]) hx hb dX8_init_58 hl (k := 0) rfl (by decide) (by decide) rfl (fun ls hl => ?_)
  refine lv_goto (tgt := 39) hx hb dX8_init_61 (by decide) ?_
  refine lv_iload_n hx hb dX8_init_39 rfl (lv_at hl 0 rfl) ?_
  refine lv_bipush (v := (6 : Int32)) hx hb dX8_init_40 (by decide) ?_
  refine lv_icmp_ge (tgt := 64) hx hb dX8_init_42 (by decide) (fun c_ => absurd c_ (by decide)) (fun _ => ?_)
  refine lv_aload_n hx hb dX8_init_45 rfl (lv_at hl 1 rfl) ?_
  refine va_get (D := db_G E) (ci := 8) (v := .ref q1) (C := RX8) (T := TX8) (N := 5) hx hb hts hiX8 hown hK hP 0 rfl rfl 0 (by decide) (hts _ (List.mem_of_getElem? (i := 5) rfl)) (fun _ h9 => h9) rfl dX8_init_46 ?_
  refine lv_iload_n hx hb dX8_init_49 rfl (lv_at hl 0 rfl) ?_
  refine va_new (ci := 0) (fs := [.null, .null, .null, .int 0, .int 0, .int 0]) (C := RX0) (T := TX0) (N := 6) hx hb hts hiX0 tyX0 tyX0_ok hown (hts _ (List.mem_of_getElem? (i := 4) rfl)) (hts _ (List.mem_of_getElem? (i := 10) rfl)) (hts _ (List.mem_of_getElem? (i := 11) rfl)) hK hP hD hS hA rfl (fun j hj => by rcases (show j = 0 ∨ j = 1 ∨ j = 2 ∨ j = 3 ∨ j = 4 ∨ j = 5 by omega) with rfl | rfl | rfl | rfl | rfl | rfl <;> rfl) (Nat.le_of_ble_eq_true rfl) (Nat.le_of_ble_eq_true rfl) dX8_init_50 (fun q30 H hP hD hS => ?_)
  have hP : va_P (db_G E) vwCl [(h0, .inr (8, [.ref q1, .ref q2, .ref q3, .ref q4, .int 0])), (q1, .inl (db_cy E 4, 6, .inr (.inr (.inr (.inr (va_up (va_up (va_up (va_up (va_up (fun _ => none) (0 : Int32).toNatClampNeg (some q5)) (1 : Int32).toNatClampNeg (some q10)) (2 : Int32).toNatClampNeg (some q15)) (3 : Int32).toNatClampNeg (some q20)) (4 : Int32).toNatClampNeg (some q25))))))), (q2, .inl (db_cy E 0, 12, .inl (fun _ => 0))), (q3, .inl (db_cy E 0, 12, .inl (fun _ => 0))), (q4, .inl (db_cy E 0, 12, .inl (fun _ => 0))), (q5, .inr (0, [.ref q7, .ref q8, .ref q9, .int 0, .int (-1 : Int32), .int 0])), (q7, .inl (db_cy E 0, 10, .inl (fun _ => 0))), (q8, .inl (db_cy E 0, 10, .inl (fun _ => 0))), (q9, .inl (db_cy E 0, 10, .inl (fun _ => 0))), (q10, .inr (0, [.ref q12, .ref q13, .ref q14, .int 0, .int (-1 : Int32), .int 0])), (q12, .inl (db_cy E 0, 10, .inl (fun _ => 0))), (q13, .inl (db_cy E 0, 10, .inl (fun _ => 0))), (q14, .inl (db_cy E 0, 10, .inl (fun _ => 0))), (q15, .inr (0, [.ref q17, .ref q18, .ref q19, .int 0, .int (-1 : Int32), .int 0])), (q17, .inl (db_cy E 0, 10, .inl (fun _ => 0))), (q18, .inl (db_cy E 0, 10, .inl (fun _ => 0))), (q19, .inl (db_cy E 0, 10, .inl (fun _ => 0))), (q20, .inr (0, [.ref q22, .ref q23, .ref q24, .int 0, .int (-1 : Int32), .int 0])), (q22, .inl (db_cy E 0, 10, .inl (fun _ => 0))), (q23, .inl (db_cy E 0, 10, .inl (fun _ => 0))), (q24, .inl (db_cy E 0, 10, .inl (fun _ => 0))), (q25, .inr (0, [.ref q27, .ref q28, .ref q29, .int 0, .int (-1 : Int32), .int 0])), (q27, .inl (db_cy E 0, 10, .inl (fun _ => 0))), (q28, .inl (db_cy E 0, 10, .inl (fun _ => 0))), (q29, .inl (db_cy E 0, 10, .inl (fun _ => 0))), (q30, .inr (0, [.null, .null, .null, .int 0, .int 0, .int 0]))] H := hP
  have hD : va_D A [(h0, .inr (8, [.ref q1, .ref q2, .ref q3, .ref q4, .int 0])), (q1, .inl (db_cy E 4, 6, .inr (.inr (.inr (.inr (va_up (va_up (va_up (va_up (va_up (fun _ => none) (0 : Int32).toNatClampNeg (some q5)) (1 : Int32).toNatClampNeg (some q10)) (2 : Int32).toNatClampNeg (some q15)) (3 : Int32).toNatClampNeg (some q20)) (4 : Int32).toNatClampNeg (some q25))))))), (q2, .inl (db_cy E 0, 12, .inl (fun _ => 0))), (q3, .inl (db_cy E 0, 12, .inl (fun _ => 0))), (q4, .inl (db_cy E 0, 12, .inl (fun _ => 0))), (q5, .inr (0, [.ref q7, .ref q8, .ref q9, .int 0, .int (-1 : Int32), .int 0])), (q7, .inl (db_cy E 0, 10, .inl (fun _ => 0))), (q8, .inl (db_cy E 0, 10, .inl (fun _ => 0))), (q9, .inl (db_cy E 0, 10, .inl (fun _ => 0))), (q10, .inr (0, [.ref q12, .ref q13, .ref q14, .int 0, .int (-1 : Int32), .int 0])), (q12, .inl (db_cy E 0, 10, .inl (fun _ => 0))), (q13, .inl (db_cy E 0, 10, .inl (fun _ => 0))), (q14, .inl (db_cy E 0, 10, .inl (fun _ => 0))), (q15, .inr (0, [.ref q17, .ref q18, .ref q19, .int 0, .int (-1 : Int32), .int 0])), (q17, .inl (db_cy E 0, 10, .inl (fun _ => 0))), (q18, .inl (db_cy E 0, 10, .inl (fun _ => 0))), (q19, .inl (db_cy E 0, 10, .inl (fun _ => 0))), (q20, .inr (0, [.ref q22, .ref q23, .ref q24, .int 0, .int (-1 : Int32), .int 0])), (q22, .inl (db_cy E 0, 10, .inl (fun _ => 0))), (q23, .inl (db_cy E 0, 10, .inl (fun _ => 0))), (q24, .inl (db_cy E 0, 10, .inl (fun _ => 0))), (q25, .inr (0, [.ref q27, .ref q28, .ref q29, .int 0, .int (-1 : Int32), .int 0])), (q27, .inl (db_cy E 0, 10, .inl (fun _ => 0))), (q28, .inl (db_cy E 0, 10, .inl (fun _ => 0))), (q29, .inl (db_cy E 0, 10, .inl (fun _ => 0))), (q30, .inr (0, [.null, .null, .null, .int 0, .int 0, .int 0]))] := hD
  refine W.widen (k := 25) (n := 228) (Nat.le_of_ble_eq_true rfl) (Nat.le_of_ble_eq_true rfl) ?_
  refine lv_dup hx hb dX8_init_53 rfl ?_
  have hPc := hP.sub (ws' := [(q30, .inr (0, [.null, .null, .null, .int 0, .int 0, .int 0]))]) [25] rfl
  have hDc := hD.sub (ws' := [(q30, .inr (0, [.null, .null, .null, .int 0, .int 0, .int 0]))]) [25] (by decide) rfl
  have hFc := va_free (wc := [(q30, .inr (0, [.null, .null, .null, .int 0, .int 0, .int 0]))]) hD hS hA [25] rfl
  refine va_callv (va_runIN (As := []) (rest := [.ref q30, .int (5 : Int32), .ref q1]) ⟨hx, hb, hml, hown, hts⟩ (ci_X0 l E q30  H.size) ⟨va_cnB 0 hts gX8_init_X0_init_n27 rfl rfl rfl (hN.1 ("DaysOnBread$Shelf", 27, ⟨"DaysOnBread$Book", "<init>", "()V"⟩, "DaysOnBread") (List.mem_of_getElem? (i := 0) rfl)) (hts (.initialized RX0) (List.mem_of_getElem? (i := 11) rfl)) (by decide +kernel) ⟨Nat.le_of_ble_eq_true rfl, Nat.le_of_ble_eq_true rfl⟩, rfl, (hts _ (List.mem_of_getElem? (i := 12) rfl))⟩ ⟨fun a U g mk q => by obtain ⟨q0, q1, qP, qK, qD⟩ := q; exact ⟨q0, q1, qP, va_K.moved (u := U) (U := U.calling g mk a) (Vm.Alike.refl U.vm) qK, qD⟩, fun U hU hW => ⟨rfl, by rw [hU], by rw [hU]; exact hPc, va_K.moved hW.alike hK, hDc.weaken (fun _ _ _ _ => trivial)⟩⟩ rfl rfl hl.1 rfl (lv_room (Nat.le_of_ble_eq_true rfl)) dX8_init_54 ⟨Nat.le_of_ble_eq_true rfl, Nat.le_of_ble_eq_true rfl⟩) hS (fun q _ h => hFc q h) hFc (fun u t H1 locs ht hvm hw hB hz1 hk1 hS => ?_)
  obtain ⟨b31, hP1, hD1⟩ := hB
  rw [ht] at hP1
  obtain ⟨hP, hD⟩ := va_join (wr := [(h0, .inr (8, [.ref q1, .ref q2, .ref q3, .ref q4, .int 0])), (q1, .inl (db_cy E 4, 6, .inr (.inr (.inr (.inr (va_up (va_up (va_up (va_up (va_up (fun _ => none) (0 : Int32).toNatClampNeg (some q5)) (1 : Int32).toNatClampNeg (some q10)) (2 : Int32).toNatClampNeg (some q15)) (3 : Int32).toNatClampNeg (some q20)) (4 : Int32).toNatClampNeg (some q25))))))), (q2, .inl (db_cy E 0, 12, .inl (fun _ => 0))), (q3, .inl (db_cy E 0, 12, .inl (fun _ => 0))), (q4, .inl (db_cy E 0, 12, .inl (fun _ => 0))), (q5, .inr (0, [.ref q7, .ref q8, .ref q9, .int 0, .int (-1 : Int32), .int 0])), (q7, .inl (db_cy E 0, 10, .inl (fun _ => 0))), (q8, .inl (db_cy E 0, 10, .inl (fun _ => 0))), (q9, .inl (db_cy E 0, 10, .inl (fun _ => 0))), (q10, .inr (0, [.ref q12, .ref q13, .ref q14, .int 0, .int (-1 : Int32), .int 0])), (q12, .inl (db_cy E 0, 10, .inl (fun _ => 0))), (q13, .inl (db_cy E 0, 10, .inl (fun _ => 0))), (q14, .inl (db_cy E 0, 10, .inl (fun _ => 0))), (q15, .inr (0, [.ref q17, .ref q18, .ref q19, .int 0, .int (-1 : Int32), .int 0])), (q17, .inl (db_cy E 0, 10, .inl (fun _ => 0))), (q18, .inl (db_cy E 0, 10, .inl (fun _ => 0))), (q19, .inl (db_cy E 0, 10, .inl (fun _ => 0))), (q20, .inr (0, [.ref q22, .ref q23, .ref q24, .int 0, .int (-1 : Int32), .int 0])), (q22, .inl (db_cy E 0, 10, .inl (fun _ => 0))), (q23, .inl (db_cy E 0, 10, .inl (fun _ => 0))), (q24, .inl (db_cy E 0, 10, .inl (fun _ => 0))), (q25, .inr (0, [.ref q27, .ref q28, .ref q29, .int 0, .int (-1 : Int32), .int 0])), (q27, .inl (db_cy E 0, 10, .inl (fun _ => 0))), (q28, .inl (db_cy E 0, 10, .inl (fun _ => 0))), (q29, .inl (db_cy E 0, 10, .inl (fun _ => 0)))]) (w1 := [(q30, .inr (0, [.ref (b31 0), .ref (b31 1), .ref (b31 2), .int 0, .int (-1 : Int32), .int 0])), ((b31 0), .inl (db_cy E 0, 10, .inl (fun _ => 0))), ((b31 1), .inl (db_cy E 0, 10, .inl (fun _ => 0))), ((b31 2), .inl (db_cy E 0, 10, .inl (fun _ => 0)))]) hP hD [25] [0, 1, 2, 3, 4, 5, 6, 7, 8, 9, 10, 11, 12, 13, 14, 15, 16, 17, 18, 19, 20, 21, 22, 23, 24] rfl rfl (by decide) (by decide) hk1 hFc hP1 hD1
  generalize H1 = H at hP hS ⊢
  obtain ⟨q32, eq32⟩ : ∃ z_, z_ = b31 0 := ⟨_, rfl⟩
  obtain ⟨q33, eq33⟩ : ∃ z_, z_ = b31 1 := ⟨_, rfl⟩
  obtain ⟨q34, eq34⟩ : ∃ z_, z_ = b31 2 := ⟨_, rfl⟩
  simp only [← eq32, ← eq33, ← eq34] at hP hD
  have hP : va_P (db_G E) vwCl [(h0, .inr (8, [.ref q1, .ref q2, .ref q3, .ref q4, .int 0])), (q1, .inl (db_cy E 4, 6, .inr (.inr (.inr (.inr (va_up (va_up (va_up (va_up (va_up (fun _ => none) (0 : Int32).toNatClampNeg (some q5)) (1 : Int32).toNatClampNeg (some q10)) (2 : Int32).toNatClampNeg (some q15)) (3 : Int32).toNatClampNeg (some q20)) (4 : Int32).toNatClampNeg (some q25))))))), (q2, .inl (db_cy E 0, 12, .inl (fun _ => 0))), (q3, .inl (db_cy E 0, 12, .inl (fun _ => 0))), (q4, .inl (db_cy E 0, 12, .inl (fun _ => 0))), (q5, .inr (0, [.ref q7, .ref q8, .ref q9, .int 0, .int (-1 : Int32), .int 0])), (q7, .inl (db_cy E 0, 10, .inl (fun _ => 0))), (q8, .inl (db_cy E 0, 10, .inl (fun _ => 0))), (q9, .inl (db_cy E 0, 10, .inl (fun _ => 0))), (q10, .inr (0, [.ref q12, .ref q13, .ref q14, .int 0, .int (-1 : Int32), .int 0])), (q12, .inl (db_cy E 0, 10, .inl (fun _ => 0))), (q13, .inl (db_cy E 0, 10, .inl (fun _ => 0))), (q14, .inl (db_cy E 0, 10, .inl (fun _ => 0))), (q15, .inr (0, [.ref q17, .ref q18, .ref q19, .int 0, .int (-1 : Int32), .int 0])), (q17, .inl (db_cy E 0, 10, .inl (fun _ => 0))), (q18, .inl (db_cy E 0, 10, .inl (fun _ => 0))), (q19, .inl (db_cy E 0, 10, .inl (fun _ => 0))), (q20, .inr (0, [.ref q22, .ref q23, .ref q24, .int 0, .int (-1 : Int32), .int 0])), (q22, .inl (db_cy E 0, 10, .inl (fun _ => 0))), (q23, .inl (db_cy E 0, 10, .inl (fun _ => 0))), (q24, .inl (db_cy E 0, 10, .inl (fun _ => 0))), (q25, .inr (0, [.ref q27, .ref q28, .ref q29, .int 0, .int (-1 : Int32), .int 0])), (q27, .inl (db_cy E 0, 10, .inl (fun _ => 0))), (q28, .inl (db_cy E 0, 10, .inl (fun _ => 0))), (q29, .inl (db_cy E 0, 10, .inl (fun _ => 0))), (q30, .inr (0, [.ref q32, .ref q33, .ref q34, .int 0, .int (-1 : Int32), .int 0])), (q32, .inl (db_cy E 0, 10, .inl (fun _ => 0))), (q33, .inl (db_cy E 0, 10, .inl (fun _ => 0))), (q34, .inl (db_cy E 0, 10, .inl (fun _ => 0)))] H := hP
  have hD : va_D A [(h0, .inr (8, [.ref q1, .ref q2, .ref q3, .ref q4, .int 0])), (q1, .inl (db_cy E 4, 6, .inr (.inr (.inr (.inr (va_up (va_up (va_up (va_up (va_up (fun _ => none) (0 : Int32).toNatClampNeg (some q5)) (1 : Int32).toNatClampNeg (some q10)) (2 : Int32).toNatClampNeg (some q15)) (3 : Int32).toNatClampNeg (some q20)) (4 : Int32).toNatClampNeg (some q25))))))), (q2, .inl (db_cy E 0, 12, .inl (fun _ => 0))), (q3, .inl (db_cy E 0, 12, .inl (fun _ => 0))), (q4, .inl (db_cy E 0, 12, .inl (fun _ => 0))), (q5, .inr (0, [.ref q7, .ref q8, .ref q9, .int 0, .int (-1 : Int32), .int 0])), (q7, .inl (db_cy E 0, 10, .inl (fun _ => 0))), (q8, .inl (db_cy E 0, 10, .inl (fun _ => 0))), (q9, .inl (db_cy E 0, 10, .inl (fun _ => 0))), (q10, .inr (0, [.ref q12, .ref q13, .ref q14, .int 0, .int (-1 : Int32), .int 0])), (q12, .inl (db_cy E 0, 10, .inl (fun _ => 0))), (q13, .inl (db_cy E 0, 10, .inl (fun _ => 0))), (q14, .inl (db_cy E 0, 10, .inl (fun _ => 0))), (q15, .inr (0, [.ref q17, .ref q18, .ref q19, .int 0, .int (-1 : Int32), .int 0])), (q17, .inl (db_cy E 0, 10, .inl (fun _ => 0))), (q18, .inl (db_cy E 0, 10, .inl (fun _ => 0))), (q19, .inl (db_cy E 0, 10, .inl (fun _ => 0))), (q20, .inr (0, [.ref q22, .ref q23, .ref q24, .int 0, .int (-1 : Int32), .int 0])), (q22, .inl (db_cy E 0, 10, .inl (fun _ => 0))), (q23, .inl (db_cy E 0, 10, .inl (fun _ => 0))), (q24, .inl (db_cy E 0, 10, .inl (fun _ => 0))), (q25, .inr (0, [.ref q27, .ref q28, .ref q29, .int 0, .int (-1 : Int32), .int 0])), (q27, .inl (db_cy E 0, 10, .inl (fun _ => 0))), (q28, .inl (db_cy E 0, 10, .inl (fun _ => 0))), (q29, .inl (db_cy E 0, 10, .inl (fun _ => 0))), (q30, .inr (0, [.ref q32, .ref q33, .ref q34, .int 0, .int (-1 : Int32), .int 0])), (q32, .inl (db_cy E 0, 10, .inl (fun _ => 0))), (q33, .inl (db_cy E 0, 10, .inl (fun _ => 0))), (q34, .inl (db_cy E 0, 10, .inl (fun _ => 0)))] := hD
  refine W.widen (k := 28) (n := 258) (Nat.le_of_ble_eq_true rfl) (Nat.le_of_ble_eq_true rfl) ?_
  refine va_astq (D := db_G E) hx hb hK hP hD hS 1 4 25 0 (r := (RX0, TX0, 6)) rfl rfl rfl rfl (i := (5 : Int32)) (show ¬ ((5 : Int32) < 0 ∨ 6 ≤ (5 : Int32).toNatClampNeg) by decide) dX8_init_57 (fun H locs hP hD hS => ?_)
  have hP : va_P (db_G E) vwCl [(h0, .inr (8, [.ref q1, .ref q2, .ref q3, .ref q4, .int 0])), (q1, .inl (db_cy E 4, 6, .inr (.inr (.inr (.inr (va_up (va_up (va_up (va_up (va_up (va_up (fun _ => none) (0 : Int32).toNatClampNeg (some q5)) (1 : Int32).toNatClampNeg (some q10)) (2 : Int32).toNatClampNeg (some q15)) (3 : Int32).toNatClampNeg (some q20)) (4 : Int32).toNatClampNeg (some q25)) (5 : Int32).toNatClampNeg (some q30))))))), (q2, .inl (db_cy E 0, 12, .inl (fun _ => 0))), (q3, .inl (db_cy E 0, 12, .inl (fun _ => 0))), (q4, .inl (db_cy E 0, 12, .inl (fun _ => 0))), (q5, .inr (0, [.ref q7, .ref q8, .ref q9, .int 0, .int (-1 : Int32), .int 0])), (q7, .inl (db_cy E 0, 10, .inl (fun _ => 0))), (q8, .inl (db_cy E 0, 10, .inl (fun _ => 0))), (q9, .inl (db_cy E 0, 10, .inl (fun _ => 0))), (q10, .inr (0, [.ref q12, .ref q13, .ref q14, .int 0, .int (-1 : Int32), .int 0])), (q12, .inl (db_cy E 0, 10, .inl (fun _ => 0))), (q13, .inl (db_cy E 0, 10, .inl (fun _ => 0))), (q14, .inl (db_cy E 0, 10, .inl (fun _ => 0))), (q15, .inr (0, [.ref q17, .ref q18, .ref q19, .int 0, .int (-1 : Int32), .int 0])), (q17, .inl (db_cy E 0, 10, .inl (fun _ => 0))), (q18, .inl (db_cy E 0, 10, .inl (fun _ => 0))), (q19, .inl (db_cy E 0, 10, .inl (fun _ => 0))), (q20, .inr (0, [.ref q22, .ref q23, .ref q24, .int 0, .int (-1 : Int32), .int 0])), (q22, .inl (db_cy E 0, 10, .inl (fun _ => 0))), (q23, .inl (db_cy E 0, 10, .inl (fun _ => 0))), (q24, .inl (db_cy E 0, 10, .inl (fun _ => 0))), (q25, .inr (0, [.ref q27, .ref q28, .ref q29, .int 0, .int (-1 : Int32), .int 0])), (q27, .inl (db_cy E 0, 10, .inl (fun _ => 0))), (q28, .inl (db_cy E 0, 10, .inl (fun _ => 0))), (q29, .inl (db_cy E 0, 10, .inl (fun _ => 0))), (q30, .inr (0, [.ref q32, .ref q33, .ref q34, .int 0, .int (-1 : Int32), .int 0])), (q32, .inl (db_cy E 0, 10, .inl (fun _ => 0))), (q33, .inl (db_cy E 0, 10, .inl (fun _ => 0))), (q34, .inl (db_cy E 0, 10, .inl (fun _ => 0)))] H := hP
  have hD : va_D A [(h0, .inr (8, [.ref q1, .ref q2, .ref q3, .ref q4, .int 0])), (q1, .inl (db_cy E 4, 6, .inr (.inr (.inr (.inr (va_up (va_up (va_up (va_up (va_up (va_up (fun _ => none) (0 : Int32).toNatClampNeg (some q5)) (1 : Int32).toNatClampNeg (some q10)) (2 : Int32).toNatClampNeg (some q15)) (3 : Int32).toNatClampNeg (some q20)) (4 : Int32).toNatClampNeg (some q25)) (5 : Int32).toNatClampNeg (some q30))))))), (q2, .inl (db_cy E 0, 12, .inl (fun _ => 0))), (q3, .inl (db_cy E 0, 12, .inl (fun _ => 0))), (q4, .inl (db_cy E 0, 12, .inl (fun _ => 0))), (q5, .inr (0, [.ref q7, .ref q8, .ref q9, .int 0, .int (-1 : Int32), .int 0])), (q7, .inl (db_cy E 0, 10, .inl (fun _ => 0))), (q8, .inl (db_cy E 0, 10, .inl (fun _ => 0))), (q9, .inl (db_cy E 0, 10, .inl (fun _ => 0))), (q10, .inr (0, [.ref q12, .ref q13, .ref q14, .int 0, .int (-1 : Int32), .int 0])), (q12, .inl (db_cy E 0, 10, .inl (fun _ => 0))), (q13, .inl (db_cy E 0, 10, .inl (fun _ => 0))), (q14, .inl (db_cy E 0, 10, .inl (fun _ => 0))), (q15, .inr (0, [.ref q17, .ref q18, .ref q19, .int 0, .int (-1 : Int32), .int 0])), (q17, .inl (db_cy E 0, 10, .inl (fun _ => 0))), (q18, .inl (db_cy E 0, 10, .inl (fun _ => 0))), (q19, .inl (db_cy E 0, 10, .inl (fun _ => 0))), (q20, .inr (0, [.ref q22, .ref q23, .ref q24, .int 0, .int (-1 : Int32), .int 0])), (q22, .inl (db_cy E 0, 10, .inl (fun _ => 0))), (q23, .inl (db_cy E 0, 10, .inl (fun _ => 0))), (q24, .inl (db_cy E 0, 10, .inl (fun _ => 0))), (q25, .inr (0, [.ref q27, .ref q28, .ref q29, .int 0, .int (-1 : Int32), .int 0])), (q27, .inl (db_cy E 0, 10, .inl (fun _ => 0))), (q28, .inl (db_cy E 0, 10, .inl (fun _ => 0))), (q29, .inl (db_cy E 0, 10, .inl (fun _ => 0))), (q30, .inr (0, [.ref q32, .ref q33, .ref q34, .int 0, .int (-1 : Int32), .int 0])), (q32, .inl (db_cy E 0, 10, .inl (fun _ => 0))), (q33, .inl (db_cy E 0, 10, .inl (fun _ => 0))), (q34, .inl (db_cy E 0, 10, .inl (fun _ => 0)))] := hD
  refine lv_iinc (v := (6 : Int32)) (lv' := [(1, .int (6 : Int32)), (0, .ref h0)]) hx hb dX8_init_58 hl (k := 0) rfl (by decide) (by decide) rfl (fun ls hl => ?_)
  refine lv_goto (tgt := 39) hx hb dX8_init_61 (by decide) ?_
  refine lv_iload_n hx hb dX8_init_39 rfl (lv_at hl 0 rfl) ?_
  refine lv_bipush (v := (6 : Int32)) hx hb dX8_init_40 (by decide) ?_
  refine lv_icmp_ge (tgt := 64) hx hb dX8_init_42 (by decide) (fun _ => ?_) (fun c_ => absurd (show (6 : Int32) ≤ (6 : Int32) by decide) c_)
  subst hAe
  exact W.vret hx hb hr (fun t ht hW => ⟨⟨(), rfl, trivial, (fun k_ => ([q1, q2, q3, q4, q5, q7, q8, q9, q10, q12, q13, q14, q15, q17, q18, q19, q20, q22, q23, q24, q25, q27, q28, q29, q30, q32, q33, q34] : List Nat).getD k_ 0), by rw [ht]; exact hP, hD⟩, hS.F ht⟩) hS.2.2 dX8_init_64
