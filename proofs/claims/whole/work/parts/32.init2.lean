abbrev rs_X10 (E : db_E) (h0 : Nat) (q1 : Nat) (q2 : Nat) (q4 : Nat) (q6 : Nat) (q8 : Nat) (q10 : Nat) (q12 : Nat) (q14 : Nat) (q16 : Nat) (q18 : Nat) (q20 : Nat) (q22 : Nat) (q24 : Nat) (q26 : Nat) (b3 : Nat → Nat) (b5 : Nat → Nat) (b7 : Nat → Nat) (b9 : Nat → Nat) (b11 : Nat → Nat) (b13 : Nat → Nat) (b15 : Nat → Nat) (b17 : Nat → Nat) (b19 : Nat → Nat) (b21 : Nat → Nat) (b23 : Nat → Nat) (b25 : Nat → Nat) (b27 : Nat → Nat) : va_W := [(h0, .inr (10, [.ref q1, .ref q2, .ref q4, .ref q6, .ref q8, .ref q10, .ref q12, .ref q14, .ref q16, .ref q18, .ref q20, .ref q22, .ref q24, .ref q26, .int 0]))] ++ ((rs_X5 E q26  b27) ++ ((rs_X4 E q24  b25) ++ ((rs_X8 E q22  b23) ++ ((rs_X6 E q20 q12 b21) ++ ((rs_X9 E q18 q12 b19) ++ ((rs_X1 E q16 q10 b17) ++ ((rs_X3 E q14 q10 b15) ++ ((rs_X5 E q12  b13) ++ ((rs_X4 E q10  b11) ++ ((rs_X8 E q8  b9) ++ ((rs_X7 E q6 q2 b7) ++ ((rs_X2_100 E q4  b5) ++ ((rs_X2_16 E q2  b3) ++ ([(q1, .inl (db_cy E 0, 7, .inl (fun _ => 0)))] ++ ([] : va_W)))))))))))))))
abbrev rmi_X10 : Room := { frames := 3, cells := 89, slots := 12722, locals := 61 }
set_option maxHeartbeats 8000000 in
set_option maxRecDepth 100000 in
theorem ci_X10 (l : Launch) (E : db_E) (h0 : Nat) (sz : Nat) : Met l yX10_init wsX10_init rmi_X10 (va_Pc [.ref h0] (fun U => U.heap.size = sz ∧ va_P (db_G E) vwCl [(h0, .inr (10, [.null, .null, .null, .null, .null, .null, .null, .null, .null, .null, .null, .null, .null, .null, .int 0]))] U.heap ∧ va_K (db_G E) vwCl (db_tys E) U ∧ va_D (fun _ => True) [(h0, .inr (10, [.null, .null, .null, .null, .null, .null, .null, .null, .null, .null, .null, .null, .null, .null, .int 0]))] ∧ db_nI U ∧ db_AT E (va_A [(h0, .inr (10, [.null, .null, .null, .null, .null, .null, .null, .null, .null, .null, .null, .null, .null, .null, .int 0]))] U.heap.size) U U.heap)) (va_Qv (fun _ : Unit => True) (fun _ t => ∃ (q1 : Nat) (q2 : Nat) (q4 : Nat) (q6 : Nat) (q8 : Nat) (q10 : Nat) (q12 : Nat) (q14 : Nat) (q16 : Nat) (q18 : Nat) (q20 : Nat) (q22 : Nat) (q24 : Nat) (q26 : Nat) (b3 : Nat → Nat) (b5 : Nat → Nat) (b7 : Nat → Nat) (b9 : Nat → Nat) (b11 : Nat → Nat) (b13 : Nat → Nat) (b15 : Nat → Nat) (b17 : Nat → Nat) (b19 : Nat → Nat) (b21 : Nat → Nat) (b23 : Nat → Nat) (b25 : Nat → Nat) (b27 : Nat → Nat), va_P (db_G E) vwCl (rs_X10 E h0 q1 q2 q4 q6 q8 q10 q12 q14 q16 q18 q20 q22 q24 q26 b3 b5 b7 b9 b11 b13 b15 b17 b19 b21 b23 b25 b27) t.heap ∧ va_D (va_A [(h0, .inr (10, [.null, .null, .null, .null, .null, .null, .null, .null, .null, .null, .null, .null, .null, .null, .int 0]))] sz) (rs_X10 E h0 q1 q2 q4 q6 q8 q10 q12 q14 q16 q18 q20 q22 q24 q26 b3 b5 b7 b9 b11 b13 b15 b17 b19 b21 b23 b25 b27)) (va_A [(h0, .inr (10, [.null, .null, .null, .null, .null, .null, .null, .null, .null, .null, .null, .null, .null, .null, .int 0]))] sz)) 89 12722 (va_A [(h0, .inr (10, [.null, .null, .null, .null, .null, .null, .null, .null, .null, .null, .null, .null, .null, .null, .int 0]))] sz) := by
  refine Met.ofW (cc := cX10_init) (maxL := 1) (ret := none) (by decide) rfl ?_
  intro p e s m args below meth c s₁ B hml hv
  obtain ⟨rfl, hsz, hP, hK, hD0, hN, hT⟩ := hv
  have hx := B.exec
  have hb := B.bytes
  have hr := B.returns
  have hts := atoms_spec (ws := wsX10_init) B.pre
  have hown : s.vm.findClass RX10 = some m.cls := findClass_of_methodNamed B.named
  have hlocks := B.notSynchronized
  have hin : meth.name = "<init>" := (name_of_methodNamed B.named B.method).1
  subst hsz
  have hD := hD0.self (sz := s.heap.size)
  generalize hAe : va_A [(h0, .inr (10, [.null, .null, .null, .null, .null, .null, .null, .null, .null, .null, .null, .null, .null, .null, .int 0]))] s.heap.size = A at hD hT ⊢
  have hA : ∀ q : Nat, s.heap.size ≤ q → A q := fun q h => by rw [← hAe]; exact Or.inr h
  have hS : va_S A s.heap s.heap [] := va_S.rf
  have hiX10 : ∀ w ∈ wsX100, w ∈ wsX10_init := fun w_ h_ => List.mem_cons_of_mem _ (List.mem_append_left _ (List.mem_append_left _ (List.mem_append_left _ (List.mem_append_left _ (List.mem_append_left _ (List.mem_append_left _ (List.mem_append_left _ (List.mem_append_left _ (List.mem_append_left _ (List.mem_append_left _ (List.mem_append_right _ h_)))))))))))
  have hiX2 : ∀ w ∈ wsX20, w ∈ wsX10_init := fun w_ h_ => List.mem_cons_of_mem _ (List.mem_append_left _ (List.mem_append_left _ (List.mem_append_left _ (List.mem_append_left _ (List.mem_append_left _ (List.mem_append_left _ (List.mem_append_left _ (List.mem_append_left _ (List.mem_append_left _ (List.mem_append_right _ h_))))))))))
  have hiX7 : ∀ w ∈ wsX70, w ∈ wsX10_init := fun w_ h_ => List.mem_cons_of_mem _ (List.mem_append_left _ (List.mem_append_left _ (List.mem_append_left _ (List.mem_append_left _ (List.mem_append_left _ (List.mem_append_left _ (List.mem_append_left _ (List.mem_append_left _ (List.mem_append_right _ h_)))))))))
  have hiX8 : ∀ w ∈ wsX80, w ∈ wsX10_init := fun w_ h_ => List.mem_cons_of_mem _ (List.mem_append_left _ (List.mem_append_left _ (List.mem_append_left _ (List.mem_append_left _ (List.mem_append_left _ (List.mem_append_left _ (List.mem_append_left _ (List.mem_append_right _ h_))))))))
  have hiX4 : ∀ w ∈ wsX40, w ∈ wsX10_init := fun w_ h_ => List.mem_cons_of_mem _ (List.mem_append_left _ (List.mem_append_left _ (List.mem_append_left _ (List.mem_append_left _ (List.mem_append_left _ (List.mem_append_left _ (List.mem_append_right _ h_)))))))
  have hiX5 : ∀ w ∈ wsX50, w ∈ wsX10_init := fun w_ h_ => List.mem_cons_of_mem _ (List.mem_append_left _ (List.mem_append_left _ (List.mem_append_left _ (List.mem_append_left _ (List.mem_append_left _ (List.mem_append_right _ h_))))))
  have hiX3 : ∀ w ∈ wsX30, w ∈ wsX10_init := fun w_ h_ => List.mem_cons_of_mem _ (List.mem_append_left _ (List.mem_append_left _ (List.mem_append_left _ (List.mem_append_left _ (List.mem_append_right _ h_)))))
  have hiX1 : ∀ w ∈ wsX10, w ∈ wsX10_init := fun w_ h_ => List.mem_cons_of_mem _ (List.mem_append_left _ (List.mem_append_left _ (List.mem_append_left _ (List.mem_append_right _ h_))))
  have hiX9 : ∀ w ∈ wsX90, w ∈ wsX10_init := fun w_ h_ => List.mem_cons_of_mem _ (List.mem_append_left _ (List.mem_append_left _ (List.mem_append_right _ h_)))
  have hiX6 : ∀ w ∈ wsX60, w ∈ wsX10_init := fun w_ h_ => List.mem_cons_of_mem _ (List.mem_append_left _ (List.mem_append_right _ h_))
  have hl := lv_entry ([.ref h0]) (n := 1) (Nat.le_of_ble_eq_true rfl)
  rw [lg_entry_eq]
  generalize (lg_sl ([.ref h0]) ++ List.replicate (1 - (lg_sl ([.ref h0])).length) Slot.unset).toArray = ls at hl ⊢
  have hl : lv_has ls 1 [(0, .ref h0)] := hl
  have hP : va_P (db_G E) vwCl ([(h0, .inr (10, [.null, .null, .null, .null, .null, .null, .null, .null, .null, .null, .null, .null, .null, .null, .int 0]))] ++ ([] : va_W)) s.heap := hP
  have hD : va_D A ([(h0, .inr (10, [.null, .null, .null, .null, .null, .null, .null, .null, .null, .null, .null, .null, .null, .null, .int 0]))] ++ ([] : va_W)) := hD
  refine lv_aload_n hx hb dX10_init_0 rfl (lv_at hl 0 rfl) ?_
  refine W.objInit hx hb hown (hts _ (List.mem_of_getElem? (i := 1) rfl)) (hts _ (List.mem_of_getElem? (i := 2) rfl)) (hts _ (List.mem_of_getElem? (i := 3) rfl)) rfl (by rw [hml]; exact hl.1) rfl dX10_init_1 (Nat.le_of_ble_eq_true rfl) (Nat.le_of_ble_eq_true rfl) ?_
  refine W.eq (g2 := F0 m 4 ls []) rfl ?_
  refine lv_aload_n hx hb dX10_init_4 rfl (lv_at hl 0 rfl) ?_
  refine lv_bipush (v := (7 : Int32)) hx hb dX10_init_5 (by decide) ?_
  refine di_newint hx hb (hts _ (List.mem_of_getElem? (i := 4) rfl)) hK hP hD hS hA (n := (7 : Int32)) (N := 7) (by decide) (by decide) (Nat.le_of_ble_eq_true rfl) (Nat.le_of_ble_eq_true rfl) (Nat.le_of_ble_eq_true rfl) dX10_init_7 (fun q1 H hP hD hS => ?_)
  have hP := di_mvP hP
  have hD := di_mvD hD
  have hP : va_P (db_G E) vwCl ([(h0, .inr (10, [.null, .null, .null, .null, .null, .null, .null, .null, .null, .null, .null, .null, .null, .null, .int 0])), (q1, .inl (db_cy E 0, 7, .inl (fun _ => 0)))] ++ ([] : va_W)) H := hP
  have hD : va_D A ([(h0, .inr (10, [.null, .null, .null, .null, .null, .null, .null, .null, .null, .null, .null, .null, .null, .null, .int 0])), (q1, .inl (db_cy E 0, 7, .inl (fun _ => 0)))] ++ ([] : va_W)) := hD
  refine W.widen (k := 1) (n := 7) (Nat.le_of_ble_eq_true rfl) (Nat.le_of_ble_eq_true rfl) ?_
  obtain ⟨G1, eG1⟩ : ∃ z_ : va_W, z_ = [(q1, .inl (db_cy E 0, 7, .inl (fun _ => 0)))] ++ ([] : va_W) := ⟨_, rfl⟩
  have hP : va_P (db_G E) vwCl ([(h0, .inr (10, [.null, .null, .null, .null, .null, .null, .null, .null, .null, .null, .null, .null, .null, .null, .int 0]))] ++ ([(q1, .inl (db_cy E 0, 7, .inl (fun _ => 0)))] ++ ([] : va_W))) H := hP
  have hD : va_D A ([(h0, .inr (10, [.null, .null, .null, .null, .null, .null, .null, .null, .null, .null, .null, .null, .null, .null, .int 0]))] ++ ([(q1, .inl (db_cy E 0, 7, .inl (fun _ => 0)))] ++ ([] : va_W))) := hD
  rw [← eG1] at hP hD
  refine va_putF (D := db_G E) (ci := 10) (v := .ref q1) (ty := tyX10 0) (C := RX10) (T := TX10) (N := 15) hx hb hts hiX10 tyX10 tyX10_ok nmX10 hown hK hP hD hS 0 rfl rfl 0 (by decide) (hts _ (List.mem_of_getElem? (i := 5) rfl)) (fun _ h9 => h9) rfl hin rfl (tyX10_ok 0 (by decide)) rfl rfl (Nat.le_of_ble_eq_true rfl) dX10_init_9 (fun H locs hP hD hS => ?_)
  have hP : va_P (db_G E) vwCl ([(h0, .inr (10, [.ref q1, .null, .null, .null, .null, .null, .null, .null, .null, .null, .null, .null, .null, .null, .int 0]))] ++ G1) H := hP
  have hD : va_D A ([(h0, .inr (10, [.ref q1, .null, .null, .null, .null, .null, .null, .null, .null, .null, .null, .null, .null, .null, .int 0]))] ++ G1) := hD
  refine lv_aload_n hx hb dX10_init_12 rfl (lv_at hl 0 rfl) ?_
  refine va_new (ci := 2) (fs := [.null, .int 0]) (C := RX2) (T := TX2) (N := 2) hx hb hts hiX2 tyX2 tyX2_ok hown (hts _ (List.mem_of_getElem? (i := 6) rfl)) (hts _ (List.mem_of_getElem? (i := 7) rfl)) (hts _ (List.mem_of_getElem? (i := 8) rfl)) hK hP hD hS hA rfl (fun j hj => by rcases (show j = 0 ∨ j = 1 by omega) with rfl | rfl <;> rfl) (Nat.le_of_ble_eq_true rfl) (Nat.le_of_ble_eq_true rfl) dX10_init_13 (fun q2 H hP hD hS => ?_)
  have hP := di_mvP hP
  have hD := di_mvD hD
  have hP : va_P (db_G E) vwCl ([(h0, .inr (10, [.ref q1, .null, .null, .null, .null, .null, .null, .null, .null, .null, .null, .null, .null, .null, .int 0])), (q2, .inr (2, [.null, .int 0]))] ++ G1) H := hP
  have hD : va_D A ([(h0, .inr (10, [.ref q1, .null, .null, .null, .null, .null, .null, .null, .null, .null, .null, .null, .null, .null, .int 0])), (q2, .inr (2, [.null, .int 0]))] ++ G1) := hD
  refine W.widen (k := 2) (n := 9) (Nat.le_of_ble_eq_true rfl) (Nat.le_of_ble_eq_true rfl) ?_
  refine lv_dup hx hb dX10_init_16 rfl ?_
  refine lv_bipush (v := (16 : Int32)) hx hb dX10_init_17 (by decide) ?_
  have hPc := hP.sub (ws' := [(q2, .inr (2, [.null, .int 0]))]) [1] rfl
  have hDc := hD.sub (ws' := [(q2, .inr (2, [.null, .int 0]))]) [1] (by decide) rfl
  have hFc := va_free (wc := [(q2, .inr (2, [.null, .int 0]))]) hD hS hA [1] rfl
  refine va_callv (va_runI (As := [.int (16 : Int32)]) (rest := [.ref q2, .ref h0]) ⟨hx, hb, hml, hown, hts⟩ (ci_X2_16 l E q2  H.size) (cwI 1 hts gX10_init_X2_init rfl rfl rfl (hts (.initialized RX2) (List.mem_of_getElem? (i := 8) rfl)) (hts _ (List.mem_of_getElem? (i := 46) rfl)) (hts _ (List.mem_of_getElem? (i := 47) rfl)) rfl (by decide +kernel) ⟨Nat.le_of_ble_eq_true rfl, Nat.le_of_ble_eq_true rfl⟩) ⟨fun a U g mk q => by obtain ⟨q0, q1, qP, qK, qD⟩ := q; exact ⟨q0, q1, qP, va_K.moved (u := U) (U := U.calling g mk a) (Vm.Alike.refl U.vm) qK, qD⟩, fun U hU hW => ⟨rfl, by rw [hU], by rw [hU]; exact hPc, va_K.moved hW.alike hK, hDc.weaken (fun _ _ _ _ => trivial)⟩⟩ rfl rfl hl.1 rfl (lv_room (Nat.le_of_ble_eq_true rfl)) dX10_init_19 ⟨Nat.le_of_ble_eq_true rfl, Nat.le_of_ble_eq_true rfl⟩) hS (fun q _ h => hFc q h) hFc (fun u t H1 locs ht hvm hw hB hz1 hk1 hS => ?_)
  obtain ⟨b3, hP1, hD1⟩ := hB
  rw [ht] at hP1
  obtain ⟨hP, hD⟩ := di_join (F := [(h0, .inr (10, [.ref q1, .null, .null, .null, .null, .null, .null, .null, .null, .null, .null, .null, .null, .null, .int 0]))]) (x := (q2, .inr (2, [.null, .int 0]))) (w1 := rs_X2_16 E q2  b3) hP hD hk1 hFc hP1 hD1
  generalize H1 = H at hP hS ⊢
  obtain ⟨G2, eG2⟩ : ∃ z_ : va_W, z_ = (rs_X2_16 E q2  b3) ++ G1 := ⟨_, rfl⟩
  rw [← eG2] at hP hD
  refine W.widen (k := 3) (n := 25) (Nat.le_of_ble_eq_true rfl) (Nat.le_of_ble_eq_true rfl) ?_
  refine va_putF (D := db_G E) (ci := 10) (v := .ref q2) (ty := tyX10 1) (C := RX10) (T := TX10) (N := 15) hx hb hts hiX10 tyX10 tyX10_ok nmX10 hown hK hP hD hS 0 rfl rfl 1 (by decide) (hts _ (List.mem_of_getElem? (i := 9) rfl)) (fun _ h9 => h9) rfl hin rfl (tyX10_ok 1 (by decide)) rfl rfl (Nat.le_of_ble_eq_true rfl) dX10_init_22 (fun H locs hP hD hS => ?_)
  have hP : va_P (db_G E) vwCl ([(h0, .inr (10, [.ref q1, .ref q2, .null, .null, .null, .null, .null, .null, .null, .null, .null, .null, .null, .null, .int 0]))] ++ G2) H := hP
  have hD : va_D A ([(h0, .inr (10, [.ref q1, .ref q2, .null, .null, .null, .null, .null, .null, .null, .null, .null, .null, .null, .null, .int 0]))] ++ G2) := hD
  refine lv_aload_n hx hb dX10_init_25 rfl (lv_at hl 0 rfl) ?_
  refine va_new (ci := 2) (fs := [.null, .int 0]) (C := RX2) (T := TX2) (N := 2) hx hb hts hiX2 tyX2 tyX2_ok hown (hts _ (List.mem_of_getElem? (i := 6) rfl)) (hts _ (List.mem_of_getElem? (i := 7) rfl)) (hts _ (List.mem_of_getElem? (i := 8) rfl)) hK hP hD hS hA rfl (fun j hj => by rcases (show j = 0 ∨ j = 1 by omega) with rfl | rfl <;> rfl) (Nat.le_of_ble_eq_true rfl) (Nat.le_of_ble_eq_true rfl) dX10_init_26 (fun q4 H hP hD hS => ?_)
  have hP := di_mvP hP
  have hD := di_mvD hD
  have hP : va_P (db_G E) vwCl ([(h0, .inr (10, [.ref q1, .ref q2, .null, .null, .null, .null, .null, .null, .null, .null, .null, .null, .null, .null, .int 0])), (q4, .inr (2, [.null, .int 0]))] ++ G2) H := hP
  have hD : va_D A ([(h0, .inr (10, [.ref q1, .ref q2, .null, .null, .null, .null, .null, .null, .null, .null, .null, .null, .null, .null, .int 0])), (q4, .inr (2, [.null, .int 0]))] ++ G2) := hD
  refine W.widen (k := 4) (n := 27) (Nat.le_of_ble_eq_true rfl) (Nat.le_of_ble_eq_true rfl) ?_
  refine lv_dup hx hb dX10_init_29 rfl ?_
  refine lv_bipush (v := (100 : Int32)) hx hb dX10_init_30 (by decide) ?_
  have hPc := hP.sub (ws' := [(q4, .inr (2, [.null, .int 0]))]) [1] rfl
  have hDc := hD.sub (ws' := [(q4, .inr (2, [.null, .int 0]))]) [1] (by decide) rfl
  have hFc := va_free (wc := [(q4, .inr (2, [.null, .int 0]))]) hD hS hA [1] rfl
  refine va_callv (va_runI (As := [.int (100 : Int32)]) (rest := [.ref q4, .ref h0]) ⟨hx, hb, hml, hown, hts⟩ (ci_X2_100 l E q4  H.size) (cwI 1 hts gX10_init_X2_init rfl rfl rfl (hts (.initialized RX2) (List.mem_of_getElem? (i := 8) rfl)) (hts _ (List.mem_of_getElem? (i := 46) rfl)) (hts _ (List.mem_of_getElem? (i := 47) rfl)) rfl (by decide +kernel) ⟨Nat.le_of_ble_eq_true rfl, Nat.le_of_ble_eq_true rfl⟩) ⟨fun a U g mk q => by obtain ⟨q0, q1, qP, qK, qD⟩ := q; exact ⟨q0, q1, qP, va_K.moved (u := U) (U := U.calling g mk a) (Vm.Alike.refl U.vm) qK, qD⟩, fun U hU hW => ⟨rfl, by rw [hU], by rw [hU]; exact hPc, va_K.moved hW.alike hK, hDc.weaken (fun _ _ _ _ => trivial)⟩⟩ rfl rfl hl.1 rfl (lv_room (Nat.le_of_ble_eq_true rfl)) dX10_init_32 ⟨Nat.le_of_ble_eq_true rfl, Nat.le_of_ble_eq_true rfl⟩) hS (fun q _ h => hFc q h) hFc (fun u t H1 locs ht hvm hw hB hz1 hk1 hS => ?_)
  obtain ⟨b5, hP1, hD1⟩ := hB
  rw [ht] at hP1
  obtain ⟨hP, hD⟩ := di_join (F := [(h0, .inr (10, [.ref q1, .ref q2, .null, .null, .null, .null, .null, .null, .null, .null, .null, .null, .null, .null, .int 0]))]) (x := (q4, .inr (2, [.null, .int 0]))) (w1 := rs_X2_100 E q4  b5) hP hD hk1 hFc hP1 hD1
  generalize H1 = H at hP hS ⊢
  obtain ⟨G3, eG3⟩ : ∃ z_ : va_W, z_ = (rs_X2_100 E q4  b5) ++ G2 := ⟨_, rfl⟩
  rw [← eG3] at hP hD
  refine W.widen (k := 5) (n := 127) (Nat.le_of_ble_eq_true rfl) (Nat.le_of_ble_eq_true rfl) ?_
  refine va_putF (D := db_G E) (ci := 10) (v := .ref q4) (ty := tyX10 2) (C := RX10) (T := TX10) (N := 15) hx hb hts hiX10 tyX10 tyX10_ok nmX10 hown hK hP hD hS 0 rfl rfl 2 (by decide) (hts _ (List.mem_of_getElem? (i := 10) rfl)) (fun _ h9 => h9) rfl hin rfl (tyX10_ok 2 (by decide)) rfl rfl (Nat.le_of_ble_eq_true rfl) dX10_init_35 (fun H locs hP hD hS => ?_)
  have hP : va_P (db_G E) vwCl ([(h0, .inr (10, [.ref q1, .ref q2, .ref q4, .null, .null, .null, .null, .null, .null, .null, .null, .null, .null, .null, .int 0]))] ++ G3) H := hP
  have hD : va_D A ([(h0, .inr (10, [.ref q1, .ref q2, .ref q4, .null, .null, .null, .null, .null, .null, .null, .null, .null, .null, .null, .int 0]))] ++ G3) := hD
  refine lv_aload_n hx hb dX10_init_38 rfl (lv_at hl 0 rfl) ?_
  refine va_new (ci := 7) (fs := [.null, .int 0, .int 0, .int 0, .int 0]) (C := RX7) (T := TX7) (N := 5) hx hb hts hiX7 tyX7 tyX7_ok hown (hts _ (List.mem_of_getElem? (i := 11) rfl)) (hts _ (List.mem_of_getElem? (i := 12) rfl)) (hts _ (List.mem_of_getElem? (i := 13) rfl)) hK hP hD hS hA rfl (fun j hj => by rcases (show j = 0 ∨ j = 1 ∨ j = 2 ∨ j = 3 ∨ j = 4 by omega) with rfl | rfl | rfl | rfl | rfl <;> rfl) (Nat.le_of_ble_eq_true rfl) (Nat.le_of_ble_eq_true rfl) dX10_init_39 (fun q6 H hP hD hS => ?_)
  have hP := di_mvP hP
  have hD := di_mvD hD
  have hP : va_P (db_G E) vwCl ([(h0, .inr (10, [.ref q1, .ref q2, .ref q4, .null, .null, .null, .null, .null, .null, .null, .null, .null, .null, .null, .int 0])), (q6, .inr (7, [.null, .int 0, .int 0, .int 0, .int 0]))] ++ G3) H := hP
  have hD : va_D A ([(h0, .inr (10, [.ref q1, .ref q2, .ref q4, .null, .null, .null, .null, .null, .null, .null, .null, .null, .null, .null, .int 0])), (q6, .inr (7, [.null, .int 0, .int 0, .int 0, .int 0]))] ++ G3) := hD
  refine W.widen (k := 6) (n := 132) (Nat.le_of_ble_eq_true rfl) (Nat.le_of_ble_eq_true rfl) ?_
  refine lv_dup hx hb dX10_init_42 rfl ?_
  refine lv_aload_n hx hb dX10_init_43 rfl (lv_at hl 0 rfl) ?_
  refine va_get (D := db_G E) (ci := 10) (v := .ref q2) (C := RX10) (T := TX10) (N := 15) hx hb hts hiX10 hown hK hP 0 rfl rfl 1 (by decide) (hts _ (List.mem_of_getElem? (i := 9) rfl)) (fun _ h9 => h9) rfl dX10_init_44 ?_
  have hPc := hP.sub (ws' := [(q6, .inr (7, [.null, .int 0, .int 0, .int 0, .int 0]))]) [1] rfl
  have hDc := hD.sub (ws' := [(q6, .inr (7, [.null, .int 0, .int 0, .int 0, .int 0]))]) [1] (by decide) rfl
  have hFc := va_free (wc := [(q6, .inr (7, [.null, .int 0, .int 0, .int 0, .int 0]))]) hD hS hA [1] rfl
  refine va_callv (va_runI (As := [.ref q2]) (rest := [.ref q6, .ref h0]) ⟨hx, hb, hml, hown, hts⟩ (ci_X7 l E q6 q2 H.size) (cwI 1 hts gX10_init_X7_init rfl rfl rfl (hts (.initialized RX7) (List.mem_of_getElem? (i := 13) rfl)) (hts _ (List.mem_of_getElem? (i := 56) rfl)) (hts _ (List.mem_of_getElem? (i := 57) rfl)) rfl (by decide +kernel) ⟨Nat.le_of_ble_eq_true rfl, Nat.le_of_ble_eq_true rfl⟩) ⟨fun a U g mk q => by obtain ⟨q0, q1, qP, qK, qD⟩ := q; exact ⟨q0, q1, qP, va_K.moved (u := U) (U := U.calling g mk a) (Vm.Alike.refl U.vm) qK, qD⟩, fun U hU hW => ⟨rfl, by rw [hU], by rw [hU]; exact hPc, va_K.moved hW.alike hK, hDc.weaken (fun _ _ _ _ => trivial)⟩⟩ rfl rfl hl.1 rfl (lv_room (Nat.le_of_ble_eq_true rfl)) dX10_init_47 ⟨Nat.le_of_ble_eq_true rfl, Nat.le_of_ble_eq_true rfl⟩) hS (fun q _ h => hFc q h) hFc (fun u t H1 locs ht hvm hw hB hz1 hk1 hS => ?_)
  obtain ⟨b7, hP1, hD1⟩ := hB
  rw [ht] at hP1
  obtain ⟨hP, hD⟩ := di_join (F := [(h0, .inr (10, [.ref q1, .ref q2, .ref q4, .null, .null, .null, .null, .null, .null, .null, .null, .null, .null, .null, .int 0]))]) (x := (q6, .inr (7, [.null, .int 0, .int 0, .int 0, .int 0]))) (w1 := rs_X7 E q6 q2 b7) hP hD hk1 hFc hP1 hD1
  generalize H1 = H at hP hS ⊢
  obtain ⟨G4, eG4⟩ : ∃ z_ : va_W, z_ = (rs_X7 E q6 q2 b7) ++ G3 := ⟨_, rfl⟩
  rw [← eG4] at hP hD
  refine W.widen (k := 6) (n := 132) (Nat.le_of_ble_eq_true rfl) (Nat.le_of_ble_eq_true rfl) ?_
  refine va_putF (D := db_G E) (ci := 10) (v := .ref q6) (ty := tyX10 3) (C := RX10) (T := TX10) (N := 15) hx hb hts hiX10 tyX10 tyX10_ok nmX10 hown hK hP hD hS 0 rfl rfl 3 (by decide) (hts _ (List.mem_of_getElem? (i := 14) rfl)) (fun _ h9 => h9) rfl hin rfl (tyX10_ok 3 (by decide)) rfl rfl (Nat.le_of_ble_eq_true rfl) dX10_init_50 (fun H locs hP hD hS => ?_)
  have hP : va_P (db_G E) vwCl ([(h0, .inr (10, [.ref q1, .ref q2, .ref q4, .ref q6, .null, .null, .null, .null, .null, .null, .null, .null, .null, .null, .int 0]))] ++ G4) H := hP
  have hD : va_D A ([(h0, .inr (10, [.ref q1, .ref q2, .ref q4, .ref q6, .null, .null, .null, .null, .null, .null, .null, .null, .null, .null, .int 0]))] ++ G4) := hD
  refine lv_aload_n hx hb dX10_init_53 rfl (lv_at hl 0 rfl) ?_
  refine va_new (ci := 8) (fs := [.null, .null, .null, .null, .int 0]) (C := RX8) (T := TX8) (N := 5) hx hb hts hiX8 tyX8 tyX8_ok hown (hts _ (List.mem_of_getElem? (i := 15) rfl)) (hts _ (List.mem_of_getElem? (i := 16) rfl)) (hts _ (List.mem_of_getElem? (i := 17) rfl)) hK hP hD hS hA rfl (fun j hj => by rcases (show j = 0 ∨ j = 1 ∨ j = 2 ∨ j = 3 ∨ j = 4 by omega) with rfl | rfl | rfl | rfl | rfl <;> rfl) (Nat.le_of_ble_eq_true rfl) (Nat.le_of_ble_eq_true rfl) dX10_init_54 (fun q8 H hP hD hS => ?_)
  have hP := di_mvP hP
  have hD := di_mvD hD
  have hP : va_P (db_G E) vwCl ([(h0, .inr (10, [.ref q1, .ref q2, .ref q4, .ref q6, .null, .null, .null, .null, .null, .null, .null, .null, .null, .null, .int 0])), (q8, .inr (8, [.null, .null, .null, .null, .int 0]))] ++ G4) H := hP
  have hD : va_D A ([(h0, .inr (10, [.ref q1, .ref q2, .ref q4, .ref q6, .null, .null, .null, .null, .null, .null, .null, .null, .null, .null, .int 0])), (q8, .inr (8, [.null, .null, .null, .null, .int 0]))] ++ G4) := hD
  refine W.widen (k := 7) (n := 137) (Nat.le_of_ble_eq_true rfl) (Nat.le_of_ble_eq_true rfl) ?_
  refine lv_dup hx hb dX10_init_57 rfl ?_
  have hPc := hP.sub (ws' := [(q8, .inr (8, [.null, .null, .null, .null, .int 0]))]) [1] rfl
  have hDc := hD.sub (ws' := [(q8, .inr (8, [.null, .null, .null, .null, .int 0]))]) [1] (by decide) rfl
  have hFc := va_free (wc := [(q8, .inr (8, [.null, .null, .null, .null, .int 0]))]) hD hS hA [1] rfl
  refine va_callv (va_runI (As := []) (rest := [.ref q8, .ref h0]) ⟨hx, hb, hml, hown, hts⟩ (ci_X8 l E q8  H.size) (cwI 0 hts gX10_init_X8_init rfl rfl rfl (hts (.initialized RX8) (List.mem_of_getElem? (i := 17) rfl)) (hts _ (List.mem_of_getElem? (i := 61) rfl)) (hts _ (List.mem_of_getElem? (i := 62) rfl)) rfl (by decide +kernel) ⟨Nat.le_of_ble_eq_true rfl, Nat.le_of_ble_eq_true rfl⟩) ⟨fun a U g mk q => by obtain ⟨q0, q1, qP, qK, qD, qN⟩ := q; exact ⟨q0, q1, qP, va_K.moved (u := U) (U := U.calling g mk a) (Vm.Alike.refl U.vm) qK, qD, db_nI.same (u := U) (U := U.calling g mk a) rfl qN⟩, fun U hU hW => ⟨rfl, by rw [hU], by rw [hU]; exact hPc, va_K.moved hW.alike hK, hDc.weaken (fun _ _ _ _ => trivial), db_nI.warm hW hN⟩⟩ rfl rfl hl.1 rfl (lv_room (Nat.le_of_ble_eq_true rfl)) dX10_init_58 ⟨Nat.le_of_ble_eq_true rfl, Nat.le_of_ble_eq_true rfl⟩) hS (fun q _ h => hFc q h) hFc (fun u t H1 locs ht hvm hw hB hz1 hk1 hS => ?_)
  obtain ⟨b9, hP1, hD1⟩ := hB
  rw [ht] at hP1
  obtain ⟨hP, hD⟩ := di_join (F := [(h0, .inr (10, [.ref q1, .ref q2, .ref q4, .ref q6, .null, .null, .null, .null, .null, .null, .null, .null, .null, .null, .int 0]))]) (x := (q8, .inr (8, [.null, .null, .null, .null, .int 0]))) (w1 := rs_X8 E q8  b9) hP hD hk1 hFc hP1 hD1
  generalize H1 = H at hP hS ⊢
  obtain ⟨G5, eG5⟩ : ∃ z_ : va_W, z_ = (rs_X8 E q8  b9) ++ G4 := ⟨_, rfl⟩
  rw [← eG5] at hP hD
  refine W.widen (k := 35) (n := 395) (Nat.le_of_ble_eq_true rfl) (Nat.le_of_ble_eq_true rfl) ?_
  refine va_putF (D := db_G E) (ci := 10) (v := .ref q8) (ty := tyX10 4) (C := RX10) (T := TX10) (N := 15) hx hb hts hiX10 tyX10 tyX10_ok nmX10 hown hK hP hD hS 0 rfl rfl 4 (by decide) (hts _ (List.mem_of_getElem? (i := 18) rfl)) (fun _ h9 => h9) rfl hin rfl (tyX10_ok 4 (by decide)) rfl rfl (Nat.le_of_ble_eq_true rfl) dX10_init_61 (fun H locs hP hD hS => ?_)
  have hP : va_P (db_G E) vwCl ([(h0, .inr (10, [.ref q1, .ref q2, .ref q4, .ref q6, .ref q8, .null, .null, .null, .null, .null, .null, .null, .null, .null, .int 0]))] ++ G5) H := hP
  have hD : va_D A ([(h0, .inr (10, [.ref q1, .ref q2, .ref q4, .ref q6, .ref q8, .null, .null, .null, .null, .null, .null, .null, .null, .null, .int 0]))] ++ G5) := hD
  refine lv_aload_n hx hb dX10_init_64 rfl (lv_at hl 0 rfl) ?_
  refine va_new (ci := 4) (fs := [.null, .int 0, .int 0]) (C := RX4) (T := TX4) (N := 3) hx hb hts hiX4 tyX4 tyX4_ok hown (hts _ (List.mem_of_getElem? (i := 19) rfl)) (hts _ (List.mem_of_getElem? (i := 20) rfl)) (hts _ (List.mem_of_getElem? (i := 21) rfl)) hK hP hD hS hA rfl (fun j hj => by rcases (show j = 0 ∨ j = 1 ∨ j = 2 by omega) with rfl | rfl | rfl <;> rfl) (Nat.le_of_ble_eq_true rfl) (Nat.le_of_ble_eq_true rfl) dX10_init_65 (fun q10 H hP hD hS => ?_)
  have hP := di_mvP hP
  have hD := di_mvD hD
  have hP : va_P (db_G E) vwCl ([(h0, .inr (10, [.ref q1, .ref q2, .ref q4, .ref q6, .ref q8, .null, .null, .null, .null, .null, .null, .null, .null, .null, .int 0])), (q10, .inr (4, [.null, .int 0, .int 0]))] ++ G5) H := hP
  have hD : va_D A ([(h0, .inr (10, [.ref q1, .ref q2, .ref q4, .ref q6, .ref q8, .null, .null, .null, .null, .null, .null, .null, .null, .null, .int 0])), (q10, .inr (4, [.null, .int 0, .int 0]))] ++ G5) := hD
  refine W.widen (k := 36) (n := 398) (Nat.le_of_ble_eq_true rfl) (Nat.le_of_ble_eq_true rfl) ?_
  refine lv_dup hx hb dX10_init_68 rfl ?_
  have hPc := hP.sub (ws' := [(q10, .inr (4, [.null, .int 0, .int 0]))]) [1] rfl
  have hDc := hD.sub (ws' := [(q10, .inr (4, [.null, .int 0, .int 0]))]) [1] (by decide) rfl
  have hFc := va_free (wc := [(q10, .inr (4, [.null, .int 0, .int 0]))]) hD hS hA [1] rfl
  refine va_callv (va_runIN (As := []) (rest := [.ref q10, .ref h0]) ⟨hx, hb, hml, hown, hts⟩ (ci_X4 l E q10  H.size) ⟨va_cnB 0 hts gX10_init_X4_init_n43 rfl rfl rfl (hN.1 ("DaysOnBread", 43, ⟨"DaysOnBread$Payings", "<init>", "()V"⟩, "DaysOnBread") (List.mem_of_getElem? (i := 1) rfl)) (hts (.initialized RX4) (List.mem_of_getElem? (i := 21) rfl)) (by decide +kernel) ⟨Nat.le_of_ble_eq_true rfl, Nat.le_of_ble_eq_true rfl⟩, rfl, (hts _ (List.mem_of_getElem? (i := 79) rfl))⟩ ⟨fun a U g mk q => by obtain ⟨q0, q1, qP, qK, qD, qN, qT⟩ := q; exact ⟨q0, q1, qP, va_K.moved (u := U) (U := U.calling g mk a) (Vm.Alike.refl U.vm) qK, qD, db_nI.same (u := U) (U := U.calling g mk a) rfl qN, db_AT.moved (u := U) (U := U.calling g mk a) (Vm.Alike.refl U.vm) qT⟩, fun U hU hW => ⟨rfl, by rw [hU], by rw [hU]; exact hPc, va_K.moved hW.alike hK, hDc.weaken (fun _ _ _ _ => trivial), db_nI.warm hW hN, by rw [hU]; exact ((hT.kept hS.2.1).narrow hFc).moved hW.alike⟩⟩ rfl rfl hl.1 rfl (lv_room (Nat.le_of_ble_eq_true rfl)) dX10_init_69 ⟨Nat.le_of_ble_eq_true rfl, Nat.le_of_ble_eq_true rfl⟩) hS (fun q _ h => hFc q h) hFc (fun u t H1 locs ht hvm hw hB hz1 hk1 hS => ?_)
  obtain ⟨b11, hP1, hD1⟩ := hB
  rw [ht] at hP1
  obtain ⟨hP, hD⟩ := di_join (F := [(h0, .inr (10, [.ref q1, .ref q2, .ref q4, .ref q6, .ref q8, .null, .null, .null, .null, .null, .null, .null, .null, .null, .int 0]))]) (x := (q10, .inr (4, [.null, .int 0, .int 0]))) (w1 := rs_X4 E q10  b11) hP hD hk1 hFc hP1 hD1
  generalize H1 = H at hP hS ⊢
  obtain ⟨G6, eG6⟩ : ∃ z_ : va_W, z_ = (rs_X4 E q10  b11) ++ G5 := ⟨_, rfl⟩
  rw [← eG6] at hP hD
  refine W.widen (k := 37) (n := 422) (Nat.le_of_ble_eq_true rfl) (Nat.le_of_ble_eq_true rfl) ?_
  refine va_putF (D := db_G E) (ci := 10) (v := .ref q10) (ty := tyX10 5) (C := RX10) (T := TX10) (N := 15) hx hb hts hiX10 tyX10 tyX10_ok nmX10 hown hK hP hD hS 0 rfl rfl 5 (by decide) (hts _ (List.mem_of_getElem? (i := 22) rfl)) (fun _ h9 => h9) rfl hin rfl (tyX10_ok 5 (by decide)) rfl rfl (Nat.le_of_ble_eq_true rfl) dX10_init_72 (fun H locs hP hD hS => ?_)
  have hP : va_P (db_G E) vwCl ([(h0, .inr (10, [.ref q1, .ref q2, .ref q4, .ref q6, .ref q8, .ref q10, .null, .null, .null, .null, .null, .null, .null, .null, .int 0]))] ++ G6) H := hP
  have hD : va_D A ([(h0, .inr (10, [.ref q1, .ref q2, .ref q4, .ref q6, .ref q8, .ref q10, .null, .null, .null, .null, .null, .null, .null, .null, .int 0]))] ++ G6) := hD
  refine lv_aload_n hx hb dX10_init_75 rfl (lv_at hl 0 rfl) ?_
  refine va_new (ci := 5) (fs := [.null, .null, .null, .null, .int 0]) (C := RX5) (T := TX5) (N := 5) hx hb hts hiX5 tyX5 tyX5_ok hown (hts _ (List.mem_of_getElem? (i := 23) rfl)) (hts _ (List.mem_of_getElem? (i := 24) rfl)) (hts _ (List.mem_of_getElem? (i := 25) rfl)) hK hP hD hS hA rfl (fun j hj => by rcases (show j = 0 ∨ j = 1 ∨ j = 2 ∨ j = 3 ∨ j = 4 by omega) with rfl | rfl | rfl | rfl | rfl <;> rfl) (Nat.le_of_ble_eq_true rfl) (Nat.le_of_ble_eq_true rfl) dX10_init_76 (fun q12 H hP hD hS => ?_)
  have hP := di_mvP hP
  have hD := di_mvD hD
  have hP : va_P (db_G E) vwCl ([(h0, .inr (10, [.ref q1, .ref q2, .ref q4, .ref q6, .ref q8, .ref q10, .null, .null, .null, .null, .null, .null, .null, .null, .int 0])), (q12, .inr (5, [.null, .null, .null, .null, .int 0]))] ++ G6) H := hP
  have hD : va_D A ([(h0, .inr (10, [.ref q1, .ref q2, .ref q4, .ref q6, .ref q8, .ref q10, .null, .null, .null, .null, .null, .null, .null, .null, .int 0])), (q12, .inr (5, [.null, .null, .null, .null, .int 0]))] ++ G6) := hD
  refine W.widen (k := 38) (n := 427) (Nat.le_of_ble_eq_true rfl) (Nat.le_of_ble_eq_true rfl) ?_
  refine lv_dup hx hb dX10_init_79 rfl ?_
  have hPc := hP.sub (ws' := [(q12, .inr (5, [.null, .null, .null, .null, .int 0]))]) [1] rfl
  have hDc := hD.sub (ws' := [(q12, .inr (5, [.null, .null, .null, .null, .int 0]))]) [1] (by decide) rfl
  have hFc := va_free (wc := [(q12, .inr (5, [.null, .null, .null, .null, .int 0]))]) hD hS hA [1] rfl
  refine va_callv (va_runIN (As := []) (rest := [.ref q12, .ref h0]) ⟨hx, hb, hml, hown, hts⟩ (ci_X5 l E q12  H.size) ⟨va_cnB 0 hts gX10_init_X5_init_n50 rfl rfl rfl (hN.1 ("DaysOnBread", 50, ⟨"DaysOnBread$Puttings", "<init>", "()V"⟩, "DaysOnBread") (List.mem_of_getElem? (i := 2) rfl)) (hts (.initialized RX5) (List.mem_of_getElem? (i := 25) rfl)) (by decide +kernel) ⟨Nat.le_of_ble_eq_true rfl, Nat.le_of_ble_eq_true rfl⟩, rfl, (hts _ (List.mem_of_getElem? (i := 89) rfl))⟩ ⟨fun a U g mk q => by obtain ⟨q0, q1, qP, qK, qD⟩ := q; exact ⟨q0, q1, qP, va_K.moved (u := U) (U := U.calling g mk a) (Vm.Alike.refl U.vm) qK, qD⟩, fun U hU hW => ⟨rfl, by rw [hU], by rw [hU]; exact hPc, va_K.moved hW.alike hK, hDc.weaken (fun _ _ _ _ => trivial)⟩⟩ rfl rfl hl.1 rfl (lv_room (Nat.le_of_ble_eq_true rfl)) dX10_init_80 ⟨Nat.le_of_ble_eq_true rfl, Nat.le_of_ble_eq_true rfl⟩) hS (fun q _ h => hFc q h) hFc (fun u t H1 locs ht hvm hw hB hz1 hk1 hS => ?_)
  obtain ⟨b13, hP1, hD1⟩ := hB
  rw [ht] at hP1
  obtain ⟨hP, hD⟩ := di_join (F := [(h0, .inr (10, [.ref q1, .ref q2, .ref q4, .ref q6, .ref q8, .ref q10, .null, .null, .null, .null, .null, .null, .null, .null, .int 0]))]) (x := (q12, .inr (5, [.null, .null, .null, .null, .int 0]))) (w1 := rs_X5 E q12  b13) hP hD hk1 hFc hP1 hD1
  generalize H1 = H at hP hS ⊢
  obtain ⟨G7, eG7⟩ : ∃ z_ : va_W, z_ = (rs_X5 E q12  b13) ++ G6 := ⟨_, rfl⟩
  rw [← eG7] at hP hD
  refine W.widen (k := 42) (n := 475) (Nat.le_of_ble_eq_true rfl) (Nat.le_of_ble_eq_true rfl) ?_
  refine va_putF (D := db_G E) (ci := 10) (v := .ref q12) (ty := tyX10 6) (C := RX10) (T := TX10) (N := 15) hx hb hts hiX10 tyX10 tyX10_ok nmX10 hown hK hP hD hS 0 rfl rfl 6 (by decide) (hts _ (List.mem_of_getElem? (i := 26) rfl)) (fun _ h9 => h9) rfl hin rfl (tyX10_ok 6 (by decide)) rfl rfl (Nat.le_of_ble_eq_true rfl) dX10_init_83 (fun H locs hP hD hS => ?_)
  have hP : va_P (db_G E) vwCl ([(h0, .inr (10, [.ref q1, .ref q2, .ref q4, .ref q6, .ref q8, .ref q10, .ref q12, .null, .null, .null, .null, .null, .null, .null, .int 0]))] ++ G7) H := hP
  have hD : va_D A ([(h0, .inr (10, [.ref q1, .ref q2, .ref q4, .ref q6, .ref q8, .ref q10, .ref q12, .null, .null, .null, .null, .null, .null, .null, .int 0]))] ++ G7) := hD
  refine lv_aload_n hx hb dX10_init_86 rfl (lv_at hl 0 rfl) ?_
  refine va_new (ci := 3) (fs := [.null, .null, .null, .int 0, .int 0, .int 0, .int 0]) (C := RX3) (T := TX3) (N := 7) hx hb hts hiX3 tyX3 tyX3_ok hown (hts _ (List.mem_of_getElem? (i := 27) rfl)) (hts _ (List.mem_of_getElem? (i := 28) rfl)) (hts _ (List.mem_of_getElem? (i := 29) rfl)) hK hP hD hS hA rfl (fun j hj => by rcases (show j = 0 ∨ j = 1 ∨ j = 2 ∨ j = 3 ∨ j = 4 ∨ j = 5 ∨ j = 6 by omega) with rfl | rfl | rfl | rfl | rfl | rfl | rfl <;> rfl) (Nat.le_of_ble_eq_true rfl) (Nat.le_of_ble_eq_true rfl) dX10_init_87 (fun q14 H hP hD hS => ?_)
  have hP := di_mvP hP
  have hD := di_mvD hD
  have hP : va_P (db_G E) vwCl ([(h0, .inr (10, [.ref q1, .ref q2, .ref q4, .ref q6, .ref q8, .ref q10, .ref q12, .null, .null, .null, .null, .null, .null, .null, .int 0])), (q14, .inr (3, [.null, .null, .null, .int 0, .int 0, .int 0, .int 0]))] ++ G7) H := hP
  have hD : va_D A ([(h0, .inr (10, [.ref q1, .ref q2, .ref q4, .ref q6, .ref q8, .ref q10, .ref q12, .null, .null, .null, .null, .null, .null, .null, .int 0])), (q14, .inr (3, [.null, .null, .null, .int 0, .int 0, .int 0, .int 0]))] ++ G7) := hD
  refine W.widen (k := 43) (n := 482) (Nat.le_of_ble_eq_true rfl) (Nat.le_of_ble_eq_true rfl) ?_
  refine lv_dup hx hb dX10_init_90 rfl ?_
  refine lv_aload_n hx hb dX10_init_91 rfl (lv_at hl 0 rfl) ?_
  refine va_get (D := db_G E) (ci := 10) (v := .ref q10) (C := RX10) (T := TX10) (N := 15) hx hb hts hiX10 hown hK hP 0 rfl rfl 5 (by decide) (hts _ (List.mem_of_getElem? (i := 22) rfl)) (fun _ h9 => h9) rfl dX10_init_92 ?_
  have hPc := hP.sub (ws' := [(q14, .inr (3, [.null, .null, .null, .int 0, .int 0, .int 0, .int 0]))]) [1] rfl
  have hDc := hD.sub (ws' := [(q14, .inr (3, [.null, .null, .null, .int 0, .int 0, .int 0, .int 0]))]) [1] (by decide) rfl
  have hFc := va_free (wc := [(q14, .inr (3, [.null, .null, .null, .int 0, .int 0, .int 0, .int 0]))]) hD hS hA [1] rfl
  refine va_callv (va_runI (As := [.ref q10]) (rest := [.ref q14, .ref h0]) ⟨hx, hb, hml, hown, hts⟩ (ci_X3 l E q14 q10 H.size) (cwI 1 hts gX10_init_X3_init rfl rfl rfl (hts (.initialized RX3) (List.mem_of_getElem? (i := 29) rfl)) (hts _ (List.mem_of_getElem? (i := 96) rfl)) (hts _ (List.mem_of_getElem? (i := 97) rfl)) rfl (by decide +kernel) ⟨Nat.le_of_ble_eq_true rfl, Nat.le_of_ble_eq_true rfl⟩) ⟨fun a U g mk q => by obtain ⟨q0, q1, qP, qK, qD⟩ := q; exact ⟨q0, q1, qP, va_K.moved (u := U) (U := U.calling g mk a) (Vm.Alike.refl U.vm) qK, qD⟩, fun U hU hW => ⟨rfl, by rw [hU], by rw [hU]; exact hPc, va_K.moved hW.alike hK, hDc.weaken (fun _ _ _ _ => trivial)⟩⟩ rfl rfl hl.1 rfl (lv_room (Nat.le_of_ble_eq_true rfl)) dX10_init_95 ⟨Nat.le_of_ble_eq_true rfl, Nat.le_of_ble_eq_true rfl⟩) hS (fun q _ h => hFc q h) hFc (fun u t H1 locs ht hvm hw hB hz1 hk1 hS => ?_)
  obtain ⟨b15, hP1, hD1⟩ := hB
  rw [ht] at hP1
  obtain ⟨hP, hD⟩ := di_join (F := [(h0, .inr (10, [.ref q1, .ref q2, .ref q4, .ref q6, .ref q8, .ref q10, .ref q12, .null, .null, .null, .null, .null, .null, .null, .int 0]))]) (x := (q14, .inr (3, [.null, .null, .null, .int 0, .int 0, .int 0, .int 0]))) (w1 := rs_X3 E q14 q10 b15) hP hD hk1 hFc hP1 hD1
  generalize H1 = H at hP hS ⊢
  obtain ⟨G8, eG8⟩ : ∃ z_ : va_W, z_ = (rs_X3 E q14 q10 b15) ++ G7 := ⟨_, rfl⟩
  rw [← eG8] at hP hD
  refine W.widen (k := 45) (n := 494) (Nat.le_of_ble_eq_true rfl) (Nat.le_of_ble_eq_true rfl) ?_
  refine va_putF (D := db_G E) (ci := 10) (v := .ref q14) (ty := tyX10 7) (C := RX10) (T := TX10) (N := 15) hx hb hts hiX10 tyX10 tyX10_ok nmX10 hown hK hP hD hS 0 rfl rfl 7 (by decide) (hts _ (List.mem_of_getElem? (i := 30) rfl)) (fun _ h9 => h9) rfl hin rfl (tyX10_ok 7 (by decide)) rfl rfl (Nat.le_of_ble_eq_true rfl) dX10_init_98 (fun H locs hP hD hS => ?_)
  have hP : va_P (db_G E) vwCl ([(h0, .inr (10, [.ref q1, .ref q2, .ref q4, .ref q6, .ref q8, .ref q10, .ref q12, .ref q14, .null, .null, .null, .null, .null, .null, .int 0]))] ++ G8) H := hP
  have hD : va_D A ([(h0, .inr (10, [.ref q1, .ref q2, .ref q4, .ref q6, .ref q8, .ref q10, .ref q12, .ref q14, .null, .null, .null, .null, .null, .null, .int 0]))] ++ G8) := hD
  refine lv_aload_n hx hb dX10_init_101 rfl (lv_at hl 0 rfl) ?_
  refine va_new (ci := 1) (fs := [.null, .null, .null]) (C := RX1) (T := TX1) (N := 3) hx hb hts hiX1 tyX1 tyX1_ok hown (hts _ (List.mem_of_getElem? (i := 31) rfl)) (hts _ (List.mem_of_getElem? (i := 32) rfl)) (hts _ (List.mem_of_getElem? (i := 33) rfl)) hK hP hD hS hA rfl (fun j hj => by rcases (show j = 0 ∨ j = 1 ∨ j = 2 by omega) with rfl | rfl | rfl <;> rfl) (Nat.le_of_ble_eq_true rfl) (Nat.le_of_ble_eq_true rfl) dX10_init_102 (fun q16 H hP hD hS => ?_)
  have hP := di_mvP hP
  have hD := di_mvD hD
  have hP : va_P (db_G E) vwCl ([(h0, .inr (10, [.ref q1, .ref q2, .ref q4, .ref q6, .ref q8, .ref q10, .ref q12, .ref q14, .null, .null, .null, .null, .null, .null, .int 0])), (q16, .inr (1, [.null, .null, .null]))] ++ G8) H := hP
  have hD : va_D A ([(h0, .inr (10, [.ref q1, .ref q2, .ref q4, .ref q6, .ref q8, .ref q10, .ref q12, .ref q14, .null, .null, .null, .null, .null, .null, .int 0])), (q16, .inr (1, [.null, .null, .null]))] ++ G8) := hD
  refine W.widen (k := 46) (n := 497) (Nat.le_of_ble_eq_true rfl) (Nat.le_of_ble_eq_true rfl) ?_
  refine lv_dup hx hb dX10_init_105 rfl ?_
  refine lv_aload_n hx hb dX10_init_106 rfl (lv_at hl 0 rfl) ?_
  refine va_get (D := db_G E) (ci := 10) (v := .ref q10) (C := RX10) (T := TX10) (N := 15) hx hb hts hiX10 hown hK hP 0 rfl rfl 5 (by decide) (hts _ (List.mem_of_getElem? (i := 22) rfl)) (fun _ h9 => h9) rfl dX10_init_107 ?_
  have hPc := hP.sub (ws' := [(q16, .inr (1, [.null, .null, .null]))]) [1] rfl
  have hDc := hD.sub (ws' := [(q16, .inr (1, [.null, .null, .null]))]) [1] (by decide) rfl
  have hFc := va_free (wc := [(q16, .inr (1, [.null, .null, .null]))]) hD hS hA [1] rfl
  refine va_callv (va_runI (As := [.ref q10]) (rest := [.ref q16, .ref h0]) ⟨hx, hb, hml, hown, hts⟩ (ci_X1 l E q16 q10 H.size) (cwI 1 hts gX10_init_X1_init rfl rfl rfl (hts (.initialized RX1) (List.mem_of_getElem? (i := 33) rfl)) (hts _ (List.mem_of_getElem? (i := 103) rfl)) (hts _ (List.mem_of_getElem? (i := 104) rfl)) rfl (by decide +kernel) ⟨Nat.le_of_ble_eq_true rfl, Nat.le_of_ble_eq_true rfl⟩) ⟨fun a U g mk q => by obtain ⟨q0, q1, qP, qK, qD⟩ := q; exact ⟨q0, q1, qP, va_K.moved (u := U) (U := U.calling g mk a) (Vm.Alike.refl U.vm) qK, qD⟩, fun U hU hW => ⟨rfl, by rw [hU], by rw [hU]; exact hPc, va_K.moved hW.alike hK, hDc.weaken (fun _ _ _ _ => trivial)⟩⟩ rfl rfl hl.1 rfl (lv_room (Nat.le_of_ble_eq_true rfl)) dX10_init_110 ⟨Nat.le_of_ble_eq_true rfl, Nat.le_of_ble_eq_true rfl⟩) hS (fun q _ h => hFc q h) hFc (fun u t H1 locs ht hvm hw hB hz1 hk1 hS => ?_)
  obtain ⟨b17, hP1, hD1⟩ := hB
  rw [ht] at hP1
  obtain ⟨hP, hD⟩ := di_join (F := [(h0, .inr (10, [.ref q1, .ref q2, .ref q4, .ref q6, .ref q8, .ref q10, .ref q12, .ref q14, .null, .null, .null, .null, .null, .null, .int 0]))]) (x := (q16, .inr (1, [.null, .null, .null]))) (w1 := rs_X1 E q16 q10 b17) hP hD hk1 hFc hP1 hD1
  generalize H1 = H at hP hS ⊢
  obtain ⟨G9, eG9⟩ : ∃ z_ : va_W, z_ = (rs_X1 E q16 q10 b17) ++ G8 := ⟨_, rfl⟩
  rw [← eG9] at hP hD
  refine W.widen (k := 48) (n := 7510) (Nat.le_of_ble_eq_true rfl) (Nat.le_of_ble_eq_true rfl) ?_
  refine va_putF (D := db_G E) (ci := 10) (v := .ref q16) (ty := tyX10 8) (C := RX10) (T := TX10) (N := 15) hx hb hts hiX10 tyX10 tyX10_ok nmX10 hown hK hP hD hS 0 rfl rfl 8 (by decide) (hts _ (List.mem_of_getElem? (i := 34) rfl)) (fun _ h9 => h9) rfl hin rfl (tyX10_ok 8 (by decide)) rfl rfl (Nat.le_of_ble_eq_true rfl) dX10_init_113 (fun H locs hP hD hS => ?_)
  have hP : va_P (db_G E) vwCl ([(h0, .inr (10, [.ref q1, .ref q2, .ref q4, .ref q6, .ref q8, .ref q10, .ref q12, .ref q14, .ref q16, .null, .null, .null, .null, .null, .int 0]))] ++ G9) H := hP
  have hD : va_D A ([(h0, .inr (10, [.ref q1, .ref q2, .ref q4, .ref q6, .ref q8, .ref q10, .ref q12, .ref q14, .ref q16, .null, .null, .null, .null, .null, .int 0]))] ++ G9) := hD
  refine lv_aload_n hx hb dX10_init_116 rfl (lv_at hl 0 rfl) ?_
  refine va_new (ci := 9) (fs := [.null, .null, .null]) (C := RX9) (T := TX9) (N := 3) hx hb hts hiX9 tyX9 tyX9_ok hown (hts _ (List.mem_of_getElem? (i := 35) rfl)) (hts _ (List.mem_of_getElem? (i := 36) rfl)) (hts _ (List.mem_of_getElem? (i := 37) rfl)) hK hP hD hS hA rfl (fun j hj => by rcases (show j = 0 ∨ j = 1 ∨ j = 2 by omega) with rfl | rfl | rfl <;> rfl) (Nat.le_of_ble_eq_true rfl) (Nat.le_of_ble_eq_true rfl) dX10_init_117 (fun q18 H hP hD hS => ?_)
  have hP := di_mvP hP
  have hD := di_mvD hD
  have hP : va_P (db_G E) vwCl ([(h0, .inr (10, [.ref q1, .ref q2, .ref q4, .ref q6, .ref q8, .ref q10, .ref q12, .ref q14, .ref q16, .null, .null, .null, .null, .null, .int 0])), (q18, .inr (9, [.null, .null, .null]))] ++ G9) H := hP
  have hD : va_D A ([(h0, .inr (10, [.ref q1, .ref q2, .ref q4, .ref q6, .ref q8, .ref q10, .ref q12, .ref q14, .ref q16, .null, .null, .null, .null, .null, .int 0])), (q18, .inr (9, [.null, .null, .null]))] ++ G9) := hD
  refine W.widen (k := 49) (n := 7513) (Nat.le_of_ble_eq_true rfl) (Nat.le_of_ble_eq_true rfl) ?_
  refine lv_dup hx hb dX10_init_120 rfl ?_
  refine lv_aload_n hx hb dX10_init_121 rfl (lv_at hl 0 rfl) ?_
  refine va_get (D := db_G E) (ci := 10) (v := .ref q12) (C := RX10) (T := TX10) (N := 15) hx hb hts hiX10 hown hK hP 0 rfl rfl 6 (by decide) (hts _ (List.mem_of_getElem? (i := 26) rfl)) (fun _ h9 => h9) rfl dX10_init_122 ?_
  have hPc := hP.sub (ws' := [(q18, .inr (9, [.null, .null, .null]))]) [1] rfl
  have hDc := hD.sub (ws' := [(q18, .inr (9, [.null, .null, .null]))]) [1] (by decide) rfl
  have hFc := va_free (wc := [(q18, .inr (9, [.null, .null, .null]))]) hD hS hA [1] rfl
  refine va_callv (va_runI (As := [.ref q12]) (rest := [.ref q18, .ref h0]) ⟨hx, hb, hml, hown, hts⟩ (ci_X9 l E q18 q12 H.size) (cwI 1 hts gX10_init_X9_init rfl rfl rfl (hts (.initialized RX9) (List.mem_of_getElem? (i := 37) rfl)) (hts _ (List.mem_of_getElem? (i := 110) rfl)) (hts _ (List.mem_of_getElem? (i := 111) rfl)) rfl (by decide +kernel) ⟨Nat.le_of_ble_eq_true rfl, Nat.le_of_ble_eq_true rfl⟩) ⟨fun a U g mk q => by obtain ⟨q0, q1, qP, qK, qD⟩ := q; exact ⟨q0, q1, qP, va_K.moved (u := U) (U := U.calling g mk a) (Vm.Alike.refl U.vm) qK, qD⟩, fun U hU hW => ⟨rfl, by rw [hU], by rw [hU]; exact hPc, va_K.moved hW.alike hK, hDc.weaken (fun _ _ _ _ => trivial)⟩⟩ rfl rfl hl.1 rfl (lv_room (Nat.le_of_ble_eq_true rfl)) dX10_init_125 ⟨Nat.le_of_ble_eq_true rfl, Nat.le_of_ble_eq_true rfl⟩) hS (fun q _ h => hFc q h) hFc (fun u t H1 locs ht hvm hw hB hz1 hk1 hS => ?_)
  obtain ⟨b19, hP1, hD1⟩ := hB
  rw [ht] at hP1
  obtain ⟨hP, hD⟩ := di_join (F := [(h0, .inr (10, [.ref q1, .ref q2, .ref q4, .ref q6, .ref q8, .ref q10, .ref q12, .ref q14, .ref q16, .null, .null, .null, .null, .null, .int 0]))]) (x := (q18, .inr (9, [.null, .null, .null]))) (w1 := rs_X9 E q18 q12 b19) hP hD hk1 hFc hP1 hD1
  generalize H1 = H at hP hS ⊢
  obtain ⟨G10, eG10⟩ : ∃ z_ : va_W, z_ = (rs_X9 E q18 q12 b19) ++ G9 := ⟨_, rfl⟩
  rw [← eG10] at hP hD
  refine W.widen (k := 51) (n := 8281) (Nat.le_of_ble_eq_true rfl) (Nat.le_of_ble_eq_true rfl) ?_
  refine va_putF (D := db_G E) (ci := 10) (v := .ref q18) (ty := tyX10 9) (C := RX10) (T := TX10) (N := 15) hx hb hts hiX10 tyX10 tyX10_ok nmX10 hown hK hP hD hS 0 rfl rfl 9 (by decide) (hts _ (List.mem_of_getElem? (i := 38) rfl)) (fun _ h9 => h9) rfl hin rfl (tyX10_ok 9 (by decide)) rfl rfl (Nat.le_of_ble_eq_true rfl) dX10_init_128 (fun H locs hP hD hS => ?_)
  have hP : va_P (db_G E) vwCl ([(h0, .inr (10, [.ref q1, .ref q2, .ref q4, .ref q6, .ref q8, .ref q10, .ref q12, .ref q14, .ref q16, .ref q18, .null, .null, .null, .null, .int 0]))] ++ G10) H := hP
  have hD : va_D A ([(h0, .inr (10, [.ref q1, .ref q2, .ref q4, .ref q6, .ref q8, .ref q10, .ref q12, .ref q14, .ref q16, .ref q18, .null, .null, .null, .null, .int 0]))] ++ G10) := hD
  refine lv_aload_n hx hb dX10_init_131 rfl (lv_at hl 0 rfl) ?_
  refine va_new (ci := 6) (fs := [.null, .null]) (C := RX6) (T := TX6) (N := 2) hx hb hts hiX6 tyX6 tyX6_ok hown (hts _ (List.mem_of_getElem? (i := 39) rfl)) (hts _ (List.mem_of_getElem? (i := 40) rfl)) (hts _ (List.mem_of_getElem? (i := 41) rfl)) hK hP hD hS hA rfl (fun j hj => by rcases (show j = 0 ∨ j = 1 by omega) with rfl | rfl <;> rfl) (Nat.le_of_ble_eq_true rfl) (Nat.le_of_ble_eq_true rfl) dX10_init_132 (fun q20 H hP hD hS => ?_)
  have hP := di_mvP hP
  have hD := di_mvD hD
  have hP : va_P (db_G E) vwCl ([(h0, .inr (10, [.ref q1, .ref q2, .ref q4, .ref q6, .ref q8, .ref q10, .ref q12, .ref q14, .ref q16, .ref q18, .null, .null, .null, .null, .int 0])), (q20, .inr (6, [.null, .null]))] ++ G10) H := hP
  have hD : va_D A ([(h0, .inr (10, [.ref q1, .ref q2, .ref q4, .ref q6, .ref q8, .ref q10, .ref q12, .ref q14, .ref q16, .ref q18, .null, .null, .null, .null, .int 0])), (q20, .inr (6, [.null, .null]))] ++ G10) := hD
  refine W.widen (k := 52) (n := 8283) (Nat.le_of_ble_eq_true rfl) (Nat.le_of_ble_eq_true rfl) ?_
  refine lv_dup hx hb dX10_init_135 rfl ?_
  refine lv_aload_n hx hb dX10_init_136 rfl (lv_at hl 0 rfl) ?_
  refine va_get (D := db_G E) (ci := 10) (v := .ref q12) (C := RX10) (T := TX10) (N := 15) hx hb hts hiX10 hown hK hP 0 rfl rfl 6 (by decide) (hts _ (List.mem_of_getElem? (i := 26) rfl)) (fun _ h9 => h9) rfl dX10_init_137 ?_
  have hPc := hP.sub (ws' := [(q20, .inr (6, [.null, .null]))]) [1] rfl
  have hDc := hD.sub (ws' := [(q20, .inr (6, [.null, .null]))]) [1] (by decide) rfl
  have hFc := va_free (wc := [(q20, .inr (6, [.null, .null]))]) hD hS hA [1] rfl
  refine va_callv (va_runI (As := [.ref q12]) (rest := [.ref q20, .ref h0]) ⟨hx, hb, hml, hown, hts⟩ (ci_X6 l E q20 q12 H.size) (cwI 1 hts gX10_init_X6_init rfl rfl rfl (hts (.initialized RX6) (List.mem_of_getElem? (i := 41) rfl)) (hts _ (List.mem_of_getElem? (i := 118) rfl)) (hts _ (List.mem_of_getElem? (i := 119) rfl)) rfl (by decide +kernel) ⟨Nat.le_of_ble_eq_true rfl, Nat.le_of_ble_eq_true rfl⟩) ⟨fun a U g mk q => by obtain ⟨q0, q1, qP, qK, qD⟩ := q; exact ⟨q0, q1, qP, va_K.moved (u := U) (U := U.calling g mk a) (Vm.Alike.refl U.vm) qK, qD⟩, fun U hU hW => ⟨rfl, by rw [hU], by rw [hU]; exact hPc, va_K.moved hW.alike hK, hDc.weaken (fun _ _ _ _ => trivial)⟩⟩ rfl rfl hl.1 rfl (lv_room (Nat.le_of_ble_eq_true rfl)) dX10_init_140 ⟨Nat.le_of_ble_eq_true rfl, Nat.le_of_ble_eq_true rfl⟩) hS (fun q _ h => hFc q h) hFc (fun u t H1 locs ht hvm hw hB hz1 hk1 hS => ?_)
  obtain ⟨b21, hP1, hD1⟩ := hB
  rw [ht] at hP1
  obtain ⟨hP, hD⟩ := di_join (F := [(h0, .inr (10, [.ref q1, .ref q2, .ref q4, .ref q6, .ref q8, .ref q10, .ref q12, .ref q14, .ref q16, .ref q18, .null, .null, .null, .null, .int 0]))]) (x := (q20, .inr (6, [.null, .null]))) (w1 := rs_X6 E q20 q12 b21) hP hD hk1 hFc hP1 hD1
  generalize H1 = H at hP hS ⊢
  obtain ⟨G11, eG11⟩ : ∃ z_ : va_W, z_ = (rs_X6 E q20 q12 b21) ++ G10 := ⟨_, rfl⟩
  rw [← eG11] at hP hD
  refine W.widen (k := 53) (n := 12379) (Nat.le_of_ble_eq_true rfl) (Nat.le_of_ble_eq_true rfl) ?_
  refine va_putF (D := db_G E) (ci := 10) (v := .ref q20) (ty := tyX10 10) (C := RX10) (T := TX10) (N := 15) hx hb hts hiX10 tyX10 tyX10_ok nmX10 hown hK hP hD hS 0 rfl rfl 10 (by decide) (hts _ (List.mem_of_getElem? (i := 42) rfl)) (fun _ h9 => h9) rfl hin rfl (tyX10_ok 10 (by decide)) rfl rfl (Nat.le_of_ble_eq_true rfl) dX10_init_143 (fun H locs hP hD hS => ?_)
  have hP : va_P (db_G E) vwCl ([(h0, .inr (10, [.ref q1, .ref q2, .ref q4, .ref q6, .ref q8, .ref q10, .ref q12, .ref q14, .ref q16, .ref q18, .ref q20, .null, .null, .null, .int 0]))] ++ G11) H := hP
  have hD : va_D A ([(h0, .inr (10, [.ref q1, .ref q2, .ref q4, .ref q6, .ref q8, .ref q10, .ref q12, .ref q14, .ref q16, .ref q18, .ref q20, .null, .null, .null, .int 0]))] ++ G11) := hD
  refine lv_aload_n hx hb dX10_init_146 rfl (lv_at hl 0 rfl) ?_
  refine va_new (ci := 8) (fs := [.null, .null, .null, .null, .int 0]) (C := RX8) (T := TX8) (N := 5) hx hb hts hiX8 tyX8 tyX8_ok hown (hts _ (List.mem_of_getElem? (i := 15) rfl)) (hts _ (List.mem_of_getElem? (i := 16) rfl)) (hts _ (List.mem_of_getElem? (i := 17) rfl)) hK hP hD hS hA rfl (fun j hj => by rcases (show j = 0 ∨ j = 1 ∨ j = 2 ∨ j = 3 ∨ j = 4 by omega) with rfl | rfl | rfl | rfl | rfl <;> rfl) (Nat.le_of_ble_eq_true rfl) (Nat.le_of_ble_eq_true rfl) dX10_init_147 (fun q22 H hP hD hS => ?_)
  have hP := di_mvP hP
  have hD := di_mvD hD
  have hP : va_P (db_G E) vwCl ([(h0, .inr (10, [.ref q1, .ref q2, .ref q4, .ref q6, .ref q8, .ref q10, .ref q12, .ref q14, .ref q16, .ref q18, .ref q20, .null, .null, .null, .int 0])), (q22, .inr (8, [.null, .null, .null, .null, .int 0]))] ++ G11) H := hP
  have hD : va_D A ([(h0, .inr (10, [.ref q1, .ref q2, .ref q4, .ref q6, .ref q8, .ref q10, .ref q12, .ref q14, .ref q16, .ref q18, .ref q20, .null, .null, .null, .int 0])), (q22, .inr (8, [.null, .null, .null, .null, .int 0]))] ++ G11) := hD
  refine W.widen (k := 54) (n := 12384) (Nat.le_of_ble_eq_true rfl) (Nat.le_of_ble_eq_true rfl) ?_
  refine lv_dup hx hb dX10_init_150 rfl ?_
  have hPc := hP.sub (ws' := [(q22, .inr (8, [.null, .null, .null, .null, .int 0]))]) [1] rfl
  have hDc := hD.sub (ws' := [(q22, .inr (8, [.null, .null, .null, .null, .int 0]))]) [1] (by decide) rfl
  have hFc := va_free (wc := [(q22, .inr (8, [.null, .null, .null, .null, .int 0]))]) hD hS hA [1] rfl
  refine va_callv (va_runI (As := []) (rest := [.ref q22, .ref h0]) ⟨hx, hb, hml, hown, hts⟩ (ci_X8 l E q22  H.size) (cwI 0 hts gX10_init_X8_init rfl rfl rfl (hts (.initialized RX8) (List.mem_of_getElem? (i := 17) rfl)) (hts _ (List.mem_of_getElem? (i := 61) rfl)) (hts _ (List.mem_of_getElem? (i := 62) rfl)) rfl (by decide +kernel) ⟨Nat.le_of_ble_eq_true rfl, Nat.le_of_ble_eq_true rfl⟩) ⟨fun a U g mk q => by obtain ⟨q0, q1, qP, qK, qD, qN⟩ := q; exact ⟨q0, q1, qP, va_K.moved (u := U) (U := U.calling g mk a) (Vm.Alike.refl U.vm) qK, qD, db_nI.same (u := U) (U := U.calling g mk a) rfl qN⟩, fun U hU hW => ⟨rfl, by rw [hU], by rw [hU]; exact hPc, va_K.moved hW.alike hK, hDc.weaken (fun _ _ _ _ => trivial), db_nI.warm hW hN⟩⟩ rfl rfl hl.1 rfl (lv_room (Nat.le_of_ble_eq_true rfl)) dX10_init_151 ⟨Nat.le_of_ble_eq_true rfl, Nat.le_of_ble_eq_true rfl⟩) hS (fun q _ h => hFc q h) hFc (fun u t H1 locs ht hvm hw hB hz1 hk1 hS => ?_)
  obtain ⟨b23, hP1, hD1⟩ := hB
  rw [ht] at hP1
  obtain ⟨hP, hD⟩ := di_join (F := [(h0, .inr (10, [.ref q1, .ref q2, .ref q4, .ref q6, .ref q8, .ref q10, .ref q12, .ref q14, .ref q16, .ref q18, .ref q20, .null, .null, .null, .int 0]))]) (x := (q22, .inr (8, [.null, .null, .null, .null, .int 0]))) (w1 := rs_X8 E q22  b23) hP hD hk1 hFc hP1 hD1
  generalize H1 = H at hP hS ⊢
  obtain ⟨G12, eG12⟩ : ∃ z_ : va_W, z_ = (rs_X8 E q22  b23) ++ G11 := ⟨_, rfl⟩
  rw [← eG12] at hP hD
  refine W.widen (k := 82) (n := 12642) (Nat.le_of_ble_eq_true rfl) (Nat.le_of_ble_eq_true rfl) ?_
  refine va_putF (D := db_G E) (ci := 10) (v := .ref q22) (ty := tyX10 11) (C := RX10) (T := TX10) (N := 15) hx hb hts hiX10 tyX10 tyX10_ok nmX10 hown hK hP hD hS 0 rfl rfl 11 (by decide) (hts _ (List.mem_of_getElem? (i := 43) rfl)) (fun _ h9 => h9) rfl hin rfl (tyX10_ok 11 (by decide)) rfl rfl (Nat.le_of_ble_eq_true rfl) dX10_init_154 (fun H locs hP hD hS => ?_)
  have hP : va_P (db_G E) vwCl ([(h0, .inr (10, [.ref q1, .ref q2, .ref q4, .ref q6, .ref q8, .ref q10, .ref q12, .ref q14, .ref q16, .ref q18, .ref q20, .ref q22, .null, .null, .int 0]))] ++ G12) H := hP
  have hD : va_D A ([(h0, .inr (10, [.ref q1, .ref q2, .ref q4, .ref q6, .ref q8, .ref q10, .ref q12, .ref q14, .ref q16, .ref q18, .ref q20, .ref q22, .null, .null, .int 0]))] ++ G12) := hD
  refine lv_aload_n hx hb dX10_init_157 rfl (lv_at hl 0 rfl) ?_
  refine va_new (ci := 4) (fs := [.null, .int 0, .int 0]) (C := RX4) (T := TX4) (N := 3) hx hb hts hiX4 tyX4 tyX4_ok hown (hts _ (List.mem_of_getElem? (i := 19) rfl)) (hts _ (List.mem_of_getElem? (i := 20) rfl)) (hts _ (List.mem_of_getElem? (i := 21) rfl)) hK hP hD hS hA rfl (fun j hj => by rcases (show j = 0 ∨ j = 1 ∨ j = 2 by omega) with rfl | rfl | rfl <;> rfl) (Nat.le_of_ble_eq_true rfl) (Nat.le_of_ble_eq_true rfl) dX10_init_158 (fun q24 H hP hD hS => ?_)
  have hP := di_mvP hP
  have hD := di_mvD hD
  have hP : va_P (db_G E) vwCl ([(h0, .inr (10, [.ref q1, .ref q2, .ref q4, .ref q6, .ref q8, .ref q10, .ref q12, .ref q14, .ref q16, .ref q18, .ref q20, .ref q22, .null, .null, .int 0])), (q24, .inr (4, [.null, .int 0, .int 0]))] ++ G12) H := hP
  have hD : va_D A ([(h0, .inr (10, [.ref q1, .ref q2, .ref q4, .ref q6, .ref q8, .ref q10, .ref q12, .ref q14, .ref q16, .ref q18, .ref q20, .ref q22, .null, .null, .int 0])), (q24, .inr (4, [.null, .int 0, .int 0]))] ++ G12) := hD
  refine W.widen (k := 83) (n := 12645) (Nat.le_of_ble_eq_true rfl) (Nat.le_of_ble_eq_true rfl) ?_
  refine lv_dup hx hb dX10_init_161 rfl ?_
  have hPc := hP.sub (ws' := [(q24, .inr (4, [.null, .int 0, .int 0]))]) [1] rfl
  have hDc := hD.sub (ws' := [(q24, .inr (4, [.null, .int 0, .int 0]))]) [1] (by decide) rfl
  have hFc := va_free (wc := [(q24, .inr (4, [.null, .int 0, .int 0]))]) hD hS hA [1] rfl
  refine va_callv (va_runIN (As := []) (rest := [.ref q24, .ref h0]) ⟨hx, hb, hml, hown, hts⟩ (ci_X4 l E q24  H.size) ⟨va_cnB 0 hts gX10_init_X4_init_n43 rfl rfl rfl (hN.1 ("DaysOnBread", 43, ⟨"DaysOnBread$Payings", "<init>", "()V"⟩, "DaysOnBread") (List.mem_of_getElem? (i := 1) rfl)) (hts (.initialized RX4) (List.mem_of_getElem? (i := 21) rfl)) (by decide +kernel) ⟨Nat.le_of_ble_eq_true rfl, Nat.le_of_ble_eq_true rfl⟩, rfl, (hts _ (List.mem_of_getElem? (i := 79) rfl))⟩ ⟨fun a U g mk q => by obtain ⟨q0, q1, qP, qK, qD, qN, qT⟩ := q; exact ⟨q0, q1, qP, va_K.moved (u := U) (U := U.calling g mk a) (Vm.Alike.refl U.vm) qK, qD, db_nI.same (u := U) (U := U.calling g mk a) rfl qN, db_AT.moved (u := U) (U := U.calling g mk a) (Vm.Alike.refl U.vm) qT⟩, fun U hU hW => ⟨rfl, by rw [hU], by rw [hU]; exact hPc, va_K.moved hW.alike hK, hDc.weaken (fun _ _ _ _ => trivial), db_nI.warm hW hN, by rw [hU]; exact ((hT.kept hS.2.1).narrow hFc).moved hW.alike⟩⟩ rfl rfl hl.1 rfl (lv_room (Nat.le_of_ble_eq_true rfl)) dX10_init_162 ⟨Nat.le_of_ble_eq_true rfl, Nat.le_of_ble_eq_true rfl⟩) hS (fun q _ h => hFc q h) hFc (fun u t H1 locs ht hvm hw hB hz1 hk1 hS => ?_)
  obtain ⟨b25, hP1, hD1⟩ := hB
  rw [ht] at hP1
  obtain ⟨hP, hD⟩ := di_join (F := [(h0, .inr (10, [.ref q1, .ref q2, .ref q4, .ref q6, .ref q8, .ref q10, .ref q12, .ref q14, .ref q16, .ref q18, .ref q20, .ref q22, .null, .null, .int 0]))]) (x := (q24, .inr (4, [.null, .int 0, .int 0]))) (w1 := rs_X4 E q24  b25) hP hD hk1 hFc hP1 hD1
  generalize H1 = H at hP hS ⊢
  obtain ⟨G13, eG13⟩ : ∃ z_ : va_W, z_ = (rs_X4 E q24  b25) ++ G12 := ⟨_, rfl⟩
  rw [← eG13] at hP hD
  refine W.widen (k := 84) (n := 12669) (Nat.le_of_ble_eq_true rfl) (Nat.le_of_ble_eq_true rfl) ?_
  refine va_putF (D := db_G E) (ci := 10) (v := .ref q24) (ty := tyX10 12) (C := RX10) (T := TX10) (N := 15) hx hb hts hiX10 tyX10 tyX10_ok nmX10 hown hK hP hD hS 0 rfl rfl 12 (by decide) (hts _ (List.mem_of_getElem? (i := 44) rfl)) (fun _ h9 => h9) rfl hin rfl (tyX10_ok 12 (by decide)) rfl rfl (Nat.le_of_ble_eq_true rfl) dX10_init_165 (fun H locs hP hD hS => ?_)
  have hP : va_P (db_G E) vwCl ([(h0, .inr (10, [.ref q1, .ref q2, .ref q4, .ref q6, .ref q8, .ref q10, .ref q12, .ref q14, .ref q16, .ref q18, .ref q20, .ref q22, .ref q24, .null, .int 0]))] ++ G13) H := hP
  have hD : va_D A ([(h0, .inr (10, [.ref q1, .ref q2, .ref q4, .ref q6, .ref q8, .ref q10, .ref q12, .ref q14, .ref q16, .ref q18, .ref q20, .ref q22, .ref q24, .null, .int 0]))] ++ G13) := hD
  refine lv_aload_n hx hb dX10_init_168 rfl (lv_at hl 0 rfl) ?_
  refine va_new (ci := 5) (fs := [.null, .null, .null, .null, .int 0]) (C := RX5) (T := TX5) (N := 5) hx hb hts hiX5 tyX5 tyX5_ok hown (hts _ (List.mem_of_getElem? (i := 23) rfl)) (hts _ (List.mem_of_getElem? (i := 24) rfl)) (hts _ (List.mem_of_getElem? (i := 25) rfl)) hK hP hD hS hA rfl (fun j hj => by rcases (show j = 0 ∨ j = 1 ∨ j = 2 ∨ j = 3 ∨ j = 4 by omega) with rfl | rfl | rfl | rfl | rfl <;> rfl) (Nat.le_of_ble_eq_true rfl) (Nat.le_of_ble_eq_true rfl) dX10_init_169 (fun q26 H hP hD hS => ?_)
  have hP := di_mvP hP
  have hD := di_mvD hD
  have hP : va_P (db_G E) vwCl ([(h0, .inr (10, [.ref q1, .ref q2, .ref q4, .ref q6, .ref q8, .ref q10, .ref q12, .ref q14, .ref q16, .ref q18, .ref q20, .ref q22, .ref q24, .null, .int 0])), (q26, .inr (5, [.null, .null, .null, .null, .int 0]))] ++ G13) H := hP
  have hD : va_D A ([(h0, .inr (10, [.ref q1, .ref q2, .ref q4, .ref q6, .ref q8, .ref q10, .ref q12, .ref q14, .ref q16, .ref q18, .ref q20, .ref q22, .ref q24, .null, .int 0])), (q26, .inr (5, [.null, .null, .null, .null, .int 0]))] ++ G13) := hD
  refine W.widen (k := 85) (n := 12674) (Nat.le_of_ble_eq_true rfl) (Nat.le_of_ble_eq_true rfl) ?_
  refine lv_dup hx hb dX10_init_172 rfl ?_
  have hPc := hP.sub (ws' := [(q26, .inr (5, [.null, .null, .null, .null, .int 0]))]) [1] rfl
  have hDc := hD.sub (ws' := [(q26, .inr (5, [.null, .null, .null, .null, .int 0]))]) [1] (by decide) rfl
  have hFc := va_free (wc := [(q26, .inr (5, [.null, .null, .null, .null, .int 0]))]) hD hS hA [1] rfl
  refine va_callv (va_runIN (As := []) (rest := [.ref q26, .ref h0]) ⟨hx, hb, hml, hown, hts⟩ (ci_X5 l E q26  H.size) ⟨va_cnB 0 hts gX10_init_X5_init_n50 rfl rfl rfl (hN.1 ("DaysOnBread", 50, ⟨"DaysOnBread$Puttings", "<init>", "()V"⟩, "DaysOnBread") (List.mem_of_getElem? (i := 2) rfl)) (hts (.initialized RX5) (List.mem_of_getElem? (i := 25) rfl)) (by decide +kernel) ⟨Nat.le_of_ble_eq_true rfl, Nat.le_of_ble_eq_true rfl⟩, rfl, (hts _ (List.mem_of_getElem? (i := 89) rfl))⟩ ⟨fun a U g mk q => by obtain ⟨q0, q1, qP, qK, qD⟩ := q; exact ⟨q0, q1, qP, va_K.moved (u := U) (U := U.calling g mk a) (Vm.Alike.refl U.vm) qK, qD⟩, fun U hU hW => ⟨rfl, by rw [hU], by rw [hU]; exact hPc, va_K.moved hW.alike hK, hDc.weaken (fun _ _ _ _ => trivial)⟩⟩ rfl rfl hl.1 rfl (lv_room (Nat.le_of_ble_eq_true rfl)) dX10_init_173 ⟨Nat.le_of_ble_eq_true rfl, Nat.le_of_ble_eq_true rfl⟩) hS (fun q _ h => hFc q h) hFc (fun u t H1 locs ht hvm hw hB hz1 hk1 hS => ?_)
  obtain ⟨b27, hP1, hD1⟩ := hB
  rw [ht] at hP1
  obtain ⟨hP, hD⟩ := di_join (F := [(h0, .inr (10, [.ref q1, .ref q2, .ref q4, .ref q6, .ref q8, .ref q10, .ref q12, .ref q14, .ref q16, .ref q18, .ref q20, .ref q22, .ref q24, .null, .int 0]))]) (x := (q26, .inr (5, [.null, .null, .null, .null, .int 0]))) (w1 := rs_X5 E q26  b27) hP hD hk1 hFc hP1 hD1
  generalize H1 = H at hP hS ⊢
  obtain ⟨G14, eG14⟩ : ∃ z_ : va_W, z_ = (rs_X5 E q26  b27) ++ G13 := ⟨_, rfl⟩
  rw [← eG14] at hP hD
  refine W.widen (k := 89) (n := 12722) (Nat.le_of_ble_eq_true rfl) (Nat.le_of_ble_eq_true rfl) ?_
  refine va_putF (D := db_G E) (ci := 10) (v := .ref q26) (ty := tyX10 13) (C := RX10) (T := TX10) (N := 15) hx hb hts hiX10 tyX10 tyX10_ok nmX10 hown hK hP hD hS 0 rfl rfl 13 (by decide) (hts _ (List.mem_of_getElem? (i := 45) rfl)) (fun _ h9 => h9) rfl hin rfl (tyX10_ok 13 (by decide)) rfl rfl (Nat.le_of_ble_eq_true rfl) dX10_init_176 (fun H locs hP hD hS => ?_)
  have hP : va_P (db_G E) vwCl ([(h0, .inr (10, [.ref q1, .ref q2, .ref q4, .ref q6, .ref q8, .ref q10, .ref q12, .ref q14, .ref q16, .ref q18, .ref q20, .ref q22, .ref q24, .ref q26, .int 0]))] ++ G14) H := hP
  have hD : va_D A ([(h0, .inr (10, [.ref q1, .ref q2, .ref q4, .ref q6, .ref q8, .ref q10, .ref q12, .ref q14, .ref q16, .ref q18, .ref q20, .ref q22, .ref q24, .ref q26, .int 0]))] ++ G14) := hD
  subst hAe
  subst eG14 eG13 eG12 eG11 eG10 eG9 eG8 eG7 eG6 eG5 eG4 eG3 eG2 eG1
  exact W.vret hx hb hr (fun t ht hW => ⟨⟨(), rfl, trivial, q1, q2, q4, q6, q8, q10, q12, q14, q16, q18, q20, q22, q24, q26, b3, b5, b7, b9, b11, b13, b15, b17, b19, b21, b23, b25, b27, by rw [ht]; exact hP, hD⟩, hS.F ht⟩) hS.2.2 dX10_init_179
