-- DaysOnBread$Course.begin(I)V
abbrev rm_X3_begin : Room := { frames := 1, cells := 0, slots := 0, locals := 23 }
def wp_X3_begin  (X : db_St) (x1 : Int32) (Q : db_St → Prop) : Prop := wp_J7_fill_53178 44 6 X (0 : Int32) (fun X1 => wp_J7_fill_53178 45 6 X1 (0 : Int32) (fun X2 => (∀ X3, X3 = (db_si X2 43 3 x1) → (∀ X4, X4 = (db_si X3 43 4 (0 : Int32)) → (∀ X5, X5 = (db_si X4 43 5 (0 : Int32)) → (∀ X6, X6 = (db_si X5 43 6 (0 : Int32)) → Q X6))))))
set_option maxHeartbeats 4000000 in
set_option maxRecDepth 100000 in
theorem ct_X3_begin {l : Launch} {E : db_E}  {X : db_St} {x1 : Int32} {Q : db_St → Prop} (h : wp_X3_begin  X x1 Q) : db_MV l E yX3_begin wsX3_begin rm_X3_begin X [.ref (db_ad E 43), .int x1] Q := by
  intro sz
  unfold wp_X3_begin at h
  refine Met.ofW (cc := cX3_begin) (maxL := 2) (ret := none) (by decide) rfl ?_
  intro p e s m args below meth c s₁ B hml hv
  obtain ⟨rfl, hsz, hU⟩ := hv
  subst hsz
  have S : CallFix p m c cX3_begin 2 s ([.ref (db_ad E 43), .int x1] : List Value).toArray wsX3_begin RX3 := ⟨B.exec, B.bytes, hml, findClass_of_methodNamed B.named, atoms_spec (ws := wsX3_begin) B.pre⟩
  have hx := S.1
  have hb := S.2.1
  have hr := B.returns
  have hlocks := B.notSynchronized
  have hw := db_start hU
  have hiX3 : ∀ w ∈ wsX30, w ∈ wsX3_begin := fun w_ h_ => List.mem_cons_of_mem _ (List.mem_append_right _ h_)
  have hl := lv_entry ([.ref (db_ad E 43), .int x1]) (n := 2) (Nat.le_of_ble_eq_true rfl)
  rw [lg_entry_eq]
  generalize (lg_sl ([.ref (db_ad E 43), .int x1]) ++ List.replicate (2 - (lg_sl ([.ref (db_ad E 43), .int x1])).length) Slot.unset).toArray = ls at hl ⊢
  have hl : lv_has ls 2 [(0, .ref (db_ad E 43)), (1, .int x1)] := hl
  refine lv_aload_n hx hb dX3_begin_0 rfl (lv_at hl 0 rfl) ?_
  refine db_getr S hw (Nat.le_of_ble_eq_true rfl) db_s43 (C := RX3) (T := TX3) (N := 7) rfl hiX3 1 (by decide) (r := 44) rfl (List.mem_of_getElem? (i := 1) rfl) dX3_begin_1 ?_
  refine lv_iconst (v := (0 : Int32)) hx hb dX3_begin_4 (by decide) ?_
  refine db_callSv S hw (As := [.ref (db_ad E 44), .int (0 : Int32)]) (ct_J7_fill_53178 (Nat.le_of_ble_eq_true rfl) db_s44 h) gX3_begin_J7_fill_53178 rfl ⟨rfl, rfl, Nat.le_of_ble_eq_true rfl, Nat.le_of_ble_eq_true rfl⟩ 2 rfl (by decide +kernel) hl.1 rfl (Nat.le_of_ble_eq_true rfl) dX3_begin_5 ⟨Nat.zero_le _, Nat.zero_le _⟩ (fun X1 H locs h hw => ?_)
  refine lv_aload_n hx hb dX3_begin_8 rfl (lv_at hl 0 rfl) ?_
  refine db_getr S hw (Nat.le_of_ble_eq_true rfl) db_s43 (C := RX3) (T := TX3) (N := 7) rfl hiX3 2 (by decide) (r := 45) rfl (List.mem_of_getElem? (i := 2) rfl) dX3_begin_9 ?_
  refine lv_iconst (v := (0 : Int32)) hx hb dX3_begin_12 (by decide) ?_
  refine db_callSv S hw (As := [.ref (db_ad E 45), .int (0 : Int32)]) (ct_J7_fill_53178 (Nat.le_of_ble_eq_true rfl) db_s45 h) gX3_begin_J7_fill_53178 rfl ⟨rfl, rfl, Nat.le_of_ble_eq_true rfl, Nat.le_of_ble_eq_true rfl⟩ 2 rfl (by decide +kernel) hl.1 rfl (Nat.le_of_ble_eq_true rfl) dX3_begin_13 ⟨Nat.zero_le _, Nat.zero_le _⟩ (fun X2 H locs h hw => ?_)
  refine lv_aload_n hx hb dX3_begin_16 rfl (lv_at hl 0 rfl) ?_
  refine lv_iload_n hx hb dX3_begin_17 rfl (lv_at hl 1 rfl) ?_
  refine db_puti S hw (Nat.le_of_ble_eq_true rfl) db_s43 (C := RX3) (T := TX3) (N := 7) rfl hiX3 tyX3_ok nmX3 3 (by decide) rfl (List.mem_of_getElem? (i := 3) rfl) rfl ⟨rfl, rfl⟩ dX3_begin_18 (fun H locs hw => ?_)
  obtain ⟨X3, e3, hw⟩ : ∃ Z_, Z_ = (db_si X2 43 3 x1) ∧ db_HW E (db_Aw E s.heap.size) s Z_ H locs := ⟨_, rfl, hw⟩
  have h := h X3 e3
  refine lv_aload_n hx hb dX3_begin_21 rfl (lv_at hl 0 rfl) ?_
  refine lv_iconst (v := (0 : Int32)) hx hb dX3_begin_22 (by decide) ?_
  refine db_puti S hw (Nat.le_of_ble_eq_true rfl) db_s43 (C := RX3) (T := TX3) (N := 7) rfl hiX3 tyX3_ok nmX3 4 (by decide) rfl (List.mem_of_getElem? (i := 4) rfl) rfl ⟨rfl, rfl⟩ dX3_begin_23 (fun H locs hw => ?_)
  obtain ⟨X4, e4, hw⟩ : ∃ Z_, Z_ = (db_si X3 43 4 (0 : Int32)) ∧ db_HW E (db_Aw E s.heap.size) s Z_ H locs := ⟨_, rfl, hw⟩
  have h := h X4 e4
  refine lv_aload_n hx hb dX3_begin_26 rfl (lv_at hl 0 rfl) ?_
  refine lv_iconst (v := (0 : Int32)) hx hb dX3_begin_27 (by decide) ?_
  refine db_puti S hw (Nat.le_of_ble_eq_true rfl) db_s43 (C := RX3) (T := TX3) (N := 7) rfl hiX3 tyX3_ok nmX3 5 (by decide) rfl (List.mem_of_getElem? (i := 5) rfl) rfl ⟨rfl, rfl⟩ dX3_begin_28 (fun H locs hw => ?_)
  obtain ⟨X5, e5, hw⟩ : ∃ Z_, Z_ = (db_si X4 43 5 (0 : Int32)) ∧ db_HW E (db_Aw E s.heap.size) s Z_ H locs := ⟨_, rfl, hw⟩
  have h := h X5 e5
  refine lv_aload_n hx hb dX3_begin_31 rfl (lv_at hl 0 rfl) ?_
  refine lv_iconst (v := (0 : Int32)) hx hb dX3_begin_32 (by decide) ?_
  refine db_puti S hw (Nat.le_of_ble_eq_true rfl) db_s43 (C := RX3) (T := TX3) (N := 7) rfl hiX3 tyX3_ok nmX3 6 (by decide) rfl (List.mem_of_getElem? (i := 6) rfl) rfl ⟨rfl, rfl⟩ dX3_begin_33 (fun H locs hw => ?_)
  obtain ⟨X6, e6, hw⟩ : ∃ Z_, Z_ = (db_si X5 43 6 (0 : Int32)) ∧ db_HW E (db_Aw E s.heap.size) s Z_ H locs := ⟨_, rfl, hw⟩
  have h := h X6 e6
  exact db_vret S hr hlocks hw h dX3_begin_36
-- DaysOnBread$Course.endDay()V
abbrev rm_X3_endDay : Room := { frames := 1, cells := 0, slots := 0, locals := 23 }
def wp_X3_endDay  (X : db_St)  (Q : db_St → Prop) : Prop := ((0 < (X.1 44 ((3 : Int32)).toNatClampNeg) → (∀ X1, X1 = (db_si X 43 5 (1 : Int32)) → wp_J7_fill_53178 44 6 X1 (0 : Int32) (fun X2 => (∀ X3, X3 = (db_si X2 43 4 ((X2.1 43 4) + (1 : Int32))) → Q X3)))) ∧ (¬ (0 < (X.1 44 ((3 : Int32)).toNatClampNeg)) → (((X.1 44 ((5 : Int32)).toNatClampNeg) ≤ 0 → (∀ X4, X4 = (db_si X 43 5 (0 : Int32)) → wp_J7_fill_53178 44 6 X4 (0 : Int32) (fun X5 => (∀ X6, X6 = (db_si X5 43 4 ((X5.1 43 4) + (1 : Int32))) → Q X6)))) ∧ (¬ ((X.1 44 ((5 : Int32)).toNatClampNeg) ≤ 0) → (∀ X7, X7 = (db_si X 43 5 (1 : Int32)) → wp_J7_fill_53178 44 6 X7 (0 : Int32) (fun X8 => (∀ X9, X9 = (db_si X8 43 4 ((X8.1 43 4) + (1 : Int32))) → Q X9)))))))
set_option maxHeartbeats 4000000 in
set_option maxRecDepth 100000 in
theorem ct_X3_endDay {l : Launch} {E : db_E}  {X : db_St}  {Q : db_St → Prop} (h : wp_X3_endDay  X  Q) : db_MV l E yX3_endDay wsX3_endDay rm_X3_endDay X [.ref (db_ad E 43)] Q := by
  intro sz
  unfold wp_X3_endDay at h
  refine Met.ofW (cc := cX3_endDay) (maxL := 1) (ret := none) (by decide) rfl ?_
  intro p e s m args below meth c s₁ B hml hv
  obtain ⟨rfl, hsz, hU⟩ := hv
  subst hsz
  have S : CallFix p m c cX3_endDay 1 s ([.ref (db_ad E 43)] : List Value).toArray wsX3_endDay RX3 := ⟨B.exec, B.bytes, hml, findClass_of_methodNamed B.named, atoms_spec (ws := wsX3_endDay) B.pre⟩
  have hx := S.1
  have hb := S.2.1
  have hr := B.returns
  have hlocks := B.notSynchronized
  have hw := db_start hU
  have hiX3 : ∀ w ∈ wsX30, w ∈ wsX3_endDay := fun w_ h_ => List.mem_cons_of_mem _ (List.mem_append_right _ h_)
  have hl := lv_entry ([.ref (db_ad E 43)]) (n := 1) (Nat.le_of_ble_eq_true rfl)
  rw [lg_entry_eq]
  generalize (lg_sl ([.ref (db_ad E 43)]) ++ List.replicate (1 - (lg_sl ([.ref (db_ad E 43)])).length) Slot.unset).toArray = ls at hl ⊢
  have hl : lv_has ls 1 [(0, .ref (db_ad E 43))] := hl
  refine lv_aload_n hx hb dX3_endDay_0 rfl (lv_at hl 0 rfl) ?_
  refine lv_aload_n hx hb dX3_endDay_1 rfl (lv_at hl 0 rfl) ?_
  refine db_getr S hw (Nat.le_of_ble_eq_true rfl) db_s43 (C := RX3) (T := TX3) (N := 7) rfl hiX3 1 (by decide) (r := 44) rfl (List.mem_of_getElem? (i := 1) rfl) dX3_endDay_2 ?_
  refine lv_iconst (v := (3 : Int32)) hx hb dX3_endDay_5 (by decide) ?_
  refine db_iald S hw (Nat.le_of_ble_eq_true rfl) db_s44 (show ¬ ((3 : Int32) < 0 ∨ 6 ≤ ((3 : Int32) : Int32).toNatClampNeg) by decide) dX3_endDay_6 ?_
  refine lv_if_gt (tgt := 19) hx hb dX3_endDay_7 (by decide) (fun c11 => ?_) (fun c11 => ?_)
  · have h := h.1 c11
    refine lv_iconst (v := (1 : Int32)) hx hb dX3_endDay_19 (by decide) ?_
    refine lv_goto (tgt := 24) hx hb dX3_endDay_20 (by decide) ?_
    refine db_puti S hw (Nat.le_of_ble_eq_true rfl) db_s43 (C := RX3) (T := TX3) (N := 7) rfl hiX3 tyX3_ok nmX3 5 (by decide) rfl (List.mem_of_getElem? (i := 2) rfl) rfl ⟨rfl, rfl⟩ dX3_endDay_24 (fun H locs hw => ?_)
    obtain ⟨X1, e1, hw⟩ : ∃ Z_, Z_ = (db_si X 43 5 (1 : Int32)) ∧ db_HW E (db_Aw E s.heap.size) s Z_ H locs := ⟨_, rfl, hw⟩
    have h := h X1 e1
    refine lv_aload_n hx hb dX3_endDay_27 rfl (lv_at hl 0 rfl) ?_
    refine db_getr S hw (Nat.le_of_ble_eq_true rfl) db_s43 (C := RX3) (T := TX3) (N := 7) rfl hiX3 1 (by decide) (r := 44) rfl (List.mem_of_getElem? (i := 1) rfl) dX3_endDay_28 ?_
    refine lv_iconst (v := (0 : Int32)) hx hb dX3_endDay_31 (by decide) ?_
    refine db_callSv S hw (As := [.ref (db_ad E 44), .int (0 : Int32)]) (ct_J7_fill_53178 (Nat.le_of_ble_eq_true rfl) db_s44 h) gX3_endDay_J7_fill_53178 rfl ⟨rfl, rfl, Nat.le_of_ble_eq_true rfl, Nat.le_of_ble_eq_true rfl⟩ 2 rfl (by decide +kernel) hl.1 rfl (Nat.le_of_ble_eq_true rfl) dX3_endDay_32 ⟨Nat.zero_le _, Nat.zero_le _⟩ (fun X2 H locs h hw => ?_)
    refine lv_aload_n hx hb dX3_endDay_35 rfl (lv_at hl 0 rfl) ?_
    refine lv_dup hx hb dX3_endDay_36 rfl ?_
    refine db_geti S hw (Nat.le_of_ble_eq_true rfl) db_s43 (C := RX3) (T := TX3) (N := 7) rfl hiX3 4 (by decide) rfl (List.mem_of_getElem? (i := 3) rfl) dX3_endDay_37 ?_
    refine lv_iconst (v := (1 : Int32)) hx hb dX3_endDay_40 (by decide) ?_
    refine lv_iadd hx hb dX3_endDay_41 ?_
    refine db_puti S hw (Nat.le_of_ble_eq_true rfl) db_s43 (C := RX3) (T := TX3) (N := 7) rfl hiX3 tyX3_ok nmX3 4 (by decide) rfl (List.mem_of_getElem? (i := 3) rfl) rfl ⟨rfl, rfl⟩ dX3_endDay_42 (fun H locs hw => ?_)
    obtain ⟨X3, e3, hw⟩ : ∃ Z_, Z_ = (db_si X2 43 4 ((X2.1 43 4) + (1 : Int32))) ∧ db_HW E (db_Aw E s.heap.size) s Z_ H locs := ⟨_, rfl, hw⟩
    have h := h X3 e3
    exact db_vret S hr hlocks hw h dX3_endDay_45
  · have h := h.2 c11
    refine lv_aload_n hx hb dX3_endDay_10 rfl (lv_at hl 0 rfl) ?_
    refine db_getr S hw (Nat.le_of_ble_eq_true rfl) db_s43 (C := RX3) (T := TX3) (N := 7) rfl hiX3 1 (by decide) (r := 44) rfl (List.mem_of_getElem? (i := 1) rfl) dX3_endDay_11 ?_
    refine lv_iconst (v := (5 : Int32)) hx hb dX3_endDay_14 (by decide) ?_
    refine db_iald S hw (Nat.le_of_ble_eq_true rfl) db_s44 (show ¬ ((5 : Int32) < 0 ∨ 6 ≤ ((5 : Int32) : Int32).toNatClampNeg) by decide) dX3_endDay_15 ?_
    refine lv_if_le (tgt := 23) hx hb dX3_endDay_16 (by decide) (fun c10 => ?_) (fun c10 => ?_)
    · have h := h.1 c10
      refine lv_iconst (v := (0 : Int32)) hx hb dX3_endDay_23 (by decide) ?_
      refine db_puti S hw (Nat.le_of_ble_eq_true rfl) db_s43 (C := RX3) (T := TX3) (N := 7) rfl hiX3 tyX3_ok nmX3 5 (by decide) rfl (List.mem_of_getElem? (i := 2) rfl) rfl ⟨rfl, rfl⟩ dX3_endDay_24 (fun H locs hw => ?_)
      obtain ⟨X4, e4, hw⟩ : ∃ Z_, Z_ = (db_si X 43 5 (0 : Int32)) ∧ db_HW E (db_Aw E s.heap.size) s Z_ H locs := ⟨_, rfl, hw⟩
      have h := h X4 e4
      refine lv_aload_n hx hb dX3_endDay_27 rfl (lv_at hl 0 rfl) ?_
      refine db_getr S hw (Nat.le_of_ble_eq_true rfl) db_s43 (C := RX3) (T := TX3) (N := 7) rfl hiX3 1 (by decide) (r := 44) rfl (List.mem_of_getElem? (i := 1) rfl) dX3_endDay_28 ?_
      refine lv_iconst (v := (0 : Int32)) hx hb dX3_endDay_31 (by decide) ?_
      refine db_callSv S hw (As := [.ref (db_ad E 44), .int (0 : Int32)]) (ct_J7_fill_53178 (Nat.le_of_ble_eq_true rfl) db_s44 h) gX3_endDay_J7_fill_53178 rfl ⟨rfl, rfl, Nat.le_of_ble_eq_true rfl, Nat.le_of_ble_eq_true rfl⟩ 2 rfl (by decide +kernel) hl.1 rfl (Nat.le_of_ble_eq_true rfl) dX3_endDay_32 ⟨Nat.zero_le _, Nat.zero_le _⟩ (fun X5 H locs h hw => ?_)
      refine lv_aload_n hx hb dX3_endDay_35 rfl (lv_at hl 0 rfl) ?_
      refine lv_dup hx hb dX3_endDay_36 rfl ?_
      refine db_geti S hw (Nat.le_of_ble_eq_true rfl) db_s43 (C := RX3) (T := TX3) (N := 7) rfl hiX3 4 (by decide) rfl (List.mem_of_getElem? (i := 3) rfl) dX3_endDay_37 ?_
      refine lv_iconst (v := (1 : Int32)) hx hb dX3_endDay_40 (by decide) ?_
      refine lv_iadd hx hb dX3_endDay_41 ?_
      refine db_puti S hw (Nat.le_of_ble_eq_true rfl) db_s43 (C := RX3) (T := TX3) (N := 7) rfl hiX3 tyX3_ok nmX3 4 (by decide) rfl (List.mem_of_getElem? (i := 3) rfl) rfl ⟨rfl, rfl⟩ dX3_endDay_42 (fun H locs hw => ?_)
      obtain ⟨X6, e6, hw⟩ : ∃ Z_, Z_ = (db_si X5 43 4 ((X5.1 43 4) + (1 : Int32))) ∧ db_HW E (db_Aw E s.heap.size) s Z_ H locs := ⟨_, rfl, hw⟩
      have h := h X6 e6
      exact db_vret S hr hlocks hw h dX3_endDay_45
    · have h := h.2 c10
      refine lv_iconst (v := (1 : Int32)) hx hb dX3_endDay_19 (by decide) ?_
      refine lv_goto (tgt := 24) hx hb dX3_endDay_20 (by decide) ?_
      refine db_puti S hw (Nat.le_of_ble_eq_true rfl) db_s43 (C := RX3) (T := TX3) (N := 7) rfl hiX3 tyX3_ok nmX3 5 (by decide) rfl (List.mem_of_getElem? (i := 2) rfl) rfl ⟨rfl, rfl⟩ dX3_endDay_24 (fun H locs hw => ?_)
      obtain ⟨X7, e7, hw⟩ : ∃ Z_, Z_ = (db_si X 43 5 (1 : Int32)) ∧ db_HW E (db_Aw E s.heap.size) s Z_ H locs := ⟨_, rfl, hw⟩
      have h := h X7 e7
      refine lv_aload_n hx hb dX3_endDay_27 rfl (lv_at hl 0 rfl) ?_
      refine db_getr S hw (Nat.le_of_ble_eq_true rfl) db_s43 (C := RX3) (T := TX3) (N := 7) rfl hiX3 1 (by decide) (r := 44) rfl (List.mem_of_getElem? (i := 1) rfl) dX3_endDay_28 ?_
      refine lv_iconst (v := (0 : Int32)) hx hb dX3_endDay_31 (by decide) ?_
      refine db_callSv S hw (As := [.ref (db_ad E 44), .int (0 : Int32)]) (ct_J7_fill_53178 (Nat.le_of_ble_eq_true rfl) db_s44 h) gX3_endDay_J7_fill_53178 rfl ⟨rfl, rfl, Nat.le_of_ble_eq_true rfl, Nat.le_of_ble_eq_true rfl⟩ 2 rfl (by decide +kernel) hl.1 rfl (Nat.le_of_ble_eq_true rfl) dX3_endDay_32 ⟨Nat.zero_le _, Nat.zero_le _⟩ (fun X8 H locs h hw => ?_)
      refine lv_aload_n hx hb dX3_endDay_35 rfl (lv_at hl 0 rfl) ?_
      refine lv_dup hx hb dX3_endDay_36 rfl ?_
      refine db_geti S hw (Nat.le_of_ble_eq_true rfl) db_s43 (C := RX3) (T := TX3) (N := 7) rfl hiX3 4 (by decide) rfl (List.mem_of_getElem? (i := 3) rfl) dX3_endDay_37 ?_
      refine lv_iconst (v := (1 : Int32)) hx hb dX3_endDay_40 (by decide) ?_
      refine lv_iadd hx hb dX3_endDay_41 ?_
      refine db_puti S hw (Nat.le_of_ble_eq_true rfl) db_s43 (C := RX3) (T := TX3) (N := 7) rfl hiX3 tyX3_ok nmX3 4 (by decide) rfl (List.mem_of_getElem? (i := 3) rfl) rfl ⟨rfl, rfl⟩ dX3_endDay_42 (fun H locs hw => ?_)
      obtain ⟨X9, e9, hw⟩ : ∃ Z_, Z_ = (db_si X8 43 4 ((X8.1 43 4) + (1 : Int32))) ∧ db_HW E (db_Aw E s.heap.size) s Z_ H locs := ⟨_, rfl, hw⟩
      have h := h X9 e9
      exact db_vret S hr hlocks hw h dX3_endDay_45
-- DaysOnBread$Course.isBarred(I)Z
abbrev rm_X3_isBarred : Room := { frames := 1, cells := 0, slots := 0, locals := 21 }
def wp_X3_isBarred  (X : db_St) (x1 : Int32) (Q : Int32 → db_St → Prop) : Prop := ((x1 = (3 : Int32) → (narrow .boolean (.int (X.1 43 5)) = .int (X.1 43 5) ∧ Q (X.1 43 5) X)) ∧ (¬ x1 = (3 : Int32) → ((x1 = 0 → wp_X4_isFeast X (X.1 43 4) (fun r1 X1 => ((r1 = 0 → Q (0 : Int32) X1) ∧ (¬ (r1 = 0) → Q (1 : Int32) X1)))) ∧ (¬ (x1 = 0) → ((x1 = (5 : Int32) → wp_X4_isFeast X (X.1 43 4) (fun r3 X3 => ((r3 = 0 → Q (0 : Int32) X3) ∧ (¬ (r3 = 0) → Q (1 : Int32) X3)))) ∧ (¬ x1 = (5 : Int32) → Q (0 : Int32) X))))))
set_option maxHeartbeats 4000000 in
set_option maxRecDepth 100000 in
theorem ct_X3_isBarred {l : Launch} {E : db_E}  {X : db_St} {x1 : Int32} {Q : Int32 → db_St → Prop} (h : wp_X3_isBarred  X x1 Q) : db_MI l E yX3_isBarred wsX3_isBarred rm_X3_isBarred X [.ref (db_ad E 43), .int x1] Q := by
  intro sz
  unfold wp_X3_isBarred at h
  refine Met.ofW (cc := cX3_isBarred) (maxL := 2) (ret := (some .boolean)) (by decide) rfl ?_
  intro p e s m args below meth c s₁ B hml hv
  obtain ⟨rfl, hsz, hU⟩ := hv
  subst hsz
  have S : CallFix p m c cX3_isBarred 2 s ([.ref (db_ad E 43), .int x1] : List Value).toArray wsX3_isBarred RX3 := ⟨B.exec, B.bytes, hml, findClass_of_methodNamed B.named, atoms_spec (ws := wsX3_isBarred) B.pre⟩
  have hx := S.1
  have hb := S.2.1
  have hr := B.returns
  have hlocks := B.notSynchronized
  have hw := db_start hU
  have hiX3 : ∀ w ∈ wsX30, w ∈ wsX3_isBarred := fun w_ h_ => List.mem_cons_of_mem _ (List.mem_append_left _ (List.mem_append_right _ h_))
  have hl := lv_entry ([.ref (db_ad E 43), .int x1]) (n := 2) (Nat.le_of_ble_eq_true rfl)
  rw [lg_entry_eq]
  generalize (lg_sl ([.ref (db_ad E 43), .int x1]) ++ List.replicate (2 - (lg_sl ([.ref (db_ad E 43), .int x1])).length) Slot.unset).toArray = ls at hl ⊢
  have hl : lv_has ls 2 [(0, .ref (db_ad E 43)), (1, .int x1)] := hl
  refine lv_iload_n hx hb dX3_isBarred_0 rfl (lv_at hl 1 rfl) ?_
  refine lv_iconst (v := (3 : Int32)) hx hb dX3_isBarred_1 (by decide) ?_
  refine lv_icmp_ne (tgt := 10) hx hb dX3_isBarred_2 (by decide) (fun c8 => ?_) (fun c8 => ?_)
  · have h := h.2 c8
    refine lv_iload_n hx hb dX3_isBarred_10 rfl (lv_at hl 1 rfl) ?_
    refine lv_if_eq (tgt := 19) hx hb dX3_isBarred_11 (by decide) (fun c6 => ?_) (fun c6 => ?_)
    · have h := h.1 c6
      refine lv_aload_n hx hb dX3_isBarred_19 rfl (lv_at hl 0 rfl) ?_
      refine db_getr S hw (Nat.le_of_ble_eq_true rfl) db_s43 (C := RX3) (T := TX3) (N := 7) rfl hiX3 0 (by decide) (r := 36) rfl (List.mem_of_getElem? (i := 2) rfl) dX3_isBarred_20 ?_
      refine lv_aload_n hx hb dX3_isBarred_23 rfl (lv_at hl 0 rfl) ?_
      refine db_geti S hw (Nat.le_of_ble_eq_true rfl) db_s43 (C := RX3) (T := TX3) (N := 7) rfl hiX3 4 (by decide) rfl (List.mem_of_getElem? (i := 3) rfl) dX3_isBarred_24 ?_
      refine db_callVi S hw (Nat.le_of_ble_eq_true rfl) db_s36 (C := RX4) (T := TX4) (N := 3) (As := [.int (X.1 43 4)]) rfl (ct_X4_isFeast  h) gX3_isBarred_X4_isFeast rfl ⟨rfl, rfl, Nat.le_of_ble_eq_true rfl, Nat.le_of_ble_eq_true rfl⟩ 1 rfl (by decide +kernel) hl.1 rfl (Nat.le_of_ble_eq_true rfl) dX3_isBarred_27 ⟨Nat.zero_le _, Nat.zero_le _⟩ (fun r1 X1 H locs h hw => ?_)
      refine lv_if_eq (tgt := 37) hx hb dX3_isBarred_30 (by decide) (fun c2 => ?_) (fun c2 => ?_)
      · have h := h.1 c2
        refine lv_iconst (v := (0 : Int32)) hx hb dX3_isBarred_37 (by decide) ?_
        exact db_zret S hr hlocks rfl hw h dX3_isBarred_38
      · have h := h.2 c2
        refine lv_iconst (v := (1 : Int32)) hx hb dX3_isBarred_33 (by decide) ?_
        refine lv_goto (tgt := 38) hx hb dX3_isBarred_34 (by decide) ?_
        exact db_zret S hr hlocks rfl hw h dX3_isBarred_38
    · have h := h.2 c6
      refine lv_iload_n hx hb dX3_isBarred_14 rfl (lv_at hl 1 rfl) ?_
      refine lv_iconst (v := (5 : Int32)) hx hb dX3_isBarred_15 (by decide) ?_
      refine lv_icmp_ne (tgt := 37) hx hb dX3_isBarred_16 (by decide) (fun c5 => ?_) (fun c5 => ?_)
      · have h := h.2 c5
        refine lv_iconst (v := (0 : Int32)) hx hb dX3_isBarred_37 (by decide) ?_
        exact db_zret S hr hlocks rfl hw h dX3_isBarred_38
      · have h := h.1 c5
        refine lv_aload_n hx hb dX3_isBarred_19 rfl (lv_at hl 0 rfl) ?_
        refine db_getr S hw (Nat.le_of_ble_eq_true rfl) db_s43 (C := RX3) (T := TX3) (N := 7) rfl hiX3 0 (by decide) (r := 36) rfl (List.mem_of_getElem? (i := 2) rfl) dX3_isBarred_20 ?_
        refine lv_aload_n hx hb dX3_isBarred_23 rfl (lv_at hl 0 rfl) ?_
        refine db_geti S hw (Nat.le_of_ble_eq_true rfl) db_s43 (C := RX3) (T := TX3) (N := 7) rfl hiX3 4 (by decide) rfl (List.mem_of_getElem? (i := 3) rfl) dX3_isBarred_24 ?_
        refine db_callVi S hw (Nat.le_of_ble_eq_true rfl) db_s36 (C := RX4) (T := TX4) (N := 3) (As := [.int (X.1 43 4)]) rfl (ct_X4_isFeast  h) gX3_isBarred_X4_isFeast rfl ⟨rfl, rfl, Nat.le_of_ble_eq_true rfl, Nat.le_of_ble_eq_true rfl⟩ 1 rfl (by decide +kernel) hl.1 rfl (Nat.le_of_ble_eq_true rfl) dX3_isBarred_27 ⟨Nat.zero_le _, Nat.zero_le _⟩ (fun r3 X3 H locs h hw => ?_)
        refine lv_if_eq (tgt := 37) hx hb dX3_isBarred_30 (by decide) (fun c4 => ?_) (fun c4 => ?_)
        · have h := h.1 c4
          refine lv_iconst (v := (0 : Int32)) hx hb dX3_isBarred_37 (by decide) ?_
          exact db_zret S hr hlocks rfl hw h dX3_isBarred_38
        · have h := h.2 c4
          refine lv_iconst (v := (1 : Int32)) hx hb dX3_isBarred_33 (by decide) ?_
          refine lv_goto (tgt := 38) hx hb dX3_isBarred_34 (by decide) ?_
          exact db_zret S hr hlocks rfl hw h dX3_isBarred_38
  · have h := h.1 c8
    refine lv_aload_n hx hb dX3_isBarred_5 rfl (lv_at hl 0 rfl) ?_
    refine db_geti S hw (Nat.le_of_ble_eq_true rfl) db_s43 (C := RX3) (T := TX3) (N := 7) rfl hiX3 5 (by decide) rfl (List.mem_of_getElem? (i := 1) rfl) dX3_isBarred_6 ?_
    obtain ⟨g7, h⟩ := h
    exact db_zret S hr hlocks g7 hw h dX3_isBarred_9
-- DaysOnBread$Course.open(I)I
abbrev rm_X3_open : Room := { frames := 2, cells := 0, slots := 0, locals := 60 }
def wp_X3_open  (X : db_St) (x1 : Int32) (Q : Int32 → db_St → Prop) : Prop := wp_X10_isKind X x1 (fun r1 X1 => ((r1 = 0 → Q (0 : Int32) X1) ∧ (¬ (r1 = 0) → wp_X3_isBarred X1 x1 (fun r2 X2 => ((r2 = 0 → wp_X4_inADay X2 x1 (X2.1 43 3) (fun r3 X3 => (vp_in x1 6 ∧ wp_X4_number X3 x1 (3 : Int32) (fun r5 X5 => (vp_in x1 6 ∧ (∀ z7, z7 = (if (r5 - (X5.1 45 (x1).toNatClampNeg)) < (r3 - (X3.1 44 (x1).toNatClampNeg)) then (r5 - (X5.1 45 (x1).toNatClampNeg)) else (r3 - (X3.1 44 (x1).toNatClampNeg))) → (∀ z8, z8 = (if (0 : Int32) < z7 then z7 else (0 : Int32)) → Q z8 X5))))))) ∧ (¬ (r2 = 0) → Q (0 : Int32) X2))))))
set_option maxHeartbeats 4000000 in
set_option maxRecDepth 100000 in
theorem ct_X3_open {l : Launch} {E : db_E}  {X : db_St} {x1 : Int32} {Q : Int32 → db_St → Prop} (h : wp_X3_open  X x1 Q) : db_MI l E yX3_open wsX3_open rm_X3_open X [.ref (db_ad E 43), .int x1] Q := by
  intro sz
  unfold wp_X3_open at h
  refine Met.ofW (cc := cX3_open) (maxL := 4) (ret := (some .int)) (by decide) rfl ?_
  intro p e s m args below meth c s₁ B hml hv
  obtain ⟨rfl, hsz, hU⟩ := hv
  subst hsz
  have S : CallFix p m c cX3_open 4 s ([.ref (db_ad E 43), .int x1] : List Value).toArray wsX3_open RX3 := ⟨B.exec, B.bytes, hml, findClass_of_methodNamed B.named, atoms_spec (ws := wsX3_open) B.pre⟩
  have hx := S.1
  have hb := S.2.1
  have hr := B.returns
  have hlocks := B.notSynchronized
  have hw := db_start hU
  have hiX3 : ∀ w ∈ wsX30, w ∈ wsX3_open := fun w_ h_ => List.mem_cons_of_mem _ (List.mem_append_left _ (List.mem_append_right _ h_))
  have hl := lv_entry ([.ref (db_ad E 43), .int x1]) (n := 4) (Nat.le_of_ble_eq_true rfl)
  rw [lg_entry_eq]
  generalize (lg_sl ([.ref (db_ad E 43), .int x1]) ++ List.replicate (4 - (lg_sl ([.ref (db_ad E 43), .int x1])).length) Slot.unset).toArray = ls at hl ⊢
  have hl : lv_has ls 4 [(0, .ref (db_ad E 43)), (1, .int x1)] := hl
  refine lv_iload_n hx hb dX3_open_0 rfl (lv_at hl 1 rfl) ?_
  refine db_callNi S hw (As := [.int x1]) (ct_X10_isKind  h) gX3_open_X10_isKind_n80 rfl ⟨rfl, rfl, Nat.le_of_ble_eq_true rfl, Nat.le_of_ble_eq_true rfl⟩ (List.mem_of_getElem? (i := 1) rfl) (List.mem_of_getElem? (i := 13) rfl) (List.mem_of_getElem? (i := 12) rfl) 1 rfl (by decide +kernel) hl.1 rfl (Nat.le_of_ble_eq_true rfl) dX3_open_1 ⟨Nat.zero_le _, Nat.zero_le _⟩ (fun r1 X1 H locs h hw => ?_)
  refine lv_if_eq (tgt := 15) hx hb dX3_open_4 (by decide) (fun c10 => ?_) (fun c10 => ?_)
  · have h := h.1 c10
    refine lv_iconst (v := (0 : Int32)) hx hb dX3_open_15 (by decide) ?_
    exact db_iret S hr hlocks hw h dX3_open_16
  · have h := h.2 c10
    refine lv_aload_n hx hb dX3_open_7 rfl (lv_at hl 0 rfl) ?_
    refine lv_iload_n hx hb dX3_open_8 rfl (lv_at hl 1 rfl) ?_
    refine db_callVi S hw (Nat.le_of_ble_eq_true rfl) db_s43 (C := RX3) (T := TX3) (N := 7) (As := [.int x1]) rfl (ct_X3_isBarred  h) gX3_open_X3_isBarred rfl ⟨rfl, rfl, Nat.le_of_ble_eq_true rfl, Nat.le_of_ble_eq_true rfl⟩ 1 rfl (by decide +kernel) hl.1 rfl (Nat.le_of_ble_eq_true rfl) dX3_open_9 ⟨Nat.zero_le _, Nat.zero_le _⟩ (fun r2 X2 H locs h hw => ?_)
    refine lv_if_eq (tgt := 17) hx hb dX3_open_12 (by decide) (fun c9 => ?_) (fun c9 => ?_)
    · have h := h.1 c9
      refine lv_aload_n hx hb dX3_open_17 rfl (lv_at hl 0 rfl) ?_
      refine db_getr S hw (Nat.le_of_ble_eq_true rfl) db_s43 (C := RX3) (T := TX3) (N := 7) rfl hiX3 0 (by decide) (r := 36) rfl (List.mem_of_getElem? (i := 1) rfl) dX3_open_18 ?_
      refine lv_iload_n hx hb dX3_open_21 rfl (lv_at hl 1 rfl) ?_
      refine lv_aload_n hx hb dX3_open_22 rfl (lv_at hl 0 rfl) ?_
      refine db_geti S hw (Nat.le_of_ble_eq_true rfl) db_s43 (C := RX3) (T := TX3) (N := 7) rfl hiX3 3 (by decide) rfl (List.mem_of_getElem? (i := 2) rfl) dX3_open_23 ?_
      refine db_callVi S hw (Nat.le_of_ble_eq_true rfl) db_s36 (C := RX4) (T := TX4) (N := 3) (As := [.int x1, .int (X2.1 43 3)]) rfl (ct_X4_inADay  h) gX3_open_X4_inADay rfl ⟨rfl, rfl, Nat.le_of_ble_eq_true rfl, Nat.le_of_ble_eq_true rfl⟩ 2 rfl (by decide +kernel) hl.1 rfl (Nat.le_of_ble_eq_true rfl) dX3_open_26 ⟨Nat.zero_le _, Nat.zero_le _⟩ (fun r3 X3 H locs h hw => ?_)
      refine lv_aload_n hx hb dX3_open_29 rfl (lv_at hl 0 rfl) ?_
      refine db_getr S hw (Nat.le_of_ble_eq_true rfl) db_s43 (C := RX3) (T := TX3) (N := 7) rfl hiX3 1 (by decide) (r := 44) rfl (List.mem_of_getElem? (i := 3) rfl) dX3_open_30 ?_
      refine lv_iload_n hx hb dX3_open_33 rfl (lv_at hl 1 rfl) ?_
      obtain ⟨g4, h⟩ := h
      refine db_iald S hw (Nat.le_of_ble_eq_true rfl) db_s44 g4 dX3_open_34 ?_
      refine lv_isub hx hb dX3_open_35 ?_
      refine lv_istore_n (lv' := [(2, .int (r3 - (X3.1 44 (x1).toNatClampNeg))), (0, .ref (db_ad E 43)), (1, .int x1)]) hx hb dX3_open_36 rfl hl (by decide) rfl (fun ls hl => ?_)
      refine lv_aload_n hx hb dX3_open_37 rfl (lv_at hl 1 rfl) ?_
      refine db_getr S hw (Nat.le_of_ble_eq_true rfl) db_s43 (C := RX3) (T := TX3) (N := 7) rfl hiX3 0 (by decide) (r := 36) rfl (List.mem_of_getElem? (i := 1) rfl) dX3_open_38 ?_
      refine lv_iload_n hx hb dX3_open_41 rfl (lv_at hl 2 rfl) ?_
      refine lv_iconst (v := (3 : Int32)) hx hb dX3_open_42 (by decide) ?_
      refine db_callVi S hw (Nat.le_of_ble_eq_true rfl) db_s36 (C := RX4) (T := TX4) (N := 3) (As := [.int x1, .int (3 : Int32)]) rfl (ct_X4_number  h) gX3_open_X4_number rfl ⟨rfl, rfl, Nat.le_of_ble_eq_true rfl, Nat.le_of_ble_eq_true rfl⟩ 2 rfl (by decide +kernel) hl.1 rfl (Nat.le_of_ble_eq_true rfl) dX3_open_43 ⟨Nat.zero_le _, Nat.zero_le _⟩ (fun r5 X5 H locs h hw => ?_)
      refine lv_aload_n hx hb dX3_open_46 rfl (lv_at hl 1 rfl) ?_
      refine db_getr S hw (Nat.le_of_ble_eq_true rfl) db_s43 (C := RX3) (T := TX3) (N := 7) rfl hiX3 2 (by decide) (r := 45) rfl (List.mem_of_getElem? (i := 4) rfl) dX3_open_47 ?_
      refine lv_iload_n hx hb dX3_open_50 rfl (lv_at hl 2 rfl) ?_
      obtain ⟨g6, h⟩ := h
      refine db_iald S hw (Nat.le_of_ble_eq_true rfl) db_s45 g6 dX3_open_51 ?_
      refine lv_isub hx hb dX3_open_52 ?_
      refine lv_istore_n (lv' := [(3, .int (r5 - (X5.1 45 (x1).toNatClampNeg))), (2, .int (r3 - (X3.1 44 (x1).toNatClampNeg))), (0, .ref (db_ad E 43)), (1, .int x1)]) hx hb dX3_open_53 rfl hl (by decide) rfl (fun ls hl => ?_)
      refine lv_iconst (v := (0 : Int32)) hx hb dX3_open_54 (by decide) ?_
      refine lv_iload_n hx hb dX3_open_55 rfl (lv_at hl 1 rfl) ?_
      refine lv_iload_n hx hb dX3_open_56 rfl (lv_at hl 0 rfl) ?_
      refine db_min S hl.1 (List.mem_of_getElem? (i := 5) rfl) (List.mem_of_getElem? (i := 6) rfl) (List.mem_of_getElem? (i := 7) rfl) (List.mem_of_getElem? (i := 8) rfl) ⟨Nat.le_of_ble_eq_true rfl, Nat.le_of_ble_eq_true rfl⟩ ⟨Nat.zero_le _, Nat.zero_le _⟩ dX3_open_57 ?_
      refine lv_topi (fun z7 e7 => ?_)
      have h := h z7 e7
      refine db_max S hl.1 (List.mem_of_getElem? (i := 9) rfl) (List.mem_of_getElem? (i := 10) rfl) (List.mem_of_getElem? (i := 7) rfl) (List.mem_of_getElem? (i := 11) rfl) ⟨Nat.le_of_ble_eq_true rfl, Nat.le_of_ble_eq_true rfl⟩ ⟨Nat.zero_le _, Nat.zero_le _⟩ dX3_open_60 ?_
      refine lv_topi (fun z8 e8 => ?_)
      have h := h z8 e8
      exact db_iret S hr hlocks hw h dX3_open_63
    · have h := h.2 c9
      refine lv_iconst (v := (0 : Int32)) hx hb dX3_open_15 (by decide) ?_
      exact db_iret S hr hlocks hw h dX3_open_16
-- DaysOnBread$Course.spend(II)V
abbrev rm_X3_spend : Room := { frames := 1, cells := 0, slots := 0, locals := 23 }
def wp_X3_spend  (X : db_St) (x1 : Int32) (x2 : Int32) (Q : db_St → Prop) : Prop := wp_X10_isKind X x1 (fun r1 X1 => ((r1 = 0 → Q X1) ∧ (¬ (r1 = 0) → (vp_in x1 6 ∧ (vp_in x1 6 ∧ (∀ X4, X4 = (db_si X1 44 (x1).toNatClampNeg ((X1.1 44 (x1).toNatClampNeg) + x2)) → (vp_in x1 6 ∧ (vp_in x1 6 ∧ (∀ X7, X7 = (db_si X4 45 (x1).toNatClampNeg ((X4.1 45 (x1).toNatClampNeg) + x2)) → wp_X4_number X7 x1 (0 : Int32) (fun r8 X8 => (∀ X9, X9 = (db_si X8 43 6 ((X7.1 43 6) + (x2 * r8))) → Q X9)))))))))))
set_option maxHeartbeats 4000000 in
set_option maxRecDepth 100000 in
theorem ct_X3_spend {l : Launch} {E : db_E}  {X : db_St} {x1 : Int32} {x2 : Int32} {Q : db_St → Prop} (h : wp_X3_spend  X x1 x2 Q) : db_MV l E yX3_spend wsX3_spend rm_X3_spend X [.ref (db_ad E 43), .int x1, .int x2] Q := by
  intro sz
  unfold wp_X3_spend at h
  refine Met.ofW (cc := cX3_spend) (maxL := 3) (ret := none) (by decide) rfl ?_
  intro p e s m args below meth c s₁ B hml hv
  obtain ⟨rfl, hsz, hU⟩ := hv
  subst hsz
  have S : CallFix p m c cX3_spend 3 s ([.ref (db_ad E 43), .int x1, .int x2] : List Value).toArray wsX3_spend RX3 := ⟨B.exec, B.bytes, hml, findClass_of_methodNamed B.named, atoms_spec (ws := wsX3_spend) B.pre⟩
  have hx := S.1
  have hb := S.2.1
  have hr := B.returns
  have hlocks := B.notSynchronized
  have hw := db_start hU
  have hiX3 : ∀ w ∈ wsX30, w ∈ wsX3_spend := fun w_ h_ => List.mem_cons_of_mem _ (List.mem_append_left _ (List.mem_append_right _ h_))
  have hl := lv_entry ([.ref (db_ad E 43), .int x1, .int x2]) (n := 3) (Nat.le_of_ble_eq_true rfl)
  rw [lg_entry_eq]
  generalize (lg_sl ([.ref (db_ad E 43), .int x1, .int x2]) ++ List.replicate (3 - (lg_sl ([.ref (db_ad E 43), .int x1, .int x2])).length) Slot.unset).toArray = ls at hl ⊢
  have hl : lv_has ls 3 [(0, .ref (db_ad E 43)), (1, .int x1), (2, .int x2)] := hl
  refine lv_iload_n hx hb dX3_spend_0 rfl (lv_at hl 1 rfl) ?_
  refine db_callNi S hw (As := [.int x1]) (ct_X10_isKind  h) gX3_spend_X10_isKind_n80 rfl ⟨rfl, rfl, Nat.le_of_ble_eq_true rfl, Nat.le_of_ble_eq_true rfl⟩ (List.mem_of_getElem? (i := 1) rfl) (List.mem_of_getElem? (i := 6) rfl) (List.mem_of_getElem? (i := 5) rfl) 1 rfl (by decide +kernel) hl.1 rfl (Nat.le_of_ble_eq_true rfl) dX3_spend_1 ⟨Nat.zero_le _, Nat.zero_le _⟩ (fun r1 X1 H locs h hw => ?_)
  refine lv_if_eq (tgt := 47) hx hb dX3_spend_4 (by decide) (fun c10 => ?_) (fun c10 => ?_)
  · have h := h.1 c10
    exact db_vret S hr hlocks hw h dX3_spend_47
  · have h := h.2 c10
    refine lv_aload_n hx hb dX3_spend_7 rfl (lv_at hl 0 rfl) ?_
    refine db_getr S hw (Nat.le_of_ble_eq_true rfl) db_s43 (C := RX3) (T := TX3) (N := 7) rfl hiX3 1 (by decide) (r := 44) rfl (List.mem_of_getElem? (i := 1) rfl) dX3_spend_8 ?_
    refine lv_iload_n hx hb dX3_spend_11 rfl (lv_at hl 1 rfl) ?_
    refine lv_dup2_11 hx hb dX3_spend_12 rfl rfl ?_
    obtain ⟨g2, h⟩ := h
    refine db_iald S hw (Nat.le_of_ble_eq_true rfl) db_s44 g2 dX3_spend_13 ?_
    refine lv_iload_n hx hb dX3_spend_14 rfl (lv_at hl 2 rfl) ?_
    refine lv_iadd hx hb dX3_spend_15 ?_
    obtain ⟨g3, h⟩ := h
    refine db_iast S hw (Nat.le_of_ble_eq_true rfl) db_s44 g3 dX3_spend_16 (fun H locs hw => ?_)
    obtain ⟨X4, e4, hw⟩ : ∃ Z_, Z_ = (db_si X1 44 (x1).toNatClampNeg ((X1.1 44 (x1).toNatClampNeg) + x2)) ∧ db_HW E (db_Aw E s.heap.size) s Z_ H locs := ⟨_, rfl, hw⟩
    have h := h X4 e4
    refine lv_aload_n hx hb dX3_spend_17 rfl (lv_at hl 0 rfl) ?_
    refine db_getr S hw (Nat.le_of_ble_eq_true rfl) db_s43 (C := RX3) (T := TX3) (N := 7) rfl hiX3 2 (by decide) (r := 45) rfl (List.mem_of_getElem? (i := 2) rfl) dX3_spend_18 ?_
    refine lv_iload_n hx hb dX3_spend_21 rfl (lv_at hl 1 rfl) ?_
    refine lv_dup2_11 hx hb dX3_spend_22 rfl rfl ?_
    obtain ⟨g5, h⟩ := h
    refine db_iald S hw (Nat.le_of_ble_eq_true rfl) db_s45 g5 dX3_spend_23 ?_
    refine lv_iload_n hx hb dX3_spend_24 rfl (lv_at hl 2 rfl) ?_
    refine lv_iadd hx hb dX3_spend_25 ?_
    obtain ⟨g6, h⟩ := h
    refine db_iast S hw (Nat.le_of_ble_eq_true rfl) db_s45 g6 dX3_spend_26 (fun H locs hw => ?_)
    obtain ⟨X7, e7, hw⟩ : ∃ Z_, Z_ = (db_si X4 45 (x1).toNatClampNeg ((X4.1 45 (x1).toNatClampNeg) + x2)) ∧ db_HW E (db_Aw E s.heap.size) s Z_ H locs := ⟨_, rfl, hw⟩
    have h := h X7 e7
    refine lv_aload_n hx hb dX3_spend_27 rfl (lv_at hl 0 rfl) ?_
    refine lv_dup hx hb dX3_spend_28 rfl ?_
    refine db_geti S hw (Nat.le_of_ble_eq_true rfl) db_s43 (C := RX3) (T := TX3) (N := 7) rfl hiX3 6 (by decide) rfl (List.mem_of_getElem? (i := 3) rfl) dX3_spend_29 ?_
    refine lv_iload_n hx hb dX3_spend_32 rfl (lv_at hl 2 rfl) ?_
    refine lv_aload_n hx hb dX3_spend_33 rfl (lv_at hl 0 rfl) ?_
    refine db_getr S hw (Nat.le_of_ble_eq_true rfl) db_s43 (C := RX3) (T := TX3) (N := 7) rfl hiX3 0 (by decide) (r := 36) rfl (List.mem_of_getElem? (i := 4) rfl) dX3_spend_34 ?_
    refine lv_iload_n hx hb dX3_spend_37 rfl (lv_at hl 1 rfl) ?_
    refine lv_iconst (v := (0 : Int32)) hx hb dX3_spend_38 (by decide) ?_
    refine db_callVi S hw (Nat.le_of_ble_eq_true rfl) db_s36 (C := RX4) (T := TX4) (N := 3) (As := [.int x1, .int (0 : Int32)]) rfl (ct_X4_number  h) gX3_spend_X4_number rfl ⟨rfl, rfl, Nat.le_of_ble_eq_true rfl, Nat.le_of_ble_eq_true rfl⟩ 2 rfl (by decide +kernel) hl.1 rfl (Nat.le_of_ble_eq_true rfl) dX3_spend_39 ⟨Nat.zero_le _, Nat.zero_le _⟩ (fun r8 X8 H locs h hw => ?_)
    refine lv_imul hx hb dX3_spend_42 ?_
    refine lv_iadd hx hb dX3_spend_43 ?_
    refine db_puti S hw (Nat.le_of_ble_eq_true rfl) db_s43 (C := RX3) (T := TX3) (N := 7) rfl hiX3 tyX3_ok nmX3 6 (by decide) rfl (List.mem_of_getElem? (i := 3) rfl) rfl ⟨rfl, rfl⟩ dX3_spend_44 (fun H locs hw => ?_)
    obtain ⟨X9, e9, hw⟩ : ∃ Z_, Z_ = (db_si X8 43 6 ((X7.1 43 6) + (x2 * r8))) ∧ db_HW E (db_Aw E s.heap.size) s Z_ H locs := ⟨_, rfl, hw⟩
    have h := h X9 e9
    exact db_vret S hr hlocks hw h dX3_spend_47
-- DaysOnBread$Course.firstBarred(LDaysOnBread$Bytes;)I
abbrev rm_X3_firstBarred : Room := { frames := 3, cells := 0, slots := 0, locals := 83 }
def wp_X3_firstBarred_13 (Q : Int32 → db_St → Prop) : Nat → db_St → Int32 → Prop
  | 0, _, _ => False
  | n_ + 1, X, x2 => wp_X2_size 4 100 X (fun r1 X1 => ((r1 ≤ x2 → Q (-9 : Int32) X1) ∧ (¬ (r1 ≤ x2) → wp_X2_at 4 100 X1 x2 (fun r2 X2 => ((r2 = (9 : Int32) → wp_X3_endDay X2 (fun X6 => wp_X3_firstBarred_13 Q n_ X6 (x2 + (1 : Int32)))) ∧ (¬ r2 = (9 : Int32) → wp_X3_open X2 r2 (fun r3 X3 => (((1 : Int32) ≤ r3 → wp_X3_spend X3 r2 (1 : Int32) (fun X4 => wp_X3_firstBarred_13 Q n_ X4 (x2 + (1 : Int32)))) ∧ (¬ ((1 : Int32) ≤ r3) → Q x2 X3)))))))))
set_option maxHeartbeats 4000000 in
set_option maxRecDepth 100000 in
theorem tw_X3_firstBarred_13 {p : Program} {l : Launch} {e : Env} {s : State} {m : MethodId} {args : Array Value} {below : List Frame} {meth : Method} {c : Code} {E : db_E} (S : CallFix p m c cX3_firstBarred 4 s args wsX3_firstBarred RX3) (hr : meth.sig.returnType = (some .int)) (hlocks : meth.locks = false)  {Q : Int32 → db_St → Prop} : ∀ (n : Nat) (X : db_St) (x2 : Int32) (H : Heap) (locs : List Loc) (ls : Array Slot), wp_X3_firstBarred_13 Q n X x2 → db_HW E (db_Aw E s.heap.size) s X H locs → lv_has ls 4 [(0, .ref (db_ad E 43)), (1, .ref (db_ad E 4)), (2, .int x2)] → W p l e rm_X3_firstBarred s m args below meth c H locs 0 0 (MQ below (va_Qi Q (db_Po E) (db_Aw E s.heap.size)) args s 0 0 (db_Aw E s.heap.size)) (F0 m 13 ls []) := by
  have hx := S.1
  have hb := S.2.1
  have hiX3 : ∀ w ∈ wsX30, w ∈ wsX3_firstBarred := fun w_ h_ => List.mem_cons_of_mem _ (List.mem_append_left _ (List.mem_append_left _ (List.mem_append_right _ h_)))
  have hiX4 : ∀ w ∈ wsX40, w ∈ wsX3_firstBarred := fun w_ h_ => List.mem_cons_of_mem _ (List.mem_append_left _ (List.mem_append_right _ h_))
  intro n
  induction n with
  | zero =>
    intro X x2 H locs ls h hw hl
    exact False.elim h
  | succ n_ ih =>
    intro X x2 H locs ls h hw hl
    unfold wp_X3_firstBarred_13 at h
    refine lv_iload_n hx hb dX3_firstBarred_13 rfl (lv_at hl 2 rfl) ?_
    refine lv_aload_n hx hb dX3_firstBarred_14 rfl (lv_at hl 1 rfl) ?_
    refine db_callVi S hw (Nat.le_of_ble_eq_true rfl) db_s4 (C := RX2) (T := TX2) (N := 2) (As := []) rfl (ct_X2_size db_kb4 h) gX3_firstBarred_X2_size rfl ⟨rfl, rfl, Nat.le_of_ble_eq_true rfl, Nat.le_of_ble_eq_true rfl⟩ 0 rfl (by decide +kernel) hl.1 rfl (Nat.le_of_ble_eq_true rfl) dX3_firstBarred_15 ⟨Nat.zero_le _, Nat.zero_le _⟩ (fun r1 X1 H locs h hw => ?_)
    refine lv_icmp_ge (tgt := 63) hx hb dX3_firstBarred_18 (by decide) (fun c8 => ?_) (fun c8 => ?_)
    · have h := h.1 c8
      refine lv_bipush (v := (-9 : Int32)) hx hb dX3_firstBarred_63 (by decide) ?_
      exact db_iret S hr hlocks hw h dX3_firstBarred_65
    · have h := h.2 c8
      refine lv_aload_n hx hb dX3_firstBarred_21 rfl (lv_at hl 1 rfl) ?_
      refine lv_iload_n hx hb dX3_firstBarred_22 rfl (lv_at hl 2 rfl) ?_
      refine db_callVi S hw (Nat.le_of_ble_eq_true rfl) db_s4 (C := RX2) (T := TX2) (N := 2) (As := [.int x2]) rfl (ct_X2_at db_kb4 h) gX3_firstBarred_X2_at rfl ⟨rfl, rfl, Nat.le_of_ble_eq_true rfl, Nat.le_of_ble_eq_true rfl⟩ 1 rfl (by decide +kernel) hl.1 rfl (Nat.le_of_ble_eq_true rfl) dX3_firstBarred_23 ⟨Nat.zero_le _, Nat.zero_le _⟩ (fun r2 X2 H locs h hw => ?_)
      refine lv_istore_n (lv' := [(3, .int r2), (0, .ref (db_ad E 43)), (1, .ref (db_ad E 4)), (2, .int x2)]) hx hb dX3_firstBarred_26 rfl hl (by decide) rfl (fun ls hl => ?_)
      refine lv_iload_n hx hb dX3_firstBarred_27 rfl (lv_at hl 0 rfl) ?_
      refine lv_bipush (v := (9 : Int32)) hx hb dX3_firstBarred_28 (by decide) ?_
      refine lv_icmp_ne (tgt := 40) hx hb dX3_firstBarred_30 (by decide) (fun c7 => ?_) (fun c7 => ?_)
      · have h := h.2 c7
        refine lv_aload_n hx hb dX3_firstBarred_40 rfl (lv_at hl 1 rfl) ?_
        refine lv_iload_n hx hb dX3_firstBarred_41 rfl (lv_at hl 0 rfl) ?_
        refine db_callVi S hw (Nat.le_of_ble_eq_true rfl) db_s43 (C := RX3) (T := TX3) (N := 7) (As := [.int r2]) rfl (ct_X3_open  h) gX3_firstBarred_X3_open rfl ⟨rfl, rfl, Nat.le_of_ble_eq_true rfl, Nat.le_of_ble_eq_true rfl⟩ 1 rfl (by decide +kernel) hl.1 rfl (Nat.le_of_ble_eq_true rfl) dX3_firstBarred_42 ⟨Nat.zero_le _, Nat.zero_le _⟩ (fun r3 X3 H locs h hw => ?_)
        refine lv_iconst (v := (1 : Int32)) hx hb dX3_firstBarred_45 (by decide) ?_
        refine lv_icmp_ge (tgt := 51) hx hb dX3_firstBarred_46 (by decide) (fun c5 => ?_) (fun c5 => ?_)
        · have h := h.1 c5
          refine lv_aload_n hx hb dX3_firstBarred_51 rfl (lv_at hl 1 rfl) ?_
          refine lv_iload_n hx hb dX3_firstBarred_52 rfl (lv_at hl 0 rfl) ?_
          refine lv_iconst (v := (1 : Int32)) hx hb dX3_firstBarred_53 (by decide) ?_
          refine db_callVv S hw (Nat.le_of_ble_eq_true rfl) db_s43 (C := RX3) (T := TX3) (N := 7) (As := [.int r2, .int (1 : Int32)]) rfl (ct_X3_spend  h) gX3_firstBarred_X3_spend rfl ⟨rfl, rfl, Nat.le_of_ble_eq_true rfl, Nat.le_of_ble_eq_true rfl⟩ 2 rfl (by decide +kernel) hl.1 rfl (Nat.le_of_ble_eq_true rfl) dX3_firstBarred_54 ⟨Nat.zero_le _, Nat.zero_le _⟩ (fun X4 H locs h hw => ?_)
          refine lv_iinc (v := (x2 + (1 : Int32))) (lv' := [(2, .int (x2 + (1 : Int32))), (3, .int r2), (0, .ref (db_ad E 43)), (1, .ref (db_ad E 4))]) hx hb dX3_firstBarred_57 hl (k := 3) rfl (congrArg (fun z_ => x2 + z_) (show Int32.ofInt (1) = (1 : Int32) by decide)) (by decide) rfl (fun ls hl => ?_)
          refine lv_goto (tgt := 13) hx hb dX3_firstBarred_60 (by decide) ?_
          exact ih _ _ _ _ _ h hw (lv_sub hl [2, 3, 0] rfl)
        · have h := h.2 c5
          refine lv_iload_n hx hb dX3_firstBarred_49 rfl (lv_at hl 3 rfl) ?_
          exact db_iret S hr hlocks hw h dX3_firstBarred_50
      · have h := h.1 c7
        refine lv_aload_n hx hb dX3_firstBarred_33 rfl (lv_at hl 1 rfl) ?_
        refine db_callVv S hw (Nat.le_of_ble_eq_true rfl) db_s43 (C := RX3) (T := TX3) (N := 7) (As := []) rfl (ct_X3_endDay  h) gX3_firstBarred_X3_endDay rfl ⟨rfl, rfl, Nat.le_of_ble_eq_true rfl, Nat.le_of_ble_eq_true rfl⟩ 0 rfl (by decide +kernel) hl.1 rfl (Nat.le_of_ble_eq_true rfl) dX3_firstBarred_34 ⟨Nat.zero_le _, Nat.zero_le _⟩ (fun X6 H locs h hw => ?_)
        refine lv_goto (tgt := 57) hx hb dX3_firstBarred_37 (by decide) ?_
        refine lv_iinc (v := (x2 + (1 : Int32))) (lv' := [(2, .int (x2 + (1 : Int32))), (3, .int r2), (0, .ref (db_ad E 43)), (1, .ref (db_ad E 4))]) hx hb dX3_firstBarred_57 hl (k := 3) rfl (congrArg (fun z_ => x2 + z_) (show Int32.ofInt (1) = (1 : Int32) by decide)) (by decide) rfl (fun ls hl => ?_)
        refine lv_goto (tgt := 13) hx hb dX3_firstBarred_60 (by decide) ?_
        exact ih _ _ _ _ _ h hw (lv_sub hl [2, 3, 0] rfl)
def wp_X3_firstBarred  (X : db_St)  (Q : Int32 → db_St → Prop) : Prop := wp_X3_begin X (X.1 36 2) (fun X1 => (∃ f_, wp_X3_firstBarred_13 Q f_ X1 (0 : Int32)))
set_option maxHeartbeats 4000000 in
set_option maxRecDepth 100000 in
theorem ct_X3_firstBarred {l : Launch} {E : db_E}  {X : db_St}  {Q : Int32 → db_St → Prop} (h : wp_X3_firstBarred  X  Q) : db_MI l E yX3_firstBarred wsX3_firstBarred rm_X3_firstBarred X [.ref (db_ad E 43), .ref (db_ad E 4)] Q := by
  intro sz
  unfold wp_X3_firstBarred at h
  refine Met.ofW (cc := cX3_firstBarred) (maxL := 4) (ret := (some .int)) (by decide) rfl ?_
  intro p e s m args below meth c s₁ B hml hv
  obtain ⟨rfl, hsz, hU⟩ := hv
  subst hsz
  have S : CallFix p m c cX3_firstBarred 4 s ([.ref (db_ad E 43), .ref (db_ad E 4)] : List Value).toArray wsX3_firstBarred RX3 := ⟨B.exec, B.bytes, hml, findClass_of_methodNamed B.named, atoms_spec (ws := wsX3_firstBarred) B.pre⟩
  have hx := S.1
  have hb := S.2.1
  have hr := B.returns
  have hlocks := B.notSynchronized
  have hw := db_start hU
  have hiX3 : ∀ w ∈ wsX30, w ∈ wsX3_firstBarred := fun w_ h_ => List.mem_cons_of_mem _ (List.mem_append_left _ (List.mem_append_left _ (List.mem_append_right _ h_)))
  have hiX4 : ∀ w ∈ wsX40, w ∈ wsX3_firstBarred := fun w_ h_ => List.mem_cons_of_mem _ (List.mem_append_left _ (List.mem_append_right _ h_))
  have hl := lv_entry ([.ref (db_ad E 43), .ref (db_ad E 4)]) (n := 4) (Nat.le_of_ble_eq_true rfl)
  rw [lg_entry_eq]
  generalize (lg_sl ([.ref (db_ad E 43), .ref (db_ad E 4)]) ++ List.replicate (4 - (lg_sl ([.ref (db_ad E 43), .ref (db_ad E 4)])).length) Slot.unset).toArray = ls at hl ⊢
  have hl : lv_has ls 4 [(0, .ref (db_ad E 43)), (1, .ref (db_ad E 4))] := hl
  refine lv_aload_n hx hb dX3_firstBarred_0 rfl (lv_at hl 0 rfl) ?_
  refine lv_aload_n hx hb dX3_firstBarred_1 rfl (lv_at hl 0 rfl) ?_
  refine db_getr S hw (Nat.le_of_ble_eq_true rfl) db_s43 (C := RX3) (T := TX3) (N := 7) rfl hiX3 0 (by decide) (r := 36) rfl (List.mem_of_getElem? (i := 1) rfl) dX3_firstBarred_2 ?_
  refine db_getiN S hw (Nat.le_of_ble_eq_true rfl) db_s36 (C := RX4) (T := TX4) (N := 3) rfl hiX4 2 (by decide) rfl (List.mem_of_getElem? (i := 17) rfl) dX3_firstBarred_5 ?_
  refine db_callVv S hw (Nat.le_of_ble_eq_true rfl) db_s43 (C := RX3) (T := TX3) (N := 7) (As := [.int (X.1 36 2)]) rfl (ct_X3_begin  h) gX3_firstBarred_X3_begin rfl ⟨rfl, rfl, Nat.le_of_ble_eq_true rfl, Nat.le_of_ble_eq_true rfl⟩ 1 rfl (by decide +kernel) hl.1 rfl (Nat.le_of_ble_eq_true rfl) dX3_firstBarred_8 ⟨Nat.zero_le _, Nat.zero_le _⟩ (fun X1 H locs h hw => ?_)
  refine lv_iconst (v := (0 : Int32)) hx hb dX3_firstBarred_11 (by decide) ?_
  refine lv_istore_n (lv' := [(2, .int (0 : Int32)), (0, .ref (db_ad E 43)), (1, .ref (db_ad E 4))]) hx hb dX3_firstBarred_12 rfl hl (by decide) rfl (fun ls hl => ?_)
  obtain ⟨f_, h⟩ := h
  exact tw_X3_firstBarred_13 S hr hlocks   f_ _ _ _ _ _ h hw (lv_sub hl [1, 2, 0] rfl)
-- DaysOnBread$Course.spendDay()V
abbrev rm_X3_spendDay : Room := { frames := 3, cells := 0, slots := 0, locals := 83 }
def wp_X3_spendDay_2 (Q : db_St → Prop) : Nat → db_St → Int32 → Prop
  | 0, _, _ => False
  | n_ + 1, X, x1 => (((6 : Int32) ≤ x1 → wp_X3_endDay X (fun X1 => Q X1)) ∧ (¬ ((6 : Int32) ≤ x1) → wp_X3_open X x1 (fun r2 X2 => wp_X3_spend X2 x1 r2 (fun X3 => wp_X3_spendDay_2 Q n_ X3 (x1 + (1 : Int32))))))
set_option maxHeartbeats 4000000 in
set_option maxRecDepth 100000 in
theorem tw_X3_spendDay_2 {p : Program} {l : Launch} {e : Env} {s : State} {m : MethodId} {args : Array Value} {below : List Frame} {meth : Method} {c : Code} {E : db_E} (S : CallFix p m c cX3_spendDay 2 s args wsX3_spendDay RX3) (hr : meth.sig.returnType = none) (hlocks : meth.locks = false)  {Q : db_St → Prop} : ∀ (n : Nat) (X : db_St) (x1 : Int32) (H : Heap) (locs : List Loc) (ls : Array Slot), wp_X3_spendDay_2 Q n X x1 → db_HW E (db_Aw E s.heap.size) s X H locs → lv_has ls 2 [(0, .ref (db_ad E 43)), (1, .int x1)] → W p l e rm_X3_spendDay s m args below meth c H locs 0 0 (MQ below (va_Qv Q (db_Po E) (db_Aw E s.heap.size)) args s 0 0 (db_Aw E s.heap.size)) (F0 m 2 ls []) := by
  have hx := S.1
  have hb := S.2.1
  intro n
  induction n with
  | zero =>
    intro X x1 H locs ls h hw hl
    exact False.elim h
  | succ n_ ih =>
    intro X x1 H locs ls h hw hl
    unfold wp_X3_spendDay_2 at h
    refine lv_iload_n hx hb dX3_spendDay_2 rfl (lv_at hl 1 rfl) ?_
    refine lv_bipush (v := (6 : Int32)) hx hb dX3_spendDay_3 (by decide) ?_
    refine lv_icmp_ge (tgt := 24) hx hb dX3_spendDay_5 (by decide) (fun c4 => ?_) (fun c4 => ?_)
    · have h := h.1 c4
      refine lv_aload_n hx hb dX3_spendDay_24 rfl (lv_at hl 0 rfl) ?_
      refine db_callVv S hw (Nat.le_of_ble_eq_true rfl) db_s43 (C := RX3) (T := TX3) (N := 7) (As := []) rfl (ct_X3_endDay  h) gX3_spendDay_X3_endDay rfl ⟨rfl, rfl, Nat.le_of_ble_eq_true rfl, Nat.le_of_ble_eq_true rfl⟩ 0 rfl (by decide +kernel) hl.1 rfl (Nat.le_of_ble_eq_true rfl) dX3_spendDay_25 ⟨Nat.zero_le _, Nat.zero_le _⟩ (fun X1 H locs h hw => ?_)
      exact db_vret S hr hlocks hw h dX3_spendDay_28
    · have h := h.2 c4
      refine lv_aload_n hx hb dX3_spendDay_8 rfl (lv_at hl 0 rfl) ?_
      refine lv_iload_n hx hb dX3_spendDay_9 rfl (lv_at hl 1 rfl) ?_
      refine lv_aload_n hx hb dX3_spendDay_10 rfl (lv_at hl 0 rfl) ?_
      refine lv_iload_n hx hb dX3_spendDay_11 rfl (lv_at hl 1 rfl) ?_
      refine db_callVi S hw (Nat.le_of_ble_eq_true rfl) db_s43 (C := RX3) (T := TX3) (N := 7) (As := [.int x1]) rfl (ct_X3_open  h) gX3_spendDay_X3_open rfl ⟨rfl, rfl, Nat.le_of_ble_eq_true rfl, Nat.le_of_ble_eq_true rfl⟩ 1 rfl (by decide +kernel) hl.1 rfl (Nat.le_of_ble_eq_true rfl) dX3_spendDay_12 ⟨Nat.zero_le _, Nat.zero_le _⟩ (fun r2 X2 H locs h hw => ?_)
      refine db_callVv S hw (Nat.le_of_ble_eq_true rfl) db_s43 (C := RX3) (T := TX3) (N := 7) (As := [.int x1, .int r2]) rfl (ct_X3_spend  h) gX3_spendDay_X3_spend rfl ⟨rfl, rfl, Nat.le_of_ble_eq_true rfl, Nat.le_of_ble_eq_true rfl⟩ 2 rfl (by decide +kernel) hl.1 rfl (Nat.le_of_ble_eq_true rfl) dX3_spendDay_15 ⟨Nat.zero_le _, Nat.zero_le _⟩ (fun X3 H locs h hw => ?_)
      refine lv_iinc (v := (x1 + (1 : Int32))) (lv' := [(1, .int (x1 + (1 : Int32))), (0, .ref (db_ad E 43))]) hx hb dX3_spendDay_18 hl (k := 1) rfl (congrArg (fun z_ => x1 + z_) (show Int32.ofInt (1) = (1 : Int32) by decide)) (by decide) rfl (fun ls hl => ?_)
      refine lv_goto (tgt := 2) hx hb dX3_spendDay_21 (by decide) ?_
      exact ih _ _ _ _ _ h hw (lv_sub hl [1, 0] rfl)
def wp_X3_spendDay  (X : db_St)  (Q : db_St → Prop) : Prop := (∃ f_, wp_X3_spendDay_2 Q f_ X (0 : Int32))
set_option maxHeartbeats 4000000 in
set_option maxRecDepth 100000 in
theorem ct_X3_spendDay {l : Launch} {E : db_E}  {X : db_St}  {Q : db_St → Prop} (h : wp_X3_spendDay  X  Q) : db_MV l E yX3_spendDay wsX3_spendDay rm_X3_spendDay X [.ref (db_ad E 43)] Q := by
  intro sz
  unfold wp_X3_spendDay at h
  refine Met.ofW (cc := cX3_spendDay) (maxL := 2) (ret := none) (by decide) rfl ?_
  intro p e s m args below meth c s₁ B hml hv
  obtain ⟨rfl, hsz, hU⟩ := hv
  subst hsz
  have S : CallFix p m c cX3_spendDay 2 s ([.ref (db_ad E 43)] : List Value).toArray wsX3_spendDay RX3 := ⟨B.exec, B.bytes, hml, findClass_of_methodNamed B.named, atoms_spec (ws := wsX3_spendDay) B.pre⟩
  have hx := S.1
  have hb := S.2.1
  have hr := B.returns
  have hlocks := B.notSynchronized
  have hw := db_start hU
  have hl := lv_entry ([.ref (db_ad E 43)]) (n := 2) (Nat.le_of_ble_eq_true rfl)
  rw [lg_entry_eq]
  generalize (lg_sl ([.ref (db_ad E 43)]) ++ List.replicate (2 - (lg_sl ([.ref (db_ad E 43)])).length) Slot.unset).toArray = ls at hl ⊢
  have hl : lv_has ls 2 [(0, .ref (db_ad E 43))] := hl
  refine lv_iconst (v := (0 : Int32)) hx hb dX3_spendDay_0 (by decide) ?_
  refine lv_istore_n (lv' := [(1, .int (0 : Int32)), (0, .ref (db_ad E 43))]) hx hb dX3_spendDay_1 rfl hl (by decide) rfl (fun ls hl => ?_)
  obtain ⟨f_, h⟩ := h
  exact tw_X3_spendDay_2 S hr hlocks   f_ _ _ _ _ _ h hw (lv_sub hl [1, 0] rfl)
-- DaysOnBread$Course.daysToPay(I)I
abbrev rm_X3_daysToPay : Room := { frames := 4, cells := 0, slots := 0, locals := 104 }
def wp_X3_daysToPay_13 (Q : Int32 → db_St → Prop) : Nat → db_St → Int32 → Int32 → Prop
  | 0, _, _, _ => False
  | n_ + 1, X, x1, x2 => (((400 : Int32) < x2 → Q (-9 : Int32) X) ∧ (¬ ((400 : Int32) < x2) → (((X.1 43 6) < x1 → wp_X3_spendDay X (fun X1 => wp_X3_daysToPay_13 Q n_ X1 x1 (x2 + (1 : Int32)))) ∧ (¬ ((X.1 43 6) < x1) → Q x2 X))))
set_option maxHeartbeats 4000000 in
set_option maxRecDepth 100000 in
theorem tw_X3_daysToPay_13 {p : Program} {l : Launch} {e : Env} {s : State} {m : MethodId} {args : Array Value} {below : List Frame} {meth : Method} {c : Code} {E : db_E} (S : CallFix p m c cX3_daysToPay 3 s args wsX3_daysToPay RX3) (hr : meth.sig.returnType = (some .int)) (hlocks : meth.locks = false)  {Q : Int32 → db_St → Prop} : ∀ (n : Nat) (X : db_St) (x1 : Int32) (x2 : Int32) (H : Heap) (locs : List Loc) (ls : Array Slot), wp_X3_daysToPay_13 Q n X x1 x2 → db_HW E (db_Aw E s.heap.size) s X H locs → lv_has ls 3 [(0, .ref (db_ad E 43)), (1, .int x1), (2, .int x2)] → W p l e rm_X3_daysToPay s m args below meth c H locs 0 0 (MQ below (va_Qi Q (db_Po E) (db_Aw E s.heap.size)) args s 0 0 (db_Aw E s.heap.size)) (F0 m 13 ls []) := by
  have hx := S.1
  have hb := S.2.1
  have hiX3 : ∀ w ∈ wsX30, w ∈ wsX3_daysToPay := fun w_ h_ => List.mem_cons_of_mem _ (List.mem_append_left _ (List.mem_append_right _ h_))
  have hiX4 : ∀ w ∈ wsX40, w ∈ wsX3_daysToPay := fun w_ h_ => List.mem_cons_of_mem _ (List.mem_append_right _ h_)
  intro n
  induction n with
  | zero =>
    intro X x1 x2 H locs ls h hw hl
    exact False.elim h
  | succ n_ ih =>
    intro X x1 x2 H locs ls h hw hl
    unfold wp_X3_daysToPay_13 at h
    refine lv_iload_n hx hb dX3_daysToPay_13 rfl (lv_at hl 2 rfl) ?_
    refine lv_sipush (v := (400 : Int32)) hx hb dX3_daysToPay_14 (by decide) ?_
    refine lv_icmp_gt (tgt := 40) hx hb dX3_daysToPay_17 (by decide) (fun c3 => ?_) (fun c3 => ?_)
    · have h := h.1 c3
      refine lv_bipush (v := (-9 : Int32)) hx hb dX3_daysToPay_40 (by decide) ?_
      exact db_iret S hr hlocks hw h dX3_daysToPay_42
    · have h := h.2 c3
      refine lv_aload_n hx hb dX3_daysToPay_20 rfl (lv_at hl 0 rfl) ?_
      refine db_geti S hw (Nat.le_of_ble_eq_true rfl) db_s43 (C := RX3) (T := TX3) (N := 7) rfl hiX3 6 (by decide) rfl (List.mem_of_getElem? (i := 2) rfl) dX3_daysToPay_21 ?_
      refine lv_iload_n hx hb dX3_daysToPay_24 rfl (lv_at hl 1 rfl) ?_
      refine lv_icmp_lt (tgt := 30) hx hb dX3_daysToPay_25 (by decide) (fun c2 => ?_) (fun c2 => ?_)
      · have h := h.1 c2
        refine lv_aload_n hx hb dX3_daysToPay_30 rfl (lv_at hl 0 rfl) ?_
        refine db_callVv S hw (Nat.le_of_ble_eq_true rfl) db_s43 (C := RX3) (T := TX3) (N := 7) (As := []) rfl (ct_X3_spendDay  h) gX3_daysToPay_X3_spendDay rfl ⟨rfl, rfl, Nat.le_of_ble_eq_true rfl, Nat.le_of_ble_eq_true rfl⟩ 0 rfl (by decide +kernel) hl.1 rfl (Nat.le_of_ble_eq_true rfl) dX3_daysToPay_31 ⟨Nat.zero_le _, Nat.zero_le _⟩ (fun X1 H locs h hw => ?_)
        refine lv_iinc (v := (x2 + (1 : Int32))) (lv' := [(2, .int (x2 + (1 : Int32))), (0, .ref (db_ad E 43)), (1, .int x1)]) hx hb dX3_daysToPay_34 hl (k := 2) rfl (congrArg (fun z_ => x2 + z_) (show Int32.ofInt (1) = (1 : Int32) by decide)) (by decide) rfl (fun ls hl => ?_)
        refine lv_goto (tgt := 13) hx hb dX3_daysToPay_37 (by decide) ?_
        exact ih _ _ _ _ _ _ h hw (lv_sub hl [1, 2, 0] rfl)
      · have h := h.2 c2
        refine lv_iload_n hx hb dX3_daysToPay_28 rfl (lv_at hl 2 rfl) ?_
        exact db_iret S hr hlocks hw h dX3_daysToPay_29
def wp_X3_daysToPay  (X : db_St) (x1 : Int32) (Q : Int32 → db_St → Prop) : Prop := wp_X3_begin X (X.1 36 2) (fun X1 => (∃ f_, wp_X3_daysToPay_13 Q f_ X1 x1 (0 : Int32)))
set_option maxHeartbeats 4000000 in
set_option maxRecDepth 100000 in
theorem ct_X3_daysToPay {l : Launch} {E : db_E}  {X : db_St} {x1 : Int32} {Q : Int32 → db_St → Prop} (h : wp_X3_daysToPay  X x1 Q) : db_MI l E yX3_daysToPay wsX3_daysToPay rm_X3_daysToPay X [.ref (db_ad E 43), .int x1] Q := by
  intro sz
  unfold wp_X3_daysToPay at h
  refine Met.ofW (cc := cX3_daysToPay) (maxL := 3) (ret := (some .int)) (by decide) rfl ?_
  intro p e s m args below meth c s₁ B hml hv
  obtain ⟨rfl, hsz, hU⟩ := hv
  subst hsz
  have S : CallFix p m c cX3_daysToPay 3 s ([.ref (db_ad E 43), .int x1] : List Value).toArray wsX3_daysToPay RX3 := ⟨B.exec, B.bytes, hml, findClass_of_methodNamed B.named, atoms_spec (ws := wsX3_daysToPay) B.pre⟩
  have hx := S.1
  have hb := S.2.1
  have hr := B.returns
  have hlocks := B.notSynchronized
  have hw := db_start hU
  have hiX3 : ∀ w ∈ wsX30, w ∈ wsX3_daysToPay := fun w_ h_ => List.mem_cons_of_mem _ (List.mem_append_left _ (List.mem_append_right _ h_))
  have hiX4 : ∀ w ∈ wsX40, w ∈ wsX3_daysToPay := fun w_ h_ => List.mem_cons_of_mem _ (List.mem_append_right _ h_)
  have hl := lv_entry ([.ref (db_ad E 43), .int x1]) (n := 3) (Nat.le_of_ble_eq_true rfl)
  rw [lg_entry_eq]
  generalize (lg_sl ([.ref (db_ad E 43), .int x1]) ++ List.replicate (3 - (lg_sl ([.ref (db_ad E 43), .int x1])).length) Slot.unset).toArray = ls at hl ⊢
  have hl : lv_has ls 3 [(0, .ref (db_ad E 43)), (1, .int x1)] := hl
  refine lv_aload_n hx hb dX3_daysToPay_0 rfl (lv_at hl 0 rfl) ?_
  refine lv_aload_n hx hb dX3_daysToPay_1 rfl (lv_at hl 0 rfl) ?_
  refine db_getr S hw (Nat.le_of_ble_eq_true rfl) db_s43 (C := RX3) (T := TX3) (N := 7) rfl hiX3 0 (by decide) (r := 36) rfl (List.mem_of_getElem? (i := 1) rfl) dX3_daysToPay_2 ?_
  refine db_getiN S hw (Nat.le_of_ble_eq_true rfl) db_s36 (C := RX4) (T := TX4) (N := 3) rfl hiX4 2 (by decide) rfl (List.mem_of_getElem? (i := 17) rfl) dX3_daysToPay_5 ?_
  refine db_callVv S hw (Nat.le_of_ble_eq_true rfl) db_s43 (C := RX3) (T := TX3) (N := 7) (As := [.int (X.1 36 2)]) rfl (ct_X3_begin  h) gX3_daysToPay_X3_begin rfl ⟨rfl, rfl, Nat.le_of_ble_eq_true rfl, Nat.le_of_ble_eq_true rfl⟩ 1 rfl (by decide +kernel) hl.1 rfl (Nat.le_of_ble_eq_true rfl) dX3_daysToPay_8 ⟨Nat.zero_le _, Nat.zero_le _⟩ (fun X1 H locs h hw => ?_)
  refine lv_iconst (v := (0 : Int32)) hx hb dX3_daysToPay_11 (by decide) ?_
  refine lv_istore_n (lv' := [(2, .int (0 : Int32)), (0, .ref (db_ad E 43)), (1, .int x1)]) hx hb dX3_daysToPay_12 rfl hl (by decide) rfl (fun ls hl => ?_)
  obtain ⟨f_, h⟩ := h
  exact tw_X3_daysToPay_13 S hr hlocks   f_ _ _ _ _ _ _ h hw (lv_sub hl [1, 2, 0] rfl)
-- DaysOnBread$Course.friendsToPay(II)I
abbrev rm_X3_friendsToPay : Room := { frames := 4, cells := 0, slots := 0, locals := 104 }
def wp_X3_friendsToPay_35 (Q : Int32 → db_St → Prop) : Nat → db_St → Int32 → Int32 → Int32 → Int32 → Prop
  | 0, _, _, _, _, _ => False
  | n_ + 1, X, x1, x2, x3, x4 => (((99 : Int32) < x4 → Q (-9 : Int32) X) ∧ (¬ ((99 : Int32) < x4) → wp_X4_unitsAtMost X (4 : Int32) x2 x4 (fun r1 X1 => ((((X.1 43 6) + (x3 * r1)) < x1 → wp_X3_friendsToPay_35 Q n_ X1 x1 x2 x3 (x4 + (1 : Int32))) ∧ (¬ (((X.1 43 6) + (x3 * r1)) < x1) → Q x4 X1)))))
set_option maxHeartbeats 4000000 in
set_option maxRecDepth 100000 in
theorem tw_X3_friendsToPay_35 {p : Program} {l : Launch} {e : Env} {s : State} {m : MethodId} {args : Array Value} {below : List Frame} {meth : Method} {c : Code} {E : db_E} (S : CallFix p m c cX3_friendsToPay 5 s args wsX3_friendsToPay RX3) (hr : meth.sig.returnType = (some .int)) (hlocks : meth.locks = false)  {Q : Int32 → db_St → Prop} : ∀ (n : Nat) (X : db_St) (x1 : Int32) (x2 : Int32) (x3 : Int32) (x4 : Int32) (H : Heap) (locs : List Loc) (ls : Array Slot), wp_X3_friendsToPay_35 Q n X x1 x2 x3 x4 → db_HW E (db_Aw E s.heap.size) s X H locs → lv_has ls 5 [(0, .ref (db_ad E 43)), (1, .int x1), (2, .int x2), (3, .int x3), (4, .int x4)] → W p l e rm_X3_friendsToPay s m args below meth c H locs 0 0 (MQ below (va_Qi Q (db_Po E) (db_Aw E s.heap.size)) args s 0 0 (db_Aw E s.heap.size)) (F0 m 35 ls []) := by
  have hx := S.1
  have hb := S.2.1
  have hiX3 : ∀ w ∈ wsX30, w ∈ wsX3_friendsToPay := fun w_ h_ => List.mem_cons_of_mem _ (List.mem_append_left _ (List.mem_append_right _ h_))
  intro n
  induction n with
  | zero =>
    intro X x1 x2 x3 x4 H locs ls h hw hl
    exact False.elim h
  | succ n_ ih =>
    intro X x1 x2 x3 x4 H locs ls h hw hl
    unfold wp_X3_friendsToPay_35 at h
    refine lv_iload hx hb dX3_friendsToPay_35 (lv_at hl 4 rfl) ?_
    refine lv_bipush (v := (99 : Int32)) hx hb dX3_friendsToPay_37 (by decide) ?_
    refine lv_icmp_gt (tgt := 73) hx hb dX3_friendsToPay_39 (by decide) (fun c3 => ?_) (fun c3 => ?_)
    · have h := h.1 c3
      refine lv_bipush (v := (-9 : Int32)) hx hb dX3_friendsToPay_73 (by decide) ?_
      exact db_iret S hr hlocks hw h dX3_friendsToPay_75
    · have h := h.2 c3
      refine lv_aload_n hx hb dX3_friendsToPay_42 rfl (lv_at hl 0 rfl) ?_
      refine db_geti S hw (Nat.le_of_ble_eq_true rfl) db_s43 (C := RX3) (T := TX3) (N := 7) rfl hiX3 6 (by decide) rfl (List.mem_of_getElem? (i := 2) rfl) dX3_friendsToPay_43 ?_
      refine lv_iload_n hx hb dX3_friendsToPay_46 rfl (lv_at hl 3 rfl) ?_
      refine lv_aload_n hx hb dX3_friendsToPay_47 rfl (lv_at hl 0 rfl) ?_
      refine db_getr S hw (Nat.le_of_ble_eq_true rfl) db_s43 (C := RX3) (T := TX3) (N := 7) rfl hiX3 0 (by decide) (r := 36) rfl (List.mem_of_getElem? (i := 1) rfl) dX3_friendsToPay_48 ?_
      refine lv_iconst (v := (4 : Int32)) hx hb dX3_friendsToPay_51 (by decide) ?_
      refine lv_iload_n hx hb dX3_friendsToPay_52 rfl (lv_at hl 2 rfl) ?_
      refine lv_iload hx hb dX3_friendsToPay_53 (lv_at hl 4 rfl) ?_
      refine db_callVi S hw (Nat.le_of_ble_eq_true rfl) db_s36 (C := RX4) (T := TX4) (N := 3) (As := [.int (4 : Int32), .int x2, .int x4]) rfl (ct_X4_unitsAtMost  h) gX3_friendsToPay_X4_unitsAtMost rfl ⟨rfl, rfl, Nat.le_of_ble_eq_true rfl, Nat.le_of_ble_eq_true rfl⟩ 3 rfl (by decide +kernel) hl.1 rfl (Nat.le_of_ble_eq_true rfl) dX3_friendsToPay_55 ⟨Nat.zero_le _, Nat.zero_le _⟩ (fun r1 X1 H locs h hw => ?_)
      refine lv_imul hx hb dX3_friendsToPay_58 ?_
      refine lv_iadd hx hb dX3_friendsToPay_59 ?_
      refine lv_iload_n hx hb dX3_friendsToPay_60 rfl (lv_at hl 1 rfl) ?_
      refine lv_icmp_lt (tgt := 67) hx hb dX3_friendsToPay_61 (by decide) (fun c2 => ?_) (fun c2 => ?_)
      · have h := h.1 c2
        refine lv_iinc (v := (x4 + (1 : Int32))) (lv' := [(4, .int (x4 + (1 : Int32))), (0, .ref (db_ad E 43)), (1, .int x1), (2, .int x2), (3, .int x3)]) hx hb dX3_friendsToPay_67 hl (k := 4) rfl (congrArg (fun z_ => x4 + z_) (show Int32.ofInt (1) = (1 : Int32) by decide)) (by decide) rfl (fun ls hl => ?_)
        refine lv_goto (tgt := 35) hx hb dX3_friendsToPay_70 (by decide) ?_
        exact ih _ _ _ _ _ _ _ _ h hw (lv_sub hl [1, 2, 3, 4, 0] rfl)
      · have h := h.2 c2
        refine lv_iload hx hb dX3_friendsToPay_64 (lv_at hl 4 rfl) ?_
        exact db_iret S hr hlocks hw h dX3_friendsToPay_66
def wp_X3_friendsToPay_7 (Q : Int32 → db_St → Prop) : Nat → db_St → Int32 → Int32 → Int32 → Prop
  | 0, _, _, _, _ => False
  | n_ + 1, X, x1, x2, x3 => ((x2 ≤ x3 → wp_X4_number X (4 : Int32) (0 : Int32) (fun r1 X1 => (∃ f_, wp_X3_friendsToPay_35 Q f_ X1 x1 x2 r1 (0 : Int32)))) ∧ (¬ (x2 ≤ x3) → wp_X3_spendDay X (fun X2 => wp_X3_friendsToPay_7 Q n_ X2 x1 x2 (x3 + (1 : Int32)))))
set_option maxHeartbeats 4000000 in
set_option maxRecDepth 100000 in
theorem tw_X3_friendsToPay_7 {p : Program} {l : Launch} {e : Env} {s : State} {m : MethodId} {args : Array Value} {below : List Frame} {meth : Method} {c : Code} {E : db_E} (S : CallFix p m c cX3_friendsToPay 5 s args wsX3_friendsToPay RX3) (hr : meth.sig.returnType = (some .int)) (hlocks : meth.locks = false)  {Q : Int32 → db_St → Prop} : ∀ (n : Nat) (X : db_St) (x1 : Int32) (x2 : Int32) (x3 : Int32) (H : Heap) (locs : List Loc) (ls : Array Slot), wp_X3_friendsToPay_7 Q n X x1 x2 x3 → db_HW E (db_Aw E s.heap.size) s X H locs → lv_has ls 5 [(0, .ref (db_ad E 43)), (1, .int x1), (2, .int x2), (3, .int x3)] → W p l e rm_X3_friendsToPay s m args below meth c H locs 0 0 (MQ below (va_Qi Q (db_Po E) (db_Aw E s.heap.size)) args s 0 0 (db_Aw E s.heap.size)) (F0 m 7 ls []) := by
  have hx := S.1
  have hb := S.2.1
  have hiX3 : ∀ w ∈ wsX30, w ∈ wsX3_friendsToPay := fun w_ h_ => List.mem_cons_of_mem _ (List.mem_append_left _ (List.mem_append_right _ h_))
  intro n
  induction n with
  | zero =>
    intro X x1 x2 x3 H locs ls h hw hl
    exact False.elim h
  | succ n_ ih =>
    intro X x1 x2 x3 H locs ls h hw hl
    unfold wp_X3_friendsToPay_7 at h
    refine lv_iload_n hx hb dX3_friendsToPay_7 rfl (lv_at hl 3 rfl) ?_
    refine lv_iload_n hx hb dX3_friendsToPay_8 rfl (lv_at hl 2 rfl) ?_
    refine lv_icmp_ge (tgt := 22) hx hb dX3_friendsToPay_9 (by decide) (fun c3 => ?_) (fun c3 => ?_)
    · have h := h.1 c3
      refine lv_aload_n hx hb dX3_friendsToPay_22 rfl (lv_at hl 0 rfl) ?_
      refine db_getr S hw (Nat.le_of_ble_eq_true rfl) db_s43 (C := RX3) (T := TX3) (N := 7) rfl hiX3 0 (by decide) (r := 36) rfl (List.mem_of_getElem? (i := 1) rfl) dX3_friendsToPay_23 ?_
      refine lv_iconst (v := (4 : Int32)) hx hb dX3_friendsToPay_26 (by decide) ?_
      refine lv_iconst (v := (0 : Int32)) hx hb dX3_friendsToPay_27 (by decide) ?_
      refine db_callVi S hw (Nat.le_of_ble_eq_true rfl) db_s36 (C := RX4) (T := TX4) (N := 3) (As := [.int (4 : Int32), .int (0 : Int32)]) rfl (ct_X4_number  h) gX3_friendsToPay_X4_number rfl ⟨rfl, rfl, Nat.le_of_ble_eq_true rfl, Nat.le_of_ble_eq_true rfl⟩ 2 rfl (by decide +kernel) hl.1 rfl (Nat.le_of_ble_eq_true rfl) dX3_friendsToPay_28 ⟨Nat.zero_le _, Nat.zero_le _⟩ (fun r1 X1 H locs h hw => ?_)
      refine lv_istore_n (lv' := [(3, .int r1), (0, .ref (db_ad E 43)), (1, .int x1), (2, .int x2)]) hx hb dX3_friendsToPay_31 rfl hl (by decide) rfl (fun ls hl => ?_)
      refine lv_iconst (v := (0 : Int32)) hx hb dX3_friendsToPay_32 (by decide) ?_
      refine lv_istore (lv' := [(4, .int (0 : Int32)), (3, .int r1), (0, .ref (db_ad E 43)), (1, .int x1), (2, .int x2)]) hx hb dX3_friendsToPay_33 hl (by decide) rfl (fun ls hl => ?_)
      obtain ⟨f_, h⟩ := h
      exact tw_X3_friendsToPay_35 S hr hlocks   f_ _ _ _ _ _ _ _ _ h hw (lv_sub hl [2, 3, 4, 1, 0] rfl)
    · have h := h.2 c3
      refine lv_aload_n hx hb dX3_friendsToPay_12 rfl (lv_at hl 0 rfl) ?_
      refine db_callVv S hw (Nat.le_of_ble_eq_true rfl) db_s43 (C := RX3) (T := TX3) (N := 7) (As := []) rfl (ct_X3_spendDay  h) gX3_friendsToPay_X3_spendDay rfl ⟨rfl, rfl, Nat.le_of_ble_eq_true rfl, Nat.le_of_ble_eq_true rfl⟩ 0 rfl (by decide +kernel) hl.1 rfl (Nat.le_of_ble_eq_true rfl) dX3_friendsToPay_13 ⟨Nat.zero_le _, Nat.zero_le _⟩ (fun X2 H locs h hw => ?_)
      refine lv_iinc (v := (x3 + (1 : Int32))) (lv' := [(3, .int (x3 + (1 : Int32))), (0, .ref (db_ad E 43)), (1, .int x1), (2, .int x2)]) hx hb dX3_friendsToPay_16 hl (k := 3) rfl (congrArg (fun z_ => x3 + z_) (show Int32.ofInt (1) = (1 : Int32) by decide)) (by decide) rfl (fun ls hl => ?_)
      refine lv_goto (tgt := 7) hx hb dX3_friendsToPay_19 (by decide) ?_
      exact ih _ _ _ _ _ _ _ h hw (lv_sub hl [1, 2, 3, 0] rfl)
def wp_X3_friendsToPay  (X : db_St) (x1 : Int32) (x2 : Int32) (Q : Int32 → db_St → Prop) : Prop := wp_X3_begin X (0 : Int32) (fun X1 => (∃ f_, wp_X3_friendsToPay_7 Q f_ X1 x1 x2 (0 : Int32)))
set_option maxHeartbeats 4000000 in
set_option maxRecDepth 100000 in
theorem ct_X3_friendsToPay {l : Launch} {E : db_E}  {X : db_St} {x1 : Int32} {x2 : Int32} {Q : Int32 → db_St → Prop} (h : wp_X3_friendsToPay  X x1 x2 Q) : db_MI l E yX3_friendsToPay wsX3_friendsToPay rm_X3_friendsToPay X [.ref (db_ad E 43), .int x1, .int x2] Q := by
  intro sz
  unfold wp_X3_friendsToPay at h
  refine Met.ofW (cc := cX3_friendsToPay) (maxL := 5) (ret := (some .int)) (by decide) rfl ?_
  intro p e s m args below meth c s₁ B hml hv
  obtain ⟨rfl, hsz, hU⟩ := hv
  subst hsz
  have S : CallFix p m c cX3_friendsToPay 5 s ([.ref (db_ad E 43), .int x1, .int x2] : List Value).toArray wsX3_friendsToPay RX3 := ⟨B.exec, B.bytes, hml, findClass_of_methodNamed B.named, atoms_spec (ws := wsX3_friendsToPay) B.pre⟩
  have hx := S.1
  have hb := S.2.1
  have hr := B.returns
  have hlocks := B.notSynchronized
  have hw := db_start hU
  have hiX3 : ∀ w ∈ wsX30, w ∈ wsX3_friendsToPay := fun w_ h_ => List.mem_cons_of_mem _ (List.mem_append_left _ (List.mem_append_right _ h_))
  have hl := lv_entry ([.ref (db_ad E 43), .int x1, .int x2]) (n := 5) (Nat.le_of_ble_eq_true rfl)
  rw [lg_entry_eq]
  generalize (lg_sl ([.ref (db_ad E 43), .int x1, .int x2]) ++ List.replicate (5 - (lg_sl ([.ref (db_ad E 43), .int x1, .int x2])).length) Slot.unset).toArray = ls at hl ⊢
  have hl : lv_has ls 5 [(0, .ref (db_ad E 43)), (1, .int x1), (2, .int x2)] := hl
  refine lv_aload_n hx hb dX3_friendsToPay_0 rfl (lv_at hl 0 rfl) ?_
  refine lv_iconst (v := (0 : Int32)) hx hb dX3_friendsToPay_1 (by decide) ?_
  refine db_callVv S hw (Nat.le_of_ble_eq_true rfl) db_s43 (C := RX3) (T := TX3) (N := 7) (As := [.int (0 : Int32)]) rfl (ct_X3_begin  h) gX3_friendsToPay_X3_begin rfl ⟨rfl, rfl, Nat.le_of_ble_eq_true rfl, Nat.le_of_ble_eq_true rfl⟩ 1 rfl (by decide +kernel) hl.1 rfl (Nat.le_of_ble_eq_true rfl) dX3_friendsToPay_2 ⟨Nat.zero_le _, Nat.zero_le _⟩ (fun X1 H locs h hw => ?_)
  refine lv_iconst (v := (0 : Int32)) hx hb dX3_friendsToPay_5 (by decide) ?_
  refine lv_istore_n (lv' := [(3, .int (0 : Int32)), (0, .ref (db_ad E 43)), (1, .int x1), (2, .int x2)]) hx hb dX3_friendsToPay_6 rfl hl (by decide) rfl (fun ls hl => ?_)
  obtain ⟨f_, h⟩ := h
  exact tw_X3_friendsToPay_7 S hr hlocks   f_ _ _ _ _ _ _ _ h hw (lv_sub hl [1, 2, 3, 0] rfl)
