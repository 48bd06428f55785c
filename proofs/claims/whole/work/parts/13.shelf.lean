-- DaysOnBread$Shelf.rulesInAll()I
abbrev rm_X8_rulesInAll : Room := { frames := 0, cells := 0, slots := 0, locals := 0 }
def wp_X8_rulesInAll_4 (Q : Int32 → db_St → Prop) : Nat → db_St → Int32 → Int32 → Prop
  | 0, _, _, _ => False
  | n_ + 1, X, x1, x2 => (((6 : Int32) ≤ x2 → Q x1 X) ∧ (¬ ((6 : Int32) ≤ x2) → (vp_in x2 6 ∧ (∀ z3, z3 = (x1 + (X.1 (8 + 1 + 4 * (x2).toNatClampNeg) 3)) → wp_X8_rulesInAll_4 Q n_ X z3 (x2 + (1 : Int32))))))
set_option maxHeartbeats 4000000 in
set_option maxRecDepth 100000 in
theorem tw_X8_rulesInAll_4 {p : Program} {l : Launch} {e : Env} {s : State} {m : MethodId} {args : Array Value} {below : List Frame} {meth : Method} {c : Code} {E : db_E} (S : CallFix p m c cX8_rulesInAll 3 s args wsX8_rulesInAll RX8) (hr : meth.sig.returnType = (some .int)) (hlocks : meth.locks = false)  {Q : Int32 → db_St → Prop} : ∀ (n : Nat) (X : db_St) (x1 : Int32) (x2 : Int32) (H : Heap) (locs : List Loc) (ls : Array Slot), wp_X8_rulesInAll_4 Q n X x1 x2 → db_HW E (db_Aw E s.heap.size) s X H locs → lv_has ls 3 [(0, .ref (db_ad E 7)), (1, .int x1), (2, .int x2)] → W p l e rm_X8_rulesInAll s m args below meth c H locs 0 0 (MQ below (va_Qi Q (db_Po E) (db_Aw E s.heap.size)) args s 0 0 (db_Aw E s.heap.size)) (F0 m 4 ls []) := by
  have hx := S.1
  have hb := S.2.1
  have hiX0 : ∀ w ∈ wsX00, w ∈ wsX8_rulesInAll := fun w_ h_ => List.mem_cons_of_mem _ (List.mem_append_right _ h_)
  have hiX8 : ∀ w ∈ wsX80, w ∈ wsX8_rulesInAll := fun w_ h_ => List.mem_cons_of_mem _ (List.mem_append_left _ (List.mem_append_right _ h_))
  intro n
  induction n with
  | zero =>
    intro X x1 x2 H locs ls h hw hl
    exact False.elim h
  | succ n_ ih =>
    intro X x1 x2 H locs ls h hw hl
    unfold wp_X8_rulesInAll_4 at h
    refine lv_iload_n hx hb dX8_rulesInAll_4 rfl (lv_at hl 2 rfl) ?_
    refine lv_bipush (v := (6 : Int32)) hx hb dX8_rulesInAll_5 (by decide) ?_
    refine lv_icmp_ge (tgt := 28) hx hb dX8_rulesInAll_7 (by decide) (fun c4 => ?_) (fun c4 => ?_)
    · have h := h.1 c4
      refine lv_iload_n hx hb dX8_rulesInAll_28 rfl (lv_at hl 1 rfl) ?_
      exact db_iret S hr hlocks hw h dX8_rulesInAll_29
    · have h := h.2 c4
      refine lv_iload_n hx hb dX8_rulesInAll_10 rfl (lv_at hl 1 rfl) ?_
      refine lv_aload_n hx hb dX8_rulesInAll_11 rfl (lv_at hl 0 rfl) ?_
      refine db_getr S hw (Nat.le_of_ble_eq_true rfl) db_s7 (C := RX8) (T := TX8) (N := 5) rfl hiX8 0 (by decide) (r := 8) rfl (List.mem_of_getElem? (i := 1) rfl) dX8_rulesInAll_12 ?_
      refine lv_iload_n hx hb dX8_rulesInAll_15 rfl (lv_at hl 2 rfl) ?_
      obtain ⟨g1, h⟩ := h
      have hB2 : db_kBook (8 + 1 + 4 * (x2).toNatClampNeg) := db_bk_of db_k7 g1
      refine db_aald S hw (Nat.le_of_ble_eq_true rfl) db_s8 g1 dX8_rulesInAll_16 ?_
      refine db_getiN S hw (db_kBook_l0 hB2) (db_kBook_s0 hB2) (C := RX0) (T := TX0) (N := 6) rfl hiX0 3 (by decide) rfl (List.mem_of_getElem? (i := 8) rfl) dX8_rulesInAll_17 ?_
      refine lv_iadd hx hb dX8_rulesInAll_20 ?_
      refine lv_topi (fun z3 e3 => ?_)
      have h := h z3 e3
      refine lv_istore_n (lv' := [(1, .int z3), (0, .ref (db_ad E 7)), (2, .int x2)]) hx hb dX8_rulesInAll_21 rfl hl (by decide) rfl (fun ls hl => ?_)
      refine lv_iinc (v := (x2 + (1 : Int32))) (lv' := [(2, .int (x2 + (1 : Int32))), (1, .int z3), (0, .ref (db_ad E 7))]) hx hb dX8_rulesInAll_22 hl (k := 2) rfl (congrArg (fun z_ => x2 + z_) (show Int32.ofInt (1) = (1 : Int32) by decide)) (by decide) rfl (fun ls hl => ?_)
      refine lv_goto (tgt := 4) hx hb dX8_rulesInAll_25 (by decide) ?_
      exact ih _ _ _ _ _ _ h hw (lv_sub hl [2, 1, 0] rfl)
def wp_X8_rulesInAll  (X : db_St)  (Q : Int32 → db_St → Prop) : Prop := (∃ f_, wp_X8_rulesInAll_4 Q f_ X (0 : Int32) (0 : Int32))
set_option maxHeartbeats 4000000 in
set_option maxRecDepth 100000 in
theorem ct_X8_rulesInAll {l : Launch} {E : db_E}  {X : db_St}  {Q : Int32 → db_St → Prop} (h : wp_X8_rulesInAll  X  Q) : db_MI l E yX8_rulesInAll wsX8_rulesInAll rm_X8_rulesInAll X [.ref (db_ad E 7)] Q := by
  intro sz
  unfold wp_X8_rulesInAll at h
  refine Met.ofW (cc := cX8_rulesInAll) (maxL := 3) (ret := (some .int)) (by decide) rfl ?_
  intro p e s m args below meth c s₁ B hml hv
  obtain ⟨rfl, hsz, hU⟩ := hv
  subst hsz
  have S : CallFix p m c cX8_rulesInAll 3 s ([.ref (db_ad E 7)] : List Value).toArray wsX8_rulesInAll RX8 := ⟨B.exec, B.bytes, hml, findClass_of_methodNamed B.named, atoms_spec (ws := wsX8_rulesInAll) B.pre⟩
  have hx := S.1
  have hb := S.2.1
  have hr := B.returns
  have hlocks := B.notSynchronized
  have hw := db_start hU
  have hiX0 : ∀ w ∈ wsX00, w ∈ wsX8_rulesInAll := fun w_ h_ => List.mem_cons_of_mem _ (List.mem_append_right _ h_)
  have hiX8 : ∀ w ∈ wsX80, w ∈ wsX8_rulesInAll := fun w_ h_ => List.mem_cons_of_mem _ (List.mem_append_left _ (List.mem_append_right _ h_))
  have hl := lv_entry ([.ref (db_ad E 7)]) (n := 3) (Nat.le_of_ble_eq_true rfl)
  rw [lg_entry_eq]
  generalize (lg_sl ([.ref (db_ad E 7)]) ++ List.replicate (3 - (lg_sl ([.ref (db_ad E 7)])).length) Slot.unset).toArray = ls at hl ⊢
  have hl : lv_has ls 3 [(0, .ref (db_ad E 7))] := hl
  refine lv_iconst (v := (0 : Int32)) hx hb dX8_rulesInAll_0 (by decide) ?_
  refine lv_istore_n (lv' := [(1, .int (0 : Int32)), (0, .ref (db_ad E 7))]) hx hb dX8_rulesInAll_1 rfl hl (by decide) rfl (fun ls hl => ?_)
  refine lv_iconst (v := (0 : Int32)) hx hb dX8_rulesInAll_2 (by decide) ?_
  refine lv_istore_n (lv' := [(2, .int (0 : Int32)), (1, .int (0 : Int32)), (0, .ref (db_ad E 7))]) hx hb dX8_rulesInAll_3 rfl hl (by decide) rfl (fun ls hl => ?_)
  obtain ⟨f_, h⟩ := h
  exact tw_X8_rulesInAll_4 S hr hlocks   f_ _ _ _ _ _ _ h hw (lv_sub hl [2, 1, 0] rfl)
-- DaysOnBread$Shelf.teller(III)I
abbrev rm_X8_teller : Room := { frames := 1, cells := 0, slots := 0, locals := 23 }
def wp_X8_teller_6 (Q : Int32 → db_St → Prop) : Nat → db_St → Int32 → Int32 → Int32 → Int32 → Prop
  | 0, _, _, _, _, _ => False
  | n_ + 1, X, x2, x3, x4, x5 => (((6 : Int32) ≤ x5 → Q (-9 : Int32) X) ∧ (¬ ((6 : Int32) ≤ x5) → wp_X10_isBook X x4 (fun r1 X1 => ((r1 = 0 → Q (-9 : Int32) X1) ∧ (¬ (r1 = 0) → (vp_in x4 6 ∧ wp_X0_firstFor (8 + 1 + 4 * (x4).toNatClampNeg) X1 x2 x3 (fun r4 X4 => ((r4 < 0 → (vp_in x4 6 ∧ wp_X8_teller_6 Q n_ X4 x2 x3 (X4.1 (8 + 1 + 4 * (x4).toNatClampNeg) 4) (x5 + (1 : Int32)))) ∧ (¬ (r4 < 0) → Q x4 X4)))))))))
set_option maxHeartbeats 4000000 in
set_option maxRecDepth 100000 in
theorem tw_X8_teller_6 {p : Program} {l : Launch} {e : Env} {s : State} {m : MethodId} {args : Array Value} {below : List Frame} {meth : Method} {c : Code} {E : db_E} (S : CallFix p m c cX8_teller 6 s args wsX8_teller RX8) (hr : meth.sig.returnType = (some .int)) (hlocks : meth.locks = false)  {Q : Int32 → db_St → Prop} : ∀ (n : Nat) (X : db_St) (x2 : Int32) (x3 : Int32) (x4 : Int32) (x5 : Int32) (H : Heap) (locs : List Loc) (ls : Array Slot), wp_X8_teller_6 Q n X x2 x3 x4 x5 → db_HW E (db_Aw E s.heap.size) s X H locs → lv_has ls 6 [(0, .ref (db_ad E 7)), (2, .int x2), (3, .int x3), (4, .int x4), (5, .int x5)] → W p l e rm_X8_teller s m args below meth c H locs 0 0 (MQ below (va_Qi Q (db_Po E) (db_Aw E s.heap.size)) args s 0 0 (db_Aw E s.heap.size)) (F0 m 6 ls []) := by
  have hx := S.1
  have hb := S.2.1
  have hiX0 : ∀ w ∈ wsX00, w ∈ wsX8_teller := fun w_ h_ => List.mem_cons_of_mem _ (List.mem_append_right _ h_)
  have hiX8 : ∀ w ∈ wsX80, w ∈ wsX8_teller := fun w_ h_ => List.mem_cons_of_mem _ (List.mem_append_left _ (List.mem_append_right _ h_))
  intro n
  induction n with
  | zero =>
    intro X x2 x3 x4 x5 H locs ls h hw hl
    exact False.elim h
  | succ n_ ih =>
    intro X x2 x3 x4 x5 H locs ls h hw hl
    unfold wp_X8_teller_6 at h
    refine lv_iload hx hb dX8_teller_6 (lv_at hl 4 rfl) ?_
    refine lv_bipush (v := (6 : Int32)) hx hb dX8_teller_8 (by decide) ?_
    refine lv_icmp_ge (tgt := 57) hx hb dX8_teller_10 (by decide) (fun c9 => ?_) (fun c9 => ?_)
    · have h := h.1 c9
      refine lv_bipush (v := (-9 : Int32)) hx hb dX8_teller_57 (by decide) ?_
      exact db_iret S hr hlocks hw h dX8_teller_59
    · have h := h.2 c9
      refine lv_iload hx hb dX8_teller_13 (lv_at hl 3 rfl) ?_
      refine db_callNi S hw (As := [.int x4]) (ct_X10_isBook  h) gX8_teller_X10_isBook_n32 rfl ⟨rfl, rfl, Nat.le_of_ble_eq_true rfl, Nat.le_of_ble_eq_true rfl⟩ (List.mem_of_getElem? (i := 0) rfl) (List.mem_of_getElem? (i := 3) rfl) (List.mem_of_getElem? (i := 2) rfl) 1 rfl (by decide +kernel) hl.1 rfl (Nat.le_of_ble_eq_true rfl) dX8_teller_15 ⟨Nat.zero_le _, Nat.zero_le _⟩ (fun r1 X1 H locs h hw => ?_)
      refine lv_if_eq (tgt := 57) hx hb dX8_teller_18 (by decide) (fun c8 => ?_) (fun c8 => ?_)
      · have h := h.1 c8
        refine lv_bipush (v := (-9 : Int32)) hx hb dX8_teller_57 (by decide) ?_
        exact db_iret S hr hlocks hw h dX8_teller_59
      · have h := h.2 c8
        refine lv_aload_n hx hb dX8_teller_21 rfl (lv_at hl 0 rfl) ?_
        refine db_getr S hw (Nat.le_of_ble_eq_true rfl) db_s7 (C := RX8) (T := TX8) (N := 5) rfl hiX8 0 (by decide) (r := 8) rfl (List.mem_of_getElem? (i := 1) rfl) dX8_teller_22 ?_
        refine lv_iload hx hb dX8_teller_25 (lv_at hl 3 rfl) ?_
        obtain ⟨g2, h⟩ := h
        have hB3 : db_kBook (8 + 1 + 4 * (x4).toNatClampNeg) := db_bk_of db_k7 g2
        refine db_aald S hw (Nat.le_of_ble_eq_true rfl) db_s8 g2 dX8_teller_27 ?_
        refine lv_iload_n hx hb dX8_teller_28 rfl (lv_at hl 1 rfl) ?_
        refine lv_iload_n hx hb dX8_teller_29 rfl (lv_at hl 2 rfl) ?_
        refine db_callVi S hw (db_kBook_l0 hB3) (db_kBook_s0 hB3) (C := RX0) (T := TX0) (N := 6) (As := [.int x2, .int x3]) rfl (ct_X0_firstFor hB3 h) gX8_teller_X0_firstFor rfl ⟨rfl, rfl, Nat.le_of_ble_eq_true rfl, Nat.le_of_ble_eq_true rfl⟩ 2 rfl (by decide +kernel) hl.1 rfl (Nat.le_of_ble_eq_true rfl) dX8_teller_30 ⟨Nat.zero_le _, Nat.zero_le _⟩ (fun r4 X4 H locs h hw => ?_)
        refine lv_if_lt (tgt := 39) hx hb dX8_teller_33 (by decide) (fun c7 => ?_) (fun c7 => ?_)
        · have h := h.1 c7
          refine lv_aload_n hx hb dX8_teller_39 rfl (lv_at hl 0 rfl) ?_
          refine db_getr S hw (Nat.le_of_ble_eq_true rfl) db_s7 (C := RX8) (T := TX8) (N := 5) rfl hiX8 0 (by decide) (r := 8) rfl (List.mem_of_getElem? (i := 1) rfl) dX8_teller_40 ?_
          refine lv_iload hx hb dX8_teller_43 (lv_at hl 3 rfl) ?_
          obtain ⟨g5, h⟩ := h
          have hB6 : db_kBook (8 + 1 + 4 * (x4).toNatClampNeg) := db_bk_of db_k7 g5
          refine db_aald S hw (Nat.le_of_ble_eq_true rfl) db_s8 g5 dX8_teller_45 ?_
          refine db_getiN S hw (db_kBook_l0 hB6) (db_kBook_s0 hB6) (C := RX0) (T := TX0) (N := 6) rfl hiX0 4 (by decide) rfl (List.mem_of_getElem? (i := 10) rfl) dX8_teller_46 ?_
          refine lv_istore (lv' := [(4, .int (X4.1 (8 + 1 + 4 * (x4).toNatClampNeg) 4)), (0, .ref (db_ad E 7)), (2, .int x2), (3, .int x3), (5, .int x5)]) hx hb dX8_teller_49 hl (by decide) rfl (fun ls hl => ?_)
          refine lv_iinc (v := (x5 + (1 : Int32))) (lv' := [(5, .int (x5 + (1 : Int32))), (4, .int (X4.1 (8 + 1 + 4 * (x4).toNatClampNeg) 4)), (0, .ref (db_ad E 7)), (2, .int x2), (3, .int x3)]) hx hb dX8_teller_51 hl (k := 4) rfl (congrArg (fun z_ => x5 + z_) (show Int32.ofInt (1) = (1 : Int32) by decide)) (by decide) rfl (fun ls hl => ?_)
          refine lv_goto (tgt := 6) hx hb dX8_teller_54 (by decide) ?_
          exact ih _ _ _ _ _ _ _ _ h hw (lv_sub hl [2, 3, 4, 1, 0] rfl)
        · have h := h.2 c7
          refine lv_iload hx hb dX8_teller_36 (lv_at hl 3 rfl) ?_
          exact db_iret S hr hlocks hw h dX8_teller_38
def wp_X8_teller  (X : db_St) (x1 : Int32) (x2 : Int32) (x3 : Int32) (Q : Int32 → db_St → Prop) : Prop := (∃ f_, wp_X8_teller_6 Q f_ X x2 x3 x1 (0 : Int32))
set_option maxHeartbeats 4000000 in
set_option maxRecDepth 100000 in
theorem ct_X8_teller {l : Launch} {E : db_E}  {X : db_St} {x1 : Int32} {x2 : Int32} {x3 : Int32} {Q : Int32 → db_St → Prop} (h : wp_X8_teller  X x1 x2 x3 Q) : db_MI l E yX8_teller wsX8_teller rm_X8_teller X [.ref (db_ad E 7), .int x1, .int x2, .int x3] Q := by
  intro sz
  unfold wp_X8_teller at h
  refine Met.ofW (cc := cX8_teller) (maxL := 6) (ret := (some .int)) (by decide) rfl ?_
  intro p e s m args below meth c s₁ B hml hv
  obtain ⟨rfl, hsz, hU⟩ := hv
  subst hsz
  have S : CallFix p m c cX8_teller 6 s ([.ref (db_ad E 7), .int x1, .int x2, .int x3] : List Value).toArray wsX8_teller RX8 := ⟨B.exec, B.bytes, hml, findClass_of_methodNamed B.named, atoms_spec (ws := wsX8_teller) B.pre⟩
  have hx := S.1
  have hb := S.2.1
  have hr := B.returns
  have hlocks := B.notSynchronized
  have hw := db_start hU
  have hiX0 : ∀ w ∈ wsX00, w ∈ wsX8_teller := fun w_ h_ => List.mem_cons_of_mem _ (List.mem_append_right _ h_)
  have hiX8 : ∀ w ∈ wsX80, w ∈ wsX8_teller := fun w_ h_ => List.mem_cons_of_mem _ (List.mem_append_left _ (List.mem_append_right _ h_))
  have hl := lv_entry ([.ref (db_ad E 7), .int x1, .int x2, .int x3]) (n := 6) (Nat.le_of_ble_eq_true rfl)
  rw [lg_entry_eq]
  generalize (lg_sl ([.ref (db_ad E 7), .int x1, .int x2, .int x3]) ++ List.replicate (6 - (lg_sl ([.ref (db_ad E 7), .int x1, .int x2, .int x3])).length) Slot.unset).toArray = ls at hl ⊢
  have hl : lv_has ls 6 [(0, .ref (db_ad E 7)), (1, .int x1), (2, .int x2), (3, .int x3)] := hl
  refine lv_iload_n hx hb dX8_teller_0 rfl (lv_at hl 1 rfl) ?_
  refine lv_istore (lv' := [(4, .int x1), (0, .ref (db_ad E 7)), (1, .int x1), (2, .int x2), (3, .int x3)]) hx hb dX8_teller_1 hl (by decide) rfl (fun ls hl => ?_)
  refine lv_iconst (v := (0 : Int32)) hx hb dX8_teller_3 (by decide) ?_
  refine lv_istore (lv' := [(5, .int (0 : Int32)), (4, .int x1), (0, .ref (db_ad E 7)), (1, .int x1), (2, .int x2), (3, .int x3)]) hx hb dX8_teller_4 hl (by decide) rfl (fun ls hl => ?_)
  obtain ⟨f_, h⟩ := h
  exact tw_X8_teller_6 S hr hlocks   f_ _ _ _ _ _ _ _ _ h hw (lv_sub hl [2, 4, 5, 1, 0] rfl)
-- DaysOnBread$Shelf.daysFor(III)I
abbrev rm_X8_daysFor : Room := { frames := 2, cells := 0, slots := 0, locals := 48 }
def wp_X8_daysFor  (X : db_St) (x1 : Int32) (x2 : Int32) (x3 : Int32) (Q : Int32 → db_St → Prop) : Prop := wp_X8_teller X x1 x2 x3 (fun r1 X1 => wp_X10_isBook X1 r1 (fun r2 X2 => ((r2 = 0 → Q (-9 : Int32) X2) ∧ (¬ r2 = 0 → (vp_in r1 6 ∧ wp_X0_firstFor (8 + 1 + 4 * (r1).toNatClampNeg) X2 x2 x3 (fun r5 X5 => ((r5 < 0 → Q (-9 : Int32) X5) ∧ (¬ (r5 < 0) → (((10 : Int32) ≤ r5 → Q (-9 : Int32) X5) ∧ (¬ ((10 : Int32) ≤ r5) → (vp_in r1 6 ∧ (vp_in r5 10 ∧ Q (X5.1 ((8 + 1 + 4 * (r1).toNatClampNeg) + 3) (r5).toNatClampNeg) X5))))))))))))
set_option maxHeartbeats 4000000 in
set_option maxRecDepth 100000 in
theorem ct_X8_daysFor {l : Launch} {E : db_E}  {X : db_St} {x1 : Int32} {x2 : Int32} {x3 : Int32} {Q : Int32 → db_St → Prop} (h : wp_X8_daysFor  X x1 x2 x3 Q) : db_MI l E yX8_daysFor wsX8_daysFor rm_X8_daysFor X [.ref (db_ad E 7), .int x1, .int x2, .int x3] Q := by
  intro sz
  unfold wp_X8_daysFor at h
  refine Met.ofW (cc := cX8_daysFor) (maxL := 6) (ret := (some .int)) (by decide) rfl ?_
  intro p e s m args below meth c s₁ B hml hv
  obtain ⟨rfl, hsz, hU⟩ := hv
  subst hsz
  have S : CallFix p m c cX8_daysFor 6 s ([.ref (db_ad E 7), .int x1, .int x2, .int x3] : List Value).toArray wsX8_daysFor RX8 := ⟨B.exec, B.bytes, hml, findClass_of_methodNamed B.named, atoms_spec (ws := wsX8_daysFor) B.pre⟩
  have hx := S.1
  have hb := S.2.1
  have hr := B.returns
  have hlocks := B.notSynchronized
  have hw := db_start hU
  have hiX0 : ∀ w ∈ wsX00, w ∈ wsX8_daysFor := fun w_ h_ => List.mem_cons_of_mem _ (List.mem_append_right _ h_)
  have hiX8 : ∀ w ∈ wsX80, w ∈ wsX8_daysFor := fun w_ h_ => List.mem_cons_of_mem _ (List.mem_append_left _ (List.mem_append_right _ h_))
  have hl := lv_entry ([.ref (db_ad E 7), .int x1, .int x2, .int x3]) (n := 6) (Nat.le_of_ble_eq_true rfl)
  rw [lg_entry_eq]
  generalize (lg_sl ([.ref (db_ad E 7), .int x1, .int x2, .int x3]) ++ List.replicate (6 - (lg_sl ([.ref (db_ad E 7), .int x1, .int x2, .int x3])).length) Slot.unset).toArray = ls at hl ⊢
  have hl : lv_has ls 6 [(0, .ref (db_ad E 7)), (1, .int x1), (2, .int x2), (3, .int x3)] := hl
  refine lv_aload_n hx hb dX8_daysFor_0 rfl (lv_at hl 0 rfl) ?_
  refine lv_iload_n hx hb dX8_daysFor_1 rfl (lv_at hl 1 rfl) ?_
  refine lv_iload_n hx hb dX8_daysFor_2 rfl (lv_at hl 2 rfl) ?_
  refine lv_iload_n hx hb dX8_daysFor_3 rfl (lv_at hl 3 rfl) ?_
  refine db_callVi S hw (Nat.le_of_ble_eq_true rfl) db_s7 (C := RX8) (T := TX8) (N := 5) (As := [.int x1, .int x2, .int x3]) rfl (ct_X8_teller  h) gX8_daysFor_X8_teller rfl ⟨rfl, rfl, Nat.le_of_ble_eq_true rfl, Nat.le_of_ble_eq_true rfl⟩ 3 rfl (by decide +kernel) hl.1 rfl (Nat.le_of_ble_eq_true rfl) dX8_daysFor_4 ⟨Nat.zero_le _, Nat.zero_le _⟩ (fun r1 X1 H locs h hw => ?_)
  refine lv_istore (lv' := [(4, .int r1), (0, .ref (db_ad E 7)), (1, .int x1), (2, .int x2), (3, .int x3)]) hx hb dX8_daysFor_7 hl (by decide) rfl (fun ls hl => ?_)
  refine lv_iload hx hb dX8_daysFor_9 (lv_at hl 0 rfl) ?_
  refine db_callNi S hw (As := [.int r1]) (ct_X10_isBook  h) gX8_daysFor_X10_isBook_n32 rfl ⟨rfl, rfl, Nat.le_of_ble_eq_true rfl, Nat.le_of_ble_eq_true rfl⟩ (List.mem_of_getElem? (i := 0) rfl) (List.mem_of_getElem? (i := 8) rfl) (List.mem_of_getElem? (i := 7) rfl) 1 rfl (by decide +kernel) hl.1 rfl (Nat.le_of_ble_eq_true rfl) dX8_daysFor_11 ⟨Nat.zero_le _, Nat.zero_le _⟩ (fun r2 X2 H locs h hw => ?_)
  refine lv_if_ne (tgt := 20) hx hb dX8_daysFor_14 (by decide) (fun c11 => ?_) (fun c11 => ?_)
  · have h := h.2 c11
    refine lv_aload_n hx hb dX8_daysFor_20 rfl (lv_at hl 1 rfl) ?_
    refine db_getr S hw (Nat.le_of_ble_eq_true rfl) db_s7 (C := RX8) (T := TX8) (N := 5) rfl hiX8 0 (by decide) (r := 8) rfl (List.mem_of_getElem? (i := 1) rfl) dX8_daysFor_21 ?_
    refine lv_iload hx hb dX8_daysFor_24 (lv_at hl 0 rfl) ?_
    obtain ⟨g3, h⟩ := h
    have hB4 : db_kBook (8 + 1 + 4 * (r1).toNatClampNeg) := db_bk_of db_k7 g3
    refine db_aald S hw (Nat.le_of_ble_eq_true rfl) db_s8 g3 dX8_daysFor_26 ?_
    refine lv_iload_n hx hb dX8_daysFor_27 rfl (lv_at hl 3 rfl) ?_
    refine lv_iload_n hx hb dX8_daysFor_28 rfl (lv_at hl 4 rfl) ?_
    refine db_callVi S hw (db_kBook_l0 hB4) (db_kBook_s0 hB4) (C := RX0) (T := TX0) (N := 6) (As := [.int x2, .int x3]) rfl (ct_X0_firstFor hB4 h) gX8_daysFor_X0_firstFor rfl ⟨rfl, rfl, Nat.le_of_ble_eq_true rfl, Nat.le_of_ble_eq_true rfl⟩ 2 rfl (by decide +kernel) hl.1 rfl (Nat.le_of_ble_eq_true rfl) dX8_daysFor_29 ⟨Nat.zero_le _, Nat.zero_le _⟩ (fun r5 X5 H locs h hw => ?_)
    refine lv_istore (lv' := [(5, .int r5), (4, .int r1), (0, .ref (db_ad E 7)), (1, .int x1), (2, .int x2), (3, .int x3)]) hx hb dX8_daysFor_32 hl (by decide) rfl (fun ls hl => ?_)
    refine lv_iload hx hb dX8_daysFor_34 (lv_at hl 0 rfl) ?_
    refine lv_if_lt (tgt := 62) hx hb dX8_daysFor_36 (by decide) (fun c10 => ?_) (fun c10 => ?_)
    · have h := h.1 c10
      refine lv_bipush (v := (-9 : Int32)) hx hb dX8_daysFor_62 (by decide) ?_
      exact db_iret S hr hlocks hw h dX8_daysFor_64
    · have h := h.2 c10
      refine lv_iload hx hb dX8_daysFor_39 (lv_at hl 0 rfl) ?_
      refine lv_bipush (v := (10 : Int32)) hx hb dX8_daysFor_41 (by decide) ?_
      refine lv_icmp_ge (tgt := 62) hx hb dX8_daysFor_43 (by decide) (fun c9 => ?_) (fun c9 => ?_)
      · have h := h.1 c9
        refine lv_bipush (v := (-9 : Int32)) hx hb dX8_daysFor_62 (by decide) ?_
        exact db_iret S hr hlocks hw h dX8_daysFor_64
      · have h := h.2 c9
        refine lv_aload_n hx hb dX8_daysFor_46 rfl (lv_at hl 2 rfl) ?_
        refine db_getr S hw (Nat.le_of_ble_eq_true rfl) db_s7 (C := RX8) (T := TX8) (N := 5) rfl hiX8 0 (by decide) (r := 8) rfl (List.mem_of_getElem? (i := 1) rfl) dX8_daysFor_47 ?_
        refine lv_iload hx hb dX8_daysFor_50 (lv_at hl 1 rfl) ?_
        obtain ⟨g6, h⟩ := h
        have hB7 : db_kBook (8 + 1 + 4 * (r1).toNatClampNeg) := db_bk_of db_k7 g6
        refine db_aald S hw (Nat.le_of_ble_eq_true rfl) db_s8 g6 dX8_daysFor_52 ?_
        refine db_getrN S hw (db_kBook_l0 hB7) (db_kBook_s0 hB7) (C := RX0) (T := TX0) (N := 6) rfl hiX0 2 (by decide) (r := ((8 + 1 + 4 * (r1).toNatClampNeg) + 3)) rfl (List.mem_of_getElem? (i := 6) rfl) dX8_daysFor_53 ?_
        refine lv_iload hx hb dX8_daysFor_56 (lv_at hl 0 rfl) ?_
        obtain ⟨g8, h⟩ := h
        refine db_iald S hw (db_kBook_l3 hB7) (db_kBook_s3 hB7) g8 dX8_daysFor_58 ?_
        refine lv_goto (tgt := 64) hx hb dX8_daysFor_59 (by decide) ?_
        exact db_iret S hr hlocks hw h dX8_daysFor_64
  · have h := h.1 c11
    refine lv_bipush (v := (-9 : Int32)) hx hb dX8_daysFor_17 (by decide) ?_
    exact db_iret S hr hlocks hw h dX8_daysFor_19
-- DaysOnBread$Shelf.addDone(IIZ)I
abbrev rm_X8_addDone : Room := { frames := 0, cells := 0, slots := 0, locals := 0 }
def wp_X8_addDone  (X : db_St) (x1 : Int32) (x2 : Int32) (x3 : Int32) (Q : Int32 → db_St → Prop) : Prop := (((12 : Int32) ≤ (X.1 7 4) → Q (X.1 7 4) X) ∧ (¬ ((12 : Int32) ≤ (X.1 7 4)) → (vp_in (X.1 7 4) 12 ∧ (∀ X2, X2 = (db_si X 33 ((X.1 7 4)).toNatClampNeg x1) → (vp_in (X2.1 7 4) 12 ∧ (∀ X4, X4 = (db_si X2 34 ((X2.1 7 4)).toNatClampNeg x2) → ((x3 = 0 → (vp_in (X4.1 7 4) 12 ∧ (∀ X6, X6 = (db_si X4 35 ((X4.1 7 4)).toNatClampNeg (1 : Int32)) → (∀ X7, X7 = (db_si X6 7 4 ((X6.1 7 4) + (1 : Int32))) → Q (X7.1 7 4) X7)))) ∧ (¬ (x3 = 0) → (vp_in (X4.1 7 4) 12 ∧ (∀ X9, X9 = (db_si X4 35 ((X4.1 7 4)).toNatClampNeg (2 : Int32)) → (∀ X10, X10 = (db_si X9 7 4 ((X9.1 7 4) + (1 : Int32))) → Q (X10.1 7 4) X10)))))))))))
set_option maxHeartbeats 4000000 in
set_option maxRecDepth 100000 in
theorem ct_X8_addDone {l : Launch} {E : db_E}  {X : db_St} {x1 : Int32} {x2 : Int32} {x3 : Int32} {Q : Int32 → db_St → Prop} (h : wp_X8_addDone  X x1 x2 x3 Q) : db_MI l E yX8_addDone wsX8_addDone rm_X8_addDone X [.ref (db_ad E 7), .int x1, .int x2, .int x3] Q := by
  intro sz
  unfold wp_X8_addDone at h
  refine Met.ofW (cc := cX8_addDone) (maxL := 4) (ret := (some .int)) (by decide) rfl ?_
  intro p e s m args below meth c s₁ B hml hv
  obtain ⟨rfl, hsz, hU⟩ := hv
  subst hsz
  have S : CallFix p m c cX8_addDone 4 s ([.ref (db_ad E 7), .int x1, .int x2, .int x3] : List Value).toArray wsX8_addDone RX8 := ⟨B.exec, B.bytes, hml, findClass_of_methodNamed B.named, atoms_spec (ws := wsX8_addDone) B.pre⟩
  have hx := S.1
  have hb := S.2.1
  have hr := B.returns
  have hlocks := B.notSynchronized
  have hw := db_start hU
  have hiX8 : ∀ w ∈ wsX80, w ∈ wsX8_addDone := fun w_ h_ => List.mem_cons_of_mem _ (List.mem_append_right _ h_)
  have hl := lv_entry ([.ref (db_ad E 7), .int x1, .int x2, .int x3]) (n := 4) (Nat.le_of_ble_eq_true rfl)
  rw [lg_entry_eq]
  generalize (lg_sl ([.ref (db_ad E 7), .int x1, .int x2, .int x3]) ++ List.replicate (4 - (lg_sl ([.ref (db_ad E 7), .int x1, .int x2, .int x3])).length) Slot.unset).toArray = ls at hl ⊢
  have hl : lv_has ls 4 [(0, .ref (db_ad E 7)), (1, .int x1), (2, .int x2), (3, .int x3)] := hl
  refine lv_aload_n hx hb dX8_addDone_0 rfl (lv_at hl 0 rfl) ?_
  refine db_geti S hw (Nat.le_of_ble_eq_true rfl) db_s7 (C := RX8) (T := TX8) (N := 5) rfl hiX8 4 (by decide) rfl (List.mem_of_getElem? (i := 1) rfl) dX8_addDone_1 ?_
  refine lv_bipush (v := (12 : Int32)) hx hb dX8_addDone_4 (by decide) ?_
  refine lv_icmp_ge (tgt := 57) hx hb dX8_addDone_6 (by decide) (fun c12 => ?_) (fun c12 => ?_)
  · have h := h.1 c12
    refine lv_aload_n hx hb dX8_addDone_57 rfl (lv_at hl 0 rfl) ?_
    refine db_geti S hw (Nat.le_of_ble_eq_true rfl) db_s7 (C := RX8) (T := TX8) (N := 5) rfl hiX8 4 (by decide) rfl (List.mem_of_getElem? (i := 1) rfl) dX8_addDone_58 ?_
    exact db_iret S hr hlocks hw h dX8_addDone_61
  · have h := h.2 c12
    refine lv_aload_n hx hb dX8_addDone_9 rfl (lv_at hl 0 rfl) ?_
    refine db_getr S hw (Nat.le_of_ble_eq_true rfl) db_s7 (C := RX8) (T := TX8) (N := 5) rfl hiX8 1 (by decide) (r := 33) rfl (List.mem_of_getElem? (i := 2) rfl) dX8_addDone_10 ?_
    refine lv_aload_n hx hb dX8_addDone_13 rfl (lv_at hl 0 rfl) ?_
    refine db_geti S hw (Nat.le_of_ble_eq_true rfl) db_s7 (C := RX8) (T := TX8) (N := 5) rfl hiX8 4 (by decide) rfl (List.mem_of_getElem? (i := 1) rfl) dX8_addDone_14 ?_
    refine lv_iload_n hx hb dX8_addDone_17 rfl (lv_at hl 1 rfl) ?_
    obtain ⟨g1, h⟩ := h
    refine db_iast S hw (Nat.le_of_ble_eq_true rfl) db_s33 g1 dX8_addDone_18 (fun H locs hw => ?_)
    obtain ⟨X2, e2, hw⟩ : ∃ Z_, Z_ = (db_si X 33 ((X.1 7 4)).toNatClampNeg x1) ∧ db_HW E (db_Aw E s.heap.size) s Z_ H locs := ⟨_, rfl, hw⟩
    have h := h X2 e2
    refine lv_aload_n hx hb dX8_addDone_19 rfl (lv_at hl 0 rfl) ?_
    refine db_getr S hw (Nat.le_of_ble_eq_true rfl) db_s7 (C := RX8) (T := TX8) (N := 5) rfl hiX8 2 (by decide) (r := 34) rfl (List.mem_of_getElem? (i := 3) rfl) dX8_addDone_20 ?_
    refine lv_aload_n hx hb dX8_addDone_23 rfl (lv_at hl 0 rfl) ?_
    refine db_geti S hw (Nat.le_of_ble_eq_true rfl) db_s7 (C := RX8) (T := TX8) (N := 5) rfl hiX8 4 (by decide) rfl (List.mem_of_getElem? (i := 1) rfl) dX8_addDone_24 ?_
    refine lv_iload_n hx hb dX8_addDone_27 rfl (lv_at hl 2 rfl) ?_
    obtain ⟨g3, h⟩ := h
    refine db_iast S hw (Nat.le_of_ble_eq_true rfl) db_s34 g3 dX8_addDone_28 (fun H locs hw => ?_)
    obtain ⟨X4, e4, hw⟩ : ∃ Z_, Z_ = (db_si X2 34 ((X2.1 7 4)).toNatClampNeg x2) ∧ db_HW E (db_Aw E s.heap.size) s Z_ H locs := ⟨_, rfl, hw⟩
    have h := h X4 e4
    refine lv_aload_n hx hb dX8_addDone_29 rfl (lv_at hl 0 rfl) ?_
    refine db_getr S hw (Nat.le_of_ble_eq_true rfl) db_s7 (C := RX8) (T := TX8) (N := 5) rfl hiX8 3 (by decide) (r := 35) rfl (List.mem_of_getElem? (i := 4) rfl) dX8_addDone_30 ?_
    refine lv_aload_n hx hb dX8_addDone_33 rfl (lv_at hl 0 rfl) ?_
    refine db_geti S hw (Nat.le_of_ble_eq_true rfl) db_s7 (C := RX8) (T := TX8) (N := 5) rfl hiX8 4 (by decide) rfl (List.mem_of_getElem? (i := 1) rfl) dX8_addDone_34 ?_
    refine lv_iload_n hx hb dX8_addDone_37 rfl (lv_at hl 3 rfl) ?_
    refine lv_if_eq (tgt := 45) hx hb dX8_addDone_38 (by decide) (fun c11 => ?_) (fun c11 => ?_)
    · have h := h.1 c11
      refine lv_iconst (v := (1 : Int32)) hx hb dX8_addDone_45 (by decide) ?_
      obtain ⟨g5, h⟩ := h
      refine db_iast S hw (Nat.le_of_ble_eq_true rfl) db_s35 g5 dX8_addDone_46 (fun H locs hw => ?_)
      obtain ⟨X6, e6, hw⟩ : ∃ Z_, Z_ = (db_si X4 35 ((X4.1 7 4)).toNatClampNeg (1 : Int32)) ∧ db_HW E (db_Aw E s.heap.size) s Z_ H locs := ⟨_, rfl, hw⟩
      have h := h X6 e6
      refine lv_aload_n hx hb dX8_addDone_47 rfl (lv_at hl 0 rfl) ?_
      refine lv_dup hx hb dX8_addDone_48 rfl ?_
      refine db_geti S hw (Nat.le_of_ble_eq_true rfl) db_s7 (C := RX8) (T := TX8) (N := 5) rfl hiX8 4 (by decide) rfl (List.mem_of_getElem? (i := 1) rfl) dX8_addDone_49 ?_
      refine lv_iconst (v := (1 : Int32)) hx hb dX8_addDone_52 (by decide) ?_
      refine lv_iadd hx hb dX8_addDone_53 ?_
      refine db_puti S hw (Nat.le_of_ble_eq_true rfl) db_s7 (C := RX8) (T := TX8) (N := 5) rfl hiX8 tyX8_ok nmX8 4 (by decide) rfl (List.mem_of_getElem? (i := 1) rfl) rfl ⟨rfl, rfl⟩ dX8_addDone_54 (fun H locs hw => ?_)
      obtain ⟨X7, e7, hw⟩ : ∃ Z_, Z_ = (db_si X6 7 4 ((X6.1 7 4) + (1 : Int32))) ∧ db_HW E (db_Aw E s.heap.size) s Z_ H locs := ⟨_, rfl, hw⟩
      have h := h X7 e7
      refine lv_aload_n hx hb dX8_addDone_57 rfl (lv_at hl 0 rfl) ?_
      refine db_geti S hw (Nat.le_of_ble_eq_true rfl) db_s7 (C := RX8) (T := TX8) (N := 5) rfl hiX8 4 (by decide) rfl (List.mem_of_getElem? (i := 1) rfl) dX8_addDone_58 ?_
      exact db_iret S hr hlocks hw h dX8_addDone_61
    · have h := h.2 c11
      refine lv_iconst (v := (2 : Int32)) hx hb dX8_addDone_41 (by decide) ?_
      refine lv_goto (tgt := 46) hx hb dX8_addDone_42 (by decide) ?_
      obtain ⟨g8, h⟩ := h
      refine db_iast S hw (Nat.le_of_ble_eq_true rfl) db_s35 g8 dX8_addDone_46 (fun H locs hw => ?_)
      obtain ⟨X9, e9, hw⟩ : ∃ Z_, Z_ = (db_si X4 35 ((X4.1 7 4)).toNatClampNeg (2 : Int32)) ∧ db_HW E (db_Aw E s.heap.size) s Z_ H locs := ⟨_, rfl, hw⟩
      have h := h X9 e9
      refine lv_aload_n hx hb dX8_addDone_47 rfl (lv_at hl 0 rfl) ?_
      refine lv_dup hx hb dX8_addDone_48 rfl ?_
      refine db_geti S hw (Nat.le_of_ble_eq_true rfl) db_s7 (C := RX8) (T := TX8) (N := 5) rfl hiX8 4 (by decide) rfl (List.mem_of_getElem? (i := 1) rfl) dX8_addDone_49 ?_
      refine lv_iconst (v := (1 : Int32)) hx hb dX8_addDone_52 (by decide) ?_
      refine lv_iadd hx hb dX8_addDone_53 ?_
      refine db_puti S hw (Nat.le_of_ble_eq_true rfl) db_s7 (C := RX8) (T := TX8) (N := 5) rfl hiX8 tyX8_ok nmX8 4 (by decide) rfl (List.mem_of_getElem? (i := 1) rfl) rfl ⟨rfl, rfl⟩ dX8_addDone_54 (fun H locs hw => ?_)
      obtain ⟨X10, e10, hw⟩ : ∃ Z_, Z_ = (db_si X9 7 4 ((X9.1 7 4) + (1 : Int32))) ∧ db_HW E (db_Aw E s.heap.size) s Z_ H locs := ⟨_, rfl, hw⟩
      have h := h X10 e10
      refine lv_aload_n hx hb dX8_addDone_57 rfl (lv_at hl 0 rfl) ?_
      refine db_geti S hw (Nat.le_of_ble_eq_true rfl) db_s7 (C := RX8) (T := TX8) (N := 5) rfl hiX8 4 (by decide) rfl (List.mem_of_getElem? (i := 1) rfl) dX8_addDone_58 ?_
      exact db_iret S hr hlocks hw h dX8_addDone_61
-- DaysOnBread$Shelf.allDone(I)I
abbrev rm_X8_allDone : Room := { frames := 3, cells := 0, slots := 0, locals := 73 }
def wp_X8_allDone_7 (Q : Int32 → db_St → Prop) : Nat → db_St → Int32 → Int32 → Int32 → Int32 → Prop
  | 0, _, _, _, _, _ => False
  | n_ + 1, X, x1, x2, x3, x4 => (((X.1 7 4) ≤ x4 → (vp_in x1 6 ∧ (((X.1 (8 + 1 + 4 * (x1).toNatClampNeg) 5) = (1 : Int32) → Q x3 X) ∧ (¬ (X.1 (8 + 1 + 4 * (x1).toNatClampNeg) 5) = (1 : Int32) → (((X.1 (8 + 1 + 4 * (x1).toNatClampNeg) 5) = (2 : Int32) → Q (x3 + ((x2 - x3) / (2 : Int32))) X) ∧ (¬ (X.1 (8 + 1 + 4 * (x1).toNatClampNeg) 5) = (2 : Int32) → Q x2 X)))))) ∧ (¬ ((X.1 7 4) ≤ x4) → (vp_in x4 12 ∧ (vp_in x4 12 ∧ wp_X8_daysFor X x1 (X.1 33 (x4).toNatClampNeg) (X.1 34 (x4).toNatClampNeg) (fun r7 X7 => (∀ z8, z8 = (if (0 : Int32) < r7 then r7 else (0 : Int32)) → (vp_in x4 12 ∧ (∀ z10, z10 = (if x3 < ((X7.1 35 (x4).toNatClampNeg) * z8) then ((X7.1 35 (x4).toNatClampNeg) * z8) else x3) → wp_X8_allDone_7 Q n_ X7 x1 (x2 + ((X7.1 35 (x4).toNatClampNeg) * z8)) z10 (x4 + (1 : Int32))))))))))
set_option maxHeartbeats 4000000 in
set_option maxRecDepth 100000 in
theorem tw_X8_allDone_7 {p : Program} {l : Launch} {e : Env} {s : State} {m : MethodId} {args : Array Value} {below : List Frame} {meth : Method} {c : Code} {E : db_E} (S : CallFix p m c cX8_allDone 7 s args wsX8_allDone RX8) (hr : meth.sig.returnType = (some .int)) (hlocks : meth.locks = false)  {Q : Int32 → db_St → Prop} : ∀ (n : Nat) (X : db_St) (x1 : Int32) (x2 : Int32) (x3 : Int32) (x4 : Int32) (H : Heap) (locs : List Loc) (ls : Array Slot), wp_X8_allDone_7 Q n X x1 x2 x3 x4 → db_HW E (db_Aw E s.heap.size) s X H locs → lv_has ls 7 [(0, .ref (db_ad E 7)), (1, .int x1), (2, .int x2), (3, .int x3), (4, .int x4)] → W p l e rm_X8_allDone s m args below meth c H locs 0 0 (MQ below (va_Qi Q (db_Po E) (db_Aw E s.heap.size)) args s 0 0 (db_Aw E s.heap.size)) (F0 m 7 ls []) := by
  have hx := S.1
  have hb := S.2.1
  have hiX0 : ∀ w ∈ wsX00, w ∈ wsX8_allDone := fun w_ h_ => List.mem_cons_of_mem _ (List.mem_append_right _ h_)
  have hiX8 : ∀ w ∈ wsX80, w ∈ wsX8_allDone := fun w_ h_ => List.mem_cons_of_mem _ (List.mem_append_left _ (List.mem_append_right _ h_))
  intro n
  induction n with
  | zero =>
    intro X x1 x2 x3 x4 H locs ls h hw hl
    exact False.elim h
  | succ n_ ih =>
    intro X x1 x2 x3 x4 H locs ls h hw hl
    unfold wp_X8_allDone_7 at h
    refine lv_iload hx hb dX8_allDone_7 (lv_at hl 4 rfl) ?_
    refine lv_aload_n hx hb dX8_allDone_9 rfl (lv_at hl 0 rfl) ?_
    refine db_geti S hw (Nat.le_of_ble_eq_true rfl) db_s7 (C := RX8) (T := TX8) (N := 5) rfl hiX8 4 (by decide) rfl (List.mem_of_getElem? (i := 1) rfl) dX8_allDone_10 ?_
    refine lv_icmp_ge (tgt := 71) hx hb dX8_allDone_13 (by decide) (fun c11 => ?_) (fun c11 => ?_)
    · have h := h.1 c11
      refine lv_aload_n hx hb dX8_allDone_71 rfl (lv_at hl 0 rfl) ?_
      refine db_getr S hw (Nat.le_of_ble_eq_true rfl) db_s7 (C := RX8) (T := TX8) (N := 5) rfl hiX8 0 (by decide) (r := 8) rfl (List.mem_of_getElem? (i := 9) rfl) dX8_allDone_72 ?_
      refine lv_iload_n hx hb dX8_allDone_75 rfl (lv_at hl 1 rfl) ?_
      obtain ⟨g1, h⟩ := h
      have hB2 : db_kBook (8 + 1 + 4 * (x1).toNatClampNeg) := db_bk_of db_k7 g1
      refine db_aald S hw (Nat.le_of_ble_eq_true rfl) db_s8 g1 dX8_allDone_76 ?_
      refine db_getiN S hw (db_kBook_l0 hB2) (db_kBook_s0 hB2) (C := RX0) (T := TX0) (N := 6) rfl hiX0 5 (by decide) rfl (List.mem_of_getElem? (i := 13) rfl) dX8_allDone_77 ?_
      by_cases c3 : (X.1 (8 + 1 + 4 * (x1).toNatClampNeg) 5) = (1 : Int32)
      · have h := h.1 c3
        refine lv_lookup (off := 28) (tgt := 108) hx hb dX8_allDone_80 (by decide) (by rw [c3]; decide) (by decide) ?_
        refine lv_iload_n hx hb dX8_allDone_108 rfl (lv_at hl 3 rfl) ?_
        exact db_iret S hr hlocks hw h dX8_allDone_109
      · have h := h.2 c3
        by_cases c4 : (X.1 (8 + 1 + 4 * (x1).toNatClampNeg) 5) = (2 : Int32)
        · have h := h.1 c4
          refine lv_lookup (off := 30) (tgt := 110) hx hb dX8_allDone_80 (by decide) (by rw [c4]; decide) (by decide) ?_
          refine lv_iload_n hx hb dX8_allDone_110 rfl (lv_at hl 3 rfl) ?_
          refine lv_iload_n hx hb dX8_allDone_111 rfl (lv_at hl 2 rfl) ?_
          refine lv_iload_n hx hb dX8_allDone_112 rfl (lv_at hl 3 rfl) ?_
          refine lv_isub hx hb dX8_allDone_113 ?_
          refine lv_iconst (v := (2 : Int32)) hx hb dX8_allDone_114 (by decide) ?_
          refine lv_idiv hx hb dX8_allDone_115 (by decide) ?_
          refine lv_iadd hx hb dX8_allDone_116 ?_
          exact db_iret S hr hlocks hw h dX8_allDone_117
        · have h := h.2 c4
          refine lv_lookup (off := 38) (tgt := 118) hx hb dX8_allDone_80 (by decide) (by show Op.lookupswitch.offset [(1, 28), (2, 30)] 38 _ = _; rw [lv_osw (a := 1) c3 (by decide), lv_osw (a := 2) c4 (by decide)]; rfl) (by decide) ?_
          refine lv_iload_n hx hb dX8_allDone_118 rfl (lv_at hl 2 rfl) ?_
          exact db_iret S hr hlocks hw h dX8_allDone_119
    · have h := h.2 c11
      refine lv_iconst (v := (0 : Int32)) hx hb dX8_allDone_16 (by decide) ?_
      refine lv_aload_n hx hb dX8_allDone_17 rfl (lv_at hl 0 rfl) ?_
      refine lv_iload_n hx hb dX8_allDone_18 rfl (lv_at hl 1 rfl) ?_
      refine lv_aload_n hx hb dX8_allDone_19 rfl (lv_at hl 0 rfl) ?_
      refine db_getr S hw (Nat.le_of_ble_eq_true rfl) db_s7 (C := RX8) (T := TX8) (N := 5) rfl hiX8 1 (by decide) (r := 33) rfl (List.mem_of_getElem? (i := 2) rfl) dX8_allDone_20 ?_
      refine lv_iload hx hb dX8_allDone_23 (lv_at hl 4 rfl) ?_
      obtain ⟨g5, h⟩ := h
      refine db_iald S hw (Nat.le_of_ble_eq_true rfl) db_s33 g5 dX8_allDone_25 ?_
      refine lv_aload_n hx hb dX8_allDone_26 rfl (lv_at hl 0 rfl) ?_
      refine db_getr S hw (Nat.le_of_ble_eq_true rfl) db_s7 (C := RX8) (T := TX8) (N := 5) rfl hiX8 2 (by decide) (r := 34) rfl (List.mem_of_getElem? (i := 3) rfl) dX8_allDone_27 ?_
      refine lv_iload hx hb dX8_allDone_30 (lv_at hl 4 rfl) ?_
      obtain ⟨g6, h⟩ := h
      refine db_iald S hw (Nat.le_of_ble_eq_true rfl) db_s34 g6 dX8_allDone_32 ?_
      refine db_callVi S hw (Nat.le_of_ble_eq_true rfl) db_s7 (C := RX8) (T := TX8) (N := 5) (As := [.int x1, .int (X.1 33 (x4).toNatClampNeg), .int (X.1 34 (x4).toNatClampNeg)]) rfl (ct_X8_daysFor  h) gX8_allDone_X8_daysFor rfl ⟨rfl, rfl, Nat.le_of_ble_eq_true rfl, Nat.le_of_ble_eq_true rfl⟩ 3 rfl (by decide +kernel) hl.1 rfl (Nat.le_of_ble_eq_true rfl) dX8_allDone_33 ⟨Nat.zero_le _, Nat.zero_le _⟩ (fun r7 X7 H locs h hw => ?_)
      refine db_max S hl.1 (List.mem_of_getElem? (i := 4) rfl) (List.mem_of_getElem? (i := 5) rfl) (List.mem_of_getElem? (i := 6) rfl) (List.mem_of_getElem? (i := 7) rfl) ⟨Nat.le_of_ble_eq_true rfl, Nat.le_of_ble_eq_true rfl⟩ ⟨Nat.zero_le _, Nat.zero_le _⟩ dX8_allDone_36 ?_
      refine lv_topi (fun z8 e8 => ?_)
      have h := h z8 e8
      refine lv_istore (lv' := [(5, .int z8), (0, .ref (db_ad E 7)), (1, .int x1), (2, .int x2), (3, .int x3), (4, .int x4)]) hx hb dX8_allDone_39 hl (by decide) rfl (fun ls hl => ?_)
      refine lv_aload_n hx hb dX8_allDone_41 rfl (lv_at hl 1 rfl) ?_
      refine db_getr S hw (Nat.le_of_ble_eq_true rfl) db_s7 (C := RX8) (T := TX8) (N := 5) rfl hiX8 3 (by decide) (r := 35) rfl (List.mem_of_getElem? (i := 8) rfl) dX8_allDone_42 ?_
      refine lv_iload hx hb dX8_allDone_45 (lv_at hl 5 rfl) ?_
      obtain ⟨g9, h⟩ := h
      refine db_iald S hw (Nat.le_of_ble_eq_true rfl) db_s35 g9 dX8_allDone_47 ?_
      refine lv_iload hx hb dX8_allDone_48 (lv_at hl 0 rfl) ?_
      refine lv_imul hx hb dX8_allDone_50 ?_
      refine lv_istore (lv' := [(6, .int ((X7.1 35 (x4).toNatClampNeg) * z8)), (5, .int z8), (0, .ref (db_ad E 7)), (1, .int x1), (2, .int x2), (3, .int x3), (4, .int x4)]) hx hb dX8_allDone_51 hl (by decide) rfl (fun ls hl => ?_)
      refine lv_iload_n hx hb dX8_allDone_53 rfl (lv_at hl 4 rfl) ?_
      refine lv_iload hx hb dX8_allDone_54 (lv_at hl 0 rfl) ?_
      refine lv_iadd hx hb dX8_allDone_56 ?_
      refine lv_istore_n (lv' := [(2, .int (x2 + ((X7.1 35 (x4).toNatClampNeg) * z8))), (6, .int ((X7.1 35 (x4).toNatClampNeg) * z8)), (5, .int z8), (0, .ref (db_ad E 7)), (1, .int x1), (3, .int x3), (4, .int x4)]) hx hb dX8_allDone_57 rfl hl (by decide) rfl (fun ls hl => ?_)
      refine lv_iload_n hx hb dX8_allDone_58 rfl (lv_at hl 5 rfl) ?_
      refine lv_iload hx hb dX8_allDone_59 (lv_at hl 1 rfl) ?_
      refine db_max S hl.1 (List.mem_of_getElem? (i := 4) rfl) (List.mem_of_getElem? (i := 5) rfl) (List.mem_of_getElem? (i := 6) rfl) (List.mem_of_getElem? (i := 7) rfl) ⟨Nat.le_of_ble_eq_true rfl, Nat.le_of_ble_eq_true rfl⟩ ⟨Nat.zero_le _, Nat.zero_le _⟩ dX8_allDone_61 ?_
      refine lv_topi (fun z10 e10 => ?_)
      have h := h z10 e10
      refine lv_istore_n (lv' := [(3, .int z10), (2, .int (x2 + ((X7.1 35 (x4).toNatClampNeg) * z8))), (6, .int ((X7.1 35 (x4).toNatClampNeg) * z8)), (5, .int z8), (0, .ref (db_ad E 7)), (1, .int x1), (4, .int x4)]) hx hb dX8_allDone_64 rfl hl (by decide) rfl (fun ls hl => ?_)
      refine lv_iinc (v := (x4 + (1 : Int32))) (lv' := [(4, .int (x4 + (1 : Int32))), (3, .int z10), (2, .int (x2 + ((X7.1 35 (x4).toNatClampNeg) * z8))), (6, .int ((X7.1 35 (x4).toNatClampNeg) * z8)), (5, .int z8), (0, .ref (db_ad E 7)), (1, .int x1)]) hx hb dX8_allDone_65 hl (k := 6) rfl (congrArg (fun z_ => x4 + z_) (show Int32.ofInt (1) = (1 : Int32) by decide)) (by decide) rfl (fun ls hl => ?_)
      refine lv_goto (tgt := 7) hx hb dX8_allDone_68 (by decide) ?_
      exact ih _ _ _ _ _ _ _ _ h hw (lv_sub hl [5, 6, 2, 1, 0] rfl)
def wp_X8_allDone  (X : db_St) (x1 : Int32) (Q : Int32 → db_St → Prop) : Prop := (∃ f_, wp_X8_allDone_7 Q f_ X x1 (0 : Int32) (0 : Int32) (0 : Int32))
set_option maxHeartbeats 4000000 in
set_option maxRecDepth 100000 in
theorem ct_X8_allDone {l : Launch} {E : db_E}  {X : db_St} {x1 : Int32} {Q : Int32 → db_St → Prop} (h : wp_X8_allDone  X x1 Q) : db_MI l E yX8_allDone wsX8_allDone rm_X8_allDone X [.ref (db_ad E 7), .int x1] Q := by
  intro sz
  unfold wp_X8_allDone at h
  refine Met.ofW (cc := cX8_allDone) (maxL := 7) (ret := (some .int)) (by decide) rfl ?_
  intro p e s m args below meth c s₁ B hml hv
  obtain ⟨rfl, hsz, hU⟩ := hv
  subst hsz
  have S : CallFix p m c cX8_allDone 7 s ([.ref (db_ad E 7), .int x1] : List Value).toArray wsX8_allDone RX8 := ⟨B.exec, B.bytes, hml, findClass_of_methodNamed B.named, atoms_spec (ws := wsX8_allDone) B.pre⟩
  have hx := S.1
  have hb := S.2.1
  have hr := B.returns
  have hlocks := B.notSynchronized
  have hw := db_start hU
  have hiX0 : ∀ w ∈ wsX00, w ∈ wsX8_allDone := fun w_ h_ => List.mem_cons_of_mem _ (List.mem_append_right _ h_)
  have hiX8 : ∀ w ∈ wsX80, w ∈ wsX8_allDone := fun w_ h_ => List.mem_cons_of_mem _ (List.mem_append_left _ (List.mem_append_right _ h_))
  have hl := lv_entry ([.ref (db_ad E 7), .int x1]) (n := 7) (Nat.le_of_ble_eq_true rfl)
  rw [lg_entry_eq]
  generalize (lg_sl ([.ref (db_ad E 7), .int x1]) ++ List.replicate (7 - (lg_sl ([.ref (db_ad E 7), .int x1])).length) Slot.unset).toArray = ls at hl ⊢
  have hl : lv_has ls 7 [(0, .ref (db_ad E 7)), (1, .int x1)] := hl
  refine lv_iconst (v := (0 : Int32)) hx hb dX8_allDone_0 (by decide) ?_
  refine lv_istore_n (lv' := [(2, .int (0 : Int32)), (0, .ref (db_ad E 7)), (1, .int x1)]) hx hb dX8_allDone_1 rfl hl (by decide) rfl (fun ls hl => ?_)
  refine lv_iconst (v := (0 : Int32)) hx hb dX8_allDone_2 (by decide) ?_
  refine lv_istore_n (lv' := [(3, .int (0 : Int32)), (2, .int (0 : Int32)), (0, .ref (db_ad E 7)), (1, .int x1)]) hx hb dX8_allDone_3 rfl hl (by decide) rfl (fun ls hl => ?_)
  refine lv_iconst (v := (0 : Int32)) hx hb dX8_allDone_4 (by decide) ?_
  refine lv_istore (lv' := [(4, .int (0 : Int32)), (3, .int (0 : Int32)), (2, .int (0 : Int32)), (0, .ref (db_ad E 7)), (1, .int x1)]) hx hb dX8_allDone_5 hl (by decide) rfl (fun ls hl => ?_)
  obtain ⟨f_, h⟩ := h
  exact tw_X8_allDone_7 S hr hlocks   f_ _ _ _ _ _ _ _ _ h hw (lv_sub hl [3, 4, 2, 1, 0] rfl)
-- DaysOnBread$Shelf.extreme(Z)I
abbrev rm_X8_extreme : Room := { frames := 4, cells := 0, slots := 0, locals := 99 }
def wp_X8_extreme_11 (Q : Int32 → db_St → Prop) : Nat → db_St → Int32 → Int32 → Int32 → Int32 → Prop
  | 0, _, _, _, _, _ => False
  | n_ + 1, X, x1, x2, x3, x4 => (((6 : Int32) ≤ x4 → Q x2 X) ∧ (¬ ((6 : Int32) ≤ x4) → wp_X8_allDone X x4 (fun r1 X1 => ((x1 = 0 → ((x3 ≤ r1 → wp_X8_extreme_11 Q n_ X1 x1 x2 x3 (x4 + (1 : Int32))) ∧ (¬ (x3 ≤ r1) → wp_X8_extreme_11 Q n_ X1 x1 x4 r1 (x4 + (1 : Int32))))) ∧ (¬ (x1 = 0) → ((r1 ≤ x3 → wp_X8_extreme_11 Q n_ X1 x1 x2 x3 (x4 + (1 : Int32))) ∧ (¬ (r1 ≤ x3) → wp_X8_extreme_11 Q n_ X1 x1 x4 r1 (x4 + (1 : Int32)))))))))
set_option maxHeartbeats 4000000 in
set_option maxRecDepth 100000 in
theorem tw_X8_extreme_11 {p : Program} {l : Launch} {e : Env} {s : State} {m : MethodId} {args : Array Value} {below : List Frame} {meth : Method} {c : Code} {E : db_E} (S : CallFix p m c cX8_extreme 6 s args wsX8_extreme RX8) (hr : meth.sig.returnType = (some .int)) (hlocks : meth.locks = false)  {Q : Int32 → db_St → Prop} : ∀ (n : Nat) (X : db_St) (x1 : Int32) (x2 : Int32) (x3 : Int32) (x4 : Int32) (H : Heap) (locs : List Loc) (ls : Array Slot), wp_X8_extreme_11 Q n X x1 x2 x3 x4 → db_HW E (db_Aw E s.heap.size) s X H locs → lv_has ls 6 [(0, .ref (db_ad E 7)), (1, .int x1), (2, .int x2), (3, .int x3), (4, .int x4)] → W p l e rm_X8_extreme s m args below meth c H locs 0 0 (MQ below (va_Qi Q (db_Po E) (db_Aw E s.heap.size)) args s 0 0 (db_Aw E s.heap.size)) (F0 m 11 ls []) := by
  have hx := S.1
  have hb := S.2.1
  intro n
  induction n with
  | zero =>
    intro X x1 x2 x3 x4 H locs ls h hw hl
    exact False.elim h
  | succ n_ ih =>
    intro X x1 x2 x3 x4 H locs ls h hw hl
    unfold wp_X8_extreme_11 at h
    refine lv_iload hx hb dX8_extreme_11 (lv_at hl 4 rfl) ?_
    refine lv_bipush (v := (6 : Int32)) hx hb dX8_extreme_13 (by decide) ?_
    refine lv_icmp_ge (tgt := 57) hx hb dX8_extreme_15 (by decide) (fun c5 => ?_) (fun c5 => ?_)
    · have h := h.1 c5
      refine lv_iload_n hx hb dX8_extreme_57 rfl (lv_at hl 2 rfl) ?_
      exact db_iret S hr hlocks hw h dX8_extreme_58
    · have h := h.2 c5
      refine lv_aload_n hx hb dX8_extreme_18 rfl (lv_at hl 0 rfl) ?_
      refine lv_iload hx hb dX8_extreme_19 (lv_at hl 4 rfl) ?_
      refine db_callVi S hw (Nat.le_of_ble_eq_true rfl) db_s7 (C := RX8) (T := TX8) (N := 5) (As := [.int x4]) rfl (ct_X8_allDone  h) gX8_extreme_X8_allDone rfl ⟨rfl, rfl, Nat.le_of_ble_eq_true rfl, Nat.le_of_ble_eq_true rfl⟩ 1 rfl (by decide +kernel) hl.1 rfl (Nat.le_of_ble_eq_true rfl) dX8_extreme_21 ⟨Nat.zero_le _, Nat.zero_le _⟩ (fun r1 X1 H locs h hw => ?_)
      refine lv_istore (lv' := [(5, .int r1), (0, .ref (db_ad E 7)), (1, .int x1), (2, .int x2), (3, .int x3), (4, .int x4)]) hx hb dX8_extreme_24 hl (by decide) rfl (fun ls hl => ?_)
      refine lv_iload_n hx hb dX8_extreme_26 rfl (lv_at hl 2 rfl) ?_
      refine lv_if_eq (tgt := 39) hx hb dX8_extreme_27 (by decide) (fun c4 => ?_) (fun c4 => ?_)
      · have h := h.1 c4
        refine lv_iload hx hb dX8_extreme_39 (lv_at hl 0 rfl) ?_
        refine lv_iload_n hx hb dX8_extreme_41 rfl (lv_at hl 4 rfl) ?_
        refine lv_icmp_ge (tgt := 51) hx hb dX8_extreme_42 (by decide) (fun c2 => ?_) (fun c2 => ?_)
        · have h := h.1 c2
          refine lv_iinc (v := (x4 + (1 : Int32))) (lv' := [(4, .int (x4 + (1 : Int32))), (5, .int r1), (0, .ref (db_ad E 7)), (1, .int x1), (2, .int x2), (3, .int x3)]) hx hb dX8_extreme_51 hl (k := 5) rfl (congrArg (fun z_ => x4 + z_) (show Int32.ofInt (1) = (1 : Int32) by decide)) (by decide) rfl (fun ls hl => ?_)
          refine lv_goto (tgt := 11) hx hb dX8_extreme_54 (by decide) ?_
          exact ih _ _ _ _ _ _ _ _ h hw (lv_sub hl [2, 3, 4, 5, 0] rfl)
        · have h := h.2 c2
          refine lv_iload hx hb dX8_extreme_45 (lv_at hl 5 rfl) ?_
          refine lv_istore_n (lv' := [(2, .int x4), (5, .int r1), (0, .ref (db_ad E 7)), (1, .int x1), (3, .int x3), (4, .int x4)]) hx hb dX8_extreme_47 rfl hl (by decide) rfl (fun ls hl => ?_)
          refine lv_iload hx hb dX8_extreme_48 (lv_at hl 1 rfl) ?_
          refine lv_istore_n (lv' := [(3, .int r1), (2, .int x4), (5, .int r1), (0, .ref (db_ad E 7)), (1, .int x1), (4, .int x4)]) hx hb dX8_extreme_50 rfl hl (by decide) rfl (fun ls hl => ?_)
          refine lv_iinc (v := (x4 + (1 : Int32))) (lv' := [(4, .int (x4 + (1 : Int32))), (3, .int r1), (2, .int x4), (5, .int r1), (0, .ref (db_ad E 7)), (1, .int x1)]) hx hb dX8_extreme_51 hl (k := 5) rfl (congrArg (fun z_ => x4 + z_) (show Int32.ofInt (1) = (1 : Int32) by decide)) (by decide) rfl (fun ls hl => ?_)
          refine lv_goto (tgt := 11) hx hb dX8_extreme_54 (by decide) ?_
          exact ih _ _ _ _ _ _ _ _ h hw (lv_sub hl [4, 5, 2, 1, 0] rfl)
      · have h := h.2 c4
        refine lv_iload hx hb dX8_extreme_30 (lv_at hl 0 rfl) ?_
        refine lv_iload_n hx hb dX8_extreme_32 rfl (lv_at hl 4 rfl) ?_
        refine lv_icmp_le (tgt := 51) hx hb dX8_extreme_33 (by decide) (fun c3 => ?_) (fun c3 => ?_)
        · have h := h.1 c3
          refine lv_iinc (v := (x4 + (1 : Int32))) (lv' := [(4, .int (x4 + (1 : Int32))), (5, .int r1), (0, .ref (db_ad E 7)), (1, .int x1), (2, .int x2), (3, .int x3)]) hx hb dX8_extreme_51 hl (k := 5) rfl (congrArg (fun z_ => x4 + z_) (show Int32.ofInt (1) = (1 : Int32) by decide)) (by decide) rfl (fun ls hl => ?_)
          refine lv_goto (tgt := 11) hx hb dX8_extreme_54 (by decide) ?_
          exact ih _ _ _ _ _ _ _ _ h hw (lv_sub hl [2, 3, 4, 5, 0] rfl)
        · have h := h.2 c3
          refine lv_goto (tgt := 45) hx hb dX8_extreme_36 (by decide) ?_
          refine lv_iload hx hb dX8_extreme_45 (lv_at hl 5 rfl) ?_
          refine lv_istore_n (lv' := [(2, .int x4), (5, .int r1), (0, .ref (db_ad E 7)), (1, .int x1), (3, .int x3), (4, .int x4)]) hx hb dX8_extreme_47 rfl hl (by decide) rfl (fun ls hl => ?_)
          refine lv_iload hx hb dX8_extreme_48 (lv_at hl 1 rfl) ?_
          refine lv_istore_n (lv' := [(3, .int r1), (2, .int x4), (5, .int r1), (0, .ref (db_ad E 7)), (1, .int x1), (4, .int x4)]) hx hb dX8_extreme_50 rfl hl (by decide) rfl (fun ls hl => ?_)
          refine lv_iinc (v := (x4 + (1 : Int32))) (lv' := [(4, .int (x4 + (1 : Int32))), (3, .int r1), (2, .int x4), (5, .int r1), (0, .ref (db_ad E 7)), (1, .int x1)]) hx hb dX8_extreme_51 hl (k := 5) rfl (congrArg (fun z_ => x4 + z_) (show Int32.ofInt (1) = (1 : Int32) by decide)) (by decide) rfl (fun ls hl => ?_)
          refine lv_goto (tgt := 11) hx hb dX8_extreme_54 (by decide) ?_
          exact ih _ _ _ _ _ _ _ _ h hw (lv_sub hl [4, 5, 2, 1, 0] rfl)
def wp_X8_extreme  (X : db_St) (x1 : Int32) (Q : Int32 → db_St → Prop) : Prop := wp_X8_allDone X (0 : Int32) (fun r1 X1 => (∃ f_, wp_X8_extreme_11 Q f_ X1 x1 (0 : Int32) r1 (1 : Int32)))
set_option maxHeartbeats 4000000 in
set_option maxRecDepth 100000 in
theorem ct_X8_extreme {l : Launch} {E : db_E}  {X : db_St} {x1 : Int32} {Q : Int32 → db_St → Prop} (h : wp_X8_extreme  X x1 Q) : db_MI l E yX8_extreme wsX8_extreme rm_X8_extreme X [.ref (db_ad E 7), .int x1] Q := by
  intro sz
  unfold wp_X8_extreme at h
  refine Met.ofW (cc := cX8_extreme) (maxL := 6) (ret := (some .int)) (by decide) rfl ?_
  intro p e s m args below meth c s₁ B hml hv
  obtain ⟨rfl, hsz, hU⟩ := hv
  subst hsz
  have S : CallFix p m c cX8_extreme 6 s ([.ref (db_ad E 7), .int x1] : List Value).toArray wsX8_extreme RX8 := ⟨B.exec, B.bytes, hml, findClass_of_methodNamed B.named, atoms_spec (ws := wsX8_extreme) B.pre⟩
  have hx := S.1
  have hb := S.2.1
  have hr := B.returns
  have hlocks := B.notSynchronized
  have hw := db_start hU
  have hl := lv_entry ([.ref (db_ad E 7), .int x1]) (n := 6) (Nat.le_of_ble_eq_true rfl)
  rw [lg_entry_eq]
  generalize (lg_sl ([.ref (db_ad E 7), .int x1]) ++ List.replicate (6 - (lg_sl ([.ref (db_ad E 7), .int x1])).length) Slot.unset).toArray = ls at hl ⊢
  have hl : lv_has ls 6 [(0, .ref (db_ad E 7)), (1, .int x1)] := hl
  refine lv_iconst (v := (0 : Int32)) hx hb dX8_extreme_0 (by decide) ?_
  refine lv_istore_n (lv' := [(2, .int (0 : Int32)), (0, .ref (db_ad E 7)), (1, .int x1)]) hx hb dX8_extreme_1 rfl hl (by decide) rfl (fun ls hl => ?_)
  refine lv_aload_n hx hb dX8_extreme_2 rfl (lv_at hl 1 rfl) ?_
  refine lv_iconst (v := (0 : Int32)) hx hb dX8_extreme_3 (by decide) ?_
  refine db_callVi S hw (Nat.le_of_ble_eq_true rfl) db_s7 (C := RX8) (T := TX8) (N := 5) (As := [.int (0 : Int32)]) rfl (ct_X8_allDone  h) gX8_extreme_X8_allDone rfl ⟨rfl, rfl, Nat.le_of_ble_eq_true rfl, Nat.le_of_ble_eq_true rfl⟩ 1 rfl (by decide +kernel) hl.1 rfl (Nat.le_of_ble_eq_true rfl) dX8_extreme_4 ⟨Nat.zero_le _, Nat.zero_le _⟩ (fun r1 X1 H locs h hw => ?_)
  refine lv_istore_n (lv' := [(3, .int r1), (2, .int (0 : Int32)), (0, .ref (db_ad E 7)), (1, .int x1)]) hx hb dX8_extreme_7 rfl hl (by decide) rfl (fun ls hl => ?_)
  refine lv_iconst (v := (1 : Int32)) hx hb dX8_extreme_8 (by decide) ?_
  refine lv_istore (lv' := [(4, .int (1 : Int32)), (3, .int r1), (2, .int (0 : Int32)), (0, .ref (db_ad E 7)), (1, .int x1)]) hx hb dX8_extreme_9 hl (by decide) rfl (fun ls hl => ?_)
  obtain ⟨f_, h⟩ := h
  exact tw_X8_extreme_11 S hr hlocks   f_ _ _ _ _ _ _ _ _ h hw (lv_sub hl [3, 4, 2, 1, 0] rfl)
-- DaysOnBread$Shelf.firstUnlike(II)I
abbrev rm_X8_firstUnlike : Room := { frames := 3, cells := 0, slots := 0, locals := 73 }
def wp_X8_firstUnlike_2 (Q : Int32 → db_St → Prop) : Nat → db_St → Int32 → Int32 → Int32 → Prop
  | 0, _, _, _, _ => False
  | n_ + 1, X, x1, x2, x3 => (((128 : Int32) ≤ x3 → Q (-9 : Int32) X) ∧ (¬ ((128 : Int32) ≤ x3) → wp_X8_daysFor X x1 (x3 / (16 : Int32)) (x3 - x3 / (16 : Int32) * (16 : Int32)) (fun r1 X1 => wp_X8_daysFor X1 x2 (x3 / (16 : Int32)) (x3 - x3 / (16 : Int32) * (16 : Int32)) (fun r2 X2 => ((r1 = r2 → wp_X8_firstUnlike_2 Q n_ X2 x1 x2 (x3 + (1 : Int32))) ∧ (¬ (r1 = r2) → Q x3 X2))))))
set_option maxHeartbeats 4000000 in
set_option maxRecDepth 100000 in
theorem tw_X8_firstUnlike_2 {p : Program} {l : Launch} {e : Env} {s : State} {m : MethodId} {args : Array Value} {below : List Frame} {meth : Method} {c : Code} {E : db_E} (S : CallFix p m c cX8_firstUnlike 6 s args wsX8_firstUnlike RX8) (hr : meth.sig.returnType = (some .int)) (hlocks : meth.locks = false)  {Q : Int32 → db_St → Prop} : ∀ (n : Nat) (X : db_St) (x1 : Int32) (x2 : Int32) (x3 : Int32) (H : Heap) (locs : List Loc) (ls : Array Slot), wp_X8_firstUnlike_2 Q n X x1 x2 x3 → db_HW E (db_Aw E s.heap.size) s X H locs → lv_has ls 6 [(0, .ref (db_ad E 7)), (1, .int x1), (2, .int x2), (3, .int x3)] → W p l e rm_X8_firstUnlike s m args below meth c H locs 0 0 (MQ below (va_Qi Q (db_Po E) (db_Aw E s.heap.size)) args s 0 0 (db_Aw E s.heap.size)) (F0 m 2 ls []) := by
  have hx := S.1
  have hb := S.2.1
  intro n
  induction n with
  | zero =>
    intro X x1 x2 x3 H locs ls h hw hl
    exact False.elim h
  | succ n_ ih =>
    intro X x1 x2 x3 H locs ls h hw hl
    unfold wp_X8_firstUnlike_2 at h
    refine lv_iload_n hx hb dX8_firstUnlike_2 rfl (lv_at hl 3 rfl) ?_
    refine lv_sipush (v := (128 : Int32)) hx hb dX8_firstUnlike_3 (by decide) ?_
    refine lv_icmp_ge (tgt := 50) hx hb dX8_firstUnlike_6 (by decide) (fun c4 => ?_) (fun c4 => ?_)
    · have h := h.1 c4
      refine lv_bipush (v := (-9 : Int32)) hx hb dX8_firstUnlike_50 (by decide) ?_
      exact db_iret S hr hlocks hw h dX8_firstUnlike_52
    · have h := h.2 c4
      refine lv_iload_n hx hb dX8_firstUnlike_9 rfl (lv_at hl 3 rfl) ?_
      refine lv_bipush (v := (16 : Int32)) hx hb dX8_firstUnlike_10 (by decide) ?_
      refine lv_idiv hx hb dX8_firstUnlike_12 (by decide) ?_
      refine lv_istore (lv' := [(4, .int (x3 / (16 : Int32))), (0, .ref (db_ad E 7)), (1, .int x1), (2, .int x2), (3, .int x3)]) hx hb dX8_firstUnlike_13 hl (by decide) rfl (fun ls hl => ?_)
      refine lv_iload_n hx hb dX8_firstUnlike_15 rfl (lv_at hl 4 rfl) ?_
      refine lv_bipush (v := (16 : Int32)) hx hb dX8_firstUnlike_16 (by decide) ?_
      refine lv_irem hx hb dX8_firstUnlike_18 (by decide) ?_
      refine lv_istore (lv' := [(5, .int (x3 - x3 / (16 : Int32) * (16 : Int32))), (4, .int (x3 / (16 : Int32))), (0, .ref (db_ad E 7)), (1, .int x1), (2, .int x2), (3, .int x3)]) hx hb dX8_firstUnlike_19 hl (by decide) rfl (fun ls hl => ?_)
      refine lv_aload_n hx hb dX8_firstUnlike_21 rfl (lv_at hl 2 rfl) ?_
      refine lv_iload_n hx hb dX8_firstUnlike_22 rfl (lv_at hl 3 rfl) ?_
      refine lv_iload hx hb dX8_firstUnlike_23 (lv_at hl 1 rfl) ?_
      refine lv_iload hx hb dX8_firstUnlike_25 (lv_at hl 0 rfl) ?_
      refine db_callVi S hw (Nat.le_of_ble_eq_true rfl) db_s7 (C := RX8) (T := TX8) (N := 5) (As := [.int x1, .int (x3 / (16 : Int32)), .int (x3 - x3 / (16 : Int32) * (16 : Int32))]) rfl (ct_X8_daysFor  h) gX8_firstUnlike_X8_daysFor rfl ⟨rfl, rfl, Nat.le_of_ble_eq_true rfl, Nat.le_of_ble_eq_true rfl⟩ 3 rfl (by decide +kernel) hl.1 rfl (Nat.le_of_ble_eq_true rfl) dX8_firstUnlike_27 ⟨Nat.zero_le _, Nat.zero_le _⟩ (fun r1 X1 H locs h hw => ?_)
      refine lv_aload_n hx hb dX8_firstUnlike_30 rfl (lv_at hl 2 rfl) ?_
      refine lv_iload_n hx hb dX8_firstUnlike_31 rfl (lv_at hl 4 rfl) ?_
      refine lv_iload hx hb dX8_firstUnlike_32 (lv_at hl 1 rfl) ?_
      refine lv_iload hx hb dX8_firstUnlike_34 (lv_at hl 0 rfl) ?_
      refine db_callVi S hw (Nat.le_of_ble_eq_true rfl) db_s7 (C := RX8) (T := TX8) (N := 5) (As := [.int x2, .int (x3 / (16 : Int32)), .int (x3 - x3 / (16 : Int32) * (16 : Int32))]) rfl (ct_X8_daysFor  h) gX8_firstUnlike_X8_daysFor rfl ⟨rfl, rfl, Nat.le_of_ble_eq_true rfl, Nat.le_of_ble_eq_true rfl⟩ 3 rfl (by decide +kernel) hl.1 rfl (Nat.le_of_ble_eq_true rfl) dX8_firstUnlike_36 ⟨Nat.zero_le _, Nat.zero_le _⟩ (fun r2 X2 H locs h hw => ?_)
      refine lv_icmp_eq (tgt := 44) hx hb dX8_firstUnlike_39 (by decide) (fun c3 => ?_) (fun c3 => ?_)
      · have h := h.1 c3
        refine lv_iinc (v := (x3 + (1 : Int32))) (lv' := [(3, .int (x3 + (1 : Int32))), (5, .int (x3 - x3 / (16 : Int32) * (16 : Int32))), (4, .int (x3 / (16 : Int32))), (0, .ref (db_ad E 7)), (1, .int x1), (2, .int x2)]) hx hb dX8_firstUnlike_44 hl (k := 5) rfl (congrArg (fun z_ => x3 + z_) (show Int32.ofInt (1) = (1 : Int32) by decide)) (by decide) rfl (fun ls hl => ?_)
        refine lv_goto (tgt := 2) hx hb dX8_firstUnlike_47 (by decide) ?_
        exact ih _ _ _ _ _ _ _ h hw (lv_sub hl [3, 4, 5, 0] rfl)
      · have h := h.2 c3
        refine lv_iload_n hx hb dX8_firstUnlike_42 rfl (lv_at hl 5 rfl) ?_
        exact db_iret S hr hlocks hw h dX8_firstUnlike_43
def wp_X8_firstUnlike  (X : db_St) (x1 : Int32) (x2 : Int32) (Q : Int32 → db_St → Prop) : Prop := (∃ f_, wp_X8_firstUnlike_2 Q f_ X x1 x2 (0 : Int32))
set_option maxHeartbeats 4000000 in
set_option maxRecDepth 100000 in
theorem ct_X8_firstUnlike {l : Launch} {E : db_E}  {X : db_St} {x1 : Int32} {x2 : Int32} {Q : Int32 → db_St → Prop} (h : wp_X8_firstUnlike  X x1 x2 Q) : db_MI l E yX8_firstUnlike wsX8_firstUnlike rm_X8_firstUnlike X [.ref (db_ad E 7), .int x1, .int x2] Q := by
  intro sz
  unfold wp_X8_firstUnlike at h
  refine Met.ofW (cc := cX8_firstUnlike) (maxL := 6) (ret := (some .int)) (by decide) rfl ?_
  intro p e s m args below meth c s₁ B hml hv
  obtain ⟨rfl, hsz, hU⟩ := hv
  subst hsz
  have S : CallFix p m c cX8_firstUnlike 6 s ([.ref (db_ad E 7), .int x1, .int x2] : List Value).toArray wsX8_firstUnlike RX8 := ⟨B.exec, B.bytes, hml, findClass_of_methodNamed B.named, atoms_spec (ws := wsX8_firstUnlike) B.pre⟩
  have hx := S.1
  have hb := S.2.1
  have hr := B.returns
  have hlocks := B.notSynchronized
  have hw := db_start hU
  have hl := lv_entry ([.ref (db_ad E 7), .int x1, .int x2]) (n := 6) (Nat.le_of_ble_eq_true rfl)
  rw [lg_entry_eq]
  generalize (lg_sl ([.ref (db_ad E 7), .int x1, .int x2]) ++ List.replicate (6 - (lg_sl ([.ref (db_ad E 7), .int x1, .int x2])).length) Slot.unset).toArray = ls at hl ⊢
  have hl : lv_has ls 6 [(0, .ref (db_ad E 7)), (1, .int x1), (2, .int x2)] := hl
  refine lv_iconst (v := (0 : Int32)) hx hb dX8_firstUnlike_0 (by decide) ?_
  refine lv_istore_n (lv' := [(3, .int (0 : Int32)), (0, .ref (db_ad E 7)), (1, .int x1), (2, .int x2)]) hx hb dX8_firstUnlike_1 rfl hl (by decide) rfl (fun ls hl => ?_)
  obtain ⟨f_, h⟩ := h
  exact tw_X8_firstUnlike_2 S hr hlocks   f_ _ _ _ _ _ _ _ h hw (lv_sub hl [1, 2, 3, 0] rfl)
-- DaysOnBread$Shelf.nearest(I)I
abbrev rm_X8_nearest : Room := { frames := 2, cells := 0, slots := 0, locals := 47 }
def wp_X8_nearest_8 (Q : Int32 → db_St → Prop) : Nat → db_St → Int32 → Int32 → Int32 → Int32 → Prop
  | 0, _, _, _, _, _ => False
  | n_ + 1, X, x1, x2, x3, x4 => (((6 : Int32) ≤ x4 → Q x2 X) ∧ (¬ ((6 : Int32) ≤ x4) → ((x4 = x1 → (((0 : Int32) ≤ x3 → wp_X8_nearest_8 Q n_ X x1 x2 x3 (x4 + (1 : Int32))) ∧ (¬ ((0 : Int32) ≤ x3) → wp_X8_nearest_8 Q n_ X x1 x4 (0 : Int32) (x4 + (1 : Int32))))) ∧ (¬ x4 = x1 → (vp_in x1 6 ∧ (vp_in x4 6 ∧ wp_X0_alikeIn (8 + 1 + 4 * (x1).toNatClampNeg) (8 + 1 + 4 * (x4).toNatClampNeg) X (fun r5 X5 => ((r5 ≤ x3 → wp_X8_nearest_8 Q n_ X5 x1 x2 x3 (x4 + (1 : Int32))) ∧ (¬ (r5 ≤ x3) → wp_X8_nearest_8 Q n_ X5 x1 x4 r5 (x4 + (1 : Int32)))))))))))
set_option maxHeartbeats 4000000 in
set_option maxRecDepth 100000 in
theorem tw_X8_nearest_8 {p : Program} {l : Launch} {e : Env} {s : State} {m : MethodId} {args : Array Value} {below : List Frame} {meth : Method} {c : Code} {E : db_E} (S : CallFix p m c cX8_nearest 6 s args wsX8_nearest RX8) (hr : meth.sig.returnType = (some .int)) (hlocks : meth.locks = false)  {Q : Int32 → db_St → Prop} : ∀ (n : Nat) (X : db_St) (x1 : Int32) (x2 : Int32) (x3 : Int32) (x4 : Int32) (H : Heap) (locs : List Loc) (ls : Array Slot), wp_X8_nearest_8 Q n X x1 x2 x3 x4 → db_HW E (db_Aw E s.heap.size) s X H locs → lv_has ls 6 [(0, .ref (db_ad E 7)), (1, .int x1), (2, .int x2), (3, .int x3), (4, .int x4)] → W p l e rm_X8_nearest s m args below meth c H locs 0 0 (MQ below (va_Qi Q (db_Po E) (db_Aw E s.heap.size)) args s 0 0 (db_Aw E s.heap.size)) (F0 m 8 ls []) := by
  have hx := S.1
  have hb := S.2.1
  have hiX8 : ∀ w ∈ wsX80, w ∈ wsX8_nearest := fun w_ h_ => List.mem_cons_of_mem _ (List.mem_append_left _ (List.mem_append_right _ h_))
  intro n
  induction n with
  | zero =>
    intro X x1 x2 x3 x4 H locs ls h hw hl
    exact False.elim h
  | succ n_ ih =>
    intro X x1 x2 x3 x4 H locs ls h hw hl
    unfold wp_X8_nearest_8 at h
    refine lv_iload hx hb dX8_nearest_8 (lv_at hl 4 rfl) ?_
    refine lv_bipush (v := (6 : Int32)) hx hb dX8_nearest_10 (by decide) ?_
    refine lv_icmp_ge (tgt := 61) hx hb dX8_nearest_12 (by decide) (fun c9 => ?_) (fun c9 => ?_)
    · have h := h.1 c9
      refine lv_iload_n hx hb dX8_nearest_61 rfl (lv_at hl 2 rfl) ?_
      exact db_iret S hr hlocks hw h dX8_nearest_62
    · have h := h.2 c9
      refine lv_iload hx hb dX8_nearest_15 (lv_at hl 4 rfl) ?_
      refine lv_iload_n hx hb dX8_nearest_17 rfl (lv_at hl 1 rfl) ?_
      refine lv_icmp_ne (tgt := 25) hx hb dX8_nearest_18 (by decide) (fun c8 => ?_) (fun c8 => ?_)
      · have h := h.2 c8
        refine lv_aload_n hx hb dX8_nearest_25 rfl (lv_at hl 0 rfl) ?_
        refine db_getr S hw (Nat.le_of_ble_eq_true rfl) db_s7 (C := RX8) (T := TX8) (N := 5) rfl hiX8 0 (by decide) (r := 8) rfl (List.mem_of_getElem? (i := 1) rfl) dX8_nearest_26 ?_
        refine lv_iload_n hx hb dX8_nearest_29 rfl (lv_at hl 1 rfl) ?_
        obtain ⟨g1, h⟩ := h
        have hB2 : db_kBook (8 + 1 + 4 * (x1).toNatClampNeg) := db_bk_of db_k7 g1
        refine db_aald S hw (Nat.le_of_ble_eq_true rfl) db_s8 g1 dX8_nearest_30 ?_
        refine lv_aload_n hx hb dX8_nearest_31 rfl (lv_at hl 0 rfl) ?_
        refine db_getr S hw (Nat.le_of_ble_eq_true rfl) db_s7 (C := RX8) (T := TX8) (N := 5) rfl hiX8 0 (by decide) (r := 8) rfl (List.mem_of_getElem? (i := 1) rfl) dX8_nearest_32 ?_
        refine lv_iload hx hb dX8_nearest_35 (lv_at hl 4 rfl) ?_
        obtain ⟨g3, h⟩ := h
        have hB4 : db_kBook (8 + 1 + 4 * (x4).toNatClampNeg) := db_bk_of db_k7 g3
        refine db_aald S hw (Nat.le_of_ble_eq_true rfl) db_s8 g3 dX8_nearest_37 ?_
        refine db_callVi S hw (db_kBook_l0 hB2) (db_kBook_s0 hB2) (C := RX0) (T := TX0) (N := 6) (As := [.ref (db_ad E (8 + 1 + 4 * (x4).toNatClampNeg))]) rfl (ct_X0_alikeIn hB2 hB4 h) gX8_nearest_X0_alikeIn rfl ⟨rfl, rfl, Nat.le_of_ble_eq_true rfl, Nat.le_of_ble_eq_true rfl⟩ 1 rfl (by decide +kernel) hl.1 rfl (Nat.le_of_ble_eq_true rfl) dX8_nearest_38 ⟨Nat.zero_le _, Nat.zero_le _⟩ (fun r5 X5 H locs h hw => ?_)
        refine lv_istore (lv' := [(5, .int r5), (0, .ref (db_ad E 7)), (1, .int x1), (2, .int x2), (3, .int x3), (4, .int x4)]) hx hb dX8_nearest_41 hl (by decide) rfl (fun ls hl => ?_)
        refine lv_iload hx hb dX8_nearest_43 (lv_at hl 0 rfl) ?_
        refine lv_iload_n hx hb dX8_nearest_45 rfl (lv_at hl 4 rfl) ?_
        refine lv_icmp_le (tgt := 55) hx hb dX8_nearest_46 (by decide) (fun c6 => ?_) (fun c6 => ?_)
        · have h := h.1 c6
          refine lv_iinc (v := (x4 + (1 : Int32))) (lv' := [(4, .int (x4 + (1 : Int32))), (5, .int r5), (0, .ref (db_ad E 7)), (1, .int x1), (2, .int x2), (3, .int x3)]) hx hb dX8_nearest_55 hl (k := 5) rfl (congrArg (fun z_ => x4 + z_) (show Int32.ofInt (1) = (1 : Int32) by decide)) (by decide) rfl (fun ls hl => ?_)
          refine lv_goto (tgt := 8) hx hb dX8_nearest_58 (by decide) ?_
          exact ih _ _ _ _ _ _ _ _ h hw (lv_sub hl [2, 3, 4, 5, 0] rfl)
        · have h := h.2 c6
          refine lv_iload hx hb dX8_nearest_49 (lv_at hl 5 rfl) ?_
          refine lv_istore_n (lv' := [(2, .int x4), (5, .int r5), (0, .ref (db_ad E 7)), (1, .int x1), (3, .int x3), (4, .int x4)]) hx hb dX8_nearest_51 rfl hl (by decide) rfl (fun ls hl => ?_)
          refine lv_iload hx hb dX8_nearest_52 (lv_at hl 1 rfl) ?_
          refine lv_istore_n (lv' := [(3, .int r5), (2, .int x4), (5, .int r5), (0, .ref (db_ad E 7)), (1, .int x1), (4, .int x4)]) hx hb dX8_nearest_54 rfl hl (by decide) rfl (fun ls hl => ?_)
          refine lv_iinc (v := (x4 + (1 : Int32))) (lv' := [(4, .int (x4 + (1 : Int32))), (3, .int r5), (2, .int x4), (5, .int r5), (0, .ref (db_ad E 7)), (1, .int x1)]) hx hb dX8_nearest_55 hl (k := 5) rfl (congrArg (fun z_ => x4 + z_) (show Int32.ofInt (1) = (1 : Int32) by decide)) (by decide) rfl (fun ls hl => ?_)
          refine lv_goto (tgt := 8) hx hb dX8_nearest_58 (by decide) ?_
          exact ih _ _ _ _ _ _ _ _ h hw (lv_sub hl [4, 5, 2, 1, 0] rfl)
      · have h := h.1 c8
        refine lv_iconst (v := (0 : Int32)) hx hb dX8_nearest_21 (by decide) ?_
        refine lv_goto (tgt := 41) hx hb dX8_nearest_22 (by decide) ?_
        refine lv_istore (lv' := [(5, .int (0 : Int32)), (0, .ref (db_ad E 7)), (1, .int x1), (2, .int x2), (3, .int x3), (4, .int x4)]) hx hb dX8_nearest_41 hl (by decide) rfl (fun ls hl => ?_)
        refine lv_iload hx hb dX8_nearest_43 (lv_at hl 0 rfl) ?_
        refine lv_iload_n hx hb dX8_nearest_45 rfl (lv_at hl 4 rfl) ?_
        refine lv_icmp_le (tgt := 55) hx hb dX8_nearest_46 (by decide) (fun c7 => ?_) (fun c7 => ?_)
        · have h := h.1 c7
          refine lv_iinc (v := (x4 + (1 : Int32))) (lv' := [(4, .int (x4 + (1 : Int32))), (5, .int (0 : Int32)), (0, .ref (db_ad E 7)), (1, .int x1), (2, .int x2), (3, .int x3)]) hx hb dX8_nearest_55 hl (k := 5) rfl (congrArg (fun z_ => x4 + z_) (show Int32.ofInt (1) = (1 : Int32) by decide)) (by decide) rfl (fun ls hl => ?_)
          refine lv_goto (tgt := 8) hx hb dX8_nearest_58 (by decide) ?_
          exact ih _ _ _ _ _ _ _ _ h hw (lv_sub hl [2, 3, 4, 5, 0] rfl)
        · have h := h.2 c7
          refine lv_iload hx hb dX8_nearest_49 (lv_at hl 5 rfl) ?_
          refine lv_istore_n (lv' := [(2, .int x4), (5, .int (0 : Int32)), (0, .ref (db_ad E 7)), (1, .int x1), (3, .int x3), (4, .int x4)]) hx hb dX8_nearest_51 rfl hl (by decide) rfl (fun ls hl => ?_)
          refine lv_iload hx hb dX8_nearest_52 (lv_at hl 1 rfl) ?_
          refine lv_istore_n (lv' := [(3, .int (0 : Int32)), (2, .int x4), (5, .int (0 : Int32)), (0, .ref (db_ad E 7)), (1, .int x1), (4, .int x4)]) hx hb dX8_nearest_54 rfl hl (by decide) rfl (fun ls hl => ?_)
          refine lv_iinc (v := (x4 + (1 : Int32))) (lv' := [(4, .int (x4 + (1 : Int32))), (3, .int (0 : Int32)), (2, .int x4), (5, .int (0 : Int32)), (0, .ref (db_ad E 7)), (1, .int x1)]) hx hb dX8_nearest_55 hl (k := 5) rfl (congrArg (fun z_ => x4 + z_) (show Int32.ofInt (1) = (1 : Int32) by decide)) (by decide) rfl (fun ls hl => ?_)
          refine lv_goto (tgt := 8) hx hb dX8_nearest_58 (by decide) ?_
          exact ih _ _ _ _ _ _ _ _ h hw (lv_sub hl [4, 5, 2, 1, 0] rfl)
def wp_X8_nearest  (X : db_St) (x1 : Int32) (Q : Int32 → db_St → Prop) : Prop := (∃ f_, wp_X8_nearest_8 Q f_ X x1 (-9 : Int32) (0 : Int32) (0 : Int32))
set_option maxHeartbeats 4000000 in
set_option maxRecDepth 100000 in
theorem ct_X8_nearest {l : Launch} {E : db_E}  {X : db_St} {x1 : Int32} {Q : Int32 → db_St → Prop} (h : wp_X8_nearest  X x1 Q) : db_MI l E yX8_nearest wsX8_nearest rm_X8_nearest X [.ref (db_ad E 7), .int x1] Q := by
  intro sz
  unfold wp_X8_nearest at h
  refine Met.ofW (cc := cX8_nearest) (maxL := 6) (ret := (some .int)) (by decide) rfl ?_
  intro p e s m args below meth c s₁ B hml hv
  obtain ⟨rfl, hsz, hU⟩ := hv
  subst hsz
  have S : CallFix p m c cX8_nearest 6 s ([.ref (db_ad E 7), .int x1] : List Value).toArray wsX8_nearest RX8 := ⟨B.exec, B.bytes, hml, findClass_of_methodNamed B.named, atoms_spec (ws := wsX8_nearest) B.pre⟩
  have hx := S.1
  have hb := S.2.1
  have hr := B.returns
  have hlocks := B.notSynchronized
  have hw := db_start hU
  have hiX8 : ∀ w ∈ wsX80, w ∈ wsX8_nearest := fun w_ h_ => List.mem_cons_of_mem _ (List.mem_append_left _ (List.mem_append_right _ h_))
  have hl := lv_entry ([.ref (db_ad E 7), .int x1]) (n := 6) (Nat.le_of_ble_eq_true rfl)
  rw [lg_entry_eq]
  generalize (lg_sl ([.ref (db_ad E 7), .int x1]) ++ List.replicate (6 - (lg_sl ([.ref (db_ad E 7), .int x1])).length) Slot.unset).toArray = ls at hl ⊢
  have hl : lv_has ls 6 [(0, .ref (db_ad E 7)), (1, .int x1)] := hl
  refine lv_bipush (v := (-9 : Int32)) hx hb dX8_nearest_0 (by decide) ?_
  refine lv_istore_n (lv' := [(2, .int (-9 : Int32)), (0, .ref (db_ad E 7)), (1, .int x1)]) hx hb dX8_nearest_2 rfl hl (by decide) rfl (fun ls hl => ?_)
  refine lv_iconst (v := (0 : Int32)) hx hb dX8_nearest_3 (by decide) ?_
  refine lv_istore_n (lv' := [(3, .int (0 : Int32)), (2, .int (-9 : Int32)), (0, .ref (db_ad E 7)), (1, .int x1)]) hx hb dX8_nearest_4 rfl hl (by decide) rfl (fun ls hl => ?_)
  refine lv_iconst (v := (0 : Int32)) hx hb dX8_nearest_5 (by decide) ?_
  refine lv_istore (lv' := [(4, .int (0 : Int32)), (3, .int (0 : Int32)), (2, .int (-9 : Int32)), (0, .ref (db_ad E 7)), (1, .int x1)]) hx hb dX8_nearest_6 hl (by decide) rfl (fun ls hl => ?_)
  obtain ⟨f_, h⟩ := h
  exact tw_X8_nearest_8 S hr hlocks   f_ _ _ _ _ _ _ _ _ h hw (lv_sub hl [3, 4, 2, 1, 0] rfl)
-- DaysOnBread$Shelf.copyFrom(LDaysOnBread$Shelf;)V
abbrev rm_X8_copyFrom : Room := { frames := 2, cells := 0, slots := 0, locals := 81 }
def wp_X8_copyFrom_2 (q : Nat) (o : Nat) (Q : db_St → Prop) : Nat → db_St → Int32 → Prop
  | 0, _, _ => False
  | n_ + 1, X, x2 => (((6 : Int32) ≤ x2 → (((¬ (0 : Int32) < 0 ∧ ¬ (0 : Int32) < 0 ∧ ¬ (12 : Int32) < 0) ∧ ((0 : Int32)).toNatClampNeg + ((12 : Int32)).toNatClampNeg ≤ 12 ∧ ((0 : Int32)).toNatClampNeg + ((12 : Int32)).toNatClampNeg ≤ 12) ∧ (∀ X2, X2 = (db_sa X (q + 26) (va_cpy (X.1 (o + 26)) (X.1 (q + 26)) ((0 : Int32)).toNatClampNeg ((0 : Int32)).toNatClampNeg ((12 : Int32)).toNatClampNeg)) → (((¬ (0 : Int32) < 0 ∧ ¬ (0 : Int32) < 0 ∧ ¬ (12 : Int32) < 0) ∧ ((0 : Int32)).toNatClampNeg + ((12 : Int32)).toNatClampNeg ≤ 12 ∧ ((0 : Int32)).toNatClampNeg + ((12 : Int32)).toNatClampNeg ≤ 12) ∧ (∀ X4, X4 = (db_sa X2 (q + 27) (va_cpy (X2.1 (o + 27)) (X2.1 (q + 27)) ((0 : Int32)).toNatClampNeg ((0 : Int32)).toNatClampNeg ((12 : Int32)).toNatClampNeg)) → (((¬ (0 : Int32) < 0 ∧ ¬ (0 : Int32) < 0 ∧ ¬ (12 : Int32) < 0) ∧ ((0 : Int32)).toNatClampNeg + ((12 : Int32)).toNatClampNeg ≤ 12 ∧ ((0 : Int32)).toNatClampNeg + ((12 : Int32)).toNatClampNeg ≤ 12) ∧ (∀ X6, X6 = (db_sa X4 (q + 28) (va_cpy (X4.1 (o + 28)) (X4.1 (q + 28)) ((0 : Int32)).toNatClampNeg ((0 : Int32)).toNatClampNeg ((12 : Int32)).toNatClampNeg)) → (∀ X7, X7 = (db_si X6 q 4 (X6.1 o 4)) → Q X7)))))))) ∧ (¬ ((6 : Int32) ≤ x2) → (vp_in x2 6 ∧ (vp_in x2 6 ∧ wp_X0_copyFrom ((q + 1) + 1 + 4 * (x2).toNatClampNeg) ((o + 1) + 1 + 4 * (x2).toNatClampNeg) X (fun X12 => wp_X8_copyFrom_2 q o Q n_ X12 (x2 + (1 : Int32)))))))
set_option maxHeartbeats 4000000 in
set_option maxRecDepth 100000 in
theorem tw_X8_copyFrom_2 {p : Program} {l : Launch} {e : Env} {s : State} {m : MethodId} {args : Array Value} {below : List Frame} {meth : Method} {c : Code} {E : db_E} (S : CallFix p m c cX8_copyFrom 3 s args wsX8_copyFrom RX8) (hr : meth.sig.returnType = none) (hlocks : meth.locks = false) {q : Nat} (hq : db_kShelf q) {o : Nat} (ho : db_kShelf o) {Q : db_St → Prop} : ∀ (n : Nat) (X : db_St) (x2 : Int32) (H : Heap) (locs : List Loc) (ls : Array Slot), wp_X8_copyFrom_2 q o Q n X x2 → db_HW E (db_Aw E s.heap.size) s X H locs → lv_has ls 3 [(0, .ref (db_ad E q)), (1, .ref (db_ad E o)), (2, .int x2)] → W p l e rm_X8_copyFrom s m args below meth c H locs 0 0 (MQ below (va_Qv Q (db_Po E) (db_Aw E s.heap.size)) args s 0 0 (db_Aw E s.heap.size)) (F0 m 2 ls []) := by
  have hx := S.1
  have hb := S.2.1
  have hiX8 : ∀ w ∈ wsX80, w ∈ wsX8_copyFrom := fun w_ h_ => List.mem_cons_of_mem _ (List.mem_append_left _ (List.mem_append_right _ h_))
  intro n
  induction n with
  | zero =>
    intro X x2 H locs ls h hw hl
    exact False.elim h
  | succ n_ ih =>
    intro X x2 H locs ls h hw hl
    unfold wp_X8_copyFrom_2 at h
    refine lv_iload_n hx hb dX8_copyFrom_2 rfl (lv_at hl 2 rfl) ?_
    refine lv_bipush (v := (6 : Int32)) hx hb dX8_copyFrom_3 (by decide) ?_
    refine lv_icmp_ge (tgt := 29) hx hb dX8_copyFrom_5 (by decide) (fun c13 => ?_) (fun c13 => ?_)
    · have h := h.1 c13
      refine lv_aload_n hx hb dX8_copyFrom_29 rfl (lv_at hl 1 rfl) ?_
      refine db_getr S hw (db_kShelf_l0 ho) (db_kShelf_s0 ho) (C := RX8) (T := TX8) (N := 5) rfl hiX8 1 (by decide) (r := (o + 26)) rfl (List.mem_of_getElem? (i := 2) rfl) dX8_copyFrom_30 ?_
      refine lv_iconst (v := (0 : Int32)) hx hb dX8_copyFrom_33 (by decide) ?_
      refine lv_aload_n hx hb dX8_copyFrom_34 rfl (lv_at hl 0 rfl) ?_
      refine db_getr S hw (db_kShelf_l0 hq) (db_kShelf_s0 hq) (C := RX8) (T := TX8) (N := 5) rfl hiX8 1 (by decide) (r := (q + 26)) rfl (List.mem_of_getElem? (i := 2) rfl) dX8_copyFrom_35 ?_
      refine lv_iconst (v := (0 : Int32)) hx hb dX8_copyFrom_38 (by decide) ?_
      refine lv_bipush (v := (12 : Int32)) hx hb dX8_copyFrom_39 (by decide) ?_
      obtain ⟨g1, h⟩ := h
      refine db_copy S hw hl.1 (db_kShelf_l26 ho) (db_kShelf_s26 ho) (db_kShelf_l26 hq) (db_kShelf_s26 hq) (List.mem_of_getElem? (i := 3) rfl) (List.mem_of_getElem? (i := 4) rfl) (List.mem_of_getElem? (i := 5) rfl) (List.mem_of_getElem? (i := 6) rfl) g1 ⟨Nat.le_of_ble_eq_true rfl, Nat.le_of_ble_eq_true rfl⟩ dX8_copyFrom_41 (fun H locs hw => ?_)
      obtain ⟨X2, e2, hw⟩ : ∃ Z_, Z_ = (db_sa X (q + 26) (va_cpy (X.1 (o + 26)) (X.1 (q + 26)) ((0 : Int32)).toNatClampNeg ((0 : Int32)).toNatClampNeg ((12 : Int32)).toNatClampNeg)) ∧ db_HW E (db_Aw E s.heap.size) s Z_ H locs := ⟨_, rfl, hw⟩
      have h := h X2 e2
      refine lv_aload_n hx hb dX8_copyFrom_44 rfl (lv_at hl 1 rfl) ?_
      refine db_getr S hw (db_kShelf_l0 ho) (db_kShelf_s0 ho) (C := RX8) (T := TX8) (N := 5) rfl hiX8 2 (by decide) (r := (o + 27)) rfl (List.mem_of_getElem? (i := 7) rfl) dX8_copyFrom_45 ?_
      refine lv_iconst (v := (0 : Int32)) hx hb dX8_copyFrom_48 (by decide) ?_
      refine lv_aload_n hx hb dX8_copyFrom_49 rfl (lv_at hl 0 rfl) ?_
      refine db_getr S hw (db_kShelf_l0 hq) (db_kShelf_s0 hq) (C := RX8) (T := TX8) (N := 5) rfl hiX8 2 (by decide) (r := (q + 27)) rfl (List.mem_of_getElem? (i := 7) rfl) dX8_copyFrom_50 ?_
      refine lv_iconst (v := (0 : Int32)) hx hb dX8_copyFrom_53 (by decide) ?_
      refine lv_bipush (v := (12 : Int32)) hx hb dX8_copyFrom_54 (by decide) ?_
      obtain ⟨g3, h⟩ := h
      refine db_copy S hw hl.1 (db_kShelf_l27 ho) (db_kShelf_s27 ho) (db_kShelf_l27 hq) (db_kShelf_s27 hq) (List.mem_of_getElem? (i := 3) rfl) (List.mem_of_getElem? (i := 4) rfl) (List.mem_of_getElem? (i := 5) rfl) (List.mem_of_getElem? (i := 6) rfl) g3 ⟨Nat.le_of_ble_eq_true rfl, Nat.le_of_ble_eq_true rfl⟩ dX8_copyFrom_56 (fun H locs hw => ?_)
      obtain ⟨X4, e4, hw⟩ : ∃ Z_, Z_ = (db_sa X2 (q + 27) (va_cpy (X2.1 (o + 27)) (X2.1 (q + 27)) ((0 : Int32)).toNatClampNeg ((0 : Int32)).toNatClampNeg ((12 : Int32)).toNatClampNeg)) ∧ db_HW E (db_Aw E s.heap.size) s Z_ H locs := ⟨_, rfl, hw⟩
      have h := h X4 e4
      refine lv_aload_n hx hb dX8_copyFrom_59 rfl (lv_at hl 1 rfl) ?_
      refine db_getr S hw (db_kShelf_l0 ho) (db_kShelf_s0 ho) (C := RX8) (T := TX8) (N := 5) rfl hiX8 3 (by decide) (r := (o + 28)) rfl (List.mem_of_getElem? (i := 8) rfl) dX8_copyFrom_60 ?_
      refine lv_iconst (v := (0 : Int32)) hx hb dX8_copyFrom_63 (by decide) ?_
      refine lv_aload_n hx hb dX8_copyFrom_64 rfl (lv_at hl 0 rfl) ?_
      refine db_getr S hw (db_kShelf_l0 hq) (db_kShelf_s0 hq) (C := RX8) (T := TX8) (N := 5) rfl hiX8 3 (by decide) (r := (q + 28)) rfl (List.mem_of_getElem? (i := 8) rfl) dX8_copyFrom_65 ?_
      refine lv_iconst (v := (0 : Int32)) hx hb dX8_copyFrom_68 (by decide) ?_
      refine lv_bipush (v := (12 : Int32)) hx hb dX8_copyFrom_69 (by decide) ?_
      obtain ⟨g5, h⟩ := h
      refine db_copy S hw hl.1 (db_kShelf_l28 ho) (db_kShelf_s28 ho) (db_kShelf_l28 hq) (db_kShelf_s28 hq) (List.mem_of_getElem? (i := 3) rfl) (List.mem_of_getElem? (i := 4) rfl) (List.mem_of_getElem? (i := 5) rfl) (List.mem_of_getElem? (i := 6) rfl) g5 ⟨Nat.le_of_ble_eq_true rfl, Nat.le_of_ble_eq_true rfl⟩ dX8_copyFrom_71 (fun H locs hw => ?_)
      obtain ⟨X6, e6, hw⟩ : ∃ Z_, Z_ = (db_sa X4 (q + 28) (va_cpy (X4.1 (o + 28)) (X4.1 (q + 28)) ((0 : Int32)).toNatClampNeg ((0 : Int32)).toNatClampNeg ((12 : Int32)).toNatClampNeg)) ∧ db_HW E (db_Aw E s.heap.size) s Z_ H locs := ⟨_, rfl, hw⟩
      have h := h X6 e6
      refine lv_aload_n hx hb dX8_copyFrom_74 rfl (lv_at hl 0 rfl) ?_
      refine lv_aload_n hx hb dX8_copyFrom_75 rfl (lv_at hl 1 rfl) ?_
      refine db_geti S hw (db_kShelf_l0 ho) (db_kShelf_s0 ho) (C := RX8) (T := TX8) (N := 5) rfl hiX8 4 (by decide) rfl (List.mem_of_getElem? (i := 9) rfl) dX8_copyFrom_76 ?_
      refine db_puti S hw (db_kShelf_l0 hq) (db_kShelf_s0 hq) (C := RX8) (T := TX8) (N := 5) rfl hiX8 tyX8_ok nmX8 4 (by decide) rfl (List.mem_of_getElem? (i := 9) rfl) rfl ⟨rfl, rfl⟩ dX8_copyFrom_79 (fun H locs hw => ?_)
      obtain ⟨X7, e7, hw⟩ : ∃ Z_, Z_ = (db_si X6 q 4 (X6.1 o 4)) ∧ db_HW E (db_Aw E s.heap.size) s Z_ H locs := ⟨_, rfl, hw⟩
      have h := h X7 e7
      exact db_vret S hr hlocks hw h dX8_copyFrom_82
    · have h := h.2 c13
      refine lv_aload_n hx hb dX8_copyFrom_8 rfl (lv_at hl 0 rfl) ?_
      refine db_getr S hw (db_kShelf_l0 hq) (db_kShelf_s0 hq) (C := RX8) (T := TX8) (N := 5) rfl hiX8 0 (by decide) (r := (q + 1)) rfl (List.mem_of_getElem? (i := 1) rfl) dX8_copyFrom_9 ?_
      refine lv_iload_n hx hb dX8_copyFrom_12 rfl (lv_at hl 2 rfl) ?_
      obtain ⟨g8, h⟩ := h
      have hB9 : db_kBook ((q + 1) + 1 + 4 * (x2).toNatClampNeg) := db_bk_of hq g8
      refine db_aald S hw (db_kShelf_l1 hq) (db_kShelf_s1 hq) g8 dX8_copyFrom_13 ?_
      refine lv_aload_n hx hb dX8_copyFrom_14 rfl (lv_at hl 1 rfl) ?_
      refine db_getr S hw (db_kShelf_l0 ho) (db_kShelf_s0 ho) (C := RX8) (T := TX8) (N := 5) rfl hiX8 0 (by decide) (r := (o + 1)) rfl (List.mem_of_getElem? (i := 1) rfl) dX8_copyFrom_15 ?_
      refine lv_iload_n hx hb dX8_copyFrom_18 rfl (lv_at hl 2 rfl) ?_
      obtain ⟨g10, h⟩ := h
      have hB11 : db_kBook ((o + 1) + 1 + 4 * (x2).toNatClampNeg) := db_bk_of ho g10
      refine db_aald S hw (db_kShelf_l1 ho) (db_kShelf_s1 ho) g10 dX8_copyFrom_19 ?_
      refine db_callVv S hw (db_kBook_l0 hB9) (db_kBook_s0 hB9) (C := RX0) (T := TX0) (N := 6) (As := [.ref (db_ad E ((o + 1) + 1 + 4 * (x2).toNatClampNeg))]) rfl (ct_X0_copyFrom hB9 hB11 h) gX8_copyFrom_X0_copyFrom rfl ⟨rfl, rfl, Nat.le_of_ble_eq_true rfl, Nat.le_of_ble_eq_true rfl⟩ 1 rfl (by decide +kernel) hl.1 rfl (Nat.le_of_ble_eq_true rfl) dX8_copyFrom_20 ⟨Nat.zero_le _, Nat.zero_le _⟩ (fun X12 H locs h hw => ?_)
      refine lv_iinc (v := (x2 + (1 : Int32))) (lv' := [(2, .int (x2 + (1 : Int32))), (0, .ref (db_ad E q)), (1, .ref (db_ad E o))]) hx hb dX8_copyFrom_23 hl (k := 2) rfl (congrArg (fun z_ => x2 + z_) (show Int32.ofInt (1) = (1 : Int32) by decide)) (by decide) rfl (fun ls hl => ?_)
      refine lv_goto (tgt := 2) hx hb dX8_copyFrom_26 (by decide) ?_
      exact ih _ _ _ _ _ h hw (lv_sub hl [1, 2, 0] rfl)
def wp_X8_copyFrom (q : Nat) (o : Nat) (X : db_St)  (Q : db_St → Prop) : Prop := (∃ f_, wp_X8_copyFrom_2 q o Q f_ X (0 : Int32))
set_option maxHeartbeats 4000000 in
set_option maxRecDepth 100000 in
theorem ct_X8_copyFrom {l : Launch} {E : db_E} {q : Nat} (hq : db_kShelf q) {o : Nat} (ho : db_kShelf o) {X : db_St}  {Q : db_St → Prop} (h : wp_X8_copyFrom q o X  Q) : db_MV l E yX8_copyFrom wsX8_copyFrom rm_X8_copyFrom X [.ref (db_ad E q), .ref (db_ad E o)] Q := by
  intro sz
  unfold wp_X8_copyFrom at h
  refine Met.ofW (cc := cX8_copyFrom) (maxL := 3) (ret := none) (by decide) rfl ?_
  intro p e s m args below meth c s₁ B hml hv
  obtain ⟨rfl, hsz, hU⟩ := hv
  subst hsz
  have S : CallFix p m c cX8_copyFrom 3 s ([.ref (db_ad E q), .ref (db_ad E o)] : List Value).toArray wsX8_copyFrom RX8 := ⟨B.exec, B.bytes, hml, findClass_of_methodNamed B.named, atoms_spec (ws := wsX8_copyFrom) B.pre⟩
  have hx := S.1
  have hb := S.2.1
  have hr := B.returns
  have hlocks := B.notSynchronized
  have hw := db_start hU
  have hiX8 : ∀ w ∈ wsX80, w ∈ wsX8_copyFrom := fun w_ h_ => List.mem_cons_of_mem _ (List.mem_append_left _ (List.mem_append_right _ h_))
  have hl := lv_entry ([.ref (db_ad E q), .ref (db_ad E o)]) (n := 3) (Nat.le_of_ble_eq_true rfl)
  rw [lg_entry_eq]
  generalize (lg_sl ([.ref (db_ad E q), .ref (db_ad E o)]) ++ List.replicate (3 - (lg_sl ([.ref (db_ad E q), .ref (db_ad E o)])).length) Slot.unset).toArray = ls at hl ⊢
  have hl : lv_has ls 3 [(0, .ref (db_ad E q)), (1, .ref (db_ad E o))] := hl
  refine lv_iconst (v := (0 : Int32)) hx hb dX8_copyFrom_0 (by decide) ?_
  refine lv_istore_n (lv' := [(2, .int (0 : Int32)), (0, .ref (db_ad E q)), (1, .ref (db_ad E o))]) hx hb dX8_copyFrom_1 rfl hl (by decide) rfl (fun ls hl => ?_)
  obtain ⟨f_, h⟩ := h
  exact tw_X8_copyFrom_2 S hr hlocks hq ho  f_ _ _ _ _ _ h hw (lv_sub hl [1, 2, 0] rfl)
