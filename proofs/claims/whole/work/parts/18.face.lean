-- DaysOnBread.feed(IJ)I
abbrev rm_X10_feed : Room := { frames := 1, cells := 0, slots := 0, locals := 21 }
def wp_X10_feed_39 (Q : Int32 → db_St → Prop) : Nat → db_St → Int32 → Int64 → Int32 → Prop
  | 0, _, _, _, _ => False
  | n_ + 1, X, x1, x2, x4 => ((x1 ≤ x4 → wp_X2_size 2 16 X (fun r1 X1 => Q r1 X1)) ∧ (¬ (x1 ≤ x4) → wp_X2_add 2 16 X (((((db_lushr x2 ((8 : Int32) * x4))).toInt32)).toInt8.toInt32) (fun X2 => wp_X10_feed_39 Q n_ X2 x1 x2 (x4 + (1 : Int32)))))
set_option maxHeartbeats 4000000 in
set_option maxRecDepth 100000 in
theorem tw_X10_feed_39 {p : Program} {l : Launch} {e : Env} {s : State} {m : MethodId} {args : Array Value} {below : List Frame} {meth : Method} {c : Code} {E : db_E} (S : CallFix p m c cX10_feed 5 s args wsX10_feed RX10) (hr : meth.sig.returnType = (some .int)) (hlocks : meth.locks = false)  {Q : Int32 → db_St → Prop} : ∀ (n : Nat) (X : db_St) (x1 : Int32) (x2 : Int64) (x4 : Int32) (H : Heap) (locs : List Loc) (ls : Array Slot), wp_X10_feed_39 Q n X x1 x2 x4 → db_HW E (db_Aw E s.heap.size) s X H locs → lv_has ls 5 [(0, .ref (db_ad E 0)), (1, .int x1), (2, .long x2), (4, .int x4)] → W p l e rm_X10_feed s m args below meth c H locs 0 0 (MQ below (va_Qi Q (db_Po E) (db_Aw E s.heap.size)) args s 0 0 (db_Aw E s.heap.size)) (F0 m 39 ls []) := by
  have hx := S.1
  have hb := S.2.1
  have hiX10 : ∀ w ∈ wsX100, w ∈ wsX10_feed := fun w_ h_ => List.mem_cons_of_mem _ (List.mem_append_left _ (List.mem_append_right _ h_))
  intro n
  induction n with
  | zero =>
    intro X x1 x2 x4 H locs ls h hw hl
    exact False.elim h
  | succ n_ ih =>
    intro X x1 x2 x4 H locs ls h hw hl
    unfold wp_X10_feed_39 at h
    refine lv_iload hx hb dX10_feed_39 (lv_at hl 3 rfl) ?_
    refine lv_iload_n hx hb dX10_feed_41 rfl (lv_at hl 1 rfl) ?_
    refine lv_icmp_ge (tgt := 67) hx hb dX10_feed_42 (by decide) (fun c3 => ?_) (fun c3 => ?_)
    · have h := h.1 c3
      refine lv_aload_n hx hb dX10_feed_67 rfl (lv_at hl 0 rfl) ?_
      refine db_getr S hw (Nat.le_of_ble_eq_true rfl) db_s0 (C := RX10) (T := TX10) (N := 15) rfl hiX10 1 (by decide) (r := 2) rfl (List.mem_of_getElem? (i := 1) rfl) dX10_feed_68 ?_
      refine db_callVi S hw (Nat.le_of_ble_eq_true rfl) db_s2 (C := RX2) (T := TX2) (N := 2) (As := []) rfl (ct_X2_size db_kb2 h) gX10_feed_X2_size rfl ⟨rfl, rfl, Nat.le_of_ble_eq_true rfl, Nat.le_of_ble_eq_true rfl⟩ 0 rfl (by decide +kernel) hl.1 rfl (Nat.le_of_ble_eq_true rfl) dX10_feed_71 ⟨Nat.zero_le _, Nat.zero_le _⟩ (fun r1 X1 H locs h hw => ?_)
      exact db_iret S hr hlocks hw h dX10_feed_74
    · have h := h.2 c3
      refine lv_aload_n hx hb dX10_feed_45 rfl (lv_at hl 0 rfl) ?_
      refine db_getr S hw (Nat.le_of_ble_eq_true rfl) db_s0 (C := RX10) (T := TX10) (N := 15) rfl hiX10 1 (by decide) (r := 2) rfl (List.mem_of_getElem? (i := 1) rfl) dX10_feed_46 ?_
      refine lv_lload_n hx hb dX10_feed_49 rfl (lv_at hl 2 rfl) ?_
      refine lv_bipush (v := (8 : Int32)) hx hb dX10_feed_50 (by decide) ?_
      refine lv_iload hx hb dX10_feed_52 (lv_at hl 3 rfl) ?_
      refine lv_imul hx hb dX10_feed_54 ?_
      refine lv_lushr (v := (db_lushr x2 ((8 : Int32) * x4))) hx hb dX10_feed_55 rfl ?_
      refine lv_l2i (v := (((db_lushr x2 ((8 : Int32) * x4))).toInt32)) hx hb dX10_feed_56 rfl ?_
      refine lv_i2b (v := (((((db_lushr x2 ((8 : Int32) * x4))).toInt32)).toInt8.toInt32)) hx hb dX10_feed_57 rfl ?_
      refine db_callVv S hw (Nat.le_of_ble_eq_true rfl) db_s2 (C := RX2) (T := TX2) (N := 2) (As := [.int (((((db_lushr x2 ((8 : Int32) * x4))).toInt32)).toInt8.toInt32)]) rfl (ct_X2_add db_kb2 h) gX10_feed_X2_add rfl ⟨rfl, rfl, Nat.le_of_ble_eq_true rfl, Nat.le_of_ble_eq_true rfl⟩ 1 rfl (by decide +kernel) hl.1 rfl (Nat.le_of_ble_eq_true rfl) dX10_feed_58 ⟨Nat.zero_le _, Nat.zero_le _⟩ (fun X2 H locs h hw => ?_)
      refine lv_iinc (v := (x4 + (1 : Int32))) (lv' := [(4, .int (x4 + (1 : Int32))), (0, .ref (db_ad E 0)), (1, .int x1), (2, .long x2)]) hx hb dX10_feed_61 hl (k := 3) rfl (congrArg (fun z_ => x4 + z_) (show Int32.ofInt (1) = (1 : Int32) by decide)) (by decide) rfl (fun ls hl => ?_)
      refine lv_goto (tgt := 39) hx hb dX10_feed_64 (by decide) ?_
      exact ih _ _ _ _ _ _ _ h hw (lv_sub hl [1, 2, 3, 0] rfl)
def wp_X10_feed  (X : db_St) (x1 : Int32) (x2 : Int64) (Q : Int32 → db_St → Prop) : Prop := (((1 : Int32) ≤ x1 → (((8 : Int32) < x1 → wp_X10_refuse X (-6 : Int32) (fun r1 X1 => Q r1 X1)) ∧ (¬ ((8 : Int32) < x1) → wp_X2_room 2 16 X (fun r2 X2 => ((x1 ≤ r2 → (∃ f_, wp_X10_feed_39 Q f_ X2 x1 x2 (0 : Int32))) ∧ (¬ (x1 ≤ r2) → wp_X10_refuse X2 (-6 : Int32) (fun r3 X3 => Q r3 X3))))))) ∧ (¬ ((1 : Int32) ≤ x1) → wp_X10_refuse X (-4 : Int32) (fun r6 X6 => Q r6 X6)))
set_option maxHeartbeats 4000000 in
set_option maxRecDepth 100000 in
theorem ct_X10_feed {l : Launch} {E : db_E}  {X : db_St} {x1 : Int32} {x2 : Int64} {Q : Int32 → db_St → Prop} (h : wp_X10_feed  X x1 x2 Q) : db_MI l E yX10_feed wsX10_feed rm_X10_feed X [.ref (db_ad E 0), .int x1, .long x2] Q := by
  intro sz
  unfold wp_X10_feed at h
  refine Met.ofW (cc := cX10_feed) (maxL := 5) (ret := (some .int)) (by decide) rfl ?_
  intro p e s m args below meth c s₁ B hml hv
  obtain ⟨rfl, hsz, hU⟩ := hv
  subst hsz
  have S : CallFix p m c cX10_feed 5 s ([.ref (db_ad E 0), .int x1, .long x2] : List Value).toArray wsX10_feed RX10 := ⟨B.exec, B.bytes, hml, findClass_of_methodNamed B.named, atoms_spec (ws := wsX10_feed) B.pre⟩
  have hx := S.1
  have hb := S.2.1
  have hr := B.returns
  have hlocks := B.notSynchronized
  have hw := db_start hU
  have hiX10 : ∀ w ∈ wsX100, w ∈ wsX10_feed := fun w_ h_ => List.mem_cons_of_mem _ (List.mem_append_left _ (List.mem_append_right _ h_))
  have hl := lv_entry ([.ref (db_ad E 0), .int x1, .long x2]) (n := 5) (Nat.le_of_ble_eq_true rfl)
  rw [lg_entry_eq]
  generalize (lg_sl ([.ref (db_ad E 0), .int x1, .long x2]) ++ List.replicate (5 - (lg_sl ([.ref (db_ad E 0), .int x1, .long x2])).length) Slot.unset).toArray = ls at hl ⊢
  have hl : lv_has ls 5 [(0, .ref (db_ad E 0)), (1, .int x1), (2, .long x2)] := hl
  refine lv_iload_n hx hb dX10_feed_0 rfl (lv_at hl 1 rfl) ?_
  refine lv_iconst (v := (1 : Int32)) hx hb dX10_feed_1 (by decide) ?_
  refine lv_icmp_ge (tgt := 12) hx hb dX10_feed_2 (by decide) (fun c7 => ?_) (fun c7 => ?_)
  · have h := h.1 c7
    refine lv_iload_n hx hb dX10_feed_12 rfl (lv_at hl 1 rfl) ?_
    refine lv_bipush (v := (8 : Int32)) hx hb dX10_feed_13 (by decide) ?_
    refine lv_icmp_gt (tgt := 29) hx hb dX10_feed_15 (by decide) (fun c5 => ?_) (fun c5 => ?_)
    · have h := h.1 c5
      refine lv_aload_n hx hb dX10_feed_29 rfl (lv_at hl 0 rfl) ?_
      refine lv_bipush (v := (-6 : Int32)) hx hb dX10_feed_30 (by decide) ?_
      refine db_callVi S hw (Nat.le_of_ble_eq_true rfl) db_s0 (C := RX10) (T := TX10) (N := 15) (As := [.int (-6 : Int32)]) rfl (ct_X10_refuse  h) gX10_feed_X10_refuse rfl ⟨rfl, rfl, Nat.le_of_ble_eq_true rfl, Nat.le_of_ble_eq_true rfl⟩ 1 rfl (by decide +kernel) hl.1 rfl (Nat.le_of_ble_eq_true rfl) dX10_feed_32 ⟨Nat.zero_le _, Nat.zero_le _⟩ (fun r1 X1 H locs h hw => ?_)
      exact db_iret S hr hlocks hw h dX10_feed_35
    · have h := h.2 c5
      refine lv_aload_n hx hb dX10_feed_18 rfl (lv_at hl 0 rfl) ?_
      refine db_getr S hw (Nat.le_of_ble_eq_true rfl) db_s0 (C := RX10) (T := TX10) (N := 15) rfl hiX10 1 (by decide) (r := 2) rfl (List.mem_of_getElem? (i := 1) rfl) dX10_feed_19 ?_
      refine db_callVi S hw (Nat.le_of_ble_eq_true rfl) db_s2 (C := RX2) (T := TX2) (N := 2) (As := []) rfl (ct_X2_room db_kb2 h) gX10_feed_X2_room rfl ⟨rfl, rfl, Nat.le_of_ble_eq_true rfl, Nat.le_of_ble_eq_true rfl⟩ 0 rfl (by decide +kernel) hl.1 rfl (Nat.le_of_ble_eq_true rfl) dX10_feed_22 ⟨Nat.zero_le _, Nat.zero_le _⟩ (fun r2 X2 H locs h hw => ?_)
      refine lv_iload_n hx hb dX10_feed_25 rfl (lv_at hl 1 rfl) ?_
      refine lv_icmp_ge (tgt := 36) hx hb dX10_feed_26 (by decide) (fun c4 => ?_) (fun c4 => ?_)
      · have h := h.1 c4
        refine lv_iconst (v := (0 : Int32)) hx hb dX10_feed_36 (by decide) ?_
        refine lv_istore (lv' := [(4, .int (0 : Int32)), (0, .ref (db_ad E 0)), (1, .int x1), (2, .long x2)]) hx hb dX10_feed_37 hl (by decide) rfl (fun ls hl => ?_)
        obtain ⟨f_, h⟩ := h
        exact tw_X10_feed_39 S hr hlocks   f_ _ _ _ _ _ _ _ h hw (lv_sub hl [1, 2, 3, 0] rfl)
      · have h := h.2 c4
        refine lv_aload_n hx hb dX10_feed_29 rfl (lv_at hl 0 rfl) ?_
        refine lv_bipush (v := (-6 : Int32)) hx hb dX10_feed_30 (by decide) ?_
        refine db_callVi S hw (Nat.le_of_ble_eq_true rfl) db_s0 (C := RX10) (T := TX10) (N := 15) (As := [.int (-6 : Int32)]) rfl (ct_X10_refuse  h) gX10_feed_X10_refuse rfl ⟨rfl, rfl, Nat.le_of_ble_eq_true rfl, Nat.le_of_ble_eq_true rfl⟩ 1 rfl (by decide +kernel) hl.1 rfl (Nat.le_of_ble_eq_true rfl) dX10_feed_32 ⟨Nat.zero_le _, Nat.zero_le _⟩ (fun r3 X3 H locs h hw => ?_)
        exact db_iret S hr hlocks hw h dX10_feed_35
  · have h := h.2 c7
    refine lv_aload_n hx hb dX10_feed_5 rfl (lv_at hl 0 rfl) ?_
    refine lv_bipush (v := (-4 : Int32)) hx hb dX10_feed_6 (by decide) ?_
    refine db_callVi S hw (Nat.le_of_ble_eq_true rfl) db_s0 (C := RX10) (T := TX10) (N := 15) (As := [.int (-4 : Int32)]) rfl (ct_X10_refuse  h) gX10_feed_X10_refuse rfl ⟨rfl, rfl, Nat.le_of_ble_eq_true rfl, Nat.le_of_ble_eq_true rfl⟩ 1 rfl (by decide +kernel) hl.1 rfl (Nat.le_of_ble_eq_true rfl) dX10_feed_8 ⟨Nat.zero_le _, Nat.zero_le _⟩ (fun r6 X6 H locs h hw => ?_)
    exact db_iret S hr hlocks hw h dX10_feed_11
-- DaysOnBread.rule(I)I
abbrev rm_X10_rule : Room := { frames := 3, cells := 0, slots := 0, locals := 62 }
def wp_X10_rule  (X : db_St) (x1 : Int32) (Q : Int32 → db_St → Prop) : Prop := wp_X10_isBook X x1 (fun r1 X1 => ((r1 = 0 → wp_X10_refuse X1 (-1 : Int32) (fun r10 X10 => Q r10 X10)) ∧ (¬ r1 = 0 → (vp_in x1 6 ∧ (((X1.1 (8 + 1 + 4 * (x1).toNatClampNeg) 3) < (10 : Int32) → wp_X7_read X1 (fun r4 X4 => wp_X2_clear 2 16 X4 (fun X5 => ((r4 = 0 → Q ((-20 : Int32) - (X5.1 6 1)) X5) ∧ (¬ (r4 = 0) → wp_X0_add (8 + 1 + 4 * (x1).toNatClampNeg) X5 (X5.1 6 2) (X5.1 6 3) (X5.1 6 4) (fun r6 X6 => Q r6 X6)))))) ∧ (¬ ((X1.1 (8 + 1 + 4 * (x1).toNatClampNeg) 3) < (10 : Int32)) → wp_X10_refuse X1 (-6 : Int32) (fun r8 X8 => Q r8 X8)))))))
set_option maxHeartbeats 4000000 in
set_option maxRecDepth 100000 in
theorem ct_X10_rule {l : Launch} {E : db_E}  {X : db_St} {x1 : Int32} {Q : Int32 → db_St → Prop} (h : wp_X10_rule  X x1 Q) : db_MI l E yX10_rule wsX10_rule rm_X10_rule X [.ref (db_ad E 0), .int x1] Q := by
  intro sz
  unfold wp_X10_rule at h
  refine Met.ofW (cc := cX10_rule) (maxL := 4) (ret := (some .int)) (by decide) rfl ?_
  intro p e s m args below meth c s₁ B hml hv
  obtain ⟨rfl, hsz, hU⟩ := hv
  subst hsz
  have S : CallFix p m c cX10_rule 4 s ([.ref (db_ad E 0), .int x1] : List Value).toArray wsX10_rule RX10 := ⟨B.exec, B.bytes, hml, findClass_of_methodNamed B.named, atoms_spec (ws := wsX10_rule) B.pre⟩
  have hx := S.1
  have hb := S.2.1
  have hr := B.returns
  have hlocks := B.notSynchronized
  have hw := db_start hU
  have hiX0 : ∀ w ∈ wsX00, w ∈ wsX10_rule := fun w_ h_ => List.mem_cons_of_mem _ (List.mem_append_left _ (List.mem_append_left _ (List.mem_append_right _ h_)))
  have hiX10 : ∀ w ∈ wsX100, w ∈ wsX10_rule := fun w_ h_ => List.mem_cons_of_mem _ (List.mem_append_left _ (List.mem_append_left _ (List.mem_append_left _ (List.mem_append_left _ (List.mem_append_right _ h_)))))
  have hiX7 : ∀ w ∈ wsX70, w ∈ wsX10_rule := fun w_ h_ => List.mem_cons_of_mem _ (List.mem_append_left _ (List.mem_append_right _ h_))
  have hiX8 : ∀ w ∈ wsX80, w ∈ wsX10_rule := fun w_ h_ => List.mem_cons_of_mem _ (List.mem_append_left _ (List.mem_append_left _ (List.mem_append_left _ (List.mem_append_right _ h_))))
  have hl := lv_entry ([.ref (db_ad E 0), .int x1]) (n := 4) (Nat.le_of_ble_eq_true rfl)
  rw [lg_entry_eq]
  generalize (lg_sl ([.ref (db_ad E 0), .int x1]) ++ List.replicate (4 - (lg_sl ([.ref (db_ad E 0), .int x1])).length) Slot.unset).toArray = ls at hl ⊢
  have hl : lv_has ls 4 [(0, .ref (db_ad E 0)), (1, .int x1)] := hl
  refine lv_iload_n hx hb dX10_rule_0 rfl (lv_at hl 1 rfl) ?_
  refine db_callSi S hw (As := [.int x1]) (ct_X10_isBook  h) gX10_rule_X10_isBook rfl ⟨rfl, rfl, Nat.le_of_ble_eq_true rfl, Nat.le_of_ble_eq_true rfl⟩ 1 rfl (by decide +kernel) hl.1 rfl (Nat.le_of_ble_eq_true rfl) dX10_rule_1 ⟨Nat.zero_le _, Nat.zero_le _⟩ (fun r1 X1 H locs h hw => ?_)
  refine lv_if_ne (tgt := 13) hx hb dX10_rule_4 (by decide) (fun c11 => ?_) (fun c11 => ?_)
  · have h := h.2 c11
    refine lv_aload_n hx hb dX10_rule_13 rfl (lv_at hl 0 rfl) ?_
    refine db_getr S hw (Nat.le_of_ble_eq_true rfl) db_s0 (C := RX10) (T := TX10) (N := 15) rfl hiX10 4 (by decide) (r := 7) rfl (List.mem_of_getElem? (i := 1) rfl) dX10_rule_14 ?_
    refine db_getrN S hw (Nat.le_of_ble_eq_true rfl) db_s7 (C := RX8) (T := TX8) (N := 5) rfl hiX8 0 (by decide) (r := 8) rfl (List.mem_of_getElem? (i := 14) rfl) dX10_rule_17 ?_
    refine lv_iload_n hx hb dX10_rule_20 rfl (lv_at hl 1 rfl) ?_
    obtain ⟨g2, h⟩ := h
    have hB3 : db_kBook (8 + 1 + 4 * (x1).toNatClampNeg) := db_bk_of db_k7 g2
    refine db_aald S hw (Nat.le_of_ble_eq_true rfl) db_s8 g2 dX10_rule_21 ?_
    refine lv_astore_n (lv' := [(2, .ref (db_ad E (8 + 1 + 4 * (x1).toNatClampNeg))), (0, .ref (db_ad E 0)), (1, .int x1)]) hx hb dX10_rule_22 rfl hl (by decide) rfl (fun ls hl => ?_)
    refine lv_aload_n hx hb dX10_rule_23 rfl (lv_at hl 0 rfl) ?_
    refine db_getiN S hw (db_kBook_l0 hB3) (db_kBook_s0 hB3) (C := RX0) (T := TX0) (N := 6) rfl hiX0 3 (by decide) rfl (List.mem_of_getElem? (i := 9) rfl) dX10_rule_24 ?_
    refine lv_bipush (v := (10 : Int32)) hx hb dX10_rule_27 (by decide) ?_
    refine lv_icmp_lt (tgt := 39) hx hb dX10_rule_29 (by decide) (fun c9 => ?_) (fun c9 => ?_)
    · have h := h.1 c9
      refine lv_aload_n hx hb dX10_rule_39 rfl (lv_at hl 1 rfl) ?_
      refine db_getr S hw (Nat.le_of_ble_eq_true rfl) db_s0 (C := RX10) (T := TX10) (N := 15) rfl hiX10 3 (by decide) (r := 6) rfl (List.mem_of_getElem? (i := 2) rfl) dX10_rule_40 ?_
      refine db_callVi S hw (Nat.le_of_ble_eq_true rfl) db_s6 (C := RX7) (T := TX7) (N := 5) (As := []) rfl (ct_X7_read  h) gX10_rule_X7_read rfl ⟨rfl, rfl, Nat.le_of_ble_eq_true rfl, Nat.le_of_ble_eq_true rfl⟩ 0 rfl (by decide +kernel) hl.1 rfl (Nat.le_of_ble_eq_true rfl) dX10_rule_43 ⟨Nat.zero_le _, Nat.zero_le _⟩ (fun r4 X4 H locs h hw => ?_)
      refine lv_istore_n (lv' := [(3, .int r4), (2, .ref (db_ad E (8 + 1 + 4 * (x1).toNatClampNeg))), (0, .ref (db_ad E 0)), (1, .int x1)]) hx hb dX10_rule_46 rfl hl (by decide) rfl (fun ls hl => ?_)
      refine lv_aload_n hx hb dX10_rule_47 rfl (lv_at hl 2 rfl) ?_
      refine db_getr S hw (Nat.le_of_ble_eq_true rfl) db_s0 (C := RX10) (T := TX10) (N := 15) rfl hiX10 1 (by decide) (r := 2) rfl (List.mem_of_getElem? (i := 3) rfl) dX10_rule_48 ?_
      refine db_callVv S hw (Nat.le_of_ble_eq_true rfl) db_s2 (C := RX2) (T := TX2) (N := 2) (As := []) rfl (ct_X2_clear db_kb2 h) gX10_rule_X2_clear rfl ⟨rfl, rfl, Nat.le_of_ble_eq_true rfl, Nat.le_of_ble_eq_true rfl⟩ 0 rfl (by decide +kernel) hl.1 rfl (Nat.le_of_ble_eq_true rfl) dX10_rule_51 ⟨Nat.zero_le _, Nat.zero_le _⟩ (fun X5 H locs h hw => ?_)
      refine lv_iload_n hx hb dX10_rule_54 rfl (lv_at hl 0 rfl) ?_
      refine lv_if_eq (tgt := 86) hx hb dX10_rule_55 (by decide) (fun c7 => ?_) (fun c7 => ?_)
      · have h := h.1 c7
        refine lv_bipush (v := (-20 : Int32)) hx hb dX10_rule_86 (by decide) ?_
        refine lv_aload_n hx hb dX10_rule_88 rfl (lv_at hl 2 rfl) ?_
        refine db_getr S hw (Nat.le_of_ble_eq_true rfl) db_s0 (C := RX10) (T := TX10) (N := 15) rfl hiX10 3 (by decide) (r := 6) rfl (List.mem_of_getElem? (i := 2) rfl) dX10_rule_89 ?_
        refine db_getiN S hw (Nat.le_of_ble_eq_true rfl) db_s6 (C := RX7) (T := TX7) (N := 5) rfl hiX7 1 (by decide) rfl (List.mem_of_getElem? (i := 0) rfl) dX10_rule_92 ?_
        refine lv_isub hx hb dX10_rule_95 ?_
        exact db_iret S hr hlocks hw h dX10_rule_96
      · have h := h.2 c7
        refine lv_aload_n hx hb dX10_rule_58 rfl (lv_at hl 1 rfl) ?_
        refine lv_aload_n hx hb dX10_rule_59 rfl (lv_at hl 2 rfl) ?_
        refine db_getr S hw (Nat.le_of_ble_eq_true rfl) db_s0 (C := RX10) (T := TX10) (N := 15) rfl hiX10 3 (by decide) (r := 6) rfl (List.mem_of_getElem? (i := 2) rfl) dX10_rule_60 ?_
        refine db_getiN S hw (Nat.le_of_ble_eq_true rfl) db_s6 (C := RX7) (T := TX7) (N := 5) rfl hiX7 2 (by decide) rfl (List.mem_of_getElem? (i := 1) rfl) dX10_rule_63 ?_
        refine lv_aload_n hx hb dX10_rule_66 rfl (lv_at hl 2 rfl) ?_
        refine db_getr S hw (Nat.le_of_ble_eq_true rfl) db_s0 (C := RX10) (T := TX10) (N := 15) rfl hiX10 3 (by decide) (r := 6) rfl (List.mem_of_getElem? (i := 2) rfl) dX10_rule_67 ?_
        refine db_getiN S hw (Nat.le_of_ble_eq_true rfl) db_s6 (C := RX7) (T := TX7) (N := 5) rfl hiX7 3 (by decide) rfl (List.mem_of_getElem? (i := 2) rfl) dX10_rule_70 ?_
        refine lv_aload_n hx hb dX10_rule_73 rfl (lv_at hl 2 rfl) ?_
        refine db_getr S hw (Nat.le_of_ble_eq_true rfl) db_s0 (C := RX10) (T := TX10) (N := 15) rfl hiX10 3 (by decide) (r := 6) rfl (List.mem_of_getElem? (i := 2) rfl) dX10_rule_74 ?_
        refine db_getiN S hw (Nat.le_of_ble_eq_true rfl) db_s6 (C := RX7) (T := TX7) (N := 5) rfl hiX7 4 (by decide) rfl (List.mem_of_getElem? (i := 3) rfl) dX10_rule_77 ?_
        refine db_callVi S hw (db_kBook_l0 hB3) (db_kBook_s0 hB3) (C := RX0) (T := TX0) (N := 6) (As := [.int (X5.1 6 2), .int (X5.1 6 3), .int (X5.1 6 4)]) rfl (ct_X0_add hB3 h) gX10_rule_X0_add rfl ⟨rfl, rfl, Nat.le_of_ble_eq_true rfl, Nat.le_of_ble_eq_true rfl⟩ 3 rfl (by decide +kernel) hl.1 rfl (Nat.le_of_ble_eq_true rfl) dX10_rule_80 ⟨Nat.zero_le _, Nat.zero_le _⟩ (fun r6 X6 H locs h hw => ?_)
        refine lv_goto (tgt := 96) hx hb dX10_rule_83 (by decide) ?_
        exact db_iret S hr hlocks hw h dX10_rule_96
    · have h := h.2 c9
      refine lv_aload_n hx hb dX10_rule_32 rfl (lv_at hl 1 rfl) ?_
      refine lv_bipush (v := (-6 : Int32)) hx hb dX10_rule_33 (by decide) ?_
      refine db_callVi S hw (Nat.le_of_ble_eq_true rfl) db_s0 (C := RX10) (T := TX10) (N := 15) (As := [.int (-6 : Int32)]) rfl (ct_X10_refuse  h) gX10_rule_X10_refuse rfl ⟨rfl, rfl, Nat.le_of_ble_eq_true rfl, Nat.le_of_ble_eq_true rfl⟩ 1 rfl (by decide +kernel) hl.1 rfl (Nat.le_of_ble_eq_true rfl) dX10_rule_35 ⟨Nat.zero_le _, Nat.zero_le _⟩ (fun r8 X8 H locs h hw => ?_)
      exact db_iret S hr hlocks hw h dX10_rule_38
  · have h := h.1 c11
    refine lv_aload_n hx hb dX10_rule_7 rfl (lv_at hl 0 rfl) ?_
    refine lv_iconst (v := (-1 : Int32)) hx hb dX10_rule_8 (by decide) ?_
    refine db_callVi S hw (Nat.le_of_ble_eq_true rfl) db_s0 (C := RX10) (T := TX10) (N := 15) (As := [.int (-1 : Int32)]) rfl (ct_X10_refuse  h) gX10_rule_X10_refuse rfl ⟨rfl, rfl, Nat.le_of_ble_eq_true rfl, Nat.le_of_ble_eq_true rfl⟩ 1 rfl (by decide +kernel) hl.1 rfl (Nat.le_of_ble_eq_true rfl) dX10_rule_9 ⟨Nat.zero_le _, Nat.zero_le _⟩ (fun r10 X10 H locs h hw => ?_)
    exact db_iret S hr hlocks hw h dX10_rule_12
-- DaysOnBread.ruleOf(III)I
abbrev rm_X10_ruleOf : Room := { frames := 1, cells := 0, slots := 0, locals := 21 }
def wp_X10_ruleOf  (X : db_St) (x1 : Int32) (x2 : Int32) (x3 : Int32) (Q : Int32 → db_St → Prop) : Prop := wp_X10_isBook X x1 (fun r1 X1 => ((r1 = 0 → wp_X10_refuse X1 (-1 : Int32) (fun r2 X2 => Q r2 X2)) ∧ (¬ (r1 = 0) → ((x2 < 0 → wp_X10_refuse X1 (-1 : Int32) (fun r3 X3 => Q r3 X3)) ∧ (¬ (x2 < 0) → (vp_in x1 6 ∧ ((x2 < (X1.1 (8 + 1 + 4 * (x1).toNatClampNeg) 3) → (vp_in x1 6 ∧ ((x3 = (0 : Int32) → (vp_in x2 10 ∧ Q (X1.1 ((8 + 1 + 4 * (x1).toNatClampNeg) + 1) (x2).toNatClampNeg) X1)) ∧ (¬ x3 = (0 : Int32) → ((x3 = (1 : Int32) → (vp_in x2 10 ∧ Q (X1.1 ((8 + 1 + 4 * (x1).toNatClampNeg) + 2) (x2).toNatClampNeg) X1)) ∧ (¬ x3 = (1 : Int32) → ((x3 = (2 : Int32) → (vp_in x2 10 ∧ Q (X1.1 ((8 + 1 + 4 * (x1).toNatClampNeg) + 3) (x2).toNatClampNeg) X1)) ∧ (¬ x3 = (2 : Int32) → wp_X10_refuse X1 (-2 : Int32) (fun r8 X8 => Q r8 X8))))))))) ∧ (¬ (x2 < (X1.1 (8 + 1 + 4 * (x1).toNatClampNeg) 3)) → wp_X10_refuse X1 (-1 : Int32) (fun r15 X15 => Q r15 X15)))))))))
set_option maxHeartbeats 4000000 in
set_option maxRecDepth 100000 in
theorem ct_X10_ruleOf {l : Launch} {E : db_E}  {X : db_St} {x1 : Int32} {x2 : Int32} {x3 : Int32} {Q : Int32 → db_St → Prop} (h : wp_X10_ruleOf  X x1 x2 x3 Q) : db_MI l E yX10_ruleOf wsX10_ruleOf rm_X10_ruleOf X [.ref (db_ad E 0), .int x1, .int x2, .int x3] Q := by
  intro sz
  unfold wp_X10_ruleOf at h
  refine Met.ofW (cc := cX10_ruleOf) (maxL := 5) (ret := (some .int)) (by decide) rfl ?_
  intro p e s m args below meth c s₁ B hml hv
  obtain ⟨rfl, hsz, hU⟩ := hv
  subst hsz
  have S : CallFix p m c cX10_ruleOf 5 s ([.ref (db_ad E 0), .int x1, .int x2, .int x3] : List Value).toArray wsX10_ruleOf RX10 := ⟨B.exec, B.bytes, hml, findClass_of_methodNamed B.named, atoms_spec (ws := wsX10_ruleOf) B.pre⟩
  have hx := S.1
  have hb := S.2.1
  have hr := B.returns
  have hlocks := B.notSynchronized
  have hw := db_start hU
  have hiX0 : ∀ w ∈ wsX00, w ∈ wsX10_ruleOf := fun w_ h_ => List.mem_cons_of_mem _ (List.mem_append_right _ h_)
  have hiX10 : ∀ w ∈ wsX100, w ∈ wsX10_ruleOf := fun w_ h_ => List.mem_cons_of_mem _ (List.mem_append_left _ (List.mem_append_left _ (List.mem_append_right _ h_)))
  have hiX8 : ∀ w ∈ wsX80, w ∈ wsX10_ruleOf := fun w_ h_ => List.mem_cons_of_mem _ (List.mem_append_left _ (List.mem_append_right _ h_))
  have hl := lv_entry ([.ref (db_ad E 0), .int x1, .int x2, .int x3]) (n := 5) (Nat.le_of_ble_eq_true rfl)
  rw [lg_entry_eq]
  generalize (lg_sl ([.ref (db_ad E 0), .int x1, .int x2, .int x3]) ++ List.replicate (5 - (lg_sl ([.ref (db_ad E 0), .int x1, .int x2, .int x3])).length) Slot.unset).toArray = ls at hl ⊢
  have hl : lv_has ls 5 [(0, .ref (db_ad E 0)), (1, .int x1), (2, .int x2), (3, .int x3)] := hl
  refine lv_iload_n hx hb dX10_ruleOf_0 rfl (lv_at hl 1 rfl) ?_
  refine db_callSi S hw (As := [.int x1]) (ct_X10_isBook  h) gX10_ruleOf_X10_isBook rfl ⟨rfl, rfl, Nat.le_of_ble_eq_true rfl, Nat.le_of_ble_eq_true rfl⟩ 1 rfl (by decide +kernel) hl.1 rfl (Nat.le_of_ble_eq_true rfl) dX10_ruleOf_1 ⟨Nat.zero_le _, Nat.zero_le _⟩ (fun r1 X1 H locs h hw => ?_)
  refine lv_if_eq (tgt := 27) hx hb dX10_ruleOf_4 (by decide) (fun c18 => ?_) (fun c18 => ?_)
  · have h := h.1 c18
    refine lv_aload_n hx hb dX10_ruleOf_27 rfl (lv_at hl 0 rfl) ?_
    refine lv_iconst (v := (-1 : Int32)) hx hb dX10_ruleOf_28 (by decide) ?_
    refine db_callVi S hw (Nat.le_of_ble_eq_true rfl) db_s0 (C := RX10) (T := TX10) (N := 15) (As := [.int (-1 : Int32)]) rfl (ct_X10_refuse  h) gX10_ruleOf_X10_refuse rfl ⟨rfl, rfl, Nat.le_of_ble_eq_true rfl, Nat.le_of_ble_eq_true rfl⟩ 1 rfl (by decide +kernel) hl.1 rfl (Nat.le_of_ble_eq_true rfl) dX10_ruleOf_29 ⟨Nat.zero_le _, Nat.zero_le _⟩ (fun r2 X2 H locs h hw => ?_)
    exact db_iret S hr hlocks hw h dX10_ruleOf_32
  · have h := h.2 c18
    refine lv_iload_n hx hb dX10_ruleOf_7 rfl (lv_at hl 2 rfl) ?_
    refine lv_if_lt (tgt := 27) hx hb dX10_ruleOf_8 (by decide) (fun c17 => ?_) (fun c17 => ?_)
    · have h := h.1 c17
      refine lv_aload_n hx hb dX10_ruleOf_27 rfl (lv_at hl 0 rfl) ?_
      refine lv_iconst (v := (-1 : Int32)) hx hb dX10_ruleOf_28 (by decide) ?_
      refine db_callVi S hw (Nat.le_of_ble_eq_true rfl) db_s0 (C := RX10) (T := TX10) (N := 15) (As := [.int (-1 : Int32)]) rfl (ct_X10_refuse  h) gX10_ruleOf_X10_refuse rfl ⟨rfl, rfl, Nat.le_of_ble_eq_true rfl, Nat.le_of_ble_eq_true rfl⟩ 1 rfl (by decide +kernel) hl.1 rfl (Nat.le_of_ble_eq_true rfl) dX10_ruleOf_29 ⟨Nat.zero_le _, Nat.zero_le _⟩ (fun r3 X3 H locs h hw => ?_)
      exact db_iret S hr hlocks hw h dX10_ruleOf_32
    · have h := h.2 c17
      refine lv_iload_n hx hb dX10_ruleOf_11 rfl (lv_at hl 2 rfl) ?_
      refine lv_aload_n hx hb dX10_ruleOf_12 rfl (lv_at hl 0 rfl) ?_
      refine db_getr S hw (Nat.le_of_ble_eq_true rfl) db_s0 (C := RX10) (T := TX10) (N := 15) rfl hiX10 4 (by decide) (r := 7) rfl (List.mem_of_getElem? (i := 1) rfl) dX10_ruleOf_13 ?_
      refine db_getrN S hw (Nat.le_of_ble_eq_true rfl) db_s7 (C := RX8) (T := TX8) (N := 5) rfl hiX8 0 (by decide) (r := 8) rfl (List.mem_of_getElem? (i := 14) rfl) dX10_ruleOf_16 ?_
      refine lv_iload_n hx hb dX10_ruleOf_19 rfl (lv_at hl 1 rfl) ?_
      obtain ⟨g4, h⟩ := h
      have hB5 : db_kBook (8 + 1 + 4 * (x1).toNatClampNeg) := db_bk_of db_k7 g4
      refine db_aald S hw (Nat.le_of_ble_eq_true rfl) db_s8 g4 dX10_ruleOf_20 ?_
      refine db_getiN S hw (db_kBook_l0 hB5) (db_kBook_s0 hB5) (C := RX0) (T := TX0) (N := 6) rfl hiX0 3 (by decide) rfl (List.mem_of_getElem? (i := 9) rfl) dX10_ruleOf_21 ?_
      refine lv_icmp_lt (tgt := 33) hx hb dX10_ruleOf_24 (by decide) (fun c16 => ?_) (fun c16 => ?_)
      · have h := h.1 c16
        refine lv_aload_n hx hb dX10_ruleOf_33 rfl (lv_at hl 0 rfl) ?_
        refine db_getr S hw (Nat.le_of_ble_eq_true rfl) db_s0 (C := RX10) (T := TX10) (N := 15) rfl hiX10 4 (by decide) (r := 7) rfl (List.mem_of_getElem? (i := 1) rfl) dX10_ruleOf_34 ?_
        refine db_getrN S hw (Nat.le_of_ble_eq_true rfl) db_s7 (C := RX8) (T := TX8) (N := 5) rfl hiX8 0 (by decide) (r := 8) rfl (List.mem_of_getElem? (i := 14) rfl) dX10_ruleOf_37 ?_
        refine lv_iload_n hx hb dX10_ruleOf_40 rfl (lv_at hl 1 rfl) ?_
        obtain ⟨g6, h⟩ := h
        have hB7 : db_kBook (8 + 1 + 4 * (x1).toNatClampNeg) := db_bk_of db_k7 g6
        refine db_aald S hw (Nat.le_of_ble_eq_true rfl) db_s8 g6 dX10_ruleOf_41 ?_
        refine lv_astore (lv' := [(4, .ref (db_ad E (8 + 1 + 4 * (x1).toNatClampNeg))), (0, .ref (db_ad E 0)), (1, .int x1), (2, .int x2), (3, .int x3)]) hx hb dX10_ruleOf_42 hl (by decide) rfl (fun ls hl => ?_)
        refine lv_iload_n hx hb dX10_ruleOf_44 rfl (lv_at hl 4 rfl) ?_
        by_cases c9 : x3 = (0 : Int32)
        · have h := h.1 c9
          refine lv_tableIn (off := 27) (tgt := 72) hx hb dX10_ruleOf_45 (by rw [c9]; decide) (by rw [c9]; decide) (by rw [c9]; rfl) (by decide) ?_
          refine lv_aload hx hb dX10_ruleOf_72 (lv_at hl 0 rfl) ?_
          refine db_getrN S hw (db_kBook_l0 hB7) (db_kBook_s0 hB7) (C := RX0) (T := TX0) (N := 6) rfl hiX0 0 (by decide) (r := ((8 + 1 + 4 * (x1).toNatClampNeg) + 1)) rfl (List.mem_of_getElem? (i := 4) rfl) dX10_ruleOf_74 ?_
          refine lv_iload_n hx hb dX10_ruleOf_77 rfl (lv_at hl 3 rfl) ?_
          obtain ⟨g14, h⟩ := h
          refine db_iald S hw (db_kBook_l1 hB7) (db_kBook_s1 hB7) g14 dX10_ruleOf_78 ?_
          exact db_iret S hr hlocks hw h dX10_ruleOf_79
        · have h := h.2 c9
          by_cases c10 : x3 = (1 : Int32)
          · have h := h.1 c10
            refine lv_tableIn (off := 35) (tgt := 80) hx hb dX10_ruleOf_45 (by rw [c10]; decide) (by rw [c10]; decide) (by rw [c10]; rfl) (by decide) ?_
            refine lv_aload hx hb dX10_ruleOf_80 (lv_at hl 0 rfl) ?_
            refine db_getrN S hw (db_kBook_l0 hB7) (db_kBook_s0 hB7) (C := RX0) (T := TX0) (N := 6) rfl hiX0 1 (by decide) (r := ((8 + 1 + 4 * (x1).toNatClampNeg) + 2)) rfl (List.mem_of_getElem? (i := 5) rfl) dX10_ruleOf_82 ?_
            refine lv_iload_n hx hb dX10_ruleOf_85 rfl (lv_at hl 3 rfl) ?_
            obtain ⟨g13, h⟩ := h
            refine db_iald S hw (db_kBook_l2 hB7) (db_kBook_s2 hB7) g13 dX10_ruleOf_86 ?_
            exact db_iret S hr hlocks hw h dX10_ruleOf_87
          · have h := h.2 c10
            by_cases c11 : x3 = (2 : Int32)
            · have h := h.1 c11
              refine lv_tableIn (off := 43) (tgt := 88) hx hb dX10_ruleOf_45 (by rw [c11]; decide) (by rw [c11]; decide) (by rw [c11]; rfl) (by decide) ?_
              refine lv_aload hx hb dX10_ruleOf_88 (lv_at hl 0 rfl) ?_
              refine db_getrN S hw (db_kBook_l0 hB7) (db_kBook_s0 hB7) (C := RX0) (T := TX0) (N := 6) rfl hiX0 2 (by decide) (r := ((8 + 1 + 4 * (x1).toNatClampNeg) + 3)) rfl (List.mem_of_getElem? (i := 7) rfl) dX10_ruleOf_90 ?_
              refine lv_iload_n hx hb dX10_ruleOf_93 rfl (lv_at hl 3 rfl) ?_
              obtain ⟨g12, h⟩ := h
              refine db_iald S hw (db_kBook_l3 hB7) (db_kBook_s3 hB7) g12 dX10_ruleOf_94 ?_
              exact db_iret S hr hlocks hw h dX10_ruleOf_95
            · have h := h.2 c11
              refine lv_tableOut (tgt := 96) hx hb dX10_ruleOf_45 (by have z0_ := lv_neT (a := 0) c9 rfl; have z1_ := lv_neT (a := 1) c10 rfl; have z2_ := lv_neT (a := 2) c11 rfl; omega) (by decide) ?_
              refine lv_aload_n hx hb dX10_ruleOf_96 rfl (lv_at hl 1 rfl) ?_
              refine lv_bipush (v := (-2 : Int32)) hx hb dX10_ruleOf_97 (by decide) ?_
              refine db_callVi S hw (Nat.le_of_ble_eq_true rfl) db_s0 (C := RX10) (T := TX10) (N := 15) (As := [.int (-2 : Int32)]) rfl (ct_X10_refuse  h) gX10_ruleOf_X10_refuse rfl ⟨rfl, rfl, Nat.le_of_ble_eq_true rfl, Nat.le_of_ble_eq_true rfl⟩ 1 rfl (by decide +kernel) hl.1 rfl (Nat.le_of_ble_eq_true rfl) dX10_ruleOf_99 ⟨Nat.zero_le _, Nat.zero_le _⟩ (fun r8 X8 H locs h hw => ?_)
              exact db_iret S hr hlocks hw h dX10_ruleOf_102
      · have h := h.2 c16
        refine lv_aload_n hx hb dX10_ruleOf_27 rfl (lv_at hl 0 rfl) ?_
        refine lv_iconst (v := (-1 : Int32)) hx hb dX10_ruleOf_28 (by decide) ?_
        refine db_callVi S hw (Nat.le_of_ble_eq_true rfl) db_s0 (C := RX10) (T := TX10) (N := 15) (As := [.int (-1 : Int32)]) rfl (ct_X10_refuse  h) gX10_ruleOf_X10_refuse rfl ⟨rfl, rfl, Nat.le_of_ble_eq_true rfl, Nat.le_of_ble_eq_true rfl⟩ 1 rfl (by decide +kernel) hl.1 rfl (Nat.le_of_ble_eq_true rfl) dX10_ruleOf_29 ⟨Nat.zero_le _, Nat.zero_le _⟩ (fun r15 X15 H locs h hw => ?_)
        exact db_iret S hr hlocks hw h dX10_ruleOf_32
-- DaysOnBread.lean(II)I
abbrev rm_X10_lean : Room := { frames := 1, cells := 0, slots := 0, locals := 21 }
def wp_X10_lean  (X : db_St) (x1 : Int32) (x2 : Int32) (Q : Int32 → db_St → Prop) : Prop := wp_X10_isBook X x1 (fun r1 X1 => ((r1 = 0 → wp_X10_refuse X1 (-1 : Int32) (fun r2 X2 => Q r2 X2)) ∧ (¬ (r1 = 0) → ((x2 < (-1 : Int32) → wp_X10_refuse X1 (-1 : Int32) (fun r3 X3 => Q r3 X3)) ∧ (¬ (x2 < (-1 : Int32)) → (((6 : Int32) ≤ x2 → wp_X10_refuse X1 (-1 : Int32) (fun r4 X4 => Q r4 X4)) ∧ (¬ ((6 : Int32) ≤ x2) → ((x2 = x1 → wp_X10_refuse X1 (-1 : Int32) (fun r10 X10 => Q r10 X10)) ∧ (¬ x2 = x1 → (vp_in x1 6 ∧ (vp_in x1 6 ∧ (∀ X9, X9 = (db_si X1 (8 + 1 + 4 * (x1).toNatClampNeg) 4 x2) → Q (X1.1 (8 + 1 + 4 * (x1).toNatClampNeg) 4) X9))))))))))))
set_option maxHeartbeats 4000000 in
set_option maxRecDepth 100000 in
theorem ct_X10_lean {l : Launch} {E : db_E}  {X : db_St} {x1 : Int32} {x2 : Int32} {Q : Int32 → db_St → Prop} (h : wp_X10_lean  X x1 x2 Q) : db_MI l E yX10_lean wsX10_lean rm_X10_lean X [.ref (db_ad E 0), .int x1, .int x2] Q := by
  intro sz
  unfold wp_X10_lean at h
  refine Met.ofW (cc := cX10_lean) (maxL := 4) (ret := (some .int)) (by decide) rfl ?_
  intro p e s m args below meth c s₁ B hml hv
  obtain ⟨rfl, hsz, hU⟩ := hv
  subst hsz
  have S : CallFix p m c cX10_lean 4 s ([.ref (db_ad E 0), .int x1, .int x2] : List Value).toArray wsX10_lean RX10 := ⟨B.exec, B.bytes, hml, findClass_of_methodNamed B.named, atoms_spec (ws := wsX10_lean) B.pre⟩
  have hx := S.1
  have hb := S.2.1
  have hr := B.returns
  have hlocks := B.notSynchronized
  have hw := db_start hU
  have hiX0 : ∀ w ∈ wsX00, w ∈ wsX10_lean := fun w_ h_ => List.mem_cons_of_mem _ (List.mem_append_right _ h_)
  have hiX10 : ∀ w ∈ wsX100, w ∈ wsX10_lean := fun w_ h_ => List.mem_cons_of_mem _ (List.mem_append_left _ (List.mem_append_left _ (List.mem_append_right _ h_)))
  have hiX8 : ∀ w ∈ wsX80, w ∈ wsX10_lean := fun w_ h_ => List.mem_cons_of_mem _ (List.mem_append_left _ (List.mem_append_right _ h_))
  have hl := lv_entry ([.ref (db_ad E 0), .int x1, .int x2]) (n := 4) (Nat.le_of_ble_eq_true rfl)
  rw [lg_entry_eq]
  generalize (lg_sl ([.ref (db_ad E 0), .int x1, .int x2]) ++ List.replicate (4 - (lg_sl ([.ref (db_ad E 0), .int x1, .int x2])).length) Slot.unset).toArray = ls at hl ⊢
  have hl : lv_has ls 4 [(0, .ref (db_ad E 0)), (1, .int x1), (2, .int x2)] := hl
  refine lv_iload_n hx hb dX10_lean_0 rfl (lv_at hl 1 rfl) ?_
  refine db_callSi S hw (As := [.int x1]) (ct_X10_isBook  h) gX10_lean_X10_isBook rfl ⟨rfl, rfl, Nat.le_of_ble_eq_true rfl, Nat.le_of_ble_eq_true rfl⟩ 1 rfl (by decide +kernel) hl.1 rfl (Nat.le_of_ble_eq_true rfl) dX10_lean_1 ⟨Nat.zero_le _, Nat.zero_le _⟩ (fun r1 X1 H locs h hw => ?_)
  refine lv_if_eq (tgt := 23) hx hb dX10_lean_4 (by decide) (fun c14 => ?_) (fun c14 => ?_)
  · have h := h.1 c14
    refine lv_aload_n hx hb dX10_lean_23 rfl (lv_at hl 0 rfl) ?_
    refine lv_iconst (v := (-1 : Int32)) hx hb dX10_lean_24 (by decide) ?_
    refine db_callVi S hw (Nat.le_of_ble_eq_true rfl) db_s0 (C := RX10) (T := TX10) (N := 15) (As := [.int (-1 : Int32)]) rfl (ct_X10_refuse  h) gX10_lean_X10_refuse rfl ⟨rfl, rfl, Nat.le_of_ble_eq_true rfl, Nat.le_of_ble_eq_true rfl⟩ 1 rfl (by decide +kernel) hl.1 rfl (Nat.le_of_ble_eq_true rfl) dX10_lean_25 ⟨Nat.zero_le _, Nat.zero_le _⟩ (fun r2 X2 H locs h hw => ?_)
    exact db_iret S hr hlocks hw h dX10_lean_28
  · have h := h.2 c14
    refine lv_iload_n hx hb dX10_lean_7 rfl (lv_at hl 2 rfl) ?_
    refine lv_iconst (v := (-1 : Int32)) hx hb dX10_lean_8 (by decide) ?_
    refine lv_icmp_lt (tgt := 23) hx hb dX10_lean_9 (by decide) (fun c13 => ?_) (fun c13 => ?_)
    · have h := h.1 c13
      refine lv_aload_n hx hb dX10_lean_23 rfl (lv_at hl 0 rfl) ?_
      refine lv_iconst (v := (-1 : Int32)) hx hb dX10_lean_24 (by decide) ?_
      refine db_callVi S hw (Nat.le_of_ble_eq_true rfl) db_s0 (C := RX10) (T := TX10) (N := 15) (As := [.int (-1 : Int32)]) rfl (ct_X10_refuse  h) gX10_lean_X10_refuse rfl ⟨rfl, rfl, Nat.le_of_ble_eq_true rfl, Nat.le_of_ble_eq_true rfl⟩ 1 rfl (by decide +kernel) hl.1 rfl (Nat.le_of_ble_eq_true rfl) dX10_lean_25 ⟨Nat.zero_le _, Nat.zero_le _⟩ (fun r3 X3 H locs h hw => ?_)
      exact db_iret S hr hlocks hw h dX10_lean_28
    · have h := h.2 c13
      refine lv_iload_n hx hb dX10_lean_12 rfl (lv_at hl 2 rfl) ?_
      refine lv_bipush (v := (6 : Int32)) hx hb dX10_lean_13 (by decide) ?_
      refine lv_icmp_ge (tgt := 23) hx hb dX10_lean_15 (by decide) (fun c12 => ?_) (fun c12 => ?_)
      · have h := h.1 c12
        refine lv_aload_n hx hb dX10_lean_23 rfl (lv_at hl 0 rfl) ?_
        refine lv_iconst (v := (-1 : Int32)) hx hb dX10_lean_24 (by decide) ?_
        refine db_callVi S hw (Nat.le_of_ble_eq_true rfl) db_s0 (C := RX10) (T := TX10) (N := 15) (As := [.int (-1 : Int32)]) rfl (ct_X10_refuse  h) gX10_lean_X10_refuse rfl ⟨rfl, rfl, Nat.le_of_ble_eq_true rfl, Nat.le_of_ble_eq_true rfl⟩ 1 rfl (by decide +kernel) hl.1 rfl (Nat.le_of_ble_eq_true rfl) dX10_lean_25 ⟨Nat.zero_le _, Nat.zero_le _⟩ (fun r4 X4 H locs h hw => ?_)
        exact db_iret S hr hlocks hw h dX10_lean_28
      · have h := h.2 c12
        refine lv_iload_n hx hb dX10_lean_18 rfl (lv_at hl 2 rfl) ?_
        refine lv_iload_n hx hb dX10_lean_19 rfl (lv_at hl 1 rfl) ?_
        refine lv_icmp_ne (tgt := 29) hx hb dX10_lean_20 (by decide) (fun c11 => ?_) (fun c11 => ?_)
        · have h := h.2 c11
          refine lv_aload_n hx hb dX10_lean_29 rfl (lv_at hl 0 rfl) ?_
          refine db_getr S hw (Nat.le_of_ble_eq_true rfl) db_s0 (C := RX10) (T := TX10) (N := 15) rfl hiX10 4 (by decide) (r := 7) rfl (List.mem_of_getElem? (i := 1) rfl) dX10_lean_30 ?_
          refine db_getrN S hw (Nat.le_of_ble_eq_true rfl) db_s7 (C := RX8) (T := TX8) (N := 5) rfl hiX8 0 (by decide) (r := 8) rfl (List.mem_of_getElem? (i := 14) rfl) dX10_lean_33 ?_
          refine lv_iload_n hx hb dX10_lean_36 rfl (lv_at hl 1 rfl) ?_
          obtain ⟨g5, h⟩ := h
          have hB6 : db_kBook (8 + 1 + 4 * (x1).toNatClampNeg) := db_bk_of db_k7 g5
          refine db_aald S hw (Nat.le_of_ble_eq_true rfl) db_s8 g5 dX10_lean_37 ?_
          refine db_getiN S hw (db_kBook_l0 hB6) (db_kBook_s0 hB6) (C := RX0) (T := TX0) (N := 6) rfl hiX0 4 (by decide) rfl (List.mem_of_getElem? (i := 11) rfl) dX10_lean_38 ?_
          refine lv_istore_n (lv' := [(3, .int (X1.1 (8 + 1 + 4 * (x1).toNatClampNeg) 4)), (0, .ref (db_ad E 0)), (1, .int x1), (2, .int x2)]) hx hb dX10_lean_41 rfl hl (by decide) rfl (fun ls hl => ?_)
          refine lv_aload_n hx hb dX10_lean_42 rfl (lv_at hl 1 rfl) ?_
          refine db_getr S hw (Nat.le_of_ble_eq_true rfl) db_s0 (C := RX10) (T := TX10) (N := 15) rfl hiX10 4 (by decide) (r := 7) rfl (List.mem_of_getElem? (i := 1) rfl) dX10_lean_43 ?_
          refine db_getrN S hw (Nat.le_of_ble_eq_true rfl) db_s7 (C := RX8) (T := TX8) (N := 5) rfl hiX8 0 (by decide) (r := 8) rfl (List.mem_of_getElem? (i := 14) rfl) dX10_lean_46 ?_
          refine lv_iload_n hx hb dX10_lean_49 rfl (lv_at hl 2 rfl) ?_
          obtain ⟨g7, h⟩ := h
          have hB8 : db_kBook (8 + 1 + 4 * (x1).toNatClampNeg) := db_bk_of db_k7 g7
          refine db_aald S hw (Nat.le_of_ble_eq_true rfl) db_s8 g7 dX10_lean_50 ?_
          refine lv_iload_n hx hb dX10_lean_51 rfl (lv_at hl 3 rfl) ?_
          refine db_putiN S hw (db_kBook_l0 hB8) (db_kBook_s0 hB8) (C := RX0) (T := TX0) (N := 6) rfl hiX0 tyX0_ok nmX0 4 (by decide) rfl (List.mem_of_getElem? (i := 11) rfl) rfl ⟨rfl, rfl⟩ dX10_lean_52 (fun H locs hw => ?_)
          obtain ⟨X9, e9, hw⟩ : ∃ Z_, Z_ = (db_si X1 (8 + 1 + 4 * (x1).toNatClampNeg) 4 x2) ∧ db_HW E (db_Aw E s.heap.size) s Z_ H locs := ⟨_, rfl, hw⟩
          have h := h X9 e9
          refine lv_iload_n hx hb dX10_lean_55 rfl (lv_at hl 0 rfl) ?_
          exact db_iret S hr hlocks hw h dX10_lean_56
        · have h := h.1 c11
          refine lv_aload_n hx hb dX10_lean_23 rfl (lv_at hl 0 rfl) ?_
          refine lv_iconst (v := (-1 : Int32)) hx hb dX10_lean_24 (by decide) ?_
          refine db_callVi S hw (Nat.le_of_ble_eq_true rfl) db_s0 (C := RX10) (T := TX10) (N := 15) (As := [.int (-1 : Int32)]) rfl (ct_X10_refuse  h) gX10_lean_X10_refuse rfl ⟨rfl, rfl, Nat.le_of_ble_eq_true rfl, Nat.le_of_ble_eq_true rfl⟩ 1 rfl (by decide +kernel) hl.1 rfl (Nat.le_of_ble_eq_true rfl) dX10_lean_25 ⟨Nat.zero_le _, Nat.zero_le _⟩ (fun r10 X10 H locs h hw => ?_)
          exact db_iret S hr hlocks hw h dX10_lean_28
-- DaysOnBread.mode(II)I
abbrev rm_X10_mode : Room := { frames := 1, cells := 0, slots := 0, locals := 21 }
def wp_X10_mode  (X : db_St) (x1 : Int32) (x2 : Int32) (Q : Int32 → db_St → Prop) : Prop := wp_X10_isBook X x1 (fun r1 X1 => ((r1 = 0 → wp_X10_refuse X1 (-1 : Int32) (fun r11 X11 => Q r11 X11)) ∧ (¬ r1 = 0 → ((x2 < 0 → wp_X10_refuse X1 (-2 : Int32) (fun r2 X2 => Q r2 X2)) ∧ (¬ (x2 < 0) → ((x2 ≤ (2 : Int32) → (vp_in x1 6 ∧ (vp_in x1 6 ∧ (∀ X7, X7 = (db_si X1 (8 + 1 + 4 * (x1).toNatClampNeg) 5 x2) → Q (X1.1 (8 + 1 + 4 * (x1).toNatClampNeg) 5) X7)))) ∧ (¬ (x2 ≤ (2 : Int32)) → wp_X10_refuse X1 (-2 : Int32) (fun r8 X8 => Q r8 X8))))))))
set_option maxHeartbeats 4000000 in
set_option maxRecDepth 100000 in
theorem ct_X10_mode {l : Launch} {E : db_E}  {X : db_St} {x1 : Int32} {x2 : Int32} {Q : Int32 → db_St → Prop} (h : wp_X10_mode  X x1 x2 Q) : db_MI l E yX10_mode wsX10_mode rm_X10_mode X [.ref (db_ad E 0), .int x1, .int x2] Q := by
  intro sz
  unfold wp_X10_mode at h
  refine Met.ofW (cc := cX10_mode) (maxL := 4) (ret := (some .int)) (by decide) rfl ?_
  intro p e s m args below meth c s₁ B hml hv
  obtain ⟨rfl, hsz, hU⟩ := hv
  subst hsz
  have S : CallFix p m c cX10_mode 4 s ([.ref (db_ad E 0), .int x1, .int x2] : List Value).toArray wsX10_mode RX10 := ⟨B.exec, B.bytes, hml, findClass_of_methodNamed B.named, atoms_spec (ws := wsX10_mode) B.pre⟩
  have hx := S.1
  have hb := S.2.1
  have hr := B.returns
  have hlocks := B.notSynchronized
  have hw := db_start hU
  have hiX0 : ∀ w ∈ wsX00, w ∈ wsX10_mode := fun w_ h_ => List.mem_cons_of_mem _ (List.mem_append_right _ h_)
  have hiX10 : ∀ w ∈ wsX100, w ∈ wsX10_mode := fun w_ h_ => List.mem_cons_of_mem _ (List.mem_append_left _ (List.mem_append_left _ (List.mem_append_right _ h_)))
  have hiX8 : ∀ w ∈ wsX80, w ∈ wsX10_mode := fun w_ h_ => List.mem_cons_of_mem _ (List.mem_append_left _ (List.mem_append_right _ h_))
  have hl := lv_entry ([.ref (db_ad E 0), .int x1, .int x2]) (n := 4) (Nat.le_of_ble_eq_true rfl)
  rw [lg_entry_eq]
  generalize (lg_sl ([.ref (db_ad E 0), .int x1, .int x2]) ++ List.replicate (4 - (lg_sl ([.ref (db_ad E 0), .int x1, .int x2])).length) Slot.unset).toArray = ls at hl ⊢
  have hl : lv_has ls 4 [(0, .ref (db_ad E 0)), (1, .int x1), (2, .int x2)] := hl
  refine lv_iload_n hx hb dX10_mode_0 rfl (lv_at hl 1 rfl) ?_
  refine db_callSi S hw (As := [.int x1]) (ct_X10_isBook  h) gX10_mode_X10_isBook rfl ⟨rfl, rfl, Nat.le_of_ble_eq_true rfl, Nat.le_of_ble_eq_true rfl⟩ 1 rfl (by decide +kernel) hl.1 rfl (Nat.le_of_ble_eq_true rfl) dX10_mode_1 ⟨Nat.zero_le _, Nat.zero_le _⟩ (fun r1 X1 H locs h hw => ?_)
  refine lv_if_ne (tgt := 13) hx hb dX10_mode_4 (by decide) (fun c12 => ?_) (fun c12 => ?_)
  · have h := h.2 c12
    refine lv_iload_n hx hb dX10_mode_13 rfl (lv_at hl 2 rfl) ?_
    refine lv_if_lt (tgt := 22) hx hb dX10_mode_14 (by decide) (fun c10 => ?_) (fun c10 => ?_)
    · have h := h.1 c10
      refine lv_aload_n hx hb dX10_mode_22 rfl (lv_at hl 0 rfl) ?_
      refine lv_bipush (v := (-2 : Int32)) hx hb dX10_mode_23 (by decide) ?_
      refine db_callVi S hw (Nat.le_of_ble_eq_true rfl) db_s0 (C := RX10) (T := TX10) (N := 15) (As := [.int (-2 : Int32)]) rfl (ct_X10_refuse  h) gX10_mode_X10_refuse rfl ⟨rfl, rfl, Nat.le_of_ble_eq_true rfl, Nat.le_of_ble_eq_true rfl⟩ 1 rfl (by decide +kernel) hl.1 rfl (Nat.le_of_ble_eq_true rfl) dX10_mode_25 ⟨Nat.zero_le _, Nat.zero_le _⟩ (fun r2 X2 H locs h hw => ?_)
      exact db_iret S hr hlocks hw h dX10_mode_28
    · have h := h.2 c10
      refine lv_iload_n hx hb dX10_mode_17 rfl (lv_at hl 2 rfl) ?_
      refine lv_iconst (v := (2 : Int32)) hx hb dX10_mode_18 (by decide) ?_
      refine lv_icmp_le (tgt := 29) hx hb dX10_mode_19 (by decide) (fun c9 => ?_) (fun c9 => ?_)
      · have h := h.1 c9
        refine lv_aload_n hx hb dX10_mode_29 rfl (lv_at hl 0 rfl) ?_
        refine db_getr S hw (Nat.le_of_ble_eq_true rfl) db_s0 (C := RX10) (T := TX10) (N := 15) rfl hiX10 4 (by decide) (r := 7) rfl (List.mem_of_getElem? (i := 1) rfl) dX10_mode_30 ?_
        refine db_getrN S hw (Nat.le_of_ble_eq_true rfl) db_s7 (C := RX8) (T := TX8) (N := 5) rfl hiX8 0 (by decide) (r := 8) rfl (List.mem_of_getElem? (i := 14) rfl) dX10_mode_33 ?_
        refine lv_iload_n hx hb dX10_mode_36 rfl (lv_at hl 1 rfl) ?_
        obtain ⟨g3, h⟩ := h
        have hB4 : db_kBook (8 + 1 + 4 * (x1).toNatClampNeg) := db_bk_of db_k7 g3
        refine db_aald S hw (Nat.le_of_ble_eq_true rfl) db_s8 g3 dX10_mode_37 ?_
        refine db_getiN S hw (db_kBook_l0 hB4) (db_kBook_s0 hB4) (C := RX0) (T := TX0) (N := 6) rfl hiX0 5 (by decide) rfl (List.mem_of_getElem? (i := 12) rfl) dX10_mode_38 ?_
        refine lv_istore_n (lv' := [(3, .int (X1.1 (8 + 1 + 4 * (x1).toNatClampNeg) 5)), (0, .ref (db_ad E 0)), (1, .int x1), (2, .int x2)]) hx hb dX10_mode_41 rfl hl (by decide) rfl (fun ls hl => ?_)
        refine lv_aload_n hx hb dX10_mode_42 rfl (lv_at hl 1 rfl) ?_
        refine db_getr S hw (Nat.le_of_ble_eq_true rfl) db_s0 (C := RX10) (T := TX10) (N := 15) rfl hiX10 4 (by decide) (r := 7) rfl (List.mem_of_getElem? (i := 1) rfl) dX10_mode_43 ?_
        refine db_getrN S hw (Nat.le_of_ble_eq_true rfl) db_s7 (C := RX8) (T := TX8) (N := 5) rfl hiX8 0 (by decide) (r := 8) rfl (List.mem_of_getElem? (i := 14) rfl) dX10_mode_46 ?_
        refine lv_iload_n hx hb dX10_mode_49 rfl (lv_at hl 2 rfl) ?_
        obtain ⟨g5, h⟩ := h
        have hB6 : db_kBook (8 + 1 + 4 * (x1).toNatClampNeg) := db_bk_of db_k7 g5
        refine db_aald S hw (Nat.le_of_ble_eq_true rfl) db_s8 g5 dX10_mode_50 ?_
        refine lv_iload_n hx hb dX10_mode_51 rfl (lv_at hl 3 rfl) ?_
        refine db_putiN S hw (db_kBook_l0 hB6) (db_kBook_s0 hB6) (C := RX0) (T := TX0) (N := 6) rfl hiX0 tyX0_ok nmX0 5 (by decide) rfl (List.mem_of_getElem? (i := 12) rfl) rfl ⟨rfl, rfl⟩ dX10_mode_52 (fun H locs hw => ?_)
        obtain ⟨X7, e7, hw⟩ : ∃ Z_, Z_ = (db_si X1 (8 + 1 + 4 * (x1).toNatClampNeg) 5 x2) ∧ db_HW E (db_Aw E s.heap.size) s Z_ H locs := ⟨_, rfl, hw⟩
        have h := h X7 e7
        refine lv_iload_n hx hb dX10_mode_55 rfl (lv_at hl 0 rfl) ?_
        exact db_iret S hr hlocks hw h dX10_mode_56
      · have h := h.2 c9
        refine lv_aload_n hx hb dX10_mode_22 rfl (lv_at hl 0 rfl) ?_
        refine lv_bipush (v := (-2 : Int32)) hx hb dX10_mode_23 (by decide) ?_
        refine db_callVi S hw (Nat.le_of_ble_eq_true rfl) db_s0 (C := RX10) (T := TX10) (N := 15) (As := [.int (-2 : Int32)]) rfl (ct_X10_refuse  h) gX10_mode_X10_refuse rfl ⟨rfl, rfl, Nat.le_of_ble_eq_true rfl, Nat.le_of_ble_eq_true rfl⟩ 1 rfl (by decide +kernel) hl.1 rfl (Nat.le_of_ble_eq_true rfl) dX10_mode_25 ⟨Nat.zero_le _, Nat.zero_le _⟩ (fun r8 X8 H locs h hw => ?_)
        exact db_iret S hr hlocks hw h dX10_mode_28
  · have h := h.1 c12
    refine lv_aload_n hx hb dX10_mode_7 rfl (lv_at hl 0 rfl) ?_
    refine lv_iconst (v := (-1 : Int32)) hx hb dX10_mode_8 (by decide) ?_
    refine db_callVi S hw (Nat.le_of_ble_eq_true rfl) db_s0 (C := RX10) (T := TX10) (N := 15) (As := [.int (-1 : Int32)]) rfl (ct_X10_refuse  h) gX10_mode_X10_refuse rfl ⟨rfl, rfl, Nat.le_of_ble_eq_true rfl, Nat.le_of_ble_eq_true rfl⟩ 1 rfl (by decide +kernel) hl.1 rfl (Nat.le_of_ble_eq_true rfl) dX10_mode_9 ⟨Nat.zero_le _, Nat.zero_le _⟩ (fun r11 X11 H locs h hw => ?_)
    exact db_iret S hr hlocks hw h dX10_mode_12
-- DaysOnBread.owes(III)I
abbrev rm_X10_owes : Room := { frames := 3, cells := 0, slots := 0, locals := 73 }
def wp_X10_owes  (X : db_St) (x1 : Int32) (x2 : Int32) (x3 : Int32) (Q : Int32 → db_St → Prop) : Prop := wp_X10_isBook X x1 (fun r1 X1 => ((r1 = 0 → wp_X10_refuse X1 (-1 : Int32) (fun r2 X2 => Q r2 X2)) ∧ (¬ (r1 = 0) → wp_X10_isDeed X1 x2 x3 (fun r3 X3 => ((r3 = 0 → wp_X10_refuse X3 (-1 : Int32) (fun r5 X5 => Q r5 X5)) ∧ (¬ r3 = 0 → wp_X8_daysFor X3 x1 x2 x3 (fun r4 X4 => Q r4 X4)))))))
set_option maxHeartbeats 4000000 in
set_option maxRecDepth 100000 in
theorem ct_X10_owes {l : Launch} {E : db_E}  {X : db_St} {x1 : Int32} {x2 : Int32} {x3 : Int32} {Q : Int32 → db_St → Prop} (h : wp_X10_owes  X x1 x2 x3 Q) : db_MI l E yX10_owes wsX10_owes rm_X10_owes X [.ref (db_ad E 0), .int x1, .int x2, .int x3] Q := by
  intro sz
  unfold wp_X10_owes at h
  refine Met.ofW (cc := cX10_owes) (maxL := 4) (ret := (some .int)) (by decide) rfl ?_
  intro p e s m args below meth c s₁ B hml hv
  obtain ⟨rfl, hsz, hU⟩ := hv
  subst hsz
  have S : CallFix p m c cX10_owes 4 s ([.ref (db_ad E 0), .int x1, .int x2, .int x3] : List Value).toArray wsX10_owes RX10 := ⟨B.exec, B.bytes, hml, findClass_of_methodNamed B.named, atoms_spec (ws := wsX10_owes) B.pre⟩
  have hx := S.1
  have hb := S.2.1
  have hr := B.returns
  have hlocks := B.notSynchronized
  have hw := db_start hU
  have hiX10 : ∀ w ∈ wsX100, w ∈ wsX10_owes := fun w_ h_ => List.mem_cons_of_mem _ (List.mem_append_left _ (List.mem_append_left _ (List.mem_append_right _ h_)))
  have hl := lv_entry ([.ref (db_ad E 0), .int x1, .int x2, .int x3]) (n := 4) (Nat.le_of_ble_eq_true rfl)
  rw [lg_entry_eq]
  generalize (lg_sl ([.ref (db_ad E 0), .int x1, .int x2, .int x3]) ++ List.replicate (4 - (lg_sl ([.ref (db_ad E 0), .int x1, .int x2, .int x3])).length) Slot.unset).toArray = ls at hl ⊢
  have hl : lv_has ls 4 [(0, .ref (db_ad E 0)), (1, .int x1), (2, .int x2), (3, .int x3)] := hl
  refine lv_iload_n hx hb dX10_owes_0 rfl (lv_at hl 1 rfl) ?_
  refine db_callSi S hw (As := [.int x1]) (ct_X10_isBook  h) gX10_owes_X10_isBook rfl ⟨rfl, rfl, Nat.le_of_ble_eq_true rfl, Nat.le_of_ble_eq_true rfl⟩ 1 rfl (by decide +kernel) hl.1 rfl (Nat.le_of_ble_eq_true rfl) dX10_owes_1 ⟨Nat.zero_le _, Nat.zero_le _⟩ (fun r1 X1 H locs h hw => ?_)
  refine lv_if_eq (tgt := 15) hx hb dX10_owes_4 (by decide) (fun c7 => ?_) (fun c7 => ?_)
  · have h := h.1 c7
    refine lv_aload_n hx hb dX10_owes_15 rfl (lv_at hl 0 rfl) ?_
    refine lv_iconst (v := (-1 : Int32)) hx hb dX10_owes_16 (by decide) ?_
    refine db_callVi S hw (Nat.le_of_ble_eq_true rfl) db_s0 (C := RX10) (T := TX10) (N := 15) (As := [.int (-1 : Int32)]) rfl (ct_X10_refuse  h) gX10_owes_X10_refuse rfl ⟨rfl, rfl, Nat.le_of_ble_eq_true rfl, Nat.le_of_ble_eq_true rfl⟩ 1 rfl (by decide +kernel) hl.1 rfl (Nat.le_of_ble_eq_true rfl) dX10_owes_17 ⟨Nat.zero_le _, Nat.zero_le _⟩ (fun r2 X2 H locs h hw => ?_)
    exact db_iret S hr hlocks hw h dX10_owes_20
  · have h := h.2 c7
    refine lv_iload_n hx hb dX10_owes_7 rfl (lv_at hl 2 rfl) ?_
    refine lv_iload_n hx hb dX10_owes_8 rfl (lv_at hl 3 rfl) ?_
    refine db_callSi S hw (As := [.int x2, .int x3]) (ct_X10_isDeed  h) gX10_owes_X10_isDeed rfl ⟨rfl, rfl, Nat.le_of_ble_eq_true rfl, Nat.le_of_ble_eq_true rfl⟩ 2 rfl (by decide +kernel) hl.1 rfl (Nat.le_of_ble_eq_true rfl) dX10_owes_9 ⟨Nat.zero_le _, Nat.zero_le _⟩ (fun r3 X3 H locs h hw => ?_)
    refine lv_if_ne (tgt := 21) hx hb dX10_owes_12 (by decide) (fun c6 => ?_) (fun c6 => ?_)
    · have h := h.2 c6
      refine lv_aload_n hx hb dX10_owes_21 rfl (lv_at hl 0 rfl) ?_
      refine db_getr S hw (Nat.le_of_ble_eq_true rfl) db_s0 (C := RX10) (T := TX10) (N := 15) rfl hiX10 4 (by decide) (r := 7) rfl (List.mem_of_getElem? (i := 1) rfl) dX10_owes_22 ?_
      refine lv_iload_n hx hb dX10_owes_25 rfl (lv_at hl 1 rfl) ?_
      refine lv_iload_n hx hb dX10_owes_26 rfl (lv_at hl 2 rfl) ?_
      refine lv_iload_n hx hb dX10_owes_27 rfl (lv_at hl 3 rfl) ?_
      refine db_callVi S hw (Nat.le_of_ble_eq_true rfl) db_s7 (C := RX8) (T := TX8) (N := 5) (As := [.int x1, .int x2, .int x3]) rfl (ct_X8_daysFor  h) gX10_owes_X8_daysFor rfl ⟨rfl, rfl, Nat.le_of_ble_eq_true rfl, Nat.le_of_ble_eq_true rfl⟩ 3 rfl (by decide +kernel) hl.1 rfl (Nat.le_of_ble_eq_true rfl) dX10_owes_28 ⟨Nat.zero_le _, Nat.zero_le _⟩ (fun r4 X4 H locs h hw => ?_)
      exact db_iret S hr hlocks hw h dX10_owes_31
    · have h := h.1 c6
      refine lv_aload_n hx hb dX10_owes_15 rfl (lv_at hl 0 rfl) ?_
      refine lv_iconst (v := (-1 : Int32)) hx hb dX10_owes_16 (by decide) ?_
      refine db_callVi S hw (Nat.le_of_ble_eq_true rfl) db_s0 (C := RX10) (T := TX10) (N := 15) (As := [.int (-1 : Int32)]) rfl (ct_X10_refuse  h) gX10_owes_X10_refuse rfl ⟨rfl, rfl, Nat.le_of_ble_eq_true rfl, Nat.le_of_ble_eq_true rfl⟩ 1 rfl (by decide +kernel) hl.1 rfl (Nat.le_of_ble_eq_true rfl) dX10_owes_17 ⟨Nat.zero_le _, Nat.zero_le _⟩ (fun r5 X5 H locs h hw => ?_)
      exact db_iret S hr hlocks hw h dX10_owes_20
-- DaysOnBread.why(III)I
abbrev rm_X10_why : Room := { frames := 2, cells := 0, slots := 0, locals := 48 }
def wp_X10_why  (X : db_St) (x1 : Int32) (x2 : Int32) (x3 : Int32) (Q : Int32 → db_St → Prop) : Prop := wp_X10_isBook X x1 (fun r1 X1 => ((r1 = 0 → wp_X10_refuse X1 (-1 : Int32) (fun r2 X2 => Q r2 X2)) ∧ (¬ (r1 = 0) → wp_X10_isDeed X1 x2 x3 (fun r3 X3 => ((r3 = 0 → wp_X10_refuse X3 (-1 : Int32) (fun r10 X10 => Q r10 X10)) ∧ (¬ r3 = 0 → wp_X8_teller X3 x1 x2 x3 (fun r4 X4 => wp_X10_isBook X4 r4 (fun r5 X5 => ((r5 = 0 → Q (-9 : Int32) X5) ∧ (¬ (r5 = 0) → (vp_in r4 6 ∧ wp_X0_firstFor (8 + 1 + 4 * (r4).toNatClampNeg) X5 x2 x3 (fun r8 X8 => Q (((10 : Int32) * r4) + r8) X8))))))))))))
set_option maxHeartbeats 4000000 in
set_option maxRecDepth 100000 in
theorem ct_X10_why {l : Launch} {E : db_E}  {X : db_St} {x1 : Int32} {x2 : Int32} {x3 : Int32} {Q : Int32 → db_St → Prop} (h : wp_X10_why  X x1 x2 x3 Q) : db_MI l E yX10_why wsX10_why rm_X10_why X [.ref (db_ad E 0), .int x1, .int x2, .int x3] Q := by
  intro sz
  unfold wp_X10_why at h
  refine Met.ofW (cc := cX10_why) (maxL := 5) (ret := (some .int)) (by decide) rfl ?_
  intro p e s m args below meth c s₁ B hml hv
  obtain ⟨rfl, hsz, hU⟩ := hv
  subst hsz
  have S : CallFix p m c cX10_why 5 s ([.ref (db_ad E 0), .int x1, .int x2, .int x3] : List Value).toArray wsX10_why RX10 := ⟨B.exec, B.bytes, hml, findClass_of_methodNamed B.named, atoms_spec (ws := wsX10_why) B.pre⟩
  have hx := S.1
  have hb := S.2.1
  have hr := B.returns
  have hlocks := B.notSynchronized
  have hw := db_start hU
  have hiX10 : ∀ w ∈ wsX100, w ∈ wsX10_why := fun w_ h_ => List.mem_cons_of_mem _ (List.mem_append_left _ (List.mem_append_left _ (List.mem_append_right _ h_)))
  have hiX8 : ∀ w ∈ wsX80, w ∈ wsX10_why := fun w_ h_ => List.mem_cons_of_mem _ (List.mem_append_left _ (List.mem_append_right _ h_))
  have hl := lv_entry ([.ref (db_ad E 0), .int x1, .int x2, .int x3]) (n := 5) (Nat.le_of_ble_eq_true rfl)
  rw [lg_entry_eq]
  generalize (lg_sl ([.ref (db_ad E 0), .int x1, .int x2, .int x3]) ++ List.replicate (5 - (lg_sl ([.ref (db_ad E 0), .int x1, .int x2, .int x3])).length) Slot.unset).toArray = ls at hl ⊢
  have hl : lv_has ls 5 [(0, .ref (db_ad E 0)), (1, .int x1), (2, .int x2), (3, .int x3)] := hl
  refine lv_iload_n hx hb dX10_why_0 rfl (lv_at hl 1 rfl) ?_
  refine db_callSi S hw (As := [.int x1]) (ct_X10_isBook  h) gX10_why_X10_isBook rfl ⟨rfl, rfl, Nat.le_of_ble_eq_true rfl, Nat.le_of_ble_eq_true rfl⟩ 1 rfl (by decide +kernel) hl.1 rfl (Nat.le_of_ble_eq_true rfl) dX10_why_1 ⟨Nat.zero_le _, Nat.zero_le _⟩ (fun r1 X1 H locs h hw => ?_)
  refine lv_if_eq (tgt := 15) hx hb dX10_why_4 (by decide) (fun c12 => ?_) (fun c12 => ?_)
  · have h := h.1 c12
    refine lv_aload_n hx hb dX10_why_15 rfl (lv_at hl 0 rfl) ?_
    refine lv_iconst (v := (-1 : Int32)) hx hb dX10_why_16 (by decide) ?_
    refine db_callVi S hw (Nat.le_of_ble_eq_true rfl) db_s0 (C := RX10) (T := TX10) (N := 15) (As := [.int (-1 : Int32)]) rfl (ct_X10_refuse  h) gX10_why_X10_refuse rfl ⟨rfl, rfl, Nat.le_of_ble_eq_true rfl, Nat.le_of_ble_eq_true rfl⟩ 1 rfl (by decide +kernel) hl.1 rfl (Nat.le_of_ble_eq_true rfl) dX10_why_17 ⟨Nat.zero_le _, Nat.zero_le _⟩ (fun r2 X2 H locs h hw => ?_)
    exact db_iret S hr hlocks hw h dX10_why_20
  · have h := h.2 c12
    refine lv_iload_n hx hb dX10_why_7 rfl (lv_at hl 2 rfl) ?_
    refine lv_iload_n hx hb dX10_why_8 rfl (lv_at hl 3 rfl) ?_
    refine db_callSi S hw (As := [.int x2, .int x3]) (ct_X10_isDeed  h) gX10_why_X10_isDeed rfl ⟨rfl, rfl, Nat.le_of_ble_eq_true rfl, Nat.le_of_ble_eq_true rfl⟩ 2 rfl (by decide +kernel) hl.1 rfl (Nat.le_of_ble_eq_true rfl) dX10_why_9 ⟨Nat.zero_le _, Nat.zero_le _⟩ (fun r3 X3 H locs h hw => ?_)
    refine lv_if_ne (tgt := 21) hx hb dX10_why_12 (by decide) (fun c11 => ?_) (fun c11 => ?_)
    · have h := h.2 c11
      refine lv_aload_n hx hb dX10_why_21 rfl (lv_at hl 0 rfl) ?_
      refine db_getr S hw (Nat.le_of_ble_eq_true rfl) db_s0 (C := RX10) (T := TX10) (N := 15) rfl hiX10 4 (by decide) (r := 7) rfl (List.mem_of_getElem? (i := 1) rfl) dX10_why_22 ?_
      refine lv_iload_n hx hb dX10_why_25 rfl (lv_at hl 1 rfl) ?_
      refine lv_iload_n hx hb dX10_why_26 rfl (lv_at hl 2 rfl) ?_
      refine lv_iload_n hx hb dX10_why_27 rfl (lv_at hl 3 rfl) ?_
      refine db_callVi S hw (Nat.le_of_ble_eq_true rfl) db_s7 (C := RX8) (T := TX8) (N := 5) (As := [.int x1, .int x2, .int x3]) rfl (ct_X8_teller  h) gX10_why_X8_teller rfl ⟨rfl, rfl, Nat.le_of_ble_eq_true rfl, Nat.le_of_ble_eq_true rfl⟩ 3 rfl (by decide +kernel) hl.1 rfl (Nat.le_of_ble_eq_true rfl) dX10_why_28 ⟨Nat.zero_le _, Nat.zero_le _⟩ (fun r4 X4 H locs h hw => ?_)
      refine lv_istore (lv' := [(4, .int r4), (0, .ref (db_ad E 0)), (1, .int x1), (2, .int x2), (3, .int x3)]) hx hb dX10_why_31 hl (by decide) rfl (fun ls hl => ?_)
      refine lv_iload hx hb dX10_why_33 (lv_at hl 0 rfl) ?_
      refine db_callSi S hw (As := [.int r4]) (ct_X10_isBook  h) gX10_why_X10_isBook rfl ⟨rfl, rfl, Nat.le_of_ble_eq_true rfl, Nat.le_of_ble_eq_true rfl⟩ 1 rfl (by decide +kernel) hl.1 rfl (Nat.le_of_ble_eq_true rfl) dX10_why_35 ⟨Nat.zero_le _, Nat.zero_le _⟩ (fun r5 X5 H locs h hw => ?_)
      refine lv_if_eq (tgt := 65) hx hb dX10_why_38 (by decide) (fun c9 => ?_) (fun c9 => ?_)
      · have h := h.1 c9
        refine lv_bipush (v := (-9 : Int32)) hx hb dX10_why_65 (by decide) ?_
        exact db_iret S hr hlocks hw h dX10_why_67
      · have h := h.2 c9
        refine lv_bipush (v := (10 : Int32)) hx hb dX10_why_41 (by decide) ?_
        refine lv_iload hx hb dX10_why_43 (lv_at hl 0 rfl) ?_
        refine lv_imul hx hb dX10_why_45 ?_
        refine lv_aload_n hx hb dX10_why_46 rfl (lv_at hl 1 rfl) ?_
        refine db_getr S hw (Nat.le_of_ble_eq_true rfl) db_s0 (C := RX10) (T := TX10) (N := 15) rfl hiX10 4 (by decide) (r := 7) rfl (List.mem_of_getElem? (i := 1) rfl) dX10_why_47 ?_
        refine db_getrN S hw (Nat.le_of_ble_eq_true rfl) db_s7 (C := RX8) (T := TX8) (N := 5) rfl hiX8 0 (by decide) (r := 8) rfl (List.mem_of_getElem? (i := 14) rfl) dX10_why_50 ?_
        refine lv_iload hx hb dX10_why_53 (lv_at hl 0 rfl) ?_
        obtain ⟨g6, h⟩ := h
        have hB7 : db_kBook (8 + 1 + 4 * (r4).toNatClampNeg) := db_bk_of db_k7 g6
        refine db_aald S hw (Nat.le_of_ble_eq_true rfl) db_s8 g6 dX10_why_55 ?_
        refine lv_iload_n hx hb dX10_why_56 rfl (lv_at hl 3 rfl) ?_
        refine lv_iload_n hx hb dX10_why_57 rfl (lv_at hl 4 rfl) ?_
        refine db_callVi S hw (db_kBook_l0 hB7) (db_kBook_s0 hB7) (C := RX0) (T := TX0) (N := 6) (As := [.int x2, .int x3]) rfl (ct_X0_firstFor hB7 h) gX10_why_X0_firstFor rfl ⟨rfl, rfl, Nat.le_of_ble_eq_true rfl, Nat.le_of_ble_eq_true rfl⟩ 2 rfl (by decide +kernel) hl.1 rfl (Nat.le_of_ble_eq_true rfl) dX10_why_58 ⟨Nat.zero_le _, Nat.zero_le _⟩ (fun r8 X8 H locs h hw => ?_)
        refine lv_iadd hx hb dX10_why_61 ?_
        refine lv_goto (tgt := 67) hx hb dX10_why_62 (by decide) ?_
        exact db_iret S hr hlocks hw h dX10_why_67
    · have h := h.1 c11
      refine lv_aload_n hx hb dX10_why_15 rfl (lv_at hl 0 rfl) ?_
      refine lv_iconst (v := (-1 : Int32)) hx hb dX10_why_16 (by decide) ?_
      refine db_callVi S hw (Nat.le_of_ble_eq_true rfl) db_s0 (C := RX10) (T := TX10) (N := 15) (As := [.int (-1 : Int32)]) rfl (ct_X10_refuse  h) gX10_why_X10_refuse rfl ⟨rfl, rfl, Nat.le_of_ble_eq_true rfl, Nat.le_of_ble_eq_true rfl⟩ 1 rfl (by decide +kernel) hl.1 rfl (Nat.le_of_ble_eq_true rfl) dX10_why_17 ⟨Nat.zero_le _, Nat.zero_le _⟩ (fun r10 X10 H locs h hw => ?_)
      exact db_iret S hr hlocks hw h dX10_why_20
-- DaysOnBread.done(IIZ)I
abbrev rm_X10_done : Room := { frames := 1, cells := 0, slots := 0, locals := 23 }
def wp_X10_done  (X : db_St) (x1 : Int32) (x2 : Int32) (x3 : Int32) (Q : Int32 → db_St → Prop) : Prop := wp_X10_isDeed X x1 x2 (fun r1 X1 => ((r1 = 0 → wp_X10_refuse X1 (-1 : Int32) (fun r5 X5 => Q r5 X5)) ∧ (¬ r1 = 0 → (((X1.1 7 4) < (12 : Int32) → wp_X8_addDone X1 x1 x2 x3 (fun r2 X2 => Q r2 X2)) ∧ (¬ ((X1.1 7 4) < (12 : Int32)) → wp_X10_refuse X1 (-6 : Int32) (fun r3 X3 => Q r3 X3))))))
set_option maxHeartbeats 4000000 in
set_option maxRecDepth 100000 in
theorem ct_X10_done {l : Launch} {E : db_E}  {X : db_St} {x1 : Int32} {x2 : Int32} {x3 : Int32} {Q : Int32 → db_St → Prop} (h : wp_X10_done  X x1 x2 x3 Q) : db_MI l E yX10_done wsX10_done rm_X10_done X [.ref (db_ad E 0), .int x1, .int x2, .int x3] Q := by
  intro sz
  unfold wp_X10_done at h
  refine Met.ofW (cc := cX10_done) (maxL := 4) (ret := (some .int)) (by decide) rfl ?_
  intro p e s m args below meth c s₁ B hml hv
  obtain ⟨rfl, hsz, hU⟩ := hv
  subst hsz
  have S : CallFix p m c cX10_done 4 s ([.ref (db_ad E 0), .int x1, .int x2, .int x3] : List Value).toArray wsX10_done RX10 := ⟨B.exec, B.bytes, hml, findClass_of_methodNamed B.named, atoms_spec (ws := wsX10_done) B.pre⟩
  have hx := S.1
  have hb := S.2.1
  have hr := B.returns
  have hlocks := B.notSynchronized
  have hw := db_start hU
  have hiX10 : ∀ w ∈ wsX100, w ∈ wsX10_done := fun w_ h_ => List.mem_cons_of_mem _ (List.mem_append_left _ (List.mem_append_right _ h_))
  have hiX8 : ∀ w ∈ wsX80, w ∈ wsX10_done := fun w_ h_ => List.mem_cons_of_mem _ (List.mem_append_right _ h_)
  have hl := lv_entry ([.ref (db_ad E 0), .int x1, .int x2, .int x3]) (n := 4) (Nat.le_of_ble_eq_true rfl)
  rw [lg_entry_eq]
  generalize (lg_sl ([.ref (db_ad E 0), .int x1, .int x2, .int x3]) ++ List.replicate (4 - (lg_sl ([.ref (db_ad E 0), .int x1, .int x2, .int x3])).length) Slot.unset).toArray = ls at hl ⊢
  have hl : lv_has ls 4 [(0, .ref (db_ad E 0)), (1, .int x1), (2, .int x2), (3, .int x3)] := hl
  refine lv_iload_n hx hb dX10_done_0 rfl (lv_at hl 1 rfl) ?_
  refine lv_iload_n hx hb dX10_done_1 rfl (lv_at hl 2 rfl) ?_
  refine db_callSi S hw (As := [.int x1, .int x2]) (ct_X10_isDeed  h) gX10_done_X10_isDeed rfl ⟨rfl, rfl, Nat.le_of_ble_eq_true rfl, Nat.le_of_ble_eq_true rfl⟩ 2 rfl (by decide +kernel) hl.1 rfl (Nat.le_of_ble_eq_true rfl) dX10_done_2 ⟨Nat.zero_le _, Nat.zero_le _⟩ (fun r1 X1 H locs h hw => ?_)
  refine lv_if_ne (tgt := 14) hx hb dX10_done_5 (by decide) (fun c6 => ?_) (fun c6 => ?_)
  · have h := h.2 c6
    refine lv_aload_n hx hb dX10_done_14 rfl (lv_at hl 0 rfl) ?_
    refine db_getr S hw (Nat.le_of_ble_eq_true rfl) db_s0 (C := RX10) (T := TX10) (N := 15) rfl hiX10 4 (by decide) (r := 7) rfl (List.mem_of_getElem? (i := 1) rfl) dX10_done_15 ?_
    refine db_getiN S hw (Nat.le_of_ble_eq_true rfl) db_s7 (C := RX8) (T := TX8) (N := 5) rfl hiX8 4 (by decide) rfl (List.mem_of_getElem? (i := 15) rfl) dX10_done_18 ?_
    refine lv_bipush (v := (12 : Int32)) hx hb dX10_done_21 (by decide) ?_
    refine lv_icmp_lt (tgt := 33) hx hb dX10_done_23 (by decide) (fun c4 => ?_) (fun c4 => ?_)
    · have h := h.1 c4
      refine lv_aload_n hx hb dX10_done_33 rfl (lv_at hl 0 rfl) ?_
      refine db_getr S hw (Nat.le_of_ble_eq_true rfl) db_s0 (C := RX10) (T := TX10) (N := 15) rfl hiX10 4 (by decide) (r := 7) rfl (List.mem_of_getElem? (i := 1) rfl) dX10_done_34 ?_
      refine lv_iload_n hx hb dX10_done_37 rfl (lv_at hl 1 rfl) ?_
      refine lv_iload_n hx hb dX10_done_38 rfl (lv_at hl 2 rfl) ?_
      refine lv_iload_n hx hb dX10_done_39 rfl (lv_at hl 3 rfl) ?_
      refine db_callVi S hw (Nat.le_of_ble_eq_true rfl) db_s7 (C := RX8) (T := TX8) (N := 5) (As := [.int x1, .int x2, .int x3]) rfl (ct_X8_addDone  h) gX10_done_X8_addDone rfl ⟨rfl, rfl, Nat.le_of_ble_eq_true rfl, Nat.le_of_ble_eq_true rfl⟩ 3 rfl (by decide +kernel) hl.1 rfl (Nat.le_of_ble_eq_true rfl) dX10_done_40 ⟨Nat.zero_le _, Nat.zero_le _⟩ (fun r2 X2 H locs h hw => ?_)
      exact db_iret S hr hlocks hw h dX10_done_43
    · have h := h.2 c4
      refine lv_aload_n hx hb dX10_done_26 rfl (lv_at hl 0 rfl) ?_
      refine lv_bipush (v := (-6 : Int32)) hx hb dX10_done_27 (by decide) ?_
      refine db_callVi S hw (Nat.le_of_ble_eq_true rfl) db_s0 (C := RX10) (T := TX10) (N := 15) (As := [.int (-6 : Int32)]) rfl (ct_X10_refuse  h) gX10_done_X10_refuse rfl ⟨rfl, rfl, Nat.le_of_ble_eq_true rfl, Nat.le_of_ble_eq_true rfl⟩ 1 rfl (by decide +kernel) hl.1 rfl (Nat.le_of_ble_eq_true rfl) dX10_done_29 ⟨Nat.zero_le _, Nat.zero_le _⟩ (fun r3 X3 H locs h hw => ?_)
      exact db_iret S hr hlocks hw h dX10_done_32
  · have h := h.1 c6
    refine lv_aload_n hx hb dX10_done_8 rfl (lv_at hl 0 rfl) ?_
    refine lv_iconst (v := (-1 : Int32)) hx hb dX10_done_9 (by decide) ?_
    refine db_callVi S hw (Nat.le_of_ble_eq_true rfl) db_s0 (C := RX10) (T := TX10) (N := 15) (As := [.int (-1 : Int32)]) rfl (ct_X10_refuse  h) gX10_done_X10_refuse rfl ⟨rfl, rfl, Nat.le_of_ble_eq_true rfl, Nat.le_of_ble_eq_true rfl⟩ 1 rfl (by decide +kernel) hl.1 rfl (Nat.le_of_ble_eq_true rfl) dX10_done_10 ⟨Nat.zero_le _, Nat.zero_le _⟩ (fun r5 X5 H locs h hw => ?_)
    exact db_iret S hr hlocks hw h dX10_done_13
-- DaysOnBread.undone()I
abbrev rm_X10_undone : Room := { frames := 0, cells := 0, slots := 0, locals := 0 }
def wp_X10_undone  (X : db_St)  (Q : Int32 → db_St → Prop) : Prop := (∀ X1, X1 = (db_si X 7 4 (0 : Int32)) → Q (X.1 7 4) X1)
set_option maxHeartbeats 4000000 in
set_option maxRecDepth 100000 in
theorem ct_X10_undone {l : Launch} {E : db_E}  {X : db_St}  {Q : Int32 → db_St → Prop} (h : wp_X10_undone  X  Q) : db_MI l E yX10_undone wsX10_undone rm_X10_undone X [.ref (db_ad E 0)] Q := by
  intro sz
  unfold wp_X10_undone at h
  refine Met.ofW (cc := cX10_undone) (maxL := 2) (ret := (some .int)) (by decide) rfl ?_
  intro p e s m args below meth c s₁ B hml hv
  obtain ⟨rfl, hsz, hU⟩ := hv
  subst hsz
  have S : CallFix p m c cX10_undone 2 s ([.ref (db_ad E 0)] : List Value).toArray wsX10_undone RX10 := ⟨B.exec, B.bytes, hml, findClass_of_methodNamed B.named, atoms_spec (ws := wsX10_undone) B.pre⟩
  have hx := S.1
  have hb := S.2.1
  have hr := B.returns
  have hlocks := B.notSynchronized
  have hw := db_start hU
  have hiX10 : ∀ w ∈ wsX100, w ∈ wsX10_undone := fun w_ h_ => List.mem_cons_of_mem _ (List.mem_append_left _ (List.mem_append_right _ h_))
  have hiX8 : ∀ w ∈ wsX80, w ∈ wsX10_undone := fun w_ h_ => List.mem_cons_of_mem _ (List.mem_append_right _ h_)
  have hl := lv_entry ([.ref (db_ad E 0)]) (n := 2) (Nat.le_of_ble_eq_true rfl)
  rw [lg_entry_eq]
  generalize (lg_sl ([.ref (db_ad E 0)]) ++ List.replicate (2 - (lg_sl ([.ref (db_ad E 0)])).length) Slot.unset).toArray = ls at hl ⊢
  have hl : lv_has ls 2 [(0, .ref (db_ad E 0))] := hl
  refine lv_aload_n hx hb dX10_undone_0 rfl (lv_at hl 0 rfl) ?_
  refine db_getr S hw (Nat.le_of_ble_eq_true rfl) db_s0 (C := RX10) (T := TX10) (N := 15) rfl hiX10 4 (by decide) (r := 7) rfl (List.mem_of_getElem? (i := 1) rfl) dX10_undone_1 ?_
  refine db_getiN S hw (Nat.le_of_ble_eq_true rfl) db_s7 (C := RX8) (T := TX8) (N := 5) rfl hiX8 4 (by decide) rfl (List.mem_of_getElem? (i := 15) rfl) dX10_undone_4 ?_
  refine lv_istore_n (lv' := [(1, .int (X.1 7 4)), (0, .ref (db_ad E 0))]) hx hb dX10_undone_7 rfl hl (by decide) rfl (fun ls hl => ?_)
  refine lv_aload_n hx hb dX10_undone_8 rfl (lv_at hl 1 rfl) ?_
  refine db_getr S hw (Nat.le_of_ble_eq_true rfl) db_s0 (C := RX10) (T := TX10) (N := 15) rfl hiX10 4 (by decide) (r := 7) rfl (List.mem_of_getElem? (i := 1) rfl) dX10_undone_9 ?_
  refine lv_iconst (v := (0 : Int32)) hx hb dX10_undone_12 (by decide) ?_
  refine db_putiN S hw (Nat.le_of_ble_eq_true rfl) db_s7 (C := RX8) (T := TX8) (N := 5) rfl hiX8 tyX8_ok nmX8 4 (by decide) rfl (List.mem_of_getElem? (i := 15) rfl) rfl ⟨rfl, rfl⟩ dX10_undone_13 (fun H locs hw => ?_)
  obtain ⟨X1, e1, hw⟩ : ∃ Z_, Z_ = (db_si X 7 4 (0 : Int32)) ∧ db_HW E (db_Aw E s.heap.size) s Z_ H locs := ⟨_, rfl, hw⟩
  have h := h X1 e1
  refine lv_iload_n hx hb dX10_undone_16 rfl (lv_at hl 0 rfl) ?_
  exact db_iret S hr hlocks hw h dX10_undone_17
-- DaysOnBread.together(I)I
abbrev rm_X10_together : Room := { frames := 4, cells := 0, slots := 0, locals := 99 }
def wp_X10_together  (X : db_St) (x1 : Int32) (Q : Int32 → db_St → Prop) : Prop := wp_X10_isBook X x1 (fun r1 X1 => ((r1 = 0 → wp_X10_refuse X1 (-1 : Int32) (fun r2 X2 => Q r2 X2)) ∧ (¬ (r1 = 0) → wp_X8_allDone X1 x1 (fun r3 X3 => Q r3 X3))))
set_option maxHeartbeats 4000000 in
set_option maxRecDepth 100000 in
theorem ct_X10_together {l : Launch} {E : db_E}  {X : db_St} {x1 : Int32} {Q : Int32 → db_St → Prop} (h : wp_X10_together  X x1 Q) : db_MI l E yX10_together wsX10_together rm_X10_together X [.ref (db_ad E 0), .int x1] Q := by
  intro sz
  unfold wp_X10_together at h
  refine Met.ofW (cc := cX10_together) (maxL := 2) (ret := (some .int)) (by decide) rfl ?_
  intro p e s m args below meth c s₁ B hml hv
  obtain ⟨rfl, hsz, hU⟩ := hv
  subst hsz
  have S : CallFix p m c cX10_together 2 s ([.ref (db_ad E 0), .int x1] : List Value).toArray wsX10_together RX10 := ⟨B.exec, B.bytes, hml, findClass_of_methodNamed B.named, atoms_spec (ws := wsX10_together) B.pre⟩
  have hx := S.1
  have hb := S.2.1
  have hr := B.returns
  have hlocks := B.notSynchronized
  have hw := db_start hU
  have hiX10 : ∀ w ∈ wsX100, w ∈ wsX10_together := fun w_ h_ => List.mem_cons_of_mem _ (List.mem_append_left _ (List.mem_append_left _ (List.mem_append_right _ h_)))
  have hl := lv_entry ([.ref (db_ad E 0), .int x1]) (n := 2) (Nat.le_of_ble_eq_true rfl)
  rw [lg_entry_eq]
  generalize (lg_sl ([.ref (db_ad E 0), .int x1]) ++ List.replicate (2 - (lg_sl ([.ref (db_ad E 0), .int x1])).length) Slot.unset).toArray = ls at hl ⊢
  have hl : lv_has ls 2 [(0, .ref (db_ad E 0)), (1, .int x1)] := hl
  refine lv_iload_n hx hb dX10_together_0 rfl (lv_at hl 1 rfl) ?_
  refine db_callSi S hw (As := [.int x1]) (ct_X10_isBook  h) gX10_together_X10_isBook rfl ⟨rfl, rfl, Nat.le_of_ble_eq_true rfl, Nat.le_of_ble_eq_true rfl⟩ 1 rfl (by decide +kernel) hl.1 rfl (Nat.le_of_ble_eq_true rfl) dX10_together_1 ⟨Nat.zero_le _, Nat.zero_le _⟩ (fun r1 X1 H locs h hw => ?_)
  refine lv_if_eq (tgt := 18) hx hb dX10_together_4 (by decide) (fun c4 => ?_) (fun c4 => ?_)
  · have h := h.1 c4
    refine lv_aload_n hx hb dX10_together_18 rfl (lv_at hl 0 rfl) ?_
    refine lv_iconst (v := (-1 : Int32)) hx hb dX10_together_19 (by decide) ?_
    refine db_callVi S hw (Nat.le_of_ble_eq_true rfl) db_s0 (C := RX10) (T := TX10) (N := 15) (As := [.int (-1 : Int32)]) rfl (ct_X10_refuse  h) gX10_together_X10_refuse rfl ⟨rfl, rfl, Nat.le_of_ble_eq_true rfl, Nat.le_of_ble_eq_true rfl⟩ 1 rfl (by decide +kernel) hl.1 rfl (Nat.le_of_ble_eq_true rfl) dX10_together_20 ⟨Nat.zero_le _, Nat.zero_le _⟩ (fun r2 X2 H locs h hw => ?_)
    exact db_iret S hr hlocks hw h dX10_together_23
  · have h := h.2 c4
    refine lv_aload_n hx hb dX10_together_7 rfl (lv_at hl 0 rfl) ?_
    refine db_getr S hw (Nat.le_of_ble_eq_true rfl) db_s0 (C := RX10) (T := TX10) (N := 15) rfl hiX10 4 (by decide) (r := 7) rfl (List.mem_of_getElem? (i := 1) rfl) dX10_together_8 ?_
    refine lv_iload_n hx hb dX10_together_11 rfl (lv_at hl 1 rfl) ?_
    refine db_callVi S hw (Nat.le_of_ble_eq_true rfl) db_s7 (C := RX8) (T := TX8) (N := 5) (As := [.int x1]) rfl (ct_X8_allDone  h) gX10_together_X8_allDone rfl ⟨rfl, rfl, Nat.le_of_ble_eq_true rfl, Nat.le_of_ble_eq_true rfl⟩ 1 rfl (by decide +kernel) hl.1 rfl (Nat.le_of_ble_eq_true rfl) dX10_together_12 ⟨Nat.zero_le _, Nat.zero_le _⟩ (fun r3 X3 H locs h hw => ?_)
    refine lv_goto (tgt := 23) hx hb dX10_together_15 (by decide) ?_
    exact db_iret S hr hlocks hw h dX10_together_23
-- DaysOnBread.paying(III)I
abbrev rm_X10_paying : Room := { frames := 1, cells := 0, slots := 0, locals := 25 }
def wp_X10_paying  (X : db_St) (x1 : Int32) (x2 : Int32) (x3 : Int32) (Q : Int32 → db_St → Prop) : Prop := wp_X10_isKind X x1 (fun r1 X1 => ((r1 = 0 → wp_X10_refuse X1 (-1 : Int32) (fun r12 X12 => Q r12 X12)) ∧ (¬ r1 = 0 → ((x2 < 0 → wp_X10_refuse X1 (-2 : Int32) (fun r2 X2 => Q r2 X2)) ∧ (¬ (x2 < 0) → ((x2 < (4 : Int32) → ((0 ≤ x3 → (vp_in x2 4 ∧ ((x3 ≤ (db_gG (x2).toNatClampNeg) → wp_X4_change X1 x1 x2 x3 (fun r4 X4 => Q r4 X4)) ∧ (¬ (x3 ≤ (db_gG (x2).toNatClampNeg)) → wp_X10_refuse X1 (-6 : Int32) (fun r5 X5 => Q r5 X5))))) ∧ (¬ (0 ≤ x3) → wp_X10_refuse X1 (-4 : Int32) (fun r7 X7 => Q r7 X7)))) ∧ (¬ (x2 < (4 : Int32)) → wp_X10_refuse X1 (-2 : Int32) (fun r9 X9 => Q r9 X9))))))))
set_option maxHeartbeats 4000000 in
set_option maxRecDepth 100000 in
theorem ct_X10_paying {l : Launch} {E : db_E}  {X : db_St} {x1 : Int32} {x2 : Int32} {x3 : Int32} {Q : Int32 → db_St → Prop} (h : wp_X10_paying  X x1 x2 x3 Q) : db_MI l E yX10_paying wsX10_paying rm_X10_paying X [.ref (db_ad E 0), .int x1, .int x2, .int x3] Q := by
  intro sz
  unfold wp_X10_paying at h
  refine Met.ofW (cc := cX10_paying) (maxL := 4) (ret := (some .int)) (by decide) rfl ?_
  intro p e s m args below meth c s₁ B hml hv
  obtain ⟨rfl, hsz, hU⟩ := hv
  subst hsz
  have S : CallFix p m c cX10_paying 4 s ([.ref (db_ad E 0), .int x1, .int x2, .int x3] : List Value).toArray wsX10_paying RX10 := ⟨B.exec, B.bytes, hml, findClass_of_methodNamed B.named, atoms_spec (ws := wsX10_paying) B.pre⟩
  have hx := S.1
  have hb := S.2.1
  have hr := B.returns
  have hlocks := B.notSynchronized
  have hw := db_start hU
  have hiX10 : ∀ w ∈ wsX100, w ∈ wsX10_paying := fun w_ h_ => List.mem_cons_of_mem _ (List.mem_append_left _ (List.mem_append_right _ h_))
  have hl := lv_entry ([.ref (db_ad E 0), .int x1, .int x2, .int x3]) (n := 4) (Nat.le_of_ble_eq_true rfl)
  rw [lg_entry_eq]
  generalize (lg_sl ([.ref (db_ad E 0), .int x1, .int x2, .int x3]) ++ List.replicate (4 - (lg_sl ([.ref (db_ad E 0), .int x1, .int x2, .int x3])).length) Slot.unset).toArray = ls at hl ⊢
  have hl : lv_has ls 4 [(0, .ref (db_ad E 0)), (1, .int x1), (2, .int x2), (3, .int x3)] := hl
  refine lv_iload_n hx hb dX10_paying_0 rfl (lv_at hl 1 rfl) ?_
  refine db_callSi S hw (As := [.int x1]) (ct_X10_isKind  h) gX10_paying_X10_isKind rfl ⟨rfl, rfl, Nat.le_of_ble_eq_true rfl, Nat.le_of_ble_eq_true rfl⟩ 1 rfl (by decide +kernel) hl.1 rfl (Nat.le_of_ble_eq_true rfl) dX10_paying_1 ⟨Nat.zero_le _, Nat.zero_le _⟩ (fun r1 X1 H locs h hw => ?_)
  refine lv_if_ne (tgt := 13) hx hb dX10_paying_4 (by decide) (fun c13 => ?_) (fun c13 => ?_)
  · have h := h.2 c13
    refine lv_iload_n hx hb dX10_paying_13 rfl (lv_at hl 2 rfl) ?_
    refine lv_if_lt (tgt := 22) hx hb dX10_paying_14 (by decide) (fun c11 => ?_) (fun c11 => ?_)
    · have h := h.1 c11
      refine lv_aload_n hx hb dX10_paying_22 rfl (lv_at hl 0 rfl) ?_
      refine lv_bipush (v := (-2 : Int32)) hx hb dX10_paying_23 (by decide) ?_
      refine db_callVi S hw (Nat.le_of_ble_eq_true rfl) db_s0 (C := RX10) (T := TX10) (N := 15) (As := [.int (-2 : Int32)]) rfl (ct_X10_refuse  h) gX10_paying_X10_refuse rfl ⟨rfl, rfl, Nat.le_of_ble_eq_true rfl, Nat.le_of_ble_eq_true rfl⟩ 1 rfl (by decide +kernel) hl.1 rfl (Nat.le_of_ble_eq_true rfl) dX10_paying_25 ⟨Nat.zero_le _, Nat.zero_le _⟩ (fun r2 X2 H locs h hw => ?_)
      exact db_iret S hr hlocks hw h dX10_paying_28
    · have h := h.2 c11
      refine lv_iload_n hx hb dX10_paying_17 rfl (lv_at hl 2 rfl) ?_
      refine lv_iconst (v := (4 : Int32)) hx hb dX10_paying_18 (by decide) ?_
      refine lv_icmp_lt (tgt := 29) hx hb dX10_paying_19 (by decide) (fun c10 => ?_) (fun c10 => ?_)
      · have h := h.1 c10
        refine lv_iload_n hx hb dX10_paying_29 rfl (lv_at hl 3 rfl) ?_
        refine lv_if_ge (tgt := 40) hx hb dX10_paying_30 (by decide) (fun c8 => ?_) (fun c8 => ?_)
        · have h := h.1 c8
          refine lv_iload_n hx hb dX10_paying_40 rfl (lv_at hl 3 rfl) ?_
          refine db_tabG S hw (List.mem_of_getElem? (i := 1) rfl) dX10_paying_41 ?_
          refine lv_iload_n hx hb dX10_paying_44 rfl (lv_at hl 2 rfl) ?_
          obtain ⟨g3, h⟩ := h
          refine db_ldG S hw g3 dX10_paying_45 ?_
          refine lv_icmp_le (tgt := 56) hx hb dX10_paying_46 (by decide) (fun c6 => ?_) (fun c6 => ?_)
          · have h := h.1 c6
            refine lv_aload_n hx hb dX10_paying_56 rfl (lv_at hl 0 rfl) ?_
            refine db_getr S hw (Nat.le_of_ble_eq_true rfl) db_s0 (C := RX10) (T := TX10) (N := 15) rfl hiX10 5 (by decide) (r := 36) rfl (List.mem_of_getElem? (i := 2) rfl) dX10_paying_57 ?_
            refine lv_iload_n hx hb dX10_paying_60 rfl (lv_at hl 1 rfl) ?_
            refine lv_iload_n hx hb dX10_paying_61 rfl (lv_at hl 2 rfl) ?_
            refine lv_iload_n hx hb dX10_paying_62 rfl (lv_at hl 3 rfl) ?_
            refine db_callVi S hw (Nat.le_of_ble_eq_true rfl) db_s36 (C := RX4) (T := TX4) (N := 3) (As := [.int x1, .int x2, .int x3]) rfl (ct_X4_change  h) gX10_paying_X4_change rfl ⟨rfl, rfl, Nat.le_of_ble_eq_true rfl, Nat.le_of_ble_eq_true rfl⟩ 3 rfl (by decide +kernel) hl.1 rfl (Nat.le_of_ble_eq_true rfl) dX10_paying_63 ⟨Nat.zero_le _, Nat.zero_le _⟩ (fun r4 X4 H locs h hw => ?_)
            exact db_iret S hr hlocks hw h dX10_paying_66
          · have h := h.2 c6
            refine lv_aload_n hx hb dX10_paying_49 rfl (lv_at hl 0 rfl) ?_
            refine lv_bipush (v := (-6 : Int32)) hx hb dX10_paying_50 (by decide) ?_
            refine db_callVi S hw (Nat.le_of_ble_eq_true rfl) db_s0 (C := RX10) (T := TX10) (N := 15) (As := [.int (-6 : Int32)]) rfl (ct_X10_refuse  h) gX10_paying_X10_refuse rfl ⟨rfl, rfl, Nat.le_of_ble_eq_true rfl, Nat.le_of_ble_eq_true rfl⟩ 1 rfl (by decide +kernel) hl.1 rfl (Nat.le_of_ble_eq_true rfl) dX10_paying_52 ⟨Nat.zero_le _, Nat.zero_le _⟩ (fun r5 X5 H locs h hw => ?_)
            exact db_iret S hr hlocks hw h dX10_paying_55
        · have h := h.2 c8
          refine lv_aload_n hx hb dX10_paying_33 rfl (lv_at hl 0 rfl) ?_
          refine lv_bipush (v := (-4 : Int32)) hx hb dX10_paying_34 (by decide) ?_
          refine db_callVi S hw (Nat.le_of_ble_eq_true rfl) db_s0 (C := RX10) (T := TX10) (N := 15) (As := [.int (-4 : Int32)]) rfl (ct_X10_refuse  h) gX10_paying_X10_refuse rfl ⟨rfl, rfl, Nat.le_of_ble_eq_true rfl, Nat.le_of_ble_eq_true rfl⟩ 1 rfl (by decide +kernel) hl.1 rfl (Nat.le_of_ble_eq_true rfl) dX10_paying_36 ⟨Nat.zero_le _, Nat.zero_le _⟩ (fun r7 X7 H locs h hw => ?_)
          exact db_iret S hr hlocks hw h dX10_paying_39
      · have h := h.2 c10
        refine lv_aload_n hx hb dX10_paying_22 rfl (lv_at hl 0 rfl) ?_
        refine lv_bipush (v := (-2 : Int32)) hx hb dX10_paying_23 (by decide) ?_
        refine db_callVi S hw (Nat.le_of_ble_eq_true rfl) db_s0 (C := RX10) (T := TX10) (N := 15) (As := [.int (-2 : Int32)]) rfl (ct_X10_refuse  h) gX10_paying_X10_refuse rfl ⟨rfl, rfl, Nat.le_of_ble_eq_true rfl, Nat.le_of_ble_eq_true rfl⟩ 1 rfl (by decide +kernel) hl.1 rfl (Nat.le_of_ble_eq_true rfl) dX10_paying_25 ⟨Nat.zero_le _, Nat.zero_le _⟩ (fun r9 X9 H locs h hw => ?_)
        exact db_iret S hr hlocks hw h dX10_paying_28
  · have h := h.1 c13
    refine lv_aload_n hx hb dX10_paying_7 rfl (lv_at hl 0 rfl) ?_
    refine lv_iconst (v := (-1 : Int32)) hx hb dX10_paying_8 (by decide) ?_
    refine db_callVi S hw (Nat.le_of_ble_eq_true rfl) db_s0 (C := RX10) (T := TX10) (N := 15) (As := [.int (-1 : Int32)]) rfl (ct_X10_refuse  h) gX10_paying_X10_refuse rfl ⟨rfl, rfl, Nat.le_of_ble_eq_true rfl, Nat.le_of_ble_eq_true rfl⟩ 1 rfl (by decide +kernel) hl.1 rfl (Nat.le_of_ble_eq_true rfl) dX10_paying_9 ⟨Nat.zero_le _, Nat.zero_le _⟩ (fun r12 X12 H locs h hw => ?_)
    exact db_iret S hr hlocks hw h dX10_paying_12
-- DaysOnBread.feasts(I)I
abbrev rm_X10_feasts : Room := { frames := 1, cells := 0, slots := 0, locals := 21 }
def wp_X10_feasts  (X : db_St) (x1 : Int32) (Q : Int32 → db_St → Prop) : Prop := ((0 ≤ x1 → ((x1 < (268435456 : Int32) → (∀ X1, X1 = (db_si X 36 1 x1) → wp_J6_bitCount_0f7a4 X1 x1 (fun r2 X2 => Q r2 X2))) ∧ (¬ (x1 < (268435456 : Int32)) → wp_X10_refuse X (-6 : Int32) (fun r3 X3 => Q r3 X3)))) ∧ (¬ (0 ≤ x1) → wp_X10_refuse X (-4 : Int32) (fun r5 X5 => Q r5 X5)))
set_option maxHeartbeats 4000000 in
set_option maxRecDepth 100000 in
theorem ct_X10_feasts {l : Launch} {E : db_E}  {X : db_St} {x1 : Int32} {Q : Int32 → db_St → Prop} (h : wp_X10_feasts  X x1 Q) : db_MI l E yX10_feasts wsX10_feasts rm_X10_feasts X [.ref (db_ad E 0), .int x1] Q := by
  intro sz
  unfold wp_X10_feasts at h
  refine Met.ofW (cc := cX10_feasts) (maxL := 2) (ret := (some .int)) (by decide) rfl ?_
  intro p e s m args below meth c s₁ B hml hv
  obtain ⟨rfl, hsz, hU⟩ := hv
  subst hsz
  have S : CallFix p m c cX10_feasts 2 s ([.ref (db_ad E 0), .int x1] : List Value).toArray wsX10_feasts RX10 := ⟨B.exec, B.bytes, hml, findClass_of_methodNamed B.named, atoms_spec (ws := wsX10_feasts) B.pre⟩
  have hx := S.1
  have hb := S.2.1
  have hr := B.returns
  have hlocks := B.notSynchronized
  have hw := db_start hU
  have hiX10 : ∀ w ∈ wsX100, w ∈ wsX10_feasts := fun w_ h_ => List.mem_cons_of_mem _ (List.mem_append_left _ (List.mem_append_right _ h_))
  have hiX4 : ∀ w ∈ wsX40, w ∈ wsX10_feasts := fun w_ h_ => List.mem_cons_of_mem _ (List.mem_append_right _ h_)
  have hl := lv_entry ([.ref (db_ad E 0), .int x1]) (n := 2) (Nat.le_of_ble_eq_true rfl)
  rw [lg_entry_eq]
  generalize (lg_sl ([.ref (db_ad E 0), .int x1]) ++ List.replicate (2 - (lg_sl ([.ref (db_ad E 0), .int x1])).length) Slot.unset).toArray = ls at hl ⊢
  have hl : lv_has ls 2 [(0, .ref (db_ad E 0)), (1, .int x1)] := hl
  refine lv_iload_n hx hb dX10_feasts_0 rfl (lv_at hl 1 rfl) ?_
  refine lv_if_ge (tgt := 11) hx hb dX10_feasts_1 (by decide) (fun c6 => ?_) (fun c6 => ?_)
  · have h := h.1 c6
    refine lv_iload_n hx hb dX10_feasts_11 rfl (lv_at hl 1 rfl) ?_
    refine lv_ldc (v := (268435456 : Int32)) hx hb S.2.2.2.1 (S.2.2.2.2 _ (List.mem_of_getElem? (i := 1) rfl)) dX10_feasts_12 ?_
    refine lv_icmp_lt (tgt := 24) hx hb dX10_feasts_14 (by decide) (fun c4 => ?_) (fun c4 => ?_)
    · have h := h.1 c4
      refine lv_aload_n hx hb dX10_feasts_24 rfl (lv_at hl 0 rfl) ?_
      refine db_getr S hw (Nat.le_of_ble_eq_true rfl) db_s0 (C := RX10) (T := TX10) (N := 15) rfl hiX10 5 (by decide) (r := 36) rfl (List.mem_of_getElem? (i := 2) rfl) dX10_feasts_25 ?_
      refine lv_iload_n hx hb dX10_feasts_28 rfl (lv_at hl 1 rfl) ?_
      refine db_putiN S hw (Nat.le_of_ble_eq_true rfl) db_s36 (C := RX4) (T := TX4) (N := 3) rfl hiX4 tyX4_ok nmX4 1 (by decide) rfl (List.mem_of_getElem? (i := 16) rfl) rfl ⟨rfl, rfl⟩ dX10_feasts_29 (fun H locs hw => ?_)
      obtain ⟨X1, e1, hw⟩ : ∃ Z_, Z_ = (db_si X 36 1 x1) ∧ db_HW E (db_Aw E s.heap.size) s Z_ H locs := ⟨_, rfl, hw⟩
      have h := h X1 e1
      refine lv_iload_n hx hb dX10_feasts_32 rfl (lv_at hl 1 rfl) ?_
      refine db_callSi S hw (As := [.int x1]) (ct_J6_bitCount_0f7a4  h) gX10_feasts_J6_bitCount_0f7a4 rfl ⟨rfl, rfl, Nat.le_of_ble_eq_true rfl, Nat.le_of_ble_eq_true rfl⟩ 1 rfl (by decide +kernel) hl.1 rfl (Nat.le_of_ble_eq_true rfl) dX10_feasts_33 ⟨Nat.zero_le _, Nat.zero_le _⟩ (fun r2 X2 H locs h hw => ?_)
      exact db_iret S hr hlocks hw h dX10_feasts_36
    · have h := h.2 c4
      refine lv_aload_n hx hb dX10_feasts_17 rfl (lv_at hl 0 rfl) ?_
      refine lv_bipush (v := (-6 : Int32)) hx hb dX10_feasts_18 (by decide) ?_
      refine db_callVi S hw (Nat.le_of_ble_eq_true rfl) db_s0 (C := RX10) (T := TX10) (N := 15) (As := [.int (-6 : Int32)]) rfl (ct_X10_refuse  h) gX10_feasts_X10_refuse rfl ⟨rfl, rfl, Nat.le_of_ble_eq_true rfl, Nat.le_of_ble_eq_true rfl⟩ 1 rfl (by decide +kernel) hl.1 rfl (Nat.le_of_ble_eq_true rfl) dX10_feasts_20 ⟨Nat.zero_le _, Nat.zero_le _⟩ (fun r3 X3 H locs h hw => ?_)
      exact db_iret S hr hlocks hw h dX10_feasts_23
  · have h := h.2 c6
    refine lv_aload_n hx hb dX10_feasts_4 rfl (lv_at hl 0 rfl) ?_
    refine lv_bipush (v := (-4 : Int32)) hx hb dX10_feasts_5 (by decide) ?_
    refine db_callVi S hw (Nat.le_of_ble_eq_true rfl) db_s0 (C := RX10) (T := TX10) (N := 15) (As := [.int (-4 : Int32)]) rfl (ct_X10_refuse  h) gX10_feasts_X10_refuse rfl ⟨rfl, rfl, Nat.le_of_ble_eq_true rfl, Nat.le_of_ble_eq_true rfl⟩ 1 rfl (by decide +kernel) hl.1 rfl (Nat.le_of_ble_eq_true rfl) dX10_feasts_7 ⟨Nat.zero_le _, Nat.zero_le _⟩ (fun r5 X5 H locs h hw => ?_)
    exact db_iret S hr hlocks hw h dX10_feasts_10
-- DaysOnBread.friends(I)I
abbrev rm_X10_friends : Room := { frames := 1, cells := 0, slots := 0, locals := 21 }
def wp_X10_friends  (X : db_St) (x1 : Int32) (Q : Int32 → db_St → Prop) : Prop := ((0 ≤ x1 → ((x1 ≤ (99 : Int32) → (∀ X1, X1 = (db_si X 36 2 x1) → Q (X.1 36 2) X1)) ∧ (¬ (x1 ≤ (99 : Int32)) → wp_X10_refuse X (-6 : Int32) (fun r2 X2 => Q r2 X2)))) ∧ (¬ (0 ≤ x1) → wp_X10_refuse X (-4 : Int32) (fun r4 X4 => Q r4 X4)))
set_option maxHeartbeats 4000000 in
set_option maxRecDepth 100000 in
theorem ct_X10_friends {l : Launch} {E : db_E}  {X : db_St} {x1 : Int32} {Q : Int32 → db_St → Prop} (h : wp_X10_friends  X x1 Q) : db_MI l E yX10_friends wsX10_friends rm_X10_friends X [.ref (db_ad E 0), .int x1] Q := by
  intro sz
  unfold wp_X10_friends at h
  refine Met.ofW (cc := cX10_friends) (maxL := 3) (ret := (some .int)) (by decide) rfl ?_
  intro p e s m args below meth c s₁ B hml hv
  obtain ⟨rfl, hsz, hU⟩ := hv
  subst hsz
  have S : CallFix p m c cX10_friends 3 s ([.ref (db_ad E 0), .int x1] : List Value).toArray wsX10_friends RX10 := ⟨B.exec, B.bytes, hml, findClass_of_methodNamed B.named, atoms_spec (ws := wsX10_friends) B.pre⟩
  have hx := S.1
  have hb := S.2.1
  have hr := B.returns
  have hlocks := B.notSynchronized
  have hw := db_start hU
  have hiX10 : ∀ w ∈ wsX100, w ∈ wsX10_friends := fun w_ h_ => List.mem_cons_of_mem _ (List.mem_append_left _ (List.mem_append_right _ h_))
  have hiX4 : ∀ w ∈ wsX40, w ∈ wsX10_friends := fun w_ h_ => List.mem_cons_of_mem _ (List.mem_append_right _ h_)
  have hl := lv_entry ([.ref (db_ad E 0), .int x1]) (n := 3) (Nat.le_of_ble_eq_true rfl)
  rw [lg_entry_eq]
  generalize (lg_sl ([.ref (db_ad E 0), .int x1]) ++ List.replicate (3 - (lg_sl ([.ref (db_ad E 0), .int x1])).length) Slot.unset).toArray = ls at hl ⊢
  have hl : lv_has ls 3 [(0, .ref (db_ad E 0)), (1, .int x1)] := hl
  refine lv_iload_n hx hb dX10_friends_0 rfl (lv_at hl 1 rfl) ?_
  refine lv_if_ge (tgt := 11) hx hb dX10_friends_1 (by decide) (fun c5 => ?_) (fun c5 => ?_)
  · have h := h.1 c5
    refine lv_iload_n hx hb dX10_friends_11 rfl (lv_at hl 1 rfl) ?_
    refine lv_bipush (v := (99 : Int32)) hx hb dX10_friends_12 (by decide) ?_
    refine lv_icmp_le (tgt := 24) hx hb dX10_friends_14 (by decide) (fun c3 => ?_) (fun c3 => ?_)
    · have h := h.1 c3
      refine lv_aload_n hx hb dX10_friends_24 rfl (lv_at hl 0 rfl) ?_
      refine db_getr S hw (Nat.le_of_ble_eq_true rfl) db_s0 (C := RX10) (T := TX10) (N := 15) rfl hiX10 5 (by decide) (r := 36) rfl (List.mem_of_getElem? (i := 1) rfl) dX10_friends_25 ?_
      refine db_getiN S hw (Nat.le_of_ble_eq_true rfl) db_s36 (C := RX4) (T := TX4) (N := 3) rfl hiX4 2 (by decide) rfl (List.mem_of_getElem? (i := 19) rfl) dX10_friends_28 ?_
      refine lv_istore_n (lv' := [(2, .int (X.1 36 2)), (0, .ref (db_ad E 0)), (1, .int x1)]) hx hb dX10_friends_31 rfl hl (by decide) rfl (fun ls hl => ?_)
      refine lv_aload_n hx hb dX10_friends_32 rfl (lv_at hl 1 rfl) ?_
      refine db_getr S hw (Nat.le_of_ble_eq_true rfl) db_s0 (C := RX10) (T := TX10) (N := 15) rfl hiX10 5 (by decide) (r := 36) rfl (List.mem_of_getElem? (i := 1) rfl) dX10_friends_33 ?_
      refine lv_iload_n hx hb dX10_friends_36 rfl (lv_at hl 2 rfl) ?_
      refine db_putiN S hw (Nat.le_of_ble_eq_true rfl) db_s36 (C := RX4) (T := TX4) (N := 3) rfl hiX4 tyX4_ok nmX4 2 (by decide) rfl (List.mem_of_getElem? (i := 19) rfl) rfl ⟨rfl, rfl⟩ dX10_friends_37 (fun H locs hw => ?_)
      obtain ⟨X1, e1, hw⟩ : ∃ Z_, Z_ = (db_si X 36 2 x1) ∧ db_HW E (db_Aw E s.heap.size) s Z_ H locs := ⟨_, rfl, hw⟩
      have h := h X1 e1
      refine lv_iload_n hx hb dX10_friends_40 rfl (lv_at hl 0 rfl) ?_
      exact db_iret S hr hlocks hw h dX10_friends_41
    · have h := h.2 c3
      refine lv_aload_n hx hb dX10_friends_17 rfl (lv_at hl 0 rfl) ?_
      refine lv_bipush (v := (-6 : Int32)) hx hb dX10_friends_18 (by decide) ?_
      refine db_callVi S hw (Nat.le_of_ble_eq_true rfl) db_s0 (C := RX10) (T := TX10) (N := 15) (As := [.int (-6 : Int32)]) rfl (ct_X10_refuse  h) gX10_friends_X10_refuse rfl ⟨rfl, rfl, Nat.le_of_ble_eq_true rfl, Nat.le_of_ble_eq_true rfl⟩ 1 rfl (by decide +kernel) hl.1 rfl (Nat.le_of_ble_eq_true rfl) dX10_friends_20 ⟨Nat.zero_le _, Nat.zero_le _⟩ (fun r2 X2 H locs h hw => ?_)
      exact db_iret S hr hlocks hw h dX10_friends_23
  · have h := h.2 c5
    refine lv_aload_n hx hb dX10_friends_4 rfl (lv_at hl 0 rfl) ?_
    refine lv_bipush (v := (-4 : Int32)) hx hb dX10_friends_5 (by decide) ?_
    refine db_callVi S hw (Nat.le_of_ble_eq_true rfl) db_s0 (C := RX10) (T := TX10) (N := 15) (As := [.int (-4 : Int32)]) rfl (ct_X10_refuse  h) gX10_friends_X10_refuse rfl ⟨rfl, rfl, Nat.le_of_ble_eq_true rfl, Nat.le_of_ble_eq_true rfl⟩ 1 rfl (by decide +kernel) hl.1 rfl (Nat.le_of_ble_eq_true rfl) dX10_friends_7 ⟨Nat.zero_le _, Nat.zero_le _⟩ (fun r4 X4 H locs h hw => ?_)
    exact db_iret S hr hlocks hw h dX10_friends_10
-- DaysOnBread.least(III)I
abbrev rm_X10_least : Room := { frames := 5, cells := 0, slots := 0, locals := 139 }
def wp_X10_least  (X : db_St) (x1 : Int32) (x2 : Int32) (x3 : Int32) (Q : Int32 → db_St → Prop) : Prop := ((x3 < 0 → wp_X10_refuse X (-2 : Int32) (fun r1 X1 => Q r1 X1)) ∧ (¬ (x3 < 0) → ((x3 ≤ (6 : Int32) → ((x1 < 0 → wp_X10_refuse X (-4 : Int32) (fun r2 X2 => Q r2 X2)) ∧ (¬ (x1 < 0) → (((1 : Int32) ≤ x2 → (((100 : Int32) < x1 → wp_X10_refuse X (-6 : Int32) (fun r3 X3 => Q r3 X3)) ∧ (¬ ((100 : Int32) < x1) → ((x2 ≤ (400 : Int32) → wp_X1_leastHard X (x1 * (10 : Int32)) x2 x3 (fun r4 X4 => Q r4 X4)) ∧ (¬ (x2 ≤ (400 : Int32)) → wp_X10_refuse X (-6 : Int32) (fun r5 X5 => Q r5 X5)))))) ∧ (¬ ((1 : Int32) ≤ x2) → wp_X10_refuse X (-4 : Int32) (fun r8 X8 => Q r8 X8)))))) ∧ (¬ (x3 ≤ (6 : Int32)) → wp_X10_refuse X (-2 : Int32) (fun r11 X11 => Q r11 X11)))))
set_option maxHeartbeats 4000000 in
set_option maxRecDepth 100000 in
theorem ct_X10_least {l : Launch} {E : db_E}  {X : db_St} {x1 : Int32} {x2 : Int32} {x3 : Int32} {Q : Int32 → db_St → Prop} (h : wp_X10_least  X x1 x2 x3 Q) : db_MI l E yX10_least wsX10_least rm_X10_least X [.ref (db_ad E 0), .int x1, .int x2, .int x3] Q := by
  intro sz
  unfold wp_X10_least at h
  refine Met.ofW (cc := cX10_least) (maxL := 4) (ret := (some .int)) (by decide) rfl ?_
  intro p e s m args below meth c s₁ B hml hv
  obtain ⟨rfl, hsz, hU⟩ := hv
  subst hsz
  have S : CallFix p m c cX10_least 4 s ([.ref (db_ad E 0), .int x1, .int x2, .int x3] : List Value).toArray wsX10_least RX10 := ⟨B.exec, B.bytes, hml, findClass_of_methodNamed B.named, atoms_spec (ws := wsX10_least) B.pre⟩
  have hx := S.1
  have hb := S.2.1
  have hr := B.returns
  have hlocks := B.notSynchronized
  have hw := db_start hU
  have hiX10 : ∀ w ∈ wsX100, w ∈ wsX10_least := fun w_ h_ => List.mem_cons_of_mem _ (List.mem_append_left _ (List.mem_append_left _ (List.mem_append_right _ h_)))
  have hl := lv_entry ([.ref (db_ad E 0), .int x1, .int x2, .int x3]) (n := 4) (Nat.le_of_ble_eq_true rfl)
  rw [lg_entry_eq]
  generalize (lg_sl ([.ref (db_ad E 0), .int x1, .int x2, .int x3]) ++ List.replicate (4 - (lg_sl ([.ref (db_ad E 0), .int x1, .int x2, .int x3])).length) Slot.unset).toArray = ls at hl ⊢
  have hl : lv_has ls 4 [(0, .ref (db_ad E 0)), (1, .int x1), (2, .int x2), (3, .int x3)] := hl
  refine lv_iload_n hx hb dX10_least_0 rfl (lv_at hl 3 rfl) ?_
  refine lv_if_lt (tgt := 10) hx hb dX10_least_1 (by decide) (fun c13 => ?_) (fun c13 => ?_)
  · have h := h.1 c13
    refine lv_aload_n hx hb dX10_least_10 rfl (lv_at hl 0 rfl) ?_
    refine lv_bipush (v := (-2 : Int32)) hx hb dX10_least_11 (by decide) ?_
    refine db_callVi S hw (Nat.le_of_ble_eq_true rfl) db_s0 (C := RX10) (T := TX10) (N := 15) (As := [.int (-2 : Int32)]) rfl (ct_X10_refuse  h) gX10_least_X10_refuse rfl ⟨rfl, rfl, Nat.le_of_ble_eq_true rfl, Nat.le_of_ble_eq_true rfl⟩ 1 rfl (by decide +kernel) hl.1 rfl (Nat.le_of_ble_eq_true rfl) dX10_least_13 ⟨Nat.zero_le _, Nat.zero_le _⟩ (fun r1 X1 H locs h hw => ?_)
    exact db_iret S hr hlocks hw h dX10_least_16
  · have h := h.2 c13
    refine lv_iload_n hx hb dX10_least_4 rfl (lv_at hl 3 rfl) ?_
    refine lv_bipush (v := (6 : Int32)) hx hb dX10_least_5 (by decide) ?_
    refine lv_icmp_le (tgt := 17) hx hb dX10_least_7 (by decide) (fun c12 => ?_) (fun c12 => ?_)
    · have h := h.1 c12
      refine lv_iload_n hx hb dX10_least_17 rfl (lv_at hl 1 rfl) ?_
      refine lv_if_lt (tgt := 26) hx hb dX10_least_18 (by decide) (fun c10 => ?_) (fun c10 => ?_)
      · have h := h.1 c10
        refine lv_aload_n hx hb dX10_least_26 rfl (lv_at hl 0 rfl) ?_
        refine lv_bipush (v := (-4 : Int32)) hx hb dX10_least_27 (by decide) ?_
        refine db_callVi S hw (Nat.le_of_ble_eq_true rfl) db_s0 (C := RX10) (T := TX10) (N := 15) (As := [.int (-4 : Int32)]) rfl (ct_X10_refuse  h) gX10_least_X10_refuse rfl ⟨rfl, rfl, Nat.le_of_ble_eq_true rfl, Nat.le_of_ble_eq_true rfl⟩ 1 rfl (by decide +kernel) hl.1 rfl (Nat.le_of_ble_eq_true rfl) dX10_least_29 ⟨Nat.zero_le _, Nat.zero_le _⟩ (fun r2 X2 H locs h hw => ?_)
        exact db_iret S hr hlocks hw h dX10_least_32
      · have h := h.2 c10
        refine lv_iload_n hx hb dX10_least_21 rfl (lv_at hl 2 rfl) ?_
        refine lv_iconst (v := (1 : Int32)) hx hb dX10_least_22 (by decide) ?_
        refine lv_icmp_ge (tgt := 33) hx hb dX10_least_23 (by decide) (fun c9 => ?_) (fun c9 => ?_)
        · have h := h.1 c9
          refine lv_iload_n hx hb dX10_least_33 rfl (lv_at hl 1 rfl) ?_
          refine lv_bipush (v := (100 : Int32)) hx hb dX10_least_34 (by decide) ?_
          refine lv_icmp_gt (tgt := 46) hx hb dX10_least_36 (by decide) (fun c7 => ?_) (fun c7 => ?_)
          · have h := h.1 c7
            refine lv_aload_n hx hb dX10_least_46 rfl (lv_at hl 0 rfl) ?_
            refine lv_bipush (v := (-6 : Int32)) hx hb dX10_least_47 (by decide) ?_
            refine db_callVi S hw (Nat.le_of_ble_eq_true rfl) db_s0 (C := RX10) (T := TX10) (N := 15) (As := [.int (-6 : Int32)]) rfl (ct_X10_refuse  h) gX10_least_X10_refuse rfl ⟨rfl, rfl, Nat.le_of_ble_eq_true rfl, Nat.le_of_ble_eq_true rfl⟩ 1 rfl (by decide +kernel) hl.1 rfl (Nat.le_of_ble_eq_true rfl) dX10_least_49 ⟨Nat.zero_le _, Nat.zero_le _⟩ (fun r3 X3 H locs h hw => ?_)
            exact db_iret S hr hlocks hw h dX10_least_52
          · have h := h.2 c7
            refine lv_iload_n hx hb dX10_least_39 rfl (lv_at hl 2 rfl) ?_
            refine lv_sipush (v := (400 : Int32)) hx hb dX10_least_40 (by decide) ?_
            refine lv_icmp_le (tgt := 53) hx hb dX10_least_43 (by decide) (fun c6 => ?_) (fun c6 => ?_)
            · have h := h.1 c6
              refine lv_aload_n hx hb dX10_least_53 rfl (lv_at hl 0 rfl) ?_
              refine db_getr S hw (Nat.le_of_ble_eq_true rfl) db_s0 (C := RX10) (T := TX10) (N := 15) rfl hiX10 8 (by decide) (r := 46) rfl (List.mem_of_getElem? (i := 1) rfl) dX10_least_54 ?_
              refine lv_iload_n hx hb dX10_least_57 rfl (lv_at hl 1 rfl) ?_
              refine lv_bipush (v := (10 : Int32)) hx hb dX10_least_58 (by decide) ?_
              refine lv_imul hx hb dX10_least_60 ?_
              refine lv_iload_n hx hb dX10_least_61 rfl (lv_at hl 2 rfl) ?_
              refine lv_iload_n hx hb dX10_least_62 rfl (lv_at hl 3 rfl) ?_
              refine db_callVi S hw (Nat.le_of_ble_eq_true rfl) db_s46 (C := RX1) (T := TX1) (N := 3) (As := [.int (x1 * (10 : Int32)), .int x2, .int x3]) rfl (ct_X1_leastHard  h) gX10_least_X1_leastHard rfl ⟨rfl, rfl, Nat.le_of_ble_eq_true rfl, Nat.le_of_ble_eq_true rfl⟩ 3 rfl (by decide +kernel) hl.1 rfl (Nat.le_of_ble_eq_true rfl) dX10_least_63 ⟨Nat.zero_le _, Nat.zero_le _⟩ (fun r4 X4 H locs h hw => ?_)
              exact db_iret S hr hlocks hw h dX10_least_66
            · have h := h.2 c6
              refine lv_aload_n hx hb dX10_least_46 rfl (lv_at hl 0 rfl) ?_
              refine lv_bipush (v := (-6 : Int32)) hx hb dX10_least_47 (by decide) ?_
              refine db_callVi S hw (Nat.le_of_ble_eq_true rfl) db_s0 (C := RX10) (T := TX10) (N := 15) (As := [.int (-6 : Int32)]) rfl (ct_X10_refuse  h) gX10_least_X10_refuse rfl ⟨rfl, rfl, Nat.le_of_ble_eq_true rfl, Nat.le_of_ble_eq_true rfl⟩ 1 rfl (by decide +kernel) hl.1 rfl (Nat.le_of_ble_eq_true rfl) dX10_least_49 ⟨Nat.zero_le _, Nat.zero_le _⟩ (fun r5 X5 H locs h hw => ?_)
              exact db_iret S hr hlocks hw h dX10_least_52
        · have h := h.2 c9
          refine lv_aload_n hx hb dX10_least_26 rfl (lv_at hl 0 rfl) ?_
          refine lv_bipush (v := (-4 : Int32)) hx hb dX10_least_27 (by decide) ?_
          refine db_callVi S hw (Nat.le_of_ble_eq_true rfl) db_s0 (C := RX10) (T := TX10) (N := 15) (As := [.int (-4 : Int32)]) rfl (ct_X10_refuse  h) gX10_least_X10_refuse rfl ⟨rfl, rfl, Nat.le_of_ble_eq_true rfl, Nat.le_of_ble_eq_true rfl⟩ 1 rfl (by decide +kernel) hl.1 rfl (Nat.le_of_ble_eq_true rfl) dX10_least_29 ⟨Nat.zero_le _, Nat.zero_le _⟩ (fun r8 X8 H locs h hw => ?_)
          exact db_iret S hr hlocks hw h dX10_least_32
    · have h := h.2 c12
      refine lv_aload_n hx hb dX10_least_10 rfl (lv_at hl 0 rfl) ?_
      refine lv_bipush (v := (-2 : Int32)) hx hb dX10_least_11 (by decide) ?_
      refine db_callVi S hw (Nat.le_of_ble_eq_true rfl) db_s0 (C := RX10) (T := TX10) (N := 15) (As := [.int (-2 : Int32)]) rfl (ct_X10_refuse  h) gX10_least_X10_refuse rfl ⟨rfl, rfl, Nat.le_of_ble_eq_true rfl, Nat.le_of_ble_eq_true rfl⟩ 1 rfl (by decide +kernel) hl.1 rfl (Nat.le_of_ble_eq_true rfl) dX10_least_13 ⟨Nat.zero_le _, Nat.zero_le _⟩ (fun r11 X11 H locs h hw => ?_)
      exact db_iret S hr hlocks hw h dX10_least_16
-- DaysOnBread.soonest(I)I
abbrev rm_X10_soonest : Room := { frames := 5, cells := 0, slots := 0, locals := 126 }
def wp_X10_soonest  (X : db_St) (x1 : Int32) (Q : Int32 → db_St → Prop) : Prop := ((0 ≤ x1 → ((x1 ≤ (400 : Int32) → wp_X3_daysToPay X (x1 * (10 : Int32)) (fun r1 X1 => Q r1 X1)) ∧ (¬ (x1 ≤ (400 : Int32)) → wp_X10_refuse X (-6 : Int32) (fun r2 X2 => Q r2 X2)))) ∧ (¬ (0 ≤ x1) → wp_X10_refuse X (-4 : Int32) (fun r4 X4 => Q r4 X4)))
set_option maxHeartbeats 4000000 in
set_option maxRecDepth 100000 in
theorem ct_X10_soonest {l : Launch} {E : db_E}  {X : db_St} {x1 : Int32} {Q : Int32 → db_St → Prop} (h : wp_X10_soonest  X x1 Q) : db_MI l E yX10_soonest wsX10_soonest rm_X10_soonest X [.ref (db_ad E 0), .int x1] Q := by
  intro sz
  unfold wp_X10_soonest at h
  refine Met.ofW (cc := cX10_soonest) (maxL := 2) (ret := (some .int)) (by decide) rfl ?_
  intro p e s m args below meth c s₁ B hml hv
  obtain ⟨rfl, hsz, hU⟩ := hv
  subst hsz
  have S : CallFix p m c cX10_soonest 2 s ([.ref (db_ad E 0), .int x1] : List Value).toArray wsX10_soonest RX10 := ⟨B.exec, B.bytes, hml, findClass_of_methodNamed B.named, atoms_spec (ws := wsX10_soonest) B.pre⟩
  have hx := S.1
  have hb := S.2.1
  have hr := B.returns
  have hlocks := B.notSynchronized
  have hw := db_start hU
  have hiX10 : ∀ w ∈ wsX100, w ∈ wsX10_soonest := fun w_ h_ => List.mem_cons_of_mem _ (List.mem_append_left _ (List.mem_append_left _ (List.mem_append_right _ h_)))
  have hl := lv_entry ([.ref (db_ad E 0), .int x1]) (n := 2) (Nat.le_of_ble_eq_true rfl)
  rw [lg_entry_eq]
  generalize (lg_sl ([.ref (db_ad E 0), .int x1]) ++ List.replicate (2 - (lg_sl ([.ref (db_ad E 0), .int x1])).length) Slot.unset).toArray = ls at hl ⊢
  have hl : lv_has ls 2 [(0, .ref (db_ad E 0)), (1, .int x1)] := hl
  refine lv_iload_n hx hb dX10_soonest_0 rfl (lv_at hl 1 rfl) ?_
  refine lv_if_ge (tgt := 11) hx hb dX10_soonest_1 (by decide) (fun c5 => ?_) (fun c5 => ?_)
  · have h := h.1 c5
    refine lv_iload_n hx hb dX10_soonest_11 rfl (lv_at hl 1 rfl) ?_
    refine lv_sipush (v := (400 : Int32)) hx hb dX10_soonest_12 (by decide) ?_
    refine lv_icmp_le (tgt := 25) hx hb dX10_soonest_15 (by decide) (fun c3 => ?_) (fun c3 => ?_)
    · have h := h.1 c3
      refine lv_aload_n hx hb dX10_soonest_25 rfl (lv_at hl 0 rfl) ?_
      refine db_getr S hw (Nat.le_of_ble_eq_true rfl) db_s0 (C := RX10) (T := TX10) (N := 15) rfl hiX10 7 (by decide) (r := 43) rfl (List.mem_of_getElem? (i := 1) rfl) dX10_soonest_26 ?_
      refine lv_iload_n hx hb dX10_soonest_29 rfl (lv_at hl 1 rfl) ?_
      refine lv_bipush (v := (10 : Int32)) hx hb dX10_soonest_30 (by decide) ?_
      refine lv_imul hx hb dX10_soonest_32 ?_
      refine db_callVi S hw (Nat.le_of_ble_eq_true rfl) db_s43 (C := RX3) (T := TX3) (N := 7) (As := [.int (x1 * (10 : Int32))]) rfl (ct_X3_daysToPay  h) gX10_soonest_X3_daysToPay rfl ⟨rfl, rfl, Nat.le_of_ble_eq_true rfl, Nat.le_of_ble_eq_true rfl⟩ 1 rfl (by decide +kernel) hl.1 rfl (Nat.le_of_ble_eq_true rfl) dX10_soonest_33 ⟨Nat.zero_le _, Nat.zero_le _⟩ (fun r1 X1 H locs h hw => ?_)
      exact db_iret S hr hlocks hw h dX10_soonest_36
    · have h := h.2 c3
      refine lv_aload_n hx hb dX10_soonest_18 rfl (lv_at hl 0 rfl) ?_
      refine lv_bipush (v := (-6 : Int32)) hx hb dX10_soonest_19 (by decide) ?_
      refine db_callVi S hw (Nat.le_of_ble_eq_true rfl) db_s0 (C := RX10) (T := TX10) (N := 15) (As := [.int (-6 : Int32)]) rfl (ct_X10_refuse  h) gX10_soonest_X10_refuse rfl ⟨rfl, rfl, Nat.le_of_ble_eq_true rfl, Nat.le_of_ble_eq_true rfl⟩ 1 rfl (by decide +kernel) hl.1 rfl (Nat.le_of_ble_eq_true rfl) dX10_soonest_21 ⟨Nat.zero_le _, Nat.zero_le _⟩ (fun r2 X2 H locs h hw => ?_)
      exact db_iret S hr hlocks hw h dX10_soonest_24
  · have h := h.2 c5
    refine lv_aload_n hx hb dX10_soonest_4 rfl (lv_at hl 0 rfl) ?_
    refine lv_bipush (v := (-4 : Int32)) hx hb dX10_soonest_5 (by decide) ?_
    refine db_callVi S hw (Nat.le_of_ble_eq_true rfl) db_s0 (C := RX10) (T := TX10) (N := 15) (As := [.int (-4 : Int32)]) rfl (ct_X10_refuse  h) gX10_soonest_X10_refuse rfl ⟨rfl, rfl, Nat.le_of_ble_eq_true rfl, Nat.le_of_ble_eq_true rfl⟩ 1 rfl (by decide +kernel) hl.1 rfl (Nat.le_of_ble_eq_true rfl) dX10_soonest_7 ⟨Nat.zero_le _, Nat.zero_le _⟩ (fun r4 X4 H locs h hw => ?_)
    exact db_iret S hr hlocks hw h dX10_soonest_10
-- DaysOnBread.needed(II)I
abbrev rm_X10_needed : Room := { frames := 5, cells := 0, slots := 0, locals := 128 }
def wp_X10_needed  (X : db_St) (x1 : Int32) (x2 : Int32) (Q : Int32 → db_St → Prop) : Prop := ((x1 < 0 → wp_X10_refuse X (-4 : Int32) (fun r1 X1 => Q r1 X1)) ∧ (¬ (x1 < 0) → (((1 : Int32) ≤ x2 → (((400 : Int32) < x1 → wp_X10_refuse X (-6 : Int32) (fun r2 X2 => Q r2 X2)) ∧ (¬ ((400 : Int32) < x1) → ((x2 ≤ (400 : Int32) → wp_X3_friendsToPay X (x1 * (10 : Int32)) x2 (fun r3 X3 => Q r3 X3)) ∧ (¬ (x2 ≤ (400 : Int32)) → wp_X10_refuse X (-6 : Int32) (fun r4 X4 => Q r4 X4)))))) ∧ (¬ ((1 : Int32) ≤ x2) → wp_X10_refuse X (-4 : Int32) (fun r7 X7 => Q r7 X7)))))
set_option maxHeartbeats 4000000 in
set_option maxRecDepth 100000 in
theorem ct_X10_needed {l : Launch} {E : db_E}  {X : db_St} {x1 : Int32} {x2 : Int32} {Q : Int32 → db_St → Prop} (h : wp_X10_needed  X x1 x2 Q) : db_MI l E yX10_needed wsX10_needed rm_X10_needed X [.ref (db_ad E 0), .int x1, .int x2] Q := by
  intro sz
  unfold wp_X10_needed at h
  refine Met.ofW (cc := cX10_needed) (maxL := 3) (ret := (some .int)) (by decide) rfl ?_
  intro p e s m args below meth c s₁ B hml hv
  obtain ⟨rfl, hsz, hU⟩ := hv
  subst hsz
  have S : CallFix p m c cX10_needed 3 s ([.ref (db_ad E 0), .int x1, .int x2] : List Value).toArray wsX10_needed RX10 := ⟨B.exec, B.bytes, hml, findClass_of_methodNamed B.named, atoms_spec (ws := wsX10_needed) B.pre⟩
  have hx := S.1
  have hb := S.2.1
  have hr := B.returns
  have hlocks := B.notSynchronized
  have hw := db_start hU
  have hiX10 : ∀ w ∈ wsX100, w ∈ wsX10_needed := fun w_ h_ => List.mem_cons_of_mem _ (List.mem_append_left _ (List.mem_append_left _ (List.mem_append_right _ h_)))
  have hl := lv_entry ([.ref (db_ad E 0), .int x1, .int x2]) (n := 3) (Nat.le_of_ble_eq_true rfl)
  rw [lg_entry_eq]
  generalize (lg_sl ([.ref (db_ad E 0), .int x1, .int x2]) ++ List.replicate (3 - (lg_sl ([.ref (db_ad E 0), .int x1, .int x2])).length) Slot.unset).toArray = ls at hl ⊢
  have hl : lv_has ls 3 [(0, .ref (db_ad E 0)), (1, .int x1), (2, .int x2)] := hl
  refine lv_iload_n hx hb dX10_needed_0 rfl (lv_at hl 1 rfl) ?_
  refine lv_if_lt (tgt := 9) hx hb dX10_needed_1 (by decide) (fun c9 => ?_) (fun c9 => ?_)
  · have h := h.1 c9
    refine lv_aload_n hx hb dX10_needed_9 rfl (lv_at hl 0 rfl) ?_
    refine lv_bipush (v := (-4 : Int32)) hx hb dX10_needed_10 (by decide) ?_
    refine db_callVi S hw (Nat.le_of_ble_eq_true rfl) db_s0 (C := RX10) (T := TX10) (N := 15) (As := [.int (-4 : Int32)]) rfl (ct_X10_refuse  h) gX10_needed_X10_refuse rfl ⟨rfl, rfl, Nat.le_of_ble_eq_true rfl, Nat.le_of_ble_eq_true rfl⟩ 1 rfl (by decide +kernel) hl.1 rfl (Nat.le_of_ble_eq_true rfl) dX10_needed_12 ⟨Nat.zero_le _, Nat.zero_le _⟩ (fun r1 X1 H locs h hw => ?_)
    exact db_iret S hr hlocks hw h dX10_needed_15
  · have h := h.2 c9
    refine lv_iload_n hx hb dX10_needed_4 rfl (lv_at hl 2 rfl) ?_
    refine lv_iconst (v := (1 : Int32)) hx hb dX10_needed_5 (by decide) ?_
    refine lv_icmp_ge (tgt := 16) hx hb dX10_needed_6 (by decide) (fun c8 => ?_) (fun c8 => ?_)
    · have h := h.1 c8
      refine lv_iload_n hx hb dX10_needed_16 rfl (lv_at hl 1 rfl) ?_
      refine lv_sipush (v := (400 : Int32)) hx hb dX10_needed_17 (by decide) ?_
      refine lv_icmp_gt (tgt := 30) hx hb dX10_needed_20 (by decide) (fun c6 => ?_) (fun c6 => ?_)
      · have h := h.1 c6
        refine lv_aload_n hx hb dX10_needed_30 rfl (lv_at hl 0 rfl) ?_
        refine lv_bipush (v := (-6 : Int32)) hx hb dX10_needed_31 (by decide) ?_
        refine db_callVi S hw (Nat.le_of_ble_eq_true rfl) db_s0 (C := RX10) (T := TX10) (N := 15) (As := [.int (-6 : Int32)]) rfl (ct_X10_refuse  h) gX10_needed_X10_refuse rfl ⟨rfl, rfl, Nat.le_of_ble_eq_true rfl, Nat.le_of_ble_eq_true rfl⟩ 1 rfl (by decide +kernel) hl.1 rfl (Nat.le_of_ble_eq_true rfl) dX10_needed_33 ⟨Nat.zero_le _, Nat.zero_le _⟩ (fun r2 X2 H locs h hw => ?_)
        exact db_iret S hr hlocks hw h dX10_needed_36
      · have h := h.2 c6
        refine lv_iload_n hx hb dX10_needed_23 rfl (lv_at hl 2 rfl) ?_
        refine lv_sipush (v := (400 : Int32)) hx hb dX10_needed_24 (by decide) ?_
        refine lv_icmp_le (tgt := 37) hx hb dX10_needed_27 (by decide) (fun c5 => ?_) (fun c5 => ?_)
        · have h := h.1 c5
          refine lv_aload_n hx hb dX10_needed_37 rfl (lv_at hl 0 rfl) ?_
          refine db_getr S hw (Nat.le_of_ble_eq_true rfl) db_s0 (C := RX10) (T := TX10) (N := 15) rfl hiX10 7 (by decide) (r := 43) rfl (List.mem_of_getElem? (i := 1) rfl) dX10_needed_38 ?_
          refine lv_iload_n hx hb dX10_needed_41 rfl (lv_at hl 1 rfl) ?_
          refine lv_bipush (v := (10 : Int32)) hx hb dX10_needed_42 (by decide) ?_
          refine lv_imul hx hb dX10_needed_44 ?_
          refine lv_iload_n hx hb dX10_needed_45 rfl (lv_at hl 2 rfl) ?_
          refine db_callVi S hw (Nat.le_of_ble_eq_true rfl) db_s43 (C := RX3) (T := TX3) (N := 7) (As := [.int (x1 * (10 : Int32)), .int x2]) rfl (ct_X3_friendsToPay  h) gX10_needed_X3_friendsToPay rfl ⟨rfl, rfl, Nat.le_of_ble_eq_true rfl, Nat.le_of_ble_eq_true rfl⟩ 2 rfl (by decide +kernel) hl.1 rfl (Nat.le_of_ble_eq_true rfl) dX10_needed_46 ⟨Nat.zero_le _, Nat.zero_le _⟩ (fun r3 X3 H locs h hw => ?_)
          exact db_iret S hr hlocks hw h dX10_needed_49
        · have h := h.2 c5
          refine lv_aload_n hx hb dX10_needed_30 rfl (lv_at hl 0 rfl) ?_
          refine lv_bipush (v := (-6 : Int32)) hx hb dX10_needed_31 (by decide) ?_
          refine db_callVi S hw (Nat.le_of_ble_eq_true rfl) db_s0 (C := RX10) (T := TX10) (N := 15) (As := [.int (-6 : Int32)]) rfl (ct_X10_refuse  h) gX10_needed_X10_refuse rfl ⟨rfl, rfl, Nat.le_of_ble_eq_true rfl, Nat.le_of_ble_eq_true rfl⟩ 1 rfl (by decide +kernel) hl.1 rfl (Nat.le_of_ble_eq_true rfl) dX10_needed_33 ⟨Nat.zero_le _, Nat.zero_le _⟩ (fun r4 X4 H locs h hw => ?_)
          exact db_iret S hr hlocks hw h dX10_needed_36
    · have h := h.2 c8
      refine lv_aload_n hx hb dX10_needed_9 rfl (lv_at hl 0 rfl) ?_
      refine lv_bipush (v := (-4 : Int32)) hx hb dX10_needed_10 (by decide) ?_
      refine db_callVi S hw (Nat.le_of_ble_eq_true rfl) db_s0 (C := RX10) (T := TX10) (N := 15) (As := [.int (-4 : Int32)]) rfl (ct_X10_refuse  h) gX10_needed_X10_refuse rfl ⟨rfl, rfl, Nat.le_of_ble_eq_true rfl, Nat.le_of_ble_eq_true rfl⟩ 1 rfl (by decide +kernel) hl.1 rfl (Nat.le_of_ble_eq_true rfl) dX10_needed_12 ⟨Nat.zero_le _, Nat.zero_le _⟩ (fun r7 X7 H locs h hw => ?_)
      exact db_iret S hr hlocks hw h dX10_needed_15
-- DaysOnBread.over(IIII)I
abbrev rm_X10_over : Room := { frames := 1, cells := 0, slots := 0, locals := 24 }
def wp_X10_over  (X : db_St) (x1 : Int32) (x2 : Int32) (x3 : Int32) (x4 : Int32) (Q : Int32 → db_St → Prop) : Prop := wp_X10_isKind X x1 (fun r1 X1 => ((r1 = 0 → wp_X10_refuse X1 (-1 : Int32) (fun r2 X2 => Q r2 X2)) ∧ (¬ (r1 = 0) → wp_X10_isKind X1 x3 (fun r3 X3 => ((r3 = 0 → wp_X10_refuse X3 (-1 : Int32) (fun r4 X4 => Q r4 X4)) ∧ (¬ (r3 = 0) → ((x1 = x3 → wp_X10_refuse X3 (-1 : Int32) (fun r16 X16 => Q r16 X16)) ∧ (¬ x1 = x3 → ((x2 < (1 : Int32) → wp_X10_refuse X3 (-4 : Int32) (fun r5 X5 => Q r5 X5)) ∧ (¬ (x2 < (1 : Int32)) → (((1 : Int32) ≤ x4 → (((30 : Int32) < x2 → wp_X10_refuse X3 (-6 : Int32) (fun r6 X6 => Q r6 X6)) ∧ (¬ ((30 : Int32) < x2) → (((30 : Int32) < x4 → wp_X10_refuse X3 (-6 : Int32) (fun r7 X7 => Q r7 X7)) ∧ (¬ ((30 : Int32) < x4) → (((X3.1 38 4) < (12 : Int32) → wp_X5_add X3 x1 x2 x3 x4 (fun r8 X8 => Q r8 X8)) ∧ (¬ ((X3.1 38 4) < (12 : Int32)) → wp_X10_refuse X3 (-6 : Int32) (fun r9 X9 => Q r9 X9)))))))) ∧ (¬ ((1 : Int32) ≤ x4) → wp_X10_refuse X3 (-4 : Int32) (fun r13 X13 => Q r13 X13)))))))))))))
set_option maxHeartbeats 4000000 in
set_option maxRecDepth 100000 in
theorem ct_X10_over {l : Launch} {E : db_E}  {X : db_St} {x1 : Int32} {x2 : Int32} {x3 : Int32} {x4 : Int32} {Q : Int32 → db_St → Prop} (h : wp_X10_over  X x1 x2 x3 x4 Q) : db_MI l E yX10_over wsX10_over rm_X10_over X [.ref (db_ad E 0), .int x1, .int x2, .int x3, .int x4] Q := by
  intro sz
  unfold wp_X10_over at h
  refine Met.ofW (cc := cX10_over) (maxL := 5) (ret := (some .int)) (by decide) rfl ?_
  intro p e s m args below meth c s₁ B hml hv
  obtain ⟨rfl, hsz, hU⟩ := hv
  subst hsz
  have S : CallFix p m c cX10_over 5 s ([.ref (db_ad E 0), .int x1, .int x2, .int x3, .int x4] : List Value).toArray wsX10_over RX10 := ⟨B.exec, B.bytes, hml, findClass_of_methodNamed B.named, atoms_spec (ws := wsX10_over) B.pre⟩
  have hx := S.1
  have hb := S.2.1
  have hr := B.returns
  have hlocks := B.notSynchronized
  have hw := db_start hU
  have hiX10 : ∀ w ∈ wsX100, w ∈ wsX10_over := fun w_ h_ => List.mem_cons_of_mem _ (List.mem_append_left _ (List.mem_append_right _ h_))
  have hiX5 : ∀ w ∈ wsX50, w ∈ wsX10_over := fun w_ h_ => List.mem_cons_of_mem _ (List.mem_append_right _ h_)
  have hl := lv_entry ([.ref (db_ad E 0), .int x1, .int x2, .int x3, .int x4]) (n := 5) (Nat.le_of_ble_eq_true rfl)
  rw [lg_entry_eq]
  generalize (lg_sl ([.ref (db_ad E 0), .int x1, .int x2, .int x3, .int x4]) ++ List.replicate (5 - (lg_sl ([.ref (db_ad E 0), .int x1, .int x2, .int x3, .int x4])).length) Slot.unset).toArray = ls at hl ⊢
  have hl : lv_has ls 5 [(0, .ref (db_ad E 0)), (1, .int x1), (2, .int x2), (3, .int x3), (4, .int x4)] := hl
  refine lv_iload_n hx hb dX10_over_0 rfl (lv_at hl 1 rfl) ?_
  refine db_callSi S hw (As := [.int x1]) (ct_X10_isKind  h) gX10_over_X10_isKind rfl ⟨rfl, rfl, Nat.le_of_ble_eq_true rfl, Nat.le_of_ble_eq_true rfl⟩ 1 rfl (by decide +kernel) hl.1 rfl (Nat.le_of_ble_eq_true rfl) dX10_over_1 ⟨Nat.zero_le _, Nat.zero_le _⟩ (fun r1 X1 H locs h hw => ?_)
  refine lv_if_eq (tgt := 19) hx hb dX10_over_4 (by decide) (fun c19 => ?_) (fun c19 => ?_)
  · have h := h.1 c19
    refine lv_aload_n hx hb dX10_over_19 rfl (lv_at hl 0 rfl) ?_
    refine lv_iconst (v := (-1 : Int32)) hx hb dX10_over_20 (by decide) ?_
    refine db_callVi S hw (Nat.le_of_ble_eq_true rfl) db_s0 (C := RX10) (T := TX10) (N := 15) (As := [.int (-1 : Int32)]) rfl (ct_X10_refuse  h) gX10_over_X10_refuse rfl ⟨rfl, rfl, Nat.le_of_ble_eq_true rfl, Nat.le_of_ble_eq_true rfl⟩ 1 rfl (by decide +kernel) hl.1 rfl (Nat.le_of_ble_eq_true rfl) dX10_over_21 ⟨Nat.zero_le _, Nat.zero_le _⟩ (fun r2 X2 H locs h hw => ?_)
    exact db_iret S hr hlocks hw h dX10_over_24
  · have h := h.2 c19
    refine lv_iload_n hx hb dX10_over_7 rfl (lv_at hl 3 rfl) ?_
    refine db_callSi S hw (As := [.int x3]) (ct_X10_isKind  h) gX10_over_X10_isKind rfl ⟨rfl, rfl, Nat.le_of_ble_eq_true rfl, Nat.le_of_ble_eq_true rfl⟩ 1 rfl (by decide +kernel) hl.1 rfl (Nat.le_of_ble_eq_true rfl) dX10_over_8 ⟨Nat.zero_le _, Nat.zero_le _⟩ (fun r3 X3 H locs h hw => ?_)
    refine lv_if_eq (tgt := 19) hx hb dX10_over_11 (by decide) (fun c18 => ?_) (fun c18 => ?_)
    · have h := h.1 c18
      refine lv_aload_n hx hb dX10_over_19 rfl (lv_at hl 0 rfl) ?_
      refine lv_iconst (v := (-1 : Int32)) hx hb dX10_over_20 (by decide) ?_
      refine db_callVi S hw (Nat.le_of_ble_eq_true rfl) db_s0 (C := RX10) (T := TX10) (N := 15) (As := [.int (-1 : Int32)]) rfl (ct_X10_refuse  h) gX10_over_X10_refuse rfl ⟨rfl, rfl, Nat.le_of_ble_eq_true rfl, Nat.le_of_ble_eq_true rfl⟩ 1 rfl (by decide +kernel) hl.1 rfl (Nat.le_of_ble_eq_true rfl) dX10_over_21 ⟨Nat.zero_le _, Nat.zero_le _⟩ (fun r4 X4 H locs h hw => ?_)
      exact db_iret S hr hlocks hw h dX10_over_24
    · have h := h.2 c18
      refine lv_iload_n hx hb dX10_over_14 rfl (lv_at hl 1 rfl) ?_
      refine lv_iload_n hx hb dX10_over_15 rfl (lv_at hl 3 rfl) ?_
      refine lv_icmp_ne (tgt := 25) hx hb dX10_over_16 (by decide) (fun c17 => ?_) (fun c17 => ?_)
      · have h := h.2 c17
        refine lv_iload_n hx hb dX10_over_25 rfl (lv_at hl 2 rfl) ?_
        refine lv_iconst (v := (1 : Int32)) hx hb dX10_over_26 (by decide) ?_
        refine lv_icmp_lt (tgt := 36) hx hb dX10_over_27 (by decide) (fun c15 => ?_) (fun c15 => ?_)
        · have h := h.1 c15
          refine lv_aload_n hx hb dX10_over_36 rfl (lv_at hl 0 rfl) ?_
          refine lv_bipush (v := (-4 : Int32)) hx hb dX10_over_37 (by decide) ?_
          refine db_callVi S hw (Nat.le_of_ble_eq_true rfl) db_s0 (C := RX10) (T := TX10) (N := 15) (As := [.int (-4 : Int32)]) rfl (ct_X10_refuse  h) gX10_over_X10_refuse rfl ⟨rfl, rfl, Nat.le_of_ble_eq_true rfl, Nat.le_of_ble_eq_true rfl⟩ 1 rfl (by decide +kernel) hl.1 rfl (Nat.le_of_ble_eq_true rfl) dX10_over_39 ⟨Nat.zero_le _, Nat.zero_le _⟩ (fun r5 X5 H locs h hw => ?_)
          exact db_iret S hr hlocks hw h dX10_over_42
        · have h := h.2 c15
          refine lv_iload hx hb dX10_over_30 (lv_at hl 4 rfl) ?_
          refine lv_iconst (v := (1 : Int32)) hx hb dX10_over_32 (by decide) ?_
          refine lv_icmp_ge (tgt := 43) hx hb dX10_over_33 (by decide) (fun c14 => ?_) (fun c14 => ?_)
          · have h := h.1 c14
            refine lv_iload_n hx hb dX10_over_43 rfl (lv_at hl 2 rfl) ?_
            refine lv_bipush (v := (30 : Int32)) hx hb dX10_over_44 (by decide) ?_
            refine lv_icmp_gt (tgt := 68) hx hb dX10_over_46 (by decide) (fun c12 => ?_) (fun c12 => ?_)
            · have h := h.1 c12
              refine lv_aload_n hx hb dX10_over_68 rfl (lv_at hl 0 rfl) ?_
              refine lv_bipush (v := (-6 : Int32)) hx hb dX10_over_69 (by decide) ?_
              refine db_callVi S hw (Nat.le_of_ble_eq_true rfl) db_s0 (C := RX10) (T := TX10) (N := 15) (As := [.int (-6 : Int32)]) rfl (ct_X10_refuse  h) gX10_over_X10_refuse rfl ⟨rfl, rfl, Nat.le_of_ble_eq_true rfl, Nat.le_of_ble_eq_true rfl⟩ 1 rfl (by decide +kernel) hl.1 rfl (Nat.le_of_ble_eq_true rfl) dX10_over_71 ⟨Nat.zero_le _, Nat.zero_le _⟩ (fun r6 X6 H locs h hw => ?_)
              exact db_iret S hr hlocks hw h dX10_over_74
            · have h := h.2 c12
              refine lv_iload hx hb dX10_over_49 (lv_at hl 4 rfl) ?_
              refine lv_bipush (v := (30 : Int32)) hx hb dX10_over_51 (by decide) ?_
              refine lv_icmp_gt (tgt := 68) hx hb dX10_over_53 (by decide) (fun c11 => ?_) (fun c11 => ?_)
              · have h := h.1 c11
                refine lv_aload_n hx hb dX10_over_68 rfl (lv_at hl 0 rfl) ?_
                refine lv_bipush (v := (-6 : Int32)) hx hb dX10_over_69 (by decide) ?_
                refine db_callVi S hw (Nat.le_of_ble_eq_true rfl) db_s0 (C := RX10) (T := TX10) (N := 15) (As := [.int (-6 : Int32)]) rfl (ct_X10_refuse  h) gX10_over_X10_refuse rfl ⟨rfl, rfl, Nat.le_of_ble_eq_true rfl, Nat.le_of_ble_eq_true rfl⟩ 1 rfl (by decide +kernel) hl.1 rfl (Nat.le_of_ble_eq_true rfl) dX10_over_71 ⟨Nat.zero_le _, Nat.zero_le _⟩ (fun r7 X7 H locs h hw => ?_)
                exact db_iret S hr hlocks hw h dX10_over_74
              · have h := h.2 c11
                refine lv_aload_n hx hb dX10_over_56 rfl (lv_at hl 0 rfl) ?_
                refine db_getr S hw (Nat.le_of_ble_eq_true rfl) db_s0 (C := RX10) (T := TX10) (N := 15) rfl hiX10 6 (by decide) (r := 38) rfl (List.mem_of_getElem? (i := 1) rfl) dX10_over_57 ?_
                refine db_getiN S hw (Nat.le_of_ble_eq_true rfl) db_s38 (C := RX5) (T := TX5) (N := 5) rfl hiX5 4 (by decide) rfl (List.mem_of_getElem? (i := 30) rfl) dX10_over_60 ?_
                refine lv_bipush (v := (12 : Int32)) hx hb dX10_over_63 (by decide) ?_
                refine lv_icmp_lt (tgt := 75) hx hb dX10_over_65 (by decide) (fun c10 => ?_) (fun c10 => ?_)
                · have h := h.1 c10
                  refine lv_aload_n hx hb dX10_over_75 rfl (lv_at hl 0 rfl) ?_
                  refine db_getr S hw (Nat.le_of_ble_eq_true rfl) db_s0 (C := RX10) (T := TX10) (N := 15) rfl hiX10 6 (by decide) (r := 38) rfl (List.mem_of_getElem? (i := 1) rfl) dX10_over_76 ?_
                  refine lv_iload_n hx hb dX10_over_79 rfl (lv_at hl 1 rfl) ?_
                  refine lv_iload_n hx hb dX10_over_80 rfl (lv_at hl 2 rfl) ?_
                  refine lv_iload_n hx hb dX10_over_81 rfl (lv_at hl 3 rfl) ?_
                  refine lv_iload hx hb dX10_over_82 (lv_at hl 4 rfl) ?_
                  refine db_callVi S hw (Nat.le_of_ble_eq_true rfl) db_s38 (C := RX5) (T := TX5) (N := 5) (As := [.int x1, .int x2, .int x3, .int x4]) rfl (ct_X5_add  h) gX10_over_X5_add rfl ⟨rfl, rfl, Nat.le_of_ble_eq_true rfl, Nat.le_of_ble_eq_true rfl⟩ 4 rfl (by decide +kernel) hl.1 rfl (Nat.le_of_ble_eq_true rfl) dX10_over_84 ⟨Nat.zero_le _, Nat.zero_le _⟩ (fun r8 X8 H locs h hw => ?_)
                  exact db_iret S hr hlocks hw h dX10_over_87
                · have h := h.2 c10
                  refine lv_aload_n hx hb dX10_over_68 rfl (lv_at hl 0 rfl) ?_
                  refine lv_bipush (v := (-6 : Int32)) hx hb dX10_over_69 (by decide) ?_
                  refine db_callVi S hw (Nat.le_of_ble_eq_true rfl) db_s0 (C := RX10) (T := TX10) (N := 15) (As := [.int (-6 : Int32)]) rfl (ct_X10_refuse  h) gX10_over_X10_refuse rfl ⟨rfl, rfl, Nat.le_of_ble_eq_true rfl, Nat.le_of_ble_eq_true rfl⟩ 1 rfl (by decide +kernel) hl.1 rfl (Nat.le_of_ble_eq_true rfl) dX10_over_71 ⟨Nat.zero_le _, Nat.zero_le _⟩ (fun r9 X9 H locs h hw => ?_)
                  exact db_iret S hr hlocks hw h dX10_over_74
          · have h := h.2 c14
            refine lv_aload_n hx hb dX10_over_36 rfl (lv_at hl 0 rfl) ?_
            refine lv_bipush (v := (-4 : Int32)) hx hb dX10_over_37 (by decide) ?_
            refine db_callVi S hw (Nat.le_of_ble_eq_true rfl) db_s0 (C := RX10) (T := TX10) (N := 15) (As := [.int (-4 : Int32)]) rfl (ct_X10_refuse  h) gX10_over_X10_refuse rfl ⟨rfl, rfl, Nat.le_of_ble_eq_true rfl, Nat.le_of_ble_eq_true rfl⟩ 1 rfl (by decide +kernel) hl.1 rfl (Nat.le_of_ble_eq_true rfl) dX10_over_39 ⟨Nat.zero_le _, Nat.zero_le _⟩ (fun r13 X13 H locs h hw => ?_)
            exact db_iret S hr hlocks hw h dX10_over_42
      · have h := h.1 c17
        refine lv_aload_n hx hb dX10_over_19 rfl (lv_at hl 0 rfl) ?_
        refine lv_iconst (v := (-1 : Int32)) hx hb dX10_over_20 (by decide) ?_
        refine db_callVi S hw (Nat.le_of_ble_eq_true rfl) db_s0 (C := RX10) (T := TX10) (N := 15) (As := [.int (-1 : Int32)]) rfl (ct_X10_refuse  h) gX10_over_X10_refuse rfl ⟨rfl, rfl, Nat.le_of_ble_eq_true rfl, Nat.le_of_ble_eq_true rfl⟩ 1 rfl (by decide +kernel) hl.1 rfl (Nat.le_of_ble_eq_true rfl) dX10_over_21 ⟨Nat.zero_le _, Nat.zero_le _⟩ (fun r16 X16 H locs h hw => ?_)
        exact db_iret S hr hlocks hw h dX10_over_24
-- DaysOnBread.byPutting(II)I
abbrev rm_X10_byPutting : Room := { frames := 3, cells := 0, slots := 0, locals := 76 }
def wp_X10_byPutting  (X : db_St) (x1 : Int32) (x2 : Int32) (Q : Int32 → db_St → Prop) : Prop := wp_X10_isKind X x1 (fun r1 X1 => ((r1 = 0 → wp_X10_refuse X1 (-1 : Int32) (fun r9 X9 => Q r9 X9)) ∧ (¬ r1 = 0 → ((x2 < 0 → wp_X10_refuse X1 (-2 : Int32) (fun r2 X2 => Q r2 X2)) ∧ (¬ (x2 < 0) → ((x2 ≤ (1 : Int32) → ((x2 = (1 : Int32) → wp_X9_leastPart X1 x1 (1 : Int32) (fun r4 X4 => Q r4 X4)) ∧ (¬ x2 = (1 : Int32) → wp_X9_leastPart X1 x1 (0 : Int32) (fun r3 X3 => Q r3 X3)))) ∧ (¬ (x2 ≤ (1 : Int32)) → wp_X10_refuse X1 (-2 : Int32) (fun r6 X6 => Q r6 X6))))))))
set_option maxHeartbeats 4000000 in
set_option maxRecDepth 100000 in
theorem ct_X10_byPutting {l : Launch} {E : db_E}  {X : db_St} {x1 : Int32} {x2 : Int32} {Q : Int32 → db_St → Prop} (h : wp_X10_byPutting  X x1 x2 Q) : db_MI l E yX10_byPutting wsX10_byPutting rm_X10_byPutting X [.ref (db_ad E 0), .int x1, .int x2] Q := by
  intro sz
  unfold wp_X10_byPutting at h
  refine Met.ofW (cc := cX10_byPutting) (maxL := 3) (ret := (some .int)) (by decide) rfl ?_
  intro p e s m args below meth c s₁ B hml hv
  obtain ⟨rfl, hsz, hU⟩ := hv
  subst hsz
  have S : CallFix p m c cX10_byPutting 3 s ([.ref (db_ad E 0), .int x1, .int x2] : List Value).toArray wsX10_byPutting RX10 := ⟨B.exec, B.bytes, hml, findClass_of_methodNamed B.named, atoms_spec (ws := wsX10_byPutting) B.pre⟩
  have hx := S.1
  have hb := S.2.1
  have hr := B.returns
  have hlocks := B.notSynchronized
  have hw := db_start hU
  have hiX10 : ∀ w ∈ wsX100, w ∈ wsX10_byPutting := fun w_ h_ => List.mem_cons_of_mem _ (List.mem_append_left _ (List.mem_append_left _ (List.mem_append_right _ h_)))
  have hl := lv_entry ([.ref (db_ad E 0), .int x1, .int x2]) (n := 3) (Nat.le_of_ble_eq_true rfl)
  rw [lg_entry_eq]
  generalize (lg_sl ([.ref (db_ad E 0), .int x1, .int x2]) ++ List.replicate (3 - (lg_sl ([.ref (db_ad E 0), .int x1, .int x2])).length) Slot.unset).toArray = ls at hl ⊢
  have hl : lv_has ls 3 [(0, .ref (db_ad E 0)), (1, .int x1), (2, .int x2)] := hl
  refine lv_iload_n hx hb dX10_byPutting_0 rfl (lv_at hl 1 rfl) ?_
  refine db_callSi S hw (As := [.int x1]) (ct_X10_isKind  h) gX10_byPutting_X10_isKind rfl ⟨rfl, rfl, Nat.le_of_ble_eq_true rfl, Nat.le_of_ble_eq_true rfl⟩ 1 rfl (by decide +kernel) hl.1 rfl (Nat.le_of_ble_eq_true rfl) dX10_byPutting_1 ⟨Nat.zero_le _, Nat.zero_le _⟩ (fun r1 X1 H locs h hw => ?_)
  refine lv_if_ne (tgt := 13) hx hb dX10_byPutting_4 (by decide) (fun c10 => ?_) (fun c10 => ?_)
  · have h := h.2 c10
    refine lv_iload_n hx hb dX10_byPutting_13 rfl (lv_at hl 2 rfl) ?_
    refine lv_if_lt (tgt := 22) hx hb dX10_byPutting_14 (by decide) (fun c8 => ?_) (fun c8 => ?_)
    · have h := h.1 c8
      refine lv_aload_n hx hb dX10_byPutting_22 rfl (lv_at hl 0 rfl) ?_
      refine lv_bipush (v := (-2 : Int32)) hx hb dX10_byPutting_23 (by decide) ?_
      refine db_callVi S hw (Nat.le_of_ble_eq_true rfl) db_s0 (C := RX10) (T := TX10) (N := 15) (As := [.int (-2 : Int32)]) rfl (ct_X10_refuse  h) gX10_byPutting_X10_refuse rfl ⟨rfl, rfl, Nat.le_of_ble_eq_true rfl, Nat.le_of_ble_eq_true rfl⟩ 1 rfl (by decide +kernel) hl.1 rfl (Nat.le_of_ble_eq_true rfl) dX10_byPutting_25 ⟨Nat.zero_le _, Nat.zero_le _⟩ (fun r2 X2 H locs h hw => ?_)
      exact db_iret S hr hlocks hw h dX10_byPutting_28
    · have h := h.2 c8
      refine lv_iload_n hx hb dX10_byPutting_17 rfl (lv_at hl 2 rfl) ?_
      refine lv_iconst (v := (1 : Int32)) hx hb dX10_byPutting_18 (by decide) ?_
      refine lv_icmp_le (tgt := 29) hx hb dX10_byPutting_19 (by decide) (fun c7 => ?_) (fun c7 => ?_)
      · have h := h.1 c7
        refine lv_aload_n hx hb dX10_byPutting_29 rfl (lv_at hl 0 rfl) ?_
        refine db_getr S hw (Nat.le_of_ble_eq_true rfl) db_s0 (C := RX10) (T := TX10) (N := 15) rfl hiX10 9 (by decide) (r := 49) rfl (List.mem_of_getElem? (i := 1) rfl) dX10_byPutting_30 ?_
        refine lv_iload_n hx hb dX10_byPutting_33 rfl (lv_at hl 1 rfl) ?_
        refine lv_iload_n hx hb dX10_byPutting_34 rfl (lv_at hl 2 rfl) ?_
        refine lv_iconst (v := (1 : Int32)) hx hb dX10_byPutting_35 (by decide) ?_
        refine lv_icmp_ne (tgt := 43) hx hb dX10_byPutting_36 (by decide) (fun c5 => ?_) (fun c5 => ?_)
        · have h := h.2 c5
          refine lv_iconst (v := (0 : Int32)) hx hb dX10_byPutting_43 (by decide) ?_
          refine db_callVi S hw (Nat.le_of_ble_eq_true rfl) db_s49 (C := RX9) (T := TX9) (N := 3) (As := [.int x1, .int (0 : Int32)]) rfl (ct_X9_leastPart  h) gX10_byPutting_X9_leastPart rfl ⟨rfl, rfl, Nat.le_of_ble_eq_true rfl, Nat.le_of_ble_eq_true rfl⟩ 2 rfl (by decide +kernel) hl.1 rfl (Nat.le_of_ble_eq_true rfl) dX10_byPutting_44 ⟨Nat.zero_le _, Nat.zero_le _⟩ (fun r3 X3 H locs h hw => ?_)
          exact db_iret S hr hlocks hw h dX10_byPutting_47
        · have h := h.1 c5
          refine lv_iconst (v := (1 : Int32)) hx hb dX10_byPutting_39 (by decide) ?_
          refine lv_goto (tgt := 44) hx hb dX10_byPutting_40 (by decide) ?_
          refine db_callVi S hw (Nat.le_of_ble_eq_true rfl) db_s49 (C := RX9) (T := TX9) (N := 3) (As := [.int x1, .int (1 : Int32)]) rfl (ct_X9_leastPart  h) gX10_byPutting_X9_leastPart rfl ⟨rfl, rfl, Nat.le_of_ble_eq_true rfl, Nat.le_of_ble_eq_true rfl⟩ 2 rfl (by decide +kernel) hl.1 rfl (Nat.le_of_ble_eq_true rfl) dX10_byPutting_44 ⟨Nat.zero_le _, Nat.zero_le _⟩ (fun r4 X4 H locs h hw => ?_)
          exact db_iret S hr hlocks hw h dX10_byPutting_47
      · have h := h.2 c7
        refine lv_aload_n hx hb dX10_byPutting_22 rfl (lv_at hl 0 rfl) ?_
        refine lv_bipush (v := (-2 : Int32)) hx hb dX10_byPutting_23 (by decide) ?_
        refine db_callVi S hw (Nat.le_of_ble_eq_true rfl) db_s0 (C := RX10) (T := TX10) (N := 15) (As := [.int (-2 : Int32)]) rfl (ct_X10_refuse  h) gX10_byPutting_X10_refuse rfl ⟨rfl, rfl, Nat.le_of_ble_eq_true rfl, Nat.le_of_ble_eq_true rfl⟩ 1 rfl (by decide +kernel) hl.1 rfl (Nat.le_of_ble_eq_true rfl) dX10_byPutting_25 ⟨Nat.zero_le _, Nat.zero_le _⟩ (fun r6 X6 H locs h hw => ?_)
        exact db_iret S hr hlocks hw h dX10_byPutting_28
  · have h := h.1 c10
    refine lv_aload_n hx hb dX10_byPutting_7 rfl (lv_at hl 0 rfl) ?_
    refine lv_iconst (v := (-1 : Int32)) hx hb dX10_byPutting_8 (by decide) ?_
    refine db_callVi S hw (Nat.le_of_ble_eq_true rfl) db_s0 (C := RX10) (T := TX10) (N := 15) (As := [.int (-1 : Int32)]) rfl (ct_X10_refuse  h) gX10_byPutting_X10_refuse rfl ⟨rfl, rfl, Nat.le_of_ble_eq_true rfl, Nat.le_of_ble_eq_true rfl⟩ 1 rfl (by decide +kernel) hl.1 rfl (Nat.le_of_ble_eq_true rfl) dX10_byPutting_9 ⟨Nat.zero_le _, Nat.zero_le _⟩ (fun r9 X9 H locs h hw => ?_)
    exact db_iret S hr hlocks hw h dX10_byPutting_12
-- DaysOnBread.ring()I
abbrev rm_X10_ring : Room := { frames := 4, cells := 0, slots := 0, locals := 98 }
def wp_X10_ring  (X : db_St)  (Q : Int32 → db_St → Prop) : Prop := wp_X6_shortest X (fun r1 X1 => Q r1 X1)
set_option maxHeartbeats 4000000 in
set_option maxRecDepth 100000 in
theorem ct_X10_ring {l : Launch} {E : db_E}  {X : db_St}  {Q : Int32 → db_St → Prop} (h : wp_X10_ring  X  Q) : db_MI l E yX10_ring wsX10_ring rm_X10_ring X [.ref (db_ad E 0)] Q := by
  intro sz
  unfold wp_X10_ring at h
  refine Met.ofW (cc := cX10_ring) (maxL := 1) (ret := (some .int)) (by decide) rfl ?_
  intro p e s m args below meth c s₁ B hml hv
  obtain ⟨rfl, hsz, hU⟩ := hv
  subst hsz
  have S : CallFix p m c cX10_ring 1 s ([.ref (db_ad E 0)] : List Value).toArray wsX10_ring RX10 := ⟨B.exec, B.bytes, hml, findClass_of_methodNamed B.named, atoms_spec (ws := wsX10_ring) B.pre⟩
  have hx := S.1
  have hb := S.2.1
  have hr := B.returns
  have hlocks := B.notSynchronized
  have hw := db_start hU
  have hiX10 : ∀ w ∈ wsX100, w ∈ wsX10_ring := fun w_ h_ => List.mem_cons_of_mem _ (List.mem_append_left _ (List.mem_append_left _ (List.mem_append_right _ h_)))
  have hl := lv_entry ([.ref (db_ad E 0)]) (n := 1) (Nat.le_of_ble_eq_true rfl)
  rw [lg_entry_eq]
  generalize (lg_sl ([.ref (db_ad E 0)]) ++ List.replicate (1 - (lg_sl ([.ref (db_ad E 0)])).length) Slot.unset).toArray = ls at hl ⊢
  have hl : lv_has ls 1 [(0, .ref (db_ad E 0))] := hl
  refine lv_aload_n hx hb dX10_ring_0 rfl (lv_at hl 0 rfl) ?_
  refine db_getr S hw (Nat.le_of_ble_eq_true rfl) db_s0 (C := RX10) (T := TX10) (N := 15) rfl hiX10 10 (by decide) (r := 52) rfl (List.mem_of_getElem? (i := 1) rfl) dX10_ring_1 ?_
  refine db_callVi S hw (Nat.le_of_ble_eq_true rfl) db_s52 (C := RX6) (T := TX6) (N := 2) (As := []) rfl (ct_X6_shortest  h) gX10_ring_X6_shortest rfl ⟨rfl, rfl, Nat.le_of_ble_eq_true rfl, Nat.le_of_ble_eq_true rfl⟩ 0 rfl (by decide +kernel) hl.1 rfl (Nat.le_of_ble_eq_true rfl) dX10_ring_4 ⟨Nat.zero_le _, Nat.zero_le _⟩ (fun r1 X1 H locs h hw => ?_)
  exact db_iret S hr hlocks hw h dX10_ring_7
-- DaysOnBread.stops()I
abbrev rm_X10_stops : Room := { frames := 4, cells := 0, slots := 0, locals := 98 }
def wp_X10_stops  (X : db_St)  (Q : Int32 → db_St → Prop) : Prop := wp_X6_fewestStops X (fun r1 X1 => Q r1 X1)
set_option maxHeartbeats 4000000 in
set_option maxRecDepth 100000 in
theorem ct_X10_stops {l : Launch} {E : db_E}  {X : db_St}  {Q : Int32 → db_St → Prop} (h : wp_X10_stops  X  Q) : db_MI l E yX10_stops wsX10_stops rm_X10_stops X [.ref (db_ad E 0)] Q := by
  intro sz
  unfold wp_X10_stops at h
  refine Met.ofW (cc := cX10_stops) (maxL := 1) (ret := (some .int)) (by decide) rfl ?_
  intro p e s m args below meth c s₁ B hml hv
  obtain ⟨rfl, hsz, hU⟩ := hv
  subst hsz
  have S : CallFix p m c cX10_stops 1 s ([.ref (db_ad E 0)] : List Value).toArray wsX10_stops RX10 := ⟨B.exec, B.bytes, hml, findClass_of_methodNamed B.named, atoms_spec (ws := wsX10_stops) B.pre⟩
  have hx := S.1
  have hb := S.2.1
  have hr := B.returns
  have hlocks := B.notSynchronized
  have hw := db_start hU
  have hiX10 : ∀ w ∈ wsX100, w ∈ wsX10_stops := fun w_ h_ => List.mem_cons_of_mem _ (List.mem_append_left _ (List.mem_append_left _ (List.mem_append_right _ h_)))
  have hl := lv_entry ([.ref (db_ad E 0)]) (n := 1) (Nat.le_of_ble_eq_true rfl)
  rw [lg_entry_eq]
  generalize (lg_sl ([.ref (db_ad E 0)]) ++ List.replicate (1 - (lg_sl ([.ref (db_ad E 0)])).length) Slot.unset).toArray = ls at hl ⊢
  have hl : lv_has ls 1 [(0, .ref (db_ad E 0))] := hl
  refine lv_aload_n hx hb dX10_stops_0 rfl (lv_at hl 0 rfl) ?_
  refine db_getr S hw (Nat.le_of_ble_eq_true rfl) db_s0 (C := RX10) (T := TX10) (N := 15) rfl hiX10 10 (by decide) (r := 52) rfl (List.mem_of_getElem? (i := 1) rfl) dX10_stops_1 ?_
  refine db_callVi S hw (Nat.le_of_ble_eq_true rfl) db_s52 (C := RX6) (T := TX6) (N := 2) (As := []) rfl (ct_X6_fewestStops  h) gX10_stops_X6_fewestStops rfl ⟨rfl, rfl, Nat.le_of_ble_eq_true rfl, Nat.le_of_ble_eq_true rfl⟩ 0 rfl (by decide +kernel) hl.1 rfl (Nat.le_of_ble_eq_true rfl) dX10_stops_4 ⟨Nat.zero_le _, Nat.zero_le _⟩ (fun r1 X1 H locs h hw => ?_)
  exact db_iret S hr hlocks hw h dX10_stops_7
-- DaysOnBread.put(I)I
abbrev rm_X10_put : Room := { frames := 1, cells := 0, slots := 0, locals := 21 }
def wp_X10_put  (X : db_St) (x1 : Int32) (Q : Int32 → db_St → Prop) : Prop := (((-128 : Int32) ≤ x1 → (((127 : Int32) < x1 → wp_X10_refuse X (-6 : Int32) (fun r1 X1 => Q r1 X1)) ∧ (¬ ((127 : Int32) < x1) → wp_X2_room 4 100 X (fun r2 X2 => (((1 : Int32) ≤ r2 → wp_X2_add 4 100 X2 ((x1).toInt8.toInt32) (fun X3 => wp_X2_size 4 100 X3 (fun r4 X4 => Q r4 X4))) ∧ (¬ ((1 : Int32) ≤ r2) → wp_X10_refuse X2 (-6 : Int32) (fun r5 X5 => Q r5 X5))))))) ∧ (¬ ((-128 : Int32) ≤ x1) → wp_X10_refuse X (-4 : Int32) (fun r8 X8 => Q r8 X8)))
set_option maxHeartbeats 4000000 in
set_option maxRecDepth 100000 in
theorem ct_X10_put {l : Launch} {E : db_E}  {X : db_St} {x1 : Int32} {Q : Int32 → db_St → Prop} (h : wp_X10_put  X x1 Q) : db_MI l E yX10_put wsX10_put rm_X10_put X [.ref (db_ad E 0), .int x1] Q := by
  intro sz
  unfold wp_X10_put at h
  refine Met.ofW (cc := cX10_put) (maxL := 2) (ret := (some .int)) (by decide) rfl ?_
  intro p e s m args below meth c s₁ B hml hv
  obtain ⟨rfl, hsz, hU⟩ := hv
  subst hsz
  have S : CallFix p m c cX10_put 2 s ([.ref (db_ad E 0), .int x1] : List Value).toArray wsX10_put RX10 := ⟨B.exec, B.bytes, hml, findClass_of_methodNamed B.named, atoms_spec (ws := wsX10_put) B.pre⟩
  have hx := S.1
  have hb := S.2.1
  have hr := B.returns
  have hlocks := B.notSynchronized
  have hw := db_start hU
  have hiX10 : ∀ w ∈ wsX100, w ∈ wsX10_put := fun w_ h_ => List.mem_cons_of_mem _ (List.mem_append_left _ (List.mem_append_right _ h_))
  have hl := lv_entry ([.ref (db_ad E 0), .int x1]) (n := 2) (Nat.le_of_ble_eq_true rfl)
  rw [lg_entry_eq]
  generalize (lg_sl ([.ref (db_ad E 0), .int x1]) ++ List.replicate (2 - (lg_sl ([.ref (db_ad E 0), .int x1])).length) Slot.unset).toArray = ls at hl ⊢
  have hl : lv_has ls 2 [(0, .ref (db_ad E 0)), (1, .int x1)] := hl
  refine lv_iload_n hx hb dX10_put_0 rfl (lv_at hl 1 rfl) ?_
  refine lv_bipush (v := (-128 : Int32)) hx hb dX10_put_1 (by decide) ?_
  refine lv_icmp_ge (tgt := 13) hx hb dX10_put_3 (by decide) (fun c9 => ?_) (fun c9 => ?_)
  · have h := h.1 c9
    refine lv_iload_n hx hb dX10_put_13 rfl (lv_at hl 1 rfl) ?_
    refine lv_bipush (v := (127 : Int32)) hx hb dX10_put_14 (by decide) ?_
    refine lv_icmp_gt (tgt := 30) hx hb dX10_put_16 (by decide) (fun c7 => ?_) (fun c7 => ?_)
    · have h := h.1 c7
      refine lv_aload_n hx hb dX10_put_30 rfl (lv_at hl 0 rfl) ?_
      refine lv_bipush (v := (-6 : Int32)) hx hb dX10_put_31 (by decide) ?_
      refine db_callVi S hw (Nat.le_of_ble_eq_true rfl) db_s0 (C := RX10) (T := TX10) (N := 15) (As := [.int (-6 : Int32)]) rfl (ct_X10_refuse  h) gX10_put_X10_refuse rfl ⟨rfl, rfl, Nat.le_of_ble_eq_true rfl, Nat.le_of_ble_eq_true rfl⟩ 1 rfl (by decide +kernel) hl.1 rfl (Nat.le_of_ble_eq_true rfl) dX10_put_33 ⟨Nat.zero_le _, Nat.zero_le _⟩ (fun r1 X1 H locs h hw => ?_)
      exact db_iret S hr hlocks hw h dX10_put_36
    · have h := h.2 c7
      refine lv_aload_n hx hb dX10_put_19 rfl (lv_at hl 0 rfl) ?_
      refine db_getr S hw (Nat.le_of_ble_eq_true rfl) db_s0 (C := RX10) (T := TX10) (N := 15) rfl hiX10 2 (by decide) (r := 4) rfl (List.mem_of_getElem? (i := 1) rfl) dX10_put_20 ?_
      refine db_callVi S hw (Nat.le_of_ble_eq_true rfl) db_s4 (C := RX2) (T := TX2) (N := 2) (As := []) rfl (ct_X2_room db_kb4 h) gX10_put_X2_room rfl ⟨rfl, rfl, Nat.le_of_ble_eq_true rfl, Nat.le_of_ble_eq_true rfl⟩ 0 rfl (by decide +kernel) hl.1 rfl (Nat.le_of_ble_eq_true rfl) dX10_put_23 ⟨Nat.zero_le _, Nat.zero_le _⟩ (fun r2 X2 H locs h hw => ?_)
      refine lv_iconst (v := (1 : Int32)) hx hb dX10_put_26 (by decide) ?_
      refine lv_icmp_ge (tgt := 37) hx hb dX10_put_27 (by decide) (fun c6 => ?_) (fun c6 => ?_)
      · have h := h.1 c6
        refine lv_aload_n hx hb dX10_put_37 rfl (lv_at hl 0 rfl) ?_
        refine db_getr S hw (Nat.le_of_ble_eq_true rfl) db_s0 (C := RX10) (T := TX10) (N := 15) rfl hiX10 2 (by decide) (r := 4) rfl (List.mem_of_getElem? (i := 1) rfl) dX10_put_38 ?_
        refine lv_iload_n hx hb dX10_put_41 rfl (lv_at hl 1 rfl) ?_
        refine lv_i2b (v := ((x1).toInt8.toInt32)) hx hb dX10_put_42 rfl ?_
        refine db_callVv S hw (Nat.le_of_ble_eq_true rfl) db_s4 (C := RX2) (T := TX2) (N := 2) (As := [.int ((x1).toInt8.toInt32)]) rfl (ct_X2_add db_kb4 h) gX10_put_X2_add rfl ⟨rfl, rfl, Nat.le_of_ble_eq_true rfl, Nat.le_of_ble_eq_true rfl⟩ 1 rfl (by decide +kernel) hl.1 rfl (Nat.le_of_ble_eq_true rfl) dX10_put_43 ⟨Nat.zero_le _, Nat.zero_le _⟩ (fun X3 H locs h hw => ?_)
        refine lv_aload_n hx hb dX10_put_46 rfl (lv_at hl 0 rfl) ?_
        refine db_getr S hw (Nat.le_of_ble_eq_true rfl) db_s0 (C := RX10) (T := TX10) (N := 15) rfl hiX10 2 (by decide) (r := 4) rfl (List.mem_of_getElem? (i := 1) rfl) dX10_put_47 ?_
        refine db_callVi S hw (Nat.le_of_ble_eq_true rfl) db_s4 (C := RX2) (T := TX2) (N := 2) (As := []) rfl (ct_X2_size db_kb4 h) gX10_put_X2_size rfl ⟨rfl, rfl, Nat.le_of_ble_eq_true rfl, Nat.le_of_ble_eq_true rfl⟩ 0 rfl (by decide +kernel) hl.1 rfl (Nat.le_of_ble_eq_true rfl) dX10_put_50 ⟨Nat.zero_le _, Nat.zero_le _⟩ (fun r4 X4 H locs h hw => ?_)
        exact db_iret S hr hlocks hw h dX10_put_53
      · have h := h.2 c6
        refine lv_aload_n hx hb dX10_put_30 rfl (lv_at hl 0 rfl) ?_
        refine lv_bipush (v := (-6 : Int32)) hx hb dX10_put_31 (by decide) ?_
        refine db_callVi S hw (Nat.le_of_ble_eq_true rfl) db_s0 (C := RX10) (T := TX10) (N := 15) (As := [.int (-6 : Int32)]) rfl (ct_X10_refuse  h) gX10_put_X10_refuse rfl ⟨rfl, rfl, Nat.le_of_ble_eq_true rfl, Nat.le_of_ble_eq_true rfl⟩ 1 rfl (by decide +kernel) hl.1 rfl (Nat.le_of_ble_eq_true rfl) dX10_put_33 ⟨Nat.zero_le _, Nat.zero_le _⟩ (fun r5 X5 H locs h hw => ?_)
        exact db_iret S hr hlocks hw h dX10_put_36
  · have h := h.2 c9
    refine lv_aload_n hx hb dX10_put_6 rfl (lv_at hl 0 rfl) ?_
    refine lv_bipush (v := (-4 : Int32)) hx hb dX10_put_7 (by decide) ?_
    refine db_callVi S hw (Nat.le_of_ble_eq_true rfl) db_s0 (C := RX10) (T := TX10) (N := 15) (As := [.int (-4 : Int32)]) rfl (ct_X10_refuse  h) gX10_put_X10_refuse rfl ⟨rfl, rfl, Nat.le_of_ble_eq_true rfl, Nat.le_of_ble_eq_true rfl⟩ 1 rfl (by decide +kernel) hl.1 rfl (Nat.le_of_ble_eq_true rfl) dX10_put_9 ⟨Nat.zero_le _, Nat.zero_le _⟩ (fun r8 X8 H locs h hw => ?_)
    exact db_iret S hr hlocks hw h dX10_put_12
-- DaysOnBread.judge()I
abbrev rm_X10_judge : Room := { frames := 4, cells := 0, slots := 0, locals := 106 }
def wp_X10_judge  (X : db_St)  (Q : Int32 → db_St → Prop) : Prop := wp_X3_firstBarred X (fun r1 X1 => wp_X2_clear 4 100 X1 (fun X2 => Q r1 X2))
set_option maxHeartbeats 4000000 in
set_option maxRecDepth 100000 in
theorem ct_X10_judge {l : Launch} {E : db_E}  {X : db_St}  {Q : Int32 → db_St → Prop} (h : wp_X10_judge  X  Q) : db_MI l E yX10_judge wsX10_judge rm_X10_judge X [.ref (db_ad E 0)] Q := by
  intro sz
  unfold wp_X10_judge at h
  refine Met.ofW (cc := cX10_judge) (maxL := 2) (ret := (some .int)) (by decide) rfl ?_
  intro p e s m args below meth c s₁ B hml hv
  obtain ⟨rfl, hsz, hU⟩ := hv
  subst hsz
  have S : CallFix p m c cX10_judge 2 s ([.ref (db_ad E 0)] : List Value).toArray wsX10_judge RX10 := ⟨B.exec, B.bytes, hml, findClass_of_methodNamed B.named, atoms_spec (ws := wsX10_judge) B.pre⟩
  have hx := S.1
  have hb := S.2.1
  have hr := B.returns
  have hlocks := B.notSynchronized
  have hw := db_start hU
  have hiX10 : ∀ w ∈ wsX100, w ∈ wsX10_judge := fun w_ h_ => List.mem_cons_of_mem _ (List.mem_append_left _ (List.mem_append_left _ (List.mem_append_left _ (List.mem_append_right _ h_))))
  have hl := lv_entry ([.ref (db_ad E 0)]) (n := 2) (Nat.le_of_ble_eq_true rfl)
  rw [lg_entry_eq]
  generalize (lg_sl ([.ref (db_ad E 0)]) ++ List.replicate (2 - (lg_sl ([.ref (db_ad E 0)])).length) Slot.unset).toArray = ls at hl ⊢
  have hl : lv_has ls 2 [(0, .ref (db_ad E 0))] := hl
  refine lv_aload_n hx hb dX10_judge_0 rfl (lv_at hl 0 rfl) ?_
  refine db_getr S hw (Nat.le_of_ble_eq_true rfl) db_s0 (C := RX10) (T := TX10) (N := 15) rfl hiX10 7 (by decide) (r := 43) rfl (List.mem_of_getElem? (i := 1) rfl) dX10_judge_1 ?_
  refine lv_aload_n hx hb dX10_judge_4 rfl (lv_at hl 0 rfl) ?_
  refine db_getr S hw (Nat.le_of_ble_eq_true rfl) db_s0 (C := RX10) (T := TX10) (N := 15) rfl hiX10 2 (by decide) (r := 4) rfl (List.mem_of_getElem? (i := 2) rfl) dX10_judge_5 ?_
  refine db_callVi S hw (Nat.le_of_ble_eq_true rfl) db_s43 (C := RX3) (T := TX3) (N := 7) (As := [.ref (db_ad E 4)]) rfl (ct_X3_firstBarred  h) gX10_judge_X3_firstBarred rfl ⟨rfl, rfl, Nat.le_of_ble_eq_true rfl, Nat.le_of_ble_eq_true rfl⟩ 1 rfl (by decide +kernel) hl.1 rfl (Nat.le_of_ble_eq_true rfl) dX10_judge_8 ⟨Nat.zero_le _, Nat.zero_le _⟩ (fun r1 X1 H locs h hw => ?_)
  refine lv_istore_n (lv' := [(1, .int r1), (0, .ref (db_ad E 0))]) hx hb dX10_judge_11 rfl hl (by decide) rfl (fun ls hl => ?_)
  refine lv_aload_n hx hb dX10_judge_12 rfl (lv_at hl 1 rfl) ?_
  refine db_getr S hw (Nat.le_of_ble_eq_true rfl) db_s0 (C := RX10) (T := TX10) (N := 15) rfl hiX10 2 (by decide) (r := 4) rfl (List.mem_of_getElem? (i := 2) rfl) dX10_judge_13 ?_
  refine db_callVv S hw (Nat.le_of_ble_eq_true rfl) db_s4 (C := RX2) (T := TX2) (N := 2) (As := []) rfl (ct_X2_clear db_kb4 h) gX10_judge_X2_clear rfl ⟨rfl, rfl, Nat.le_of_ble_eq_true rfl, Nat.le_of_ble_eq_true rfl⟩ 0 rfl (by decide +kernel) hl.1 rfl (Nat.le_of_ble_eq_true rfl) dX10_judge_16 ⟨Nat.zero_le _, Nat.zero_le _⟩ (fun X2 H locs h hw => ?_)
  refine lv_iload_n hx hb dX10_judge_19 rfl (lv_at hl 0 rfl) ?_
  exact db_iret S hr hlocks hw h dX10_judge_20
-- DaysOnBread.paid()I
abbrev rm_X10_paid : Room := { frames := 4, cells := 0, slots := 0, locals := 106 }
def wp_X10_paid  (X : db_St)  (Q : Int32 → db_St → Prop) : Prop := wp_X3_firstBarred X (fun r1 X1 => ((r1 = (-9 : Int32) → Q (X1.1 43 6) X1) ∧ (¬ r1 = (-9 : Int32) → Q (-9 : Int32) X1)))
set_option maxHeartbeats 4000000 in
set_option maxRecDepth 100000 in
theorem ct_X10_paid {l : Launch} {E : db_E}  {X : db_St}  {Q : Int32 → db_St → Prop} (h : wp_X10_paid  X  Q) : db_MI l E yX10_paid wsX10_paid rm_X10_paid X [.ref (db_ad E 0)] Q := by
  intro sz
  unfold wp_X10_paid at h
  refine Met.ofW (cc := cX10_paid) (maxL := 1) (ret := (some .int)) (by decide) rfl ?_
  intro p e s m args below meth c s₁ B hml hv
  obtain ⟨rfl, hsz, hU⟩ := hv
  subst hsz
  have S : CallFix p m c cX10_paid 1 s ([.ref (db_ad E 0)] : List Value).toArray wsX10_paid RX10 := ⟨B.exec, B.bytes, hml, findClass_of_methodNamed B.named, atoms_spec (ws := wsX10_paid) B.pre⟩
  have hx := S.1
  have hb := S.2.1
  have hr := B.returns
  have hlocks := B.notSynchronized
  have hw := db_start hU
  have hiX10 : ∀ w ∈ wsX100, w ∈ wsX10_paid := fun w_ h_ => List.mem_cons_of_mem _ (List.mem_append_left _ (List.mem_append_left _ (List.mem_append_left _ (List.mem_append_right _ h_))))
  have hiX3 : ∀ w ∈ wsX30, w ∈ wsX10_paid := fun w_ h_ => List.mem_cons_of_mem _ (List.mem_append_left _ (List.mem_append_left _ (List.mem_append_right _ h_)))
  have hl := lv_entry ([.ref (db_ad E 0)]) (n := 1) (Nat.le_of_ble_eq_true rfl)
  rw [lg_entry_eq]
  generalize (lg_sl ([.ref (db_ad E 0)]) ++ List.replicate (1 - (lg_sl ([.ref (db_ad E 0)])).length) Slot.unset).toArray = ls at hl ⊢
  have hl : lv_has ls 1 [(0, .ref (db_ad E 0))] := hl
  refine lv_aload_n hx hb dX10_paid_0 rfl (lv_at hl 0 rfl) ?_
  refine db_getr S hw (Nat.le_of_ble_eq_true rfl) db_s0 (C := RX10) (T := TX10) (N := 15) rfl hiX10 7 (by decide) (r := 43) rfl (List.mem_of_getElem? (i := 1) rfl) dX10_paid_1 ?_
  refine lv_aload_n hx hb dX10_paid_4 rfl (lv_at hl 0 rfl) ?_
  refine db_getr S hw (Nat.le_of_ble_eq_true rfl) db_s0 (C := RX10) (T := TX10) (N := 15) rfl hiX10 2 (by decide) (r := 4) rfl (List.mem_of_getElem? (i := 2) rfl) dX10_paid_5 ?_
  refine db_callVi S hw (Nat.le_of_ble_eq_true rfl) db_s43 (C := RX3) (T := TX3) (N := 7) (As := [.ref (db_ad E 4)]) rfl (ct_X3_firstBarred  h) gX10_paid_X3_firstBarred rfl ⟨rfl, rfl, Nat.le_of_ble_eq_true rfl, Nat.le_of_ble_eq_true rfl⟩ 1 rfl (by decide +kernel) hl.1 rfl (Nat.le_of_ble_eq_true rfl) dX10_paid_8 ⟨Nat.zero_le _, Nat.zero_le _⟩ (fun r1 X1 H locs h hw => ?_)
  refine lv_bipush (v := (-9 : Int32)) hx hb dX10_paid_11 (by decide) ?_
  refine lv_icmp_ne (tgt := 26) hx hb dX10_paid_13 (by decide) (fun c2 => ?_) (fun c2 => ?_)
  · have h := h.2 c2
    refine lv_bipush (v := (-9 : Int32)) hx hb dX10_paid_26 (by decide) ?_
    exact db_iret S hr hlocks hw h dX10_paid_28
  · have h := h.1 c2
    refine lv_aload_n hx hb dX10_paid_16 rfl (lv_at hl 0 rfl) ?_
    refine db_getr S hw (Nat.le_of_ble_eq_true rfl) db_s0 (C := RX10) (T := TX10) (N := 15) rfl hiX10 7 (by decide) (r := 43) rfl (List.mem_of_getElem? (i := 1) rfl) dX10_paid_17 ?_
    refine db_getiN S hw (Nat.le_of_ble_eq_true rfl) db_s43 (C := RX3) (T := TX3) (N := 7) rfl hiX3 6 (by decide) rfl (List.mem_of_getElem? (i := 31) rfl) dX10_paid_20 ?_
    refine lv_goto (tgt := 28) hx hb dX10_paid_23 (by decide) ?_
    exact db_iret S hr hlocks hw h dX10_paid_28
-- DaysOnBread.beside(Z)I
abbrev rm_X10_beside : Room := { frames := 5, cells := 0, slots := 0, locals := 124 }
def wp_X10_beside  (X : db_St) (x1 : Int32) (Q : Int32 → db_St → Prop) : Prop := wp_X8_extreme X x1 (fun r1 X1 => Q r1 X1)
set_option maxHeartbeats 4000000 in
set_option maxRecDepth 100000 in
theorem ct_X10_beside {l : Launch} {E : db_E}  {X : db_St} {x1 : Int32} {Q : Int32 → db_St → Prop} (h : wp_X10_beside  X x1 Q) : db_MI l E yX10_beside wsX10_beside rm_X10_beside X [.ref (db_ad E 0), .int x1] Q := by
  intro sz
  unfold wp_X10_beside at h
  refine Met.ofW (cc := cX10_beside) (maxL := 2) (ret := (some .int)) (by decide) rfl ?_
  intro p e s m args below meth c s₁ B hml hv
  obtain ⟨rfl, hsz, hU⟩ := hv
  subst hsz
  have S : CallFix p m c cX10_beside 2 s ([.ref (db_ad E 0), .int x1] : List Value).toArray wsX10_beside RX10 := ⟨B.exec, B.bytes, hml, findClass_of_methodNamed B.named, atoms_spec (ws := wsX10_beside) B.pre⟩
  have hx := S.1
  have hb := S.2.1
  have hr := B.returns
  have hlocks := B.notSynchronized
  have hw := db_start hU
  have hiX10 : ∀ w ∈ wsX100, w ∈ wsX10_beside := fun w_ h_ => List.mem_cons_of_mem _ (List.mem_append_left _ (List.mem_append_left _ (List.mem_append_right _ h_)))
  have hl := lv_entry ([.ref (db_ad E 0), .int x1]) (n := 2) (Nat.le_of_ble_eq_true rfl)
  rw [lg_entry_eq]
  generalize (lg_sl ([.ref (db_ad E 0), .int x1]) ++ List.replicate (2 - (lg_sl ([.ref (db_ad E 0), .int x1])).length) Slot.unset).toArray = ls at hl ⊢
  have hl : lv_has ls 2 [(0, .ref (db_ad E 0)), (1, .int x1)] := hl
  refine lv_aload_n hx hb dX10_beside_0 rfl (lv_at hl 0 rfl) ?_
  refine db_getr S hw (Nat.le_of_ble_eq_true rfl) db_s0 (C := RX10) (T := TX10) (N := 15) rfl hiX10 4 (by decide) (r := 7) rfl (List.mem_of_getElem? (i := 1) rfl) dX10_beside_1 ?_
  refine lv_iload_n hx hb dX10_beside_4 rfl (lv_at hl 1 rfl) ?_
  refine db_callVi S hw (Nat.le_of_ble_eq_true rfl) db_s7 (C := RX8) (T := TX8) (N := 5) (As := [.int x1]) rfl (ct_X8_extreme  h) gX10_beside_X8_extreme rfl ⟨rfl, rfl, Nat.le_of_ble_eq_true rfl, Nat.le_of_ble_eq_true rfl⟩ 1 rfl (by decide +kernel) hl.1 rfl (Nat.le_of_ble_eq_true rfl) dX10_beside_5 ⟨Nat.zero_le _, Nat.zero_le _⟩ (fun r1 X1 H locs h hw => ?_)
  exact db_iret S hr hlocks hw h dX10_beside_8
-- DaysOnBread.part(II)I
abbrev rm_X10_part : Room := { frames := 4, cells := 0, slots := 0, locals := 98 }
def wp_X10_part  (X : db_St) (x1 : Int32) (x2 : Int32) (Q : Int32 → db_St → Prop) : Prop := wp_X10_isBook X x1 (fun r1 X1 => ((r1 = 0 → wp_X10_refuse X1 (-1 : Int32) (fun r2 X2 => Q r2 X2)) ∧ (¬ (r1 = 0) → wp_X10_isBook X1 x2 (fun r3 X3 => ((r3 = 0 → wp_X10_refuse X3 (-1 : Int32) (fun r4 X4 => Q r4 X4)) ∧ (¬ (r3 = 0) → ((x1 = x2 → wp_X10_refuse X3 (-1 : Int32) (fun r6 X6 => Q r6 X6)) ∧ (¬ x1 = x2 → wp_X8_firstUnlike X3 x1 x2 (fun r5 X5 => Q r5 X5)))))))))
set_option maxHeartbeats 4000000 in
set_option maxRecDepth 100000 in
theorem ct_X10_part {l : Launch} {E : db_E}  {X : db_St} {x1 : Int32} {x2 : Int32} {Q : Int32 → db_St → Prop} (h : wp_X10_part  X x1 x2 Q) : db_MI l E yX10_part wsX10_part rm_X10_part X [.ref (db_ad E 0), .int x1, .int x2] Q := by
  intro sz
  unfold wp_X10_part at h
  refine Met.ofW (cc := cX10_part) (maxL := 3) (ret := (some .int)) (by decide) rfl ?_
  intro p e s m args below meth c s₁ B hml hv
  obtain ⟨rfl, hsz, hU⟩ := hv
  subst hsz
  have S : CallFix p m c cX10_part 3 s ([.ref (db_ad E 0), .int x1, .int x2] : List Value).toArray wsX10_part RX10 := ⟨B.exec, B.bytes, hml, findClass_of_methodNamed B.named, atoms_spec (ws := wsX10_part) B.pre⟩
  have hx := S.1
  have hb := S.2.1
  have hr := B.returns
  have hlocks := B.notSynchronized
  have hw := db_start hU
  have hiX10 : ∀ w ∈ wsX100, w ∈ wsX10_part := fun w_ h_ => List.mem_cons_of_mem _ (List.mem_append_left _ (List.mem_append_left _ (List.mem_append_right _ h_)))
  have hl := lv_entry ([.ref (db_ad E 0), .int x1, .int x2]) (n := 3) (Nat.le_of_ble_eq_true rfl)
  rw [lg_entry_eq]
  generalize (lg_sl ([.ref (db_ad E 0), .int x1, .int x2]) ++ List.replicate (3 - (lg_sl ([.ref (db_ad E 0), .int x1, .int x2])).length) Slot.unset).toArray = ls at hl ⊢
  have hl : lv_has ls 3 [(0, .ref (db_ad E 0)), (1, .int x1), (2, .int x2)] := hl
  refine lv_iload_n hx hb dX10_part_0 rfl (lv_at hl 1 rfl) ?_
  refine db_callSi S hw (As := [.int x1]) (ct_X10_isBook  h) gX10_part_X10_isBook rfl ⟨rfl, rfl, Nat.le_of_ble_eq_true rfl, Nat.le_of_ble_eq_true rfl⟩ 1 rfl (by decide +kernel) hl.1 rfl (Nat.le_of_ble_eq_true rfl) dX10_part_1 ⟨Nat.zero_le _, Nat.zero_le _⟩ (fun r1 X1 H locs h hw => ?_)
  refine lv_if_eq (tgt := 19) hx hb dX10_part_4 (by decide) (fun c9 => ?_) (fun c9 => ?_)
  · have h := h.1 c9
    refine lv_aload_n hx hb dX10_part_19 rfl (lv_at hl 0 rfl) ?_
    refine lv_iconst (v := (-1 : Int32)) hx hb dX10_part_20 (by decide) ?_
    refine db_callVi S hw (Nat.le_of_ble_eq_true rfl) db_s0 (C := RX10) (T := TX10) (N := 15) (As := [.int (-1 : Int32)]) rfl (ct_X10_refuse  h) gX10_part_X10_refuse rfl ⟨rfl, rfl, Nat.le_of_ble_eq_true rfl, Nat.le_of_ble_eq_true rfl⟩ 1 rfl (by decide +kernel) hl.1 rfl (Nat.le_of_ble_eq_true rfl) dX10_part_21 ⟨Nat.zero_le _, Nat.zero_le _⟩ (fun r2 X2 H locs h hw => ?_)
    exact db_iret S hr hlocks hw h dX10_part_24
  · have h := h.2 c9
    refine lv_iload_n hx hb dX10_part_7 rfl (lv_at hl 2 rfl) ?_
    refine db_callSi S hw (As := [.int x2]) (ct_X10_isBook  h) gX10_part_X10_isBook rfl ⟨rfl, rfl, Nat.le_of_ble_eq_true rfl, Nat.le_of_ble_eq_true rfl⟩ 1 rfl (by decide +kernel) hl.1 rfl (Nat.le_of_ble_eq_true rfl) dX10_part_8 ⟨Nat.zero_le _, Nat.zero_le _⟩ (fun r3 X3 H locs h hw => ?_)
    refine lv_if_eq (tgt := 19) hx hb dX10_part_11 (by decide) (fun c8 => ?_) (fun c8 => ?_)
    · have h := h.1 c8
      refine lv_aload_n hx hb dX10_part_19 rfl (lv_at hl 0 rfl) ?_
      refine lv_iconst (v := (-1 : Int32)) hx hb dX10_part_20 (by decide) ?_
      refine db_callVi S hw (Nat.le_of_ble_eq_true rfl) db_s0 (C := RX10) (T := TX10) (N := 15) (As := [.int (-1 : Int32)]) rfl (ct_X10_refuse  h) gX10_part_X10_refuse rfl ⟨rfl, rfl, Nat.le_of_ble_eq_true rfl, Nat.le_of_ble_eq_true rfl⟩ 1 rfl (by decide +kernel) hl.1 rfl (Nat.le_of_ble_eq_true rfl) dX10_part_21 ⟨Nat.zero_le _, Nat.zero_le _⟩ (fun r4 X4 H locs h hw => ?_)
      exact db_iret S hr hlocks hw h dX10_part_24
    · have h := h.2 c8
      refine lv_iload_n hx hb dX10_part_14 rfl (lv_at hl 1 rfl) ?_
      refine lv_iload_n hx hb dX10_part_15 rfl (lv_at hl 2 rfl) ?_
      refine lv_icmp_ne (tgt := 25) hx hb dX10_part_16 (by decide) (fun c7 => ?_) (fun c7 => ?_)
      · have h := h.2 c7
        refine lv_aload_n hx hb dX10_part_25 rfl (lv_at hl 0 rfl) ?_
        refine db_getr S hw (Nat.le_of_ble_eq_true rfl) db_s0 (C := RX10) (T := TX10) (N := 15) rfl hiX10 4 (by decide) (r := 7) rfl (List.mem_of_getElem? (i := 1) rfl) dX10_part_26 ?_
        refine lv_iload_n hx hb dX10_part_29 rfl (lv_at hl 1 rfl) ?_
        refine lv_iload_n hx hb dX10_part_30 rfl (lv_at hl 2 rfl) ?_
        refine db_callVi S hw (Nat.le_of_ble_eq_true rfl) db_s7 (C := RX8) (T := TX8) (N := 5) (As := [.int x1, .int x2]) rfl (ct_X8_firstUnlike  h) gX10_part_X8_firstUnlike rfl ⟨rfl, rfl, Nat.le_of_ble_eq_true rfl, Nat.le_of_ble_eq_true rfl⟩ 2 rfl (by decide +kernel) hl.1 rfl (Nat.le_of_ble_eq_true rfl) dX10_part_31 ⟨Nat.zero_le _, Nat.zero_le _⟩ (fun r5 X5 H locs h hw => ?_)
        exact db_iret S hr hlocks hw h dX10_part_34
      · have h := h.1 c7
        refine lv_aload_n hx hb dX10_part_19 rfl (lv_at hl 0 rfl) ?_
        refine lv_iconst (v := (-1 : Int32)) hx hb dX10_part_20 (by decide) ?_
        refine db_callVi S hw (Nat.le_of_ble_eq_true rfl) db_s0 (C := RX10) (T := TX10) (N := 15) (As := [.int (-1 : Int32)]) rfl (ct_X10_refuse  h) gX10_part_X10_refuse rfl ⟨rfl, rfl, Nat.le_of_ble_eq_true rfl, Nat.le_of_ble_eq_true rfl⟩ 1 rfl (by decide +kernel) hl.1 rfl (Nat.le_of_ble_eq_true rfl) dX10_part_21 ⟨Nat.zero_le _, Nat.zero_le _⟩ (fun r6 X6 H locs h hw => ?_)
        exact db_iret S hr hlocks hw h dX10_part_24
-- DaysOnBread.kin(I)I
abbrev rm_X10_kin : Room := { frames := 3, cells := 0, slots := 0, locals := 72 }
def wp_X10_kin  (X : db_St) (x1 : Int32) (Q : Int32 → db_St → Prop) : Prop := wp_X10_isBook X x1 (fun r1 X1 => ((r1 = 0 → wp_X10_refuse X1 (-1 : Int32) (fun r2 X2 => Q r2 X2)) ∧ (¬ (r1 = 0) → wp_X8_nearest X1 x1 (fun r3 X3 => Q r3 X3))))
set_option maxHeartbeats 4000000 in
set_option maxRecDepth 100000 in
theorem ct_X10_kin {l : Launch} {E : db_E}  {X : db_St} {x1 : Int32} {Q : Int32 → db_St → Prop} (h : wp_X10_kin  X x1 Q) : db_MI l E yX10_kin wsX10_kin rm_X10_kin X [.ref (db_ad E 0), .int x1] Q := by
  intro sz
  unfold wp_X10_kin at h
  refine Met.ofW (cc := cX10_kin) (maxL := 2) (ret := (some .int)) (by decide) rfl ?_
  intro p e s m args below meth c s₁ B hml hv
  obtain ⟨rfl, hsz, hU⟩ := hv
  subst hsz
  have S : CallFix p m c cX10_kin 2 s ([.ref (db_ad E 0), .int x1] : List Value).toArray wsX10_kin RX10 := ⟨B.exec, B.bytes, hml, findClass_of_methodNamed B.named, atoms_spec (ws := wsX10_kin) B.pre⟩
  have hx := S.1
  have hb := S.2.1
  have hr := B.returns
  have hlocks := B.notSynchronized
  have hw := db_start hU
  have hiX10 : ∀ w ∈ wsX100, w ∈ wsX10_kin := fun w_ h_ => List.mem_cons_of_mem _ (List.mem_append_left _ (List.mem_append_left _ (List.mem_append_right _ h_)))
  have hl := lv_entry ([.ref (db_ad E 0), .int x1]) (n := 2) (Nat.le_of_ble_eq_true rfl)
  rw [lg_entry_eq]
  generalize (lg_sl ([.ref (db_ad E 0), .int x1]) ++ List.replicate (2 - (lg_sl ([.ref (db_ad E 0), .int x1])).length) Slot.unset).toArray = ls at hl ⊢
  have hl : lv_has ls 2 [(0, .ref (db_ad E 0)), (1, .int x1)] := hl
  refine lv_iload_n hx hb dX10_kin_0 rfl (lv_at hl 1 rfl) ?_
  refine db_callSi S hw (As := [.int x1]) (ct_X10_isBook  h) gX10_kin_X10_isBook rfl ⟨rfl, rfl, Nat.le_of_ble_eq_true rfl, Nat.le_of_ble_eq_true rfl⟩ 1 rfl (by decide +kernel) hl.1 rfl (Nat.le_of_ble_eq_true rfl) dX10_kin_1 ⟨Nat.zero_le _, Nat.zero_le _⟩ (fun r1 X1 H locs h hw => ?_)
  refine lv_if_eq (tgt := 18) hx hb dX10_kin_4 (by decide) (fun c4 => ?_) (fun c4 => ?_)
  · have h := h.1 c4
    refine lv_aload_n hx hb dX10_kin_18 rfl (lv_at hl 0 rfl) ?_
    refine lv_iconst (v := (-1 : Int32)) hx hb dX10_kin_19 (by decide) ?_
    refine db_callVi S hw (Nat.le_of_ble_eq_true rfl) db_s0 (C := RX10) (T := TX10) (N := 15) (As := [.int (-1 : Int32)]) rfl (ct_X10_refuse  h) gX10_kin_X10_refuse rfl ⟨rfl, rfl, Nat.le_of_ble_eq_true rfl, Nat.le_of_ble_eq_true rfl⟩ 1 rfl (by decide +kernel) hl.1 rfl (Nat.le_of_ble_eq_true rfl) dX10_kin_20 ⟨Nat.zero_le _, Nat.zero_le _⟩ (fun r2 X2 H locs h hw => ?_)
    exact db_iret S hr hlocks hw h dX10_kin_23
  · have h := h.2 c4
    refine lv_aload_n hx hb dX10_kin_7 rfl (lv_at hl 0 rfl) ?_
    refine db_getr S hw (Nat.le_of_ble_eq_true rfl) db_s0 (C := RX10) (T := TX10) (N := 15) rfl hiX10 4 (by decide) (r := 7) rfl (List.mem_of_getElem? (i := 1) rfl) dX10_kin_8 ?_
    refine lv_iload_n hx hb dX10_kin_11 rfl (lv_at hl 1 rfl) ?_
    refine db_callVi S hw (Nat.le_of_ble_eq_true rfl) db_s7 (C := RX8) (T := TX8) (N := 5) (As := [.int x1]) rfl (ct_X8_nearest  h) gX10_kin_X8_nearest rfl ⟨rfl, rfl, Nat.le_of_ble_eq_true rfl, Nat.le_of_ble_eq_true rfl⟩ 1 rfl (by decide +kernel) hl.1 rfl (Nat.le_of_ble_eq_true rfl) dX10_kin_12 ⟨Nat.zero_le _, Nat.zero_le _⟩ (fun r3 X3 H locs h hw => ?_)
    refine lv_goto (tgt := 23) hx hb dX10_kin_15 (by decide) ?_
    exact db_iret S hr hlocks hw h dX10_kin_23
-- DaysOnBread.image()I
abbrev rm_X10_image : Room := { frames := 3, cells := 0, slots := 0, locals := 103 }
def wp_X10_image  (X : db_St)  (Q : Int32 → db_St → Prop) : Prop := wp_X8_copyFrom 54 7 X (fun X1 => wp_X4_copyFrom 83 36 X1 (fun X2 => wp_X5_copyFrom 85 38 X2 (fun X3 => (∀ X4, X4 = (db_si X3 0 14 (1 : Int32)) → Q (X4.1 7 4) X4))))
set_option maxHeartbeats 4000000 in
set_option maxRecDepth 100000 in
theorem ct_X10_image {l : Launch} {E : db_E}  {X : db_St}  {Q : Int32 → db_St → Prop} (h : wp_X10_image  X  Q) : db_MI l E yX10_image wsX10_image rm_X10_image X [.ref (db_ad E 0)] Q := by
  intro sz
  unfold wp_X10_image at h
  refine Met.ofW (cc := cX10_image) (maxL := 1) (ret := (some .int)) (by decide) rfl ?_
  intro p e s m args below meth c s₁ B hml hv
  obtain ⟨rfl, hsz, hU⟩ := hv
  subst hsz
  have S : CallFix p m c cX10_image 1 s ([.ref (db_ad E 0)] : List Value).toArray wsX10_image RX10 := ⟨B.exec, B.bytes, hml, findClass_of_methodNamed B.named, atoms_spec (ws := wsX10_image) B.pre⟩
  have hx := S.1
  have hb := S.2.1
  have hr := B.returns
  have hlocks := B.notSynchronized
  have hw := db_start hU
  have hiX10 : ∀ w ∈ wsX100, w ∈ wsX10_image := fun w_ h_ => List.mem_cons_of_mem _ (List.mem_append_left _ (List.mem_append_left _ (List.mem_append_left _ (List.mem_append_left _ (List.mem_append_right _ h_)))))
  have hiX8 : ∀ w ∈ wsX80, w ∈ wsX10_image := fun w_ h_ => List.mem_cons_of_mem _ (List.mem_append_left _ (List.mem_append_left _ (List.mem_append_left _ (List.mem_append_right _ h_))))
  have hl := lv_entry ([.ref (db_ad E 0)]) (n := 1) (Nat.le_of_ble_eq_true rfl)
  rw [lg_entry_eq]
  generalize (lg_sl ([.ref (db_ad E 0)]) ++ List.replicate (1 - (lg_sl ([.ref (db_ad E 0)])).length) Slot.unset).toArray = ls at hl ⊢
  have hl : lv_has ls 1 [(0, .ref (db_ad E 0))] := hl
  refine lv_aload_n hx hb dX10_image_0 rfl (lv_at hl 0 rfl) ?_
  refine db_getr S hw (Nat.le_of_ble_eq_true rfl) db_s0 (C := RX10) (T := TX10) (N := 15) rfl hiX10 11 (by decide) (r := 54) rfl (List.mem_of_getElem? (i := 1) rfl) dX10_image_1 ?_
  refine lv_aload_n hx hb dX10_image_4 rfl (lv_at hl 0 rfl) ?_
  refine db_getr S hw (Nat.le_of_ble_eq_true rfl) db_s0 (C := RX10) (T := TX10) (N := 15) rfl hiX10 4 (by decide) (r := 7) rfl (List.mem_of_getElem? (i := 2) rfl) dX10_image_5 ?_
  refine db_callVv S hw (Nat.le_of_ble_eq_true rfl) db_s54 (C := RX8) (T := TX8) (N := 5) (As := [.ref (db_ad E 7)]) rfl (ct_X8_copyFrom db_k54 db_k7 h) gX10_image_X8_copyFrom rfl ⟨rfl, rfl, Nat.le_of_ble_eq_true rfl, Nat.le_of_ble_eq_true rfl⟩ 1 rfl (by decide +kernel) hl.1 rfl (Nat.le_of_ble_eq_true rfl) dX10_image_8 ⟨Nat.zero_le _, Nat.zero_le _⟩ (fun X1 H locs h hw => ?_)
  refine lv_aload_n hx hb dX10_image_11 rfl (lv_at hl 0 rfl) ?_
  refine db_getr S hw (Nat.le_of_ble_eq_true rfl) db_s0 (C := RX10) (T := TX10) (N := 15) rfl hiX10 12 (by decide) (r := 83) rfl (List.mem_of_getElem? (i := 3) rfl) dX10_image_12 ?_
  refine lv_aload_n hx hb dX10_image_15 rfl (lv_at hl 0 rfl) ?_
  refine db_getr S hw (Nat.le_of_ble_eq_true rfl) db_s0 (C := RX10) (T := TX10) (N := 15) rfl hiX10 5 (by decide) (r := 36) rfl (List.mem_of_getElem? (i := 4) rfl) dX10_image_16 ?_
  refine db_callVv S hw (Nat.le_of_ble_eq_true rfl) db_s83 (C := RX4) (T := TX4) (N := 3) (As := [.ref (db_ad E 36)]) rfl (ct_X4_copyFrom db_k83 db_k36 h) gX10_image_X4_copyFrom rfl ⟨rfl, rfl, Nat.le_of_ble_eq_true rfl, Nat.le_of_ble_eq_true rfl⟩ 1 rfl (by decide +kernel) hl.1 rfl (Nat.le_of_ble_eq_true rfl) dX10_image_19 ⟨Nat.zero_le _, Nat.zero_le _⟩ (fun X2 H locs h hw => ?_)
  refine lv_aload_n hx hb dX10_image_22 rfl (lv_at hl 0 rfl) ?_
  refine db_getr S hw (Nat.le_of_ble_eq_true rfl) db_s0 (C := RX10) (T := TX10) (N := 15) rfl hiX10 13 (by decide) (r := 85) rfl (List.mem_of_getElem? (i := 5) rfl) dX10_image_23 ?_
  refine lv_aload_n hx hb dX10_image_26 rfl (lv_at hl 0 rfl) ?_
  refine db_getr S hw (Nat.le_of_ble_eq_true rfl) db_s0 (C := RX10) (T := TX10) (N := 15) rfl hiX10 6 (by decide) (r := 38) rfl (List.mem_of_getElem? (i := 6) rfl) dX10_image_27 ?_
  refine db_callVv S hw (Nat.le_of_ble_eq_true rfl) db_s85 (C := RX5) (T := TX5) (N := 5) (As := [.ref (db_ad E 38)]) rfl (ct_X5_copyFrom db_k85 db_k38 h) gX10_image_X5_copyFrom rfl ⟨rfl, rfl, Nat.le_of_ble_eq_true rfl, Nat.le_of_ble_eq_true rfl⟩ 1 rfl (by decide +kernel) hl.1 rfl (Nat.le_of_ble_eq_true rfl) dX10_image_30 ⟨Nat.zero_le _, Nat.zero_le _⟩ (fun X3 H locs h hw => ?_)
  refine lv_aload_n hx hb dX10_image_33 rfl (lv_at hl 0 rfl) ?_
  refine lv_iconst (v := (1 : Int32)) hx hb dX10_image_34 (by decide) ?_
  refine db_puti S hw (Nat.le_of_ble_eq_true rfl) db_s0 (C := RX10) (T := TX10) (N := 15) rfl hiX10 tyX10_ok nmX10 14 (by decide) rfl (List.mem_of_getElem? (i := 7) rfl) rfl ⟨rfl, rfl⟩ dX10_image_35 (fun H locs hw => ?_)
  obtain ⟨X4, e4, hw⟩ : ∃ Z_, Z_ = (db_si X3 0 14 (1 : Int32)) ∧ db_HW E (db_Aw E s.heap.size) s Z_ H locs := ⟨_, rfl, hw⟩
  have h := h X4 e4
  refine lv_aload_n hx hb dX10_image_38 rfl (lv_at hl 0 rfl) ?_
  refine db_getr S hw (Nat.le_of_ble_eq_true rfl) db_s0 (C := RX10) (T := TX10) (N := 15) rfl hiX10 4 (by decide) (r := 7) rfl (List.mem_of_getElem? (i := 2) rfl) dX10_image_39 ?_
  refine db_getiN S hw (Nat.le_of_ble_eq_true rfl) db_s7 (C := RX8) (T := TX8) (N := 5) rfl hiX8 4 (by decide) rfl (List.mem_of_getElem? (i := 15) rfl) dX10_image_42 ?_
  exact db_iret S hr hlocks hw h dX10_image_45
-- DaysOnBread.on()I
abbrev rm_X10_on : Room := { frames := 3, cells := 0, slots := 0, locals := 103 }
def wp_X10_on  (X : db_St)  (Q : Int32 → db_St → Prop) : Prop := (((X.1 0 14) = 0 → wp_X10_refuse X (-3 : Int32) (fun r4 X4 => Q r4 X4)) ∧ (¬ (X.1 0 14) = 0 → wp_X8_copyFrom 7 54 X (fun X1 => wp_X4_copyFrom 36 83 X1 (fun X2 => wp_X5_copyFrom 38 85 X2 (fun X3 => Q (X3.1 7 4) X3)))))
set_option maxHeartbeats 4000000 in
set_option maxRecDepth 100000 in
theorem ct_X10_on {l : Launch} {E : db_E}  {X : db_St}  {Q : Int32 → db_St → Prop} (h : wp_X10_on  X  Q) : db_MI l E yX10_on wsX10_on rm_X10_on X [.ref (db_ad E 0)] Q := by
  intro sz
  unfold wp_X10_on at h
  refine Met.ofW (cc := cX10_on) (maxL := 1) (ret := (some .int)) (by decide) rfl ?_
  intro p e s m args below meth c s₁ B hml hv
  obtain ⟨rfl, hsz, hU⟩ := hv
  subst hsz
  have S : CallFix p m c cX10_on 1 s ([.ref (db_ad E 0)] : List Value).toArray wsX10_on RX10 := ⟨B.exec, B.bytes, hml, findClass_of_methodNamed B.named, atoms_spec (ws := wsX10_on) B.pre⟩
  have hx := S.1
  have hb := S.2.1
  have hr := B.returns
  have hlocks := B.notSynchronized
  have hw := db_start hU
  have hiX10 : ∀ w ∈ wsX100, w ∈ wsX10_on := fun w_ h_ => List.mem_cons_of_mem _ (List.mem_append_left _ (List.mem_append_left _ (List.mem_append_left _ (List.mem_append_left _ (List.mem_append_right _ h_)))))
  have hiX8 : ∀ w ∈ wsX80, w ∈ wsX10_on := fun w_ h_ => List.mem_cons_of_mem _ (List.mem_append_left _ (List.mem_append_left _ (List.mem_append_left _ (List.mem_append_right _ h_))))
  have hl := lv_entry ([.ref (db_ad E 0)]) (n := 1) (Nat.le_of_ble_eq_true rfl)
  rw [lg_entry_eq]
  generalize (lg_sl ([.ref (db_ad E 0)]) ++ List.replicate (1 - (lg_sl ([.ref (db_ad E 0)])).length) Slot.unset).toArray = ls at hl ⊢
  have hl : lv_has ls 1 [(0, .ref (db_ad E 0))] := hl
  refine lv_aload_n hx hb dX10_on_0 rfl (lv_at hl 0 rfl) ?_
  refine db_geti S hw (Nat.le_of_ble_eq_true rfl) db_s0 (C := RX10) (T := TX10) (N := 15) rfl hiX10 14 (by decide) rfl (List.mem_of_getElem? (i := 1) rfl) dX10_on_1 ?_
  refine lv_if_ne (tgt := 14) hx hb dX10_on_4 (by decide) (fun c5 => ?_) (fun c5 => ?_)
  · have h := h.2 c5
    refine lv_aload_n hx hb dX10_on_14 rfl (lv_at hl 0 rfl) ?_
    refine db_getr S hw (Nat.le_of_ble_eq_true rfl) db_s0 (C := RX10) (T := TX10) (N := 15) rfl hiX10 4 (by decide) (r := 7) rfl (List.mem_of_getElem? (i := 2) rfl) dX10_on_15 ?_
    refine lv_aload_n hx hb dX10_on_18 rfl (lv_at hl 0 rfl) ?_
    refine db_getr S hw (Nat.le_of_ble_eq_true rfl) db_s0 (C := RX10) (T := TX10) (N := 15) rfl hiX10 11 (by decide) (r := 54) rfl (List.mem_of_getElem? (i := 3) rfl) dX10_on_19 ?_
    refine db_callVv S hw (Nat.le_of_ble_eq_true rfl) db_s7 (C := RX8) (T := TX8) (N := 5) (As := [.ref (db_ad E 54)]) rfl (ct_X8_copyFrom db_k7 db_k54 h) gX10_on_X8_copyFrom rfl ⟨rfl, rfl, Nat.le_of_ble_eq_true rfl, Nat.le_of_ble_eq_true rfl⟩ 1 rfl (by decide +kernel) hl.1 rfl (Nat.le_of_ble_eq_true rfl) dX10_on_22 ⟨Nat.zero_le _, Nat.zero_le _⟩ (fun X1 H locs h hw => ?_)
    refine lv_aload_n hx hb dX10_on_25 rfl (lv_at hl 0 rfl) ?_
    refine db_getr S hw (Nat.le_of_ble_eq_true rfl) db_s0 (C := RX10) (T := TX10) (N := 15) rfl hiX10 5 (by decide) (r := 36) rfl (List.mem_of_getElem? (i := 4) rfl) dX10_on_26 ?_
    refine lv_aload_n hx hb dX10_on_29 rfl (lv_at hl 0 rfl) ?_
    refine db_getr S hw (Nat.le_of_ble_eq_true rfl) db_s0 (C := RX10) (T := TX10) (N := 15) rfl hiX10 12 (by decide) (r := 83) rfl (List.mem_of_getElem? (i := 5) rfl) dX10_on_30 ?_
    refine db_callVv S hw (Nat.le_of_ble_eq_true rfl) db_s36 (C := RX4) (T := TX4) (N := 3) (As := [.ref (db_ad E 83)]) rfl (ct_X4_copyFrom db_k36 db_k83 h) gX10_on_X4_copyFrom rfl ⟨rfl, rfl, Nat.le_of_ble_eq_true rfl, Nat.le_of_ble_eq_true rfl⟩ 1 rfl (by decide +kernel) hl.1 rfl (Nat.le_of_ble_eq_true rfl) dX10_on_33 ⟨Nat.zero_le _, Nat.zero_le _⟩ (fun X2 H locs h hw => ?_)
    refine lv_aload_n hx hb dX10_on_36 rfl (lv_at hl 0 rfl) ?_
    refine db_getr S hw (Nat.le_of_ble_eq_true rfl) db_s0 (C := RX10) (T := TX10) (N := 15) rfl hiX10 6 (by decide) (r := 38) rfl (List.mem_of_getElem? (i := 6) rfl) dX10_on_37 ?_
    refine lv_aload_n hx hb dX10_on_40 rfl (lv_at hl 0 rfl) ?_
    refine db_getr S hw (Nat.le_of_ble_eq_true rfl) db_s0 (C := RX10) (T := TX10) (N := 15) rfl hiX10 13 (by decide) (r := 85) rfl (List.mem_of_getElem? (i := 7) rfl) dX10_on_41 ?_
    refine db_callVv S hw (Nat.le_of_ble_eq_true rfl) db_s38 (C := RX5) (T := TX5) (N := 5) (As := [.ref (db_ad E 85)]) rfl (ct_X5_copyFrom db_k38 db_k85 h) gX10_on_X5_copyFrom rfl ⟨rfl, rfl, Nat.le_of_ble_eq_true rfl, Nat.le_of_ble_eq_true rfl⟩ 1 rfl (by decide +kernel) hl.1 rfl (Nat.le_of_ble_eq_true rfl) dX10_on_44 ⟨Nat.zero_le _, Nat.zero_le _⟩ (fun X3 H locs h hw => ?_)
    refine lv_aload_n hx hb dX10_on_47 rfl (lv_at hl 0 rfl) ?_
    refine db_getr S hw (Nat.le_of_ble_eq_true rfl) db_s0 (C := RX10) (T := TX10) (N := 15) rfl hiX10 4 (by decide) (r := 7) rfl (List.mem_of_getElem? (i := 2) rfl) dX10_on_48 ?_
    refine db_getiN S hw (Nat.le_of_ble_eq_true rfl) db_s7 (C := RX8) (T := TX8) (N := 5) rfl hiX8 4 (by decide) rfl (List.mem_of_getElem? (i := 15) rfl) dX10_on_51 ?_
    exact db_iret S hr hlocks hw h dX10_on_54
  · have h := h.1 c5
    refine lv_aload_n hx hb dX10_on_7 rfl (lv_at hl 0 rfl) ?_
    refine lv_bipush (v := (-3 : Int32)) hx hb dX10_on_8 (by decide) ?_
    refine db_callVi S hw (Nat.le_of_ble_eq_true rfl) db_s0 (C := RX10) (T := TX10) (N := 15) (As := [.int (-3 : Int32)]) rfl (ct_X10_refuse  h) gX10_on_X10_refuse rfl ⟨rfl, rfl, Nat.le_of_ble_eq_true rfl, Nat.le_of_ble_eq_true rfl⟩ 1 rfl (by decide +kernel) hl.1 rfl (Nat.le_of_ble_eq_true rfl) dX10_on_10 ⟨Nat.zero_le _, Nat.zero_le _⟩ (fun r4 X4 H locs h hw => ?_)
    exact db_iret S hr hlocks hw h dX10_on_13
-- DaysOnBread.count(I)I
abbrev rm_X10_count : Room := { frames := 1, cells := 0, slots := 0, locals := 22 }
def wp_X10_count  (X : db_St) (x1 : Int32) (Q : Int32 → db_St → Prop) : Prop := ((x1 = (0 : Int32) → wp_X8_rulesInAll X (fun r13 X13 => Q r13 X13)) ∧ (¬ x1 = (0 : Int32) → ((x1 = (1 : Int32) → Q (X.1 7 4) X) ∧ (¬ x1 = (1 : Int32) → ((x1 = (2 : Int32) → Q (X.1 38 4) X) ∧ (¬ x1 = (2 : Int32) → ((x1 = (3 : Int32) → wp_X2_size 2 16 X (fun r12 X12 => Q r12 X12)) ∧ (¬ x1 = (3 : Int32) → ((x1 = (4 : Int32) → wp_X2_size 4 100 X (fun r11 X11 => Q r11 X11)) ∧ (¬ x1 = (4 : Int32) → ((x1 = (5 : Int32) → wp_J6_bitCount_0f7a4 X (X.1 36 1) (fun r10 X10 => Q r10 X10)) ∧ (¬ x1 = (5 : Int32) → ((x1 ≤ (10 : Int32) → Q (-9 : Int32) X) ∧ (¬ (x1 ≤ (10 : Int32)) → (((7 : Int32) ≤ (x1 - (10 : Int32)) → Q (-9 : Int32) X) ∧ (¬ ((7 : Int32) ≤ (x1 - (10 : Int32))) → (vp_in (x1 - (10 : Int32)) 7 ∧ Q (X.1 1 ((x1 - (10 : Int32))).toNatClampNeg) X)))))))))))))))))
set_option maxHeartbeats 4000000 in
set_option maxRecDepth 100000 in
theorem ct_X10_count {l : Launch} {E : db_E}  {X : db_St} {x1 : Int32} {Q : Int32 → db_St → Prop} (h : wp_X10_count  X x1 Q) : db_MI l E yX10_count wsX10_count rm_X10_count X [.ref (db_ad E 0), .int x1] Q := by
  intro sz
  unfold wp_X10_count at h
  refine Met.ofW (cc := cX10_count) (maxL := 2) (ret := (some .int)) (by decide) rfl ?_
  intro p e s m args below meth c s₁ B hml hv
  obtain ⟨rfl, hsz, hU⟩ := hv
  subst hsz
  have S : CallFix p m c cX10_count 2 s ([.ref (db_ad E 0), .int x1] : List Value).toArray wsX10_count RX10 := ⟨B.exec, B.bytes, hml, findClass_of_methodNamed B.named, atoms_spec (ws := wsX10_count) B.pre⟩
  have hx := S.1
  have hb := S.2.1
  have hr := B.returns
  have hlocks := B.notSynchronized
  have hw := db_start hU
  have hiX10 : ∀ w ∈ wsX100, w ∈ wsX10_count := fun w_ h_ => List.mem_cons_of_mem _ (List.mem_append_left _ (List.mem_append_left _ (List.mem_append_left _ (List.mem_append_left _ (List.mem_append_left _ (List.mem_append_right _ h_))))))
  have hiX4 : ∀ w ∈ wsX40, w ∈ wsX10_count := fun w_ h_ => List.mem_cons_of_mem _ (List.mem_append_left _ (List.mem_append_left _ (List.mem_append_right _ h_)))
  have hiX5 : ∀ w ∈ wsX50, w ∈ wsX10_count := fun w_ h_ => List.mem_cons_of_mem _ (List.mem_append_left _ (List.mem_append_left _ (List.mem_append_left _ (List.mem_append_right _ h_))))
  have hiX8 : ∀ w ∈ wsX80, w ∈ wsX10_count := fun w_ h_ => List.mem_cons_of_mem _ (List.mem_append_left _ (List.mem_append_left _ (List.mem_append_left _ (List.mem_append_left _ (List.mem_append_right _ h_)))))
  have hl := lv_entry ([.ref (db_ad E 0), .int x1]) (n := 2) (Nat.le_of_ble_eq_true rfl)
  rw [lg_entry_eq]
  generalize (lg_sl ([.ref (db_ad E 0), .int x1]) ++ List.replicate (2 - (lg_sl ([.ref (db_ad E 0), .int x1])).length) Slot.unset).toArray = ls at hl ⊢
  have hl : lv_has ls 2 [(0, .ref (db_ad E 0)), (1, .int x1)] := hl
  refine lv_iload_n hx hb dX10_count_0 rfl (lv_at hl 1 rfl) ?_
  by_cases c4 : x1 = (0 : Int32)
  · have h := h.1 c4
    refine lv_tableIn (off := 39) (tgt := 40) hx hb dX10_count_1 (by rw [c4]; decide) (by rw [c4]; decide) (by rw [c4]; rfl) (by decide) ?_
    refine lv_aload_n hx hb dX10_count_40 rfl (lv_at hl 0 rfl) ?_
    refine db_getr S hw (Nat.le_of_ble_eq_true rfl) db_s0 (C := RX10) (T := TX10) (N := 15) rfl hiX10 4 (by decide) (r := 7) rfl (List.mem_of_getElem? (i := 1) rfl) dX10_count_41 ?_
    refine db_callVi S hw (Nat.le_of_ble_eq_true rfl) db_s7 (C := RX8) (T := TX8) (N := 5) (As := []) rfl (ct_X8_rulesInAll  h) gX10_count_X8_rulesInAll rfl ⟨rfl, rfl, Nat.le_of_ble_eq_true rfl, Nat.le_of_ble_eq_true rfl⟩ 0 rfl (by decide +kernel) hl.1 rfl (Nat.le_of_ble_eq_true rfl) dX10_count_44 ⟨Nat.zero_le _, Nat.zero_le _⟩ (fun r13 X13 H locs h hw => ?_)
    exact db_iret S hr hlocks hw h dX10_count_47
  · have h := h.2 c4
    by_cases c5 : x1 = (1 : Int32)
    · have h := h.1 c5
      refine lv_tableIn (off := 47) (tgt := 48) hx hb dX10_count_1 (by rw [c5]; decide) (by rw [c5]; decide) (by rw [c5]; rfl) (by decide) ?_
      refine lv_aload_n hx hb dX10_count_48 rfl (lv_at hl 0 rfl) ?_
      refine db_getr S hw (Nat.le_of_ble_eq_true rfl) db_s0 (C := RX10) (T := TX10) (N := 15) rfl hiX10 4 (by decide) (r := 7) rfl (List.mem_of_getElem? (i := 1) rfl) dX10_count_49 ?_
      refine db_getiN S hw (Nat.le_of_ble_eq_true rfl) db_s7 (C := RX8) (T := TX8) (N := 5) rfl hiX8 4 (by decide) rfl (List.mem_of_getElem? (i := 15) rfl) dX10_count_52 ?_
      exact db_iret S hr hlocks hw h dX10_count_55
    · have h := h.2 c5
      by_cases c6 : x1 = (2 : Int32)
      · have h := h.1 c6
        refine lv_tableIn (off := 55) (tgt := 56) hx hb dX10_count_1 (by rw [c6]; decide) (by rw [c6]; decide) (by rw [c6]; rfl) (by decide) ?_
        refine lv_aload_n hx hb dX10_count_56 rfl (lv_at hl 0 rfl) ?_
        refine db_getr S hw (Nat.le_of_ble_eq_true rfl) db_s0 (C := RX10) (T := TX10) (N := 15) rfl hiX10 6 (by decide) (r := 38) rfl (List.mem_of_getElem? (i := 2) rfl) dX10_count_57 ?_
        refine db_getiN S hw (Nat.le_of_ble_eq_true rfl) db_s38 (C := RX5) (T := TX5) (N := 5) rfl hiX5 4 (by decide) rfl (List.mem_of_getElem? (i := 30) rfl) dX10_count_60 ?_
        exact db_iret S hr hlocks hw h dX10_count_63
      · have h := h.2 c6
        by_cases c7 : x1 = (3 : Int32)
        · have h := h.1 c7
          refine lv_tableIn (off := 63) (tgt := 64) hx hb dX10_count_1 (by rw [c7]; decide) (by rw [c7]; decide) (by rw [c7]; rfl) (by decide) ?_
          refine lv_aload_n hx hb dX10_count_64 rfl (lv_at hl 0 rfl) ?_
          refine db_getr S hw (Nat.le_of_ble_eq_true rfl) db_s0 (C := RX10) (T := TX10) (N := 15) rfl hiX10 1 (by decide) (r := 2) rfl (List.mem_of_getElem? (i := 3) rfl) dX10_count_65 ?_
          refine db_callVi S hw (Nat.le_of_ble_eq_true rfl) db_s2 (C := RX2) (T := TX2) (N := 2) (As := []) rfl (ct_X2_size db_kb2 h) gX10_count_X2_size rfl ⟨rfl, rfl, Nat.le_of_ble_eq_true rfl, Nat.le_of_ble_eq_true rfl⟩ 0 rfl (by decide +kernel) hl.1 rfl (Nat.le_of_ble_eq_true rfl) dX10_count_68 ⟨Nat.zero_le _, Nat.zero_le _⟩ (fun r12 X12 H locs h hw => ?_)
          exact db_iret S hr hlocks hw h dX10_count_71
        · have h := h.2 c7
          by_cases c8 : x1 = (4 : Int32)
          · have h := h.1 c8
            refine lv_tableIn (off := 71) (tgt := 72) hx hb dX10_count_1 (by rw [c8]; decide) (by rw [c8]; decide) (by rw [c8]; rfl) (by decide) ?_
            refine lv_aload_n hx hb dX10_count_72 rfl (lv_at hl 0 rfl) ?_
            refine db_getr S hw (Nat.le_of_ble_eq_true rfl) db_s0 (C := RX10) (T := TX10) (N := 15) rfl hiX10 2 (by decide) (r := 4) rfl (List.mem_of_getElem? (i := 4) rfl) dX10_count_73 ?_
            refine db_callVi S hw (Nat.le_of_ble_eq_true rfl) db_s4 (C := RX2) (T := TX2) (N := 2) (As := []) rfl (ct_X2_size db_kb4 h) gX10_count_X2_size rfl ⟨rfl, rfl, Nat.le_of_ble_eq_true rfl, Nat.le_of_ble_eq_true rfl⟩ 0 rfl (by decide +kernel) hl.1 rfl (Nat.le_of_ble_eq_true rfl) dX10_count_76 ⟨Nat.zero_le _, Nat.zero_le _⟩ (fun r11 X11 H locs h hw => ?_)
            exact db_iret S hr hlocks hw h dX10_count_79
          · have h := h.2 c8
            by_cases c9 : x1 = (5 : Int32)
            · have h := h.1 c9
              refine lv_tableIn (off := 79) (tgt := 80) hx hb dX10_count_1 (by rw [c9]; decide) (by rw [c9]; decide) (by rw [c9]; rfl) (by decide) ?_
              refine lv_aload_n hx hb dX10_count_80 rfl (lv_at hl 0 rfl) ?_
              refine db_getr S hw (Nat.le_of_ble_eq_true rfl) db_s0 (C := RX10) (T := TX10) (N := 15) rfl hiX10 5 (by decide) (r := 36) rfl (List.mem_of_getElem? (i := 5) rfl) dX10_count_81 ?_
              refine db_getiN S hw (Nat.le_of_ble_eq_true rfl) db_s36 (C := RX4) (T := TX4) (N := 3) rfl hiX4 1 (by decide) rfl (List.mem_of_getElem? (i := 16) rfl) dX10_count_84 ?_
              refine db_callSi S hw (As := [.int (X.1 36 1)]) (ct_J6_bitCount_0f7a4  h) gX10_count_J6_bitCount_0f7a4 rfl ⟨rfl, rfl, Nat.le_of_ble_eq_true rfl, Nat.le_of_ble_eq_true rfl⟩ 1 rfl (by decide +kernel) hl.1 rfl (Nat.le_of_ble_eq_true rfl) dX10_count_87 ⟨Nat.zero_le _, Nat.zero_le _⟩ (fun r10 X10 H locs h hw => ?_)
              exact db_iret S hr hlocks hw h dX10_count_90
            · have h := h.2 c9
              refine lv_tableOut (tgt := 91) hx hb dX10_count_1 (by have z0_ := lv_neT (a := 0) c4 rfl; have z1_ := lv_neT (a := 1) c5 rfl; have z2_ := lv_neT (a := 2) c6 rfl; have z3_ := lv_neT (a := 3) c7 rfl; have z4_ := lv_neT (a := 4) c8 rfl; have z5_ := lv_neT (a := 5) c9 rfl; omega) (by decide) ?_
              refine lv_iload_n hx hb dX10_count_91 rfl (lv_at hl 1 rfl) ?_
              refine lv_bipush (v := (10 : Int32)) hx hb dX10_count_92 (by decide) ?_
              refine lv_icmp_le (tgt := 121) hx hb dX10_count_94 (by decide) (fun c3 => ?_) (fun c3 => ?_)
              · have h := h.1 c3
                refine lv_bipush (v := (-9 : Int32)) hx hb dX10_count_121 (by decide) ?_
                exact db_iret S hr hlocks hw h dX10_count_123
              · have h := h.2 c3
                refine lv_iload_n hx hb dX10_count_97 rfl (lv_at hl 1 rfl) ?_
                refine lv_bipush (v := (10 : Int32)) hx hb dX10_count_98 (by decide) ?_
                refine lv_isub hx hb dX10_count_100 ?_
                refine lv_aload_n hx hb dX10_count_101 rfl (lv_at hl 0 rfl) ?_
                refine db_getr S hw (Nat.le_of_ble_eq_true rfl) db_s0 (C := RX10) (T := TX10) (N := 15) rfl hiX10 0 (by decide) (r := 1) rfl (List.mem_of_getElem? (i := 6) rfl) dX10_count_102 ?_
                refine db_alen (v := (7 : Int32)) S hw (Nat.le_of_ble_eq_true rfl) db_s1 (by decide) (by decide) (by decide) dX10_count_105 ?_
                refine lv_icmp_ge (tgt := 121) hx hb dX10_count_106 (by decide) (fun c2 => ?_) (fun c2 => ?_)
                · have h := h.1 c2
                  refine lv_bipush (v := (-9 : Int32)) hx hb dX10_count_121 (by decide) ?_
                  exact db_iret S hr hlocks hw h dX10_count_123
                · have h := h.2 c2
                  refine lv_aload_n hx hb dX10_count_109 rfl (lv_at hl 0 rfl) ?_
                  refine db_getr S hw (Nat.le_of_ble_eq_true rfl) db_s0 (C := RX10) (T := TX10) (N := 15) rfl hiX10 0 (by decide) (r := 1) rfl (List.mem_of_getElem? (i := 6) rfl) dX10_count_110 ?_
                  refine lv_iload_n hx hb dX10_count_113 rfl (lv_at hl 1 rfl) ?_
                  refine lv_bipush (v := (10 : Int32)) hx hb dX10_count_114 (by decide) ?_
                  refine lv_isub hx hb dX10_count_116 ?_
                  obtain ⟨g1, h⟩ := h
                  refine db_iald S hw (Nat.le_of_ble_eq_true rfl) db_s1 g1 dX10_count_117 ?_
                  refine lv_goto (tgt := 123) hx hb dX10_count_118 (by decide) ?_
                  exact db_iret S hr hlocks hw h dX10_count_123
