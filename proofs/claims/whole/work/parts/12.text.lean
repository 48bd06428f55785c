-- DaysOnBread.isKind(I)Z
abbrev rm_X10_isKind : Room := { frames := 0, cells := 0, slots := 0, locals := 0 }
def wp_X10_isKind  (X : db_St) (x0 : Int32) (Q : Int32 → db_St → Prop) : Prop := ((x0 < 0 → Q (0 : Int32) X) ∧ (¬ (x0 < 0) → (((6 : Int32) ≤ x0 → Q (0 : Int32) X) ∧ (¬ ((6 : Int32) ≤ x0) → Q (1 : Int32) X))))
set_option maxHeartbeats 4000000 in
set_option maxRecDepth 100000 in
theorem ct_X10_isKind {l : Launch} {E : db_E}  {X : db_St} {x0 : Int32} {Q : Int32 → db_St → Prop} (h : wp_X10_isKind  X x0 Q) : db_MI l E yX10_isKind wsX10_isKind rm_X10_isKind X [.int x0] Q := by
  intro sz
  unfold wp_X10_isKind at h
  refine Met.ofW (cc := cX10_isKind) (maxL := 1) (ret := (some .boolean)) (by decide) rfl ?_
  intro p e s m args below meth c s₁ B hml hv
  obtain ⟨rfl, hsz, hU⟩ := hv
  subst hsz
  have S : CallFix p m c cX10_isKind 1 s ([.int x0] : List Value).toArray wsX10_isKind RX10 := ⟨B.exec, B.bytes, hml, findClass_of_methodNamed B.named, atoms_spec (ws := wsX10_isKind) B.pre⟩
  have hx := S.1
  have hb := S.2.1
  have hr := B.returns
  have hlocks := B.notSynchronized
  have hw := db_start hU
  have hl := lv_entry ([.int x0]) (n := 1) (Nat.le_of_ble_eq_true rfl)
  rw [lg_entry_eq]
  generalize (lg_sl ([.int x0]) ++ List.replicate (1 - (lg_sl ([.int x0])).length) Slot.unset).toArray = ls at hl ⊢
  have hl : lv_has ls 1 [(0, .int x0)] := hl
  refine lv_iload_n hx hb dX10_isKind_0 rfl (lv_at hl 0 rfl) ?_
  refine lv_if_lt (tgt := 14) hx hb dX10_isKind_1 (by decide) (fun c2 => ?_) (fun c2 => ?_)
  · have h := h.1 c2
    refine lv_iconst (v := (0 : Int32)) hx hb dX10_isKind_14 (by decide) ?_
    exact db_zret S hr hlocks rfl hw h dX10_isKind_15
  · have h := h.2 c2
    refine lv_iload_n hx hb dX10_isKind_4 rfl (lv_at hl 0 rfl) ?_
    refine lv_bipush (v := (6 : Int32)) hx hb dX10_isKind_5 (by decide) ?_
    refine lv_icmp_ge (tgt := 14) hx hb dX10_isKind_7 (by decide) (fun c1 => ?_) (fun c1 => ?_)
    · have h := h.1 c1
      refine lv_iconst (v := (0 : Int32)) hx hb dX10_isKind_14 (by decide) ?_
      exact db_zret S hr hlocks rfl hw h dX10_isKind_15
    · have h := h.2 c1
      refine lv_iconst (v := (1 : Int32)) hx hb dX10_isKind_10 (by decide) ?_
      refine lv_goto (tgt := 15) hx hb dX10_isKind_11 (by decide) ?_
      exact db_zret S hr hlocks rfl hw h dX10_isKind_15
-- DaysOnBread$RuleText.readDeed()Z
abbrev rm_X7_readDeed : Room := { frames := 1, cells := 0, slots := 0, locals := 21 }
def wp_X7_readDeed  (X : db_St)  (Q : Int32 → db_St → Prop) : Prop := wp_X2_at 2 16 X (X.1 6 1) (fun r1 X1 => (∀ X2, X2 = (db_si X1 6 2 (r1 - (97 : Int32))) → (((X2.1 6 2) < 0 → Q (0 : Int32) X2) ∧ (¬ ((X2.1 6 2) < 0) → (((X2.1 6 2) < (8 : Int32) → (∀ X3, X3 = (db_si X2 6 1 ((X2.1 6 1) + (1 : Int32))) → Q (1 : Int32) X3)) ∧ (¬ ((X2.1 6 2) < (8 : Int32)) → Q (0 : Int32) X2))))))
set_option maxHeartbeats 4000000 in
set_option maxRecDepth 100000 in
theorem ct_X7_readDeed {l : Launch} {E : db_E}  {X : db_St}  {Q : Int32 → db_St → Prop} (h : wp_X7_readDeed  X  Q) : db_MI l E yX7_readDeed wsX7_readDeed rm_X7_readDeed X [.ref (db_ad E 6)] Q := by
  intro sz
  unfold wp_X7_readDeed at h
  refine Met.ofW (cc := cX7_readDeed) (maxL := 1) (ret := (some .boolean)) (by decide) rfl ?_
  intro p e s m args below meth c s₁ B hml hv
  obtain ⟨rfl, hsz, hU⟩ := hv
  subst hsz
  have S : CallFix p m c cX7_readDeed 1 s ([.ref (db_ad E 6)] : List Value).toArray wsX7_readDeed RX7 := ⟨B.exec, B.bytes, hml, findClass_of_methodNamed B.named, atoms_spec (ws := wsX7_readDeed) B.pre⟩
  have hx := S.1
  have hb := S.2.1
  have hr := B.returns
  have hlocks := B.notSynchronized
  have hw := db_start hU
  have hiX7 : ∀ w ∈ wsX70, w ∈ wsX7_readDeed := fun w_ h_ => List.mem_cons_of_mem _ (List.mem_append_left _ (List.mem_append_right _ h_))
  have hl := lv_entry ([.ref (db_ad E 6)]) (n := 1) (Nat.le_of_ble_eq_true rfl)
  rw [lg_entry_eq]
  generalize (lg_sl ([.ref (db_ad E 6)]) ++ List.replicate (1 - (lg_sl ([.ref (db_ad E 6)])).length) Slot.unset).toArray = ls at hl ⊢
  have hl : lv_has ls 1 [(0, .ref (db_ad E 6))] := hl
  refine lv_aload_n hx hb dX7_readDeed_0 rfl (lv_at hl 0 rfl) ?_
  refine lv_aload_n hx hb dX7_readDeed_1 rfl (lv_at hl 0 rfl) ?_
  refine db_getr S hw (Nat.le_of_ble_eq_true rfl) db_s6 (C := RX7) (T := TX7) (N := 5) rfl hiX7 0 (by decide) (r := 2) rfl (List.mem_of_getElem? (i := 1) rfl) dX7_readDeed_2 ?_
  refine lv_aload_n hx hb dX7_readDeed_5 rfl (lv_at hl 0 rfl) ?_
  refine db_geti S hw (Nat.le_of_ble_eq_true rfl) db_s6 (C := RX7) (T := TX7) (N := 5) rfl hiX7 1 (by decide) rfl (List.mem_of_getElem? (i := 2) rfl) dX7_readDeed_6 ?_
  refine db_callVi S hw (Nat.le_of_ble_eq_true rfl) db_s2 (C := RX2) (T := TX2) (N := 2) (As := [.int (X.1 6 1)]) rfl (ct_X2_at db_kb2 h) gX7_readDeed_X2_at rfl ⟨rfl, rfl, Nat.le_of_ble_eq_true rfl, Nat.le_of_ble_eq_true rfl⟩ 1 rfl (by decide +kernel) hl.1 rfl (Nat.le_of_ble_eq_true rfl) dX7_readDeed_9 ⟨Nat.zero_le _, Nat.zero_le _⟩ (fun r1 X1 H locs h hw => ?_)
  refine lv_bipush (v := (97 : Int32)) hx hb dX7_readDeed_12 (by decide) ?_
  refine lv_isub hx hb dX7_readDeed_14 ?_
  refine db_puti S hw (Nat.le_of_ble_eq_true rfl) db_s6 (C := RX7) (T := TX7) (N := 5) rfl hiX7 tyX7_ok nmX7 2 (by decide) rfl (List.mem_of_getElem? (i := 3) rfl) rfl ⟨rfl, rfl⟩ dX7_readDeed_15 (fun H locs hw => ?_)
  obtain ⟨X2, e2, hw⟩ : ∃ Z_, Z_ = (db_si X1 6 2 (r1 - (97 : Int32))) ∧ db_HW E (db_Aw E s.heap.size) s Z_ H locs := ⟨_, rfl, hw⟩
  have h := h X2 e2
  refine lv_aload_n hx hb dX7_readDeed_18 rfl (lv_at hl 0 rfl) ?_
  refine db_geti S hw (Nat.le_of_ble_eq_true rfl) db_s6 (C := RX7) (T := TX7) (N := 5) rfl hiX7 2 (by decide) rfl (List.mem_of_getElem? (i := 3) rfl) dX7_readDeed_19 ?_
  refine lv_if_lt (tgt := 34) hx hb dX7_readDeed_22 (by decide) (fun c5 => ?_) (fun c5 => ?_)
  · have h := h.1 c5
    refine lv_iconst (v := (0 : Int32)) hx hb dX7_readDeed_34 (by decide) ?_
    exact db_zret S hr hlocks rfl hw h dX7_readDeed_35
  · have h := h.2 c5
    refine lv_aload_n hx hb dX7_readDeed_25 rfl (lv_at hl 0 rfl) ?_
    refine db_geti S hw (Nat.le_of_ble_eq_true rfl) db_s6 (C := RX7) (T := TX7) (N := 5) rfl hiX7 2 (by decide) rfl (List.mem_of_getElem? (i := 3) rfl) dX7_readDeed_26 ?_
    refine lv_bipush (v := (8 : Int32)) hx hb dX7_readDeed_29 (by decide) ?_
    refine lv_icmp_lt (tgt := 36) hx hb dX7_readDeed_31 (by decide) (fun c4 => ?_) (fun c4 => ?_)
    · have h := h.1 c4
      refine lv_aload_n hx hb dX7_readDeed_36 rfl (lv_at hl 0 rfl) ?_
      refine lv_dup hx hb dX7_readDeed_37 rfl ?_
      refine db_geti S hw (Nat.le_of_ble_eq_true rfl) db_s6 (C := RX7) (T := TX7) (N := 5) rfl hiX7 1 (by decide) rfl (List.mem_of_getElem? (i := 2) rfl) dX7_readDeed_38 ?_
      refine lv_iconst (v := (1 : Int32)) hx hb dX7_readDeed_41 (by decide) ?_
      refine lv_iadd hx hb dX7_readDeed_42 ?_
      refine db_puti S hw (Nat.le_of_ble_eq_true rfl) db_s6 (C := RX7) (T := TX7) (N := 5) rfl hiX7 tyX7_ok nmX7 1 (by decide) rfl (List.mem_of_getElem? (i := 2) rfl) rfl ⟨rfl, rfl⟩ dX7_readDeed_43 (fun H locs hw => ?_)
      obtain ⟨X3, e3, hw⟩ : ∃ Z_, Z_ = (db_si X2 6 1 ((X2.1 6 1) + (1 : Int32))) ∧ db_HW E (db_Aw E s.heap.size) s Z_ H locs := ⟨_, rfl, hw⟩
      have h := h X3 e3
      refine lv_iconst (v := (1 : Int32)) hx hb dX7_readDeed_46 (by decide) ?_
      exact db_zret S hr hlocks rfl hw h dX7_readDeed_47
    · have h := h.2 c4
      refine lv_iconst (v := (0 : Int32)) hx hb dX7_readDeed_34 (by decide) ?_
      exact db_zret S hr hlocks rfl hw h dX7_readDeed_35
-- DaysOnBread$RuleText.readMarks()Z
abbrev rm_X7_readMarks : Room := { frames := 1, cells := 0, slots := 0, locals := 21 }
def wp_X7_readMarks_7 (Q : Int32 → db_St → Prop) : Nat → db_St → Int32 → Prop
  | 0, _, _ => False
  | n_ + 1, X, x1 => (((4 : Int32) ≤ x1 → wp_X2_at 2 16 X (X.1 6 1) (fun r1 X1 => ((r1 = (58 : Int32) → (∀ X2, X2 = (db_si X1 6 1 ((X1.1 6 1) + (1 : Int32))) → Q (1 : Int32) X2)) ∧ (¬ (r1 = (58 : Int32)) → Q (0 : Int32) X1)))) ∧ (¬ ((4 : Int32) ≤ x1) → wp_X2_at 2 16 X (X.1 6 1) (fun r4 X4 => (vp_in x1 4 ∧ ((r4 = (db_gM (x1).toNatClampNeg) → (∀ X6, X6 = (db_si X4 6 3 ((X4.1 6 3) ||| ((1 : Int32) <<< (x1 &&& 31)))) → (∀ X7, X7 = (db_si X6 6 1 ((X6.1 6 1) + (1 : Int32))) → wp_X7_readMarks_7 Q n_ X7 (x1 + (1 : Int32))))) ∧ (¬ r4 = (db_gM (x1).toNatClampNeg) → wp_X7_readMarks_7 Q n_ X4 (x1 + (1 : Int32))))))))
set_option maxHeartbeats 4000000 in
set_option maxRecDepth 100000 in
theorem tw_X7_readMarks_7 {p : Program} {l : Launch} {e : Env} {s : State} {m : MethodId} {args : Array Value} {below : List Frame} {meth : Method} {c : Code} {E : db_E} (S : CallFix p m c cX7_readMarks 2 s args wsX7_readMarks RX7) (hr : meth.sig.returnType = (some .boolean)) (hlocks : meth.locks = false)  {Q : Int32 → db_St → Prop} : ∀ (n : Nat) (X : db_St) (x1 : Int32) (H : Heap) (locs : List Loc) (ls : Array Slot), wp_X7_readMarks_7 Q n X x1 → db_HW E (db_Aw E s.heap.size) s X H locs → lv_has ls 2 [(0, .ref (db_ad E 6)), (1, .int x1)] → W p l e rm_X7_readMarks s m args below meth c H locs 0 0 (MQ below (va_Qi Q (db_Po E) (db_Aw E s.heap.size)) args s 0 0 (db_Aw E s.heap.size)) (F0 m 7 ls []) := by
  have hx := S.1
  have hb := S.2.1
  have hiX7 : ∀ w ∈ wsX70, w ∈ wsX7_readMarks := fun w_ h_ => List.mem_cons_of_mem _ (List.mem_append_left _ (List.mem_append_right _ h_))
  intro n
  induction n with
  | zero =>
    intro X x1 H locs ls h hw hl
    exact False.elim h
  | succ n_ ih =>
    intro X x1 H locs ls h hw hl
    unfold wp_X7_readMarks_7 at h
    refine lv_iload_n hx hb dX7_readMarks_7 rfl (lv_at hl 1 rfl) ?_
    refine db_tabM S hw (List.mem_of_getElem? (i := 32) rfl) dX7_readMarks_8 ?_
    refine db_lenM S hw dX7_readMarks_11 ?_
    refine lv_icmp_ge (tgt := 62) hx hb dX7_readMarks_12 (by decide) (fun c9 => ?_) (fun c9 => ?_)
    · have h := h.1 c9
      refine lv_aload_n hx hb dX7_readMarks_62 rfl (lv_at hl 0 rfl) ?_
      refine db_getr S hw (Nat.le_of_ble_eq_true rfl) db_s6 (C := RX7) (T := TX7) (N := 5) rfl hiX7 0 (by decide) (r := 2) rfl (List.mem_of_getElem? (i := 2) rfl) dX7_readMarks_63 ?_
      refine lv_aload_n hx hb dX7_readMarks_66 rfl (lv_at hl 0 rfl) ?_
      refine db_geti S hw (Nat.le_of_ble_eq_true rfl) db_s6 (C := RX7) (T := TX7) (N := 5) rfl hiX7 1 (by decide) rfl (List.mem_of_getElem? (i := 3) rfl) dX7_readMarks_67 ?_
      refine db_callVi S hw (Nat.le_of_ble_eq_true rfl) db_s2 (C := RX2) (T := TX2) (N := 2) (As := [.int (X.1 6 1)]) rfl (ct_X2_at db_kb2 h) gX7_readMarks_X2_at rfl ⟨rfl, rfl, Nat.le_of_ble_eq_true rfl, Nat.le_of_ble_eq_true rfl⟩ 1 rfl (by decide +kernel) hl.1 rfl (Nat.le_of_ble_eq_true rfl) dX7_readMarks_70 ⟨Nat.zero_le _, Nat.zero_le _⟩ (fun r1 X1 H locs h hw => ?_)
      refine lv_bipush (v := (58 : Int32)) hx hb dX7_readMarks_73 (by decide) ?_
      refine lv_icmp_eq (tgt := 80) hx hb dX7_readMarks_75 (by decide) (fun c3 => ?_) (fun c3 => ?_)
      · have h := h.1 c3
        refine lv_aload_n hx hb dX7_readMarks_80 rfl (lv_at hl 0 rfl) ?_
        refine lv_dup hx hb dX7_readMarks_81 rfl ?_
        refine db_geti S hw (Nat.le_of_ble_eq_true rfl) db_s6 (C := RX7) (T := TX7) (N := 5) rfl hiX7 1 (by decide) rfl (List.mem_of_getElem? (i := 3) rfl) dX7_readMarks_82 ?_
        refine lv_iconst (v := (1 : Int32)) hx hb dX7_readMarks_85 (by decide) ?_
        refine lv_iadd hx hb dX7_readMarks_86 ?_
        refine db_puti S hw (Nat.le_of_ble_eq_true rfl) db_s6 (C := RX7) (T := TX7) (N := 5) rfl hiX7 tyX7_ok nmX7 1 (by decide) rfl (List.mem_of_getElem? (i := 3) rfl) rfl ⟨rfl, rfl⟩ dX7_readMarks_87 (fun H locs hw => ?_)
        obtain ⟨X2, e2, hw⟩ : ∃ Z_, Z_ = (db_si X1 6 1 ((X1.1 6 1) + (1 : Int32))) ∧ db_HW E (db_Aw E s.heap.size) s Z_ H locs := ⟨_, rfl, hw⟩
        have h := h X2 e2
        refine lv_iconst (v := (1 : Int32)) hx hb dX7_readMarks_90 (by decide) ?_
        exact db_zret S hr hlocks rfl hw h dX7_readMarks_91
      · have h := h.2 c3
        refine lv_iconst (v := (0 : Int32)) hx hb dX7_readMarks_78 (by decide) ?_
        exact db_zret S hr hlocks rfl hw h dX7_readMarks_79
    · have h := h.2 c9
      refine lv_aload_n hx hb dX7_readMarks_15 rfl (lv_at hl 0 rfl) ?_
      refine db_getr S hw (Nat.le_of_ble_eq_true rfl) db_s6 (C := RX7) (T := TX7) (N := 5) rfl hiX7 0 (by decide) (r := 2) rfl (List.mem_of_getElem? (i := 2) rfl) dX7_readMarks_16 ?_
      refine lv_aload_n hx hb dX7_readMarks_19 rfl (lv_at hl 0 rfl) ?_
      refine db_geti S hw (Nat.le_of_ble_eq_true rfl) db_s6 (C := RX7) (T := TX7) (N := 5) rfl hiX7 1 (by decide) rfl (List.mem_of_getElem? (i := 3) rfl) dX7_readMarks_20 ?_
      refine db_callVi S hw (Nat.le_of_ble_eq_true rfl) db_s2 (C := RX2) (T := TX2) (N := 2) (As := [.int (X.1 6 1)]) rfl (ct_X2_at db_kb2 h) gX7_readMarks_X2_at rfl ⟨rfl, rfl, Nat.le_of_ble_eq_true rfl, Nat.le_of_ble_eq_true rfl⟩ 1 rfl (by decide +kernel) hl.1 rfl (Nat.le_of_ble_eq_true rfl) dX7_readMarks_23 ⟨Nat.zero_le _, Nat.zero_le _⟩ (fun r4 X4 H locs h hw => ?_)
      refine db_tabM S hw (List.mem_of_getElem? (i := 32) rfl) dX7_readMarks_26 ?_
      refine lv_iload_n hx hb dX7_readMarks_29 rfl (lv_at hl 1 rfl) ?_
      obtain ⟨g5, h⟩ := h
      refine db_ldM S hw g5 dX7_readMarks_30 ?_
      refine lv_icmp_ne (tgt := 56) hx hb dX7_readMarks_31 (by decide) (fun c8 => ?_) (fun c8 => ?_)
      · have h := h.2 c8
        refine lv_iinc (v := (x1 + (1 : Int32))) (lv' := [(1, .int (x1 + (1 : Int32))), (0, .ref (db_ad E 6))]) hx hb dX7_readMarks_56 hl (k := 1) rfl (congrArg (fun z_ => x1 + z_) (show Int32.ofInt (1) = (1 : Int32) by decide)) (by decide) rfl (fun ls hl => ?_)
        refine lv_goto (tgt := 7) hx hb dX7_readMarks_59 (by decide) ?_
        exact ih _ _ _ _ _ h hw (lv_sub hl [1, 0] rfl)
      · have h := h.1 c8
        refine lv_aload_n hx hb dX7_readMarks_34 rfl (lv_at hl 0 rfl) ?_
        refine lv_dup hx hb dX7_readMarks_35 rfl ?_
        refine db_geti S hw (Nat.le_of_ble_eq_true rfl) db_s6 (C := RX7) (T := TX7) (N := 5) rfl hiX7 3 (by decide) rfl (List.mem_of_getElem? (i := 1) rfl) dX7_readMarks_36 ?_
        refine lv_iconst (v := (1 : Int32)) hx hb dX7_readMarks_39 (by decide) ?_
        refine lv_iload_n hx hb dX7_readMarks_40 rfl (lv_at hl 1 rfl) ?_
        refine lv_ishl hx hb dX7_readMarks_41 ?_
        refine lv_ior hx hb dX7_readMarks_42 ?_
        refine db_puti S hw (Nat.le_of_ble_eq_true rfl) db_s6 (C := RX7) (T := TX7) (N := 5) rfl hiX7 tyX7_ok nmX7 3 (by decide) rfl (List.mem_of_getElem? (i := 1) rfl) rfl ⟨rfl, rfl⟩ dX7_readMarks_43 (fun H locs hw => ?_)
        obtain ⟨X6, e6, hw⟩ : ∃ Z_, Z_ = (db_si X4 6 3 ((X4.1 6 3) ||| ((1 : Int32) <<< (x1 &&& 31)))) ∧ db_HW E (db_Aw E s.heap.size) s Z_ H locs := ⟨_, rfl, hw⟩
        have h := h X6 e6
        refine lv_aload_n hx hb dX7_readMarks_46 rfl (lv_at hl 0 rfl) ?_
        refine lv_dup hx hb dX7_readMarks_47 rfl ?_
        refine db_geti S hw (Nat.le_of_ble_eq_true rfl) db_s6 (C := RX7) (T := TX7) (N := 5) rfl hiX7 1 (by decide) rfl (List.mem_of_getElem? (i := 3) rfl) dX7_readMarks_48 ?_
        refine lv_iconst (v := (1 : Int32)) hx hb dX7_readMarks_51 (by decide) ?_
        refine lv_iadd hx hb dX7_readMarks_52 ?_
        refine db_puti S hw (Nat.le_of_ble_eq_true rfl) db_s6 (C := RX7) (T := TX7) (N := 5) rfl hiX7 tyX7_ok nmX7 1 (by decide) rfl (List.mem_of_getElem? (i := 3) rfl) rfl ⟨rfl, rfl⟩ dX7_readMarks_53 (fun H locs hw => ?_)
        obtain ⟨X7, e7, hw⟩ : ∃ Z_, Z_ = (db_si X6 6 1 ((X6.1 6 1) + (1 : Int32))) ∧ db_HW E (db_Aw E s.heap.size) s Z_ H locs := ⟨_, rfl, hw⟩
        have h := h X7 e7
        refine lv_iinc (v := (x1 + (1 : Int32))) (lv' := [(1, .int (x1 + (1 : Int32))), (0, .ref (db_ad E 6))]) hx hb dX7_readMarks_56 hl (k := 1) rfl (congrArg (fun z_ => x1 + z_) (show Int32.ofInt (1) = (1 : Int32) by decide)) (by decide) rfl (fun ls hl => ?_)
        refine lv_goto (tgt := 7) hx hb dX7_readMarks_59 (by decide) ?_
        exact ih _ _ _ _ _ h hw (lv_sub hl [1, 0] rfl)
def wp_X7_readMarks  (X : db_St)  (Q : Int32 → db_St → Prop) : Prop := (∀ X1, X1 = (db_si X 6 3 (0 : Int32)) → (∃ f_, wp_X7_readMarks_7 Q f_ X1 (0 : Int32)))
set_option maxHeartbeats 4000000 in
set_option maxRecDepth 100000 in
theorem ct_X7_readMarks {l : Launch} {E : db_E}  {X : db_St}  {Q : Int32 → db_St → Prop} (h : wp_X7_readMarks  X  Q) : db_MI l E yX7_readMarks wsX7_readMarks rm_X7_readMarks X [.ref (db_ad E 6)] Q := by
  intro sz
  unfold wp_X7_readMarks at h
  refine Met.ofW (cc := cX7_readMarks) (maxL := 2) (ret := (some .boolean)) (by decide) rfl ?_
  intro p e s m args below meth c s₁ B hml hv
  obtain ⟨rfl, hsz, hU⟩ := hv
  subst hsz
  have S : CallFix p m c cX7_readMarks 2 s ([.ref (db_ad E 6)] : List Value).toArray wsX7_readMarks RX7 := ⟨B.exec, B.bytes, hml, findClass_of_methodNamed B.named, atoms_spec (ws := wsX7_readMarks) B.pre⟩
  have hx := S.1
  have hb := S.2.1
  have hr := B.returns
  have hlocks := B.notSynchronized
  have hw := db_start hU
  have hiX7 : ∀ w ∈ wsX70, w ∈ wsX7_readMarks := fun w_ h_ => List.mem_cons_of_mem _ (List.mem_append_left _ (List.mem_append_right _ h_))
  have hl := lv_entry ([.ref (db_ad E 6)]) (n := 2) (Nat.le_of_ble_eq_true rfl)
  rw [lg_entry_eq]
  generalize (lg_sl ([.ref (db_ad E 6)]) ++ List.replicate (2 - (lg_sl ([.ref (db_ad E 6)])).length) Slot.unset).toArray = ls at hl ⊢
  have hl : lv_has ls 2 [(0, .ref (db_ad E 6))] := hl
  refine lv_aload_n hx hb dX7_readMarks_0 rfl (lv_at hl 0 rfl) ?_
  refine lv_iconst (v := (0 : Int32)) hx hb dX7_readMarks_1 (by decide) ?_
  refine db_puti S hw (Nat.le_of_ble_eq_true rfl) db_s6 (C := RX7) (T := TX7) (N := 5) rfl hiX7 tyX7_ok nmX7 3 (by decide) rfl (List.mem_of_getElem? (i := 1) rfl) rfl ⟨rfl, rfl⟩ dX7_readMarks_2 (fun H locs hw => ?_)
  obtain ⟨X1, e1, hw⟩ : ∃ Z_, Z_ = (db_si X 6 3 (0 : Int32)) ∧ db_HW E (db_Aw E s.heap.size) s Z_ H locs := ⟨_, rfl, hw⟩
  have h := h X1 e1
  refine lv_iconst (v := (0 : Int32)) hx hb dX7_readMarks_5 (by decide) ?_
  refine lv_istore_n (lv' := [(1, .int (0 : Int32)), (0, .ref (db_ad E 6))]) hx hb dX7_readMarks_6 rfl hl (by decide) rfl (fun ls hl => ?_)
  obtain ⟨f_, h⟩ := h
  exact tw_X7_readMarks_7 S hr hlocks   f_ _ _ _ _ _ h hw (lv_sub hl [1, 0] rfl)
-- DaysOnBread$RuleText.isDigit(I)Z
abbrev rm_X7_isDigit : Room := { frames := 0, cells := 0, slots := 0, locals := 0 }
def wp_X7_isDigit  (X : db_St) (x0 : Int32) (Q : Int32 → db_St → Prop) : Prop := ((x0 < (48 : Int32) → Q (0 : Int32) X) ∧ (¬ (x0 < (48 : Int32)) → (((57 : Int32) < x0 → Q (0 : Int32) X) ∧ (¬ ((57 : Int32) < x0) → Q (1 : Int32) X))))
set_option maxHeartbeats 4000000 in
set_option maxRecDepth 100000 in
theorem ct_X7_isDigit {l : Launch} {E : db_E}  {X : db_St} {x0 : Int32} {Q : Int32 → db_St → Prop} (h : wp_X7_isDigit  X x0 Q) : db_MI l E yX7_isDigit wsX7_isDigit rm_X7_isDigit X [.int x0] Q := by
  intro sz
  unfold wp_X7_isDigit at h
  refine Met.ofW (cc := cX7_isDigit) (maxL := 1) (ret := (some .boolean)) (by decide) rfl ?_
  intro p e s m args below meth c s₁ B hml hv
  obtain ⟨rfl, hsz, hU⟩ := hv
  subst hsz
  have S : CallFix p m c cX7_isDigit 1 s ([.int x0] : List Value).toArray wsX7_isDigit RX7 := ⟨B.exec, B.bytes, hml, findClass_of_methodNamed B.named, atoms_spec (ws := wsX7_isDigit) B.pre⟩
  have hx := S.1
  have hb := S.2.1
  have hr := B.returns
  have hlocks := B.notSynchronized
  have hw := db_start hU
  have hl := lv_entry ([.int x0]) (n := 1) (Nat.le_of_ble_eq_true rfl)
  rw [lg_entry_eq]
  generalize (lg_sl ([.int x0]) ++ List.replicate (1 - (lg_sl ([.int x0])).length) Slot.unset).toArray = ls at hl ⊢
  have hl : lv_has ls 1 [(0, .int x0)] := hl
  refine lv_iload_n hx hb dX7_isDigit_0 rfl (lv_at hl 0 rfl) ?_
  refine lv_bipush (v := (48 : Int32)) hx hb dX7_isDigit_1 (by decide) ?_
  refine lv_icmp_lt (tgt := 16) hx hb dX7_isDigit_3 (by decide) (fun c2 => ?_) (fun c2 => ?_)
  · have h := h.1 c2
    refine lv_iconst (v := (0 : Int32)) hx hb dX7_isDigit_16 (by decide) ?_
    exact db_zret S hr hlocks rfl hw h dX7_isDigit_17
  · have h := h.2 c2
    refine lv_iload_n hx hb dX7_isDigit_6 rfl (lv_at hl 0 rfl) ?_
    refine lv_bipush (v := (57 : Int32)) hx hb dX7_isDigit_7 (by decide) ?_
    refine lv_icmp_gt (tgt := 16) hx hb dX7_isDigit_9 (by decide) (fun c1 => ?_) (fun c1 => ?_)
    · have h := h.1 c1
      refine lv_iconst (v := (0 : Int32)) hx hb dX7_isDigit_16 (by decide) ?_
      exact db_zret S hr hlocks rfl hw h dX7_isDigit_17
    · have h := h.2 c1
      refine lv_iconst (v := (1 : Int32)) hx hb dX7_isDigit_12 (by decide) ?_
      refine lv_goto (tgt := 17) hx hb dX7_isDigit_13 (by decide) ?_
      exact db_zret S hr hlocks rfl hw h dX7_isDigit_17
-- DaysOnBread$RuleText.readDays()Z
abbrev rm_X7_readDays : Room := { frames := 1, cells := 0, slots := 0, locals := 21 }
def wp_X7_readDays_7 (Q : Int32 → db_St → Prop) : Nat → db_St → Int32 → Prop
  | 0, _, _ => False
  | n_ + 1, X, x1 => (((3 : Int32) ≤ x1 → ((x1 ≤ 0 → Q (0 : Int32) X) ∧ (¬ (x1 ≤ 0) → Q (1 : Int32) X))) ∧ (¬ ((3 : Int32) ≤ x1) → wp_X2_at 2 16 X (X.1 6 1) (fun r2 X2 => wp_X7_isDigit X2 r2 (fun r3 X3 => ((r3 = 0 → ((x1 ≤ 0 → Q (0 : Int32) X3) ∧ (¬ (x1 ≤ 0) → Q (1 : Int32) X3))) ∧ (¬ (r3 = 0) → wp_X2_at 2 16 X3 (X3.1 6 1) (fun r5 X5 => (∀ X6, X6 = (db_si X5 6 4 ((((10 : Int32) * (X3.1 6 4)) + r5) - (48 : Int32))) → (∀ X7, X7 = (db_si X6 6 1 ((X6.1 6 1) + (1 : Int32))) → wp_X7_readDays_7 Q n_ X7 (x1 + (1 : Int32)))))))))))
set_option maxHeartbeats 4000000 in
set_option maxRecDepth 100000 in
theorem tw_X7_readDays_7 {p : Program} {l : Launch} {e : Env} {s : State} {m : MethodId} {args : Array Value} {below : List Frame} {meth : Method} {c : Code} {E : db_E} (S : CallFix p m c cX7_readDays 2 s args wsX7_readDays RX7) (hr : meth.sig.returnType = (some .boolean)) (hlocks : meth.locks = false)  {Q : Int32 → db_St → Prop} : ∀ (n : Nat) (X : db_St) (x1 : Int32) (H : Heap) (locs : List Loc) (ls : Array Slot), wp_X7_readDays_7 Q n X x1 → db_HW E (db_Aw E s.heap.size) s X H locs → lv_has ls 2 [(0, .ref (db_ad E 6)), (1, .int x1)] → W p l e rm_X7_readDays s m args below meth c H locs 0 0 (MQ below (va_Qi Q (db_Po E) (db_Aw E s.heap.size)) args s 0 0 (db_Aw E s.heap.size)) (F0 m 7 ls []) := by
  have hx := S.1
  have hb := S.2.1
  have hiX7 : ∀ w ∈ wsX70, w ∈ wsX7_readDays := fun w_ h_ => List.mem_cons_of_mem _ (List.mem_append_left _ (List.mem_append_right _ h_))
  intro n
  induction n with
  | zero =>
    intro X x1 H locs ls h hw hl
    exact False.elim h
  | succ n_ ih =>
    intro X x1 H locs ls h hw hl
    unfold wp_X7_readDays_7 at h
    refine lv_iload_n hx hb dX7_readDays_7 rfl (lv_at hl 1 rfl) ?_
    refine lv_iconst (v := (3 : Int32)) hx hb dX7_readDays_8 (by decide) ?_
    refine lv_icmp_ge (tgt := 71) hx hb dX7_readDays_9 (by decide) (fun c9 => ?_) (fun c9 => ?_)
    · have h := h.1 c9
      refine lv_iload_n hx hb dX7_readDays_71 rfl (lv_at hl 1 rfl) ?_
      refine lv_if_le (tgt := 79) hx hb dX7_readDays_72 (by decide) (fun c1 => ?_) (fun c1 => ?_)
      · have h := h.1 c1
        refine lv_iconst (v := (0 : Int32)) hx hb dX7_readDays_79 (by decide) ?_
        exact db_zret S hr hlocks rfl hw h dX7_readDays_80
      · have h := h.2 c1
        refine lv_iconst (v := (1 : Int32)) hx hb dX7_readDays_75 (by decide) ?_
        refine lv_goto (tgt := 80) hx hb dX7_readDays_76 (by decide) ?_
        exact db_zret S hr hlocks rfl hw h dX7_readDays_80
    · have h := h.2 c9
      refine lv_aload_n hx hb dX7_readDays_12 rfl (lv_at hl 0 rfl) ?_
      refine db_getr S hw (Nat.le_of_ble_eq_true rfl) db_s6 (C := RX7) (T := TX7) (N := 5) rfl hiX7 0 (by decide) (r := 2) rfl (List.mem_of_getElem? (i := 2) rfl) dX7_readDays_13 ?_
      refine lv_aload_n hx hb dX7_readDays_16 rfl (lv_at hl 0 rfl) ?_
      refine db_geti S hw (Nat.le_of_ble_eq_true rfl) db_s6 (C := RX7) (T := TX7) (N := 5) rfl hiX7 1 (by decide) rfl (List.mem_of_getElem? (i := 3) rfl) dX7_readDays_17 ?_
      refine db_callVi S hw (Nat.le_of_ble_eq_true rfl) db_s2 (C := RX2) (T := TX2) (N := 2) (As := [.int (X.1 6 1)]) rfl (ct_X2_at db_kb2 h) gX7_readDays_X2_at rfl ⟨rfl, rfl, Nat.le_of_ble_eq_true rfl, Nat.le_of_ble_eq_true rfl⟩ 1 rfl (by decide +kernel) hl.1 rfl (Nat.le_of_ble_eq_true rfl) dX7_readDays_20 ⟨Nat.zero_le _, Nat.zero_le _⟩ (fun r2 X2 H locs h hw => ?_)
      refine db_callSi S hw (As := [.int r2]) (ct_X7_isDigit  h) gX7_readDays_X7_isDigit rfl ⟨rfl, rfl, Nat.le_of_ble_eq_true rfl, Nat.le_of_ble_eq_true rfl⟩ 1 rfl (by decide +kernel) hl.1 rfl (Nat.le_of_ble_eq_true rfl) dX7_readDays_23 ⟨Nat.zero_le _, Nat.zero_le _⟩ (fun r3 X3 H locs h hw => ?_)
      refine lv_if_eq (tgt := 71) hx hb dX7_readDays_26 (by decide) (fun c8 => ?_) (fun c8 => ?_)
      · have h := h.1 c8
        refine lv_iload_n hx hb dX7_readDays_71 rfl (lv_at hl 1 rfl) ?_
        refine lv_if_le (tgt := 79) hx hb dX7_readDays_72 (by decide) (fun c4 => ?_) (fun c4 => ?_)
        · have h := h.1 c4
          refine lv_iconst (v := (0 : Int32)) hx hb dX7_readDays_79 (by decide) ?_
          exact db_zret S hr hlocks rfl hw h dX7_readDays_80
        · have h := h.2 c4
          refine lv_iconst (v := (1 : Int32)) hx hb dX7_readDays_75 (by decide) ?_
          refine lv_goto (tgt := 80) hx hb dX7_readDays_76 (by decide) ?_
          exact db_zret S hr hlocks rfl hw h dX7_readDays_80
      · have h := h.2 c8
        refine lv_aload_n hx hb dX7_readDays_29 rfl (lv_at hl 0 rfl) ?_
        refine lv_bipush (v := (10 : Int32)) hx hb dX7_readDays_30 (by decide) ?_
        refine lv_aload_n hx hb dX7_readDays_32 rfl (lv_at hl 0 rfl) ?_
        refine db_geti S hw (Nat.le_of_ble_eq_true rfl) db_s6 (C := RX7) (T := TX7) (N := 5) rfl hiX7 4 (by decide) rfl (List.mem_of_getElem? (i := 1) rfl) dX7_readDays_33 ?_
        refine lv_imul hx hb dX7_readDays_36 ?_
        refine lv_aload_n hx hb dX7_readDays_37 rfl (lv_at hl 0 rfl) ?_
        refine db_getr S hw (Nat.le_of_ble_eq_true rfl) db_s6 (C := RX7) (T := TX7) (N := 5) rfl hiX7 0 (by decide) (r := 2) rfl (List.mem_of_getElem? (i := 2) rfl) dX7_readDays_38 ?_
        refine lv_aload_n hx hb dX7_readDays_41 rfl (lv_at hl 0 rfl) ?_
        refine db_geti S hw (Nat.le_of_ble_eq_true rfl) db_s6 (C := RX7) (T := TX7) (N := 5) rfl hiX7 1 (by decide) rfl (List.mem_of_getElem? (i := 3) rfl) dX7_readDays_42 ?_
        refine db_callVi S hw (Nat.le_of_ble_eq_true rfl) db_s2 (C := RX2) (T := TX2) (N := 2) (As := [.int (X3.1 6 1)]) rfl (ct_X2_at db_kb2 h) gX7_readDays_X2_at rfl ⟨rfl, rfl, Nat.le_of_ble_eq_true rfl, Nat.le_of_ble_eq_true rfl⟩ 1 rfl (by decide +kernel) hl.1 rfl (Nat.le_of_ble_eq_true rfl) dX7_readDays_45 ⟨Nat.zero_le _, Nat.zero_le _⟩ (fun r5 X5 H locs h hw => ?_)
        refine lv_iadd hx hb dX7_readDays_48 ?_
        refine lv_bipush (v := (48 : Int32)) hx hb dX7_readDays_49 (by decide) ?_
        refine lv_isub hx hb dX7_readDays_51 ?_
        refine db_puti S hw (Nat.le_of_ble_eq_true rfl) db_s6 (C := RX7) (T := TX7) (N := 5) rfl hiX7 tyX7_ok nmX7 4 (by decide) rfl (List.mem_of_getElem? (i := 1) rfl) rfl ⟨rfl, rfl⟩ dX7_readDays_52 (fun H locs hw => ?_)
        obtain ⟨X6, e6, hw⟩ : ∃ Z_, Z_ = (db_si X5 6 4 ((((10 : Int32) * (X3.1 6 4)) + r5) - (48 : Int32))) ∧ db_HW E (db_Aw E s.heap.size) s Z_ H locs := ⟨_, rfl, hw⟩
        have h := h X6 e6
        refine lv_aload_n hx hb dX7_readDays_55 rfl (lv_at hl 0 rfl) ?_
        refine lv_dup hx hb dX7_readDays_56 rfl ?_
        refine db_geti S hw (Nat.le_of_ble_eq_true rfl) db_s6 (C := RX7) (T := TX7) (N := 5) rfl hiX7 1 (by decide) rfl (List.mem_of_getElem? (i := 3) rfl) dX7_readDays_57 ?_
        refine lv_iconst (v := (1 : Int32)) hx hb dX7_readDays_60 (by decide) ?_
        refine lv_iadd hx hb dX7_readDays_61 ?_
        refine db_puti S hw (Nat.le_of_ble_eq_true rfl) db_s6 (C := RX7) (T := TX7) (N := 5) rfl hiX7 tyX7_ok nmX7 1 (by decide) rfl (List.mem_of_getElem? (i := 3) rfl) rfl ⟨rfl, rfl⟩ dX7_readDays_62 (fun H locs hw => ?_)
        obtain ⟨X7, e7, hw⟩ : ∃ Z_, Z_ = (db_si X6 6 1 ((X6.1 6 1) + (1 : Int32))) ∧ db_HW E (db_Aw E s.heap.size) s Z_ H locs := ⟨_, rfl, hw⟩
        have h := h X7 e7
        refine lv_iinc (v := (x1 + (1 : Int32))) (lv' := [(1, .int (x1 + (1 : Int32))), (0, .ref (db_ad E 6))]) hx hb dX7_readDays_65 hl (k := 1) rfl (congrArg (fun z_ => x1 + z_) (show Int32.ofInt (1) = (1 : Int32) by decide)) (by decide) rfl (fun ls hl => ?_)
        refine lv_goto (tgt := 7) hx hb dX7_readDays_68 (by decide) ?_
        exact ih _ _ _ _ _ h hw (lv_sub hl [1, 0] rfl)
def wp_X7_readDays  (X : db_St)  (Q : Int32 → db_St → Prop) : Prop := (∀ X1, X1 = (db_si X 6 4 (0 : Int32)) → (∃ f_, wp_X7_readDays_7 Q f_ X1 (0 : Int32)))
set_option maxHeartbeats 4000000 in
set_option maxRecDepth 100000 in
theorem ct_X7_readDays {l : Launch} {E : db_E}  {X : db_St}  {Q : Int32 → db_St → Prop} (h : wp_X7_readDays  X  Q) : db_MI l E yX7_readDays wsX7_readDays rm_X7_readDays X [.ref (db_ad E 6)] Q := by
  intro sz
  unfold wp_X7_readDays at h
  refine Met.ofW (cc := cX7_readDays) (maxL := 2) (ret := (some .boolean)) (by decide) rfl ?_
  intro p e s m args below meth c s₁ B hml hv
  obtain ⟨rfl, hsz, hU⟩ := hv
  subst hsz
  have S : CallFix p m c cX7_readDays 2 s ([.ref (db_ad E 6)] : List Value).toArray wsX7_readDays RX7 := ⟨B.exec, B.bytes, hml, findClass_of_methodNamed B.named, atoms_spec (ws := wsX7_readDays) B.pre⟩
  have hx := S.1
  have hb := S.2.1
  have hr := B.returns
  have hlocks := B.notSynchronized
  have hw := db_start hU
  have hiX7 : ∀ w ∈ wsX70, w ∈ wsX7_readDays := fun w_ h_ => List.mem_cons_of_mem _ (List.mem_append_left _ (List.mem_append_right _ h_))
  have hl := lv_entry ([.ref (db_ad E 6)]) (n := 2) (Nat.le_of_ble_eq_true rfl)
  rw [lg_entry_eq]
  generalize (lg_sl ([.ref (db_ad E 6)]) ++ List.replicate (2 - (lg_sl ([.ref (db_ad E 6)])).length) Slot.unset).toArray = ls at hl ⊢
  have hl : lv_has ls 2 [(0, .ref (db_ad E 6))] := hl
  refine lv_aload_n hx hb dX7_readDays_0 rfl (lv_at hl 0 rfl) ?_
  refine lv_iconst (v := (0 : Int32)) hx hb dX7_readDays_1 (by decide) ?_
  refine db_puti S hw (Nat.le_of_ble_eq_true rfl) db_s6 (C := RX7) (T := TX7) (N := 5) rfl hiX7 tyX7_ok nmX7 4 (by decide) rfl (List.mem_of_getElem? (i := 1) rfl) rfl ⟨rfl, rfl⟩ dX7_readDays_2 (fun H locs hw => ?_)
  obtain ⟨X1, e1, hw⟩ : ∃ Z_, Z_ = (db_si X 6 4 (0 : Int32)) ∧ db_HW E (db_Aw E s.heap.size) s Z_ H locs := ⟨_, rfl, hw⟩
  have h := h X1 e1
  refine lv_iconst (v := (0 : Int32)) hx hb dX7_readDays_5 (by decide) ?_
  refine lv_istore_n (lv' := [(1, .int (0 : Int32)), (0, .ref (db_ad E 6))]) hx hb dX7_readDays_6 rfl hl (by decide) rfl (fun ls hl => ?_)
  obtain ⟨f_, h⟩ := h
  exact tw_X7_readDays_7 S hr hlocks   f_ _ _ _ _ _ h hw (lv_sub hl [1, 0] rfl)
-- DaysOnBread$RuleText.read()Z
abbrev rm_X7_read : Room := { frames := 2, cells := 0, slots := 0, locals := 42 }
def wp_X7_read  (X : db_St)  (Q : Int32 → db_St → Prop) : Prop := (∀ X1, X1 = (db_si X 6 1 (0 : Int32)) → wp_X7_readDeed X1 (fun r2 X2 => ((r2 = 0 → Q (0 : Int32) X2) ∧ (¬ (r2 = 0) → wp_X7_readMarks X2 (fun r3 X3 => ((r3 = 0 → Q (0 : Int32) X3) ∧ (¬ (r3 = 0) → wp_X7_readDays X3 (fun r4 X4 => ((r4 = 0 → Q (0 : Int32) X4) ∧ (¬ (r4 = 0) → wp_X2_size 2 16 X4 (fun r5 X5 => (((X4.1 6 1) = r5 → Q (1 : Int32) X5) ∧ (¬ (X4.1 6 1) = r5 → Q (0 : Int32) X5)))))))))))))
set_option maxHeartbeats 4000000 in
set_option maxRecDepth 100000 in
theorem ct_X7_read {l : Launch} {E : db_E}  {X : db_St}  {Q : Int32 → db_St → Prop} (h : wp_X7_read  X  Q) : db_MI l E yX7_read wsX7_read rm_X7_read X [.ref (db_ad E 6)] Q := by
  intro sz
  unfold wp_X7_read at h
  refine Met.ofW (cc := cX7_read) (maxL := 1) (ret := (some .boolean)) (by decide) rfl ?_
  intro p e s m args below meth c s₁ B hml hv
  obtain ⟨rfl, hsz, hU⟩ := hv
  subst hsz
  have S : CallFix p m c cX7_read 1 s ([.ref (db_ad E 6)] : List Value).toArray wsX7_read RX7 := ⟨B.exec, B.bytes, hml, findClass_of_methodNamed B.named, atoms_spec (ws := wsX7_read) B.pre⟩
  have hx := S.1
  have hb := S.2.1
  have hr := B.returns
  have hlocks := B.notSynchronized
  have hw := db_start hU
  have hiX7 : ∀ w ∈ wsX70, w ∈ wsX7_read := fun w_ h_ => List.mem_cons_of_mem _ (List.mem_append_left _ (List.mem_append_right _ h_))
  have hl := lv_entry ([.ref (db_ad E 6)]) (n := 1) (Nat.le_of_ble_eq_true rfl)
  rw [lg_entry_eq]
  generalize (lg_sl ([.ref (db_ad E 6)]) ++ List.replicate (1 - (lg_sl ([.ref (db_ad E 6)])).length) Slot.unset).toArray = ls at hl ⊢
  have hl : lv_has ls 1 [(0, .ref (db_ad E 6))] := hl
  refine lv_aload_n hx hb dX7_read_0 rfl (lv_at hl 0 rfl) ?_
  refine lv_iconst (v := (0 : Int32)) hx hb dX7_read_1 (by decide) ?_
  refine db_puti S hw (Nat.le_of_ble_eq_true rfl) db_s6 (C := RX7) (T := TX7) (N := 5) rfl hiX7 tyX7_ok nmX7 1 (by decide) rfl (List.mem_of_getElem? (i := 1) rfl) rfl ⟨rfl, rfl⟩ dX7_read_2 (fun H locs hw => ?_)
  obtain ⟨X1, e1, hw⟩ : ∃ Z_, Z_ = (db_si X 6 1 (0 : Int32)) ∧ db_HW E (db_Aw E s.heap.size) s Z_ H locs := ⟨_, rfl, hw⟩
  have h := h X1 e1
  refine lv_aload_n hx hb dX7_read_5 rfl (lv_at hl 0 rfl) ?_
  refine db_callVi S hw (Nat.le_of_ble_eq_true rfl) db_s6 (C := RX7) (T := TX7) (N := 5) (As := []) rfl (ct_X7_readDeed  h) gX7_read_X7_readDeed rfl ⟨rfl, rfl, Nat.le_of_ble_eq_true rfl, Nat.le_of_ble_eq_true rfl⟩ 0 rfl (by decide +kernel) hl.1 rfl (Nat.le_of_ble_eq_true rfl) dX7_read_6 ⟨Nat.zero_le _, Nat.zero_le _⟩ (fun r2 X2 H locs h hw => ?_)
  refine lv_if_eq (tgt := 44) hx hb dX7_read_9 (by decide) (fun c9 => ?_) (fun c9 => ?_)
  · have h := h.1 c9
    refine lv_iconst (v := (0 : Int32)) hx hb dX7_read_44 (by decide) ?_
    exact db_zret S hr hlocks rfl hw h dX7_read_45
  · have h := h.2 c9
    refine lv_aload_n hx hb dX7_read_12 rfl (lv_at hl 0 rfl) ?_
    refine db_callVi S hw (Nat.le_of_ble_eq_true rfl) db_s6 (C := RX7) (T := TX7) (N := 5) (As := []) rfl (ct_X7_readMarks  h) gX7_read_X7_readMarks rfl ⟨rfl, rfl, Nat.le_of_ble_eq_true rfl, Nat.le_of_ble_eq_true rfl⟩ 0 rfl (by decide +kernel) hl.1 rfl (Nat.le_of_ble_eq_true rfl) dX7_read_13 ⟨Nat.zero_le _, Nat.zero_le _⟩ (fun r3 X3 H locs h hw => ?_)
    refine lv_if_eq (tgt := 44) hx hb dX7_read_16 (by decide) (fun c8 => ?_) (fun c8 => ?_)
    · have h := h.1 c8
      refine lv_iconst (v := (0 : Int32)) hx hb dX7_read_44 (by decide) ?_
      exact db_zret S hr hlocks rfl hw h dX7_read_45
    · have h := h.2 c8
      refine lv_aload_n hx hb dX7_read_19 rfl (lv_at hl 0 rfl) ?_
      refine db_callVi S hw (Nat.le_of_ble_eq_true rfl) db_s6 (C := RX7) (T := TX7) (N := 5) (As := []) rfl (ct_X7_readDays  h) gX7_read_X7_readDays rfl ⟨rfl, rfl, Nat.le_of_ble_eq_true rfl, Nat.le_of_ble_eq_true rfl⟩ 0 rfl (by decide +kernel) hl.1 rfl (Nat.le_of_ble_eq_true rfl) dX7_read_20 ⟨Nat.zero_le _, Nat.zero_le _⟩ (fun r4 X4 H locs h hw => ?_)
      refine lv_if_eq (tgt := 44) hx hb dX7_read_23 (by decide) (fun c7 => ?_) (fun c7 => ?_)
      · have h := h.1 c7
        refine lv_iconst (v := (0 : Int32)) hx hb dX7_read_44 (by decide) ?_
        exact db_zret S hr hlocks rfl hw h dX7_read_45
      · have h := h.2 c7
        refine lv_aload_n hx hb dX7_read_26 rfl (lv_at hl 0 rfl) ?_
        refine db_geti S hw (Nat.le_of_ble_eq_true rfl) db_s6 (C := RX7) (T := TX7) (N := 5) rfl hiX7 1 (by decide) rfl (List.mem_of_getElem? (i := 1) rfl) dX7_read_27 ?_
        refine lv_aload_n hx hb dX7_read_30 rfl (lv_at hl 0 rfl) ?_
        refine db_getr S hw (Nat.le_of_ble_eq_true rfl) db_s6 (C := RX7) (T := TX7) (N := 5) rfl hiX7 0 (by decide) (r := 2) rfl (List.mem_of_getElem? (i := 2) rfl) dX7_read_31 ?_
        refine db_callVi S hw (Nat.le_of_ble_eq_true rfl) db_s2 (C := RX2) (T := TX2) (N := 2) (As := []) rfl (ct_X2_size db_kb2 h) gX7_read_X2_size rfl ⟨rfl, rfl, Nat.le_of_ble_eq_true rfl, Nat.le_of_ble_eq_true rfl⟩ 0 rfl (by decide +kernel) hl.1 rfl (Nat.le_of_ble_eq_true rfl) dX7_read_34 ⟨Nat.zero_le _, Nat.zero_le _⟩ (fun r5 X5 H locs h hw => ?_)
        refine lv_icmp_ne (tgt := 44) hx hb dX7_read_37 (by decide) (fun c6 => ?_) (fun c6 => ?_)
        · have h := h.2 c6
          refine lv_iconst (v := (0 : Int32)) hx hb dX7_read_44 (by decide) ?_
          exact db_zret S hr hlocks rfl hw h dX7_read_45
        · have h := h.1 c6
          refine lv_iconst (v := (1 : Int32)) hx hb dX7_read_40 (by decide) ?_
          refine lv_goto (tgt := 45) hx hb dX7_read_41 (by decide) ?_
          exact db_zret S hr hlocks rfl hw h dX7_read_45
-- DaysOnBread.isBook(I)Z
abbrev rm_X10_isBook : Room := { frames := 0, cells := 0, slots := 0, locals := 0 }
def wp_X10_isBook  (X : db_St) (x0 : Int32) (Q : Int32 → db_St → Prop) : Prop := ((x0 < 0 → Q (0 : Int32) X) ∧ (¬ (x0 < 0) → (((6 : Int32) ≤ x0 → Q (0 : Int32) X) ∧ (¬ ((6 : Int32) ≤ x0) → Q (1 : Int32) X))))
set_option maxHeartbeats 4000000 in
set_option maxRecDepth 100000 in
theorem ct_X10_isBook {l : Launch} {E : db_E}  {X : db_St} {x0 : Int32} {Q : Int32 → db_St → Prop} (h : wp_X10_isBook  X x0 Q) : db_MI l E yX10_isBook wsX10_isBook rm_X10_isBook X [.int x0] Q := by
  intro sz
  unfold wp_X10_isBook at h
  refine Met.ofW (cc := cX10_isBook) (maxL := 1) (ret := (some .boolean)) (by decide) rfl ?_
  intro p e s m args below meth c s₁ B hml hv
  obtain ⟨rfl, hsz, hU⟩ := hv
  subst hsz
  have S : CallFix p m c cX10_isBook 1 s ([.int x0] : List Value).toArray wsX10_isBook RX10 := ⟨B.exec, B.bytes, hml, findClass_of_methodNamed B.named, atoms_spec (ws := wsX10_isBook) B.pre⟩
  have hx := S.1
  have hb := S.2.1
  have hr := B.returns
  have hlocks := B.notSynchronized
  have hw := db_start hU
  have hl := lv_entry ([.int x0]) (n := 1) (Nat.le_of_ble_eq_true rfl)
  rw [lg_entry_eq]
  generalize (lg_sl ([.int x0]) ++ List.replicate (1 - (lg_sl ([.int x0])).length) Slot.unset).toArray = ls at hl ⊢
  have hl : lv_has ls 1 [(0, .int x0)] := hl
  refine lv_iload_n hx hb dX10_isBook_0 rfl (lv_at hl 0 rfl) ?_
  refine lv_if_lt (tgt := 14) hx hb dX10_isBook_1 (by decide) (fun c2 => ?_) (fun c2 => ?_)
  · have h := h.1 c2
    refine lv_iconst (v := (0 : Int32)) hx hb dX10_isBook_14 (by decide) ?_
    exact db_zret S hr hlocks rfl hw h dX10_isBook_15
  · have h := h.2 c2
    refine lv_iload_n hx hb dX10_isBook_4 rfl (lv_at hl 0 rfl) ?_
    refine lv_bipush (v := (6 : Int32)) hx hb dX10_isBook_5 (by decide) ?_
    refine lv_icmp_ge (tgt := 14) hx hb dX10_isBook_7 (by decide) (fun c1 => ?_) (fun c1 => ?_)
    · have h := h.1 c1
      refine lv_iconst (v := (0 : Int32)) hx hb dX10_isBook_14 (by decide) ?_
      exact db_zret S hr hlocks rfl hw h dX10_isBook_15
    · have h := h.2 c1
      refine lv_iconst (v := (1 : Int32)) hx hb dX10_isBook_10 (by decide) ?_
      refine lv_goto (tgt := 15) hx hb dX10_isBook_11 (by decide) ?_
      exact db_zret S hr hlocks rfl hw h dX10_isBook_15
-- DaysOnBread.refuse(I)I
abbrev rm_X10_refuse : Room := { frames := 0, cells := 0, slots := 0, locals := 0 }
def wp_X10_refuse  (X : db_St) (x1 : Int32) (Q : Int32 → db_St → Prop) : Prop := ((0 ≤ x1 → Q x1 X) ∧ (¬ (0 ≤ x1) → ((x1 < (-6 : Int32) → Q x1 X) ∧ (¬ (x1 < (-6 : Int32)) → (vp_in (-x1) 7 ∧ (vp_in (-x1) 7 ∧ (∀ X3, X3 = (db_si X 1 ((-x1)).toNatClampNeg ((X.1 1 ((-x1)).toNatClampNeg) + (1 : Int32))) → Q x1 X3)))))))
set_option maxHeartbeats 4000000 in
set_option maxRecDepth 100000 in
theorem ct_X10_refuse {l : Launch} {E : db_E}  {X : db_St} {x1 : Int32} {Q : Int32 → db_St → Prop} (h : wp_X10_refuse  X x1 Q) : db_MI l E yX10_refuse wsX10_refuse rm_X10_refuse X [.ref (db_ad E 0), .int x1] Q := by
  intro sz
  unfold wp_X10_refuse at h
  refine Met.ofW (cc := cX10_refuse) (maxL := 2) (ret := (some .int)) (by decide) rfl ?_
  intro p e s m args below meth c s₁ B hml hv
  obtain ⟨rfl, hsz, hU⟩ := hv
  subst hsz
  have S : CallFix p m c cX10_refuse 2 s ([.ref (db_ad E 0), .int x1] : List Value).toArray wsX10_refuse RX10 := ⟨B.exec, B.bytes, hml, findClass_of_methodNamed B.named, atoms_spec (ws := wsX10_refuse) B.pre⟩
  have hx := S.1
  have hb := S.2.1
  have hr := B.returns
  have hlocks := B.notSynchronized
  have hw := db_start hU
  have hiX10 : ∀ w ∈ wsX100, w ∈ wsX10_refuse := fun w_ h_ => List.mem_cons_of_mem _ (List.mem_append_right _ h_)
  have hl := lv_entry ([.ref (db_ad E 0), .int x1]) (n := 2) (Nat.le_of_ble_eq_true rfl)
  rw [lg_entry_eq]
  generalize (lg_sl ([.ref (db_ad E 0), .int x1]) ++ List.replicate (2 - (lg_sl ([.ref (db_ad E 0), .int x1])).length) Slot.unset).toArray = ls at hl ⊢
  have hl : lv_has ls 2 [(0, .ref (db_ad E 0)), (1, .int x1)] := hl
  refine lv_iload_n hx hb dX10_refuse_0 rfl (lv_at hl 1 rfl) ?_
  refine lv_if_ge (tgt := 21) hx hb dX10_refuse_1 (by decide) (fun c5 => ?_) (fun c5 => ?_)
  · have h := h.1 c5
    refine lv_iload_n hx hb dX10_refuse_21 rfl (lv_at hl 1 rfl) ?_
    exact db_iret S hr hlocks hw h dX10_refuse_22
  · have h := h.2 c5
    refine lv_iload_n hx hb dX10_refuse_4 rfl (lv_at hl 1 rfl) ?_
    refine lv_bipush (v := (-6 : Int32)) hx hb dX10_refuse_5 (by decide) ?_
    refine lv_icmp_lt (tgt := 21) hx hb dX10_refuse_7 (by decide) (fun c4 => ?_) (fun c4 => ?_)
    · have h := h.1 c4
      refine lv_iload_n hx hb dX10_refuse_21 rfl (lv_at hl 1 rfl) ?_
      exact db_iret S hr hlocks hw h dX10_refuse_22
    · have h := h.2 c4
      refine lv_aload_n hx hb dX10_refuse_10 rfl (lv_at hl 0 rfl) ?_
      refine db_getr S hw (Nat.le_of_ble_eq_true rfl) db_s0 (C := RX10) (T := TX10) (N := 15) rfl hiX10 0 (by decide) (r := 1) rfl (List.mem_of_getElem? (i := 1) rfl) dX10_refuse_11 ?_
      refine lv_iload_n hx hb dX10_refuse_14 rfl (lv_at hl 1 rfl) ?_
      refine lv_ineg hx hb dX10_refuse_15 ?_
      refine lv_dup2_11 hx hb dX10_refuse_16 rfl rfl ?_
      obtain ⟨g1, h⟩ := h
      refine db_iald S hw (Nat.le_of_ble_eq_true rfl) db_s1 g1 dX10_refuse_17 ?_
      refine lv_iconst (v := (1 : Int32)) hx hb dX10_refuse_18 (by decide) ?_
      refine lv_iadd hx hb dX10_refuse_19 ?_
      obtain ⟨g2, h⟩ := h
      refine db_iast S hw (Nat.le_of_ble_eq_true rfl) db_s1 g2 dX10_refuse_20 (fun H locs hw => ?_)
      obtain ⟨X3, e3, hw⟩ : ∃ Z_, Z_ = (db_si X 1 ((-x1)).toNatClampNeg ((X.1 1 ((-x1)).toNatClampNeg) + (1 : Int32))) ∧ db_HW E (db_Aw E s.heap.size) s Z_ H locs := ⟨_, rfl, hw⟩
      have h := h X3 e3
      refine lv_iload_n hx hb dX10_refuse_21 rfl (lv_at hl 1 rfl) ?_
      exact db_iret S hr hlocks hw h dX10_refuse_22
-- DaysOnBread.isDeed(II)Z
abbrev rm_X10_isDeed : Room := { frames := 0, cells := 0, slots := 0, locals := 0 }
def wp_X10_isDeed  (X : db_St) (x0 : Int32) (x1 : Int32) (Q : Int32 → db_St → Prop) : Prop := ((x0 < 0 → Q (0 : Int32) X) ∧ (¬ (x0 < 0) → (((8 : Int32) ≤ x0 → Q (0 : Int32) X) ∧ (¬ ((8 : Int32) ≤ x0) → ((x1 < 0 → Q (0 : Int32) X) ∧ (¬ (x1 < 0) → (((16 : Int32) ≤ x1 → Q (0 : Int32) X) ∧ (¬ ((16 : Int32) ≤ x1) → Q (1 : Int32) X))))))))
set_option maxHeartbeats 4000000 in
set_option maxRecDepth 100000 in
theorem ct_X10_isDeed {l : Launch} {E : db_E}  {X : db_St} {x0 : Int32} {x1 : Int32} {Q : Int32 → db_St → Prop} (h : wp_X10_isDeed  X x0 x1 Q) : db_MI l E yX10_isDeed wsX10_isDeed rm_X10_isDeed X [.int x0, .int x1] Q := by
  intro sz
  unfold wp_X10_isDeed at h
  refine Met.ofW (cc := cX10_isDeed) (maxL := 2) (ret := (some .boolean)) (by decide) rfl ?_
  intro p e s m args below meth c s₁ B hml hv
  obtain ⟨rfl, hsz, hU⟩ := hv
  subst hsz
  have S : CallFix p m c cX10_isDeed 2 s ([.int x0, .int x1] : List Value).toArray wsX10_isDeed RX10 := ⟨B.exec, B.bytes, hml, findClass_of_methodNamed B.named, atoms_spec (ws := wsX10_isDeed) B.pre⟩
  have hx := S.1
  have hb := S.2.1
  have hr := B.returns
  have hlocks := B.notSynchronized
  have hw := db_start hU
  have hl := lv_entry ([.int x0, .int x1]) (n := 2) (Nat.le_of_ble_eq_true rfl)
  rw [lg_entry_eq]
  generalize (lg_sl ([.int x0, .int x1]) ++ List.replicate (2 - (lg_sl ([.int x0, .int x1])).length) Slot.unset).toArray = ls at hl ⊢
  have hl : lv_has ls 2 [(0, .int x0), (1, .int x1)] := hl
  refine lv_iload_n hx hb dX10_isDeed_0 rfl (lv_at hl 0 rfl) ?_
  refine lv_if_lt (tgt := 24) hx hb dX10_isDeed_1 (by decide) (fun c4 => ?_) (fun c4 => ?_)
  · have h := h.1 c4
    refine lv_iconst (v := (0 : Int32)) hx hb dX10_isDeed_24 (by decide) ?_
    exact db_zret S hr hlocks rfl hw h dX10_isDeed_25
  · have h := h.2 c4
    refine lv_iload_n hx hb dX10_isDeed_4 rfl (lv_at hl 0 rfl) ?_
    refine lv_bipush (v := (8 : Int32)) hx hb dX10_isDeed_5 (by decide) ?_
    refine lv_icmp_ge (tgt := 24) hx hb dX10_isDeed_7 (by decide) (fun c3 => ?_) (fun c3 => ?_)
    · have h := h.1 c3
      refine lv_iconst (v := (0 : Int32)) hx hb dX10_isDeed_24 (by decide) ?_
      exact db_zret S hr hlocks rfl hw h dX10_isDeed_25
    · have h := h.2 c3
      refine lv_iload_n hx hb dX10_isDeed_10 rfl (lv_at hl 1 rfl) ?_
      refine lv_if_lt (tgt := 24) hx hb dX10_isDeed_11 (by decide) (fun c2 => ?_) (fun c2 => ?_)
      · have h := h.1 c2
        refine lv_iconst (v := (0 : Int32)) hx hb dX10_isDeed_24 (by decide) ?_
        exact db_zret S hr hlocks rfl hw h dX10_isDeed_25
      · have h := h.2 c2
        refine lv_iload_n hx hb dX10_isDeed_14 rfl (lv_at hl 1 rfl) ?_
        refine lv_bipush (v := (16 : Int32)) hx hb dX10_isDeed_15 (by decide) ?_
        refine lv_icmp_ge (tgt := 24) hx hb dX10_isDeed_17 (by decide) (fun c1 => ?_) (fun c1 => ?_)
        · have h := h.1 c1
          refine lv_iconst (v := (0 : Int32)) hx hb dX10_isDeed_24 (by decide) ?_
          exact db_zret S hr hlocks rfl hw h dX10_isDeed_25
        · have h := h.2 c1
          refine lv_iconst (v := (1 : Int32)) hx hb dX10_isDeed_20 (by decide) ?_
          refine lv_goto (tgt := 25) hx hb dX10_isDeed_21 (by decide) ?_
          exact db_zret S hr hlocks rfl hw h dX10_isDeed_25
