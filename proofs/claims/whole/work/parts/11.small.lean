-- DaysOnBread$Book.add(III)I
abbrev rm_X0_add : Room := { frames := 0, cells := 0, slots := 0, locals := 0 }
def wp_X0_add (q : Nat) (X : db_St) (x1 : Int32) (x2 : Int32) (x3 : Int32) (Q : Int32 → db_St → Prop) : Prop := (((X.1 q 3) < (10 : Int32) → (vp_in (X.1 q 3) 10 ∧ (∀ X2, X2 = (db_si X (q + 1) ((X.1 q 3)).toNatClampNeg x1) → (vp_in (X2.1 q 3) 10 ∧ (∀ X4, X4 = (db_si X2 (q + 2) ((X2.1 q 3)).toNatClampNeg x2) → (vp_in (X4.1 q 3) 10 ∧ (∀ X6, X6 = (db_si X4 (q + 3) ((X4.1 q 3)).toNatClampNeg x3) → (∀ X7, X7 = (db_si X6 q 3 ((X6.1 q 3) + (1 : Int32))) → Q ((X7.1 q 3) - (1 : Int32)) X7)))))))) ∧ (¬ ((X.1 q 3) < (10 : Int32)) → Q (-9 : Int32) X))
set_option maxHeartbeats 4000000 in
set_option maxRecDepth 100000 in
theorem ct_X0_add {l : Launch} {E : db_E} {q : Nat} (hq : db_kBook q) {X : db_St} {x1 : Int32} {x2 : Int32} {x3 : Int32} {Q : Int32 → db_St → Prop} (h : wp_X0_add q X x1 x2 x3 Q) : db_MI l E yX0_add wsX0_add rm_X0_add X [.ref (db_ad E q), .int x1, .int x2, .int x3] Q := by
  intro sz
  unfold wp_X0_add at h
  refine Met.ofW (cc := cX0_add) (maxL := 4) (ret := (some .int)) (by decide) rfl ?_
  intro p e s m args below meth c s₁ B hml hv
  obtain ⟨rfl, hsz, hU⟩ := hv
  subst hsz
  have S : CallFix p m c cX0_add 4 s ([.ref (db_ad E q), .int x1, .int x2, .int x3] : List Value).toArray wsX0_add RX0 := ⟨B.exec, B.bytes, hml, findClass_of_methodNamed B.named, atoms_spec (ws := wsX0_add) B.pre⟩
  have hx := S.1
  have hb := S.2.1
  have hr := B.returns
  have hlocks := B.notSynchronized
  have hw := db_start hU
  have hiX0 : ∀ w ∈ wsX00, w ∈ wsX0_add := fun w_ h_ => List.mem_cons_of_mem _ (List.mem_append_right _ h_)
  have hl := lv_entry ([.ref (db_ad E q), .int x1, .int x2, .int x3]) (n := 4) (Nat.le_of_ble_eq_true rfl)
  rw [lg_entry_eq]
  generalize (lg_sl ([.ref (db_ad E q), .int x1, .int x2, .int x3]) ++ List.replicate (4 - (lg_sl ([.ref (db_ad E q), .int x1, .int x2, .int x3])).length) Slot.unset).toArray = ls at hl ⊢
  have hl : lv_has ls 4 [(0, .ref (db_ad E q)), (1, .int x1), (2, .int x2), (3, .int x3)] := hl
  refine lv_aload_n hx hb dX0_add_0 rfl (lv_at hl 0 rfl) ?_
  refine db_geti S hw (db_kBook_l0 hq) (db_kBook_s0 hq) (C := RX0) (T := TX0) (N := 6) rfl hiX0 3 (by decide) rfl (List.mem_of_getElem? (i := 1) rfl) dX0_add_1 ?_
  refine lv_bipush (v := (10 : Int32)) hx hb dX0_add_4 (by decide) ?_
  refine lv_icmp_lt (tgt := 12) hx hb dX0_add_6 (by decide) (fun c8 => ?_) (fun c8 => ?_)
  · have h := h.1 c8
    refine lv_aload_n hx hb dX0_add_12 rfl (lv_at hl 0 rfl) ?_
    refine db_getr S hw (db_kBook_l0 hq) (db_kBook_s0 hq) (C := RX0) (T := TX0) (N := 6) rfl hiX0 0 (by decide) (r := (q + 1)) rfl (List.mem_of_getElem? (i := 2) rfl) dX0_add_13 ?_
    refine lv_aload_n hx hb dX0_add_16 rfl (lv_at hl 0 rfl) ?_
    refine db_geti S hw (db_kBook_l0 hq) (db_kBook_s0 hq) (C := RX0) (T := TX0) (N := 6) rfl hiX0 3 (by decide) rfl (List.mem_of_getElem? (i := 1) rfl) dX0_add_17 ?_
    refine lv_iload_n hx hb dX0_add_20 rfl (lv_at hl 1 rfl) ?_
    obtain ⟨g1, h⟩ := h
    refine db_iast S hw (db_kBook_l1 hq) (db_kBook_s1 hq) g1 dX0_add_21 (fun H locs hw => ?_)
    obtain ⟨X2, e2, hw⟩ : ∃ Z_, Z_ = (db_si X (q + 1) ((X.1 q 3)).toNatClampNeg x1) ∧ db_HW E (db_Aw E s.heap.size) s Z_ H locs := ⟨_, rfl, hw⟩
    have h := h X2 e2
    refine lv_aload_n hx hb dX0_add_22 rfl (lv_at hl 0 rfl) ?_
    refine db_getr S hw (db_kBook_l0 hq) (db_kBook_s0 hq) (C := RX0) (T := TX0) (N := 6) rfl hiX0 1 (by decide) (r := (q + 2)) rfl (List.mem_of_getElem? (i := 3) rfl) dX0_add_23 ?_
    refine lv_aload_n hx hb dX0_add_26 rfl (lv_at hl 0 rfl) ?_
    refine db_geti S hw (db_kBook_l0 hq) (db_kBook_s0 hq) (C := RX0) (T := TX0) (N := 6) rfl hiX0 3 (by decide) rfl (List.mem_of_getElem? (i := 1) rfl) dX0_add_27 ?_
    refine lv_iload_n hx hb dX0_add_30 rfl (lv_at hl 2 rfl) ?_
    obtain ⟨g3, h⟩ := h
    refine db_iast S hw (db_kBook_l2 hq) (db_kBook_s2 hq) g3 dX0_add_31 (fun H locs hw => ?_)
    obtain ⟨X4, e4, hw⟩ : ∃ Z_, Z_ = (db_si X2 (q + 2) ((X2.1 q 3)).toNatClampNeg x2) ∧ db_HW E (db_Aw E s.heap.size) s Z_ H locs := ⟨_, rfl, hw⟩
    have h := h X4 e4
    refine lv_aload_n hx hb dX0_add_32 rfl (lv_at hl 0 rfl) ?_
    refine db_getr S hw (db_kBook_l0 hq) (db_kBook_s0 hq) (C := RX0) (T := TX0) (N := 6) rfl hiX0 2 (by decide) (r := (q + 3)) rfl (List.mem_of_getElem? (i := 4) rfl) dX0_add_33 ?_
    refine lv_aload_n hx hb dX0_add_36 rfl (lv_at hl 0 rfl) ?_
    refine db_geti S hw (db_kBook_l0 hq) (db_kBook_s0 hq) (C := RX0) (T := TX0) (N := 6) rfl hiX0 3 (by decide) rfl (List.mem_of_getElem? (i := 1) rfl) dX0_add_37 ?_
    refine lv_iload_n hx hb dX0_add_40 rfl (lv_at hl 3 rfl) ?_
    obtain ⟨g5, h⟩ := h
    refine db_iast S hw (db_kBook_l3 hq) (db_kBook_s3 hq) g5 dX0_add_41 (fun H locs hw => ?_)
    obtain ⟨X6, e6, hw⟩ : ∃ Z_, Z_ = (db_si X4 (q + 3) ((X4.1 q 3)).toNatClampNeg x3) ∧ db_HW E (db_Aw E s.heap.size) s Z_ H locs := ⟨_, rfl, hw⟩
    have h := h X6 e6
    refine lv_aload_n hx hb dX0_add_42 rfl (lv_at hl 0 rfl) ?_
    refine lv_dup hx hb dX0_add_43 rfl ?_
    refine db_geti S hw (db_kBook_l0 hq) (db_kBook_s0 hq) (C := RX0) (T := TX0) (N := 6) rfl hiX0 3 (by decide) rfl (List.mem_of_getElem? (i := 1) rfl) dX0_add_44 ?_
    refine lv_iconst (v := (1 : Int32)) hx hb dX0_add_47 (by decide) ?_
    refine lv_iadd hx hb dX0_add_48 ?_
    refine db_puti S hw (db_kBook_l0 hq) (db_kBook_s0 hq) (C := RX0) (T := TX0) (N := 6) rfl hiX0 tyX0_ok nmX0 3 (by decide) rfl (List.mem_of_getElem? (i := 1) rfl) rfl ⟨rfl, rfl⟩ dX0_add_49 (fun H locs hw => ?_)
    obtain ⟨X7, e7, hw⟩ : ∃ Z_, Z_ = (db_si X6 q 3 ((X6.1 q 3) + (1 : Int32))) ∧ db_HW E (db_Aw E s.heap.size) s Z_ H locs := ⟨_, rfl, hw⟩
    have h := h X7 e7
    refine lv_aload_n hx hb dX0_add_52 rfl (lv_at hl 0 rfl) ?_
    refine db_geti S hw (db_kBook_l0 hq) (db_kBook_s0 hq) (C := RX0) (T := TX0) (N := 6) rfl hiX0 3 (by decide) rfl (List.mem_of_getElem? (i := 1) rfl) dX0_add_53 ?_
    refine lv_iconst (v := (1 : Int32)) hx hb dX0_add_56 (by decide) ?_
    refine lv_isub hx hb dX0_add_57 ?_
    exact db_iret S hr hlocks hw h dX0_add_58
  · have h := h.2 c8
    refine lv_bipush (v := (-9 : Int32)) hx hb dX0_add_9 (by decide) ?_
    exact db_iret S hr hlocks hw h dX0_add_11
-- DaysOnBread$Book.firstFor(II)I
abbrev rm_X0_firstFor : Room := { frames := 0, cells := 0, slots := 0, locals := 0 }
def wp_X0_firstFor_2 (q : Nat) (Q : Int32 → db_St → Prop) : Nat → db_St → Int32 → Int32 → Int32 → Prop
  | 0, _, _, _, _ => False
  | n_ + 1, X, x1, x2, x3 => (((X.1 q 3) ≤ x3 → Q (-9 : Int32) X) ∧ (¬ ((X.1 q 3) ≤ x3) → (vp_in x3 10 ∧ (((X.1 (q + 1) (x3).toNatClampNeg) = x1 → (vp_in x3 10 ∧ ((((X.1 (q + 2) (x3).toNatClampNeg) &&& (x2 ^^^ (-1 : Int32))) = 0 → Q x3 X) ∧ (¬ ((X.1 (q + 2) (x3).toNatClampNeg) &&& (x2 ^^^ (-1 : Int32))) = 0 → wp_X0_firstFor_2 q Q n_ X x1 x2 (x3 + (1 : Int32)))))) ∧ (¬ (X.1 (q + 1) (x3).toNatClampNeg) = x1 → wp_X0_firstFor_2 q Q n_ X x1 x2 (x3 + (1 : Int32)))))))
set_option maxHeartbeats 4000000 in
set_option maxRecDepth 100000 in
theorem tw_X0_firstFor_2 {p : Program} {l : Launch} {e : Env} {s : State} {m : MethodId} {args : Array Value} {below : List Frame} {meth : Method} {c : Code} {E : db_E} (S : CallFix p m c cX0_firstFor 4 s args wsX0_firstFor RX0) (hr : meth.sig.returnType = (some .int)) (hlocks : meth.locks = false) {q : Nat} (hq : db_kBook q) {Q : Int32 → db_St → Prop} : ∀ (n : Nat) (X : db_St) (x1 : Int32) (x2 : Int32) (x3 : Int32) (H : Heap) (locs : List Loc) (ls : Array Slot), wp_X0_firstFor_2 q Q n X x1 x2 x3 → db_HW E (db_Aw E s.heap.size) s X H locs → lv_has ls 4 [(0, .ref (db_ad E q)), (1, .int x1), (2, .int x2), (3, .int x3)] → W p l e rm_X0_firstFor s m args below meth c H locs 0 0 (MQ below (va_Qi Q (db_Po E) (db_Aw E s.heap.size)) args s 0 0 (db_Aw E s.heap.size)) (F0 m 2 ls []) := by
  have hx := S.1
  have hb := S.2.1
  have hiX0 : ∀ w ∈ wsX00, w ∈ wsX0_firstFor := fun w_ h_ => List.mem_cons_of_mem _ (List.mem_append_right _ h_)
  intro n
  induction n with
  | zero =>
    intro X x1 x2 x3 H locs ls h hw hl
    exact False.elim h
  | succ n_ ih =>
    intro X x1 x2 x3 H locs ls h hw hl
    unfold wp_X0_firstFor_2 at h
    refine lv_iload_n hx hb dX0_firstFor_2 rfl (lv_at hl 3 rfl) ?_
    refine lv_aload_n hx hb dX0_firstFor_3 rfl (lv_at hl 0 rfl) ?_
    refine db_geti S hw (db_kBook_l0 hq) (db_kBook_s0 hq) (C := RX0) (T := TX0) (N := 6) rfl hiX0 3 (by decide) rfl (List.mem_of_getElem? (i := 1) rfl) dX0_firstFor_4 ?_
    refine lv_icmp_ge (tgt := 41) hx hb dX0_firstFor_7 (by decide) (fun c5 => ?_) (fun c5 => ?_)
    · have h := h.1 c5
      refine lv_bipush (v := (-9 : Int32)) hx hb dX0_firstFor_41 (by decide) ?_
      exact db_iret S hr hlocks hw h dX0_firstFor_43
    · have h := h.2 c5
      refine lv_aload_n hx hb dX0_firstFor_10 rfl (lv_at hl 0 rfl) ?_
      refine db_getr S hw (db_kBook_l0 hq) (db_kBook_s0 hq) (C := RX0) (T := TX0) (N := 6) rfl hiX0 0 (by decide) (r := (q + 1)) rfl (List.mem_of_getElem? (i := 2) rfl) dX0_firstFor_11 ?_
      refine lv_iload_n hx hb dX0_firstFor_14 rfl (lv_at hl 3 rfl) ?_
      obtain ⟨g1, h⟩ := h
      refine db_iald S hw (db_kBook_l1 hq) (db_kBook_s1 hq) g1 dX0_firstFor_15 ?_
      refine lv_iload_n hx hb dX0_firstFor_16 rfl (lv_at hl 1 rfl) ?_
      refine lv_icmp_ne (tgt := 35) hx hb dX0_firstFor_17 (by decide) (fun c4 => ?_) (fun c4 => ?_)
      · have h := h.2 c4
        refine lv_iinc (v := (x3 + (1 : Int32))) (lv' := [(3, .int (x3 + (1 : Int32))), (0, .ref (db_ad E q)), (1, .int x1), (2, .int x2)]) hx hb dX0_firstFor_35 hl (k := 3) rfl (congrArg (fun z_ => x3 + z_) (show Int32.ofInt (1) = (1 : Int32) by decide)) (by decide) rfl (fun ls hl => ?_)
        refine lv_goto (tgt := 2) hx hb dX0_firstFor_38 (by decide) ?_
        exact ih _ _ _ _ _ _ _ h hw (lv_sub hl [1, 2, 3, 0] rfl)
      · have h := h.1 c4
        refine lv_aload_n hx hb dX0_firstFor_20 rfl (lv_at hl 0 rfl) ?_
        refine db_getr S hw (db_kBook_l0 hq) (db_kBook_s0 hq) (C := RX0) (T := TX0) (N := 6) rfl hiX0 1 (by decide) (r := (q + 2)) rfl (List.mem_of_getElem? (i := 3) rfl) dX0_firstFor_21 ?_
        refine lv_iload_n hx hb dX0_firstFor_24 rfl (lv_at hl 3 rfl) ?_
        obtain ⟨g2, h⟩ := h
        refine db_iald S hw (db_kBook_l2 hq) (db_kBook_s2 hq) g2 dX0_firstFor_25 ?_
        refine lv_iload_n hx hb dX0_firstFor_26 rfl (lv_at hl 2 rfl) ?_
        refine lv_iconst (v := (-1 : Int32)) hx hb dX0_firstFor_27 (by decide) ?_
        refine lv_ixor hx hb dX0_firstFor_28 ?_
        refine lv_iand hx hb dX0_firstFor_29 ?_
        refine lv_if_ne (tgt := 35) hx hb dX0_firstFor_30 (by decide) (fun c3 => ?_) (fun c3 => ?_)
        · have h := h.2 c3
          refine lv_iinc (v := (x3 + (1 : Int32))) (lv' := [(3, .int (x3 + (1 : Int32))), (0, .ref (db_ad E q)), (1, .int x1), (2, .int x2)]) hx hb dX0_firstFor_35 hl (k := 3) rfl (congrArg (fun z_ => x3 + z_) (show Int32.ofInt (1) = (1 : Int32) by decide)) (by decide) rfl (fun ls hl => ?_)
          refine lv_goto (tgt := 2) hx hb dX0_firstFor_38 (by decide) ?_
          exact ih _ _ _ _ _ _ _ h hw (lv_sub hl [1, 2, 3, 0] rfl)
        · have h := h.1 c3
          refine lv_iload_n hx hb dX0_firstFor_33 rfl (lv_at hl 3 rfl) ?_
          exact db_iret S hr hlocks hw h dX0_firstFor_34
def wp_X0_firstFor (q : Nat) (X : db_St) (x1 : Int32) (x2 : Int32) (Q : Int32 → db_St → Prop) : Prop := (∃ f_, wp_X0_firstFor_2 q Q f_ X x1 x2 (0 : Int32))
set_option maxHeartbeats 4000000 in
set_option maxRecDepth 100000 in
theorem ct_X0_firstFor {l : Launch} {E : db_E} {q : Nat} (hq : db_kBook q) {X : db_St} {x1 : Int32} {x2 : Int32} {Q : Int32 → db_St → Prop} (h : wp_X0_firstFor q X x1 x2 Q) : db_MI l E yX0_firstFor wsX0_firstFor rm_X0_firstFor X [.ref (db_ad E q), .int x1, .int x2] Q := by
  intro sz
  unfold wp_X0_firstFor at h
  refine Met.ofW (cc := cX0_firstFor) (maxL := 4) (ret := (some .int)) (by decide) rfl ?_
  intro p e s m args below meth c s₁ B hml hv
  obtain ⟨rfl, hsz, hU⟩ := hv
  subst hsz
  have S : CallFix p m c cX0_firstFor 4 s ([.ref (db_ad E q), .int x1, .int x2] : List Value).toArray wsX0_firstFor RX0 := ⟨B.exec, B.bytes, hml, findClass_of_methodNamed B.named, atoms_spec (ws := wsX0_firstFor) B.pre⟩
  have hx := S.1
  have hb := S.2.1
  have hr := B.returns
  have hlocks := B.notSynchronized
  have hw := db_start hU
  have hiX0 : ∀ w ∈ wsX00, w ∈ wsX0_firstFor := fun w_ h_ => List.mem_cons_of_mem _ (List.mem_append_right _ h_)
  have hl := lv_entry ([.ref (db_ad E q), .int x1, .int x2]) (n := 4) (Nat.le_of_ble_eq_true rfl)
  rw [lg_entry_eq]
  generalize (lg_sl ([.ref (db_ad E q), .int x1, .int x2]) ++ List.replicate (4 - (lg_sl ([.ref (db_ad E q), .int x1, .int x2])).length) Slot.unset).toArray = ls at hl ⊢
  have hl : lv_has ls 4 [(0, .ref (db_ad E q)), (1, .int x1), (2, .int x2)] := hl
  refine lv_iconst (v := (0 : Int32)) hx hb dX0_firstFor_0 (by decide) ?_
  refine lv_istore_n (lv' := [(3, .int (0 : Int32)), (0, .ref (db_ad E q)), (1, .int x1), (2, .int x2)]) hx hb dX0_firstFor_1 rfl hl (by decide) rfl (fun ls hl => ?_)
  obtain ⟨f_, h⟩ := h
  exact tw_X0_firstFor_2 S hr hlocks hq  f_ _ _ _ _ _ _ _ h hw (lv_sub hl [1, 2, 3, 0] rfl)
-- DaysOnBread$Book.has(III)Z
abbrev rm_X0_has : Room := { frames := 0, cells := 0, slots := 0, locals := 0 }
def wp_X0_has_3 (q : Nat) (Q : Int32 → db_St → Prop) : Nat → db_St → Int32 → Int32 → Int32 → Int32 → Prop
  | 0, _, _, _, _, _ => False
  | n_ + 1, X, x1, x2, x3, x4 => (((X.1 q 3) ≤ x4 → Q (0 : Int32) X) ∧ (¬ ((X.1 q 3) ≤ x4) → (vp_in x4 10 ∧ (((X.1 (q + 1) (x4).toNatClampNeg) = x1 → (vp_in x4 10 ∧ (((X.1 (q + 2) (x4).toNatClampNeg) = x2 → (vp_in x4 10 ∧ (((X.1 (q + 3) (x4).toNatClampNeg) = x3 → Q (1 : Int32) X) ∧ (¬ (X.1 (q + 3) (x4).toNatClampNeg) = x3 → wp_X0_has_3 q Q n_ X x1 x2 x3 (x4 + (1 : Int32)))))) ∧ (¬ (X.1 (q + 2) (x4).toNatClampNeg) = x2 → wp_X0_has_3 q Q n_ X x1 x2 x3 (x4 + (1 : Int32)))))) ∧ (¬ (X.1 (q + 1) (x4).toNatClampNeg) = x1 → wp_X0_has_3 q Q n_ X x1 x2 x3 (x4 + (1 : Int32)))))))
set_option maxHeartbeats 4000000 in
set_option maxRecDepth 100000 in
theorem tw_X0_has_3 {p : Program} {l : Launch} {e : Env} {s : State} {m : MethodId} {args : Array Value} {below : List Frame} {meth : Method} {c : Code} {E : db_E} (S : CallFix p m c cX0_has 5 s args wsX0_has RX0) (hr : meth.sig.returnType = (some .boolean)) (hlocks : meth.locks = false) {q : Nat} (hq : db_kBook q) {Q : Int32 → db_St → Prop} : ∀ (n : Nat) (X : db_St) (x1 : Int32) (x2 : Int32) (x3 : Int32) (x4 : Int32) (H : Heap) (locs : List Loc) (ls : Array Slot), wp_X0_has_3 q Q n X x1 x2 x3 x4 → db_HW E (db_Aw E s.heap.size) s X H locs → lv_has ls 5 [(0, .ref (db_ad E q)), (1, .int x1), (2, .int x2), (3, .int x3), (4, .int x4)] → W p l e rm_X0_has s m args below meth c H locs 0 0 (MQ below (va_Qi Q (db_Po E) (db_Aw E s.heap.size)) args s 0 0 (db_Aw E s.heap.size)) (F0 m 3 ls []) := by
  have hx := S.1
  have hb := S.2.1
  have hiX0 : ∀ w ∈ wsX00, w ∈ wsX0_has := fun w_ h_ => List.mem_cons_of_mem _ (List.mem_append_right _ h_)
  intro n
  induction n with
  | zero =>
    intro X x1 x2 x3 x4 H locs ls h hw hl
    exact False.elim h
  | succ n_ ih =>
    intro X x1 x2 x3 x4 H locs ls h hw hl
    unfold wp_X0_has_3 at h
    refine lv_iload hx hb dX0_has_3 (lv_at hl 4 rfl) ?_
    refine lv_aload_n hx hb dX0_has_5 rfl (lv_at hl 0 rfl) ?_
    refine db_geti S hw (db_kBook_l0 hq) (db_kBook_s0 hq) (C := RX0) (T := TX0) (N := 6) rfl hiX0 3 (by decide) rfl (List.mem_of_getElem? (i := 1) rfl) dX0_has_6 ?_
    refine lv_icmp_ge (tgt := 53) hx hb dX0_has_9 (by decide) (fun c7 => ?_) (fun c7 => ?_)
    · have h := h.1 c7
      refine lv_iconst (v := (0 : Int32)) hx hb dX0_has_53 (by decide) ?_
      exact db_zret S hr hlocks rfl hw h dX0_has_54
    · have h := h.2 c7
      refine lv_aload_n hx hb dX0_has_12 rfl (lv_at hl 0 rfl) ?_
      refine db_getr S hw (db_kBook_l0 hq) (db_kBook_s0 hq) (C := RX0) (T := TX0) (N := 6) rfl hiX0 0 (by decide) (r := (q + 1)) rfl (List.mem_of_getElem? (i := 2) rfl) dX0_has_13 ?_
      refine lv_iload hx hb dX0_has_16 (lv_at hl 4 rfl) ?_
      obtain ⟨g1, h⟩ := h
      refine db_iald S hw (db_kBook_l1 hq) (db_kBook_s1 hq) g1 dX0_has_18 ?_
      refine lv_iload_n hx hb dX0_has_19 rfl (lv_at hl 1 rfl) ?_
      refine lv_icmp_ne (tgt := 47) hx hb dX0_has_20 (by decide) (fun c6 => ?_) (fun c6 => ?_)
      · have h := h.2 c6
        refine lv_iinc (v := (x4 + (1 : Int32))) (lv' := [(4, .int (x4 + (1 : Int32))), (0, .ref (db_ad E q)), (1, .int x1), (2, .int x2), (3, .int x3)]) hx hb dX0_has_47 hl (k := 4) rfl (congrArg (fun z_ => x4 + z_) (show Int32.ofInt (1) = (1 : Int32) by decide)) (by decide) rfl (fun ls hl => ?_)
        refine lv_goto (tgt := 3) hx hb dX0_has_50 (by decide) ?_
        exact ih _ _ _ _ _ _ _ _ h hw (lv_sub hl [1, 2, 3, 4, 0] rfl)
      · have h := h.1 c6
        refine lv_aload_n hx hb dX0_has_23 rfl (lv_at hl 0 rfl) ?_
        refine db_getr S hw (db_kBook_l0 hq) (db_kBook_s0 hq) (C := RX0) (T := TX0) (N := 6) rfl hiX0 1 (by decide) (r := (q + 2)) rfl (List.mem_of_getElem? (i := 3) rfl) dX0_has_24 ?_
        refine lv_iload hx hb dX0_has_27 (lv_at hl 4 rfl) ?_
        obtain ⟨g2, h⟩ := h
        refine db_iald S hw (db_kBook_l2 hq) (db_kBook_s2 hq) g2 dX0_has_29 ?_
        refine lv_iload_n hx hb dX0_has_30 rfl (lv_at hl 2 rfl) ?_
        refine lv_icmp_ne (tgt := 47) hx hb dX0_has_31 (by decide) (fun c5 => ?_) (fun c5 => ?_)
        · have h := h.2 c5
          refine lv_iinc (v := (x4 + (1 : Int32))) (lv' := [(4, .int (x4 + (1 : Int32))), (0, .ref (db_ad E q)), (1, .int x1), (2, .int x2), (3, .int x3)]) hx hb dX0_has_47 hl (k := 4) rfl (congrArg (fun z_ => x4 + z_) (show Int32.ofInt (1) = (1 : Int32) by decide)) (by decide) rfl (fun ls hl => ?_)
          refine lv_goto (tgt := 3) hx hb dX0_has_50 (by decide) ?_
          exact ih _ _ _ _ _ _ _ _ h hw (lv_sub hl [1, 2, 3, 4, 0] rfl)
        · have h := h.1 c5
          refine lv_aload_n hx hb dX0_has_34 rfl (lv_at hl 0 rfl) ?_
          refine db_getr S hw (db_kBook_l0 hq) (db_kBook_s0 hq) (C := RX0) (T := TX0) (N := 6) rfl hiX0 2 (by decide) (r := (q + 3)) rfl (List.mem_of_getElem? (i := 4) rfl) dX0_has_35 ?_
          refine lv_iload hx hb dX0_has_38 (lv_at hl 4 rfl) ?_
          obtain ⟨g3, h⟩ := h
          refine db_iald S hw (db_kBook_l3 hq) (db_kBook_s3 hq) g3 dX0_has_40 ?_
          refine lv_iload_n hx hb dX0_has_41 rfl (lv_at hl 3 rfl) ?_
          refine lv_icmp_ne (tgt := 47) hx hb dX0_has_42 (by decide) (fun c4 => ?_) (fun c4 => ?_)
          · have h := h.2 c4
            refine lv_iinc (v := (x4 + (1 : Int32))) (lv' := [(4, .int (x4 + (1 : Int32))), (0, .ref (db_ad E q)), (1, .int x1), (2, .int x2), (3, .int x3)]) hx hb dX0_has_47 hl (k := 4) rfl (congrArg (fun z_ => x4 + z_) (show Int32.ofInt (1) = (1 : Int32) by decide)) (by decide) rfl (fun ls hl => ?_)
            refine lv_goto (tgt := 3) hx hb dX0_has_50 (by decide) ?_
            exact ih _ _ _ _ _ _ _ _ h hw (lv_sub hl [1, 2, 3, 4, 0] rfl)
          · have h := h.1 c4
            refine lv_iconst (v := (1 : Int32)) hx hb dX0_has_45 (by decide) ?_
            exact db_zret S hr hlocks rfl hw h dX0_has_46
def wp_X0_has (q : Nat) (X : db_St) (x1 : Int32) (x2 : Int32) (x3 : Int32) (Q : Int32 → db_St → Prop) : Prop := (∃ f_, wp_X0_has_3 q Q f_ X x1 x2 x3 (0 : Int32))
set_option maxHeartbeats 4000000 in
set_option maxRecDepth 100000 in
theorem ct_X0_has {l : Launch} {E : db_E} {q : Nat} (hq : db_kBook q) {X : db_St} {x1 : Int32} {x2 : Int32} {x3 : Int32} {Q : Int32 → db_St → Prop} (h : wp_X0_has q X x1 x2 x3 Q) : db_MI l E yX0_has wsX0_has rm_X0_has X [.ref (db_ad E q), .int x1, .int x2, .int x3] Q := by
  intro sz
  unfold wp_X0_has at h
  refine Met.ofW (cc := cX0_has) (maxL := 5) (ret := (some .boolean)) (by decide) rfl ?_
  intro p e s m args below meth c s₁ B hml hv
  obtain ⟨rfl, hsz, hU⟩ := hv
  subst hsz
  have S : CallFix p m c cX0_has 5 s ([.ref (db_ad E q), .int x1, .int x2, .int x3] : List Value).toArray wsX0_has RX0 := ⟨B.exec, B.bytes, hml, findClass_of_methodNamed B.named, atoms_spec (ws := wsX0_has) B.pre⟩
  have hx := S.1
  have hb := S.2.1
  have hr := B.returns
  have hlocks := B.notSynchronized
  have hw := db_start hU
  have hiX0 : ∀ w ∈ wsX00, w ∈ wsX0_has := fun w_ h_ => List.mem_cons_of_mem _ (List.mem_append_right _ h_)
  have hl := lv_entry ([.ref (db_ad E q), .int x1, .int x2, .int x3]) (n := 5) (Nat.le_of_ble_eq_true rfl)
  rw [lg_entry_eq]
  generalize (lg_sl ([.ref (db_ad E q), .int x1, .int x2, .int x3]) ++ List.replicate (5 - (lg_sl ([.ref (db_ad E q), .int x1, .int x2, .int x3])).length) Slot.unset).toArray = ls at hl ⊢
  have hl : lv_has ls 5 [(0, .ref (db_ad E q)), (1, .int x1), (2, .int x2), (3, .int x3)] := hl
  refine lv_iconst (v := (0 : Int32)) hx hb dX0_has_0 (by decide) ?_
  refine lv_istore (lv' := [(4, .int (0 : Int32)), (0, .ref (db_ad E q)), (1, .int x1), (2, .int x2), (3, .int x3)]) hx hb dX0_has_1 hl (by decide) rfl (fun ls hl => ?_)
  obtain ⟨f_, h⟩ := h
  exact tw_X0_has_3 S hr hlocks hq  f_ _ _ _ _ _ _ _ _ h hw (lv_sub hl [1, 2, 3, 4, 0] rfl)
-- DaysOnBread$Book.alikeIn(LDaysOnBread$Book;)I
abbrev rm_X0_alikeIn : Room := { frames := 1, cells := 0, slots := 0, locals := 24 }
def wp_X0_alikeIn_4 (q : Nat) (o : Nat) (Q : Int32 → db_St → Prop) : Nat → db_St → Int32 → Int32 → Prop
  | 0, _, _, _ => False
  | n_ + 1, X, x2, x3 => (((X.1 q 3) ≤ x3 → Q x2 X) ∧ (¬ ((X.1 q 3) ≤ x3) → (vp_in x3 10 ∧ (vp_in x3 10 ∧ (vp_in x3 10 ∧ wp_X0_has o X (X.1 (q + 1) (x3).toNatClampNeg) (X.1 (q + 2) (x3).toNatClampNeg) (X.1 (q + 3) (x3).toNatClampNeg) (fun r4 X4 => ((r4 = 0 → wp_X0_alikeIn_4 q o Q n_ X4 x2 (x3 + (1 : Int32))) ∧ (¬ (r4 = 0) → wp_X0_alikeIn_4 q o Q n_ X4 (x2 + (1 : Int32)) (x3 + (1 : Int32))))))))))
set_option maxHeartbeats 4000000 in
set_option maxRecDepth 100000 in
theorem tw_X0_alikeIn_4 {p : Program} {l : Launch} {e : Env} {s : State} {m : MethodId} {args : Array Value} {below : List Frame} {meth : Method} {c : Code} {E : db_E} (S : CallFix p m c cX0_alikeIn 4 s args wsX0_alikeIn RX0) (hr : meth.sig.returnType = (some .int)) (hlocks : meth.locks = false) {q : Nat} (hq : db_kBook q) {o : Nat} (ho : db_kBook o) {Q : Int32 → db_St → Prop} : ∀ (n : Nat) (X : db_St) (x2 : Int32) (x3 : Int32) (H : Heap) (locs : List Loc) (ls : Array Slot), wp_X0_alikeIn_4 q o Q n X x2 x3 → db_HW E (db_Aw E s.heap.size) s X H locs → lv_has ls 4 [(0, .ref (db_ad E q)), (1, .ref (db_ad E o)), (2, .int x2), (3, .int x3)] → W p l e rm_X0_alikeIn s m args below meth c H locs 0 0 (MQ below (va_Qi Q (db_Po E) (db_Aw E s.heap.size)) args s 0 0 (db_Aw E s.heap.size)) (F0 m 4 ls []) := by
  have hx := S.1
  have hb := S.2.1
  have hiX0 : ∀ w ∈ wsX00, w ∈ wsX0_alikeIn := fun w_ h_ => List.mem_cons_of_mem _ (List.mem_append_right _ h_)
  intro n
  induction n with
  | zero =>
    intro X x2 x3 H locs ls h hw hl
    exact False.elim h
  | succ n_ ih =>
    intro X x2 x3 H locs ls h hw hl
    unfold wp_X0_alikeIn_4 at h
    refine lv_iload_n hx hb dX0_alikeIn_4 rfl (lv_at hl 3 rfl) ?_
    refine lv_aload_n hx hb dX0_alikeIn_5 rfl (lv_at hl 0 rfl) ?_
    refine db_geti S hw (db_kBook_l0 hq) (db_kBook_s0 hq) (C := RX0) (T := TX0) (N := 6) rfl hiX0 3 (by decide) rfl (List.mem_of_getElem? (i := 1) rfl) dX0_alikeIn_6 ?_
    refine lv_icmp_ge (tgt := 46) hx hb dX0_alikeIn_9 (by decide) (fun c6 => ?_) (fun c6 => ?_)
    · have h := h.1 c6
      refine lv_iload_n hx hb dX0_alikeIn_46 rfl (lv_at hl 2 rfl) ?_
      exact db_iret S hr hlocks hw h dX0_alikeIn_47
    · have h := h.2 c6
      refine lv_aload_n hx hb dX0_alikeIn_12 rfl (lv_at hl 1 rfl) ?_
      refine lv_aload_n hx hb dX0_alikeIn_13 rfl (lv_at hl 0 rfl) ?_
      refine db_getr S hw (db_kBook_l0 hq) (db_kBook_s0 hq) (C := RX0) (T := TX0) (N := 6) rfl hiX0 0 (by decide) (r := (q + 1)) rfl (List.mem_of_getElem? (i := 2) rfl) dX0_alikeIn_14 ?_
      refine lv_iload_n hx hb dX0_alikeIn_17 rfl (lv_at hl 3 rfl) ?_
      obtain ⟨g1, h⟩ := h
      refine db_iald S hw (db_kBook_l1 hq) (db_kBook_s1 hq) g1 dX0_alikeIn_18 ?_
      refine lv_aload_n hx hb dX0_alikeIn_19 rfl (lv_at hl 0 rfl) ?_
      refine db_getr S hw (db_kBook_l0 hq) (db_kBook_s0 hq) (C := RX0) (T := TX0) (N := 6) rfl hiX0 1 (by decide) (r := (q + 2)) rfl (List.mem_of_getElem? (i := 3) rfl) dX0_alikeIn_20 ?_
      refine lv_iload_n hx hb dX0_alikeIn_23 rfl (lv_at hl 3 rfl) ?_
      obtain ⟨g2, h⟩ := h
      refine db_iald S hw (db_kBook_l2 hq) (db_kBook_s2 hq) g2 dX0_alikeIn_24 ?_
      refine lv_aload_n hx hb dX0_alikeIn_25 rfl (lv_at hl 0 rfl) ?_
      refine db_getr S hw (db_kBook_l0 hq) (db_kBook_s0 hq) (C := RX0) (T := TX0) (N := 6) rfl hiX0 2 (by decide) (r := (q + 3)) rfl (List.mem_of_getElem? (i := 4) rfl) dX0_alikeIn_26 ?_
      refine lv_iload_n hx hb dX0_alikeIn_29 rfl (lv_at hl 3 rfl) ?_
      obtain ⟨g3, h⟩ := h
      refine db_iald S hw (db_kBook_l3 hq) (db_kBook_s3 hq) g3 dX0_alikeIn_30 ?_
      refine db_callVi S hw (db_kBook_l0 ho) (db_kBook_s0 ho) (C := RX0) (T := TX0) (N := 6) (As := [.int (X.1 (q + 1) (x3).toNatClampNeg), .int (X.1 (q + 2) (x3).toNatClampNeg), .int (X.1 (q + 3) (x3).toNatClampNeg)]) rfl (ct_X0_has ho h) gX0_alikeIn_X0_has rfl ⟨rfl, rfl, Nat.le_of_ble_eq_true rfl, Nat.le_of_ble_eq_true rfl⟩ 3 rfl (by decide +kernel) hl.1 rfl (Nat.le_of_ble_eq_true rfl) dX0_alikeIn_31 ⟨Nat.zero_le _, Nat.zero_le _⟩ (fun r4 X4 H locs h hw => ?_)
      refine lv_if_eq (tgt := 40) hx hb dX0_alikeIn_34 (by decide) (fun c5 => ?_) (fun c5 => ?_)
      · have h := h.1 c5
        refine lv_iinc (v := (x3 + (1 : Int32))) (lv' := [(3, .int (x3 + (1 : Int32))), (0, .ref (db_ad E q)), (1, .ref (db_ad E o)), (2, .int x2)]) hx hb dX0_alikeIn_40 hl (k := 3) rfl (congrArg (fun z_ => x3 + z_) (show Int32.ofInt (1) = (1 : Int32) by decide)) (by decide) rfl (fun ls hl => ?_)
        refine lv_goto (tgt := 4) hx hb dX0_alikeIn_43 (by decide) ?_
        exact ih _ _ _ _ _ _ h hw (lv_sub hl [1, 2, 3, 0] rfl)
      · have h := h.2 c5
        refine lv_iinc (v := (x2 + (1 : Int32))) (lv' := [(2, .int (x2 + (1 : Int32))), (0, .ref (db_ad E q)), (1, .ref (db_ad E o)), (3, .int x3)]) hx hb dX0_alikeIn_37 hl (k := 2) rfl (congrArg (fun z_ => x2 + z_) (show Int32.ofInt (1) = (1 : Int32) by decide)) (by decide) rfl (fun ls hl => ?_)
        refine lv_iinc (v := (x3 + (1 : Int32))) (lv' := [(3, .int (x3 + (1 : Int32))), (2, .int (x2 + (1 : Int32))), (0, .ref (db_ad E q)), (1, .ref (db_ad E o))]) hx hb dX0_alikeIn_40 hl (k := 3) rfl (congrArg (fun z_ => x3 + z_) (show Int32.ofInt (1) = (1 : Int32) by decide)) (by decide) rfl (fun ls hl => ?_)
        refine lv_goto (tgt := 4) hx hb dX0_alikeIn_43 (by decide) ?_
        exact ih _ _ _ _ _ _ h hw (lv_sub hl [2, 3, 1, 0] rfl)
def wp_X0_alikeIn (q : Nat) (o : Nat) (X : db_St)  (Q : Int32 → db_St → Prop) : Prop := (∃ f_, wp_X0_alikeIn_4 q o Q f_ X (0 : Int32) (0 : Int32))
set_option maxHeartbeats 4000000 in
set_option maxRecDepth 100000 in
theorem ct_X0_alikeIn {l : Launch} {E : db_E} {q : Nat} (hq : db_kBook q) {o : Nat} (ho : db_kBook o) {X : db_St}  {Q : Int32 → db_St → Prop} (h : wp_X0_alikeIn q o X  Q) : db_MI l E yX0_alikeIn wsX0_alikeIn rm_X0_alikeIn X [.ref (db_ad E q), .ref (db_ad E o)] Q := by
  intro sz
  unfold wp_X0_alikeIn at h
  refine Met.ofW (cc := cX0_alikeIn) (maxL := 4) (ret := (some .int)) (by decide) rfl ?_
  intro p e s m args below meth c s₁ B hml hv
  obtain ⟨rfl, hsz, hU⟩ := hv
  subst hsz
  have S : CallFix p m c cX0_alikeIn 4 s ([.ref (db_ad E q), .ref (db_ad E o)] : List Value).toArray wsX0_alikeIn RX0 := ⟨B.exec, B.bytes, hml, findClass_of_methodNamed B.named, atoms_spec (ws := wsX0_alikeIn) B.pre⟩
  have hx := S.1
  have hb := S.2.1
  have hr := B.returns
  have hlocks := B.notSynchronized
  have hw := db_start hU
  have hiX0 : ∀ w ∈ wsX00, w ∈ wsX0_alikeIn := fun w_ h_ => List.mem_cons_of_mem _ (List.mem_append_right _ h_)
  have hl := lv_entry ([.ref (db_ad E q), .ref (db_ad E o)]) (n := 4) (Nat.le_of_ble_eq_true rfl)
  rw [lg_entry_eq]
  generalize (lg_sl ([.ref (db_ad E q), .ref (db_ad E o)]) ++ List.replicate (4 - (lg_sl ([.ref (db_ad E q), .ref (db_ad E o)])).length) Slot.unset).toArray = ls at hl ⊢
  have hl : lv_has ls 4 [(0, .ref (db_ad E q)), (1, .ref (db_ad E o))] := hl
  refine lv_iconst (v := (0 : Int32)) hx hb dX0_alikeIn_0 (by decide) ?_
  refine lv_istore_n (lv' := [(2, .int (0 : Int32)), (0, .ref (db_ad E q)), (1, .ref (db_ad E o))]) hx hb dX0_alikeIn_1 rfl hl (by decide) rfl (fun ls hl => ?_)
  refine lv_iconst (v := (0 : Int32)) hx hb dX0_alikeIn_2 (by decide) ?_
  refine lv_istore_n (lv' := [(3, .int (0 : Int32)), (2, .int (0 : Int32)), (0, .ref (db_ad E q)), (1, .ref (db_ad E o))]) hx hb dX0_alikeIn_3 rfl hl (by decide) rfl (fun ls hl => ?_)
  obtain ⟨f_, h⟩ := h
  exact tw_X0_alikeIn_4 S hr hlocks hq ho  f_ _ _ _ _ _ _ h hw (lv_sub hl [2, 3, 1, 0] rfl)
-- DaysOnBread$Book.copyFrom(LDaysOnBread$Book;)V
abbrev rm_X0_copyFrom : Room := { frames := 1, cells := 0, slots := 0, locals := 60 }
def wp_X0_copyFrom (q : Nat) (o : Nat) (X : db_St)  (Q : db_St → Prop) : Prop := (((¬ (0 : Int32) < 0 ∧ ¬ (0 : Int32) < 0 ∧ ¬ (10 : Int32) < 0) ∧ ((0 : Int32)).toNatClampNeg + ((10 : Int32)).toNatClampNeg ≤ 10 ∧ ((0 : Int32)).toNatClampNeg + ((10 : Int32)).toNatClampNeg ≤ 10) ∧ (∀ X2, X2 = (db_sa X (q + 1) (va_cpy (X.1 (o + 1)) (X.1 (q + 1)) ((0 : Int32)).toNatClampNeg ((0 : Int32)).toNatClampNeg ((10 : Int32)).toNatClampNeg)) → (((¬ (0 : Int32) < 0 ∧ ¬ (0 : Int32) < 0 ∧ ¬ (10 : Int32) < 0) ∧ ((0 : Int32)).toNatClampNeg + ((10 : Int32)).toNatClampNeg ≤ 10 ∧ ((0 : Int32)).toNatClampNeg + ((10 : Int32)).toNatClampNeg ≤ 10) ∧ (∀ X4, X4 = (db_sa X2 (q + 2) (va_cpy (X2.1 (o + 2)) (X2.1 (q + 2)) ((0 : Int32)).toNatClampNeg ((0 : Int32)).toNatClampNeg ((10 : Int32)).toNatClampNeg)) → (((¬ (0 : Int32) < 0 ∧ ¬ (0 : Int32) < 0 ∧ ¬ (10 : Int32) < 0) ∧ ((0 : Int32)).toNatClampNeg + ((10 : Int32)).toNatClampNeg ≤ 10 ∧ ((0 : Int32)).toNatClampNeg + ((10 : Int32)).toNatClampNeg ≤ 10) ∧ (∀ X6, X6 = (db_sa X4 (q + 3) (va_cpy (X4.1 (o + 3)) (X4.1 (q + 3)) ((0 : Int32)).toNatClampNeg ((0 : Int32)).toNatClampNeg ((10 : Int32)).toNatClampNeg)) → (∀ X7, X7 = (db_si X6 q 3 (X6.1 o 3)) → (∀ X8, X8 = (db_si X7 q 4 (X7.1 o 4)) → (∀ X9, X9 = (db_si X8 q 5 (X8.1 o 5)) → Q X9)))))))))
set_option maxHeartbeats 4000000 in
set_option maxRecDepth 100000 in
theorem ct_X0_copyFrom {l : Launch} {E : db_E} {q : Nat} (hq : db_kBook q) {o : Nat} (ho : db_kBook o) {X : db_St}  {Q : db_St → Prop} (h : wp_X0_copyFrom q o X  Q) : db_MV l E yX0_copyFrom wsX0_copyFrom rm_X0_copyFrom X [.ref (db_ad E q), .ref (db_ad E o)] Q := by
  intro sz
  unfold wp_X0_copyFrom at h
  refine Met.ofW (cc := cX0_copyFrom) (maxL := 2) (ret := none) (by decide) rfl ?_
  intro p e s m args below meth c s₁ B hml hv
  obtain ⟨rfl, hsz, hU⟩ := hv
  subst hsz
  have S : CallFix p m c cX0_copyFrom 2 s ([.ref (db_ad E q), .ref (db_ad E o)] : List Value).toArray wsX0_copyFrom RX0 := ⟨B.exec, B.bytes, hml, findClass_of_methodNamed B.named, atoms_spec (ws := wsX0_copyFrom) B.pre⟩
  have hx := S.1
  have hb := S.2.1
  have hr := B.returns
  have hlocks := B.notSynchronized
  have hw := db_start hU
  have hiX0 : ∀ w ∈ wsX00, w ∈ wsX0_copyFrom := fun w_ h_ => List.mem_cons_of_mem _ (List.mem_append_right _ h_)
  have hl := lv_entry ([.ref (db_ad E q), .ref (db_ad E o)]) (n := 2) (Nat.le_of_ble_eq_true rfl)
  rw [lg_entry_eq]
  generalize (lg_sl ([.ref (db_ad E q), .ref (db_ad E o)]) ++ List.replicate (2 - (lg_sl ([.ref (db_ad E q), .ref (db_ad E o)])).length) Slot.unset).toArray = ls at hl ⊢
  have hl : lv_has ls 2 [(0, .ref (db_ad E q)), (1, .ref (db_ad E o))] := hl
  refine lv_aload_n hx hb dX0_copyFrom_0 rfl (lv_at hl 1 rfl) ?_
  refine db_getr S hw (db_kBook_l0 ho) (db_kBook_s0 ho) (C := RX0) (T := TX0) (N := 6) rfl hiX0 0 (by decide) (r := (o + 1)) rfl (List.mem_of_getElem? (i := 1) rfl) dX0_copyFrom_1 ?_
  refine lv_iconst (v := (0 : Int32)) hx hb dX0_copyFrom_4 (by decide) ?_
  refine lv_aload_n hx hb dX0_copyFrom_5 rfl (lv_at hl 0 rfl) ?_
  refine db_getr S hw (db_kBook_l0 hq) (db_kBook_s0 hq) (C := RX0) (T := TX0) (N := 6) rfl hiX0 0 (by decide) (r := (q + 1)) rfl (List.mem_of_getElem? (i := 1) rfl) dX0_copyFrom_6 ?_
  refine lv_iconst (v := (0 : Int32)) hx hb dX0_copyFrom_9 (by decide) ?_
  refine lv_bipush (v := (10 : Int32)) hx hb dX0_copyFrom_10 (by decide) ?_
  obtain ⟨g1, h⟩ := h
  refine db_copy S hw hl.1 (db_kBook_l1 ho) (db_kBook_s1 ho) (db_kBook_l1 hq) (db_kBook_s1 hq) (List.mem_of_getElem? (i := 2) rfl) (List.mem_of_getElem? (i := 3) rfl) (List.mem_of_getElem? (i := 4) rfl) (List.mem_of_getElem? (i := 5) rfl) g1 ⟨Nat.le_of_ble_eq_true rfl, Nat.le_of_ble_eq_true rfl⟩ dX0_copyFrom_12 (fun H locs hw => ?_)
  obtain ⟨X2, e2, hw⟩ : ∃ Z_, Z_ = (db_sa X (q + 1) (va_cpy (X.1 (o + 1)) (X.1 (q + 1)) ((0 : Int32)).toNatClampNeg ((0 : Int32)).toNatClampNeg ((10 : Int32)).toNatClampNeg)) ∧ db_HW E (db_Aw E s.heap.size) s Z_ H locs := ⟨_, rfl, hw⟩
  have h := h X2 e2
  refine lv_aload_n hx hb dX0_copyFrom_15 rfl (lv_at hl 1 rfl) ?_
  refine db_getr S hw (db_kBook_l0 ho) (db_kBook_s0 ho) (C := RX0) (T := TX0) (N := 6) rfl hiX0 1 (by decide) (r := (o + 2)) rfl (List.mem_of_getElem? (i := 6) rfl) dX0_copyFrom_16 ?_
  refine lv_iconst (v := (0 : Int32)) hx hb dX0_copyFrom_19 (by decide) ?_
  refine lv_aload_n hx hb dX0_copyFrom_20 rfl (lv_at hl 0 rfl) ?_
  refine db_getr S hw (db_kBook_l0 hq) (db_kBook_s0 hq) (C := RX0) (T := TX0) (N := 6) rfl hiX0 1 (by decide) (r := (q + 2)) rfl (List.mem_of_getElem? (i := 6) rfl) dX0_copyFrom_21 ?_
  refine lv_iconst (v := (0 : Int32)) hx hb dX0_copyFrom_24 (by decide) ?_
  refine lv_bipush (v := (10 : Int32)) hx hb dX0_copyFrom_25 (by decide) ?_
  obtain ⟨g3, h⟩ := h
  refine db_copy S hw hl.1 (db_kBook_l2 ho) (db_kBook_s2 ho) (db_kBook_l2 hq) (db_kBook_s2 hq) (List.mem_of_getElem? (i := 2) rfl) (List.mem_of_getElem? (i := 3) rfl) (List.mem_of_getElem? (i := 4) rfl) (List.mem_of_getElem? (i := 5) rfl) g3 ⟨Nat.le_of_ble_eq_true rfl, Nat.le_of_ble_eq_true rfl⟩ dX0_copyFrom_27 (fun H locs hw => ?_)
  obtain ⟨X4, e4, hw⟩ : ∃ Z_, Z_ = (db_sa X2 (q + 2) (va_cpy (X2.1 (o + 2)) (X2.1 (q + 2)) ((0 : Int32)).toNatClampNeg ((0 : Int32)).toNatClampNeg ((10 : Int32)).toNatClampNeg)) ∧ db_HW E (db_Aw E s.heap.size) s Z_ H locs := ⟨_, rfl, hw⟩
  have h := h X4 e4
  refine lv_aload_n hx hb dX0_copyFrom_30 rfl (lv_at hl 1 rfl) ?_
  refine db_getr S hw (db_kBook_l0 ho) (db_kBook_s0 ho) (C := RX0) (T := TX0) (N := 6) rfl hiX0 2 (by decide) (r := (o + 3)) rfl (List.mem_of_getElem? (i := 7) rfl) dX0_copyFrom_31 ?_
  refine lv_iconst (v := (0 : Int32)) hx hb dX0_copyFrom_34 (by decide) ?_
  refine lv_aload_n hx hb dX0_copyFrom_35 rfl (lv_at hl 0 rfl) ?_
  refine db_getr S hw (db_kBook_l0 hq) (db_kBook_s0 hq) (C := RX0) (T := TX0) (N := 6) rfl hiX0 2 (by decide) (r := (q + 3)) rfl (List.mem_of_getElem? (i := 7) rfl) dX0_copyFrom_36 ?_
  refine lv_iconst (v := (0 : Int32)) hx hb dX0_copyFrom_39 (by decide) ?_
  refine lv_bipush (v := (10 : Int32)) hx hb dX0_copyFrom_40 (by decide) ?_
  obtain ⟨g5, h⟩ := h
  refine db_copy S hw hl.1 (db_kBook_l3 ho) (db_kBook_s3 ho) (db_kBook_l3 hq) (db_kBook_s3 hq) (List.mem_of_getElem? (i := 2) rfl) (List.mem_of_getElem? (i := 3) rfl) (List.mem_of_getElem? (i := 4) rfl) (List.mem_of_getElem? (i := 5) rfl) g5 ⟨Nat.le_of_ble_eq_true rfl, Nat.le_of_ble_eq_true rfl⟩ dX0_copyFrom_42 (fun H locs hw => ?_)
  obtain ⟨X6, e6, hw⟩ : ∃ Z_, Z_ = (db_sa X4 (q + 3) (va_cpy (X4.1 (o + 3)) (X4.1 (q + 3)) ((0 : Int32)).toNatClampNeg ((0 : Int32)).toNatClampNeg ((10 : Int32)).toNatClampNeg)) ∧ db_HW E (db_Aw E s.heap.size) s Z_ H locs := ⟨_, rfl, hw⟩
  have h := h X6 e6
  refine lv_aload_n hx hb dX0_copyFrom_45 rfl (lv_at hl 0 rfl) ?_
  refine lv_aload_n hx hb dX0_copyFrom_46 rfl (lv_at hl 1 rfl) ?_
  refine db_geti S hw (db_kBook_l0 ho) (db_kBook_s0 ho) (C := RX0) (T := TX0) (N := 6) rfl hiX0 3 (by decide) rfl (List.mem_of_getElem? (i := 8) rfl) dX0_copyFrom_47 ?_
  refine db_puti S hw (db_kBook_l0 hq) (db_kBook_s0 hq) (C := RX0) (T := TX0) (N := 6) rfl hiX0 tyX0_ok nmX0 3 (by decide) rfl (List.mem_of_getElem? (i := 8) rfl) rfl ⟨rfl, rfl⟩ dX0_copyFrom_50 (fun H locs hw => ?_)
  obtain ⟨X7, e7, hw⟩ : ∃ Z_, Z_ = (db_si X6 q 3 (X6.1 o 3)) ∧ db_HW E (db_Aw E s.heap.size) s Z_ H locs := ⟨_, rfl, hw⟩
  have h := h X7 e7
  refine lv_aload_n hx hb dX0_copyFrom_53 rfl (lv_at hl 0 rfl) ?_
  refine lv_aload_n hx hb dX0_copyFrom_54 rfl (lv_at hl 1 rfl) ?_
  refine db_geti S hw (db_kBook_l0 ho) (db_kBook_s0 ho) (C := RX0) (T := TX0) (N := 6) rfl hiX0 4 (by decide) rfl (List.mem_of_getElem? (i := 9) rfl) dX0_copyFrom_55 ?_
  refine db_puti S hw (db_kBook_l0 hq) (db_kBook_s0 hq) (C := RX0) (T := TX0) (N := 6) rfl hiX0 tyX0_ok nmX0 4 (by decide) rfl (List.mem_of_getElem? (i := 9) rfl) rfl ⟨rfl, rfl⟩ dX0_copyFrom_58 (fun H locs hw => ?_)
  obtain ⟨X8, e8, hw⟩ : ∃ Z_, Z_ = (db_si X7 q 4 (X7.1 o 4)) ∧ db_HW E (db_Aw E s.heap.size) s Z_ H locs := ⟨_, rfl, hw⟩
  have h := h X8 e8
  refine lv_aload_n hx hb dX0_copyFrom_61 rfl (lv_at hl 0 rfl) ?_
  refine lv_aload_n hx hb dX0_copyFrom_62 rfl (lv_at hl 1 rfl) ?_
  refine db_geti S hw (db_kBook_l0 ho) (db_kBook_s0 ho) (C := RX0) (T := TX0) (N := 6) rfl hiX0 5 (by decide) rfl (List.mem_of_getElem? (i := 10) rfl) dX0_copyFrom_63 ?_
  refine db_puti S hw (db_kBook_l0 hq) (db_kBook_s0 hq) (C := RX0) (T := TX0) (N := 6) rfl hiX0 tyX0_ok nmX0 5 (by decide) rfl (List.mem_of_getElem? (i := 10) rfl) rfl ⟨rfl, rfl⟩ dX0_copyFrom_66 (fun H locs hw => ?_)
  obtain ⟨X9, e9, hw⟩ : ∃ Z_, Z_ = (db_si X8 q 5 (X8.1 o 5)) ∧ db_HW E (db_Aw E s.heap.size) s Z_ H locs := ⟨_, rfl, hw⟩
  have h := h X9 e9
  exact db_vret S hr hlocks hw h dX0_copyFrom_69
-- DaysOnBread$Payings.number(II)I
abbrev rm_X4_number : Room := { frames := 0, cells := 0, slots := 0, locals := 0 }
def wp_X4_number  (X : db_St) (x1 : Int32) (x2 : Int32) (Q : Int32 → db_St → Prop) : Prop := ((((x1 * (4 : Int32)) + x2) < 0 → Q (0 : Int32) X) ∧ (¬ (((x1 * (4 : Int32)) + x2) < 0) → (((24 : Int32) ≤ ((x1 * (4 : Int32)) + x2) → Q (0 : Int32) X) ∧ (¬ ((24 : Int32) ≤ ((x1 * (4 : Int32)) + x2)) → (vp_in ((x1 * (4 : Int32)) + x2) 24 ∧ Q (X.1 37 (((x1 * (4 : Int32)) + x2)).toNatClampNeg) X)))))
set_option maxHeartbeats 4000000 in
set_option maxRecDepth 100000 in
theorem ct_X4_number {l : Launch} {E : db_E}  {X : db_St} {x1 : Int32} {x2 : Int32} {Q : Int32 → db_St → Prop} (h : wp_X4_number  X x1 x2 Q) : db_MI l E yX4_number wsX4_number rm_X4_number X [.ref (db_ad E 36), .int x1, .int x2] Q := by
  intro sz
  unfold wp_X4_number at h
  refine Met.ofW (cc := cX4_number) (maxL := 4) (ret := (some .int)) (by decide) rfl ?_
  intro p e s m args below meth c s₁ B hml hv
  obtain ⟨rfl, hsz, hU⟩ := hv
  subst hsz
  have S : CallFix p m c cX4_number 4 s ([.ref (db_ad E 36), .int x1, .int x2] : List Value).toArray wsX4_number RX4 := ⟨B.exec, B.bytes, hml, findClass_of_methodNamed B.named, atoms_spec (ws := wsX4_number) B.pre⟩
  have hx := S.1
  have hb := S.2.1
  have hr := B.returns
  have hlocks := B.notSynchronized
  have hw := db_start hU
  have hiX4 : ∀ w ∈ wsX40, w ∈ wsX4_number := fun w_ h_ => List.mem_cons_of_mem _ (List.mem_append_right _ h_)
  have hl := lv_entry ([.ref (db_ad E 36), .int x1, .int x2]) (n := 4) (Nat.le_of_ble_eq_true rfl)
  rw [lg_entry_eq]
  generalize (lg_sl ([.ref (db_ad E 36), .int x1, .int x2]) ++ List.replicate (4 - (lg_sl ([.ref (db_ad E 36), .int x1, .int x2])).length) Slot.unset).toArray = ls at hl ⊢
  have hl : lv_has ls 4 [(0, .ref (db_ad E 36)), (1, .int x1), (2, .int x2)] := hl
  refine lv_iload_n hx hb dX4_number_0 rfl (lv_at hl 1 rfl) ?_
  refine lv_iconst (v := (4 : Int32)) hx hb dX4_number_1 (by decide) ?_
  refine lv_imul hx hb dX4_number_2 ?_
  refine lv_iload_n hx hb dX4_number_3 rfl (lv_at hl 2 rfl) ?_
  refine lv_iadd hx hb dX4_number_4 ?_
  refine lv_istore_n (lv' := [(3, .int ((x1 * (4 : Int32)) + x2)), (0, .ref (db_ad E 36)), (1, .int x1), (2, .int x2)]) hx hb dX4_number_5 rfl hl (by decide) rfl (fun ls hl => ?_)
  refine lv_iload_n hx hb dX4_number_6 rfl (lv_at hl 0 rfl) ?_
  refine lv_if_lt (tgt := 28) hx hb dX4_number_7 (by decide) (fun c3 => ?_) (fun c3 => ?_)
  · have h := h.1 c3
    refine lv_iconst (v := (0 : Int32)) hx hb dX4_number_28 (by decide) ?_
    exact db_iret S hr hlocks hw h dX4_number_29
  · have h := h.2 c3
    refine lv_iload_n hx hb dX4_number_10 rfl (lv_at hl 0 rfl) ?_
    refine lv_aload_n hx hb dX4_number_11 rfl (lv_at hl 1 rfl) ?_
    refine db_getr S hw (Nat.le_of_ble_eq_true rfl) db_s36 (C := RX4) (T := TX4) (N := 3) rfl hiX4 0 (by decide) (r := 37) rfl (List.mem_of_getElem? (i := 1) rfl) dX4_number_12 ?_
    refine db_alen (v := (24 : Int32)) S hw (Nat.le_of_ble_eq_true rfl) db_s37 (by decide) (by decide) (by decide) dX4_number_15 ?_
    refine lv_icmp_ge (tgt := 28) hx hb dX4_number_16 (by decide) (fun c2 => ?_) (fun c2 => ?_)
    · have h := h.1 c2
      refine lv_iconst (v := (0 : Int32)) hx hb dX4_number_28 (by decide) ?_
      exact db_iret S hr hlocks hw h dX4_number_29
    · have h := h.2 c2
      refine lv_aload_n hx hb dX4_number_19 rfl (lv_at hl 1 rfl) ?_
      refine db_getr S hw (Nat.le_of_ble_eq_true rfl) db_s36 (C := RX4) (T := TX4) (N := 3) rfl hiX4 0 (by decide) (r := 37) rfl (List.mem_of_getElem? (i := 1) rfl) dX4_number_20 ?_
      refine lv_iload_n hx hb dX4_number_23 rfl (lv_at hl 0 rfl) ?_
      obtain ⟨g1, h⟩ := h
      refine db_iald S hw (Nat.le_of_ble_eq_true rfl) db_s37 g1 dX4_number_24 ?_
      refine lv_goto (tgt := 29) hx hb dX4_number_25 (by decide) ?_
      exact db_iret S hr hlocks hw h dX4_number_29
-- DaysOnBread$Payings.inADay(II)I
abbrev rm_X4_inADay : Room := { frames := 1, cells := 0, slots := 0, locals := 23 }
def wp_X4_inADay  (X : db_St) (x1 : Int32) (x2 : Int32) (Q : Int32 → db_St → Prop) : Prop := wp_X4_number X x1 (2 : Int32) (fun r1 X1 => ((x1 = (4 : Int32) → Q (x2 * (r1 + (1 : Int32))) X1) ∧ (¬ x1 = (4 : Int32) → Q r1 X1)))
set_option maxHeartbeats 4000000 in
set_option maxRecDepth 100000 in
theorem ct_X4_inADay {l : Launch} {E : db_E}  {X : db_St} {x1 : Int32} {x2 : Int32} {Q : Int32 → db_St → Prop} (h : wp_X4_inADay  X x1 x2 Q) : db_MI l E yX4_inADay wsX4_inADay rm_X4_inADay X [.ref (db_ad E 36), .int x1, .int x2] Q := by
  intro sz
  unfold wp_X4_inADay at h
  refine Met.ofW (cc := cX4_inADay) (maxL := 4) (ret := (some .int)) (by decide) rfl ?_
  intro p e s m args below meth c s₁ B hml hv
  obtain ⟨rfl, hsz, hU⟩ := hv
  subst hsz
  have S : CallFix p m c cX4_inADay 4 s ([.ref (db_ad E 36), .int x1, .int x2] : List Value).toArray wsX4_inADay RX4 := ⟨B.exec, B.bytes, hml, findClass_of_methodNamed B.named, atoms_spec (ws := wsX4_inADay) B.pre⟩
  have hx := S.1
  have hb := S.2.1
  have hr := B.returns
  have hlocks := B.notSynchronized
  have hw := db_start hU
  have hl := lv_entry ([.ref (db_ad E 36), .int x1, .int x2]) (n := 4) (Nat.le_of_ble_eq_true rfl)
  rw [lg_entry_eq]
  generalize (lg_sl ([.ref (db_ad E 36), .int x1, .int x2]) ++ List.replicate (4 - (lg_sl ([.ref (db_ad E 36), .int x1, .int x2])).length) Slot.unset).toArray = ls at hl ⊢
  have hl : lv_has ls 4 [(0, .ref (db_ad E 36)), (1, .int x1), (2, .int x2)] := hl
  refine lv_aload_n hx hb dX4_inADay_0 rfl (lv_at hl 0 rfl) ?_
  refine lv_iload_n hx hb dX4_inADay_1 rfl (lv_at hl 1 rfl) ?_
  refine lv_iconst (v := (2 : Int32)) hx hb dX4_inADay_2 (by decide) ?_
  refine db_callVi S hw (Nat.le_of_ble_eq_true rfl) db_s36 (C := RX4) (T := TX4) (N := 3) (As := [.int x1, .int (2 : Int32)]) rfl (ct_X4_number  h) gX4_inADay_X4_number rfl ⟨rfl, rfl, Nat.le_of_ble_eq_true rfl, Nat.le_of_ble_eq_true rfl⟩ 2 rfl (by decide +kernel) hl.1 rfl (Nat.le_of_ble_eq_true rfl) dX4_inADay_3 ⟨Nat.zero_le _, Nat.zero_le _⟩ (fun r1 X1 H locs h hw => ?_)
  refine lv_istore_n (lv' := [(3, .int r1), (0, .ref (db_ad E 36)), (1, .int x1), (2, .int x2)]) hx hb dX4_inADay_6 rfl hl (by decide) rfl (fun ls hl => ?_)
  refine lv_iload_n hx hb dX4_inADay_7 rfl (lv_at hl 2 rfl) ?_
  refine lv_iconst (v := (4 : Int32)) hx hb dX4_inADay_8 (by decide) ?_
  refine lv_icmp_ne (tgt := 20) hx hb dX4_inADay_9 (by decide) (fun c2 => ?_) (fun c2 => ?_)
  · have h := h.2 c2
    refine lv_iload_n hx hb dX4_inADay_20 rfl (lv_at hl 0 rfl) ?_
    exact db_iret S hr hlocks hw h dX4_inADay_21
  · have h := h.1 c2
    refine lv_iload_n hx hb dX4_inADay_12 rfl (lv_at hl 3 rfl) ?_
    refine lv_iload_n hx hb dX4_inADay_13 rfl (lv_at hl 0 rfl) ?_
    refine lv_iconst (v := (1 : Int32)) hx hb dX4_inADay_14 (by decide) ?_
    refine lv_iadd hx hb dX4_inADay_15 ?_
    refine lv_imul hx hb dX4_inADay_16 ?_
    refine lv_goto (tgt := 21) hx hb dX4_inADay_17 (by decide) ?_
    exact db_iret S hr hlocks hw h dX4_inADay_21
-- DaysOnBread$Payings.isFeast(I)Z
abbrev rm_X4_isFeast : Room := { frames := 0, cells := 0, slots := 0, locals := 0 }
def wp_X4_isFeast  (X : db_St) (x1 : Int32) (Q : Int32 → db_St → Prop) : Prop := ((((db_ushr (X.1 36 1) (x1 - x1 / (28 : Int32) * (28 : Int32))) &&& (1 : Int32)) = (1 : Int32) → Q (1 : Int32) X) ∧ (¬ ((db_ushr (X.1 36 1) (x1 - x1 / (28 : Int32) * (28 : Int32))) &&& (1 : Int32)) = (1 : Int32) → Q (0 : Int32) X))
set_option maxHeartbeats 4000000 in
set_option maxRecDepth 100000 in
theorem ct_X4_isFeast {l : Launch} {E : db_E}  {X : db_St} {x1 : Int32} {Q : Int32 → db_St → Prop} (h : wp_X4_isFeast  X x1 Q) : db_MI l E yX4_isFeast wsX4_isFeast rm_X4_isFeast X [.ref (db_ad E 36), .int x1] Q := by
  intro sz
  unfold wp_X4_isFeast at h
  refine Met.ofW (cc := cX4_isFeast) (maxL := 2) (ret := (some .boolean)) (by decide) rfl ?_
  intro p e s m args below meth c s₁ B hml hv
  obtain ⟨rfl, hsz, hU⟩ := hv
  subst hsz
  have S : CallFix p m c cX4_isFeast 2 s ([.ref (db_ad E 36), .int x1] : List Value).toArray wsX4_isFeast RX4 := ⟨B.exec, B.bytes, hml, findClass_of_methodNamed B.named, atoms_spec (ws := wsX4_isFeast) B.pre⟩
  have hx := S.1
  have hb := S.2.1
  have hr := B.returns
  have hlocks := B.notSynchronized
  have hw := db_start hU
  have hiX4 : ∀ w ∈ wsX40, w ∈ wsX4_isFeast := fun w_ h_ => List.mem_cons_of_mem _ (List.mem_append_right _ h_)
  have hl := lv_entry ([.ref (db_ad E 36), .int x1]) (n := 2) (Nat.le_of_ble_eq_true rfl)
  rw [lg_entry_eq]
  generalize (lg_sl ([.ref (db_ad E 36), .int x1]) ++ List.replicate (2 - (lg_sl ([.ref (db_ad E 36), .int x1])).length) Slot.unset).toArray = ls at hl ⊢
  have hl : lv_has ls 2 [(0, .ref (db_ad E 36)), (1, .int x1)] := hl
  refine lv_aload_n hx hb dX4_isFeast_0 rfl (lv_at hl 0 rfl) ?_
  refine db_geti S hw (Nat.le_of_ble_eq_true rfl) db_s36 (C := RX4) (T := TX4) (N := 3) rfl hiX4 1 (by decide) rfl (List.mem_of_getElem? (i := 1) rfl) dX4_isFeast_1 ?_
  refine lv_iload_n hx hb dX4_isFeast_4 rfl (lv_at hl 1 rfl) ?_
  refine lv_bipush (v := (28 : Int32)) hx hb dX4_isFeast_5 (by decide) ?_
  refine lv_irem hx hb dX4_isFeast_7 (by decide) ?_
  refine lv_iushr (v := (db_ushr (X.1 36 1) (x1 - x1 / (28 : Int32) * (28 : Int32)))) hx hb dX4_isFeast_8 rfl ?_
  refine lv_iconst (v := (1 : Int32)) hx hb dX4_isFeast_9 (by decide) ?_
  refine lv_iand hx hb dX4_isFeast_10 ?_
  refine lv_iconst (v := (1 : Int32)) hx hb dX4_isFeast_11 (by decide) ?_
  refine lv_icmp_ne (tgt := 19) hx hb dX4_isFeast_12 (by decide) (fun c1 => ?_) (fun c1 => ?_)
  · have h := h.2 c1
    refine lv_iconst (v := (0 : Int32)) hx hb dX4_isFeast_19 (by decide) ?_
    exact db_zret S hr hlocks rfl hw h dX4_isFeast_20
  · have h := h.1 c1
    refine lv_iconst (v := (1 : Int32)) hx hb dX4_isFeast_15 (by decide) ?_
    refine lv_goto (tgt := 20) hx hb dX4_isFeast_16 (by decide) ?_
    exact db_zret S hr hlocks rfl hw h dX4_isFeast_20
-- DaysOnBread$Payings.daysWithoutFeast(I)I
abbrev rm_X4_daysWithoutFeast : Room := { frames := 1, cells := 0, slots := 0, locals := 21 }
def wp_X4_daysWithoutFeast_4 (Q : Int32 → db_St → Prop) : Nat → db_St → Int32 → Int32 → Int32 → Prop
  | 0, _, _, _, _ => False
  | n_ + 1, X, x1, x2, x3 => ((x1 ≤ x3 → Q x2 X) ∧ (¬ (x1 ≤ x3) → wp_X4_isFeast X x3 (fun r1 X1 => ((r1 = 0 → wp_X4_daysWithoutFeast_4 Q n_ X1 x1 (x2 + (1 : Int32)) (x3 + (1 : Int32))) ∧ (¬ r1 = 0 → wp_X4_daysWithoutFeast_4 Q n_ X1 x1 x2 (x3 + (1 : Int32)))))))
set_option maxHeartbeats 4000000 in
set_option maxRecDepth 100000 in
theorem tw_X4_daysWithoutFeast_4 {p : Program} {l : Launch} {e : Env} {s : State} {m : MethodId} {args : Array Value} {below : List Frame} {meth : Method} {c : Code} {E : db_E} (S : CallFix p m c cX4_daysWithoutFeast 4 s args wsX4_daysWithoutFeast RX4) (hr : meth.sig.returnType = (some .int)) (hlocks : meth.locks = false)  {Q : Int32 → db_St → Prop} : ∀ (n : Nat) (X : db_St) (x1 : Int32) (x2 : Int32) (x3 : Int32) (H : Heap) (locs : List Loc) (ls : Array Slot), wp_X4_daysWithoutFeast_4 Q n X x1 x2 x3 → db_HW E (db_Aw E s.heap.size) s X H locs → lv_has ls 4 [(0, .ref (db_ad E 36)), (1, .int x1), (2, .int x2), (3, .int x3)] → W p l e rm_X4_daysWithoutFeast s m args below meth c H locs 0 0 (MQ below (va_Qi Q (db_Po E) (db_Aw E s.heap.size)) args s 0 0 (db_Aw E s.heap.size)) (F0 m 4 ls []) := by
  have hx := S.1
  have hb := S.2.1
  intro n
  induction n with
  | zero =>
    intro X x1 x2 x3 H locs ls h hw hl
    exact False.elim h
  | succ n_ ih =>
    intro X x1 x2 x3 H locs ls h hw hl
    unfold wp_X4_daysWithoutFeast_4 at h
    refine lv_iload_n hx hb dX4_daysWithoutFeast_4 rfl (lv_at hl 3 rfl) ?_
    refine lv_iload_n hx hb dX4_daysWithoutFeast_5 rfl (lv_at hl 1 rfl) ?_
    refine lv_icmp_ge (tgt := 26) hx hb dX4_daysWithoutFeast_6 (by decide) (fun c3 => ?_) (fun c3 => ?_)
    · have h := h.1 c3
      refine lv_iload_n hx hb dX4_daysWithoutFeast_26 rfl (lv_at hl 2 rfl) ?_
      exact db_iret S hr hlocks hw h dX4_daysWithoutFeast_27
    · have h := h.2 c3
      refine lv_aload_n hx hb dX4_daysWithoutFeast_9 rfl (lv_at hl 0 rfl) ?_
      refine lv_iload_n hx hb dX4_daysWithoutFeast_10 rfl (lv_at hl 3 rfl) ?_
      refine db_callVi S hw (Nat.le_of_ble_eq_true rfl) db_s36 (C := RX4) (T := TX4) (N := 3) (As := [.int x3]) rfl (ct_X4_isFeast  h) gX4_daysWithoutFeast_X4_isFeast rfl ⟨rfl, rfl, Nat.le_of_ble_eq_true rfl, Nat.le_of_ble_eq_true rfl⟩ 1 rfl (by decide +kernel) hl.1 rfl (Nat.le_of_ble_eq_true rfl) dX4_daysWithoutFeast_11 ⟨Nat.zero_le _, Nat.zero_le _⟩ (fun r1 X1 H locs h hw => ?_)
      refine lv_if_ne (tgt := 20) hx hb dX4_daysWithoutFeast_14 (by decide) (fun c2 => ?_) (fun c2 => ?_)
      · have h := h.2 c2
        refine lv_iinc (v := (x3 + (1 : Int32))) (lv' := [(3, .int (x3 + (1 : Int32))), (0, .ref (db_ad E 36)), (1, .int x1), (2, .int x2)]) hx hb dX4_daysWithoutFeast_20 hl (k := 3) rfl (congrArg (fun z_ => x3 + z_) (show Int32.ofInt (1) = (1 : Int32) by decide)) (by decide) rfl (fun ls hl => ?_)
        refine lv_goto (tgt := 4) hx hb dX4_daysWithoutFeast_23 (by decide) ?_
        exact ih _ _ _ _ _ _ _ h hw (lv_sub hl [1, 2, 3, 0] rfl)
      · have h := h.1 c2
        refine lv_iinc (v := (x2 + (1 : Int32))) (lv' := [(2, .int (x2 + (1 : Int32))), (0, .ref (db_ad E 36)), (1, .int x1), (3, .int x3)]) hx hb dX4_daysWithoutFeast_17 hl (k := 2) rfl (congrArg (fun z_ => x2 + z_) (show Int32.ofInt (1) = (1 : Int32) by decide)) (by decide) rfl (fun ls hl => ?_)
        refine lv_iinc (v := (x3 + (1 : Int32))) (lv' := [(3, .int (x3 + (1 : Int32))), (2, .int (x2 + (1 : Int32))), (0, .ref (db_ad E 36)), (1, .int x1)]) hx hb dX4_daysWithoutFeast_20 hl (k := 3) rfl (congrArg (fun z_ => x3 + z_) (show Int32.ofInt (1) = (1 : Int32) by decide)) (by decide) rfl (fun ls hl => ?_)
        refine lv_goto (tgt := 4) hx hb dX4_daysWithoutFeast_23 (by decide) ?_
        exact ih _ _ _ _ _ _ _ h hw (lv_sub hl [2, 3, 1, 0] rfl)
def wp_X4_daysWithoutFeast  (X : db_St) (x1 : Int32) (Q : Int32 → db_St → Prop) : Prop := (∃ f_, wp_X4_daysWithoutFeast_4 Q f_ X x1 (0 : Int32) (0 : Int32))
set_option maxHeartbeats 4000000 in
set_option maxRecDepth 100000 in
theorem ct_X4_daysWithoutFeast {l : Launch} {E : db_E}  {X : db_St} {x1 : Int32} {Q : Int32 → db_St → Prop} (h : wp_X4_daysWithoutFeast  X x1 Q) : db_MI l E yX4_daysWithoutFeast wsX4_daysWithoutFeast rm_X4_daysWithoutFeast X [.ref (db_ad E 36), .int x1] Q := by
  intro sz
  unfold wp_X4_daysWithoutFeast at h
  refine Met.ofW (cc := cX4_daysWithoutFeast) (maxL := 4) (ret := (some .int)) (by decide) rfl ?_
  intro p e s m args below meth c s₁ B hml hv
  obtain ⟨rfl, hsz, hU⟩ := hv
  subst hsz
  have S : CallFix p m c cX4_daysWithoutFeast 4 s ([.ref (db_ad E 36), .int x1] : List Value).toArray wsX4_daysWithoutFeast RX4 := ⟨B.exec, B.bytes, hml, findClass_of_methodNamed B.named, atoms_spec (ws := wsX4_daysWithoutFeast) B.pre⟩
  have hx := S.1
  have hb := S.2.1
  have hr := B.returns
  have hlocks := B.notSynchronized
  have hw := db_start hU
  have hl := lv_entry ([.ref (db_ad E 36), .int x1]) (n := 4) (Nat.le_of_ble_eq_true rfl)
  rw [lg_entry_eq]
  generalize (lg_sl ([.ref (db_ad E 36), .int x1]) ++ List.replicate (4 - (lg_sl ([.ref (db_ad E 36), .int x1])).length) Slot.unset).toArray = ls at hl ⊢
  have hl : lv_has ls 4 [(0, .ref (db_ad E 36)), (1, .int x1)] := hl
  refine lv_iconst (v := (0 : Int32)) hx hb dX4_daysWithoutFeast_0 (by decide) ?_
  refine lv_istore_n (lv' := [(2, .int (0 : Int32)), (0, .ref (db_ad E 36)), (1, .int x1)]) hx hb dX4_daysWithoutFeast_1 rfl hl (by decide) rfl (fun ls hl => ?_)
  refine lv_iconst (v := (0 : Int32)) hx hb dX4_daysWithoutFeast_2 (by decide) ?_
  refine lv_istore_n (lv' := [(3, .int (0 : Int32)), (2, .int (0 : Int32)), (0, .ref (db_ad E 36)), (1, .int x1)]) hx hb dX4_daysWithoutFeast_3 rfl hl (by decide) rfl (fun ls hl => ?_)
  obtain ⟨f_, h⟩ := h
  exact tw_X4_daysWithoutFeast_4 S hr hlocks   f_ _ _ _ _ _ _ _ h hw (lv_sub hl [2, 3, 1, 0] rfl)
-- DaysOnBread$Payings.openDays(II)I
abbrev rm_X4_openDays : Room := { frames := 2, cells := 0, slots := 0, locals := 44 }
def wp_X4_openDays  (X : db_St) (x1 : Int32) (x2 : Int32) (Q : Int32 → db_St → Prop) : Prop := ((x1 = (3 : Int32) → Q ((x2 + (1 : Int32)) / (2 : Int32)) X) ∧ (¬ x1 = (3 : Int32) → ((x1 = 0 → wp_X4_daysWithoutFeast X x2 (fun r1 X1 => Q r1 X1)) ∧ (¬ (x1 = 0) → ((x1 = (5 : Int32) → wp_X4_daysWithoutFeast X x2 (fun r2 X2 => Q r2 X2)) ∧ (¬ x1 = (5 : Int32) → Q x2 X))))))
set_option maxHeartbeats 4000000 in
set_option maxRecDepth 100000 in
theorem ct_X4_openDays {l : Launch} {E : db_E}  {X : db_St} {x1 : Int32} {x2 : Int32} {Q : Int32 → db_St → Prop} (h : wp_X4_openDays  X x1 x2 Q) : db_MI l E yX4_openDays wsX4_openDays rm_X4_openDays X [.ref (db_ad E 36), .int x1, .int x2] Q := by
  intro sz
  unfold wp_X4_openDays at h
  refine Met.ofW (cc := cX4_openDays) (maxL := 3) (ret := (some .int)) (by decide) rfl ?_
  intro p e s m args below meth c s₁ B hml hv
  obtain ⟨rfl, hsz, hU⟩ := hv
  subst hsz
  have S : CallFix p m c cX4_openDays 3 s ([.ref (db_ad E 36), .int x1, .int x2] : List Value).toArray wsX4_openDays RX4 := ⟨B.exec, B.bytes, hml, findClass_of_methodNamed B.named, atoms_spec (ws := wsX4_openDays) B.pre⟩
  have hx := S.1
  have hb := S.2.1
  have hr := B.returns
  have hlocks := B.notSynchronized
  have hw := db_start hU
  have hl := lv_entry ([.ref (db_ad E 36), .int x1, .int x2]) (n := 3) (Nat.le_of_ble_eq_true rfl)
  rw [lg_entry_eq]
  generalize (lg_sl ([.ref (db_ad E 36), .int x1, .int x2]) ++ List.replicate (3 - (lg_sl ([.ref (db_ad E 36), .int x1, .int x2])).length) Slot.unset).toArray = ls at hl ⊢
  have hl : lv_has ls 3 [(0, .ref (db_ad E 36)), (1, .int x1), (2, .int x2)] := hl
  refine lv_iload_n hx hb dX4_openDays_0 rfl (lv_at hl 1 rfl) ?_
  refine lv_iconst (v := (3 : Int32)) hx hb dX4_openDays_1 (by decide) ?_
  refine lv_icmp_ne (tgt := 11) hx hb dX4_openDays_2 (by decide) (fun c5 => ?_) (fun c5 => ?_)
  · have h := h.2 c5
    refine lv_iload_n hx hb dX4_openDays_11 rfl (lv_at hl 1 rfl) ?_
    refine lv_if_eq (tgt := 20) hx hb dX4_openDays_12 (by decide) (fun c4 => ?_) (fun c4 => ?_)
    · have h := h.1 c4
      refine lv_aload_n hx hb dX4_openDays_20 rfl (lv_at hl 0 rfl) ?_
      refine lv_iload_n hx hb dX4_openDays_21 rfl (lv_at hl 2 rfl) ?_
      refine db_callVi S hw (Nat.le_of_ble_eq_true rfl) db_s36 (C := RX4) (T := TX4) (N := 3) (As := [.int x2]) rfl (ct_X4_daysWithoutFeast  h) gX4_openDays_X4_daysWithoutFeast rfl ⟨rfl, rfl, Nat.le_of_ble_eq_true rfl, Nat.le_of_ble_eq_true rfl⟩ 1 rfl (by decide +kernel) hl.1 rfl (Nat.le_of_ble_eq_true rfl) dX4_openDays_22 ⟨Nat.zero_le _, Nat.zero_le _⟩ (fun r1 X1 H locs h hw => ?_)
      refine lv_goto (tgt := 29) hx hb dX4_openDays_25 (by decide) ?_
      exact db_iret S hr hlocks hw h dX4_openDays_29
    · have h := h.2 c4
      refine lv_iload_n hx hb dX4_openDays_15 rfl (lv_at hl 1 rfl) ?_
      refine lv_iconst (v := (5 : Int32)) hx hb dX4_openDays_16 (by decide) ?_
      refine lv_icmp_ne (tgt := 28) hx hb dX4_openDays_17 (by decide) (fun c3 => ?_) (fun c3 => ?_)
      · have h := h.2 c3
        refine lv_iload_n hx hb dX4_openDays_28 rfl (lv_at hl 2 rfl) ?_
        exact db_iret S hr hlocks hw h dX4_openDays_29
      · have h := h.1 c3
        refine lv_aload_n hx hb dX4_openDays_20 rfl (lv_at hl 0 rfl) ?_
        refine lv_iload_n hx hb dX4_openDays_21 rfl (lv_at hl 2 rfl) ?_
        refine db_callVi S hw (Nat.le_of_ble_eq_true rfl) db_s36 (C := RX4) (T := TX4) (N := 3) (As := [.int x2]) rfl (ct_X4_daysWithoutFeast  h) gX4_openDays_X4_daysWithoutFeast rfl ⟨rfl, rfl, Nat.le_of_ble_eq_true rfl, Nat.le_of_ble_eq_true rfl⟩ 1 rfl (by decide +kernel) hl.1 rfl (Nat.le_of_ble_eq_true rfl) dX4_openDays_22 ⟨Nat.zero_le _, Nat.zero_le _⟩ (fun r2 X2 H locs h hw => ?_)
        refine lv_goto (tgt := 29) hx hb dX4_openDays_25 (by decide) ?_
        exact db_iret S hr hlocks hw h dX4_openDays_29
  · have h := h.1 c5
    refine lv_iload_n hx hb dX4_openDays_5 rfl (lv_at hl 2 rfl) ?_
    refine lv_iconst (v := (1 : Int32)) hx hb dX4_openDays_6 (by decide) ?_
    refine lv_iadd hx hb dX4_openDays_7 ?_
    refine lv_iconst (v := (2 : Int32)) hx hb dX4_openDays_8 (by decide) ?_
    refine lv_idiv hx hb dX4_openDays_9 (by decide) ?_
    exact db_iret S hr hlocks hw h dX4_openDays_10
-- DaysOnBread$Payings.unitsAtMost(III)I
abbrev rm_X4_unitsAtMost : Room := { frames := 3, cells := 0, slots := 0, locals := 66 }
def wp_X4_unitsAtMost  (X : db_St) (x1 : Int32) (x2 : Int32) (x3 : Int32) (Q : Int32 → db_St → Prop) : Prop := wp_X4_inADay X x1 x3 (fun r1 X1 => wp_X4_openDays X1 x1 x2 (fun r2 X2 => wp_X4_number X2 x1 (3 : Int32) (fun r3 X3 => (∀ z4, z4 = (if (r1 * r2) < r3 then (r1 * r2) else r3) → Q z4 X3))))
set_option maxHeartbeats 4000000 in
set_option maxRecDepth 100000 in
theorem ct_X4_unitsAtMost {l : Launch} {E : db_E}  {X : db_St} {x1 : Int32} {x2 : Int32} {x3 : Int32} {Q : Int32 → db_St → Prop} (h : wp_X4_unitsAtMost  X x1 x2 x3 Q) : db_MI l E yX4_unitsAtMost wsX4_unitsAtMost rm_X4_unitsAtMost X [.ref (db_ad E 36), .int x1, .int x2, .int x3] Q := by
  intro sz
  unfold wp_X4_unitsAtMost at h
  refine Met.ofW (cc := cX4_unitsAtMost) (maxL := 5) (ret := (some .int)) (by decide) rfl ?_
  intro p e s m args below meth c s₁ B hml hv
  obtain ⟨rfl, hsz, hU⟩ := hv
  subst hsz
  have S : CallFix p m c cX4_unitsAtMost 5 s ([.ref (db_ad E 36), .int x1, .int x2, .int x3] : List Value).toArray wsX4_unitsAtMost RX4 := ⟨B.exec, B.bytes, hml, findClass_of_methodNamed B.named, atoms_spec (ws := wsX4_unitsAtMost) B.pre⟩
  have hx := S.1
  have hb := S.2.1
  have hr := B.returns
  have hlocks := B.notSynchronized
  have hw := db_start hU
  have hl := lv_entry ([.ref (db_ad E 36), .int x1, .int x2, .int x3]) (n := 5) (Nat.le_of_ble_eq_true rfl)
  rw [lg_entry_eq]
  generalize (lg_sl ([.ref (db_ad E 36), .int x1, .int x2, .int x3]) ++ List.replicate (5 - (lg_sl ([.ref (db_ad E 36), .int x1, .int x2, .int x3])).length) Slot.unset).toArray = ls at hl ⊢
  have hl : lv_has ls 5 [(0, .ref (db_ad E 36)), (1, .int x1), (2, .int x2), (3, .int x3)] := hl
  refine lv_aload_n hx hb dX4_unitsAtMost_0 rfl (lv_at hl 0 rfl) ?_
  refine lv_iload_n hx hb dX4_unitsAtMost_1 rfl (lv_at hl 1 rfl) ?_
  refine lv_iload_n hx hb dX4_unitsAtMost_2 rfl (lv_at hl 3 rfl) ?_
  refine db_callVi S hw (Nat.le_of_ble_eq_true rfl) db_s36 (C := RX4) (T := TX4) (N := 3) (As := [.int x1, .int x3]) rfl (ct_X4_inADay  h) gX4_unitsAtMost_X4_inADay rfl ⟨rfl, rfl, Nat.le_of_ble_eq_true rfl, Nat.le_of_ble_eq_true rfl⟩ 2 rfl (by decide +kernel) hl.1 rfl (Nat.le_of_ble_eq_true rfl) dX4_unitsAtMost_3 ⟨Nat.zero_le _, Nat.zero_le _⟩ (fun r1 X1 H locs h hw => ?_)
  refine lv_aload_n hx hb dX4_unitsAtMost_6 rfl (lv_at hl 0 rfl) ?_
  refine lv_iload_n hx hb dX4_unitsAtMost_7 rfl (lv_at hl 1 rfl) ?_
  refine lv_iload_n hx hb dX4_unitsAtMost_8 rfl (lv_at hl 2 rfl) ?_
  refine db_callVi S hw (Nat.le_of_ble_eq_true rfl) db_s36 (C := RX4) (T := TX4) (N := 3) (As := [.int x1, .int x2]) rfl (ct_X4_openDays  h) gX4_unitsAtMost_X4_openDays rfl ⟨rfl, rfl, Nat.le_of_ble_eq_true rfl, Nat.le_of_ble_eq_true rfl⟩ 2 rfl (by decide +kernel) hl.1 rfl (Nat.le_of_ble_eq_true rfl) dX4_unitsAtMost_9 ⟨Nat.zero_le _, Nat.zero_le _⟩ (fun r2 X2 H locs h hw => ?_)
  refine lv_imul hx hb dX4_unitsAtMost_12 ?_
  refine lv_istore (lv' := [(4, .int (r1 * r2)), (0, .ref (db_ad E 36)), (1, .int x1), (2, .int x2), (3, .int x3)]) hx hb dX4_unitsAtMost_13 hl (by decide) rfl (fun ls hl => ?_)
  refine lv_aload_n hx hb dX4_unitsAtMost_15 rfl (lv_at hl 1 rfl) ?_
  refine lv_iload_n hx hb dX4_unitsAtMost_16 rfl (lv_at hl 2 rfl) ?_
  refine lv_iconst (v := (3 : Int32)) hx hb dX4_unitsAtMost_17 (by decide) ?_
  refine db_callVi S hw (Nat.le_of_ble_eq_true rfl) db_s36 (C := RX4) (T := TX4) (N := 3) (As := [.int x1, .int (3 : Int32)]) rfl (ct_X4_number  h) gX4_unitsAtMost_X4_number rfl ⟨rfl, rfl, Nat.le_of_ble_eq_true rfl, Nat.le_of_ble_eq_true rfl⟩ 2 rfl (by decide +kernel) hl.1 rfl (Nat.le_of_ble_eq_true rfl) dX4_unitsAtMost_18 ⟨Nat.zero_le _, Nat.zero_le _⟩ (fun r3 X3 H locs h hw => ?_)
  refine lv_iload hx hb dX4_unitsAtMost_21 (lv_at hl 0 rfl) ?_
  refine db_min S hl.1 (List.mem_of_getElem? (i := 1) rfl) (List.mem_of_getElem? (i := 2) rfl) (List.mem_of_getElem? (i := 3) rfl) (List.mem_of_getElem? (i := 4) rfl) ⟨Nat.le_of_ble_eq_true rfl, Nat.le_of_ble_eq_true rfl⟩ ⟨Nat.zero_le _, Nat.zero_le _⟩ dX4_unitsAtMost_23 ?_
  refine lv_topi (fun z4 e4 => ?_)
  have h := h z4 e4
  exact db_iret S hr hlocks hw h dX4_unitsAtMost_26
-- DaysOnBread$Bytes.size()I
abbrev rm_X2_size : Room := { frames := 0, cells := 0, slots := 0, locals := 0 }
def wp_X2_size (q len : Nat) (X : db_St)  (Q : Int32 → db_St → Prop) : Prop := Q (X.1 q 1) X
set_option maxHeartbeats 4000000 in
set_option maxRecDepth 100000 in
theorem ct_X2_size {l : Launch} {E : db_E} {q len : Nat} (hq : db_kBytes q len) {X : db_St}  {Q : Int32 → db_St → Prop} (h : wp_X2_size q len X  Q) : db_MI l E yX2_size wsX2_size rm_X2_size X [.ref (db_ad E q)] Q := by
  intro sz
  unfold wp_X2_size at h
  refine Met.ofW (cc := cX2_size) (maxL := 1) (ret := (some .int)) (by decide) rfl ?_
  intro p e s m args below meth c s₁ B hml hv
  obtain ⟨rfl, hsz, hU⟩ := hv
  subst hsz
  have S : CallFix p m c cX2_size 1 s ([.ref (db_ad E q)] : List Value).toArray wsX2_size RX2 := ⟨B.exec, B.bytes, hml, findClass_of_methodNamed B.named, atoms_spec (ws := wsX2_size) B.pre⟩
  have hx := S.1
  have hb := S.2.1
  have hr := B.returns
  have hlocks := B.notSynchronized
  have hw := db_start hU
  have hiX2 : ∀ w ∈ wsX20, w ∈ wsX2_size := fun w_ h_ => List.mem_cons_of_mem _ (List.mem_append_right _ h_)
  have hl := lv_entry ([.ref (db_ad E q)]) (n := 1) (Nat.le_of_ble_eq_true rfl)
  rw [lg_entry_eq]
  generalize (lg_sl ([.ref (db_ad E q)]) ++ List.replicate (1 - (lg_sl ([.ref (db_ad E q)])).length) Slot.unset).toArray = ls at hl ⊢
  have hl : lv_has ls 1 [(0, .ref (db_ad E q))] := hl
  refine lv_aload_n hx hb dX2_size_0 rfl (lv_at hl 0 rfl) ?_
  refine db_geti S hw (db_kBytes_l0 hq) (db_kBytes_s0 hq) (C := RX2) (T := TX2) (N := 2) rfl hiX2 1 (by decide) rfl (List.mem_of_getElem? (i := 1) rfl) dX2_size_1 ?_
  exact db_iret S hr hlocks hw h dX2_size_4
-- DaysOnBread$Bytes.room()I
abbrev rm_X2_room : Room := { frames := 0, cells := 0, slots := 0, locals := 0 }
def wp_X2_room (q len : Nat) (X : db_St)  (Q : Int32 → db_St → Prop) : Prop := Q ((Int32.ofNat len) - (X.1 q 1)) X
set_option maxHeartbeats 4000000 in
set_option maxRecDepth 100000 in
theorem ct_X2_room {l : Launch} {E : db_E} {q len : Nat} (hq : db_kBytes q len) {X : db_St}  {Q : Int32 → db_St → Prop} (h : wp_X2_room q len X  Q) : db_MI l E yX2_room wsX2_room rm_X2_room X [.ref (db_ad E q)] Q := by
  intro sz
  unfold wp_X2_room at h
  refine Met.ofW (cc := cX2_room) (maxL := 1) (ret := (some .int)) (by decide) rfl ?_
  intro p e s m args below meth c s₁ B hml hv
  obtain ⟨rfl, hsz, hU⟩ := hv
  subst hsz
  have S : CallFix p m c cX2_room 1 s ([.ref (db_ad E q)] : List Value).toArray wsX2_room RX2 := ⟨B.exec, B.bytes, hml, findClass_of_methodNamed B.named, atoms_spec (ws := wsX2_room) B.pre⟩
  have hx := S.1
  have hb := S.2.1
  have hr := B.returns
  have hlocks := B.notSynchronized
  have hw := db_start hU
  have hiX2 : ∀ w ∈ wsX20, w ∈ wsX2_room := fun w_ h_ => List.mem_cons_of_mem _ (List.mem_append_right _ h_)
  have hl := lv_entry ([.ref (db_ad E q)]) (n := 1) (Nat.le_of_ble_eq_true rfl)
  rw [lg_entry_eq]
  generalize (lg_sl ([.ref (db_ad E q)]) ++ List.replicate (1 - (lg_sl ([.ref (db_ad E q)])).length) Slot.unset).toArray = ls at hl ⊢
  have hl : lv_has ls 1 [(0, .ref (db_ad E q))] := hl
  refine lv_aload_n hx hb dX2_room_0 rfl (lv_at hl 0 rfl) ?_
  refine db_getr S hw (db_kBytes_l0 hq) (db_kBytes_s0 hq) (C := RX2) (T := TX2) (N := 2) rfl hiX2 0 (by decide) (r := (q + 1)) rfl (List.mem_of_getElem? (i := 1) rfl) dX2_room_1 ?_
  refine db_alen (v := (Int32.ofNat len)) S hw (db_kBytes_l1 hq) (db_kBytes_s1 hq) (by decide) (by decide) rfl dX2_room_4 ?_
  refine lv_aload_n hx hb dX2_room_5 rfl (lv_at hl 0 rfl) ?_
  refine db_geti S hw (db_kBytes_l0 hq) (db_kBytes_s0 hq) (C := RX2) (T := TX2) (N := 2) rfl hiX2 1 (by decide) rfl (List.mem_of_getElem? (i := 2) rfl) dX2_room_6 ?_
  refine lv_isub hx hb dX2_room_9 ?_
  exact db_iret S hr hlocks hw h dX2_room_10
-- DaysOnBread$Bytes.add(B)V
abbrev rm_X2_add : Room := { frames := 0, cells := 0, slots := 0, locals := 0 }
def wp_X2_add (q len : Nat) (X : db_St) (x1 : Int32) (Q : db_St → Prop) : Prop := (((Int32.ofNat len) ≤ (X.1 q 1) → Q X) ∧ (¬ ((Int32.ofNat len) ≤ (X.1 q 1)) → (vp_in (X.1 q 1) len ∧ (∀ X2, X2 = (db_si X (q + 1) ((X.1 q 1)).toNatClampNeg (vp_nar .byte x1)) → (∀ X3, X3 = (db_si X2 q 1 ((X2.1 q 1) + (1 : Int32))) → Q X3)))))
set_option maxHeartbeats 4000000 in
set_option maxRecDepth 100000 in
theorem ct_X2_add {l : Launch} {E : db_E} {q len : Nat} (hq : db_kBytes q len) {X : db_St} {x1 : Int32} {Q : db_St → Prop} (h : wp_X2_add q len X x1 Q) : db_MV l E yX2_add wsX2_add rm_X2_add X [.ref (db_ad E q), .int x1] Q := by
  intro sz
  unfold wp_X2_add at h
  refine Met.ofW (cc := cX2_add) (maxL := 2) (ret := none) (by decide) rfl ?_
  intro p e s m args below meth c s₁ B hml hv
  obtain ⟨rfl, hsz, hU⟩ := hv
  subst hsz
  have S : CallFix p m c cX2_add 2 s ([.ref (db_ad E q), .int x1] : List Value).toArray wsX2_add RX2 := ⟨B.exec, B.bytes, hml, findClass_of_methodNamed B.named, atoms_spec (ws := wsX2_add) B.pre⟩
  have hx := S.1
  have hb := S.2.1
  have hr := B.returns
  have hlocks := B.notSynchronized
  have hw := db_start hU
  have hiX2 : ∀ w ∈ wsX20, w ∈ wsX2_add := fun w_ h_ => List.mem_cons_of_mem _ (List.mem_append_right _ h_)
  have hl := lv_entry ([.ref (db_ad E q), .int x1]) (n := 2) (Nat.le_of_ble_eq_true rfl)
  rw [lg_entry_eq]
  generalize (lg_sl ([.ref (db_ad E q), .int x1]) ++ List.replicate (2 - (lg_sl ([.ref (db_ad E q), .int x1])).length) Slot.unset).toArray = ls at hl ⊢
  have hl : lv_has ls 2 [(0, .ref (db_ad E q)), (1, .int x1)] := hl
  refine lv_aload_n hx hb dX2_add_0 rfl (lv_at hl 0 rfl) ?_
  refine db_geti S hw (db_kBytes_l0 hq) (db_kBytes_s0 hq) (C := RX2) (T := TX2) (N := 2) rfl hiX2 1 (by decide) rfl (List.mem_of_getElem? (i := 1) rfl) dX2_add_1 ?_
  refine lv_aload_n hx hb dX2_add_4 rfl (lv_at hl 0 rfl) ?_
  refine db_getr S hw (db_kBytes_l0 hq) (db_kBytes_s0 hq) (C := RX2) (T := TX2) (N := 2) rfl hiX2 0 (by decide) (r := (q + 1)) rfl (List.mem_of_getElem? (i := 2) rfl) dX2_add_5 ?_
  refine db_alen (v := (Int32.ofNat len)) S hw (db_kBytes_l1 hq) (db_kBytes_s1 hq) (by decide) (by decide) rfl dX2_add_8 ?_
  refine lv_icmp_ge (tgt := 32) hx hb dX2_add_9 (by decide) (fun c4 => ?_) (fun c4 => ?_)
  · have h := h.1 c4
    exact db_vret S hr hlocks hw h dX2_add_32
  · have h := h.2 c4
    refine lv_aload_n hx hb dX2_add_12 rfl (lv_at hl 0 rfl) ?_
    refine db_getr S hw (db_kBytes_l0 hq) (db_kBytes_s0 hq) (C := RX2) (T := TX2) (N := 2) rfl hiX2 0 (by decide) (r := (q + 1)) rfl (List.mem_of_getElem? (i := 2) rfl) dX2_add_13 ?_
    refine lv_aload_n hx hb dX2_add_16 rfl (lv_at hl 0 rfl) ?_
    refine db_geti S hw (db_kBytes_l0 hq) (db_kBytes_s0 hq) (C := RX2) (T := TX2) (N := 2) rfl hiX2 1 (by decide) rfl (List.mem_of_getElem? (i := 1) rfl) dX2_add_17 ?_
    refine lv_iload_n hx hb dX2_add_20 rfl (lv_at hl 1 rfl) ?_
    obtain ⟨g1, h⟩ := h
    refine db_bast S hw (db_kBytes_l1 hq) (db_kBytes_s1 hq) g1 dX2_add_21 (fun H locs hw => ?_)
    obtain ⟨X2, e2, hw⟩ : ∃ Z_, Z_ = (db_si X (q + 1) ((X.1 q 1)).toNatClampNeg (vp_nar .byte x1)) ∧ db_HW E (db_Aw E s.heap.size) s Z_ H locs := ⟨_, rfl, hw⟩
    have h := h X2 e2
    refine lv_aload_n hx hb dX2_add_22 rfl (lv_at hl 0 rfl) ?_
    refine lv_dup hx hb dX2_add_23 rfl ?_
    refine db_geti S hw (db_kBytes_l0 hq) (db_kBytes_s0 hq) (C := RX2) (T := TX2) (N := 2) rfl hiX2 1 (by decide) rfl (List.mem_of_getElem? (i := 1) rfl) dX2_add_24 ?_
    refine lv_iconst (v := (1 : Int32)) hx hb dX2_add_27 (by decide) ?_
    refine lv_iadd hx hb dX2_add_28 ?_
    refine db_puti S hw (db_kBytes_l0 hq) (db_kBytes_s0 hq) (C := RX2) (T := TX2) (N := 2) rfl hiX2 tyX2_ok nmX2 1 (by decide) rfl (List.mem_of_getElem? (i := 1) rfl) rfl ⟨rfl, rfl⟩ dX2_add_29 (fun H locs hw => ?_)
    obtain ⟨X3, e3, hw⟩ : ∃ Z_, Z_ = (db_si X2 q 1 ((X2.1 q 1) + (1 : Int32))) ∧ db_HW E (db_Aw E s.heap.size) s Z_ H locs := ⟨_, rfl, hw⟩
    have h := h X3 e3
    exact db_vret S hr hlocks hw h dX2_add_32
-- DaysOnBread$Bytes.at(I)I
abbrev rm_X2_at : Room := { frames := 0, cells := 0, slots := 0, locals := 0 }
def wp_X2_at (q len : Nat) (X : db_St) (x1 : Int32) (Q : Int32 → db_St → Prop) : Prop := ((x1 < 0 → Q (-1 : Int32) X) ∧ (¬ (x1 < 0) → (((X.1 q 1) ≤ x1 → Q (-1 : Int32) X) ∧ (¬ ((X.1 q 1) ≤ x1) → (vp_in x1 len ∧ Q (X.1 (q + 1) (x1).toNatClampNeg) X)))))
set_option maxHeartbeats 4000000 in
set_option maxRecDepth 100000 in
theorem ct_X2_at {l : Launch} {E : db_E} {q len : Nat} (hq : db_kBytes q len) {X : db_St} {x1 : Int32} {Q : Int32 → db_St → Prop} (h : wp_X2_at q len X x1 Q) : db_MI l E yX2_at wsX2_at rm_X2_at X [.ref (db_ad E q), .int x1] Q := by
  intro sz
  unfold wp_X2_at at h
  refine Met.ofW (cc := cX2_at) (maxL := 2) (ret := (some .int)) (by decide) rfl ?_
  intro p e s m args below meth c s₁ B hml hv
  obtain ⟨rfl, hsz, hU⟩ := hv
  subst hsz
  have S : CallFix p m c cX2_at 2 s ([.ref (db_ad E q), .int x1] : List Value).toArray wsX2_at RX2 := ⟨B.exec, B.bytes, hml, findClass_of_methodNamed B.named, atoms_spec (ws := wsX2_at) B.pre⟩
  have hx := S.1
  have hb := S.2.1
  have hr := B.returns
  have hlocks := B.notSynchronized
  have hw := db_start hU
  have hiX2 : ∀ w ∈ wsX20, w ∈ wsX2_at := fun w_ h_ => List.mem_cons_of_mem _ (List.mem_append_right _ h_)
  have hl := lv_entry ([.ref (db_ad E q), .int x1]) (n := 2) (Nat.le_of_ble_eq_true rfl)
  rw [lg_entry_eq]
  generalize (lg_sl ([.ref (db_ad E q), .int x1]) ++ List.replicate (2 - (lg_sl ([.ref (db_ad E q), .int x1])).length) Slot.unset).toArray = ls at hl ⊢
  have hl : lv_has ls 2 [(0, .ref (db_ad E q)), (1, .int x1)] := hl
  refine lv_iload_n hx hb dX2_at_0 rfl (lv_at hl 1 rfl) ?_
  refine lv_if_lt (tgt := 21) hx hb dX2_at_1 (by decide) (fun c3 => ?_) (fun c3 => ?_)
  · have h := h.1 c3
    refine lv_iconst (v := (-1 : Int32)) hx hb dX2_at_21 (by decide) ?_
    exact db_iret S hr hlocks hw h dX2_at_22
  · have h := h.2 c3
    refine lv_iload_n hx hb dX2_at_4 rfl (lv_at hl 1 rfl) ?_
    refine lv_aload_n hx hb dX2_at_5 rfl (lv_at hl 0 rfl) ?_
    refine db_geti S hw (db_kBytes_l0 hq) (db_kBytes_s0 hq) (C := RX2) (T := TX2) (N := 2) rfl hiX2 1 (by decide) rfl (List.mem_of_getElem? (i := 1) rfl) dX2_at_6 ?_
    refine lv_icmp_ge (tgt := 21) hx hb dX2_at_9 (by decide) (fun c2 => ?_) (fun c2 => ?_)
    · have h := h.1 c2
      refine lv_iconst (v := (-1 : Int32)) hx hb dX2_at_21 (by decide) ?_
      exact db_iret S hr hlocks hw h dX2_at_22
    · have h := h.2 c2
      refine lv_aload_n hx hb dX2_at_12 rfl (lv_at hl 0 rfl) ?_
      refine db_getr S hw (db_kBytes_l0 hq) (db_kBytes_s0 hq) (C := RX2) (T := TX2) (N := 2) rfl hiX2 0 (by decide) (r := (q + 1)) rfl (List.mem_of_getElem? (i := 2) rfl) dX2_at_13 ?_
      refine lv_iload_n hx hb dX2_at_16 rfl (lv_at hl 1 rfl) ?_
      obtain ⟨g1, h⟩ := h
      refine db_bald S hw (db_kBytes_l1 hq) (db_kBytes_s1 hq) g1 dX2_at_17 ?_
      refine lv_goto (tgt := 22) hx hb dX2_at_18 (by decide) ?_
      exact db_iret S hr hlocks hw h dX2_at_22
-- DaysOnBread$Bytes.clear()V
abbrev rm_X2_clear : Room := { frames := 0, cells := 0, slots := 0, locals := 0 }
def wp_X2_clear (q len : Nat) (X : db_St)  (Q : db_St → Prop) : Prop := (∀ X1, X1 = (db_si X q 1 (0 : Int32)) → Q X1)
set_option maxHeartbeats 4000000 in
set_option maxRecDepth 100000 in
theorem ct_X2_clear {l : Launch} {E : db_E} {q len : Nat} (hq : db_kBytes q len) {X : db_St}  {Q : db_St → Prop} (h : wp_X2_clear q len X  Q) : db_MV l E yX2_clear wsX2_clear rm_X2_clear X [.ref (db_ad E q)] Q := by
  intro sz
  unfold wp_X2_clear at h
  refine Met.ofW (cc := cX2_clear) (maxL := 1) (ret := none) (by decide) rfl ?_
  intro p e s m args below meth c s₁ B hml hv
  obtain ⟨rfl, hsz, hU⟩ := hv
  subst hsz
  have S : CallFix p m c cX2_clear 1 s ([.ref (db_ad E q)] : List Value).toArray wsX2_clear RX2 := ⟨B.exec, B.bytes, hml, findClass_of_methodNamed B.named, atoms_spec (ws := wsX2_clear) B.pre⟩
  have hx := S.1
  have hb := S.2.1
  have hr := B.returns
  have hlocks := B.notSynchronized
  have hw := db_start hU
  have hiX2 : ∀ w ∈ wsX20, w ∈ wsX2_clear := fun w_ h_ => List.mem_cons_of_mem _ (List.mem_append_right _ h_)
  have hl := lv_entry ([.ref (db_ad E q)]) (n := 1) (Nat.le_of_ble_eq_true rfl)
  rw [lg_entry_eq]
  generalize (lg_sl ([.ref (db_ad E q)]) ++ List.replicate (1 - (lg_sl ([.ref (db_ad E q)])).length) Slot.unset).toArray = ls at hl ⊢
  have hl : lv_has ls 1 [(0, .ref (db_ad E q))] := hl
  refine lv_aload_n hx hb dX2_clear_0 rfl (lv_at hl 0 rfl) ?_
  refine lv_iconst (v := (0 : Int32)) hx hb dX2_clear_1 (by decide) ?_
  refine db_puti S hw (db_kBytes_l0 hq) (db_kBytes_s0 hq) (C := RX2) (T := TX2) (N := 2) rfl hiX2 tyX2_ok nmX2 1 (by decide) rfl (List.mem_of_getElem? (i := 1) rfl) rfl ⟨rfl, rfl⟩ dX2_clear_2 (fun H locs hw => ?_)
  obtain ⟨X1, e1, hw⟩ : ∃ Z_, Z_ = (db_si X q 1 (0 : Int32)) ∧ db_HW E (db_Aw E s.heap.size) s Z_ H locs := ⟨_, rfl, hw⟩
  have h := h X1 e1
  exact db_vret S hr hlocks hw h dX2_clear_5
-- DaysOnBread$Payings.change(III)I
abbrev rm_X4_change : Room := { frames := 0, cells := 0, slots := 0, locals := 0 }
def wp_X4_change  (X : db_St) (x1 : Int32) (x2 : Int32) (x3 : Int32) (Q : Int32 → db_St → Prop) : Prop := ((((x1 * (4 : Int32)) + x2) < 0 → Q (-9 : Int32) X) ∧ (¬ (((x1 * (4 : Int32)) + x2) < 0) → ((((x1 * (4 : Int32)) + x2) < (24 : Int32) → (vp_in ((x1 * (4 : Int32)) + x2) 24 ∧ (∀ z2, z2 = (X.1 37 (((x1 * (4 : Int32)) + x2)).toNatClampNeg) → (vp_in ((x1 * (4 : Int32)) + x2) 24 ∧ (∀ X4, X4 = (db_si X 37 (((x1 * (4 : Int32)) + x2)).toNatClampNeg x3) → Q z2 X4))))) ∧ (¬ (((x1 * (4 : Int32)) + x2) < (24 : Int32)) → Q (-9 : Int32) X))))
set_option maxHeartbeats 4000000 in
set_option maxRecDepth 100000 in
theorem ct_X4_change {l : Launch} {E : db_E}  {X : db_St} {x1 : Int32} {x2 : Int32} {x3 : Int32} {Q : Int32 → db_St → Prop} (h : wp_X4_change  X x1 x2 x3 Q) : db_MI l E yX4_change wsX4_change rm_X4_change X [.ref (db_ad E 36), .int x1, .int x2, .int x3] Q := by
  intro sz
  unfold wp_X4_change at h
  refine Met.ofW (cc := cX4_change) (maxL := 6) (ret := (some .int)) (by decide) rfl ?_
  intro p e s m args below meth c s₁ B hml hv
  obtain ⟨rfl, hsz, hU⟩ := hv
  subst hsz
  have S : CallFix p m c cX4_change 6 s ([.ref (db_ad E 36), .int x1, .int x2, .int x3] : List Value).toArray wsX4_change RX4 := ⟨B.exec, B.bytes, hml, findClass_of_methodNamed B.named, atoms_spec (ws := wsX4_change) B.pre⟩
  have hx := S.1
  have hb := S.2.1
  have hr := B.returns
  have hlocks := B.notSynchronized
  have hw := db_start hU
  have hiX4 : ∀ w ∈ wsX40, w ∈ wsX4_change := fun w_ h_ => List.mem_cons_of_mem _ (List.mem_append_right _ h_)
  have hl := lv_entry ([.ref (db_ad E 36), .int x1, .int x2, .int x3]) (n := 6) (Nat.le_of_ble_eq_true rfl)
  rw [lg_entry_eq]
  generalize (lg_sl ([.ref (db_ad E 36), .int x1, .int x2, .int x3]) ++ List.replicate (6 - (lg_sl ([.ref (db_ad E 36), .int x1, .int x2, .int x3])).length) Slot.unset).toArray = ls at hl ⊢
  have hl : lv_has ls 6 [(0, .ref (db_ad E 36)), (1, .int x1), (2, .int x2), (3, .int x3)] := hl
  refine lv_iload_n hx hb dX4_change_0 rfl (lv_at hl 1 rfl) ?_
  refine lv_iconst (v := (4 : Int32)) hx hb dX4_change_1 (by decide) ?_
  refine lv_imul hx hb dX4_change_2 ?_
  refine lv_iload_n hx hb dX4_change_3 rfl (lv_at hl 2 rfl) ?_
  refine lv_iadd hx hb dX4_change_4 ?_
  refine lv_istore (lv' := [(4, .int ((x1 * (4 : Int32)) + x2)), (0, .ref (db_ad E 36)), (1, .int x1), (2, .int x2), (3, .int x3)]) hx hb dX4_change_5 hl (by decide) rfl (fun ls hl => ?_)
  refine lv_iload hx hb dX4_change_7 (lv_at hl 0 rfl) ?_
  refine lv_if_lt (tgt := 22) hx hb dX4_change_9 (by decide) (fun c6 => ?_) (fun c6 => ?_)
  · have h := h.1 c6
    refine lv_bipush (v := (-9 : Int32)) hx hb dX4_change_22 (by decide) ?_
    exact db_iret S hr hlocks hw h dX4_change_24
  · have h := h.2 c6
    refine lv_iload hx hb dX4_change_12 (lv_at hl 0 rfl) ?_
    refine lv_aload_n hx hb dX4_change_14 rfl (lv_at hl 1 rfl) ?_
    refine db_getr S hw (Nat.le_of_ble_eq_true rfl) db_s36 (C := RX4) (T := TX4) (N := 3) rfl hiX4 0 (by decide) (r := 37) rfl (List.mem_of_getElem? (i := 1) rfl) dX4_change_15 ?_
    refine db_alen (v := (24 : Int32)) S hw (Nat.le_of_ble_eq_true rfl) db_s37 (by decide) (by decide) (by decide) dX4_change_18 ?_
    refine lv_icmp_lt (tgt := 25) hx hb dX4_change_19 (by decide) (fun c5 => ?_) (fun c5 => ?_)
    · have h := h.1 c5
      refine lv_aload_n hx hb dX4_change_25 rfl (lv_at hl 1 rfl) ?_
      refine db_getr S hw (Nat.le_of_ble_eq_true rfl) db_s36 (C := RX4) (T := TX4) (N := 3) rfl hiX4 0 (by decide) (r := 37) rfl (List.mem_of_getElem? (i := 1) rfl) dX4_change_26 ?_
      refine lv_iload hx hb dX4_change_29 (lv_at hl 0 rfl) ?_
      obtain ⟨g1, h⟩ := h
      refine db_iald S hw (Nat.le_of_ble_eq_true rfl) db_s37 g1 dX4_change_31 ?_
      refine lv_topi (fun z2 e2 => ?_)
      have h := h z2 e2
      refine lv_istore (lv' := [(5, .int z2), (4, .int ((x1 * (4 : Int32)) + x2)), (0, .ref (db_ad E 36)), (1, .int x1), (2, .int x2), (3, .int x3)]) hx hb dX4_change_32 hl (by decide) rfl (fun ls hl => ?_)
      refine lv_aload_n hx hb dX4_change_34 rfl (lv_at hl 2 rfl) ?_
      refine db_getr S hw (Nat.le_of_ble_eq_true rfl) db_s36 (C := RX4) (T := TX4) (N := 3) rfl hiX4 0 (by decide) (r := 37) rfl (List.mem_of_getElem? (i := 1) rfl) dX4_change_35 ?_
      refine lv_iload hx hb dX4_change_38 (lv_at hl 1 rfl) ?_
      refine lv_iload_n hx hb dX4_change_40 rfl (lv_at hl 5 rfl) ?_
      obtain ⟨g3, h⟩ := h
      refine db_iast S hw (Nat.le_of_ble_eq_true rfl) db_s37 g3 dX4_change_41 (fun H locs hw => ?_)
      obtain ⟨X4, e4, hw⟩ : ∃ Z_, Z_ = (db_si X 37 (((x1 * (4 : Int32)) + x2)).toNatClampNeg x3) ∧ db_HW E (db_Aw E s.heap.size) s Z_ H locs := ⟨_, rfl, hw⟩
      have h := h X4 e4
      refine lv_iload hx hb dX4_change_42 (lv_at hl 0 rfl) ?_
      exact db_iret S hr hlocks hw h dX4_change_44
    · have h := h.2 c5
      refine lv_bipush (v := (-9 : Int32)) hx hb dX4_change_22 (by decide) ?_
      exact db_iret S hr hlocks hw h dX4_change_24
-- DaysOnBread$Payings.copyFrom(LDaysOnBread$Payings;)V
abbrev rm_X4_copyFrom : Room := { frames := 1, cells := 0, slots := 0, locals := 60 }
def wp_X4_copyFrom (q : Nat) (o : Nat) (X : db_St)  (Q : db_St → Prop) : Prop := (((¬ (0 : Int32) < 0 ∧ ¬ (0 : Int32) < 0 ∧ ¬ (24 : Int32) < 0) ∧ ((0 : Int32)).toNatClampNeg + ((24 : Int32)).toNatClampNeg ≤ 24 ∧ ((0 : Int32)).toNatClampNeg + ((24 : Int32)).toNatClampNeg ≤ 24) ∧ (∀ X2, X2 = (db_sa X (q + 1) (va_cpy (X.1 (o + 1)) (X.1 (q + 1)) ((0 : Int32)).toNatClampNeg ((0 : Int32)).toNatClampNeg ((24 : Int32)).toNatClampNeg)) → (∀ X3, X3 = (db_si X2 q 1 (X2.1 o 1)) → (∀ X4, X4 = (db_si X3 q 2 (X3.1 o 2)) → Q X4))))
set_option maxHeartbeats 4000000 in
set_option maxRecDepth 100000 in
theorem ct_X4_copyFrom {l : Launch} {E : db_E} {q : Nat} (hq : db_kPay q) {o : Nat} (ho : db_kPay o) {X : db_St}  {Q : db_St → Prop} (h : wp_X4_copyFrom q o X  Q) : db_MV l E yX4_copyFrom wsX4_copyFrom rm_X4_copyFrom X [.ref (db_ad E q), .ref (db_ad E o)] Q := by
  intro sz
  unfold wp_X4_copyFrom at h
  refine Met.ofW (cc := cX4_copyFrom) (maxL := 2) (ret := none) (by decide) rfl ?_
  intro p e s m args below meth c s₁ B hml hv
  obtain ⟨rfl, hsz, hU⟩ := hv
  subst hsz
  have S : CallFix p m c cX4_copyFrom 2 s ([.ref (db_ad E q), .ref (db_ad E o)] : List Value).toArray wsX4_copyFrom RX4 := ⟨B.exec, B.bytes, hml, findClass_of_methodNamed B.named, atoms_spec (ws := wsX4_copyFrom) B.pre⟩
  have hx := S.1
  have hb := S.2.1
  have hr := B.returns
  have hlocks := B.notSynchronized
  have hw := db_start hU
  have hiX4 : ∀ w ∈ wsX40, w ∈ wsX4_copyFrom := fun w_ h_ => List.mem_cons_of_mem _ (List.mem_append_right _ h_)
  have hl := lv_entry ([.ref (db_ad E q), .ref (db_ad E o)]) (n := 2) (Nat.le_of_ble_eq_true rfl)
  rw [lg_entry_eq]
  generalize (lg_sl ([.ref (db_ad E q), .ref (db_ad E o)]) ++ List.replicate (2 - (lg_sl ([.ref (db_ad E q), .ref (db_ad E o)])).length) Slot.unset).toArray = ls at hl ⊢
  have hl : lv_has ls 2 [(0, .ref (db_ad E q)), (1, .ref (db_ad E o))] := hl
  refine lv_aload_n hx hb dX4_copyFrom_0 rfl (lv_at hl 1 rfl) ?_
  refine db_getr S hw (db_kPay_l0 ho) (db_kPay_s0 ho) (C := RX4) (T := TX4) (N := 3) rfl hiX4 0 (by decide) (r := (o + 1)) rfl (List.mem_of_getElem? (i := 1) rfl) dX4_copyFrom_1 ?_
  refine lv_iconst (v := (0 : Int32)) hx hb dX4_copyFrom_4 (by decide) ?_
  refine lv_aload_n hx hb dX4_copyFrom_5 rfl (lv_at hl 0 rfl) ?_
  refine db_getr S hw (db_kPay_l0 hq) (db_kPay_s0 hq) (C := RX4) (T := TX4) (N := 3) rfl hiX4 0 (by decide) (r := (q + 1)) rfl (List.mem_of_getElem? (i := 1) rfl) dX4_copyFrom_6 ?_
  refine lv_iconst (v := (0 : Int32)) hx hb dX4_copyFrom_9 (by decide) ?_
  refine lv_aload_n hx hb dX4_copyFrom_10 rfl (lv_at hl 0 rfl) ?_
  refine db_getr S hw (db_kPay_l0 hq) (db_kPay_s0 hq) (C := RX4) (T := TX4) (N := 3) rfl hiX4 0 (by decide) (r := (q + 1)) rfl (List.mem_of_getElem? (i := 1) rfl) dX4_copyFrom_11 ?_
  refine db_alen (v := (24 : Int32)) S hw (db_kPay_l1 hq) (db_kPay_s1 hq) (by decide) (by decide) (by decide) dX4_copyFrom_14 ?_
  obtain ⟨g1, h⟩ := h
  refine db_copy S hw hl.1 (db_kPay_l1 ho) (db_kPay_s1 ho) (db_kPay_l1 hq) (db_kPay_s1 hq) (List.mem_of_getElem? (i := 2) rfl) (List.mem_of_getElem? (i := 3) rfl) (List.mem_of_getElem? (i := 4) rfl) (List.mem_of_getElem? (i := 5) rfl) g1 ⟨Nat.le_of_ble_eq_true rfl, Nat.le_of_ble_eq_true rfl⟩ dX4_copyFrom_15 (fun H locs hw => ?_)
  obtain ⟨X2, e2, hw⟩ : ∃ Z_, Z_ = (db_sa X (q + 1) (va_cpy (X.1 (o + 1)) (X.1 (q + 1)) ((0 : Int32)).toNatClampNeg ((0 : Int32)).toNatClampNeg ((24 : Int32)).toNatClampNeg)) ∧ db_HW E (db_Aw E s.heap.size) s Z_ H locs := ⟨_, rfl, hw⟩
  have h := h X2 e2
  refine lv_aload_n hx hb dX4_copyFrom_18 rfl (lv_at hl 0 rfl) ?_
  refine lv_aload_n hx hb dX4_copyFrom_19 rfl (lv_at hl 1 rfl) ?_
  refine db_geti S hw (db_kPay_l0 ho) (db_kPay_s0 ho) (C := RX4) (T := TX4) (N := 3) rfl hiX4 1 (by decide) rfl (List.mem_of_getElem? (i := 6) rfl) dX4_copyFrom_20 ?_
  refine db_puti S hw (db_kPay_l0 hq) (db_kPay_s0 hq) (C := RX4) (T := TX4) (N := 3) rfl hiX4 tyX4_ok nmX4 1 (by decide) rfl (List.mem_of_getElem? (i := 6) rfl) rfl ⟨rfl, rfl⟩ dX4_copyFrom_23 (fun H locs hw => ?_)
  obtain ⟨X3, e3, hw⟩ : ∃ Z_, Z_ = (db_si X2 q 1 (X2.1 o 1)) ∧ db_HW E (db_Aw E s.heap.size) s Z_ H locs := ⟨_, rfl, hw⟩
  have h := h X3 e3
  refine lv_aload_n hx hb dX4_copyFrom_26 rfl (lv_at hl 0 rfl) ?_
  refine lv_aload_n hx hb dX4_copyFrom_27 rfl (lv_at hl 1 rfl) ?_
  refine db_geti S hw (db_kPay_l0 ho) (db_kPay_s0 ho) (C := RX4) (T := TX4) (N := 3) rfl hiX4 2 (by decide) rfl (List.mem_of_getElem? (i := 7) rfl) dX4_copyFrom_28 ?_
  refine db_puti S hw (db_kPay_l0 hq) (db_kPay_s0 hq) (C := RX4) (T := TX4) (N := 3) rfl hiX4 tyX4_ok nmX4 2 (by decide) rfl (List.mem_of_getElem? (i := 7) rfl) rfl ⟨rfl, rfl⟩ dX4_copyFrom_31 (fun H locs hw => ?_)
  obtain ⟨X4, e4, hw⟩ : ∃ Z_, Z_ = (db_si X3 q 2 (X3.1 o 2)) ∧ db_HW E (db_Aw E s.heap.size) s Z_ H locs := ⟨_, rfl, hw⟩
  have h := h X4 e4
  exact db_vret S hr hlocks hw h dX4_copyFrom_34
-- DaysOnBread$Puttings.add(IIII)I
abbrev rm_X5_add : Room := { frames := 0, cells := 0, slots := 0, locals := 0 }
def wp_X5_add  (X : db_St) (x1 : Int32) (x2 : Int32) (x3 : Int32) (x4 : Int32) (Q : Int32 → db_St → Prop) : Prop := (((12 : Int32) ≤ (X.1 38 4) → Q (X.1 38 4) X) ∧ (¬ ((12 : Int32) ≤ (X.1 38 4)) → (vp_in (X.1 38 4) 12 ∧ (∀ X2, X2 = (db_si X 39 ((X.1 38 4)).toNatClampNeg x1) → (vp_in (X2.1 38 4) 12 ∧ (∀ X4, X4 = (db_si X2 40 ((X2.1 38 4)).toNatClampNeg x2) → (vp_in (X4.1 38 4) 12 ∧ (∀ X6, X6 = (db_si X4 41 ((X4.1 38 4)).toNatClampNeg x3) → (vp_in (X6.1 38 4) 12 ∧ (∀ X8, X8 = (db_si X6 42 ((X6.1 38 4)).toNatClampNeg x4) → (∀ X9, X9 = (db_si X8 38 4 ((X8.1 38 4) + (1 : Int32))) → Q (X9.1 38 4) X9)))))))))))
set_option maxHeartbeats 4000000 in
set_option maxRecDepth 100000 in
theorem ct_X5_add {l : Launch} {E : db_E}  {X : db_St} {x1 : Int32} {x2 : Int32} {x3 : Int32} {x4 : Int32} {Q : Int32 → db_St → Prop} (h : wp_X5_add  X x1 x2 x3 x4 Q) : db_MI l E yX5_add wsX5_add rm_X5_add X [.ref (db_ad E 38), .int x1, .int x2, .int x3, .int x4] Q := by
  intro sz
  unfold wp_X5_add at h
  refine Met.ofW (cc := cX5_add) (maxL := 5) (ret := (some .int)) (by decide) rfl ?_
  intro p e s m args below meth c s₁ B hml hv
  obtain ⟨rfl, hsz, hU⟩ := hv
  subst hsz
  have S : CallFix p m c cX5_add 5 s ([.ref (db_ad E 38), .int x1, .int x2, .int x3, .int x4] : List Value).toArray wsX5_add RX5 := ⟨B.exec, B.bytes, hml, findClass_of_methodNamed B.named, atoms_spec (ws := wsX5_add) B.pre⟩
  have hx := S.1
  have hb := S.2.1
  have hr := B.returns
  have hlocks := B.notSynchronized
  have hw := db_start hU
  have hiX5 : ∀ w ∈ wsX50, w ∈ wsX5_add := fun w_ h_ => List.mem_cons_of_mem _ (List.mem_append_right _ h_)
  have hl := lv_entry ([.ref (db_ad E 38), .int x1, .int x2, .int x3, .int x4]) (n := 5) (Nat.le_of_ble_eq_true rfl)
  rw [lg_entry_eq]
  generalize (lg_sl ([.ref (db_ad E 38), .int x1, .int x2, .int x3, .int x4]) ++ List.replicate (5 - (lg_sl ([.ref (db_ad E 38), .int x1, .int x2, .int x3, .int x4])).length) Slot.unset).toArray = ls at hl ⊢
  have hl : lv_has ls 5 [(0, .ref (db_ad E 38)), (1, .int x1), (2, .int x2), (3, .int x3), (4, .int x4)] := hl
  refine lv_aload_n hx hb dX5_add_0 rfl (lv_at hl 0 rfl) ?_
  refine db_geti S hw (Nat.le_of_ble_eq_true rfl) db_s38 (C := RX5) (T := TX5) (N := 5) rfl hiX5 4 (by decide) rfl (List.mem_of_getElem? (i := 1) rfl) dX5_add_1 ?_
  refine lv_bipush (v := (12 : Int32)) hx hb dX5_add_4 (by decide) ?_
  refine lv_icmp_ge (tgt := 60) hx hb dX5_add_6 (by decide) (fun c10 => ?_) (fun c10 => ?_)
  · have h := h.1 c10
    refine lv_aload_n hx hb dX5_add_60 rfl (lv_at hl 0 rfl) ?_
    refine db_geti S hw (Nat.le_of_ble_eq_true rfl) db_s38 (C := RX5) (T := TX5) (N := 5) rfl hiX5 4 (by decide) rfl (List.mem_of_getElem? (i := 1) rfl) dX5_add_61 ?_
    exact db_iret S hr hlocks hw h dX5_add_64
  · have h := h.2 c10
    refine lv_aload_n hx hb dX5_add_9 rfl (lv_at hl 0 rfl) ?_
    refine db_getr S hw (Nat.le_of_ble_eq_true rfl) db_s38 (C := RX5) (T := TX5) (N := 5) rfl hiX5 0 (by decide) (r := 39) rfl (List.mem_of_getElem? (i := 2) rfl) dX5_add_10 ?_
    refine lv_aload_n hx hb dX5_add_13 rfl (lv_at hl 0 rfl) ?_
    refine db_geti S hw (Nat.le_of_ble_eq_true rfl) db_s38 (C := RX5) (T := TX5) (N := 5) rfl hiX5 4 (by decide) rfl (List.mem_of_getElem? (i := 1) rfl) dX5_add_14 ?_
    refine lv_iload_n hx hb dX5_add_17 rfl (lv_at hl 1 rfl) ?_
    obtain ⟨g1, h⟩ := h
    refine db_iast S hw (Nat.le_of_ble_eq_true rfl) db_s39 g1 dX5_add_18 (fun H locs hw => ?_)
    obtain ⟨X2, e2, hw⟩ : ∃ Z_, Z_ = (db_si X 39 ((X.1 38 4)).toNatClampNeg x1) ∧ db_HW E (db_Aw E s.heap.size) s Z_ H locs := ⟨_, rfl, hw⟩
    have h := h X2 e2
    refine lv_aload_n hx hb dX5_add_19 rfl (lv_at hl 0 rfl) ?_
    refine db_getr S hw (Nat.le_of_ble_eq_true rfl) db_s38 (C := RX5) (T := TX5) (N := 5) rfl hiX5 1 (by decide) (r := 40) rfl (List.mem_of_getElem? (i := 3) rfl) dX5_add_20 ?_
    refine lv_aload_n hx hb dX5_add_23 rfl (lv_at hl 0 rfl) ?_
    refine db_geti S hw (Nat.le_of_ble_eq_true rfl) db_s38 (C := RX5) (T := TX5) (N := 5) rfl hiX5 4 (by decide) rfl (List.mem_of_getElem? (i := 1) rfl) dX5_add_24 ?_
    refine lv_iload_n hx hb dX5_add_27 rfl (lv_at hl 2 rfl) ?_
    obtain ⟨g3, h⟩ := h
    refine db_iast S hw (Nat.le_of_ble_eq_true rfl) db_s40 g3 dX5_add_28 (fun H locs hw => ?_)
    obtain ⟨X4, e4, hw⟩ : ∃ Z_, Z_ = (db_si X2 40 ((X2.1 38 4)).toNatClampNeg x2) ∧ db_HW E (db_Aw E s.heap.size) s Z_ H locs := ⟨_, rfl, hw⟩
    have h := h X4 e4
    refine lv_aload_n hx hb dX5_add_29 rfl (lv_at hl 0 rfl) ?_
    refine db_getr S hw (Nat.le_of_ble_eq_true rfl) db_s38 (C := RX5) (T := TX5) (N := 5) rfl hiX5 2 (by decide) (r := 41) rfl (List.mem_of_getElem? (i := 4) rfl) dX5_add_30 ?_
    refine lv_aload_n hx hb dX5_add_33 rfl (lv_at hl 0 rfl) ?_
    refine db_geti S hw (Nat.le_of_ble_eq_true rfl) db_s38 (C := RX5) (T := TX5) (N := 5) rfl hiX5 4 (by decide) rfl (List.mem_of_getElem? (i := 1) rfl) dX5_add_34 ?_
    refine lv_iload_n hx hb dX5_add_37 rfl (lv_at hl 3 rfl) ?_
    obtain ⟨g5, h⟩ := h
    refine db_iast S hw (Nat.le_of_ble_eq_true rfl) db_s41 g5 dX5_add_38 (fun H locs hw => ?_)
    obtain ⟨X6, e6, hw⟩ : ∃ Z_, Z_ = (db_si X4 41 ((X4.1 38 4)).toNatClampNeg x3) ∧ db_HW E (db_Aw E s.heap.size) s Z_ H locs := ⟨_, rfl, hw⟩
    have h := h X6 e6
    refine lv_aload_n hx hb dX5_add_39 rfl (lv_at hl 0 rfl) ?_
    refine db_getr S hw (Nat.le_of_ble_eq_true rfl) db_s38 (C := RX5) (T := TX5) (N := 5) rfl hiX5 3 (by decide) (r := 42) rfl (List.mem_of_getElem? (i := 5) rfl) dX5_add_40 ?_
    refine lv_aload_n hx hb dX5_add_43 rfl (lv_at hl 0 rfl) ?_
    refine db_geti S hw (Nat.le_of_ble_eq_true rfl) db_s38 (C := RX5) (T := TX5) (N := 5) rfl hiX5 4 (by decide) rfl (List.mem_of_getElem? (i := 1) rfl) dX5_add_44 ?_
    refine lv_iload hx hb dX5_add_47 (lv_at hl 4 rfl) ?_
    obtain ⟨g7, h⟩ := h
    refine db_iast S hw (Nat.le_of_ble_eq_true rfl) db_s42 g7 dX5_add_49 (fun H locs hw => ?_)
    obtain ⟨X8, e8, hw⟩ : ∃ Z_, Z_ = (db_si X6 42 ((X6.1 38 4)).toNatClampNeg x4) ∧ db_HW E (db_Aw E s.heap.size) s Z_ H locs := ⟨_, rfl, hw⟩
    have h := h X8 e8
    refine lv_aload_n hx hb dX5_add_50 rfl (lv_at hl 0 rfl) ?_
    refine lv_dup hx hb dX5_add_51 rfl ?_
    refine db_geti S hw (Nat.le_of_ble_eq_true rfl) db_s38 (C := RX5) (T := TX5) (N := 5) rfl hiX5 4 (by decide) rfl (List.mem_of_getElem? (i := 1) rfl) dX5_add_52 ?_
    refine lv_iconst (v := (1 : Int32)) hx hb dX5_add_55 (by decide) ?_
    refine lv_iadd hx hb dX5_add_56 ?_
    refine db_puti S hw (Nat.le_of_ble_eq_true rfl) db_s38 (C := RX5) (T := TX5) (N := 5) rfl hiX5 tyX5_ok nmX5 4 (by decide) rfl (List.mem_of_getElem? (i := 1) rfl) rfl ⟨rfl, rfl⟩ dX5_add_57 (fun H locs hw => ?_)
    obtain ⟨X9, e9, hw⟩ : ∃ Z_, Z_ = (db_si X8 38 4 ((X8.1 38 4) + (1 : Int32))) ∧ db_HW E (db_Aw E s.heap.size) s Z_ H locs := ⟨_, rfl, hw⟩
    have h := h X9 e9
    refine lv_aload_n hx hb dX5_add_60 rfl (lv_at hl 0 rfl) ?_
    refine db_geti S hw (Nat.le_of_ble_eq_true rfl) db_s38 (C := RX5) (T := TX5) (N := 5) rfl hiX5 4 (by decide) rfl (List.mem_of_getElem? (i := 1) rfl) dX5_add_61 ?_
    exact db_iret S hr hlocks hw h dX5_add_64
-- DaysOnBread$Puttings.copyFrom(LDaysOnBread$Puttings;)V
abbrev rm_X5_copyFrom : Room := { frames := 1, cells := 0, slots := 0, locals := 60 }
def wp_X5_copyFrom (q : Nat) (o : Nat) (X : db_St)  (Q : db_St → Prop) : Prop := (((¬ (0 : Int32) < 0 ∧ ¬ (0 : Int32) < 0 ∧ ¬ (12 : Int32) < 0) ∧ ((0 : Int32)).toNatClampNeg + ((12 : Int32)).toNatClampNeg ≤ 12 ∧ ((0 : Int32)).toNatClampNeg + ((12 : Int32)).toNatClampNeg ≤ 12) ∧ (∀ X2, X2 = (db_sa X (q + 1) (va_cpy (X.1 (o + 1)) (X.1 (q + 1)) ((0 : Int32)).toNatClampNeg ((0 : Int32)).toNatClampNeg ((12 : Int32)).toNatClampNeg)) → (((¬ (0 : Int32) < 0 ∧ ¬ (0 : Int32) < 0 ∧ ¬ (12 : Int32) < 0) ∧ ((0 : Int32)).toNatClampNeg + ((12 : Int32)).toNatClampNeg ≤ 12 ∧ ((0 : Int32)).toNatClampNeg + ((12 : Int32)).toNatClampNeg ≤ 12) ∧ (∀ X4, X4 = (db_sa X2 (q + 2) (va_cpy (X2.1 (o + 2)) (X2.1 (q + 2)) ((0 : Int32)).toNatClampNeg ((0 : Int32)).toNatClampNeg ((12 : Int32)).toNatClampNeg)) → (((¬ (0 : Int32) < 0 ∧ ¬ (0 : Int32) < 0 ∧ ¬ (12 : Int32) < 0) ∧ ((0 : Int32)).toNatClampNeg + ((12 : Int32)).toNatClampNeg ≤ 12 ∧ ((0 : Int32)).toNatClampNeg + ((12 : Int32)).toNatClampNeg ≤ 12) ∧ (∀ X6, X6 = (db_sa X4 (q + 3) (va_cpy (X4.1 (o + 3)) (X4.1 (q + 3)) ((0 : Int32)).toNatClampNeg ((0 : Int32)).toNatClampNeg ((12 : Int32)).toNatClampNeg)) → (((¬ (0 : Int32) < 0 ∧ ¬ (0 : Int32) < 0 ∧ ¬ (12 : Int32) < 0) ∧ ((0 : Int32)).toNatClampNeg + ((12 : Int32)).toNatClampNeg ≤ 12 ∧ ((0 : Int32)).toNatClampNeg + ((12 : Int32)).toNatClampNeg ≤ 12) ∧ (∀ X8, X8 = (db_sa X6 (q + 4) (va_cpy (X6.1 (o + 4)) (X6.1 (q + 4)) ((0 : Int32)).toNatClampNeg ((0 : Int32)).toNatClampNeg ((12 : Int32)).toNatClampNeg)) → (∀ X9, X9 = (db_si X8 q 4 (X8.1 o 4)) → Q X9)))))))))
set_option maxHeartbeats 4000000 in
set_option maxRecDepth 100000 in
theorem ct_X5_copyFrom {l : Launch} {E : db_E} {q : Nat} (hq : db_kPut q) {o : Nat} (ho : db_kPut o) {X : db_St}  {Q : db_St → Prop} (h : wp_X5_copyFrom q o X  Q) : db_MV l E yX5_copyFrom wsX5_copyFrom rm_X5_copyFrom X [.ref (db_ad E q), .ref (db_ad E o)] Q := by
  intro sz
  unfold wp_X5_copyFrom at h
  refine Met.ofW (cc := cX5_copyFrom) (maxL := 2) (ret := none) (by decide) rfl ?_
  intro p e s m args below meth c s₁ B hml hv
  obtain ⟨rfl, hsz, hU⟩ := hv
  subst hsz
  have S : CallFix p m c cX5_copyFrom 2 s ([.ref (db_ad E q), .ref (db_ad E o)] : List Value).toArray wsX5_copyFrom RX5 := ⟨B.exec, B.bytes, hml, findClass_of_methodNamed B.named, atoms_spec (ws := wsX5_copyFrom) B.pre⟩
  have hx := S.1
  have hb := S.2.1
  have hr := B.returns
  have hlocks := B.notSynchronized
  have hw := db_start hU
  have hiX5 : ∀ w ∈ wsX50, w ∈ wsX5_copyFrom := fun w_ h_ => List.mem_cons_of_mem _ (List.mem_append_right _ h_)
  have hl := lv_entry ([.ref (db_ad E q), .ref (db_ad E o)]) (n := 2) (Nat.le_of_ble_eq_true rfl)
  rw [lg_entry_eq]
  generalize (lg_sl ([.ref (db_ad E q), .ref (db_ad E o)]) ++ List.replicate (2 - (lg_sl ([.ref (db_ad E q), .ref (db_ad E o)])).length) Slot.unset).toArray = ls at hl ⊢
  have hl : lv_has ls 2 [(0, .ref (db_ad E q)), (1, .ref (db_ad E o))] := hl
  refine lv_aload_n hx hb dX5_copyFrom_0 rfl (lv_at hl 1 rfl) ?_
  refine db_getr S hw (db_kPut_l0 ho) (db_kPut_s0 ho) (C := RX5) (T := TX5) (N := 5) rfl hiX5 0 (by decide) (r := (o + 1)) rfl (List.mem_of_getElem? (i := 1) rfl) dX5_copyFrom_1 ?_
  refine lv_iconst (v := (0 : Int32)) hx hb dX5_copyFrom_4 (by decide) ?_
  refine lv_aload_n hx hb dX5_copyFrom_5 rfl (lv_at hl 0 rfl) ?_
  refine db_getr S hw (db_kPut_l0 hq) (db_kPut_s0 hq) (C := RX5) (T := TX5) (N := 5) rfl hiX5 0 (by decide) (r := (q + 1)) rfl (List.mem_of_getElem? (i := 1) rfl) dX5_copyFrom_6 ?_
  refine lv_iconst (v := (0 : Int32)) hx hb dX5_copyFrom_9 (by decide) ?_
  refine lv_bipush (v := (12 : Int32)) hx hb dX5_copyFrom_10 (by decide) ?_
  obtain ⟨g1, h⟩ := h
  refine db_copy S hw hl.1 (db_kPut_l1 ho) (db_kPut_s1 ho) (db_kPut_l1 hq) (db_kPut_s1 hq) (List.mem_of_getElem? (i := 2) rfl) (List.mem_of_getElem? (i := 3) rfl) (List.mem_of_getElem? (i := 4) rfl) (List.mem_of_getElem? (i := 5) rfl) g1 ⟨Nat.le_of_ble_eq_true rfl, Nat.le_of_ble_eq_true rfl⟩ dX5_copyFrom_12 (fun H locs hw => ?_)
  obtain ⟨X2, e2, hw⟩ : ∃ Z_, Z_ = (db_sa X (q + 1) (va_cpy (X.1 (o + 1)) (X.1 (q + 1)) ((0 : Int32)).toNatClampNeg ((0 : Int32)).toNatClampNeg ((12 : Int32)).toNatClampNeg)) ∧ db_HW E (db_Aw E s.heap.size) s Z_ H locs := ⟨_, rfl, hw⟩
  have h := h X2 e2
  refine lv_aload_n hx hb dX5_copyFrom_15 rfl (lv_at hl 1 rfl) ?_
  refine db_getr S hw (db_kPut_l0 ho) (db_kPut_s0 ho) (C := RX5) (T := TX5) (N := 5) rfl hiX5 1 (by decide) (r := (o + 2)) rfl (List.mem_of_getElem? (i := 6) rfl) dX5_copyFrom_16 ?_
  refine lv_iconst (v := (0 : Int32)) hx hb dX5_copyFrom_19 (by decide) ?_
  refine lv_aload_n hx hb dX5_copyFrom_20 rfl (lv_at hl 0 rfl) ?_
  refine db_getr S hw (db_kPut_l0 hq) (db_kPut_s0 hq) (C := RX5) (T := TX5) (N := 5) rfl hiX5 1 (by decide) (r := (q + 2)) rfl (List.mem_of_getElem? (i := 6) rfl) dX5_copyFrom_21 ?_
  refine lv_iconst (v := (0 : Int32)) hx hb dX5_copyFrom_24 (by decide) ?_
  refine lv_bipush (v := (12 : Int32)) hx hb dX5_copyFrom_25 (by decide) ?_
  obtain ⟨g3, h⟩ := h
  refine db_copy S hw hl.1 (db_kPut_l2 ho) (db_kPut_s2 ho) (db_kPut_l2 hq) (db_kPut_s2 hq) (List.mem_of_getElem? (i := 2) rfl) (List.mem_of_getElem? (i := 3) rfl) (List.mem_of_getElem? (i := 4) rfl) (List.mem_of_getElem? (i := 5) rfl) g3 ⟨Nat.le_of_ble_eq_true rfl, Nat.le_of_ble_eq_true rfl⟩ dX5_copyFrom_27 (fun H locs hw => ?_)
  obtain ⟨X4, e4, hw⟩ : ∃ Z_, Z_ = (db_sa X2 (q + 2) (va_cpy (X2.1 (o + 2)) (X2.1 (q + 2)) ((0 : Int32)).toNatClampNeg ((0 : Int32)).toNatClampNeg ((12 : Int32)).toNatClampNeg)) ∧ db_HW E (db_Aw E s.heap.size) s Z_ H locs := ⟨_, rfl, hw⟩
  have h := h X4 e4
  refine lv_aload_n hx hb dX5_copyFrom_30 rfl (lv_at hl 1 rfl) ?_
  refine db_getr S hw (db_kPut_l0 ho) (db_kPut_s0 ho) (C := RX5) (T := TX5) (N := 5) rfl hiX5 2 (by decide) (r := (o + 3)) rfl (List.mem_of_getElem? (i := 7) rfl) dX5_copyFrom_31 ?_
  refine lv_iconst (v := (0 : Int32)) hx hb dX5_copyFrom_34 (by decide) ?_
  refine lv_aload_n hx hb dX5_copyFrom_35 rfl (lv_at hl 0 rfl) ?_
  refine db_getr S hw (db_kPut_l0 hq) (db_kPut_s0 hq) (C := RX5) (T := TX5) (N := 5) rfl hiX5 2 (by decide) (r := (q + 3)) rfl (List.mem_of_getElem? (i := 7) rfl) dX5_copyFrom_36 ?_
  refine lv_iconst (v := (0 : Int32)) hx hb dX5_copyFrom_39 (by decide) ?_
  refine lv_bipush (v := (12 : Int32)) hx hb dX5_copyFrom_40 (by decide) ?_
  obtain ⟨g5, h⟩ := h
  refine db_copy S hw hl.1 (db_kPut_l3 ho) (db_kPut_s3 ho) (db_kPut_l3 hq) (db_kPut_s3 hq) (List.mem_of_getElem? (i := 2) rfl) (List.mem_of_getElem? (i := 3) rfl) (List.mem_of_getElem? (i := 4) rfl) (List.mem_of_getElem? (i := 5) rfl) g5 ⟨Nat.le_of_ble_eq_true rfl, Nat.le_of_ble_eq_true rfl⟩ dX5_copyFrom_42 (fun H locs hw => ?_)
  obtain ⟨X6, e6, hw⟩ : ∃ Z_, Z_ = (db_sa X4 (q + 3) (va_cpy (X4.1 (o + 3)) (X4.1 (q + 3)) ((0 : Int32)).toNatClampNeg ((0 : Int32)).toNatClampNeg ((12 : Int32)).toNatClampNeg)) ∧ db_HW E (db_Aw E s.heap.size) s Z_ H locs := ⟨_, rfl, hw⟩
  have h := h X6 e6
  refine lv_aload_n hx hb dX5_copyFrom_45 rfl (lv_at hl 1 rfl) ?_
  refine db_getr S hw (db_kPut_l0 ho) (db_kPut_s0 ho) (C := RX5) (T := TX5) (N := 5) rfl hiX5 3 (by decide) (r := (o + 4)) rfl (List.mem_of_getElem? (i := 8) rfl) dX5_copyFrom_46 ?_
  refine lv_iconst (v := (0 : Int32)) hx hb dX5_copyFrom_49 (by decide) ?_
  refine lv_aload_n hx hb dX5_copyFrom_50 rfl (lv_at hl 0 rfl) ?_
  refine db_getr S hw (db_kPut_l0 hq) (db_kPut_s0 hq) (C := RX5) (T := TX5) (N := 5) rfl hiX5 3 (by decide) (r := (q + 4)) rfl (List.mem_of_getElem? (i := 8) rfl) dX5_copyFrom_51 ?_
  refine lv_iconst (v := (0 : Int32)) hx hb dX5_copyFrom_54 (by decide) ?_
  refine lv_bipush (v := (12 : Int32)) hx hb dX5_copyFrom_55 (by decide) ?_
  obtain ⟨g7, h⟩ := h
  refine db_copy S hw hl.1 (db_kPut_l4 ho) (db_kPut_s4 ho) (db_kPut_l4 hq) (db_kPut_s4 hq) (List.mem_of_getElem? (i := 2) rfl) (List.mem_of_getElem? (i := 3) rfl) (List.mem_of_getElem? (i := 4) rfl) (List.mem_of_getElem? (i := 5) rfl) g7 ⟨Nat.le_of_ble_eq_true rfl, Nat.le_of_ble_eq_true rfl⟩ dX5_copyFrom_57 (fun H locs hw => ?_)
  obtain ⟨X8, e8, hw⟩ : ∃ Z_, Z_ = (db_sa X6 (q + 4) (va_cpy (X6.1 (o + 4)) (X6.1 (q + 4)) ((0 : Int32)).toNatClampNeg ((0 : Int32)).toNatClampNeg ((12 : Int32)).toNatClampNeg)) ∧ db_HW E (db_Aw E s.heap.size) s Z_ H locs := ⟨_, rfl, hw⟩
  have h := h X8 e8
  refine lv_aload_n hx hb dX5_copyFrom_60 rfl (lv_at hl 0 rfl) ?_
  refine lv_aload_n hx hb dX5_copyFrom_61 rfl (lv_at hl 1 rfl) ?_
  refine db_geti S hw (db_kPut_l0 ho) (db_kPut_s0 ho) (C := RX5) (T := TX5) (N := 5) rfl hiX5 4 (by decide) rfl (List.mem_of_getElem? (i := 9) rfl) dX5_copyFrom_62 ?_
  refine db_puti S hw (db_kPut_l0 hq) (db_kPut_s0 hq) (C := RX5) (T := TX5) (N := 5) rfl hiX5 tyX5_ok nmX5 4 (by decide) rfl (List.mem_of_getElem? (i := 9) rfl) rfl ⟨rfl, rfl⟩ dX5_copyFrom_65 (fun H locs hw => ?_)
  obtain ⟨X9, e9, hw⟩ : ∃ Z_, Z_ = (db_si X8 q 4 (X8.1 o 4)) ∧ db_HW E (db_Aw E s.heap.size) s Z_ H locs := ⟨_, rfl, hw⟩
  have h := h X9 e9
  exact db_vret S hr hlocks hw h dX5_copyFrom_68
