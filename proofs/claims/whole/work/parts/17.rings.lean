-- DaysOnBread$Rings.smallerHolds(I)Z
abbrev rm_X6_smallerHolds : Room := { frames := 0, cells := 0, slots := 0, locals := 0 }
def wp_X6_smallerHolds_2 (Q : Int32 → db_St → Prop) : Nat → db_St → Int32 → Int32 → Prop
  | 0, _, _, _ => False
  | n_ + 1, X, x1, x2 => (((X.1 38 4) ≤ x2 → Q (0 : Int32) X) ∧ (¬ ((X.1 38 4) ≤ x2) → ((((db_ushr x1 x2) &&& (1 : Int32)) = (1 : Int32) → (vp_in (x1 &&& (((1 : Int32) <<< (x2 &&& 31)) ^^^ (-1 : Int32))) 4096 ∧ (((X.1 53 ((x1 &&& (((1 : Int32) <<< (x2 &&& 31)) ^^^ (-1 : Int32)))).toNatClampNeg) = 0 → wp_X6_smallerHolds_2 Q n_ X x1 (x2 + (1 : Int32))) ∧ (¬ ((X.1 53 ((x1 &&& (((1 : Int32) <<< (x2 &&& 31)) ^^^ (-1 : Int32)))).toNatClampNeg) = 0) → Q (1 : Int32) X)))) ∧ (¬ ((db_ushr x1 x2) &&& (1 : Int32)) = (1 : Int32) → wp_X6_smallerHolds_2 Q n_ X x1 (x2 + (1 : Int32))))))
set_option maxHeartbeats 4000000 in
set_option maxRecDepth 100000 in
theorem tw_X6_smallerHolds_2 {p : Program} {l : Launch} {e : Env} {s : State} {m : MethodId} {args : Array Value} {below : List Frame} {meth : Method} {c : Code} {E : db_E} (S : CallFix p m c cX6_smallerHolds 3 s args wsX6_smallerHolds RX6) (hr : meth.sig.returnType = (some .boolean)) (hlocks : meth.locks = false)  {Q : Int32 → db_St → Prop} : ∀ (n : Nat) (X : db_St) (x1 : Int32) (x2 : Int32) (H : Heap) (locs : List Loc) (ls : Array Slot), wp_X6_smallerHolds_2 Q n X x1 x2 → db_HW E (db_Aw E s.heap.size) s X H locs → lv_has ls 3 [(0, .ref (db_ad E 52)), (1, .int x1), (2, .int x2)] → W p l e rm_X6_smallerHolds s m args below meth c H locs 0 0 (MQ below (va_Qi Q (db_Po E) (db_Aw E s.heap.size)) args s 0 0 (db_Aw E s.heap.size)) (F0 m 2 ls []) := by
  have hx := S.1
  have hb := S.2.1
  have hiX5 : ∀ w ∈ wsX50, w ∈ wsX6_smallerHolds := fun w_ h_ => List.mem_cons_of_mem _ (List.mem_append_right _ h_)
  have hiX6 : ∀ w ∈ wsX60, w ∈ wsX6_smallerHolds := fun w_ h_ => List.mem_cons_of_mem _ (List.mem_append_left _ (List.mem_append_right _ h_))
  intro n
  induction n with
  | zero =>
    intro X x1 x2 H locs ls h hw hl
    exact False.elim h
  | succ n_ ih =>
    intro X x1 x2 H locs ls h hw hl
    unfold wp_X6_smallerHolds_2 at h
    refine lv_iload_n hx hb dX6_smallerHolds_2 rfl (lv_at hl 2 rfl) ?_
    refine lv_aload_n hx hb dX6_smallerHolds_3 rfl (lv_at hl 0 rfl) ?_
    refine db_getr S hw (Nat.le_of_ble_eq_true rfl) db_s52 (C := RX6) (T := TX6) (N := 2) rfl hiX6 0 (by decide) (r := 38) rfl (List.mem_of_getElem? (i := 1) rfl) dX6_smallerHolds_4 ?_
    refine db_getiN S hw (Nat.le_of_ble_eq_true rfl) db_s38 (C := RX5) (T := TX5) (N := 5) rfl hiX5 4 (by decide) rfl (List.mem_of_getElem? (i := 28) rfl) dX6_smallerHolds_7 ?_
    refine lv_icmp_ge (tgt := 45) hx hb dX6_smallerHolds_10 (by decide) (fun c4 => ?_) (fun c4 => ?_)
    · have h := h.1 c4
      refine lv_iconst (v := (0 : Int32)) hx hb dX6_smallerHolds_45 (by decide) ?_
      exact db_zret S hr hlocks rfl hw h dX6_smallerHolds_46
    · have h := h.2 c4
      refine lv_iload_n hx hb dX6_smallerHolds_13 rfl (lv_at hl 1 rfl) ?_
      refine lv_iload_n hx hb dX6_smallerHolds_14 rfl (lv_at hl 2 rfl) ?_
      refine lv_iushr (v := (db_ushr x1 x2)) hx hb dX6_smallerHolds_15 rfl ?_
      refine lv_iconst (v := (1 : Int32)) hx hb dX6_smallerHolds_16 (by decide) ?_
      refine lv_iand hx hb dX6_smallerHolds_17 ?_
      refine lv_iconst (v := (1 : Int32)) hx hb dX6_smallerHolds_18 (by decide) ?_
      refine lv_icmp_ne (tgt := 39) hx hb dX6_smallerHolds_19 (by decide) (fun c3 => ?_) (fun c3 => ?_)
      · have h := h.2 c3
        refine lv_iinc (v := (x2 + (1 : Int32))) (lv' := [(2, .int (x2 + (1 : Int32))), (0, .ref (db_ad E 52)), (1, .int x1)]) hx hb dX6_smallerHolds_39 hl (k := 2) rfl (congrArg (fun z_ => x2 + z_) (show Int32.ofInt (1) = (1 : Int32) by decide)) (by decide) rfl (fun ls hl => ?_)
        refine lv_goto (tgt := 2) hx hb dX6_smallerHolds_42 (by decide) ?_
        exact ih _ _ _ _ _ _ h hw (lv_sub hl [1, 2, 0] rfl)
      · have h := h.1 c3
        refine lv_aload_n hx hb dX6_smallerHolds_22 rfl (lv_at hl 0 rfl) ?_
        refine db_getr S hw (Nat.le_of_ble_eq_true rfl) db_s52 (C := RX6) (T := TX6) (N := 2) rfl hiX6 1 (by decide) (r := 53) rfl (List.mem_of_getElem? (i := 2) rfl) dX6_smallerHolds_23 ?_
        refine lv_iload_n hx hb dX6_smallerHolds_26 rfl (lv_at hl 1 rfl) ?_
        refine lv_iconst (v := (1 : Int32)) hx hb dX6_smallerHolds_27 (by decide) ?_
        refine lv_iload_n hx hb dX6_smallerHolds_28 rfl (lv_at hl 2 rfl) ?_
        refine lv_ishl hx hb dX6_smallerHolds_29 ?_
        refine lv_iconst (v := (-1 : Int32)) hx hb dX6_smallerHolds_30 (by decide) ?_
        refine lv_ixor hx hb dX6_smallerHolds_31 ?_
        refine lv_iand hx hb dX6_smallerHolds_32 ?_
        obtain ⟨g1, h⟩ := h
        refine db_zald S hw (Nat.le_of_ble_eq_true rfl) db_s53 g1 dX6_smallerHolds_33 ?_
        refine lv_if_eq (tgt := 39) hx hb dX6_smallerHolds_34 (by decide) (fun c2 => ?_) (fun c2 => ?_)
        · have h := h.1 c2
          refine lv_iinc (v := (x2 + (1 : Int32))) (lv' := [(2, .int (x2 + (1 : Int32))), (0, .ref (db_ad E 52)), (1, .int x1)]) hx hb dX6_smallerHolds_39 hl (k := 2) rfl (congrArg (fun z_ => x2 + z_) (show Int32.ofInt (1) = (1 : Int32) by decide)) (by decide) rfl (fun ls hl => ?_)
          refine lv_goto (tgt := 2) hx hb dX6_smallerHolds_42 (by decide) ?_
          exact ih _ _ _ _ _ _ h hw (lv_sub hl [1, 2, 0] rfl)
        · have h := h.2 c2
          refine lv_iconst (v := (1 : Int32)) hx hb dX6_smallerHolds_37 (by decide) ?_
          exact db_zret S hr hlocks rfl hw h dX6_smallerHolds_38
def wp_X6_smallerHolds  (X : db_St) (x1 : Int32) (Q : Int32 → db_St → Prop) : Prop := (∃ f_, wp_X6_smallerHolds_2 Q f_ X x1 (0 : Int32))
set_option maxHeartbeats 4000000 in
set_option maxRecDepth 100000 in
theorem ct_X6_smallerHolds {l : Launch} {E : db_E}  {X : db_St} {x1 : Int32} {Q : Int32 → db_St → Prop} (h : wp_X6_smallerHolds  X x1 Q) : db_MI l E yX6_smallerHolds wsX6_smallerHolds rm_X6_smallerHolds X [.ref (db_ad E 52), .int x1] Q := by
  intro sz
  unfold wp_X6_smallerHolds at h
  refine Met.ofW (cc := cX6_smallerHolds) (maxL := 3) (ret := (some .boolean)) (by decide) rfl ?_
  intro p e s m args below meth c s₁ B hml hv
  obtain ⟨rfl, hsz, hU⟩ := hv
  subst hsz
  have S : CallFix p m c cX6_smallerHolds 3 s ([.ref (db_ad E 52), .int x1] : List Value).toArray wsX6_smallerHolds RX6 := ⟨B.exec, B.bytes, hml, findClass_of_methodNamed B.named, atoms_spec (ws := wsX6_smallerHolds) B.pre⟩
  have hx := S.1
  have hb := S.2.1
  have hr := B.returns
  have hlocks := B.notSynchronized
  have hw := db_start hU
  have hiX5 : ∀ w ∈ wsX50, w ∈ wsX6_smallerHolds := fun w_ h_ => List.mem_cons_of_mem _ (List.mem_append_right _ h_)
  have hiX6 : ∀ w ∈ wsX60, w ∈ wsX6_smallerHolds := fun w_ h_ => List.mem_cons_of_mem _ (List.mem_append_left _ (List.mem_append_right _ h_))
  have hl := lv_entry ([.ref (db_ad E 52), .int x1]) (n := 3) (Nat.le_of_ble_eq_true rfl)
  rw [lg_entry_eq]
  generalize (lg_sl ([.ref (db_ad E 52), .int x1]) ++ List.replicate (3 - (lg_sl ([.ref (db_ad E 52), .int x1])).length) Slot.unset).toArray = ls at hl ⊢
  have hl : lv_has ls 3 [(0, .ref (db_ad E 52)), (1, .int x1)] := hl
  refine lv_iconst (v := (0 : Int32)) hx hb dX6_smallerHolds_0 (by decide) ?_
  refine lv_istore_n (lv' := [(2, .int (0 : Int32)), (0, .ref (db_ad E 52)), (1, .int x1)]) hx hb dX6_smallerHolds_1 rfl hl (by decide) rfl (fun ls hl => ?_)
  obtain ⟨f_, h⟩ := h
  exact tw_X6_smallerHolds_2 S hr hlocks   f_ _ _ _ _ _ _ h hw (lv_sub hl [1, 2, 0] rfl)
-- DaysOnBread$Rings.firstKind(I)I
abbrev rm_X6_firstKind : Room := { frames := 0, cells := 0, slots := 0, locals := 0 }
def wp_X6_firstKind_2 (Q : Int32 → db_St → Prop) : Nat → db_St → Int32 → Int32 → Prop
  | 0, _, _, _ => False
  | n_ + 1, X, x1, x2 => (((X.1 38 4) ≤ x2 → Q (0 : Int32) X) ∧ (¬ ((X.1 38 4) ≤ x2) → ((((db_ushr x1 x2) &&& (1 : Int32)) = (1 : Int32) → (vp_in x2 12 ∧ Q (X.1 39 (x2).toNatClampNeg) X)) ∧ (¬ ((db_ushr x1 x2) &&& (1 : Int32)) = (1 : Int32) → wp_X6_firstKind_2 Q n_ X x1 (x2 + (1 : Int32))))))
set_option maxHeartbeats 4000000 in
set_option maxRecDepth 100000 in
theorem tw_X6_firstKind_2 {p : Program} {l : Launch} {e : Env} {s : State} {m : MethodId} {args : Array Value} {below : List Frame} {meth : Method} {c : Code} {E : db_E} (S : CallFix p m c cX6_firstKind 3 s args wsX6_firstKind RX6) (hr : meth.sig.returnType = (some .int)) (hlocks : meth.locks = false)  {Q : Int32 → db_St → Prop} : ∀ (n : Nat) (X : db_St) (x1 : Int32) (x2 : Int32) (H : Heap) (locs : List Loc) (ls : Array Slot), wp_X6_firstKind_2 Q n X x1 x2 → db_HW E (db_Aw E s.heap.size) s X H locs → lv_has ls 3 [(0, .ref (db_ad E 52)), (1, .int x1), (2, .int x2)] → W p l e rm_X6_firstKind s m args below meth c H locs 0 0 (MQ below (va_Qi Q (db_Po E) (db_Aw E s.heap.size)) args s 0 0 (db_Aw E s.heap.size)) (F0 m 2 ls []) := by
  have hx := S.1
  have hb := S.2.1
  have hiX5 : ∀ w ∈ wsX50, w ∈ wsX6_firstKind := fun w_ h_ => List.mem_cons_of_mem _ (List.mem_append_right _ h_)
  have hiX6 : ∀ w ∈ wsX60, w ∈ wsX6_firstKind := fun w_ h_ => List.mem_cons_of_mem _ (List.mem_append_left _ (List.mem_append_right _ h_))
  intro n
  induction n with
  | zero =>
    intro X x1 x2 H locs ls h hw hl
    exact False.elim h
  | succ n_ ih =>
    intro X x1 x2 H locs ls h hw hl
    unfold wp_X6_firstKind_2 at h
    refine lv_iload_n hx hb dX6_firstKind_2 rfl (lv_at hl 2 rfl) ?_
    refine lv_aload_n hx hb dX6_firstKind_3 rfl (lv_at hl 0 rfl) ?_
    refine db_getr S hw (Nat.le_of_ble_eq_true rfl) db_s52 (C := RX6) (T := TX6) (N := 2) rfl hiX6 0 (by decide) (r := 38) rfl (List.mem_of_getElem? (i := 1) rfl) dX6_firstKind_4 ?_
    refine db_getiN S hw (Nat.le_of_ble_eq_true rfl) db_s38 (C := RX5) (T := TX5) (N := 5) rfl hiX5 4 (by decide) rfl (List.mem_of_getElem? (i := 28) rfl) dX6_firstKind_7 ?_
    refine lv_icmp_ge (tgt := 38) hx hb dX6_firstKind_10 (by decide) (fun c3 => ?_) (fun c3 => ?_)
    · have h := h.1 c3
      refine lv_iconst (v := (0 : Int32)) hx hb dX6_firstKind_38 (by decide) ?_
      exact db_iret S hr hlocks hw h dX6_firstKind_39
    · have h := h.2 c3
      refine lv_iload_n hx hb dX6_firstKind_13 rfl (lv_at hl 1 rfl) ?_
      refine lv_iload_n hx hb dX6_firstKind_14 rfl (lv_at hl 2 rfl) ?_
      refine lv_iushr (v := (db_ushr x1 x2)) hx hb dX6_firstKind_15 rfl ?_
      refine lv_iconst (v := (1 : Int32)) hx hb dX6_firstKind_16 (by decide) ?_
      refine lv_iand hx hb dX6_firstKind_17 ?_
      refine lv_iconst (v := (1 : Int32)) hx hb dX6_firstKind_18 (by decide) ?_
      refine lv_icmp_ne (tgt := 32) hx hb dX6_firstKind_19 (by decide) (fun c2 => ?_) (fun c2 => ?_)
      · have h := h.2 c2
        refine lv_iinc (v := (x2 + (1 : Int32))) (lv' := [(2, .int (x2 + (1 : Int32))), (0, .ref (db_ad E 52)), (1, .int x1)]) hx hb dX6_firstKind_32 hl (k := 2) rfl (congrArg (fun z_ => x2 + z_) (show Int32.ofInt (1) = (1 : Int32) by decide)) (by decide) rfl (fun ls hl => ?_)
        refine lv_goto (tgt := 2) hx hb dX6_firstKind_35 (by decide) ?_
        exact ih _ _ _ _ _ _ h hw (lv_sub hl [1, 2, 0] rfl)
      · have h := h.1 c2
        refine lv_aload_n hx hb dX6_firstKind_22 rfl (lv_at hl 0 rfl) ?_
        refine db_getr S hw (Nat.le_of_ble_eq_true rfl) db_s52 (C := RX6) (T := TX6) (N := 2) rfl hiX6 0 (by decide) (r := 38) rfl (List.mem_of_getElem? (i := 1) rfl) dX6_firstKind_23 ?_
        refine db_getrN S hw (Nat.le_of_ble_eq_true rfl) db_s38 (C := RX5) (T := TX5) (N := 5) rfl hiX5 0 (by decide) (r := 39) rfl (List.mem_of_getElem? (i := 21) rfl) dX6_firstKind_26 ?_
        refine lv_iload_n hx hb dX6_firstKind_29 rfl (lv_at hl 2 rfl) ?_
        obtain ⟨g1, h⟩ := h
        refine db_iald S hw (Nat.le_of_ble_eq_true rfl) db_s39 g1 dX6_firstKind_30 ?_
        exact db_iret S hr hlocks hw h dX6_firstKind_31
def wp_X6_firstKind  (X : db_St) (x1 : Int32) (Q : Int32 → db_St → Prop) : Prop := (∃ f_, wp_X6_firstKind_2 Q f_ X x1 (0 : Int32))
set_option maxHeartbeats 4000000 in
set_option maxRecDepth 100000 in
theorem ct_X6_firstKind {l : Launch} {E : db_E}  {X : db_St} {x1 : Int32} {Q : Int32 → db_St → Prop} (h : wp_X6_firstKind  X x1 Q) : db_MI l E yX6_firstKind wsX6_firstKind rm_X6_firstKind X [.ref (db_ad E 52), .int x1] Q := by
  intro sz
  unfold wp_X6_firstKind at h
  refine Met.ofW (cc := cX6_firstKind) (maxL := 3) (ret := (some .int)) (by decide) rfl ?_
  intro p e s m args below meth c s₁ B hml hv
  obtain ⟨rfl, hsz, hU⟩ := hv
  subst hsz
  have S : CallFix p m c cX6_firstKind 3 s ([.ref (db_ad E 52), .int x1] : List Value).toArray wsX6_firstKind RX6 := ⟨B.exec, B.bytes, hml, findClass_of_methodNamed B.named, atoms_spec (ws := wsX6_firstKind) B.pre⟩
  have hx := S.1
  have hb := S.2.1
  have hr := B.returns
  have hlocks := B.notSynchronized
  have hw := db_start hU
  have hiX5 : ∀ w ∈ wsX50, w ∈ wsX6_firstKind := fun w_ h_ => List.mem_cons_of_mem _ (List.mem_append_right _ h_)
  have hiX6 : ∀ w ∈ wsX60, w ∈ wsX6_firstKind := fun w_ h_ => List.mem_cons_of_mem _ (List.mem_append_left _ (List.mem_append_right _ h_))
  have hl := lv_entry ([.ref (db_ad E 52), .int x1]) (n := 3) (Nat.le_of_ble_eq_true rfl)
  rw [lg_entry_eq]
  generalize (lg_sl ([.ref (db_ad E 52), .int x1]) ++ List.replicate (3 - (lg_sl ([.ref (db_ad E 52), .int x1])).length) Slot.unset).toArray = ls at hl ⊢
  have hl : lv_has ls 3 [(0, .ref (db_ad E 52)), (1, .int x1)] := hl
  refine lv_iconst (v := (0 : Int32)) hx hb dX6_firstKind_0 (by decide) ?_
  refine lv_istore_n (lv' := [(2, .int (0 : Int32)), (0, .ref (db_ad E 52)), (1, .int x1)]) hx hb dX6_firstKind_1 rfl hl (by decide) rfl (fun ls hl => ?_)
  obtain ⟨f_, h⟩ := h
  exact tw_X6_firstKind_2 S hr hlocks   f_ _ _ _ _ _ _ h hw (lv_sub hl [1, 2, 0] rfl)
-- DaysOnBread$Rings.puttingFrom(II)I
abbrev rm_X6_puttingFrom : Room := { frames := 0, cells := 0, slots := 0, locals := 0 }
def wp_X6_puttingFrom_2 (Q : Int32 → db_St → Prop) : Nat → db_St → Int32 → Int32 → Int32 → Prop
  | 0, _, _, _, _ => False
  | n_ + 1, X, x1, x2, x3 => (((X.1 38 4) ≤ x3 → Q (-9 : Int32) X) ∧ (¬ ((X.1 38 4) ≤ x3) → ((((db_ushr x2 x3) &&& (1 : Int32)) = (1 : Int32) → (vp_in x3 12 ∧ (((X.1 39 (x3).toNatClampNeg) = x1 → Q x3 X) ∧ (¬ (X.1 39 (x3).toNatClampNeg) = x1 → wp_X6_puttingFrom_2 Q n_ X x1 x2 (x3 + (1 : Int32)))))) ∧ (¬ ((db_ushr x2 x3) &&& (1 : Int32)) = (1 : Int32) → wp_X6_puttingFrom_2 Q n_ X x1 x2 (x3 + (1 : Int32))))))
set_option maxHeartbeats 4000000 in
set_option maxRecDepth 100000 in
theorem tw_X6_puttingFrom_2 {p : Program} {l : Launch} {e : Env} {s : State} {m : MethodId} {args : Array Value} {below : List Frame} {meth : Method} {c : Code} {E : db_E} (S : CallFix p m c cX6_puttingFrom 4 s args wsX6_puttingFrom RX6) (hr : meth.sig.returnType = (some .int)) (hlocks : meth.locks = false)  {Q : Int32 → db_St → Prop} : ∀ (n : Nat) (X : db_St) (x1 : Int32) (x2 : Int32) (x3 : Int32) (H : Heap) (locs : List Loc) (ls : Array Slot), wp_X6_puttingFrom_2 Q n X x1 x2 x3 → db_HW E (db_Aw E s.heap.size) s X H locs → lv_has ls 4 [(0, .ref (db_ad E 52)), (1, .int x1), (2, .int x2), (3, .int x3)] → W p l e rm_X6_puttingFrom s m args below meth c H locs 0 0 (MQ below (va_Qi Q (db_Po E) (db_Aw E s.heap.size)) args s 0 0 (db_Aw E s.heap.size)) (F0 m 2 ls []) := by
  have hx := S.1
  have hb := S.2.1
  have hiX5 : ∀ w ∈ wsX50, w ∈ wsX6_puttingFrom := fun w_ h_ => List.mem_cons_of_mem _ (List.mem_append_right _ h_)
  have hiX6 : ∀ w ∈ wsX60, w ∈ wsX6_puttingFrom := fun w_ h_ => List.mem_cons_of_mem _ (List.mem_append_left _ (List.mem_append_right _ h_))
  intro n
  induction n with
  | zero =>
    intro X x1 x2 x3 H locs ls h hw hl
    exact False.elim h
  | succ n_ ih =>
    intro X x1 x2 x3 H locs ls h hw hl
    unfold wp_X6_puttingFrom_2 at h
    refine lv_iload_n hx hb dX6_puttingFrom_2 rfl (lv_at hl 3 rfl) ?_
    refine lv_aload_n hx hb dX6_puttingFrom_3 rfl (lv_at hl 0 rfl) ?_
    refine db_getr S hw (Nat.le_of_ble_eq_true rfl) db_s52 (C := RX6) (T := TX6) (N := 2) rfl hiX6 0 (by decide) (r := 38) rfl (List.mem_of_getElem? (i := 1) rfl) dX6_puttingFrom_4 ?_
    refine db_getiN S hw (Nat.le_of_ble_eq_true rfl) db_s38 (C := RX5) (T := TX5) (N := 5) rfl hiX5 4 (by decide) rfl (List.mem_of_getElem? (i := 28) rfl) dX6_puttingFrom_7 ?_
    refine lv_icmp_ge (tgt := 43) hx hb dX6_puttingFrom_10 (by decide) (fun c4 => ?_) (fun c4 => ?_)
    · have h := h.1 c4
      refine lv_bipush (v := (-9 : Int32)) hx hb dX6_puttingFrom_43 (by decide) ?_
      exact db_iret S hr hlocks hw h dX6_puttingFrom_45
    · have h := h.2 c4
      refine lv_iload_n hx hb dX6_puttingFrom_13 rfl (lv_at hl 2 rfl) ?_
      refine lv_iload_n hx hb dX6_puttingFrom_14 rfl (lv_at hl 3 rfl) ?_
      refine lv_iushr (v := (db_ushr x2 x3)) hx hb dX6_puttingFrom_15 rfl ?_
      refine lv_iconst (v := (1 : Int32)) hx hb dX6_puttingFrom_16 (by decide) ?_
      refine lv_iand hx hb dX6_puttingFrom_17 ?_
      refine lv_iconst (v := (1 : Int32)) hx hb dX6_puttingFrom_18 (by decide) ?_
      refine lv_icmp_ne (tgt := 37) hx hb dX6_puttingFrom_19 (by decide) (fun c3 => ?_) (fun c3 => ?_)
      · have h := h.2 c3
        refine lv_iinc (v := (x3 + (1 : Int32))) (lv' := [(3, .int (x3 + (1 : Int32))), (0, .ref (db_ad E 52)), (1, .int x1), (2, .int x2)]) hx hb dX6_puttingFrom_37 hl (k := 3) rfl (congrArg (fun z_ => x3 + z_) (show Int32.ofInt (1) = (1 : Int32) by decide)) (by decide) rfl (fun ls hl => ?_)
        refine lv_goto (tgt := 2) hx hb dX6_puttingFrom_40 (by decide) ?_
        exact ih _ _ _ _ _ _ _ h hw (lv_sub hl [1, 2, 3, 0] rfl)
      · have h := h.1 c3
        refine lv_aload_n hx hb dX6_puttingFrom_22 rfl (lv_at hl 0 rfl) ?_
        refine db_getr S hw (Nat.le_of_ble_eq_true rfl) db_s52 (C := RX6) (T := TX6) (N := 2) rfl hiX6 0 (by decide) (r := 38) rfl (List.mem_of_getElem? (i := 1) rfl) dX6_puttingFrom_23 ?_
        refine db_getrN S hw (Nat.le_of_ble_eq_true rfl) db_s38 (C := RX5) (T := TX5) (N := 5) rfl hiX5 0 (by decide) (r := 39) rfl (List.mem_of_getElem? (i := 21) rfl) dX6_puttingFrom_26 ?_
        refine lv_iload_n hx hb dX6_puttingFrom_29 rfl (lv_at hl 3 rfl) ?_
        obtain ⟨g1, h⟩ := h
        refine db_iald S hw (Nat.le_of_ble_eq_true rfl) db_s39 g1 dX6_puttingFrom_30 ?_
        refine lv_iload_n hx hb dX6_puttingFrom_31 rfl (lv_at hl 1 rfl) ?_
        refine lv_icmp_ne (tgt := 37) hx hb dX6_puttingFrom_32 (by decide) (fun c2 => ?_) (fun c2 => ?_)
        · have h := h.2 c2
          refine lv_iinc (v := (x3 + (1 : Int32))) (lv' := [(3, .int (x3 + (1 : Int32))), (0, .ref (db_ad E 52)), (1, .int x1), (2, .int x2)]) hx hb dX6_puttingFrom_37 hl (k := 3) rfl (congrArg (fun z_ => x3 + z_) (show Int32.ofInt (1) = (1 : Int32) by decide)) (by decide) rfl (fun ls hl => ?_)
          refine lv_goto (tgt := 2) hx hb dX6_puttingFrom_40 (by decide) ?_
          exact ih _ _ _ _ _ _ _ h hw (lv_sub hl [1, 2, 3, 0] rfl)
        · have h := h.1 c2
          refine lv_iload_n hx hb dX6_puttingFrom_35 rfl (lv_at hl 3 rfl) ?_
          exact db_iret S hr hlocks hw h dX6_puttingFrom_36
def wp_X6_puttingFrom  (X : db_St) (x1 : Int32) (x2 : Int32) (Q : Int32 → db_St → Prop) : Prop := (∃ f_, wp_X6_puttingFrom_2 Q f_ X x1 x2 (0 : Int32))
set_option maxHeartbeats 4000000 in
set_option maxRecDepth 100000 in
theorem ct_X6_puttingFrom {l : Launch} {E : db_E}  {X : db_St} {x1 : Int32} {x2 : Int32} {Q : Int32 → db_St → Prop} (h : wp_X6_puttingFrom  X x1 x2 Q) : db_MI l E yX6_puttingFrom wsX6_puttingFrom rm_X6_puttingFrom X [.ref (db_ad E 52), .int x1, .int x2] Q := by
  intro sz
  unfold wp_X6_puttingFrom at h
  refine Met.ofW (cc := cX6_puttingFrom) (maxL := 4) (ret := (some .int)) (by decide) rfl ?_
  intro p e s m args below meth c s₁ B hml hv
  obtain ⟨rfl, hsz, hU⟩ := hv
  subst hsz
  have S : CallFix p m c cX6_puttingFrom 4 s ([.ref (db_ad E 52), .int x1, .int x2] : List Value).toArray wsX6_puttingFrom RX6 := ⟨B.exec, B.bytes, hml, findClass_of_methodNamed B.named, atoms_spec (ws := wsX6_puttingFrom) B.pre⟩
  have hx := S.1
  have hb := S.2.1
  have hr := B.returns
  have hlocks := B.notSynchronized
  have hw := db_start hU
  have hiX5 : ∀ w ∈ wsX50, w ∈ wsX6_puttingFrom := fun w_ h_ => List.mem_cons_of_mem _ (List.mem_append_right _ h_)
  have hiX6 : ∀ w ∈ wsX60, w ∈ wsX6_puttingFrom := fun w_ h_ => List.mem_cons_of_mem _ (List.mem_append_left _ (List.mem_append_right _ h_))
  have hl := lv_entry ([.ref (db_ad E 52), .int x1, .int x2]) (n := 4) (Nat.le_of_ble_eq_true rfl)
  rw [lg_entry_eq]
  generalize (lg_sl ([.ref (db_ad E 52), .int x1, .int x2]) ++ List.replicate (4 - (lg_sl ([.ref (db_ad E 52), .int x1, .int x2])).length) Slot.unset).toArray = ls at hl ⊢
  have hl : lv_has ls 4 [(0, .ref (db_ad E 52)), (1, .int x1), (2, .int x2)] := hl
  refine lv_iconst (v := (0 : Int32)) hx hb dX6_puttingFrom_0 (by decide) ?_
  refine lv_istore_n (lv' := [(3, .int (0 : Int32)), (0, .ref (db_ad E 52)), (1, .int x1), (2, .int x2)]) hx hb dX6_puttingFrom_1 rfl hl (by decide) rfl (fun ls hl => ?_)
  obtain ⟨f_, h⟩ := h
  exact tw_X6_puttingFrom_2 S hr hlocks   f_ _ _ _ _ _ _ _ h hw (lv_sub hl [1, 2, 3, 0] rfl)
-- DaysOnBread$Rings.isRing(I)Z
abbrev rm_X6_isRing : Room := { frames := 1, cells := 0, slots := 0, locals := 23 }
def wp_X6_isRing_23 (Q : Int32 → db_St → Prop) : Nat → db_St → Int32 → Int32 → Int32 → Int32 → Int64 → Int64 → Int32 → Prop
  | 0, _, _, _, _, _, _, _, _ => False
  | n_ + 1, X, x2, x3, x4, x5, x6, x8, x10 => (((6 : Int32) ≤ x10 → ((x3 = x2 → ((x4 = 0 → ((0 ≤ (lg_cmp x6 x8) → Q (0 : Int32) X) ∧ (¬ (0 ≤ (lg_cmp x6 x8)) → Q (1 : Int32) X))) ∧ (¬ x4 = 0 → Q (0 : Int32) X))) ∧ (¬ x3 = x2 → Q (0 : Int32) X))) ∧ (¬ ((6 : Int32) ≤ x10) → ((((db_ushr x5 x3) &&& (1 : Int32)) = 0 → wp_X6_puttingFrom X x3 x4 (fun r7 X7 => ((r7 < 0 → Q (0 : Int32) X7) ∧ (¬ (r7 < 0) → ((r7 < (12 : Int32) → (∀ z8, z8 = (x4 &&& (((1 : Int32) <<< (r7 &&& 31)) ^^^ (-1 : Int32))) → (vp_in r7 12 ∧ (∀ z10, z10 = (x6 * (((X7.1 42 (r7).toNatClampNeg)).toInt64)) → (vp_in r7 12 ∧ (∀ z12, z12 = (x8 * (((X7.1 40 (r7).toNatClampNeg)).toInt64)) → (vp_in r7 12 ∧ wp_X6_isRing_23 Q n_ X7 x2 (X7.1 41 (r7).toNatClampNeg) z8 (x5 ||| ((1 : Int32) <<< (x3 &&& 31))) z10 z12 (x10 + (1 : Int32))))))))) ∧ (¬ (r7 < (12 : Int32)) → Q (0 : Int32) X7)))))) ∧ (¬ ((db_ushr x5 x3) &&& (1 : Int32)) = 0 → ((x3 = x2 → ((x4 = 0 → ((0 ≤ (lg_cmp x6 x8) → Q (0 : Int32) X) ∧ (¬ (0 ≤ (lg_cmp x6 x8)) → Q (1 : Int32) X))) ∧ (¬ x4 = 0 → Q (0 : Int32) X))) ∧ (¬ x3 = x2 → Q (0 : Int32) X))))))
set_option maxHeartbeats 4000000 in
set_option maxRecDepth 100000 in
theorem tw_X6_isRing_23 {p : Program} {l : Launch} {e : Env} {s : State} {m : MethodId} {args : Array Value} {below : List Frame} {meth : Method} {c : Code} {E : db_E} (S : CallFix p m c cX6_isRing 12 s args wsX6_isRing RX6) (hr : meth.sig.returnType = (some .boolean)) (hlocks : meth.locks = false)  {Q : Int32 → db_St → Prop} : ∀ (n : Nat) (X : db_St) (x2 : Int32) (x3 : Int32) (x4 : Int32) (x5 : Int32) (x6 : Int64) (x8 : Int64) (x10 : Int32) (H : Heap) (locs : List Loc) (ls : Array Slot), wp_X6_isRing_23 Q n X x2 x3 x4 x5 x6 x8 x10 → db_HW E (db_Aw E s.heap.size) s X H locs → lv_has ls 12 [(0, .ref (db_ad E 52)), (2, .int x2), (3, .int x3), (4, .int x4), (5, .int x5), (6, .long x6), (8, .long x8), (10, .int x10)] → W p l e rm_X6_isRing s m args below meth c H locs 0 0 (MQ below (va_Qi Q (db_Po E) (db_Aw E s.heap.size)) args s 0 0 (db_Aw E s.heap.size)) (F0 m 23 ls []) := by
  have hx := S.1
  have hb := S.2.1
  have hiX5 : ∀ w ∈ wsX50, w ∈ wsX6_isRing := fun w_ h_ => List.mem_cons_of_mem _ (List.mem_append_right _ h_)
  have hiX6 : ∀ w ∈ wsX60, w ∈ wsX6_isRing := fun w_ h_ => List.mem_cons_of_mem _ (List.mem_append_left _ (List.mem_append_right _ h_))
  intro n
  induction n with
  | zero =>
    intro X x2 x3 x4 x5 x6 x8 x10 H locs ls h hw hl
    exact False.elim h
  | succ n_ ih =>
    intro X x2 x3 x4 x5 x6 x8 x10 H locs ls h hw hl
    unfold wp_X6_isRing_23 at h
    refine lv_iload hx hb dX6_isRing_23 (lv_at hl 7 rfl) ?_
    refine lv_bipush (v := (6 : Int32)) hx hb dX6_isRing_25 (by decide) ?_
    refine lv_icmp_ge (tgt := 130) hx hb dX6_isRing_27 (by decide) (fun c17 => ?_) (fun c17 => ?_)
    · have h := h.1 c17
      refine lv_iload_n hx hb dX6_isRing_130 rfl (lv_at hl 2 rfl) ?_
      refine lv_iload_n hx hb dX6_isRing_131 rfl (lv_at hl 1 rfl) ?_
      refine lv_icmp_ne (tgt := 152) hx hb dX6_isRing_132 (by decide) (fun c3 => ?_) (fun c3 => ?_)
      · have h := h.2 c3
        refine lv_iconst (v := (0 : Int32)) hx hb dX6_isRing_152 (by decide) ?_
        exact db_zret S hr hlocks rfl hw h dX6_isRing_153
      · have h := h.1 c3
        refine lv_iload hx hb dX6_isRing_135 (lv_at hl 3 rfl) ?_
        refine lv_if_ne (tgt := 152) hx hb dX6_isRing_137 (by decide) (fun c2 => ?_) (fun c2 => ?_)
        · have h := h.2 c2
          refine lv_iconst (v := (0 : Int32)) hx hb dX6_isRing_152 (by decide) ?_
          exact db_zret S hr hlocks rfl hw h dX6_isRing_153
        · have h := h.1 c2
          refine lv_lload hx hb dX6_isRing_140 (lv_at hl 5 rfl) ?_
          refine lv_lload hx hb dX6_isRing_142 (lv_at hl 6 rfl) ?_
          refine W.lcmp hx hb dX6_isRing_144 ?_
          refine lv_if_ge (tgt := 152) hx hb dX6_isRing_145 (by decide) (fun c1 => ?_) (fun c1 => ?_)
          · have h := h.1 c1
            refine lv_iconst (v := (0 : Int32)) hx hb dX6_isRing_152 (by decide) ?_
            exact db_zret S hr hlocks rfl hw h dX6_isRing_153
          · have h := h.2 c1
            refine lv_iconst (v := (1 : Int32)) hx hb dX6_isRing_148 (by decide) ?_
            refine lv_goto (tgt := 153) hx hb dX6_isRing_149 (by decide) ?_
            exact db_zret S hr hlocks rfl hw h dX6_isRing_153
    · have h := h.2 c17
      refine lv_iload hx hb dX6_isRing_30 (lv_at hl 4 rfl) ?_
      refine lv_iload_n hx hb dX6_isRing_32 rfl (lv_at hl 2 rfl) ?_
      refine lv_iushr (v := (db_ushr x5 x3)) hx hb dX6_isRing_33 rfl ?_
      refine lv_iconst (v := (1 : Int32)) hx hb dX6_isRing_34 (by decide) ?_
      refine lv_iand hx hb dX6_isRing_35 ?_
      refine lv_if_ne (tgt := 130) hx hb dX6_isRing_36 (by decide) (fun c16 => ?_) (fun c16 => ?_)
      · have h := h.2 c16
        refine lv_iload_n hx hb dX6_isRing_130 rfl (lv_at hl 2 rfl) ?_
        refine lv_iload_n hx hb dX6_isRing_131 rfl (lv_at hl 1 rfl) ?_
        refine lv_icmp_ne (tgt := 152) hx hb dX6_isRing_132 (by decide) (fun c6 => ?_) (fun c6 => ?_)
        · have h := h.2 c6
          refine lv_iconst (v := (0 : Int32)) hx hb dX6_isRing_152 (by decide) ?_
          exact db_zret S hr hlocks rfl hw h dX6_isRing_153
        · have h := h.1 c6
          refine lv_iload hx hb dX6_isRing_135 (lv_at hl 3 rfl) ?_
          refine lv_if_ne (tgt := 152) hx hb dX6_isRing_137 (by decide) (fun c5 => ?_) (fun c5 => ?_)
          · have h := h.2 c5
            refine lv_iconst (v := (0 : Int32)) hx hb dX6_isRing_152 (by decide) ?_
            exact db_zret S hr hlocks rfl hw h dX6_isRing_153
          · have h := h.1 c5
            refine lv_lload hx hb dX6_isRing_140 (lv_at hl 5 rfl) ?_
            refine lv_lload hx hb dX6_isRing_142 (lv_at hl 6 rfl) ?_
            refine W.lcmp hx hb dX6_isRing_144 ?_
            refine lv_if_ge (tgt := 152) hx hb dX6_isRing_145 (by decide) (fun c4 => ?_) (fun c4 => ?_)
            · have h := h.1 c4
              refine lv_iconst (v := (0 : Int32)) hx hb dX6_isRing_152 (by decide) ?_
              exact db_zret S hr hlocks rfl hw h dX6_isRing_153
            · have h := h.2 c4
              refine lv_iconst (v := (1 : Int32)) hx hb dX6_isRing_148 (by decide) ?_
              refine lv_goto (tgt := 153) hx hb dX6_isRing_149 (by decide) ?_
              exact db_zret S hr hlocks rfl hw h dX6_isRing_153
      · have h := h.1 c16
        refine lv_aload_n hx hb dX6_isRing_39 rfl (lv_at hl 0 rfl) ?_
        refine lv_iload_n hx hb dX6_isRing_40 rfl (lv_at hl 2 rfl) ?_
        refine lv_iload hx hb dX6_isRing_41 (lv_at hl 3 rfl) ?_
        refine db_callVi S hw (Nat.le_of_ble_eq_true rfl) db_s52 (C := RX6) (T := TX6) (N := 2) (As := [.int x3, .int x4]) rfl (ct_X6_puttingFrom  h) gX6_isRing_X6_puttingFrom rfl ⟨rfl, rfl, Nat.le_of_ble_eq_true rfl, Nat.le_of_ble_eq_true rfl⟩ 2 rfl (by decide +kernel) hl.1 rfl (Nat.le_of_ble_eq_true rfl) dX6_isRing_43 ⟨Nat.zero_le _, Nat.zero_le _⟩ (fun r7 X7 H locs h hw => ?_)
        refine lv_istore (lv' := [(11, .int r7), (0, .ref (db_ad E 52)), (2, .int x2), (3, .int x3), (4, .int x4), (5, .int x5), (6, .long x6), (8, .long x8), (10, .int x10)]) hx hb dX6_isRing_46 hl (by decide) rfl (fun ls hl => ?_)
        refine lv_iload hx hb dX6_isRing_48 (lv_at hl 0 rfl) ?_
        refine lv_if_lt (tgt := 60) hx hb dX6_isRing_50 (by decide) (fun c15 => ?_) (fun c15 => ?_)
        · have h := h.1 c15
          refine lv_iconst (v := (0 : Int32)) hx hb dX6_isRing_60 (by decide) ?_
          exact db_zret S hr hlocks rfl hw h dX6_isRing_61
        · have h := h.2 c15
          refine lv_iload hx hb dX6_isRing_53 (lv_at hl 0 rfl) ?_
          refine lv_bipush (v := (12 : Int32)) hx hb dX6_isRing_55 (by decide) ?_
          refine lv_icmp_lt (tgt := 62) hx hb dX6_isRing_57 (by decide) (fun c14 => ?_) (fun c14 => ?_)
          · have h := h.1 c14
            refine lv_iload hx hb dX6_isRing_62 (lv_at hl 5 rfl) ?_
            refine lv_iconst (v := (1 : Int32)) hx hb dX6_isRing_64 (by decide) ?_
            refine lv_iload_n hx hb dX6_isRing_65 rfl (lv_at hl 3 rfl) ?_
            refine lv_ishl hx hb dX6_isRing_66 ?_
            refine lv_ior hx hb dX6_isRing_67 ?_
            refine lv_istore (lv' := [(5, .int (x5 ||| ((1 : Int32) <<< (x3 &&& 31)))), (11, .int r7), (0, .ref (db_ad E 52)), (2, .int x2), (3, .int x3), (4, .int x4), (6, .long x6), (8, .long x8), (10, .int x10)]) hx hb dX6_isRing_68 hl (by decide) rfl (fun ls hl => ?_)
            refine lv_iload hx hb dX6_isRing_70 (lv_at hl 5 rfl) ?_
            refine lv_iconst (v := (1 : Int32)) hx hb dX6_isRing_72 (by decide) ?_
            refine lv_iload hx hb dX6_isRing_73 (lv_at hl 1 rfl) ?_
            refine lv_ishl hx hb dX6_isRing_75 ?_
            refine lv_iconst (v := (-1 : Int32)) hx hb dX6_isRing_76 (by decide) ?_
            refine lv_ixor hx hb dX6_isRing_77 ?_
            refine lv_iand hx hb dX6_isRing_78 ?_
            refine lv_topi (fun z8 e8 => ?_)
            have h := h z8 e8
            refine lv_istore (lv' := [(4, .int z8), (5, .int (x5 ||| ((1 : Int32) <<< (x3 &&& 31)))), (11, .int r7), (0, .ref (db_ad E 52)), (2, .int x2), (3, .int x3), (6, .long x6), (8, .long x8), (10, .int x10)]) hx hb dX6_isRing_79 hl (by decide) rfl (fun ls hl => ?_)
            refine lv_lload hx hb dX6_isRing_81 (lv_at hl 6 rfl) ?_
            refine lv_aload_n hx hb dX6_isRing_83 rfl (lv_at hl 3 rfl) ?_
            refine db_getr S hw (Nat.le_of_ble_eq_true rfl) db_s52 (C := RX6) (T := TX6) (N := 2) rfl hiX6 0 (by decide) (r := 38) rfl (List.mem_of_getElem? (i := 1) rfl) dX6_isRing_84 ?_
            refine db_getrN S hw (Nat.le_of_ble_eq_true rfl) db_s38 (C := RX5) (T := TX5) (N := 5) rfl hiX5 3 (by decide) (r := 42) rfl (List.mem_of_getElem? (i := 27) rfl) dX6_isRing_87 ?_
            refine lv_iload hx hb dX6_isRing_90 (lv_at hl 2 rfl) ?_
            obtain ⟨g9, h⟩ := h
            refine db_iald S hw (Nat.le_of_ble_eq_true rfl) db_s42 g9 dX6_isRing_92 ?_
            refine lv_i2l (v := (((X7.1 42 (r7).toNatClampNeg)).toInt64)) hx hb dX6_isRing_93 rfl ?_
            refine lv_lmul hx hb dX6_isRing_94 ?_
            refine lv_topl (fun z10 e10 => ?_)
            have h := h z10 e10
            refine lv_lstore (lv' := [(6, .long z10), (4, .int z8), (5, .int (x5 ||| ((1 : Int32) <<< (x3 &&& 31)))), (11, .int r7), (0, .ref (db_ad E 52)), (2, .int x2), (3, .int x3), (8, .long x8), (10, .int x10)]) hx hb dX6_isRing_95 hl (by decide) rfl (fun ls hl => ?_)
            refine lv_lload hx hb dX6_isRing_97 (lv_at hl 7 rfl) ?_
            refine lv_aload_n hx hb dX6_isRing_99 rfl (lv_at hl 4 rfl) ?_
            refine db_getr S hw (Nat.le_of_ble_eq_true rfl) db_s52 (C := RX6) (T := TX6) (N := 2) rfl hiX6 0 (by decide) (r := 38) rfl (List.mem_of_getElem? (i := 1) rfl) dX6_isRing_100 ?_
            refine db_getrN S hw (Nat.le_of_ble_eq_true rfl) db_s38 (C := RX5) (T := TX5) (N := 5) rfl hiX5 1 (by decide) (r := 40) rfl (List.mem_of_getElem? (i := 23) rfl) dX6_isRing_103 ?_
            refine lv_iload hx hb dX6_isRing_106 (lv_at hl 3 rfl) ?_
            obtain ⟨g11, h⟩ := h
            refine db_iald S hw (Nat.le_of_ble_eq_true rfl) db_s40 g11 dX6_isRing_108 ?_
            refine lv_i2l (v := (((X7.1 40 (r7).toNatClampNeg)).toInt64)) hx hb dX6_isRing_109 rfl ?_
            refine lv_lmul hx hb dX6_isRing_110 ?_
            refine lv_topl (fun z12 e12 => ?_)
            have h := h z12 e12
            refine lv_lstore (lv' := [(8, .long z12), (6, .long z10), (4, .int z8), (5, .int (x5 ||| ((1 : Int32) <<< (x3 &&& 31)))), (11, .int r7), (0, .ref (db_ad E 52)), (2, .int x2), (3, .int x3), (10, .int x10)]) hx hb dX6_isRing_111 hl (by decide) rfl (fun ls hl => ?_)
            refine lv_aload_n hx hb dX6_isRing_113 rfl (lv_at hl 5 rfl) ?_
            refine db_getr S hw (Nat.le_of_ble_eq_true rfl) db_s52 (C := RX6) (T := TX6) (N := 2) rfl hiX6 0 (by decide) (r := 38) rfl (List.mem_of_getElem? (i := 1) rfl) dX6_isRing_114 ?_
            refine db_getrN S hw (Nat.le_of_ble_eq_true rfl) db_s38 (C := RX5) (T := TX5) (N := 5) rfl hiX5 2 (by decide) (r := 41) rfl (List.mem_of_getElem? (i := 25) rfl) dX6_isRing_117 ?_
            refine lv_iload hx hb dX6_isRing_120 (lv_at hl 4 rfl) ?_
            obtain ⟨g13, h⟩ := h
            refine db_iald S hw (Nat.le_of_ble_eq_true rfl) db_s41 g13 dX6_isRing_122 ?_
            refine lv_istore_n (lv' := [(3, .int (X7.1 41 (r7).toNatClampNeg)), (8, .long z12), (6, .long z10), (4, .int z8), (5, .int (x5 ||| ((1 : Int32) <<< (x3 &&& 31)))), (11, .int r7), (0, .ref (db_ad E 52)), (2, .int x2), (10, .int x10)]) hx hb dX6_isRing_123 rfl hl (by decide) rfl (fun ls hl => ?_)
            refine lv_iinc (v := (x10 + (1 : Int32))) (lv' := [(10, .int (x10 + (1 : Int32))), (3, .int (X7.1 41 (r7).toNatClampNeg)), (8, .long z12), (6, .long z10), (4, .int z8), (5, .int (x5 ||| ((1 : Int32) <<< (x3 &&& 31)))), (11, .int r7), (0, .ref (db_ad E 52)), (2, .int x2)]) hx hb dX6_isRing_124 hl (k := 8) rfl (congrArg (fun z_ => x10 + z_) (show Int32.ofInt (1) = (1 : Int32) by decide)) (by decide) rfl (fun ls hl => ?_)
            refine lv_goto (tgt := 23) hx hb dX6_isRing_127 (by decide) ?_
            exact ih _ _ _ _ _ _ _ _ _ _ _ h hw (lv_sub hl [7, 8, 1, 4, 5, 3, 2, 0] rfl)
          · have h := h.2 c14
            refine lv_iconst (v := (0 : Int32)) hx hb dX6_isRing_60 (by decide) ?_
            exact db_zret S hr hlocks rfl hw h dX6_isRing_61
def wp_X6_isRing  (X : db_St) (x1 : Int32) (Q : Int32 → db_St → Prop) : Prop := wp_X6_firstKind X x1 (fun r1 X1 => (∃ f_, wp_X6_isRing_23 Q f_ X1 r1 r1 x1 (0 : Int32) (1 : Int64) (1 : Int64) (0 : Int32)))
set_option maxHeartbeats 4000000 in
set_option maxRecDepth 100000 in
theorem ct_X6_isRing {l : Launch} {E : db_E}  {X : db_St} {x1 : Int32} {Q : Int32 → db_St → Prop} (h : wp_X6_isRing  X x1 Q) : db_MI l E yX6_isRing wsX6_isRing rm_X6_isRing X [.ref (db_ad E 52), .int x1] Q := by
  intro sz
  unfold wp_X6_isRing at h
  refine Met.ofW (cc := cX6_isRing) (maxL := 12) (ret := (some .boolean)) (by decide) rfl ?_
  intro p e s m args below meth c s₁ B hml hv
  obtain ⟨rfl, hsz, hU⟩ := hv
  subst hsz
  have S : CallFix p m c cX6_isRing 12 s ([.ref (db_ad E 52), .int x1] : List Value).toArray wsX6_isRing RX6 := ⟨B.exec, B.bytes, hml, findClass_of_methodNamed B.named, atoms_spec (ws := wsX6_isRing) B.pre⟩
  have hx := S.1
  have hb := S.2.1
  have hr := B.returns
  have hlocks := B.notSynchronized
  have hw := db_start hU
  have hiX5 : ∀ w ∈ wsX50, w ∈ wsX6_isRing := fun w_ h_ => List.mem_cons_of_mem _ (List.mem_append_right _ h_)
  have hiX6 : ∀ w ∈ wsX60, w ∈ wsX6_isRing := fun w_ h_ => List.mem_cons_of_mem _ (List.mem_append_left _ (List.mem_append_right _ h_))
  have hl := lv_entry ([.ref (db_ad E 52), .int x1]) (n := 12) (Nat.le_of_ble_eq_true rfl)
  rw [lg_entry_eq]
  generalize (lg_sl ([.ref (db_ad E 52), .int x1]) ++ List.replicate (12 - (lg_sl ([.ref (db_ad E 52), .int x1])).length) Slot.unset).toArray = ls at hl ⊢
  have hl : lv_has ls 12 [(0, .ref (db_ad E 52)), (1, .int x1)] := hl
  refine lv_aload_n hx hb dX6_isRing_0 rfl (lv_at hl 0 rfl) ?_
  refine lv_iload_n hx hb dX6_isRing_1 rfl (lv_at hl 1 rfl) ?_
  refine db_callVi S hw (Nat.le_of_ble_eq_true rfl) db_s52 (C := RX6) (T := TX6) (N := 2) (As := [.int x1]) rfl (ct_X6_firstKind  h) gX6_isRing_X6_firstKind rfl ⟨rfl, rfl, Nat.le_of_ble_eq_true rfl, Nat.le_of_ble_eq_true rfl⟩ 1 rfl (by decide +kernel) hl.1 rfl (Nat.le_of_ble_eq_true rfl) dX6_isRing_2 ⟨Nat.zero_le _, Nat.zero_le _⟩ (fun r1 X1 H locs h hw => ?_)
  refine lv_istore_n (lv' := [(2, .int r1), (0, .ref (db_ad E 52)), (1, .int x1)]) hx hb dX6_isRing_5 rfl hl (by decide) rfl (fun ls hl => ?_)
  refine lv_iload_n hx hb dX6_isRing_6 rfl (lv_at hl 0 rfl) ?_
  refine lv_istore_n (lv' := [(3, .int r1), (2, .int r1), (0, .ref (db_ad E 52)), (1, .int x1)]) hx hb dX6_isRing_7 rfl hl (by decide) rfl (fun ls hl => ?_)
  refine lv_iload_n hx hb dX6_isRing_8 rfl (lv_at hl 3 rfl) ?_
  refine lv_istore (lv' := [(4, .int x1), (3, .int r1), (2, .int r1), (0, .ref (db_ad E 52)), (1, .int x1)]) hx hb dX6_isRing_9 hl (by decide) rfl (fun ls hl => ?_)
  refine lv_iconst (v := (0 : Int32)) hx hb dX6_isRing_11 (by decide) ?_
  refine lv_istore (lv' := [(5, .int (0 : Int32)), (4, .int x1), (3, .int r1), (2, .int r1), (0, .ref (db_ad E 52)), (1, .int x1)]) hx hb dX6_isRing_12 hl (by decide) rfl (fun ls hl => ?_)
  refine lv_lconst (v := (1 : Int64)) hx hb dX6_isRing_14 (by decide) ?_
  refine lv_lstore (lv' := [(6, .long (1 : Int64)), (5, .int (0 : Int32)), (4, .int x1), (3, .int r1), (2, .int r1), (0, .ref (db_ad E 52)), (1, .int x1)]) hx hb dX6_isRing_15 hl (by decide) rfl (fun ls hl => ?_)
  refine lv_lconst (v := (1 : Int64)) hx hb dX6_isRing_17 (by decide) ?_
  refine lv_lstore (lv' := [(8, .long (1 : Int64)), (6, .long (1 : Int64)), (5, .int (0 : Int32)), (4, .int x1), (3, .int r1), (2, .int r1), (0, .ref (db_ad E 52)), (1, .int x1)]) hx hb dX6_isRing_18 hl (by decide) rfl (fun ls hl => ?_)
  refine lv_iconst (v := (0 : Int32)) hx hb dX6_isRing_20 (by decide) ?_
  refine lv_istore (lv' := [(10, .int (0 : Int32)), (8, .long (1 : Int64)), (6, .long (1 : Int64)), (5, .int (0 : Int32)), (4, .int x1), (3, .int r1), (2, .int r1), (0, .ref (db_ad E 52)), (1, .int x1)]) hx hb dX6_isRing_21 hl (by decide) rfl (fun ls hl => ?_)
  obtain ⟨f_, h⟩ := h
  exact tw_X6_isRing_23 S hr hlocks   f_ _ _ _ _ _ _ _ _ _ _ _ h hw (lv_sub hl [7, 6, 5, 4, 3, 2, 1, 0] rfl)
-- DaysOnBread$Rings.lookThrough()V
abbrev rm_X6_lookThrough : Room := { frames := 2, cells := 0, slots := 0, locals := 54 }
def wp_X6_lookThrough_2 (Q : db_St → Prop) : Nat → db_St → Int32 → Prop
  | 0, _, _ => False
  | n_ + 1, X, x1 => ((((1 : Int32) <<< ((X.1 38 4) &&& 31)) ≤ x1 → Q X) ∧ (¬ (((1 : Int32) <<< ((X.1 38 4) &&& 31)) ≤ x1) → wp_X6_smallerHolds X x1 (fun r1 X1 => ((r1 = 0 → wp_X6_isRing X1 x1 (fun r4 X4 => ((r4 = 0 → (vp_in x1 4096 ∧ (∀ X6, X6 = (db_si X4 53 (x1).toNatClampNeg (vp_nar .boolean (0 : Int32))) → wp_X6_lookThrough_2 Q n_ X6 (x1 + (1 : Int32))))) ∧ (¬ (r4 = 0) → (vp_in x1 4096 ∧ (∀ X8, X8 = (db_si X4 53 (x1).toNatClampNeg (vp_nar .boolean (1 : Int32))) → wp_X6_lookThrough_2 Q n_ X8 (x1 + (1 : Int32)))))))) ∧ (¬ r1 = 0 → (vp_in x1 4096 ∧ (∀ X3, X3 = (db_si X1 53 (x1).toNatClampNeg (vp_nar .boolean (1 : Int32))) → wp_X6_lookThrough_2 Q n_ X3 (x1 + (1 : Int32)))))))))
set_option maxHeartbeats 4000000 in
set_option maxRecDepth 100000 in
theorem tw_X6_lookThrough_2 {p : Program} {l : Launch} {e : Env} {s : State} {m : MethodId} {args : Array Value} {below : List Frame} {meth : Method} {c : Code} {E : db_E} (S : CallFix p m c cX6_lookThrough 2 s args wsX6_lookThrough RX6) (hr : meth.sig.returnType = none) (hlocks : meth.locks = false)  {Q : db_St → Prop} : ∀ (n : Nat) (X : db_St) (x1 : Int32) (H : Heap) (locs : List Loc) (ls : Array Slot), wp_X6_lookThrough_2 Q n X x1 → db_HW E (db_Aw E s.heap.size) s X H locs → lv_has ls 2 [(0, .ref (db_ad E 52)), (1, .int x1)] → W p l e rm_X6_lookThrough s m args below meth c H locs 0 0 (MQ below (va_Qv Q (db_Po E) (db_Aw E s.heap.size)) args s 0 0 (db_Aw E s.heap.size)) (F0 m 2 ls []) := by
  have hx := S.1
  have hb := S.2.1
  have hiX5 : ∀ w ∈ wsX50, w ∈ wsX6_lookThrough := fun w_ h_ => List.mem_cons_of_mem _ (List.mem_append_right _ h_)
  have hiX6 : ∀ w ∈ wsX60, w ∈ wsX6_lookThrough := fun w_ h_ => List.mem_cons_of_mem _ (List.mem_append_left _ (List.mem_append_right _ h_))
  intro n
  induction n with
  | zero =>
    intro X x1 H locs ls h hw hl
    exact False.elim h
  | succ n_ ih =>
    intro X x1 H locs ls h hw hl
    unfold wp_X6_lookThrough_2 at h
    refine lv_iload_n hx hb dX6_lookThrough_2 rfl (lv_at hl 1 rfl) ?_
    refine lv_iconst (v := (1 : Int32)) hx hb dX6_lookThrough_3 (by decide) ?_
    refine lv_aload_n hx hb dX6_lookThrough_4 rfl (lv_at hl 0 rfl) ?_
    refine db_getr S hw (Nat.le_of_ble_eq_true rfl) db_s52 (C := RX6) (T := TX6) (N := 2) rfl hiX6 0 (by decide) (r := 38) rfl (List.mem_of_getElem? (i := 1) rfl) dX6_lookThrough_5 ?_
    refine db_getiN S hw (Nat.le_of_ble_eq_true rfl) db_s38 (C := RX5) (T := TX5) (N := 5) rfl hiX5 4 (by decide) rfl (List.mem_of_getElem? (i := 28) rfl) dX6_lookThrough_8 ?_
    refine lv_ishl hx hb dX6_lookThrough_11 ?_
    refine lv_icmp_ge (tgt := 48) hx hb dX6_lookThrough_12 (by decide) (fun c11 => ?_) (fun c11 => ?_)
    · have h := h.1 c11
      exact db_vret S hr hlocks hw h dX6_lookThrough_48
    · have h := h.2 c11
      refine lv_aload_n hx hb dX6_lookThrough_15 rfl (lv_at hl 0 rfl) ?_
      refine db_getr S hw (Nat.le_of_ble_eq_true rfl) db_s52 (C := RX6) (T := TX6) (N := 2) rfl hiX6 1 (by decide) (r := 53) rfl (List.mem_of_getElem? (i := 2) rfl) dX6_lookThrough_16 ?_
      refine lv_iload_n hx hb dX6_lookThrough_19 rfl (lv_at hl 1 rfl) ?_
      refine lv_aload_n hx hb dX6_lookThrough_20 rfl (lv_at hl 0 rfl) ?_
      refine lv_iload_n hx hb dX6_lookThrough_21 rfl (lv_at hl 1 rfl) ?_
      refine db_callVi S hw (Nat.le_of_ble_eq_true rfl) db_s52 (C := RX6) (T := TX6) (N := 2) (As := [.int x1]) rfl (ct_X6_smallerHolds  h) gX6_lookThrough_X6_smallerHolds rfl ⟨rfl, rfl, Nat.le_of_ble_eq_true rfl, Nat.le_of_ble_eq_true rfl⟩ 1 rfl (by decide +kernel) hl.1 rfl (Nat.le_of_ble_eq_true rfl) dX6_lookThrough_22 ⟨Nat.zero_le _, Nat.zero_le _⟩ (fun r1 X1 H locs h hw => ?_)
      refine lv_if_ne (tgt := 36) hx hb dX6_lookThrough_25 (by decide) (fun c10 => ?_) (fun c10 => ?_)
      · have h := h.2 c10
        refine lv_iconst (v := (1 : Int32)) hx hb dX6_lookThrough_36 (by decide) ?_
        refine lv_goto (tgt := 41) hx hb dX6_lookThrough_37 (by decide) ?_
        obtain ⟨g2, h⟩ := h
        refine db_zast S hw (Nat.le_of_ble_eq_true rfl) db_s53 g2 dX6_lookThrough_41 (fun H locs hw => ?_)
        obtain ⟨X3, e3, hw⟩ : ∃ Z_, Z_ = (db_si X1 53 (x1).toNatClampNeg (vp_nar .boolean (1 : Int32))) ∧ db_HW E (db_Aw E s.heap.size) s Z_ H locs := ⟨_, rfl, hw⟩
        have h := h X3 e3
        refine lv_iinc (v := (x1 + (1 : Int32))) (lv' := [(1, .int (x1 + (1 : Int32))), (0, .ref (db_ad E 52))]) hx hb dX6_lookThrough_42 hl (k := 1) rfl (congrArg (fun z_ => x1 + z_) (show Int32.ofInt (1) = (1 : Int32) by decide)) (by decide) rfl (fun ls hl => ?_)
        refine lv_goto (tgt := 2) hx hb dX6_lookThrough_45 (by decide) ?_
        exact ih _ _ _ _ _ h hw (lv_sub hl [1, 0] rfl)
      · have h := h.1 c10
        refine lv_aload_n hx hb dX6_lookThrough_28 rfl (lv_at hl 0 rfl) ?_
        refine lv_iload_n hx hb dX6_lookThrough_29 rfl (lv_at hl 1 rfl) ?_
        refine db_callVi S hw (Nat.le_of_ble_eq_true rfl) db_s52 (C := RX6) (T := TX6) (N := 2) (As := [.int x1]) rfl (ct_X6_isRing  h) gX6_lookThrough_X6_isRing rfl ⟨rfl, rfl, Nat.le_of_ble_eq_true rfl, Nat.le_of_ble_eq_true rfl⟩ 1 rfl (by decide +kernel) hl.1 rfl (Nat.le_of_ble_eq_true rfl) dX6_lookThrough_30 ⟨Nat.zero_le _, Nat.zero_le _⟩ (fun r4 X4 H locs h hw => ?_)
        refine lv_if_eq (tgt := 40) hx hb dX6_lookThrough_33 (by decide) (fun c9 => ?_) (fun c9 => ?_)
        · have h := h.1 c9
          refine lv_iconst (v := (0 : Int32)) hx hb dX6_lookThrough_40 (by decide) ?_
          obtain ⟨g5, h⟩ := h
          refine db_zast S hw (Nat.le_of_ble_eq_true rfl) db_s53 g5 dX6_lookThrough_41 (fun H locs hw => ?_)
          obtain ⟨X6, e6, hw⟩ : ∃ Z_, Z_ = (db_si X4 53 (x1).toNatClampNeg (vp_nar .boolean (0 : Int32))) ∧ db_HW E (db_Aw E s.heap.size) s Z_ H locs := ⟨_, rfl, hw⟩
          have h := h X6 e6
          refine lv_iinc (v := (x1 + (1 : Int32))) (lv' := [(1, .int (x1 + (1 : Int32))), (0, .ref (db_ad E 52))]) hx hb dX6_lookThrough_42 hl (k := 1) rfl (congrArg (fun z_ => x1 + z_) (show Int32.ofInt (1) = (1 : Int32) by decide)) (by decide) rfl (fun ls hl => ?_)
          refine lv_goto (tgt := 2) hx hb dX6_lookThrough_45 (by decide) ?_
          exact ih _ _ _ _ _ h hw (lv_sub hl [1, 0] rfl)
        · have h := h.2 c9
          refine lv_iconst (v := (1 : Int32)) hx hb dX6_lookThrough_36 (by decide) ?_
          refine lv_goto (tgt := 41) hx hb dX6_lookThrough_37 (by decide) ?_
          obtain ⟨g7, h⟩ := h
          refine db_zast S hw (Nat.le_of_ble_eq_true rfl) db_s53 g7 dX6_lookThrough_41 (fun H locs hw => ?_)
          obtain ⟨X8, e8, hw⟩ : ∃ Z_, Z_ = (db_si X4 53 (x1).toNatClampNeg (vp_nar .boolean (1 : Int32))) ∧ db_HW E (db_Aw E s.heap.size) s Z_ H locs := ⟨_, rfl, hw⟩
          have h := h X8 e8
          refine lv_iinc (v := (x1 + (1 : Int32))) (lv' := [(1, .int (x1 + (1 : Int32))), (0, .ref (db_ad E 52))]) hx hb dX6_lookThrough_42 hl (k := 1) rfl (congrArg (fun z_ => x1 + z_) (show Int32.ofInt (1) = (1 : Int32) by decide)) (by decide) rfl (fun ls hl => ?_)
          refine lv_goto (tgt := 2) hx hb dX6_lookThrough_45 (by decide) ?_
          exact ih _ _ _ _ _ h hw (lv_sub hl [1, 0] rfl)
def wp_X6_lookThrough  (X : db_St)  (Q : db_St → Prop) : Prop := (∃ f_, wp_X6_lookThrough_2 Q f_ X (0 : Int32))
set_option maxHeartbeats 4000000 in
set_option maxRecDepth 100000 in
theorem ct_X6_lookThrough {l : Launch} {E : db_E}  {X : db_St}  {Q : db_St → Prop} (h : wp_X6_lookThrough  X  Q) : db_MV l E yX6_lookThrough wsX6_lookThrough rm_X6_lookThrough X [.ref (db_ad E 52)] Q := by
  intro sz
  unfold wp_X6_lookThrough at h
  refine Met.ofW (cc := cX6_lookThrough) (maxL := 2) (ret := none) (by decide) rfl ?_
  intro p e s m args below meth c s₁ B hml hv
  obtain ⟨rfl, hsz, hU⟩ := hv
  subst hsz
  have S : CallFix p m c cX6_lookThrough 2 s ([.ref (db_ad E 52)] : List Value).toArray wsX6_lookThrough RX6 := ⟨B.exec, B.bytes, hml, findClass_of_methodNamed B.named, atoms_spec (ws := wsX6_lookThrough) B.pre⟩
  have hx := S.1
  have hb := S.2.1
  have hr := B.returns
  have hlocks := B.notSynchronized
  have hw := db_start hU
  have hiX5 : ∀ w ∈ wsX50, w ∈ wsX6_lookThrough := fun w_ h_ => List.mem_cons_of_mem _ (List.mem_append_right _ h_)
  have hiX6 : ∀ w ∈ wsX60, w ∈ wsX6_lookThrough := fun w_ h_ => List.mem_cons_of_mem _ (List.mem_append_left _ (List.mem_append_right _ h_))
  have hl := lv_entry ([.ref (db_ad E 52)]) (n := 2) (Nat.le_of_ble_eq_true rfl)
  rw [lg_entry_eq]
  generalize (lg_sl ([.ref (db_ad E 52)]) ++ List.replicate (2 - (lg_sl ([.ref (db_ad E 52)])).length) Slot.unset).toArray = ls at hl ⊢
  have hl : lv_has ls 2 [(0, .ref (db_ad E 52))] := hl
  refine lv_iconst (v := (0 : Int32)) hx hb dX6_lookThrough_0 (by decide) ?_
  refine lv_istore_n (lv' := [(1, .int (0 : Int32)), (0, .ref (db_ad E 52))]) hx hb dX6_lookThrough_1 rfl hl (by decide) rfl (fun ls hl => ?_)
  obtain ⟨f_, h⟩ := h
  exact tw_X6_lookThrough_2 S hr hlocks   f_ _ _ _ _ _ h hw (lv_sub hl [1, 0] rfl)
-- DaysOnBread$Rings.shortest()I
abbrev rm_X6_shortest : Room := { frames := 3, cells := 0, slots := 0, locals := 75 }
def wp_X6_shortest_9 (Q : Int32 → db_St → Prop) : Nat → db_St → Int32 → Int32 → Prop
  | 0, _, _, _ => False
  | n_ + 1, X, x1, x2 => ((((1 : Int32) <<< ((X.1 38 4) &&& 31)) ≤ x2 → Q x1 X) ∧ (¬ (((1 : Int32) <<< ((X.1 38 4) &&& 31)) ≤ x2) → wp_J6_bitCount_0f7a4 X x2 (fun r1 X1 => (vp_in x2 4096 ∧ (((X1.1 53 (x2).toNatClampNeg) = 0 → wp_X6_shortest_9 Q n_ X1 x1 (x2 + (1 : Int32))) ∧ (¬ ((X1.1 53 (x2).toNatClampNeg) = 0) → ((x1 = (-9 : Int32) → wp_X6_shortest_9 Q n_ X1 r1 (x2 + (1 : Int32))) ∧ (¬ (x1 = (-9 : Int32)) → ((x1 ≤ r1 → wp_X6_shortest_9 Q n_ X1 x1 (x2 + (1 : Int32))) ∧ (¬ (x1 ≤ r1) → wp_X6_shortest_9 Q n_ X1 r1 (x2 + (1 : Int32))))))))))))
set_option maxHeartbeats 4000000 in
set_option maxRecDepth 100000 in
theorem tw_X6_shortest_9 {p : Program} {l : Launch} {e : Env} {s : State} {m : MethodId} {args : Array Value} {below : List Frame} {meth : Method} {c : Code} {E : db_E} (S : CallFix p m c cX6_shortest 4 s args wsX6_shortest RX6) (hr : meth.sig.returnType = (some .int)) (hlocks : meth.locks = false)  {Q : Int32 → db_St → Prop} : ∀ (n : Nat) (X : db_St) (x1 : Int32) (x2 : Int32) (H : Heap) (locs : List Loc) (ls : Array Slot), wp_X6_shortest_9 Q n X x1 x2 → db_HW E (db_Aw E s.heap.size) s X H locs → lv_has ls 4 [(0, .ref (db_ad E 52)), (1, .int x1), (2, .int x2)] → W p l e rm_X6_shortest s m args below meth c H locs 0 0 (MQ below (va_Qi Q (db_Po E) (db_Aw E s.heap.size)) args s 0 0 (db_Aw E s.heap.size)) (F0 m 9 ls []) := by
  have hx := S.1
  have hb := S.2.1
  have hiX5 : ∀ w ∈ wsX50, w ∈ wsX6_shortest := fun w_ h_ => List.mem_cons_of_mem _ (List.mem_append_right _ h_)
  have hiX6 : ∀ w ∈ wsX60, w ∈ wsX6_shortest := fun w_ h_ => List.mem_cons_of_mem _ (List.mem_append_left _ (List.mem_append_right _ h_))
  intro n
  induction n with
  | zero =>
    intro X x1 x2 H locs ls h hw hl
    exact False.elim h
  | succ n_ ih =>
    intro X x1 x2 H locs ls h hw hl
    unfold wp_X6_shortest_9 at h
    refine lv_iload_n hx hb dX6_shortest_9 rfl (lv_at hl 2 rfl) ?_
    refine lv_iconst (v := (1 : Int32)) hx hb dX6_shortest_10 (by decide) ?_
    refine lv_aload_n hx hb dX6_shortest_11 rfl (lv_at hl 0 rfl) ?_
    refine db_getr S hw (Nat.le_of_ble_eq_true rfl) db_s52 (C := RX6) (T := TX6) (N := 2) rfl hiX6 0 (by decide) (r := 38) rfl (List.mem_of_getElem? (i := 1) rfl) dX6_shortest_12 ?_
    refine db_getiN S hw (Nat.le_of_ble_eq_true rfl) db_s38 (C := RX5) (T := TX5) (N := 5) rfl hiX5 4 (by decide) rfl (List.mem_of_getElem? (i := 28) rfl) dX6_shortest_15 ?_
    refine lv_ishl hx hb dX6_shortest_18 ?_
    refine lv_icmp_ge (tgt := 55) hx hb dX6_shortest_19 (by decide) (fun c6 => ?_) (fun c6 => ?_)
    · have h := h.1 c6
      refine lv_iload_n hx hb dX6_shortest_55 rfl (lv_at hl 1 rfl) ?_
      exact db_iret S hr hlocks hw h dX6_shortest_56
    · have h := h.2 c6
      refine lv_iload_n hx hb dX6_shortest_22 rfl (lv_at hl 2 rfl) ?_
      refine db_callSi S hw (As := [.int x2]) (ct_J6_bitCount_0f7a4  h) gX6_shortest_J6_bitCount_0f7a4 rfl ⟨rfl, rfl, Nat.le_of_ble_eq_true rfl, Nat.le_of_ble_eq_true rfl⟩ 1 rfl (by decide +kernel) hl.1 rfl (Nat.le_of_ble_eq_true rfl) dX6_shortest_23 ⟨Nat.zero_le _, Nat.zero_le _⟩ (fun r1 X1 H locs h hw => ?_)
      refine lv_istore_n (lv' := [(3, .int r1), (0, .ref (db_ad E 52)), (1, .int x1), (2, .int x2)]) hx hb dX6_shortest_26 rfl hl (by decide) rfl (fun ls hl => ?_)
      refine lv_aload_n hx hb dX6_shortest_27 rfl (lv_at hl 1 rfl) ?_
      refine db_getr S hw (Nat.le_of_ble_eq_true rfl) db_s52 (C := RX6) (T := TX6) (N := 2) rfl hiX6 1 (by decide) (r := 53) rfl (List.mem_of_getElem? (i := 2) rfl) dX6_shortest_28 ?_
      refine lv_iload_n hx hb dX6_shortest_31 rfl (lv_at hl 3 rfl) ?_
      obtain ⟨g2, h⟩ := h
      refine db_zald S hw (Nat.le_of_ble_eq_true rfl) db_s53 g2 dX6_shortest_32 ?_
      refine lv_if_eq (tgt := 49) hx hb dX6_shortest_33 (by decide) (fun c5 => ?_) (fun c5 => ?_)
      · have h := h.1 c5
        refine lv_iinc (v := (x2 + (1 : Int32))) (lv' := [(2, .int (x2 + (1 : Int32))), (3, .int r1), (0, .ref (db_ad E 52)), (1, .int x1)]) hx hb dX6_shortest_49 hl (k := 3) rfl (congrArg (fun z_ => x2 + z_) (show Int32.ofInt (1) = (1 : Int32) by decide)) (by decide) rfl (fun ls hl => ?_)
        refine lv_goto (tgt := 9) hx hb dX6_shortest_52 (by decide) ?_
        exact ih _ _ _ _ _ _ h hw (lv_sub hl [2, 3, 0] rfl)
      · have h := h.2 c5
        refine lv_iload_n hx hb dX6_shortest_36 rfl (lv_at hl 2 rfl) ?_
        refine lv_bipush (v := (-9 : Int32)) hx hb dX6_shortest_37 (by decide) ?_
        refine lv_icmp_eq (tgt := 47) hx hb dX6_shortest_39 (by decide) (fun c4 => ?_) (fun c4 => ?_)
        · have h := h.1 c4
          refine lv_iload_n hx hb dX6_shortest_47 rfl (lv_at hl 0 rfl) ?_
          refine lv_istore_n (lv' := [(1, .int r1), (3, .int r1), (0, .ref (db_ad E 52)), (2, .int x2)]) hx hb dX6_shortest_48 rfl hl (by decide) rfl (fun ls hl => ?_)
          refine lv_iinc (v := (x2 + (1 : Int32))) (lv' := [(2, .int (x2 + (1 : Int32))), (1, .int r1), (3, .int r1), (0, .ref (db_ad E 52))]) hx hb dX6_shortest_49 hl (k := 3) rfl (congrArg (fun z_ => x2 + z_) (show Int32.ofInt (1) = (1 : Int32) by decide)) (by decide) rfl (fun ls hl => ?_)
          refine lv_goto (tgt := 9) hx hb dX6_shortest_52 (by decide) ?_
          exact ih _ _ _ _ _ _ h hw (lv_sub hl [3, 1, 0] rfl)
        · have h := h.2 c4
          refine lv_iload_n hx hb dX6_shortest_42 rfl (lv_at hl 0 rfl) ?_
          refine lv_iload_n hx hb dX6_shortest_43 rfl (lv_at hl 2 rfl) ?_
          refine lv_icmp_ge (tgt := 49) hx hb dX6_shortest_44 (by decide) (fun c3 => ?_) (fun c3 => ?_)
          · have h := h.1 c3
            refine lv_iinc (v := (x2 + (1 : Int32))) (lv' := [(2, .int (x2 + (1 : Int32))), (3, .int r1), (0, .ref (db_ad E 52)), (1, .int x1)]) hx hb dX6_shortest_49 hl (k := 3) rfl (congrArg (fun z_ => x2 + z_) (show Int32.ofInt (1) = (1 : Int32) by decide)) (by decide) rfl (fun ls hl => ?_)
            refine lv_goto (tgt := 9) hx hb dX6_shortest_52 (by decide) ?_
            exact ih _ _ _ _ _ _ h hw (lv_sub hl [2, 3, 0] rfl)
          · have h := h.2 c3
            refine lv_iload_n hx hb dX6_shortest_47 rfl (lv_at hl 0 rfl) ?_
            refine lv_istore_n (lv' := [(1, .int r1), (3, .int r1), (0, .ref (db_ad E 52)), (2, .int x2)]) hx hb dX6_shortest_48 rfl hl (by decide) rfl (fun ls hl => ?_)
            refine lv_iinc (v := (x2 + (1 : Int32))) (lv' := [(2, .int (x2 + (1 : Int32))), (1, .int r1), (3, .int r1), (0, .ref (db_ad E 52))]) hx hb dX6_shortest_49 hl (k := 3) rfl (congrArg (fun z_ => x2 + z_) (show Int32.ofInt (1) = (1 : Int32) by decide)) (by decide) rfl (fun ls hl => ?_)
            refine lv_goto (tgt := 9) hx hb dX6_shortest_52 (by decide) ?_
            exact ih _ _ _ _ _ _ h hw (lv_sub hl [3, 1, 0] rfl)
def wp_X6_shortest  (X : db_St)  (Q : Int32 → db_St → Prop) : Prop := wp_X6_lookThrough X (fun X1 => (∃ f_, wp_X6_shortest_9 Q f_ X1 (-9 : Int32) (0 : Int32)))
set_option maxHeartbeats 4000000 in
set_option maxRecDepth 100000 in
theorem ct_X6_shortest {l : Launch} {E : db_E}  {X : db_St}  {Q : Int32 → db_St → Prop} (h : wp_X6_shortest  X  Q) : db_MI l E yX6_shortest wsX6_shortest rm_X6_shortest X [.ref (db_ad E 52)] Q := by
  intro sz
  unfold wp_X6_shortest at h
  refine Met.ofW (cc := cX6_shortest) (maxL := 4) (ret := (some .int)) (by decide) rfl ?_
  intro p e s m args below meth c s₁ B hml hv
  obtain ⟨rfl, hsz, hU⟩ := hv
  subst hsz
  have S : CallFix p m c cX6_shortest 4 s ([.ref (db_ad E 52)] : List Value).toArray wsX6_shortest RX6 := ⟨B.exec, B.bytes, hml, findClass_of_methodNamed B.named, atoms_spec (ws := wsX6_shortest) B.pre⟩
  have hx := S.1
  have hb := S.2.1
  have hr := B.returns
  have hlocks := B.notSynchronized
  have hw := db_start hU
  have hiX5 : ∀ w ∈ wsX50, w ∈ wsX6_shortest := fun w_ h_ => List.mem_cons_of_mem _ (List.mem_append_right _ h_)
  have hiX6 : ∀ w ∈ wsX60, w ∈ wsX6_shortest := fun w_ h_ => List.mem_cons_of_mem _ (List.mem_append_left _ (List.mem_append_right _ h_))
  have hl := lv_entry ([.ref (db_ad E 52)]) (n := 4) (Nat.le_of_ble_eq_true rfl)
  rw [lg_entry_eq]
  generalize (lg_sl ([.ref (db_ad E 52)]) ++ List.replicate (4 - (lg_sl ([.ref (db_ad E 52)])).length) Slot.unset).toArray = ls at hl ⊢
  have hl : lv_has ls 4 [(0, .ref (db_ad E 52))] := hl
  refine lv_aload_n hx hb dX6_shortest_0 rfl (lv_at hl 0 rfl) ?_
  refine db_callVv S hw (Nat.le_of_ble_eq_true rfl) db_s52 (C := RX6) (T := TX6) (N := 2) (As := []) rfl (ct_X6_lookThrough  h) gX6_shortest_X6_lookThrough rfl ⟨rfl, rfl, Nat.le_of_ble_eq_true rfl, Nat.le_of_ble_eq_true rfl⟩ 0 rfl (by decide +kernel) hl.1 rfl (Nat.le_of_ble_eq_true rfl) dX6_shortest_1 ⟨Nat.zero_le _, Nat.zero_le _⟩ (fun X1 H locs h hw => ?_)
  refine lv_bipush (v := (-9 : Int32)) hx hb dX6_shortest_4 (by decide) ?_
  refine lv_istore_n (lv' := [(1, .int (-9 : Int32)), (0, .ref (db_ad E 52))]) hx hb dX6_shortest_6 rfl hl (by decide) rfl (fun ls hl => ?_)
  refine lv_iconst (v := (0 : Int32)) hx hb dX6_shortest_7 (by decide) ?_
  refine lv_istore_n (lv' := [(2, .int (0 : Int32)), (1, .int (-9 : Int32)), (0, .ref (db_ad E 52))]) hx hb dX6_shortest_8 rfl hl (by decide) rfl (fun ls hl => ?_)
  obtain ⟨f_, h⟩ := h
  exact tw_X6_shortest_9 S hr hlocks   f_ _ _ _ _ _ _ h hw (lv_sub hl [2, 1, 0] rfl)
-- DaysOnBread$Rings.fewestStops()I
abbrev rm_X6_fewestStops : Room := { frames := 3, cells := 0, slots := 0, locals := 75 }
def wp_X6_fewestStops_20 (Q : Int32 → db_St → Prop) : Nat → db_St → Int32 → Int32 → Int32 → Prop
  | 0, _, _, _, _ => False
  | n_ + 1, X, x1, x2, x3 => ((x1 ≤ x3 → Q x2 X) ∧ (¬ (x1 ≤ x3) → (vp_in (x1 &&& (x3 ^^^ (-1 : Int32))) 4096 ∧ (((X.1 53 ((x1 &&& (x3 ^^^ (-1 : Int32)))).toNatClampNeg) = 0 → wp_J6_bitCount_0f7a4 X x3 (fun r2 X2 => wp_J6_bitCount_0f7a4 X2 x2 (fun r3 X3 => ((r3 ≤ r2 → wp_X6_fewestStops_20 Q n_ X3 x1 x2 (x3 + (1 : Int32))) ∧ (¬ (r3 ≤ r2) → wp_X6_fewestStops_20 Q n_ X3 x1 x3 (x3 + (1 : Int32))))))) ∧ (¬ (X.1 53 ((x1 &&& (x3 ^^^ (-1 : Int32)))).toNatClampNeg) = 0 → wp_X6_fewestStops_20 Q n_ X x1 x2 (x3 + (1 : Int32)))))))
set_option maxHeartbeats 4000000 in
set_option maxRecDepth 100000 in
theorem tw_X6_fewestStops_20 {p : Program} {l : Launch} {e : Env} {s : State} {m : MethodId} {args : Array Value} {below : List Frame} {meth : Method} {c : Code} {E : db_E} (S : CallFix p m c cX6_fewestStops 4 s args wsX6_fewestStops RX6) (hr : meth.sig.returnType = (some .int)) (hlocks : meth.locks = false)  {Q : Int32 → db_St → Prop} : ∀ (n : Nat) (X : db_St) (x1 : Int32) (x2 : Int32) (x3 : Int32) (H : Heap) (locs : List Loc) (ls : Array Slot), wp_X6_fewestStops_20 Q n X x1 x2 x3 → db_HW E (db_Aw E s.heap.size) s X H locs → lv_has ls 4 [(0, .ref (db_ad E 52)), (1, .int x1), (2, .int x2), (3, .int x3)] → W p l e rm_X6_fewestStops s m args below meth c H locs 0 0 (MQ below (va_Qi Q (db_Po E) (db_Aw E s.heap.size)) args s 0 0 (db_Aw E s.heap.size)) (F0 m 20 ls []) := by
  have hx := S.1
  have hb := S.2.1
  have hiX5 : ∀ w ∈ wsX50, w ∈ wsX6_fewestStops := fun w_ h_ => List.mem_cons_of_mem _ (List.mem_append_right _ h_)
  have hiX6 : ∀ w ∈ wsX60, w ∈ wsX6_fewestStops := fun w_ h_ => List.mem_cons_of_mem _ (List.mem_append_left _ (List.mem_append_right _ h_))
  intro n
  induction n with
  | zero =>
    intro X x1 x2 x3 H locs ls h hw hl
    exact False.elim h
  | succ n_ ih =>
    intro X x1 x2 x3 H locs ls h hw hl
    unfold wp_X6_fewestStops_20 at h
    refine lv_iload_n hx hb dX6_fewestStops_20 rfl (lv_at hl 3 rfl) ?_
    refine lv_iload_n hx hb dX6_fewestStops_21 rfl (lv_at hl 1 rfl) ?_
    refine lv_icmp_ge (tgt := 57) hx hb dX6_fewestStops_22 (by decide) (fun c6 => ?_) (fun c6 => ?_)
    · have h := h.1 c6
      refine lv_iload_n hx hb dX6_fewestStops_57 rfl (lv_at hl 2 rfl) ?_
      exact db_iret S hr hlocks hw h dX6_fewestStops_58
    · have h := h.2 c6
      refine lv_aload_n hx hb dX6_fewestStops_25 rfl (lv_at hl 0 rfl) ?_
      refine db_getr S hw (Nat.le_of_ble_eq_true rfl) db_s52 (C := RX6) (T := TX6) (N := 2) rfl hiX6 1 (by decide) (r := 53) rfl (List.mem_of_getElem? (i := 2) rfl) dX6_fewestStops_26 ?_
      refine lv_iload_n hx hb dX6_fewestStops_29 rfl (lv_at hl 1 rfl) ?_
      refine lv_iload_n hx hb dX6_fewestStops_30 rfl (lv_at hl 3 rfl) ?_
      refine lv_iconst (v := (-1 : Int32)) hx hb dX6_fewestStops_31 (by decide) ?_
      refine lv_ixor hx hb dX6_fewestStops_32 ?_
      refine lv_iand hx hb dX6_fewestStops_33 ?_
      obtain ⟨g1, h⟩ := h
      refine db_zald S hw (Nat.le_of_ble_eq_true rfl) db_s53 g1 dX6_fewestStops_34 ?_
      refine lv_if_ne (tgt := 51) hx hb dX6_fewestStops_35 (by decide) (fun c5 => ?_) (fun c5 => ?_)
      · have h := h.2 c5
        refine lv_iinc (v := (x3 + (1 : Int32))) (lv' := [(3, .int (x3 + (1 : Int32))), (0, .ref (db_ad E 52)), (1, .int x1), (2, .int x2)]) hx hb dX6_fewestStops_51 hl (k := 3) rfl (congrArg (fun z_ => x3 + z_) (show Int32.ofInt (1) = (1 : Int32) by decide)) (by decide) rfl (fun ls hl => ?_)
        refine lv_goto (tgt := 20) hx hb dX6_fewestStops_54 (by decide) ?_
        exact ih _ _ _ _ _ _ _ h hw (lv_sub hl [1, 2, 3, 0] rfl)
      · have h := h.1 c5
        refine lv_iload_n hx hb dX6_fewestStops_38 rfl (lv_at hl 3 rfl) ?_
        refine db_callSi S hw (As := [.int x3]) (ct_J6_bitCount_0f7a4  h) gX6_fewestStops_J6_bitCount_0f7a4 rfl ⟨rfl, rfl, Nat.le_of_ble_eq_true rfl, Nat.le_of_ble_eq_true rfl⟩ 1 rfl (by decide +kernel) hl.1 rfl (Nat.le_of_ble_eq_true rfl) dX6_fewestStops_39 ⟨Nat.zero_le _, Nat.zero_le _⟩ (fun r2 X2 H locs h hw => ?_)
        refine lv_iload_n hx hb dX6_fewestStops_42 rfl (lv_at hl 2 rfl) ?_
        refine db_callSi S hw (As := [.int x2]) (ct_J6_bitCount_0f7a4  h) gX6_fewestStops_J6_bitCount_0f7a4 rfl ⟨rfl, rfl, Nat.le_of_ble_eq_true rfl, Nat.le_of_ble_eq_true rfl⟩ 1 rfl (by decide +kernel) hl.1 rfl (Nat.le_of_ble_eq_true rfl) dX6_fewestStops_43 ⟨Nat.zero_le _, Nat.zero_le _⟩ (fun r3 X3 H locs h hw => ?_)
        refine lv_icmp_ge (tgt := 51) hx hb dX6_fewestStops_46 (by decide) (fun c4 => ?_) (fun c4 => ?_)
        · have h := h.1 c4
          refine lv_iinc (v := (x3 + (1 : Int32))) (lv' := [(3, .int (x3 + (1 : Int32))), (0, .ref (db_ad E 52)), (1, .int x1), (2, .int x2)]) hx hb dX6_fewestStops_51 hl (k := 3) rfl (congrArg (fun z_ => x3 + z_) (show Int32.ofInt (1) = (1 : Int32) by decide)) (by decide) rfl (fun ls hl => ?_)
          refine lv_goto (tgt := 20) hx hb dX6_fewestStops_54 (by decide) ?_
          exact ih _ _ _ _ _ _ _ h hw (lv_sub hl [1, 2, 3, 0] rfl)
        · have h := h.2 c4
          refine lv_iload_n hx hb dX6_fewestStops_49 rfl (lv_at hl 3 rfl) ?_
          refine lv_istore_n (lv' := [(2, .int x3), (0, .ref (db_ad E 52)), (1, .int x1), (3, .int x3)]) hx hb dX6_fewestStops_50 rfl hl (by decide) rfl (fun ls hl => ?_)
          refine lv_iinc (v := (x3 + (1 : Int32))) (lv' := [(3, .int (x3 + (1 : Int32))), (2, .int x3), (0, .ref (db_ad E 52)), (1, .int x1)]) hx hb dX6_fewestStops_51 hl (k := 3) rfl (congrArg (fun z_ => x3 + z_) (show Int32.ofInt (1) = (1 : Int32) by decide)) (by decide) rfl (fun ls hl => ?_)
          refine lv_goto (tgt := 20) hx hb dX6_fewestStops_54 (by decide) ?_
          exact ih _ _ _ _ _ _ _ h hw (lv_sub hl [2, 3, 1, 0] rfl)
def wp_X6_fewestStops  (X : db_St)  (Q : Int32 → db_St → Prop) : Prop := wp_X6_lookThrough X (fun X1 => (∀ z2, z2 = (((1 : Int32) <<< ((X1.1 38 4) &&& 31)) - (1 : Int32)) → (∃ f_, wp_X6_fewestStops_20 Q f_ X1 z2 z2 (0 : Int32))))
set_option maxHeartbeats 4000000 in
set_option maxRecDepth 100000 in
theorem ct_X6_fewestStops {l : Launch} {E : db_E}  {X : db_St}  {Q : Int32 → db_St → Prop} (h : wp_X6_fewestStops  X  Q) : db_MI l E yX6_fewestStops wsX6_fewestStops rm_X6_fewestStops X [.ref (db_ad E 52)] Q := by
  intro sz
  unfold wp_X6_fewestStops at h
  refine Met.ofW (cc := cX6_fewestStops) (maxL := 4) (ret := (some .int)) (by decide) rfl ?_
  intro p e s m args below meth c s₁ B hml hv
  obtain ⟨rfl, hsz, hU⟩ := hv
  subst hsz
  have S : CallFix p m c cX6_fewestStops 4 s ([.ref (db_ad E 52)] : List Value).toArray wsX6_fewestStops RX6 := ⟨B.exec, B.bytes, hml, findClass_of_methodNamed B.named, atoms_spec (ws := wsX6_fewestStops) B.pre⟩
  have hx := S.1
  have hb := S.2.1
  have hr := B.returns
  have hlocks := B.notSynchronized
  have hw := db_start hU
  have hiX5 : ∀ w ∈ wsX50, w ∈ wsX6_fewestStops := fun w_ h_ => List.mem_cons_of_mem _ (List.mem_append_right _ h_)
  have hiX6 : ∀ w ∈ wsX60, w ∈ wsX6_fewestStops := fun w_ h_ => List.mem_cons_of_mem _ (List.mem_append_left _ (List.mem_append_right _ h_))
  have hl := lv_entry ([.ref (db_ad E 52)]) (n := 4) (Nat.le_of_ble_eq_true rfl)
  rw [lg_entry_eq]
  generalize (lg_sl ([.ref (db_ad E 52)]) ++ List.replicate (4 - (lg_sl ([.ref (db_ad E 52)])).length) Slot.unset).toArray = ls at hl ⊢
  have hl : lv_has ls 4 [(0, .ref (db_ad E 52))] := hl
  refine lv_aload_n hx hb dX6_fewestStops_0 rfl (lv_at hl 0 rfl) ?_
  refine db_callVv S hw (Nat.le_of_ble_eq_true rfl) db_s52 (C := RX6) (T := TX6) (N := 2) (As := []) rfl (ct_X6_lookThrough  h) gX6_fewestStops_X6_lookThrough rfl ⟨rfl, rfl, Nat.le_of_ble_eq_true rfl, Nat.le_of_ble_eq_true rfl⟩ 0 rfl (by decide +kernel) hl.1 rfl (Nat.le_of_ble_eq_true rfl) dX6_fewestStops_1 ⟨Nat.zero_le _, Nat.zero_le _⟩ (fun X1 H locs h hw => ?_)
  refine lv_iconst (v := (1 : Int32)) hx hb dX6_fewestStops_4 (by decide) ?_
  refine lv_aload_n hx hb dX6_fewestStops_5 rfl (lv_at hl 0 rfl) ?_
  refine db_getr S hw (Nat.le_of_ble_eq_true rfl) db_s52 (C := RX6) (T := TX6) (N := 2) rfl hiX6 0 (by decide) (r := 38) rfl (List.mem_of_getElem? (i := 1) rfl) dX6_fewestStops_6 ?_
  refine db_getiN S hw (Nat.le_of_ble_eq_true rfl) db_s38 (C := RX5) (T := TX5) (N := 5) rfl hiX5 4 (by decide) rfl (List.mem_of_getElem? (i := 28) rfl) dX6_fewestStops_9 ?_
  refine lv_ishl hx hb dX6_fewestStops_12 ?_
  refine lv_iconst (v := (1 : Int32)) hx hb dX6_fewestStops_13 (by decide) ?_
  refine lv_isub hx hb dX6_fewestStops_14 ?_
  refine lv_topi (fun z2 e2 => ?_)
  have h := h z2 e2
  refine lv_istore_n (lv' := [(1, .int z2), (0, .ref (db_ad E 52))]) hx hb dX6_fewestStops_15 rfl hl (by decide) rfl (fun ls hl => ?_)
  refine lv_iload_n hx hb dX6_fewestStops_16 rfl (lv_at hl 0 rfl) ?_
  refine lv_istore_n (lv' := [(2, .int z2), (1, .int z2), (0, .ref (db_ad E 52))]) hx hb dX6_fewestStops_17 rfl hl (by decide) rfl (fun ls hl => ?_)
  refine lv_iconst (v := (0 : Int32)) hx hb dX6_fewestStops_18 (by decide) ?_
  refine lv_istore_n (lv' := [(3, .int (0 : Int32)), (2, .int z2), (1, .int z2), (0, .ref (db_ad E 52))]) hx hb dX6_fewestStops_19 rfl hl (by decide) rfl (fun ls hl => ?_)
  obtain ⟨f_, h⟩ := h
  exact tw_X6_fewestStops_20 S hr hlocks   f_ _ _ _ _ _ _ _ h hw (lv_sub hl [3, 2, 1, 0] rfl)
