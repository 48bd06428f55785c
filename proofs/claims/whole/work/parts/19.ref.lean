-- DaysOnBreadModel.refuse(I)I
abbrev rm_X11_refuse : Room := { frames := 0, cells := 0, slots := 0, locals := 0 }
def wp_X11_refuse  (X : db_St) (x1 : Int32) (Q : Int32 → db_St → Prop) : Prop := (vp_in (-x1) 7 ∧ (vp_in (-x1) 7 ∧ (∀ X3, X3 = (db_si X 91 ((-x1)).toNatClampNeg ((X.1 91 ((-x1)).toNatClampNeg) + (1 : Int32))) → Q x1 X3)))
set_option maxHeartbeats 4000000 in
set_option maxRecDepth 100000 in
theorem ct_X11_refuse {l : Launch} {E : db_E}  {X : db_St} {x1 : Int32} {Q : Int32 → db_St → Prop} (h : wp_X11_refuse  X x1 Q) : db_MI l E yX11_refuse wsX11_refuse rm_X11_refuse X [.ref (db_ad E 90), .int x1] Q := by
  intro sz
  unfold wp_X11_refuse at h
  refine Met.ofW (cc := cX11_refuse) (maxL := 2) (ret := (some .int)) (by decide) rfl ?_
  intro p e s m args below meth c s₁ B hml hv
  obtain ⟨rfl, hsz, hU⟩ := hv
  subst hsz
  have S : CallFix p m c cX11_refuse 2 s ([.ref (db_ad E 90), .int x1] : List Value).toArray wsX11_refuse RX11 := ⟨B.exec, B.bytes, hml, findClass_of_methodNamed B.named, atoms_spec (ws := wsX11_refuse) B.pre⟩
  have hx := S.1
  have hb := S.2.1
  have hr := B.returns
  have hlocks := B.notSynchronized
  have hw := db_start hU
  have hiX11 : ∀ w ∈ wsX110, w ∈ wsX11_refuse := fun w_ h_ => List.mem_cons_of_mem _ (List.mem_append_right _ h_)
  have hl := lv_entry ([.ref (db_ad E 90), .int x1]) (n := 2) (Nat.le_of_ble_eq_true rfl)
  rw [lg_entry_eq]
  generalize (lg_sl ([.ref (db_ad E 90), .int x1]) ++ List.replicate (2 - (lg_sl ([.ref (db_ad E 90), .int x1])).length) Slot.unset).toArray = ls at hl ⊢
  have hl : lv_has ls 2 [(0, .ref (db_ad E 90)), (1, .int x1)] := hl
  refine lv_aload_n hx hb dX11_refuse_0 rfl (lv_at hl 0 rfl) ?_
  refine db_getr S hw (Nat.le_of_ble_eq_true rfl) db_s90 (C := RX11) (T := TX11) (N := 19) rfl hiX11 0 (by decide) (r := 91) rfl (List.mem_of_getElem? (i := 1) rfl) dX11_refuse_1 ?_
  refine lv_iload_n hx hb dX11_refuse_4 rfl (lv_at hl 1 rfl) ?_
  refine lv_ineg hx hb dX11_refuse_5 ?_
  refine lv_dup2_11 hx hb dX11_refuse_6 rfl rfl ?_
  obtain ⟨g1, h⟩ := h
  refine db_iald S hw (Nat.le_of_ble_eq_true rfl) db_s91 g1 dX11_refuse_7 ?_
  refine lv_iconst (v := (1 : Int32)) hx hb dX11_refuse_8 (by decide) ?_
  refine lv_iadd hx hb dX11_refuse_9 ?_
  obtain ⟨g2, h⟩ := h
  refine db_iast S hw (Nat.le_of_ble_eq_true rfl) db_s91 g2 dX11_refuse_10 (fun H locs hw => ?_)
  obtain ⟨X3, e3, hw⟩ : ∃ Z_, Z_ = (db_si X 91 ((-x1)).toNatClampNeg ((X.1 91 ((-x1)).toNatClampNeg) + (1 : Int32))) ∧ db_HW E (db_Aw E s.heap.size) s Z_ H locs := ⟨_, rfl, hw⟩
  have h := h X3 e3
  refine lv_iload_n hx hb dX11_refuse_11 rfl (lv_at hl 1 rfl) ?_
  exact db_iret S hr hlocks hw h dX11_refuse_12
-- DaysOnBreadModel.isIn(II)Z
abbrev rm_X11_isIn : Room := { frames := 0, cells := 0, slots := 0, locals := 0 }
def wp_X11_isIn  (X : db_St) (x0 : Int32) (x1 : Int32) (Q : Int32 → db_St → Prop) : Prop := ((x0 < 0 → Q (0 : Int32) X) ∧ (¬ (x0 < 0) → ((x1 ≤ x0 → Q (0 : Int32) X) ∧ (¬ (x1 ≤ x0) → Q (1 : Int32) X))))
set_option maxHeartbeats 4000000 in
set_option maxRecDepth 100000 in
theorem ct_X11_isIn {l : Launch} {E : db_E}  {X : db_St} {x0 : Int32} {x1 : Int32} {Q : Int32 → db_St → Prop} (h : wp_X11_isIn  X x0 x1 Q) : db_MI l E yX11_isIn wsX11_isIn rm_X11_isIn X [.int x0, .int x1] Q := by
  intro sz
  unfold wp_X11_isIn at h
  refine Met.ofW (cc := cX11_isIn) (maxL := 2) (ret := (some .boolean)) (by decide) rfl ?_
  intro p e s m args below meth c s₁ B hml hv
  obtain ⟨rfl, hsz, hU⟩ := hv
  subst hsz
  have S : CallFix p m c cX11_isIn 2 s ([.int x0, .int x1] : List Value).toArray wsX11_isIn RX11 := ⟨B.exec, B.bytes, hml, findClass_of_methodNamed B.named, atoms_spec (ws := wsX11_isIn) B.pre⟩
  have hx := S.1
  have hb := S.2.1
  have hr := B.returns
  have hlocks := B.notSynchronized
  have hw := db_start hU
  have hl := lv_entry ([.int x0, .int x1]) (n := 2) (Nat.le_of_ble_eq_true rfl)
  rw [lg_entry_eq]
  generalize (lg_sl ([.int x0, .int x1]) ++ List.replicate (2 - (lg_sl ([.int x0, .int x1])).length) Slot.unset).toArray = ls at hl ⊢
  have hl : lv_has ls 2 [(0, .int x0), (1, .int x1)] := hl
  refine lv_iload_n hx hb dX11_isIn_0 rfl (lv_at hl 0 rfl) ?_
  refine lv_if_lt (tgt := 13) hx hb dX11_isIn_1 (by decide) (fun c2 => ?_) (fun c2 => ?_)
  · have h := h.1 c2
    refine lv_iconst (v := (0 : Int32)) hx hb dX11_isIn_13 (by decide) ?_
    exact db_zret S hr hlocks rfl hw h dX11_isIn_14
  · have h := h.2 c2
    refine lv_iload_n hx hb dX11_isIn_4 rfl (lv_at hl 0 rfl) ?_
    refine lv_iload_n hx hb dX11_isIn_5 rfl (lv_at hl 1 rfl) ?_
    refine lv_icmp_ge (tgt := 13) hx hb dX11_isIn_6 (by decide) (fun c1 => ?_) (fun c1 => ?_)
    · have h := h.1 c1
      refine lv_iconst (v := (0 : Int32)) hx hb dX11_isIn_13 (by decide) ?_
      exact db_zret S hr hlocks rfl hw h dX11_isIn_14
    · have h := h.2 c1
      refine lv_iconst (v := (1 : Int32)) hx hb dX11_isIn_9 (by decide) ?_
      refine lv_goto (tgt := 14) hx hb dX11_isIn_10 (by decide) ?_
      exact db_zret S hr hlocks rfl hw h dX11_isIn_14
-- DaysOnBreadModel.within(III)I
abbrev rm_X11_within : Room := { frames := 0, cells := 0, slots := 0, locals := 0 }
def wp_X11_within  (X : db_St) (x0 : Int32) (x1 : Int32) (x2 : Int32) (Q : Int32 → db_St → Prop) : Prop := ((x1 ≤ x0 → ((x0 ≤ x2 → Q (0 : Int32) X) ∧ (¬ (x0 ≤ x2) → Q (-6 : Int32) X))) ∧ (¬ (x1 ≤ x0) → Q (-4 : Int32) X))
set_option maxHeartbeats 4000000 in
set_option maxRecDepth 100000 in
theorem ct_X11_within {l : Launch} {E : db_E}  {X : db_St} {x0 : Int32} {x1 : Int32} {x2 : Int32} {Q : Int32 → db_St → Prop} (h : wp_X11_within  X x0 x1 x2 Q) : db_MI l E yX11_within wsX11_within rm_X11_within X [.int x0, .int x1, .int x2] Q := by
  intro sz
  unfold wp_X11_within at h
  refine Met.ofW (cc := cX11_within) (maxL := 3) (ret := (some .int)) (by decide) rfl ?_
  intro p e s m args below meth c s₁ B hml hv
  obtain ⟨rfl, hsz, hU⟩ := hv
  subst hsz
  have S : CallFix p m c cX11_within 3 s ([.int x0, .int x1, .int x2] : List Value).toArray wsX11_within RX11 := ⟨B.exec, B.bytes, hml, findClass_of_methodNamed B.named, atoms_spec (ws := wsX11_within) B.pre⟩
  have hx := S.1
  have hb := S.2.1
  have hr := B.returns
  have hlocks := B.notSynchronized
  have hw := db_start hU
  have hl := lv_entry ([.int x0, .int x1, .int x2]) (n := 3) (Nat.le_of_ble_eq_true rfl)
  rw [lg_entry_eq]
  generalize (lg_sl ([.int x0, .int x1, .int x2]) ++ List.replicate (3 - (lg_sl ([.int x0, .int x1, .int x2])).length) Slot.unset).toArray = ls at hl ⊢
  have hl : lv_has ls 3 [(0, .int x0), (1, .int x1), (2, .int x2)] := hl
  refine lv_iload_n hx hb dX11_within_0 rfl (lv_at hl 0 rfl) ?_
  refine lv_iload_n hx hb dX11_within_1 rfl (lv_at hl 1 rfl) ?_
  refine lv_icmp_ge (tgt := 10) hx hb dX11_within_2 (by decide) (fun c2 => ?_) (fun c2 => ?_)
  · have h := h.1 c2
    refine lv_iload_n hx hb dX11_within_10 rfl (lv_at hl 0 rfl) ?_
    refine lv_iload_n hx hb dX11_within_11 rfl (lv_at hl 2 rfl) ?_
    refine lv_icmp_le (tgt := 20) hx hb dX11_within_12 (by decide) (fun c1 => ?_) (fun c1 => ?_)
    · have h := h.1 c1
      refine lv_iconst (v := (0 : Int32)) hx hb dX11_within_20 (by decide) ?_
      exact db_iret S hr hlocks hw h dX11_within_21
    · have h := h.2 c1
      refine lv_bipush (v := (-6 : Int32)) hx hb dX11_within_15 (by decide) ?_
      refine lv_goto (tgt := 21) hx hb dX11_within_17 (by decide) ?_
      exact db_iret S hr hlocks hw h dX11_within_21
  · have h := h.2 c2
    refine lv_bipush (v := (-4 : Int32)) hx hb dX11_within_5 (by decide) ?_
    refine lv_goto (tgt := 21) hx hb dX11_within_7 (by decide) ?_
    exact db_iret S hr hlocks hw h dX11_within_21
-- DaysOnBreadModel.isBook(I)Z
abbrev rm_X11_isBook : Room := { frames := 1, cells := 0, slots := 0, locals := 21 }
def wp_X11_isBook  (X : db_St) (x0 : Int32) (Q : Int32 → db_St → Prop) : Prop := wp_X11_isIn X x0 (6 : Int32) (fun r1 X1 => (narrow .boolean (.int r1) = .int r1 ∧ Q r1 X1))
set_option maxHeartbeats 4000000 in
set_option maxRecDepth 100000 in
theorem ct_X11_isBook {l : Launch} {E : db_E}  {X : db_St} {x0 : Int32} {Q : Int32 → db_St → Prop} (h : wp_X11_isBook  X x0 Q) : db_MI l E yX11_isBook wsX11_isBook rm_X11_isBook X [.int x0] Q := by
  intro sz
  unfold wp_X11_isBook at h
  refine Met.ofW (cc := cX11_isBook) (maxL := 1) (ret := (some .boolean)) (by decide) rfl ?_
  intro p e s m args below meth c s₁ B hml hv
  obtain ⟨rfl, hsz, hU⟩ := hv
  subst hsz
  have S : CallFix p m c cX11_isBook 1 s ([.int x0] : List Value).toArray wsX11_isBook RX11 := ⟨B.exec, B.bytes, hml, findClass_of_methodNamed B.named, atoms_spec (ws := wsX11_isBook) B.pre⟩
  have hx := S.1
  have hb := S.2.1
  have hr := B.returns
  have hlocks := B.notSynchronized
  have hw := db_start hU
  have hl := lv_entry ([.int x0]) (n := 1) (Nat.le_of_ble_eq_true rfl)
  rw [lg_entry_eq]
  generalize (lg_sl ([.int x0]) ++ List.replicate (1 - (lg_sl ([.int x0])).length) Slot.unset).toArray = ls at hl ⊢
  have hl : lv_has ls 1 [(0, .int x0)] := hl
  refine lv_iload_n hx hb dX11_isBook_0 rfl (lv_at hl 0 rfl) ?_
  refine lv_bipush (v := (6 : Int32)) hx hb dX11_isBook_1 (by decide) ?_
  refine db_callSi S hw (As := [.int x0, .int (6 : Int32)]) (ct_X11_isIn  h) gX11_isBook_X11_isIn rfl ⟨rfl, rfl, Nat.le_of_ble_eq_true rfl, Nat.le_of_ble_eq_true rfl⟩ 2 rfl (by decide +kernel) hl.1 rfl (Nat.le_of_ble_eq_true rfl) dX11_isBook_3 ⟨Nat.zero_le _, Nat.zero_le _⟩ (fun r1 X1 H locs h hw => ?_)
  obtain ⟨g2, h⟩ := h
  exact db_zret S hr hlocks g2 hw h dX11_isBook_6
-- DaysOnBreadModel.get(III)I
abbrev rm_X11_get : Room := { frames := 0, cells := 0, slots := 0, locals := 0 }
def wp_X11_get  (X : db_St) (x1 : Int32) (x2 : Int32) (x3 : Int32) (Q : Int32 → db_St → Prop) : Prop := (vp_in ((((30 : Int32) * x1) + ((3 : Int32) * x2)) + x3) 310 ∧ Q (X.1 92 (((((30 : Int32) * x1) + ((3 : Int32) * x2)) + x3)).toNatClampNeg) X)
set_option maxHeartbeats 4000000 in
set_option maxRecDepth 100000 in
theorem ct_X11_get {l : Launch} {E : db_E}  {X : db_St} {x1 : Int32} {x2 : Int32} {x3 : Int32} {Q : Int32 → db_St → Prop} (h : wp_X11_get  X x1 x2 x3 Q) : db_MI l E yX11_get wsX11_get rm_X11_get X [.ref (db_ad E 90), .int x1, .int x2, .int x3] Q := by
  intro sz
  unfold wp_X11_get at h
  refine Met.ofW (cc := cX11_get) (maxL := 4) (ret := (some .int)) (by decide) rfl ?_
  intro p e s m args below meth c s₁ B hml hv
  obtain ⟨rfl, hsz, hU⟩ := hv
  subst hsz
  have S : CallFix p m c cX11_get 4 s ([.ref (db_ad E 90), .int x1, .int x2, .int x3] : List Value).toArray wsX11_get RX11 := ⟨B.exec, B.bytes, hml, findClass_of_methodNamed B.named, atoms_spec (ws := wsX11_get) B.pre⟩
  have hx := S.1
  have hb := S.2.1
  have hr := B.returns
  have hlocks := B.notSynchronized
  have hw := db_start hU
  have hiX11 : ∀ w ∈ wsX110, w ∈ wsX11_get := fun w_ h_ => List.mem_cons_of_mem _ (List.mem_append_right _ h_)
  have hl := lv_entry ([.ref (db_ad E 90), .int x1, .int x2, .int x3]) (n := 4) (Nat.le_of_ble_eq_true rfl)
  rw [lg_entry_eq]
  generalize (lg_sl ([.ref (db_ad E 90), .int x1, .int x2, .int x3]) ++ List.replicate (4 - (lg_sl ([.ref (db_ad E 90), .int x1, .int x2, .int x3])).length) Slot.unset).toArray = ls at hl ⊢
  have hl : lv_has ls 4 [(0, .ref (db_ad E 90)), (1, .int x1), (2, .int x2), (3, .int x3)] := hl
  refine lv_aload_n hx hb dX11_get_0 rfl (lv_at hl 0 rfl) ?_
  refine db_getr S hw (Nat.le_of_ble_eq_true rfl) db_s90 (C := RX11) (T := TX11) (N := 19) rfl hiX11 1 (by decide) (r := 92) rfl (List.mem_of_getElem? (i := 1) rfl) dX11_get_1 ?_
  refine lv_bipush (v := (30 : Int32)) hx hb dX11_get_4 (by decide) ?_
  refine lv_iload_n hx hb dX11_get_6 rfl (lv_at hl 1 rfl) ?_
  refine lv_imul hx hb dX11_get_7 ?_
  refine lv_iconst (v := (3 : Int32)) hx hb dX11_get_8 (by decide) ?_
  refine lv_iload_n hx hb dX11_get_9 rfl (lv_at hl 2 rfl) ?_
  refine lv_imul hx hb dX11_get_10 ?_
  refine lv_iadd hx hb dX11_get_11 ?_
  refine lv_iload_n hx hb dX11_get_12 rfl (lv_at hl 3 rfl) ?_
  refine lv_iadd hx hb dX11_get_13 ?_
  obtain ⟨g1, h⟩ := h
  refine db_iald S hw (Nat.le_of_ble_eq_true rfl) db_s92 g1 dX11_get_14 ?_
  exact db_iret S hr hlocks hw h dX11_get_15
-- DaysOnBreadModel.lesser(II)I
abbrev rm_X11_lesser : Room := { frames := 0, cells := 0, slots := 0, locals := 0 }
def wp_X11_lesser  (X : db_St) (x0 : Int32) (x1 : Int32) (Q : Int32 → db_St → Prop) : Prop := ((x1 ≤ x0 → Q x1 X) ∧ (¬ (x1 ≤ x0) → Q x0 X))
set_option maxHeartbeats 4000000 in
set_option maxRecDepth 100000 in
theorem ct_X11_lesser {l : Launch} {E : db_E}  {X : db_St} {x0 : Int32} {x1 : Int32} {Q : Int32 → db_St → Prop} (h : wp_X11_lesser  X x0 x1 Q) : db_MI l E yX11_lesser wsX11_lesser rm_X11_lesser X [.int x0, .int x1] Q := by
  intro sz
  unfold wp_X11_lesser at h
  refine Met.ofW (cc := cX11_lesser) (maxL := 2) (ret := (some .int)) (by decide) rfl ?_
  intro p e s m args below meth c s₁ B hml hv
  obtain ⟨rfl, hsz, hU⟩ := hv
  subst hsz
  have S : CallFix p m c cX11_lesser 2 s ([.int x0, .int x1] : List Value).toArray wsX11_lesser RX11 := ⟨B.exec, B.bytes, hml, findClass_of_methodNamed B.named, atoms_spec (ws := wsX11_lesser) B.pre⟩
  have hx := S.1
  have hb := S.2.1
  have hr := B.returns
  have hlocks := B.notSynchronized
  have hw := db_start hU
  have hl := lv_entry ([.int x0, .int x1]) (n := 2) (Nat.le_of_ble_eq_true rfl)
  rw [lg_entry_eq]
  generalize (lg_sl ([.int x0, .int x1]) ++ List.replicate (2 - (lg_sl ([.int x0, .int x1])).length) Slot.unset).toArray = ls at hl ⊢
  have hl : lv_has ls 2 [(0, .int x0), (1, .int x1)] := hl
  refine lv_iload_n hx hb dX11_lesser_0 rfl (lv_at hl 0 rfl) ?_
  refine lv_iload_n hx hb dX11_lesser_1 rfl (lv_at hl 1 rfl) ?_
  refine lv_icmp_ge (tgt := 9) hx hb dX11_lesser_2 (by decide) (fun c1 => ?_) (fun c1 => ?_)
  · have h := h.1 c1
    refine lv_iload_n hx hb dX11_lesser_9 rfl (lv_at hl 1 rfl) ?_
    exact db_iret S hr hlocks hw h dX11_lesser_10
  · have h := h.2 c1
    refine lv_iload_n hx hb dX11_lesser_5 rfl (lv_at hl 0 rfl) ?_
    refine lv_goto (tgt := 10) hx hb dX11_lesser_6 (by decide) ?_
    exact db_iret S hr hlocks hw h dX11_lesser_10
-- DaysOnBreadModel.bits(I)I
abbrev rm_X11_bits : Room := { frames := 0, cells := 0, slots := 0, locals := 0 }
def wp_X11_bits_4 (Q : Int32 → db_St → Prop) : Nat → db_St → Int32 → Int32 → Prop
  | 0, _, _, _ => False
  | n_ + 1, X, x1, x2 => ((x2 ≤ 0 → Q x1 X) ∧ (¬ (x2 ≤ 0) → wp_X11_bits_4 Q n_ X (x1 + (x2 &&& (1 : Int32))) (x2 >>> ((1 : Int32) &&& 31))))
set_option maxHeartbeats 4000000 in
set_option maxRecDepth 100000 in
theorem tw_X11_bits_4 {p : Program} {l : Launch} {e : Env} {s : State} {m : MethodId} {args : Array Value} {below : List Frame} {meth : Method} {c : Code} {E : db_E} (S : CallFix p m c cX11_bits 3 s args wsX11_bits RX11) (hr : meth.sig.returnType = (some .int)) (hlocks : meth.locks = false)  {Q : Int32 → db_St → Prop} : ∀ (n : Nat) (X : db_St) (x1 : Int32) (x2 : Int32) (H : Heap) (locs : List Loc) (ls : Array Slot), wp_X11_bits_4 Q n X x1 x2 → db_HW E (db_Aw E s.heap.size) s X H locs → lv_has ls 3 [(1, .int x1), (2, .int x2)] → W p l e rm_X11_bits s m args below meth c H locs 0 0 (MQ below (va_Qi Q (db_Po E) (db_Aw E s.heap.size)) args s 0 0 (db_Aw E s.heap.size)) (F0 m 4 ls []) := by
  have hx := S.1
  have hb := S.2.1
  intro n
  induction n with
  | zero =>
    intro X x1 x2 H locs ls h hw hl
    exact False.elim h
  | succ n_ ih =>
    intro X x1 x2 H locs ls h hw hl
    unfold wp_X11_bits_4 at h
    refine lv_iload_n hx hb dX11_bits_4 rfl (lv_at hl 1 rfl) ?_
    refine lv_if_le (tgt := 21) hx hb dX11_bits_5 (by decide) (fun c1 => ?_) (fun c1 => ?_)
    · have h := h.1 c1
      refine lv_iload_n hx hb dX11_bits_21 rfl (lv_at hl 0 rfl) ?_
      exact db_iret S hr hlocks hw h dX11_bits_22
    · have h := h.2 c1
      refine lv_iload_n hx hb dX11_bits_8 rfl (lv_at hl 0 rfl) ?_
      refine lv_iload_n hx hb dX11_bits_9 rfl (lv_at hl 1 rfl) ?_
      refine lv_iconst (v := (1 : Int32)) hx hb dX11_bits_10 (by decide) ?_
      refine lv_iand hx hb dX11_bits_11 ?_
      refine lv_iadd hx hb dX11_bits_12 ?_
      refine lv_istore_n (lv' := [(1, .int (x1 + (x2 &&& (1 : Int32)))), (2, .int x2)]) hx hb dX11_bits_13 rfl hl (by decide) rfl (fun ls hl => ?_)
      refine lv_iload_n hx hb dX11_bits_14 rfl (lv_at hl 1 rfl) ?_
      refine lv_iconst (v := (1 : Int32)) hx hb dX11_bits_15 (by decide) ?_
      refine lv_ishr hx hb dX11_bits_16 ?_
      refine lv_istore_n (lv' := [(2, .int (x2 >>> ((1 : Int32) &&& 31))), (1, .int (x1 + (x2 &&& (1 : Int32))))]) hx hb dX11_bits_17 rfl hl (by decide) rfl (fun ls hl => ?_)
      refine lv_goto (tgt := 4) hx hb dX11_bits_18 (by decide) ?_
      exact ih _ _ _ _ _ _ h hw (lv_sub hl [1, 0] rfl)
def wp_X11_bits  (X : db_St) (x0 : Int32) (Q : Int32 → db_St → Prop) : Prop := (∃ f_, wp_X11_bits_4 Q f_ X (0 : Int32) x0)
set_option maxHeartbeats 4000000 in
set_option maxRecDepth 100000 in
theorem ct_X11_bits {l : Launch} {E : db_E}  {X : db_St} {x0 : Int32} {Q : Int32 → db_St → Prop} (h : wp_X11_bits  X x0 Q) : db_MI l E yX11_bits wsX11_bits rm_X11_bits X [.int x0] Q := by
  intro sz
  unfold wp_X11_bits at h
  refine Met.ofW (cc := cX11_bits) (maxL := 3) (ret := (some .int)) (by decide) rfl ?_
  intro p e s m args below meth c s₁ B hml hv
  obtain ⟨rfl, hsz, hU⟩ := hv
  subst hsz
  have S : CallFix p m c cX11_bits 3 s ([.int x0] : List Value).toArray wsX11_bits RX11 := ⟨B.exec, B.bytes, hml, findClass_of_methodNamed B.named, atoms_spec (ws := wsX11_bits) B.pre⟩
  have hx := S.1
  have hb := S.2.1
  have hr := B.returns
  have hlocks := B.notSynchronized
  have hw := db_start hU
  have hl := lv_entry ([.int x0]) (n := 3) (Nat.le_of_ble_eq_true rfl)
  rw [lg_entry_eq]
  generalize (lg_sl ([.int x0]) ++ List.replicate (3 - (lg_sl ([.int x0])).length) Slot.unset).toArray = ls at hl ⊢
  have hl : lv_has ls 3 [(0, .int x0)] := hl
  refine lv_iconst (v := (0 : Int32)) hx hb dX11_bits_0 (by decide) ?_
  refine lv_istore_n (lv' := [(1, .int (0 : Int32)), (0, .int x0)]) hx hb dX11_bits_1 rfl hl (by decide) rfl (fun ls hl => ?_)
  refine lv_iload_n hx hb dX11_bits_2 rfl (lv_at hl 1 rfl) ?_
  refine lv_istore_n (lv' := [(2, .int x0), (1, .int (0 : Int32)), (0, .int x0)]) hx hb dX11_bits_3 rfl hl (by decide) rfl (fun ls hl => ?_)
  obtain ⟨f_, h⟩ := h
  exact tw_X11_bits_4 S hr hlocks   f_ _ _ _ _ _ _ h hw (lv_sub hl [1, 0] rfl)
-- DaysOnBreadModel.feed(IJ)I
abbrev rm_X11_feed : Room := { frames := 1, cells := 0, slots := 0, locals := 21 }
def wp_X11_feed_39 (Q : Int32 → db_St → Prop) : Nat → db_St → Int32 → Int64 → Int32 → Prop
  | 0, _, _, _, _ => False
  | n_ + 1, X, x1, x2, x4 => ((x1 ≤ x4 → Q (X.1 90 5) X) ∧ (¬ (x1 ≤ x4) → (vp_in (X.1 90 5) 16 ∧ (∀ X2, X2 = (db_si X 94 ((X.1 90 5)).toNatClampNeg ((((db_lshr x2 ((8 : Int32) * x4)) &&& (255 : Int64))).toInt32)) → (∀ X3, X3 = (db_si X2 90 5 ((X2.1 90 5) + (1 : Int32))) → wp_X11_feed_39 Q n_ X3 x1 x2 (x4 + (1 : Int32)))))))
set_option maxHeartbeats 4000000 in
set_option maxRecDepth 100000 in
theorem tw_X11_feed_39 {p : Program} {l : Launch} {e : Env} {s : State} {m : MethodId} {args : Array Value} {below : List Frame} {meth : Method} {c : Code} {E : db_E} (S : CallFix p m c cX11_feed 5 s args wsX11_feed RX11) (hr : meth.sig.returnType = (some .int)) (hlocks : meth.locks = false)  {Q : Int32 → db_St → Prop} : ∀ (n : Nat) (X : db_St) (x1 : Int32) (x2 : Int64) (x4 : Int32) (H : Heap) (locs : List Loc) (ls : Array Slot), wp_X11_feed_39 Q n X x1 x2 x4 → db_HW E (db_Aw E s.heap.size) s X H locs → lv_has ls 5 [(0, .ref (db_ad E 90)), (1, .int x1), (2, .long x2), (4, .int x4)] → W p l e rm_X11_feed s m args below meth c H locs 0 0 (MQ below (va_Qi Q (db_Po E) (db_Aw E s.heap.size)) args s 0 0 (db_Aw E s.heap.size)) (F0 m 39 ls []) := by
  have hx := S.1
  have hb := S.2.1
  have hiX11 : ∀ w ∈ wsX110, w ∈ wsX11_feed := fun w_ h_ => List.mem_cons_of_mem _ (List.mem_append_right _ h_)
  intro n
  induction n with
  | zero =>
    intro X x1 x2 x4 H locs ls h hw hl
    exact False.elim h
  | succ n_ ih =>
    intro X x1 x2 x4 H locs ls h hw hl
    unfold wp_X11_feed_39 at h
    refine lv_iload hx hb dX11_feed_39 (lv_at hl 3 rfl) ?_
    refine lv_iload_n hx hb dX11_feed_41 rfl (lv_at hl 1 rfl) ?_
    refine lv_icmp_ge (tgt := 82) hx hb dX11_feed_42 (by decide) (fun c4 => ?_) (fun c4 => ?_)
    · have h := h.1 c4
      refine lv_aload_n hx hb dX11_feed_82 rfl (lv_at hl 0 rfl) ?_
      refine db_geti S hw (Nat.le_of_ble_eq_true rfl) db_s90 (C := RX11) (T := TX11) (N := 19) rfl hiX11 5 (by decide) rfl (List.mem_of_getElem? (i := 1) rfl) dX11_feed_83 ?_
      exact db_iret S hr hlocks hw h dX11_feed_86
    · have h := h.2 c4
      refine lv_aload_n hx hb dX11_feed_45 rfl (lv_at hl 0 rfl) ?_
      refine db_getr S hw (Nat.le_of_ble_eq_true rfl) db_s90 (C := RX11) (T := TX11) (N := 19) rfl hiX11 4 (by decide) (r := 94) rfl (List.mem_of_getElem? (i := 2) rfl) dX11_feed_46 ?_
      refine lv_aload_n hx hb dX11_feed_49 rfl (lv_at hl 0 rfl) ?_
      refine db_geti S hw (Nat.le_of_ble_eq_true rfl) db_s90 (C := RX11) (T := TX11) (N := 19) rfl hiX11 5 (by decide) rfl (List.mem_of_getElem? (i := 1) rfl) dX11_feed_50 ?_
      refine lv_lload_n hx hb dX11_feed_53 rfl (lv_at hl 2 rfl) ?_
      refine lv_bipush (v := (8 : Int32)) hx hb dX11_feed_54 (by decide) ?_
      refine lv_iload hx hb dX11_feed_56 (lv_at hl 3 rfl) ?_
      refine lv_imul hx hb dX11_feed_58 ?_
      refine lv_lshr (v := (db_lshr x2 ((8 : Int32) * x4))) hx hb dX11_feed_59 rfl ?_
      refine lv_ldc2 (v := (255 : Int64)) hx hb S.2.2.2.1 (S.2.2.2.2 _ (List.mem_of_getElem? (i := 3) rfl)) dX11_feed_60 ?_
      refine lv_land hx hb dX11_feed_63 ?_
      refine lv_l2i (v := ((((db_lshr x2 ((8 : Int32) * x4)) &&& (255 : Int64))).toInt32)) hx hb dX11_feed_64 rfl ?_
      obtain ⟨g1, h⟩ := h
      refine db_iast S hw (Nat.le_of_ble_eq_true rfl) db_s94 g1 dX11_feed_65 (fun H locs hw => ?_)
      obtain ⟨X2, e2, hw⟩ : ∃ Z_, Z_ = (db_si X 94 ((X.1 90 5)).toNatClampNeg ((((db_lshr x2 ((8 : Int32) * x4)) &&& (255 : Int64))).toInt32)) ∧ db_HW E (db_Aw E s.heap.size) s Z_ H locs := ⟨_, rfl, hw⟩
      have h := h X2 e2
      refine lv_aload_n hx hb dX11_feed_66 rfl (lv_at hl 0 rfl) ?_
      refine lv_dup hx hb dX11_feed_67 rfl ?_
      refine db_geti S hw (Nat.le_of_ble_eq_true rfl) db_s90 (C := RX11) (T := TX11) (N := 19) rfl hiX11 5 (by decide) rfl (List.mem_of_getElem? (i := 1) rfl) dX11_feed_68 ?_
      refine lv_iconst (v := (1 : Int32)) hx hb dX11_feed_71 (by decide) ?_
      refine lv_iadd hx hb dX11_feed_72 ?_
      refine db_puti S hw (Nat.le_of_ble_eq_true rfl) db_s90 (C := RX11) (T := TX11) (N := 19) rfl hiX11 tyX11_ok nmX11 5 (by decide) rfl (List.mem_of_getElem? (i := 1) rfl) rfl ⟨rfl, rfl⟩ dX11_feed_73 (fun H locs hw => ?_)
      obtain ⟨X3, e3, hw⟩ : ∃ Z_, Z_ = (db_si X2 90 5 ((X2.1 90 5) + (1 : Int32))) ∧ db_HW E (db_Aw E s.heap.size) s Z_ H locs := ⟨_, rfl, hw⟩
      have h := h X3 e3
      refine lv_iinc (v := (x4 + (1 : Int32))) (lv' := [(4, .int (x4 + (1 : Int32))), (0, .ref (db_ad E 90)), (1, .int x1), (2, .long x2)]) hx hb dX11_feed_76 hl (k := 3) rfl (congrArg (fun z_ => x4 + z_) (show Int32.ofInt (1) = (1 : Int32) by decide)) (by decide) rfl (fun ls hl => ?_)
      refine lv_goto (tgt := 39) hx hb dX11_feed_79 (by decide) ?_
      exact ih _ _ _ _ _ _ _ h hw (lv_sub hl [1, 2, 3, 0] rfl)
def wp_X11_feed  (X : db_St) (x1 : Int32) (x2 : Int64) (Q : Int32 → db_St → Prop) : Prop := (((1 : Int32) ≤ x1 → (((8 : Int32) < x1 → wp_X11_refuse X (-6 : Int32) (fun r1 X1 => Q r1 X1)) ∧ (¬ ((8 : Int32) < x1) → ((((X.1 90 5) + x1) ≤ (16 : Int32) → (∃ f_, wp_X11_feed_39 Q f_ X x1 x2 (0 : Int32))) ∧ (¬ (((X.1 90 5) + x1) ≤ (16 : Int32)) → wp_X11_refuse X (-6 : Int32) (fun r2 X2 => Q r2 X2)))))) ∧ (¬ ((1 : Int32) ≤ x1) → wp_X11_refuse X (-4 : Int32) (fun r5 X5 => Q r5 X5)))
set_option maxHeartbeats 4000000 in
set_option maxRecDepth 100000 in
theorem ct_X11_feed {l : Launch} {E : db_E}  {X : db_St} {x1 : Int32} {x2 : Int64} {Q : Int32 → db_St → Prop} (h : wp_X11_feed  X x1 x2 Q) : db_MI l E yX11_feed wsX11_feed rm_X11_feed X [.ref (db_ad E 90), .int x1, .long x2] Q := by
  intro sz
  unfold wp_X11_feed at h
  refine Met.ofW (cc := cX11_feed) (maxL := 5) (ret := (some .int)) (by decide) rfl ?_
  intro p e s m args below meth c s₁ B hml hv
  obtain ⟨rfl, hsz, hU⟩ := hv
  subst hsz
  have S : CallFix p m c cX11_feed 5 s ([.ref (db_ad E 90), .int x1, .long x2] : List Value).toArray wsX11_feed RX11 := ⟨B.exec, B.bytes, hml, findClass_of_methodNamed B.named, atoms_spec (ws := wsX11_feed) B.pre⟩
  have hx := S.1
  have hb := S.2.1
  have hr := B.returns
  have hlocks := B.notSynchronized
  have hw := db_start hU
  have hiX11 : ∀ w ∈ wsX110, w ∈ wsX11_feed := fun w_ h_ => List.mem_cons_of_mem _ (List.mem_append_right _ h_)
  have hl := lv_entry ([.ref (db_ad E 90), .int x1, .long x2]) (n := 5) (Nat.le_of_ble_eq_true rfl)
  rw [lg_entry_eq]
  generalize (lg_sl ([.ref (db_ad E 90), .int x1, .long x2]) ++ List.replicate (5 - (lg_sl ([.ref (db_ad E 90), .int x1, .long x2])).length) Slot.unset).toArray = ls at hl ⊢
  have hl : lv_has ls 5 [(0, .ref (db_ad E 90)), (1, .int x1), (2, .long x2)] := hl
  refine lv_iload_n hx hb dX11_feed_0 rfl (lv_at hl 1 rfl) ?_
  refine lv_iconst (v := (1 : Int32)) hx hb dX11_feed_1 (by decide) ?_
  refine lv_icmp_ge (tgt := 12) hx hb dX11_feed_2 (by decide) (fun c6 => ?_) (fun c6 => ?_)
  · have h := h.1 c6
    refine lv_iload_n hx hb dX11_feed_12 rfl (lv_at hl 1 rfl) ?_
    refine lv_bipush (v := (8 : Int32)) hx hb dX11_feed_13 (by decide) ?_
    refine lv_icmp_gt (tgt := 29) hx hb dX11_feed_15 (by decide) (fun c4 => ?_) (fun c4 => ?_)
    · have h := h.1 c4
      refine lv_aload_n hx hb dX11_feed_29 rfl (lv_at hl 0 rfl) ?_
      refine lv_bipush (v := (-6 : Int32)) hx hb dX11_feed_30 (by decide) ?_
      refine db_callVi S hw (Nat.le_of_ble_eq_true rfl) db_s90 (C := RX11) (T := TX11) (N := 19) (As := [.int (-6 : Int32)]) rfl (ct_X11_refuse  h) gX11_feed_X11_refuse rfl ⟨rfl, rfl, Nat.le_of_ble_eq_true rfl, Nat.le_of_ble_eq_true rfl⟩ 1 rfl (by decide +kernel) hl.1 rfl (Nat.le_of_ble_eq_true rfl) dX11_feed_32 ⟨Nat.zero_le _, Nat.zero_le _⟩ (fun r1 X1 H locs h hw => ?_)
      exact db_iret S hr hlocks hw h dX11_feed_35
    · have h := h.2 c4
      refine lv_aload_n hx hb dX11_feed_18 rfl (lv_at hl 0 rfl) ?_
      refine db_geti S hw (Nat.le_of_ble_eq_true rfl) db_s90 (C := RX11) (T := TX11) (N := 19) rfl hiX11 5 (by decide) rfl (List.mem_of_getElem? (i := 1) rfl) dX11_feed_19 ?_
      refine lv_iload_n hx hb dX11_feed_22 rfl (lv_at hl 1 rfl) ?_
      refine lv_iadd hx hb dX11_feed_23 ?_
      refine lv_bipush (v := (16 : Int32)) hx hb dX11_feed_24 (by decide) ?_
      refine lv_icmp_le (tgt := 36) hx hb dX11_feed_26 (by decide) (fun c3 => ?_) (fun c3 => ?_)
      · have h := h.1 c3
        refine lv_iconst (v := (0 : Int32)) hx hb dX11_feed_36 (by decide) ?_
        refine lv_istore (lv' := [(4, .int (0 : Int32)), (0, .ref (db_ad E 90)), (1, .int x1), (2, .long x2)]) hx hb dX11_feed_37 hl (by decide) rfl (fun ls hl => ?_)
        obtain ⟨f_, h⟩ := h
        exact tw_X11_feed_39 S hr hlocks   f_ _ _ _ _ _ _ _ h hw (lv_sub hl [1, 2, 3, 0] rfl)
      · have h := h.2 c3
        refine lv_aload_n hx hb dX11_feed_29 rfl (lv_at hl 0 rfl) ?_
        refine lv_bipush (v := (-6 : Int32)) hx hb dX11_feed_30 (by decide) ?_
        refine db_callVi S hw (Nat.le_of_ble_eq_true rfl) db_s90 (C := RX11) (T := TX11) (N := 19) (As := [.int (-6 : Int32)]) rfl (ct_X11_refuse  h) gX11_feed_X11_refuse rfl ⟨rfl, rfl, Nat.le_of_ble_eq_true rfl, Nat.le_of_ble_eq_true rfl⟩ 1 rfl (by decide +kernel) hl.1 rfl (Nat.le_of_ble_eq_true rfl) dX11_feed_32 ⟨Nat.zero_le _, Nat.zero_le _⟩ (fun r2 X2 H locs h hw => ?_)
        exact db_iret S hr hlocks hw h dX11_feed_35
  · have h := h.2 c6
    refine lv_aload_n hx hb dX11_feed_5 rfl (lv_at hl 0 rfl) ?_
    refine lv_bipush (v := (-4 : Int32)) hx hb dX11_feed_6 (by decide) ?_
    refine db_callVi S hw (Nat.le_of_ble_eq_true rfl) db_s90 (C := RX11) (T := TX11) (N := 19) (As := [.int (-4 : Int32)]) rfl (ct_X11_refuse  h) gX11_feed_X11_refuse rfl ⟨rfl, rfl, Nat.le_of_ble_eq_true rfl, Nat.le_of_ble_eq_true rfl⟩ 1 rfl (by decide +kernel) hl.1 rfl (Nat.le_of_ble_eq_true rfl) dX11_feed_8 ⟨Nat.zero_le _, Nat.zero_le _⟩ (fun r5 X5 H locs h hw => ?_)
    exact db_iret S hr hlocks hw h dX11_feed_11
-- DaysOnBreadModel.sign()I
abbrev rm_X11_sign : Room := { frames := 0, cells := 0, slots := 0, locals := 0 }
def wp_X11_sign  (X : db_St)  (Q : Int32 → db_St → Prop) : Prop := (((X.1 90 6) < (X.1 90 5) → (vp_in (X.1 90 6) 16 ∧ Q (X.1 94 ((X.1 90 6)).toNatClampNeg) X)) ∧ (¬ ((X.1 90 6) < (X.1 90 5)) → Q (-1 : Int32) X))
set_option maxHeartbeats 4000000 in
set_option maxRecDepth 100000 in
theorem ct_X11_sign {l : Launch} {E : db_E}  {X : db_St}  {Q : Int32 → db_St → Prop} (h : wp_X11_sign  X  Q) : db_MI l E yX11_sign wsX11_sign rm_X11_sign X [.ref (db_ad E 90)] Q := by
  intro sz
  unfold wp_X11_sign at h
  refine Met.ofW (cc := cX11_sign) (maxL := 1) (ret := (some .int)) (by decide) rfl ?_
  intro p e s m args below meth c s₁ B hml hv
  obtain ⟨rfl, hsz, hU⟩ := hv
  subst hsz
  have S : CallFix p m c cX11_sign 1 s ([.ref (db_ad E 90)] : List Value).toArray wsX11_sign RX11 := ⟨B.exec, B.bytes, hml, findClass_of_methodNamed B.named, atoms_spec (ws := wsX11_sign) B.pre⟩
  have hx := S.1
  have hb := S.2.1
  have hr := B.returns
  have hlocks := B.notSynchronized
  have hw := db_start hU
  have hiX11 : ∀ w ∈ wsX110, w ∈ wsX11_sign := fun w_ h_ => List.mem_cons_of_mem _ (List.mem_append_right _ h_)
  have hl := lv_entry ([.ref (db_ad E 90)]) (n := 1) (Nat.le_of_ble_eq_true rfl)
  rw [lg_entry_eq]
  generalize (lg_sl ([.ref (db_ad E 90)]) ++ List.replicate (1 - (lg_sl ([.ref (db_ad E 90)])).length) Slot.unset).toArray = ls at hl ⊢
  have hl : lv_has ls 1 [(0, .ref (db_ad E 90))] := hl
  refine lv_aload_n hx hb dX11_sign_0 rfl (lv_at hl 0 rfl) ?_
  refine db_geti S hw (Nat.le_of_ble_eq_true rfl) db_s90 (C := RX11) (T := TX11) (N := 19) rfl hiX11 6 (by decide) rfl (List.mem_of_getElem? (i := 1) rfl) dX11_sign_1 ?_
  refine lv_aload_n hx hb dX11_sign_4 rfl (lv_at hl 0 rfl) ?_
  refine db_geti S hw (Nat.le_of_ble_eq_true rfl) db_s90 (C := RX11) (T := TX11) (N := 19) rfl hiX11 5 (by decide) rfl (List.mem_of_getElem? (i := 2) rfl) dX11_sign_5 ?_
  refine lv_icmp_lt (tgt := 15) hx hb dX11_sign_8 (by decide) (fun c2 => ?_) (fun c2 => ?_)
  · have h := h.1 c2
    refine lv_aload_n hx hb dX11_sign_15 rfl (lv_at hl 0 rfl) ?_
    refine db_getr S hw (Nat.le_of_ble_eq_true rfl) db_s90 (C := RX11) (T := TX11) (N := 19) rfl hiX11 4 (by decide) (r := 94) rfl (List.mem_of_getElem? (i := 3) rfl) dX11_sign_16 ?_
    refine lv_aload_n hx hb dX11_sign_19 rfl (lv_at hl 0 rfl) ?_
    refine db_geti S hw (Nat.le_of_ble_eq_true rfl) db_s90 (C := RX11) (T := TX11) (N := 19) rfl hiX11 6 (by decide) rfl (List.mem_of_getElem? (i := 1) rfl) dX11_sign_20 ?_
    obtain ⟨g1, h⟩ := h
    refine db_iald S hw (Nat.le_of_ble_eq_true rfl) db_s94 g1 dX11_sign_23 ?_
    exact db_iret S hr hlocks hw h dX11_sign_24
  · have h := h.2 c2
    refine lv_iconst (v := (-1 : Int32)) hx hb dX11_sign_11 (by decide) ?_
    refine lv_goto (tgt := 24) hx hb dX11_sign_12 (by decide) ?_
    exact db_iret S hr hlocks hw h dX11_sign_24
-- DaysOnBreadModel.markOf(I)I
abbrev rm_X11_markOf : Room := { frames := 0, cells := 0, slots := 0, locals := 0 }
def wp_X11_markOf  (X : db_St) (x0 : Int32) (Q : Int32 → db_St → Prop) : Prop := ((x0 = (98 : Int32) → Q (0 : Int32) X) ∧ (¬ x0 = (98 : Int32) → ((x0 = (100 : Int32) → Q (1 : Int32) X) ∧ (¬ x0 = (100 : Int32) → ((x0 = (109 : Int32) → Q (2 : Int32) X) ∧ (¬ x0 = (109 : Int32) → ((x0 = (114 : Int32) → Q (3 : Int32) X) ∧ (¬ x0 = (114 : Int32) → Q (-9 : Int32) X))))))))
set_option maxHeartbeats 4000000 in
set_option maxRecDepth 100000 in
theorem ct_X11_markOf {l : Launch} {E : db_E}  {X : db_St} {x0 : Int32} {Q : Int32 → db_St → Prop} (h : wp_X11_markOf  X x0 Q) : db_MI l E yX11_markOf wsX11_markOf rm_X11_markOf X [.int x0] Q := by
  intro sz
  unfold wp_X11_markOf at h
  refine Met.ofW (cc := cX11_markOf) (maxL := 1) (ret := (some .int)) (by decide) rfl ?_
  intro p e s m args below meth c s₁ B hml hv
  obtain ⟨rfl, hsz, hU⟩ := hv
  subst hsz
  have S : CallFix p m c cX11_markOf 1 s ([.int x0] : List Value).toArray wsX11_markOf RX11 := ⟨B.exec, B.bytes, hml, findClass_of_methodNamed B.named, atoms_spec (ws := wsX11_markOf) B.pre⟩
  have hx := S.1
  have hb := S.2.1
  have hr := B.returns
  have hlocks := B.notSynchronized
  have hw := db_start hU
  have hl := lv_entry ([.int x0]) (n := 1) (Nat.le_of_ble_eq_true rfl)
  rw [lg_entry_eq]
  generalize (lg_sl ([.int x0]) ++ List.replicate (1 - (lg_sl ([.int x0])).length) Slot.unset).toArray = ls at hl ⊢
  have hl : lv_has ls 1 [(0, .int x0)] := hl
  refine lv_iload_n hx hb dX11_markOf_0 rfl (lv_at hl 0 rfl) ?_
  refine lv_bipush (v := (98 : Int32)) hx hb dX11_markOf_1 (by decide) ?_
  refine lv_icmp_ne (tgt := 10) hx hb dX11_markOf_3 (by decide) (fun c4 => ?_) (fun c4 => ?_)
  · have h := h.2 c4
    refine lv_iload_n hx hb dX11_markOf_10 rfl (lv_at hl 0 rfl) ?_
    refine lv_bipush (v := (100 : Int32)) hx hb dX11_markOf_11 (by decide) ?_
    refine lv_icmp_ne (tgt := 20) hx hb dX11_markOf_13 (by decide) (fun c3 => ?_) (fun c3 => ?_)
    · have h := h.2 c3
      refine lv_iload_n hx hb dX11_markOf_20 rfl (lv_at hl 0 rfl) ?_
      refine lv_bipush (v := (109 : Int32)) hx hb dX11_markOf_21 (by decide) ?_
      refine lv_icmp_ne (tgt := 30) hx hb dX11_markOf_23 (by decide) (fun c2 => ?_) (fun c2 => ?_)
      · have h := h.2 c2
        refine lv_iload_n hx hb dX11_markOf_30 rfl (lv_at hl 0 rfl) ?_
        refine lv_bipush (v := (114 : Int32)) hx hb dX11_markOf_31 (by decide) ?_
        refine lv_icmp_ne (tgt := 40) hx hb dX11_markOf_33 (by decide) (fun c1 => ?_) (fun c1 => ?_)
        · have h := h.2 c1
          refine lv_bipush (v := (-9 : Int32)) hx hb dX11_markOf_40 (by decide) ?_
          exact db_iret S hr hlocks hw h dX11_markOf_42
        · have h := h.1 c1
          refine lv_iconst (v := (3 : Int32)) hx hb dX11_markOf_36 (by decide) ?_
          refine lv_goto (tgt := 42) hx hb dX11_markOf_37 (by decide) ?_
          exact db_iret S hr hlocks hw h dX11_markOf_42
      · have h := h.1 c2
        refine lv_iconst (v := (2 : Int32)) hx hb dX11_markOf_26 (by decide) ?_
        refine lv_goto (tgt := 42) hx hb dX11_markOf_27 (by decide) ?_
        exact db_iret S hr hlocks hw h dX11_markOf_42
    · have h := h.1 c3
      refine lv_iconst (v := (1 : Int32)) hx hb dX11_markOf_16 (by decide) ?_
      refine lv_goto (tgt := 42) hx hb dX11_markOf_17 (by decide) ?_
      exact db_iret S hr hlocks hw h dX11_markOf_42
  · have h := h.1 c4
    refine lv_iconst (v := (0 : Int32)) hx hb dX11_markOf_6 (by decide) ?_
    refine lv_goto (tgt := 42) hx hb dX11_markOf_7 (by decide) ?_
    exact db_iret S hr hlocks hw h dX11_markOf_42
-- DaysOnBreadModel.reads(I)Z
abbrev rm_X11_reads : Room := { frames := 1, cells := 0, slots := 0, locals := 20 }
def wp_X11_reads_141 (Q : Int32 → db_St → Prop) : Nat → db_St → Int32 → Int32 → Prop
  | 0, _, _, _ => False
  | n_ + 1, X, x1, x3 => (((3 : Int32) ≤ x3 → ((x3 ≤ 0 → Q (0 : Int32) X) ∧ (¬ (x3 ≤ 0) → (((X.1 90 6) = (X.1 90 5) → Q (1 : Int32) X) ∧ (¬ (X.1 90 6) = (X.1 90 5) → Q (0 : Int32) X))))) ∧ (¬ ((3 : Int32) ≤ x3) → wp_X11_sign X (fun r3 X3 => ((r3 < (48 : Int32) → ((x3 ≤ 0 → Q (0 : Int32) X3) ∧ (¬ (x3 ≤ 0) → (((X3.1 90 6) = (X3.1 90 5) → Q (1 : Int32) X3) ∧ (¬ (X3.1 90 6) = (X3.1 90 5) → Q (0 : Int32) X3))))) ∧ (¬ (r3 < (48 : Int32)) → wp_X11_sign X3 (fun r6 X6 => (((57 : Int32) < r6 → ((x3 ≤ 0 → Q (0 : Int32) X6) ∧ (¬ (x3 ≤ 0) → (((X6.1 90 6) = (X6.1 90 5) → Q (1 : Int32) X6) ∧ (¬ (X6.1 90 6) = (X6.1 90 5) → Q (0 : Int32) X6))))) ∧ (¬ ((57 : Int32) < r6) → (vp_in (x1 + (2 : Int32)) 310 ∧ wp_X11_sign X6 (fun r10 X10 => (vp_in (x1 + (2 : Int32)) 310 ∧ (∀ X12, X12 = (db_si X10 92 ((x1 + (2 : Int32))).toNatClampNeg ((((10 : Int32) * (X6.1 92 ((x1 + (2 : Int32))).toNatClampNeg)) + r10) - (48 : Int32))) → (∀ X13, X13 = (db_si X12 90 6 ((X12.1 90 6) + (1 : Int32))) → wp_X11_reads_141 Q n_ X13 x1 (x3 + (1 : Int32)))))))))))))))
set_option maxHeartbeats 4000000 in
set_option maxRecDepth 100000 in
theorem tw_X11_reads_141 {p : Program} {l : Launch} {e : Env} {s : State} {m : MethodId} {args : Array Value} {below : List Frame} {meth : Method} {c : Code} {E : db_E} (S : CallFix p m c cX11_reads 4 s args wsX11_reads RX11) (hr : meth.sig.returnType = (some .boolean)) (hlocks : meth.locks = false)  {Q : Int32 → db_St → Prop} : ∀ (n : Nat) (X : db_St) (x1 : Int32) (x3 : Int32) (H : Heap) (locs : List Loc) (ls : Array Slot), wp_X11_reads_141 Q n X x1 x3 → db_HW E (db_Aw E s.heap.size) s X H locs → lv_has ls 4 [(0, .ref (db_ad E 90)), (1, .int x1), (3, .int x3)] → W p l e rm_X11_reads s m args below meth c H locs 0 0 (MQ below (va_Qi Q (db_Po E) (db_Aw E s.heap.size)) args s 0 0 (db_Aw E s.heap.size)) (F0 m 141 ls []) := by
  have hx := S.1
  have hb := S.2.1
  have hiX11 : ∀ w ∈ wsX110, w ∈ wsX11_reads := fun w_ h_ => List.mem_cons_of_mem _ (List.mem_append_right _ h_)
  intro n
  induction n with
  | zero =>
    intro X x1 x3 H locs ls h hw hl
    exact False.elim h
  | succ n_ ih =>
    intro X x1 x3 H locs ls h hw hl
    unfold wp_X11_reads_141 at h
    refine lv_iload_n hx hb dX11_reads_141 rfl (lv_at hl 2 rfl) ?_
    refine lv_iconst (v := (3 : Int32)) hx hb dX11_reads_142 (by decide) ?_
    refine lv_icmp_ge (tgt := 207) hx hb dX11_reads_143 (by decide) (fun c16 => ?_) (fun c16 => ?_)
    · have h := h.1 c16
      refine lv_iload_n hx hb dX11_reads_207 rfl (lv_at hl 2 rfl) ?_
      refine lv_if_le (tgt := 226) hx hb dX11_reads_208 (by decide) (fun c2 => ?_) (fun c2 => ?_)
      · have h := h.1 c2
        refine lv_iconst (v := (0 : Int32)) hx hb dX11_reads_226 (by decide) ?_
        exact db_zret S hr hlocks rfl hw h dX11_reads_227
      · have h := h.2 c2
        refine lv_aload_n hx hb dX11_reads_211 rfl (lv_at hl 0 rfl) ?_
        refine db_geti S hw (Nat.le_of_ble_eq_true rfl) db_s90 (C := RX11) (T := TX11) (N := 19) rfl hiX11 6 (by decide) rfl (List.mem_of_getElem? (i := 1) rfl) dX11_reads_212 ?_
        refine lv_aload_n hx hb dX11_reads_215 rfl (lv_at hl 0 rfl) ?_
        refine db_geti S hw (Nat.le_of_ble_eq_true rfl) db_s90 (C := RX11) (T := TX11) (N := 19) rfl hiX11 5 (by decide) rfl (List.mem_of_getElem? (i := 3) rfl) dX11_reads_216 ?_
        refine lv_icmp_ne (tgt := 226) hx hb dX11_reads_219 (by decide) (fun c1 => ?_) (fun c1 => ?_)
        · have h := h.2 c1
          refine lv_iconst (v := (0 : Int32)) hx hb dX11_reads_226 (by decide) ?_
          exact db_zret S hr hlocks rfl hw h dX11_reads_227
        · have h := h.1 c1
          refine lv_iconst (v := (1 : Int32)) hx hb dX11_reads_222 (by decide) ?_
          refine lv_goto (tgt := 227) hx hb dX11_reads_223 (by decide) ?_
          exact db_zret S hr hlocks rfl hw h dX11_reads_227
    · have h := h.2 c16
      refine lv_aload_n hx hb dX11_reads_146 rfl (lv_at hl 0 rfl) ?_
      refine db_callVi S hw (Nat.le_of_ble_eq_true rfl) db_s90 (C := RX11) (T := TX11) (N := 19) (As := []) rfl (ct_X11_sign  h) gX11_reads_X11_sign rfl ⟨rfl, rfl, Nat.le_of_ble_eq_true rfl, Nat.le_of_ble_eq_true rfl⟩ 0 rfl (by decide +kernel) hl.1 rfl (Nat.le_of_ble_eq_true rfl) dX11_reads_147 ⟨Nat.zero_le _, Nat.zero_le _⟩ (fun r3 X3 H locs h hw => ?_)
      refine lv_bipush (v := (48 : Int32)) hx hb dX11_reads_150 (by decide) ?_
      refine lv_icmp_lt (tgt := 207) hx hb dX11_reads_152 (by decide) (fun c15 => ?_) (fun c15 => ?_)
      · have h := h.1 c15
        refine lv_iload_n hx hb dX11_reads_207 rfl (lv_at hl 2 rfl) ?_
        refine lv_if_le (tgt := 226) hx hb dX11_reads_208 (by decide) (fun c5 => ?_) (fun c5 => ?_)
        · have h := h.1 c5
          refine lv_iconst (v := (0 : Int32)) hx hb dX11_reads_226 (by decide) ?_
          exact db_zret S hr hlocks rfl hw h dX11_reads_227
        · have h := h.2 c5
          refine lv_aload_n hx hb dX11_reads_211 rfl (lv_at hl 0 rfl) ?_
          refine db_geti S hw (Nat.le_of_ble_eq_true rfl) db_s90 (C := RX11) (T := TX11) (N := 19) rfl hiX11 6 (by decide) rfl (List.mem_of_getElem? (i := 1) rfl) dX11_reads_212 ?_
          refine lv_aload_n hx hb dX11_reads_215 rfl (lv_at hl 0 rfl) ?_
          refine db_geti S hw (Nat.le_of_ble_eq_true rfl) db_s90 (C := RX11) (T := TX11) (N := 19) rfl hiX11 5 (by decide) rfl (List.mem_of_getElem? (i := 3) rfl) dX11_reads_216 ?_
          refine lv_icmp_ne (tgt := 226) hx hb dX11_reads_219 (by decide) (fun c4 => ?_) (fun c4 => ?_)
          · have h := h.2 c4
            refine lv_iconst (v := (0 : Int32)) hx hb dX11_reads_226 (by decide) ?_
            exact db_zret S hr hlocks rfl hw h dX11_reads_227
          · have h := h.1 c4
            refine lv_iconst (v := (1 : Int32)) hx hb dX11_reads_222 (by decide) ?_
            refine lv_goto (tgt := 227) hx hb dX11_reads_223 (by decide) ?_
            exact db_zret S hr hlocks rfl hw h dX11_reads_227
      · have h := h.2 c15
        refine lv_aload_n hx hb dX11_reads_155 rfl (lv_at hl 0 rfl) ?_
        refine db_callVi S hw (Nat.le_of_ble_eq_true rfl) db_s90 (C := RX11) (T := TX11) (N := 19) (As := []) rfl (ct_X11_sign  h) gX11_reads_X11_sign rfl ⟨rfl, rfl, Nat.le_of_ble_eq_true rfl, Nat.le_of_ble_eq_true rfl⟩ 0 rfl (by decide +kernel) hl.1 rfl (Nat.le_of_ble_eq_true rfl) dX11_reads_156 ⟨Nat.zero_le _, Nat.zero_le _⟩ (fun r6 X6 H locs h hw => ?_)
        refine lv_bipush (v := (57 : Int32)) hx hb dX11_reads_159 (by decide) ?_
        refine lv_icmp_gt (tgt := 207) hx hb dX11_reads_161 (by decide) (fun c14 => ?_) (fun c14 => ?_)
        · have h := h.1 c14
          refine lv_iload_n hx hb dX11_reads_207 rfl (lv_at hl 2 rfl) ?_
          refine lv_if_le (tgt := 226) hx hb dX11_reads_208 (by decide) (fun c8 => ?_) (fun c8 => ?_)
          · have h := h.1 c8
            refine lv_iconst (v := (0 : Int32)) hx hb dX11_reads_226 (by decide) ?_
            exact db_zret S hr hlocks rfl hw h dX11_reads_227
          · have h := h.2 c8
            refine lv_aload_n hx hb dX11_reads_211 rfl (lv_at hl 0 rfl) ?_
            refine db_geti S hw (Nat.le_of_ble_eq_true rfl) db_s90 (C := RX11) (T := TX11) (N := 19) rfl hiX11 6 (by decide) rfl (List.mem_of_getElem? (i := 1) rfl) dX11_reads_212 ?_
            refine lv_aload_n hx hb dX11_reads_215 rfl (lv_at hl 0 rfl) ?_
            refine db_geti S hw (Nat.le_of_ble_eq_true rfl) db_s90 (C := RX11) (T := TX11) (N := 19) rfl hiX11 5 (by decide) rfl (List.mem_of_getElem? (i := 3) rfl) dX11_reads_216 ?_
            refine lv_icmp_ne (tgt := 226) hx hb dX11_reads_219 (by decide) (fun c7 => ?_) (fun c7 => ?_)
            · have h := h.2 c7
              refine lv_iconst (v := (0 : Int32)) hx hb dX11_reads_226 (by decide) ?_
              exact db_zret S hr hlocks rfl hw h dX11_reads_227
            · have h := h.1 c7
              refine lv_iconst (v := (1 : Int32)) hx hb dX11_reads_222 (by decide) ?_
              refine lv_goto (tgt := 227) hx hb dX11_reads_223 (by decide) ?_
              exact db_zret S hr hlocks rfl hw h dX11_reads_227
        · have h := h.2 c14
          refine lv_aload_n hx hb dX11_reads_164 rfl (lv_at hl 0 rfl) ?_
          refine db_getr S hw (Nat.le_of_ble_eq_true rfl) db_s90 (C := RX11) (T := TX11) (N := 19) rfl hiX11 1 (by decide) (r := 92) rfl (List.mem_of_getElem? (i := 2) rfl) dX11_reads_165 ?_
          refine lv_iload_n hx hb dX11_reads_168 rfl (lv_at hl 1 rfl) ?_
          refine lv_iconst (v := (2 : Int32)) hx hb dX11_reads_169 (by decide) ?_
          refine lv_iadd hx hb dX11_reads_170 ?_
          refine lv_bipush (v := (10 : Int32)) hx hb dX11_reads_171 (by decide) ?_
          refine lv_aload_n hx hb dX11_reads_173 rfl (lv_at hl 0 rfl) ?_
          refine db_getr S hw (Nat.le_of_ble_eq_true rfl) db_s90 (C := RX11) (T := TX11) (N := 19) rfl hiX11 1 (by decide) (r := 92) rfl (List.mem_of_getElem? (i := 2) rfl) dX11_reads_174 ?_
          refine lv_iload_n hx hb dX11_reads_177 rfl (lv_at hl 1 rfl) ?_
          refine lv_iconst (v := (2 : Int32)) hx hb dX11_reads_178 (by decide) ?_
          refine lv_iadd hx hb dX11_reads_179 ?_
          obtain ⟨g9, h⟩ := h
          refine db_iald S hw (Nat.le_of_ble_eq_true rfl) db_s92 g9 dX11_reads_180 ?_
          refine lv_imul hx hb dX11_reads_181 ?_
          refine lv_aload_n hx hb dX11_reads_182 rfl (lv_at hl 0 rfl) ?_
          refine db_callVi S hw (Nat.le_of_ble_eq_true rfl) db_s90 (C := RX11) (T := TX11) (N := 19) (As := []) rfl (ct_X11_sign  h) gX11_reads_X11_sign rfl ⟨rfl, rfl, Nat.le_of_ble_eq_true rfl, Nat.le_of_ble_eq_true rfl⟩ 0 rfl (by decide +kernel) hl.1 rfl (Nat.le_of_ble_eq_true rfl) dX11_reads_183 ⟨Nat.zero_le _, Nat.zero_le _⟩ (fun r10 X10 H locs h hw => ?_)
          refine lv_iadd hx hb dX11_reads_186 ?_
          refine lv_bipush (v := (48 : Int32)) hx hb dX11_reads_187 (by decide) ?_
          refine lv_isub hx hb dX11_reads_189 ?_
          obtain ⟨g11, h⟩ := h
          refine db_iast S hw (Nat.le_of_ble_eq_true rfl) db_s92 g11 dX11_reads_190 (fun H locs hw => ?_)
          obtain ⟨X12, e12, hw⟩ : ∃ Z_, Z_ = (db_si X10 92 ((x1 + (2 : Int32))).toNatClampNeg ((((10 : Int32) * (X6.1 92 ((x1 + (2 : Int32))).toNatClampNeg)) + r10) - (48 : Int32))) ∧ db_HW E (db_Aw E s.heap.size) s Z_ H locs := ⟨_, rfl, hw⟩
          have h := h X12 e12
          refine lv_aload_n hx hb dX11_reads_191 rfl (lv_at hl 0 rfl) ?_
          refine lv_dup hx hb dX11_reads_192 rfl ?_
          refine db_geti S hw (Nat.le_of_ble_eq_true rfl) db_s90 (C := RX11) (T := TX11) (N := 19) rfl hiX11 6 (by decide) rfl (List.mem_of_getElem? (i := 1) rfl) dX11_reads_193 ?_
          refine lv_iconst (v := (1 : Int32)) hx hb dX11_reads_196 (by decide) ?_
          refine lv_iadd hx hb dX11_reads_197 ?_
          refine db_puti S hw (Nat.le_of_ble_eq_true rfl) db_s90 (C := RX11) (T := TX11) (N := 19) rfl hiX11 tyX11_ok nmX11 6 (by decide) rfl (List.mem_of_getElem? (i := 1) rfl) rfl ⟨rfl, rfl⟩ dX11_reads_198 (fun H locs hw => ?_)
          obtain ⟨X13, e13, hw⟩ : ∃ Z_, Z_ = (db_si X12 90 6 ((X12.1 90 6) + (1 : Int32))) ∧ db_HW E (db_Aw E s.heap.size) s Z_ H locs := ⟨_, rfl, hw⟩
          have h := h X13 e13
          refine lv_iinc (v := (x3 + (1 : Int32))) (lv' := [(3, .int (x3 + (1 : Int32))), (0, .ref (db_ad E 90)), (1, .int x1)]) hx hb dX11_reads_201 hl (k := 2) rfl (congrArg (fun z_ => x3 + z_) (show Int32.ofInt (1) = (1 : Int32) by decide)) (by decide) rfl (fun ls hl => ?_)
          refine lv_goto (tgt := 141) hx hb dX11_reads_204 (by decide) ?_
          exact ih _ _ _ _ _ _ h hw (lv_sub hl [1, 2, 0] rfl)
def wp_X11_reads_68 (Q : Int32 → db_St → Prop) : Nat → db_St → Int32 → Int32 → Prop
  | 0, _, _, _ => False
  | n_ + 1, X, x1, x2 => wp_X11_sign X (fun r1 X1 => wp_X11_markOf X1 r1 (fun r2 X2 => ((r2 < x2 → wp_X11_sign X2 (fun r3 X3 => ((r3 = (58 : Int32) → (∀ X4, X4 = (db_si X3 90 6 ((X3.1 90 6) + (1 : Int32))) → (∃ f_, wp_X11_reads_141 Q f_ X4 x1 (0 : Int32)))) ∧ (¬ (r3 = (58 : Int32)) → Q (0 : Int32) X3)))) ∧ (¬ (r2 < x2) → wp_X11_sign X2 (fun r6 X6 => wp_X11_markOf X6 r6 (fun r7 X7 => (vp_in (x1 + (1 : Int32)) 310 ∧ (vp_in (x1 + (1 : Int32)) 310 ∧ (∀ X10, X10 = (db_si X7 92 ((x1 + (1 : Int32))).toNatClampNeg ((X7.1 92 ((x1 + (1 : Int32))).toNatClampNeg) ||| ((1 : Int32) <<< (((r7 + (1 : Int32)) - (1 : Int32)) &&& 31)))) → (∀ X11, X11 = (db_si X10 90 6 ((X10.1 90 6) + (1 : Int32))) → wp_X11_reads_68 Q n_ X11 x1 (r7 + (1 : Int32))))))))))))
set_option maxHeartbeats 4000000 in
set_option maxRecDepth 100000 in
theorem tw_X11_reads_68 {p : Program} {l : Launch} {e : Env} {s : State} {m : MethodId} {args : Array Value} {below : List Frame} {meth : Method} {c : Code} {E : db_E} (S : CallFix p m c cX11_reads 4 s args wsX11_reads RX11) (hr : meth.sig.returnType = (some .boolean)) (hlocks : meth.locks = false)  {Q : Int32 → db_St → Prop} : ∀ (n : Nat) (X : db_St) (x1 : Int32) (x2 : Int32) (H : Heap) (locs : List Loc) (ls : Array Slot), wp_X11_reads_68 Q n X x1 x2 → db_HW E (db_Aw E s.heap.size) s X H locs → lv_has ls 4 [(0, .ref (db_ad E 90)), (1, .int x1), (2, .int x2)] → W p l e rm_X11_reads s m args below meth c H locs 0 0 (MQ below (va_Qi Q (db_Po E) (db_Aw E s.heap.size)) args s 0 0 (db_Aw E s.heap.size)) (F0 m 68 ls []) := by
  have hx := S.1
  have hb := S.2.1
  have hiX11 : ∀ w ∈ wsX110, w ∈ wsX11_reads := fun w_ h_ => List.mem_cons_of_mem _ (List.mem_append_right _ h_)
  intro n
  induction n with
  | zero =>
    intro X x1 x2 H locs ls h hw hl
    exact False.elim h
  | succ n_ ih =>
    intro X x1 x2 H locs ls h hw hl
    unfold wp_X11_reads_68 at h
    refine lv_aload_n hx hb dX11_reads_68 rfl (lv_at hl 0 rfl) ?_
    refine db_callVi S hw (Nat.le_of_ble_eq_true rfl) db_s90 (C := RX11) (T := TX11) (N := 19) (As := []) rfl (ct_X11_sign  h) gX11_reads_X11_sign rfl ⟨rfl, rfl, Nat.le_of_ble_eq_true rfl, Nat.le_of_ble_eq_true rfl⟩ 0 rfl (by decide +kernel) hl.1 rfl (Nat.le_of_ble_eq_true rfl) dX11_reads_69 ⟨Nat.zero_le _, Nat.zero_le _⟩ (fun r1 X1 H locs h hw => ?_)
    refine db_callSi S hw (As := [.int r1]) (ct_X11_markOf  h) gX11_reads_X11_markOf rfl ⟨rfl, rfl, Nat.le_of_ble_eq_true rfl, Nat.le_of_ble_eq_true rfl⟩ 1 rfl (by decide +kernel) hl.1 rfl (Nat.le_of_ble_eq_true rfl) dX11_reads_72 ⟨Nat.zero_le _, Nat.zero_le _⟩ (fun r2 X2 H locs h hw => ?_)
    refine lv_iload_n hx hb dX11_reads_75 rfl (lv_at hl 2 rfl) ?_
    refine lv_icmp_lt (tgt := 118) hx hb dX11_reads_76 (by decide) (fun c12 => ?_) (fun c12 => ?_)
    · have h := h.1 c12
      refine lv_aload_n hx hb dX11_reads_118 rfl (lv_at hl 0 rfl) ?_
      refine db_callVi S hw (Nat.le_of_ble_eq_true rfl) db_s90 (C := RX11) (T := TX11) (N := 19) (As := []) rfl (ct_X11_sign  h) gX11_reads_X11_sign rfl ⟨rfl, rfl, Nat.le_of_ble_eq_true rfl, Nat.le_of_ble_eq_true rfl⟩ 0 rfl (by decide +kernel) hl.1 rfl (Nat.le_of_ble_eq_true rfl) dX11_reads_119 ⟨Nat.zero_le _, Nat.zero_le _⟩ (fun r3 X3 H locs h hw => ?_)
      refine lv_bipush (v := (58 : Int32)) hx hb dX11_reads_122 (by decide) ?_
      refine lv_icmp_eq (tgt := 129) hx hb dX11_reads_124 (by decide) (fun c5 => ?_) (fun c5 => ?_)
      · have h := h.1 c5
        refine lv_aload_n hx hb dX11_reads_129 rfl (lv_at hl 0 rfl) ?_
        refine lv_dup hx hb dX11_reads_130 rfl ?_
        refine db_geti S hw (Nat.le_of_ble_eq_true rfl) db_s90 (C := RX11) (T := TX11) (N := 19) rfl hiX11 6 (by decide) rfl (List.mem_of_getElem? (i := 1) rfl) dX11_reads_131 ?_
        refine lv_iconst (v := (1 : Int32)) hx hb dX11_reads_134 (by decide) ?_
        refine lv_iadd hx hb dX11_reads_135 ?_
        refine db_puti S hw (Nat.le_of_ble_eq_true rfl) db_s90 (C := RX11) (T := TX11) (N := 19) rfl hiX11 tyX11_ok nmX11 6 (by decide) rfl (List.mem_of_getElem? (i := 1) rfl) rfl ⟨rfl, rfl⟩ dX11_reads_136 (fun H locs hw => ?_)
        obtain ⟨X4, e4, hw⟩ : ∃ Z_, Z_ = (db_si X3 90 6 ((X3.1 90 6) + (1 : Int32))) ∧ db_HW E (db_Aw E s.heap.size) s Z_ H locs := ⟨_, rfl, hw⟩
        have h := h X4 e4
        refine lv_iconst (v := (0 : Int32)) hx hb dX11_reads_139 (by decide) ?_
        refine lv_istore_n (lv' := [(3, .int (0 : Int32)), (0, .ref (db_ad E 90)), (1, .int x1), (2, .int x2)]) hx hb dX11_reads_140 rfl hl (by decide) rfl (fun ls hl => ?_)
        obtain ⟨f_, h⟩ := h
        exact tw_X11_reads_141 S hr hlocks   f_ _ _ _ _ _ _ h hw (lv_sub hl [1, 2, 0] rfl)
      · have h := h.2 c5
        refine lv_iconst (v := (0 : Int32)) hx hb dX11_reads_127 (by decide) ?_
        exact db_zret S hr hlocks rfl hw h dX11_reads_128
    · have h := h.2 c12
      refine lv_aload_n hx hb dX11_reads_79 rfl (lv_at hl 0 rfl) ?_
      refine db_callVi S hw (Nat.le_of_ble_eq_true rfl) db_s90 (C := RX11) (T := TX11) (N := 19) (As := []) rfl (ct_X11_sign  h) gX11_reads_X11_sign rfl ⟨rfl, rfl, Nat.le_of_ble_eq_true rfl, Nat.le_of_ble_eq_true rfl⟩ 0 rfl (by decide +kernel) hl.1 rfl (Nat.le_of_ble_eq_true rfl) dX11_reads_80 ⟨Nat.zero_le _, Nat.zero_le _⟩ (fun r6 X6 H locs h hw => ?_)
      refine db_callSi S hw (As := [.int r6]) (ct_X11_markOf  h) gX11_reads_X11_markOf rfl ⟨rfl, rfl, Nat.le_of_ble_eq_true rfl, Nat.le_of_ble_eq_true rfl⟩ 1 rfl (by decide +kernel) hl.1 rfl (Nat.le_of_ble_eq_true rfl) dX11_reads_83 ⟨Nat.zero_le _, Nat.zero_le _⟩ (fun r7 X7 H locs h hw => ?_)
      refine lv_iconst (v := (1 : Int32)) hx hb dX11_reads_86 (by decide) ?_
      refine lv_iadd hx hb dX11_reads_87 ?_
      refine lv_istore_n (lv' := [(2, .int (r7 + (1 : Int32))), (0, .ref (db_ad E 90)), (1, .int x1)]) hx hb dX11_reads_88 rfl hl (by decide) rfl (fun ls hl => ?_)
      refine lv_aload_n hx hb dX11_reads_89 rfl (lv_at hl 1 rfl) ?_
      refine db_getr S hw (Nat.le_of_ble_eq_true rfl) db_s90 (C := RX11) (T := TX11) (N := 19) rfl hiX11 1 (by decide) (r := 92) rfl (List.mem_of_getElem? (i := 2) rfl) dX11_reads_90 ?_
      refine lv_iload_n hx hb dX11_reads_93 rfl (lv_at hl 2 rfl) ?_
      refine lv_iconst (v := (1 : Int32)) hx hb dX11_reads_94 (by decide) ?_
      refine lv_iadd hx hb dX11_reads_95 ?_
      refine lv_dup2_11 hx hb dX11_reads_96 rfl rfl ?_
      obtain ⟨g8, h⟩ := h
      refine db_iald S hw (Nat.le_of_ble_eq_true rfl) db_s92 g8 dX11_reads_97 ?_
      refine lv_iconst (v := (1 : Int32)) hx hb dX11_reads_98 (by decide) ?_
      refine lv_iload_n hx hb dX11_reads_99 rfl (lv_at hl 0 rfl) ?_
      refine lv_iconst (v := (1 : Int32)) hx hb dX11_reads_100 (by decide) ?_
      refine lv_isub hx hb dX11_reads_101 ?_
      refine lv_ishl hx hb dX11_reads_102 ?_
      refine lv_ior hx hb dX11_reads_103 ?_
      obtain ⟨g9, h⟩ := h
      refine db_iast S hw (Nat.le_of_ble_eq_true rfl) db_s92 g9 dX11_reads_104 (fun H locs hw => ?_)
      obtain ⟨X10, e10, hw⟩ : ∃ Z_, Z_ = (db_si X7 92 ((x1 + (1 : Int32))).toNatClampNeg ((X7.1 92 ((x1 + (1 : Int32))).toNatClampNeg) ||| ((1 : Int32) <<< (((r7 + (1 : Int32)) - (1 : Int32)) &&& 31)))) ∧ db_HW E (db_Aw E s.heap.size) s Z_ H locs := ⟨_, rfl, hw⟩
      have h := h X10 e10
      refine lv_aload_n hx hb dX11_reads_105 rfl (lv_at hl 1 rfl) ?_
      refine lv_dup hx hb dX11_reads_106 rfl ?_
      refine db_geti S hw (Nat.le_of_ble_eq_true rfl) db_s90 (C := RX11) (T := TX11) (N := 19) rfl hiX11 6 (by decide) rfl (List.mem_of_getElem? (i := 1) rfl) dX11_reads_107 ?_
      refine lv_iconst (v := (1 : Int32)) hx hb dX11_reads_110 (by decide) ?_
      refine lv_iadd hx hb dX11_reads_111 ?_
      refine db_puti S hw (Nat.le_of_ble_eq_true rfl) db_s90 (C := RX11) (T := TX11) (N := 19) rfl hiX11 tyX11_ok nmX11 6 (by decide) rfl (List.mem_of_getElem? (i := 1) rfl) rfl ⟨rfl, rfl⟩ dX11_reads_112 (fun H locs hw => ?_)
      obtain ⟨X11, e11, hw⟩ : ∃ Z_, Z_ = (db_si X10 90 6 ((X10.1 90 6) + (1 : Int32))) ∧ db_HW E (db_Aw E s.heap.size) s Z_ H locs := ⟨_, rfl, hw⟩
      have h := h X11 e11
      refine lv_goto (tgt := 68) hx hb dX11_reads_115 (by decide) ?_
      exact ih _ _ _ _ _ _ h hw (lv_sub hl [1, 2, 0] rfl)
def wp_X11_reads  (X : db_St) (x1 : Int32) (Q : Int32 → db_St → Prop) : Prop := (∀ X1, X1 = (db_si X 90 6 (0 : Int32)) → wp_X11_sign X1 (fun r2 X2 => ((r2 < (97 : Int32) → Q (0 : Int32) X2) ∧ (¬ (r2 < (97 : Int32)) → wp_X11_sign X2 (fun r3 X3 => ((r3 ≤ (104 : Int32) → wp_X11_sign X3 (fun r4 X4 => (vp_in x1 310 ∧ (∀ X6, X6 = (db_si X4 92 (x1).toNatClampNeg (r4 - (97 : Int32))) → (vp_in (x1 + (1 : Int32)) 310 ∧ (∀ X8, X8 = (db_si X6 92 ((x1 + (1 : Int32))).toNatClampNeg (0 : Int32)) → (vp_in (x1 + (2 : Int32)) 310 ∧ (∀ X10, X10 = (db_si X8 92 ((x1 + (2 : Int32))).toNatClampNeg (0 : Int32)) → (∀ X11, X11 = (db_si X10 90 6 ((X10.1 90 6) + (1 : Int32))) → (∃ f_, wp_X11_reads_68 Q f_ X11 x1 (0 : Int32))))))))))) ∧ (¬ (r3 ≤ (104 : Int32)) → Q (0 : Int32) X3)))))))
set_option maxHeartbeats 4000000 in
set_option maxRecDepth 100000 in
theorem ct_X11_reads {l : Launch} {E : db_E}  {X : db_St} {x1 : Int32} {Q : Int32 → db_St → Prop} (h : wp_X11_reads  X x1 Q) : db_MI l E yX11_reads wsX11_reads rm_X11_reads X [.ref (db_ad E 90), .int x1] Q := by
  intro sz
  unfold wp_X11_reads at h
  refine Met.ofW (cc := cX11_reads) (maxL := 4) (ret := (some .boolean)) (by decide) rfl ?_
  intro p e s m args below meth c s₁ B hml hv
  obtain ⟨rfl, hsz, hU⟩ := hv
  subst hsz
  have S : CallFix p m c cX11_reads 4 s ([.ref (db_ad E 90), .int x1] : List Value).toArray wsX11_reads RX11 := ⟨B.exec, B.bytes, hml, findClass_of_methodNamed B.named, atoms_spec (ws := wsX11_reads) B.pre⟩
  have hx := S.1
  have hb := S.2.1
  have hr := B.returns
  have hlocks := B.notSynchronized
  have hw := db_start hU
  have hiX11 : ∀ w ∈ wsX110, w ∈ wsX11_reads := fun w_ h_ => List.mem_cons_of_mem _ (List.mem_append_right _ h_)
  have hl := lv_entry ([.ref (db_ad E 90), .int x1]) (n := 4) (Nat.le_of_ble_eq_true rfl)
  rw [lg_entry_eq]
  generalize (lg_sl ([.ref (db_ad E 90), .int x1]) ++ List.replicate (4 - (lg_sl ([.ref (db_ad E 90), .int x1])).length) Slot.unset).toArray = ls at hl ⊢
  have hl : lv_has ls 4 [(0, .ref (db_ad E 90)), (1, .int x1)] := hl
  refine lv_aload_n hx hb dX11_reads_0 rfl (lv_at hl 0 rfl) ?_
  refine lv_iconst (v := (0 : Int32)) hx hb dX11_reads_1 (by decide) ?_
  refine db_puti S hw (Nat.le_of_ble_eq_true rfl) db_s90 (C := RX11) (T := TX11) (N := 19) rfl hiX11 tyX11_ok nmX11 6 (by decide) rfl (List.mem_of_getElem? (i := 1) rfl) rfl ⟨rfl, rfl⟩ dX11_reads_2 (fun H locs hw => ?_)
  obtain ⟨X1, e1, hw⟩ : ∃ Z_, Z_ = (db_si X 90 6 (0 : Int32)) ∧ db_HW E (db_Aw E s.heap.size) s Z_ H locs := ⟨_, rfl, hw⟩
  have h := h X1 e1
  refine lv_aload_n hx hb dX11_reads_5 rfl (lv_at hl 0 rfl) ?_
  refine db_callVi S hw (Nat.le_of_ble_eq_true rfl) db_s90 (C := RX11) (T := TX11) (N := 19) (As := []) rfl (ct_X11_sign  h) gX11_reads_X11_sign rfl ⟨rfl, rfl, Nat.le_of_ble_eq_true rfl, Nat.le_of_ble_eq_true rfl⟩ 0 rfl (by decide +kernel) hl.1 rfl (Nat.le_of_ble_eq_true rfl) dX11_reads_6 ⟨Nat.zero_le _, Nat.zero_le _⟩ (fun r2 X2 H locs h hw => ?_)
  refine lv_bipush (v := (97 : Int32)) hx hb dX11_reads_9 (by decide) ?_
  refine lv_icmp_lt (tgt := 23) hx hb dX11_reads_11 (by decide) (fun c13 => ?_) (fun c13 => ?_)
  · have h := h.1 c13
    refine lv_iconst (v := (0 : Int32)) hx hb dX11_reads_23 (by decide) ?_
    exact db_zret S hr hlocks rfl hw h dX11_reads_24
  · have h := h.2 c13
    refine lv_aload_n hx hb dX11_reads_14 rfl (lv_at hl 0 rfl) ?_
    refine db_callVi S hw (Nat.le_of_ble_eq_true rfl) db_s90 (C := RX11) (T := TX11) (N := 19) (As := []) rfl (ct_X11_sign  h) gX11_reads_X11_sign rfl ⟨rfl, rfl, Nat.le_of_ble_eq_true rfl, Nat.le_of_ble_eq_true rfl⟩ 0 rfl (by decide +kernel) hl.1 rfl (Nat.le_of_ble_eq_true rfl) dX11_reads_15 ⟨Nat.zero_le _, Nat.zero_le _⟩ (fun r3 X3 H locs h hw => ?_)
    refine lv_bipush (v := (104 : Int32)) hx hb dX11_reads_18 (by decide) ?_
    refine lv_icmp_le (tgt := 25) hx hb dX11_reads_20 (by decide) (fun c12 => ?_) (fun c12 => ?_)
    · have h := h.1 c12
      refine lv_aload_n hx hb dX11_reads_25 rfl (lv_at hl 0 rfl) ?_
      refine db_getr S hw (Nat.le_of_ble_eq_true rfl) db_s90 (C := RX11) (T := TX11) (N := 19) rfl hiX11 1 (by decide) (r := 92) rfl (List.mem_of_getElem? (i := 2) rfl) dX11_reads_26 ?_
      refine lv_iload_n hx hb dX11_reads_29 rfl (lv_at hl 1 rfl) ?_
      refine lv_aload_n hx hb dX11_reads_30 rfl (lv_at hl 0 rfl) ?_
      refine db_callVi S hw (Nat.le_of_ble_eq_true rfl) db_s90 (C := RX11) (T := TX11) (N := 19) (As := []) rfl (ct_X11_sign  h) gX11_reads_X11_sign rfl ⟨rfl, rfl, Nat.le_of_ble_eq_true rfl, Nat.le_of_ble_eq_true rfl⟩ 0 rfl (by decide +kernel) hl.1 rfl (Nat.le_of_ble_eq_true rfl) dX11_reads_31 ⟨Nat.zero_le _, Nat.zero_le _⟩ (fun r4 X4 H locs h hw => ?_)
      refine lv_bipush (v := (97 : Int32)) hx hb dX11_reads_34 (by decide) ?_
      refine lv_isub hx hb dX11_reads_36 ?_
      obtain ⟨g5, h⟩ := h
      refine db_iast S hw (Nat.le_of_ble_eq_true rfl) db_s92 g5 dX11_reads_37 (fun H locs hw => ?_)
      obtain ⟨X6, e6, hw⟩ : ∃ Z_, Z_ = (db_si X4 92 (x1).toNatClampNeg (r4 - (97 : Int32))) ∧ db_HW E (db_Aw E s.heap.size) s Z_ H locs := ⟨_, rfl, hw⟩
      have h := h X6 e6
      refine lv_aload_n hx hb dX11_reads_38 rfl (lv_at hl 0 rfl) ?_
      refine db_getr S hw (Nat.le_of_ble_eq_true rfl) db_s90 (C := RX11) (T := TX11) (N := 19) rfl hiX11 1 (by decide) (r := 92) rfl (List.mem_of_getElem? (i := 2) rfl) dX11_reads_39 ?_
      refine lv_iload_n hx hb dX11_reads_42 rfl (lv_at hl 1 rfl) ?_
      refine lv_iconst (v := (1 : Int32)) hx hb dX11_reads_43 (by decide) ?_
      refine lv_iadd hx hb dX11_reads_44 ?_
      refine lv_iconst (v := (0 : Int32)) hx hb dX11_reads_45 (by decide) ?_
      obtain ⟨g7, h⟩ := h
      refine db_iast S hw (Nat.le_of_ble_eq_true rfl) db_s92 g7 dX11_reads_46 (fun H locs hw => ?_)
      obtain ⟨X8, e8, hw⟩ : ∃ Z_, Z_ = (db_si X6 92 ((x1 + (1 : Int32))).toNatClampNeg (0 : Int32)) ∧ db_HW E (db_Aw E s.heap.size) s Z_ H locs := ⟨_, rfl, hw⟩
      have h := h X8 e8
      refine lv_aload_n hx hb dX11_reads_47 rfl (lv_at hl 0 rfl) ?_
      refine db_getr S hw (Nat.le_of_ble_eq_true rfl) db_s90 (C := RX11) (T := TX11) (N := 19) rfl hiX11 1 (by decide) (r := 92) rfl (List.mem_of_getElem? (i := 2) rfl) dX11_reads_48 ?_
      refine lv_iload_n hx hb dX11_reads_51 rfl (lv_at hl 1 rfl) ?_
      refine lv_iconst (v := (2 : Int32)) hx hb dX11_reads_52 (by decide) ?_
      refine lv_iadd hx hb dX11_reads_53 ?_
      refine lv_iconst (v := (0 : Int32)) hx hb dX11_reads_54 (by decide) ?_
      obtain ⟨g9, h⟩ := h
      refine db_iast S hw (Nat.le_of_ble_eq_true rfl) db_s92 g9 dX11_reads_55 (fun H locs hw => ?_)
      obtain ⟨X10, e10, hw⟩ : ∃ Z_, Z_ = (db_si X8 92 ((x1 + (2 : Int32))).toNatClampNeg (0 : Int32)) ∧ db_HW E (db_Aw E s.heap.size) s Z_ H locs := ⟨_, rfl, hw⟩
      have h := h X10 e10
      refine lv_aload_n hx hb dX11_reads_56 rfl (lv_at hl 0 rfl) ?_
      refine lv_dup hx hb dX11_reads_57 rfl ?_
      refine db_geti S hw (Nat.le_of_ble_eq_true rfl) db_s90 (C := RX11) (T := TX11) (N := 19) rfl hiX11 6 (by decide) rfl (List.mem_of_getElem? (i := 1) rfl) dX11_reads_58 ?_
      refine lv_iconst (v := (1 : Int32)) hx hb dX11_reads_61 (by decide) ?_
      refine lv_iadd hx hb dX11_reads_62 ?_
      refine db_puti S hw (Nat.le_of_ble_eq_true rfl) db_s90 (C := RX11) (T := TX11) (N := 19) rfl hiX11 tyX11_ok nmX11 6 (by decide) rfl (List.mem_of_getElem? (i := 1) rfl) rfl ⟨rfl, rfl⟩ dX11_reads_63 (fun H locs hw => ?_)
      obtain ⟨X11, e11, hw⟩ : ∃ Z_, Z_ = (db_si X10 90 6 ((X10.1 90 6) + (1 : Int32))) ∧ db_HW E (db_Aw E s.heap.size) s Z_ H locs := ⟨_, rfl, hw⟩
      have h := h X11 e11
      refine lv_iconst (v := (0 : Int32)) hx hb dX11_reads_66 (by decide) ?_
      refine lv_istore_n (lv' := [(2, .int (0 : Int32)), (0, .ref (db_ad E 90)), (1, .int x1)]) hx hb dX11_reads_67 rfl hl (by decide) rfl (fun ls hl => ?_)
      obtain ⟨f_, h⟩ := h
      exact tw_X11_reads_68 S hr hlocks   f_ _ _ _ _ _ _ h hw (lv_sub hl [1, 2, 0] rfl)
    · have h := h.2 c12
      refine lv_iconst (v := (0 : Int32)) hx hb dX11_reads_23 (by decide) ?_
      exact db_zret S hr hlocks rfl hw h dX11_reads_24
-- DaysOnBreadModel.rule(I)I
abbrev rm_X11_rule : Room := { frames := 2, cells := 0, slots := 0, locals := 43 }
def wp_X11_rule  (X : db_St) (x1 : Int32) (Q : Int32 → db_St → Prop) : Prop := wp_X11_isBook X x1 (fun r1 X1 => ((r1 = 0 → wp_X11_refuse X1 (-1 : Int32) (fun r13 X13 => Q r13 X13)) ∧ (¬ r1 = 0 → (vp_in ((180 : Int32) + x1) 310 ∧ (((X1.1 92 (((180 : Int32) + x1)).toNatClampNeg) = (10 : Int32) → wp_X11_refuse X1 (-6 : Int32) (fun r11 X11 => Q r11 X11)) ∧ (¬ (X1.1 92 (((180 : Int32) + x1)).toNatClampNeg) = (10 : Int32) → (vp_in ((180 : Int32) + x1) 310 ∧ wp_X11_reads X1 (((30 : Int32) * x1) + ((3 : Int32) * (X1.1 92 (((180 : Int32) + x1)).toNatClampNeg))) (fun r4 X4 => (∀ X5, X5 = (db_si X4 90 5 (0 : Int32)) → ((r4 = 0 → Q ((-20 : Int32) - (X5.1 90 6)) X5) ∧ (¬ r4 = 0 → (vp_in ((180 : Int32) + x1) 310 ∧ (vp_in ((180 : Int32) + x1) 310 ∧ (∀ X8, X8 = (db_si X5 92 (((180 : Int32) + x1)).toNatClampNeg ((X5.1 92 (((180 : Int32) + x1)).toNatClampNeg) + (1 : Int32))) → (vp_in ((180 : Int32) + x1) 310 ∧ Q ((X8.1 92 (((180 : Int32) + x1)).toNatClampNeg) - (1 : Int32)) X8)))))))))))))))
set_option maxHeartbeats 4000000 in
set_option maxRecDepth 100000 in
theorem ct_X11_rule {l : Launch} {E : db_E}  {X : db_St} {x1 : Int32} {Q : Int32 → db_St → Prop} (h : wp_X11_rule  X x1 Q) : db_MI l E yX11_rule wsX11_rule rm_X11_rule X [.ref (db_ad E 90), .int x1] Q := by
  intro sz
  unfold wp_X11_rule at h
  refine Met.ofW (cc := cX11_rule) (maxL := 3) (ret := (some .int)) (by decide) rfl ?_
  intro p e s m args below meth c s₁ B hml hv
  obtain ⟨rfl, hsz, hU⟩ := hv
  subst hsz
  have S : CallFix p m c cX11_rule 3 s ([.ref (db_ad E 90), .int x1] : List Value).toArray wsX11_rule RX11 := ⟨B.exec, B.bytes, hml, findClass_of_methodNamed B.named, atoms_spec (ws := wsX11_rule) B.pre⟩
  have hx := S.1
  have hb := S.2.1
  have hr := B.returns
  have hlocks := B.notSynchronized
  have hw := db_start hU
  have hiX11 : ∀ w ∈ wsX110, w ∈ wsX11_rule := fun w_ h_ => List.mem_cons_of_mem _ (List.mem_append_right _ h_)
  have hl := lv_entry ([.ref (db_ad E 90), .int x1]) (n := 3) (Nat.le_of_ble_eq_true rfl)
  rw [lg_entry_eq]
  generalize (lg_sl ([.ref (db_ad E 90), .int x1]) ++ List.replicate (3 - (lg_sl ([.ref (db_ad E 90), .int x1])).length) Slot.unset).toArray = ls at hl ⊢
  have hl : lv_has ls 3 [(0, .ref (db_ad E 90)), (1, .int x1)] := hl
  refine lv_iload_n hx hb dX11_rule_0 rfl (lv_at hl 1 rfl) ?_
  refine db_callSi S hw (As := [.int x1]) (ct_X11_isBook  h) gX11_rule_X11_isBook rfl ⟨rfl, rfl, Nat.le_of_ble_eq_true rfl, Nat.le_of_ble_eq_true rfl⟩ 1 rfl (by decide +kernel) hl.1 rfl (Nat.le_of_ble_eq_true rfl) dX11_rule_1 ⟨Nat.zero_le _, Nat.zero_le _⟩ (fun r1 X1 H locs h hw => ?_)
  refine lv_if_ne (tgt := 13) hx hb dX11_rule_4 (by decide) (fun c14 => ?_) (fun c14 => ?_)
  · have h := h.2 c14
    refine lv_aload_n hx hb dX11_rule_13 rfl (lv_at hl 0 rfl) ?_
    refine db_getr S hw (Nat.le_of_ble_eq_true rfl) db_s90 (C := RX11) (T := TX11) (N := 19) rfl hiX11 1 (by decide) (r := 92) rfl (List.mem_of_getElem? (i := 1) rfl) dX11_rule_14 ?_
    refine lv_sipush (v := (180 : Int32)) hx hb dX11_rule_17 (by decide) ?_
    refine lv_iload_n hx hb dX11_rule_20 rfl (lv_at hl 1 rfl) ?_
    refine lv_iadd hx hb dX11_rule_21 ?_
    obtain ⟨g2, h⟩ := h
    refine db_iald S hw (Nat.le_of_ble_eq_true rfl) db_s92 g2 dX11_rule_22 ?_
    refine lv_bipush (v := (10 : Int32)) hx hb dX11_rule_23 (by decide) ?_
    refine lv_icmp_ne (tgt := 35) hx hb dX11_rule_25 (by decide) (fun c12 => ?_) (fun c12 => ?_)
    · have h := h.2 c12
      refine lv_aload_n hx hb dX11_rule_35 rfl (lv_at hl 0 rfl) ?_
      refine lv_bipush (v := (30 : Int32)) hx hb dX11_rule_36 (by decide) ?_
      refine lv_iload_n hx hb dX11_rule_38 rfl (lv_at hl 1 rfl) ?_
      refine lv_imul hx hb dX11_rule_39 ?_
      refine lv_iconst (v := (3 : Int32)) hx hb dX11_rule_40 (by decide) ?_
      refine lv_aload_n hx hb dX11_rule_41 rfl (lv_at hl 0 rfl) ?_
      refine db_getr S hw (Nat.le_of_ble_eq_true rfl) db_s90 (C := RX11) (T := TX11) (N := 19) rfl hiX11 1 (by decide) (r := 92) rfl (List.mem_of_getElem? (i := 1) rfl) dX11_rule_42 ?_
      refine lv_sipush (v := (180 : Int32)) hx hb dX11_rule_45 (by decide) ?_
      refine lv_iload_n hx hb dX11_rule_48 rfl (lv_at hl 1 rfl) ?_
      refine lv_iadd hx hb dX11_rule_49 ?_
      obtain ⟨g3, h⟩ := h
      refine db_iald S hw (Nat.le_of_ble_eq_true rfl) db_s92 g3 dX11_rule_50 ?_
      refine lv_imul hx hb dX11_rule_51 ?_
      refine lv_iadd hx hb dX11_rule_52 ?_
      refine db_callVi S hw (Nat.le_of_ble_eq_true rfl) db_s90 (C := RX11) (T := TX11) (N := 19) (As := [.int (((30 : Int32) * x1) + ((3 : Int32) * (X1.1 92 (((180 : Int32) + x1)).toNatClampNeg)))]) rfl (ct_X11_reads  h) gX11_rule_X11_reads rfl ⟨rfl, rfl, Nat.le_of_ble_eq_true rfl, Nat.le_of_ble_eq_true rfl⟩ 1 rfl (by decide +kernel) hl.1 rfl (Nat.le_of_ble_eq_true rfl) dX11_rule_53 ⟨Nat.zero_le _, Nat.zero_le _⟩ (fun r4 X4 H locs h hw => ?_)
      refine lv_istore_n (lv' := [(2, .int r4), (0, .ref (db_ad E 90)), (1, .int x1)]) hx hb dX11_rule_56 rfl hl (by decide) rfl (fun ls hl => ?_)
      refine lv_aload_n hx hb dX11_rule_57 rfl (lv_at hl 1 rfl) ?_
      refine lv_iconst (v := (0 : Int32)) hx hb dX11_rule_58 (by decide) ?_
      refine db_puti S hw (Nat.le_of_ble_eq_true rfl) db_s90 (C := RX11) (T := TX11) (N := 19) rfl hiX11 tyX11_ok nmX11 5 (by decide) rfl (List.mem_of_getElem? (i := 2) rfl) rfl ⟨rfl, rfl⟩ dX11_rule_59 (fun H locs hw => ?_)
      obtain ⟨X5, e5, hw⟩ : ∃ Z_, Z_ = (db_si X4 90 5 (0 : Int32)) ∧ db_HW E (db_Aw E s.heap.size) s Z_ H locs := ⟨_, rfl, hw⟩
      have h := h X5 e5
      refine lv_iload_n hx hb dX11_rule_62 rfl (lv_at hl 0 rfl) ?_
      refine lv_if_ne (tgt := 74) hx hb dX11_rule_63 (by decide) (fun c10 => ?_) (fun c10 => ?_)
      · have h := h.2 c10
        refine lv_aload_n hx hb dX11_rule_74 rfl (lv_at hl 1 rfl) ?_
        refine db_getr S hw (Nat.le_of_ble_eq_true rfl) db_s90 (C := RX11) (T := TX11) (N := 19) rfl hiX11 1 (by decide) (r := 92) rfl (List.mem_of_getElem? (i := 1) rfl) dX11_rule_75 ?_
        refine lv_sipush (v := (180 : Int32)) hx hb dX11_rule_78 (by decide) ?_
        refine lv_iload_n hx hb dX11_rule_81 rfl (lv_at hl 2 rfl) ?_
        refine lv_iadd hx hb dX11_rule_82 ?_
        refine lv_dup2_11 hx hb dX11_rule_83 rfl rfl ?_
        obtain ⟨g6, h⟩ := h
        refine db_iald S hw (Nat.le_of_ble_eq_true rfl) db_s92 g6 dX11_rule_84 ?_
        refine lv_iconst (v := (1 : Int32)) hx hb dX11_rule_85 (by decide) ?_
        refine lv_iadd hx hb dX11_rule_86 ?_
        obtain ⟨g7, h⟩ := h
        refine db_iast S hw (Nat.le_of_ble_eq_true rfl) db_s92 g7 dX11_rule_87 (fun H locs hw => ?_)
        obtain ⟨X8, e8, hw⟩ : ∃ Z_, Z_ = (db_si X5 92 (((180 : Int32) + x1)).toNatClampNeg ((X5.1 92 (((180 : Int32) + x1)).toNatClampNeg) + (1 : Int32))) ∧ db_HW E (db_Aw E s.heap.size) s Z_ H locs := ⟨_, rfl, hw⟩
        have h := h X8 e8
        refine lv_aload_n hx hb dX11_rule_88 rfl (lv_at hl 1 rfl) ?_
        refine db_getr S hw (Nat.le_of_ble_eq_true rfl) db_s90 (C := RX11) (T := TX11) (N := 19) rfl hiX11 1 (by decide) (r := 92) rfl (List.mem_of_getElem? (i := 1) rfl) dX11_rule_89 ?_
        refine lv_sipush (v := (180 : Int32)) hx hb dX11_rule_92 (by decide) ?_
        refine lv_iload_n hx hb dX11_rule_95 rfl (lv_at hl 2 rfl) ?_
        refine lv_iadd hx hb dX11_rule_96 ?_
        obtain ⟨g9, h⟩ := h
        refine db_iald S hw (Nat.le_of_ble_eq_true rfl) db_s92 g9 dX11_rule_97 ?_
        refine lv_iconst (v := (1 : Int32)) hx hb dX11_rule_98 (by decide) ?_
        refine lv_isub hx hb dX11_rule_99 ?_
        exact db_iret S hr hlocks hw h dX11_rule_100
      · have h := h.1 c10
        refine lv_bipush (v := (-20 : Int32)) hx hb dX11_rule_66 (by decide) ?_
        refine lv_aload_n hx hb dX11_rule_68 rfl (lv_at hl 1 rfl) ?_
        refine db_geti S hw (Nat.le_of_ble_eq_true rfl) db_s90 (C := RX11) (T := TX11) (N := 19) rfl hiX11 6 (by decide) rfl (List.mem_of_getElem? (i := 3) rfl) dX11_rule_69 ?_
        refine lv_isub hx hb dX11_rule_72 ?_
        exact db_iret S hr hlocks hw h dX11_rule_73
    · have h := h.1 c12
      refine lv_aload_n hx hb dX11_rule_28 rfl (lv_at hl 0 rfl) ?_
      refine lv_bipush (v := (-6 : Int32)) hx hb dX11_rule_29 (by decide) ?_
      refine db_callVi S hw (Nat.le_of_ble_eq_true rfl) db_s90 (C := RX11) (T := TX11) (N := 19) (As := [.int (-6 : Int32)]) rfl (ct_X11_refuse  h) gX11_rule_X11_refuse rfl ⟨rfl, rfl, Nat.le_of_ble_eq_true rfl, Nat.le_of_ble_eq_true rfl⟩ 1 rfl (by decide +kernel) hl.1 rfl (Nat.le_of_ble_eq_true rfl) dX11_rule_31 ⟨Nat.zero_le _, Nat.zero_le _⟩ (fun r11 X11 H locs h hw => ?_)
      exact db_iret S hr hlocks hw h dX11_rule_34
  · have h := h.1 c14
    refine lv_aload_n hx hb dX11_rule_7 rfl (lv_at hl 0 rfl) ?_
    refine lv_iconst (v := (-1 : Int32)) hx hb dX11_rule_8 (by decide) ?_
    refine db_callVi S hw (Nat.le_of_ble_eq_true rfl) db_s90 (C := RX11) (T := TX11) (N := 19) (As := [.int (-1 : Int32)]) rfl (ct_X11_refuse  h) gX11_rule_X11_refuse rfl ⟨rfl, rfl, Nat.le_of_ble_eq_true rfl, Nat.le_of_ble_eq_true rfl⟩ 1 rfl (by decide +kernel) hl.1 rfl (Nat.le_of_ble_eq_true rfl) dX11_rule_9 ⟨Nat.zero_le _, Nat.zero_le _⟩ (fun r13 X13 H locs h hw => ?_)
    exact db_iret S hr hlocks hw h dX11_rule_12
-- DaysOnBreadModel.ruleOf(III)I
abbrev rm_X11_ruleOf : Room := { frames := 2, cells := 0, slots := 0, locals := 41 }
def wp_X11_ruleOf  (X : db_St) (x1 : Int32) (x2 : Int32) (x3 : Int32) (Q : Int32 → db_St → Prop) : Prop := wp_X11_isBook X x1 (fun r1 X1 => ((r1 = 0 → wp_X11_refuse X1 (-1 : Int32) (fun r2 X2 => Q r2 X2)) ∧ (¬ (r1 = 0) → (vp_in ((180 : Int32) + x1) 310 ∧ wp_X11_isIn X1 x2 (X1.1 92 (((180 : Int32) + x1)).toNatClampNeg) (fun r4 X4 => ((r4 = 0 → wp_X11_refuse X4 (-1 : Int32) (fun r9 X9 => Q r9 X9)) ∧ (¬ r4 = 0 → wp_X11_isIn X4 x3 (3 : Int32) (fun r5 X5 => ((r5 = 0 → wp_X11_refuse X5 (-2 : Int32) (fun r6 X6 => Q r6 X6)) ∧ (¬ (r5 = 0) → wp_X11_get X5 x1 x2 x3 (fun r7 X7 => Q r7 X7)))))))))))
set_option maxHeartbeats 4000000 in
set_option maxRecDepth 100000 in
theorem ct_X11_ruleOf {l : Launch} {E : db_E}  {X : db_St} {x1 : Int32} {x2 : Int32} {x3 : Int32} {Q : Int32 → db_St → Prop} (h : wp_X11_ruleOf  X x1 x2 x3 Q) : db_MI l E yX11_ruleOf wsX11_ruleOf rm_X11_ruleOf X [.ref (db_ad E 90), .int x1, .int x2, .int x3] Q := by
  intro sz
  unfold wp_X11_ruleOf at h
  refine Met.ofW (cc := cX11_ruleOf) (maxL := 4) (ret := (some .int)) (by decide) rfl ?_
  intro p e s m args below meth c s₁ B hml hv
  obtain ⟨rfl, hsz, hU⟩ := hv
  subst hsz
  have S : CallFix p m c cX11_ruleOf 4 s ([.ref (db_ad E 90), .int x1, .int x2, .int x3] : List Value).toArray wsX11_ruleOf RX11 := ⟨B.exec, B.bytes, hml, findClass_of_methodNamed B.named, atoms_spec (ws := wsX11_ruleOf) B.pre⟩
  have hx := S.1
  have hb := S.2.1
  have hr := B.returns
  have hlocks := B.notSynchronized
  have hw := db_start hU
  have hiX11 : ∀ w ∈ wsX110, w ∈ wsX11_ruleOf := fun w_ h_ => List.mem_cons_of_mem _ (List.mem_append_right _ h_)
  have hl := lv_entry ([.ref (db_ad E 90), .int x1, .int x2, .int x3]) (n := 4) (Nat.le_of_ble_eq_true rfl)
  rw [lg_entry_eq]
  generalize (lg_sl ([.ref (db_ad E 90), .int x1, .int x2, .int x3]) ++ List.replicate (4 - (lg_sl ([.ref (db_ad E 90), .int x1, .int x2, .int x3])).length) Slot.unset).toArray = ls at hl ⊢
  have hl : lv_has ls 4 [(0, .ref (db_ad E 90)), (1, .int x1), (2, .int x2), (3, .int x3)] := hl
  refine lv_iload_n hx hb dX11_ruleOf_0 rfl (lv_at hl 1 rfl) ?_
  refine db_callSi S hw (As := [.int x1]) (ct_X11_isBook  h) gX11_ruleOf_X11_isBook rfl ⟨rfl, rfl, Nat.le_of_ble_eq_true rfl, Nat.le_of_ble_eq_true rfl⟩ 1 rfl (by decide +kernel) hl.1 rfl (Nat.le_of_ble_eq_true rfl) dX11_ruleOf_1 ⟨Nat.zero_le _, Nat.zero_le _⟩ (fun r1 X1 H locs h hw => ?_)
  refine lv_if_eq (tgt := 24) hx hb dX11_ruleOf_4 (by decide) (fun c11 => ?_) (fun c11 => ?_)
  · have h := h.1 c11
    refine lv_aload_n hx hb dX11_ruleOf_24 rfl (lv_at hl 0 rfl) ?_
    refine lv_iconst (v := (-1 : Int32)) hx hb dX11_ruleOf_25 (by decide) ?_
    refine db_callVi S hw (Nat.le_of_ble_eq_true rfl) db_s90 (C := RX11) (T := TX11) (N := 19) (As := [.int (-1 : Int32)]) rfl (ct_X11_refuse  h) gX11_ruleOf_X11_refuse rfl ⟨rfl, rfl, Nat.le_of_ble_eq_true rfl, Nat.le_of_ble_eq_true rfl⟩ 1 rfl (by decide +kernel) hl.1 rfl (Nat.le_of_ble_eq_true rfl) dX11_ruleOf_26 ⟨Nat.zero_le _, Nat.zero_le _⟩ (fun r2 X2 H locs h hw => ?_)
    exact db_iret S hr hlocks hw h dX11_ruleOf_29
  · have h := h.2 c11
    refine lv_iload_n hx hb dX11_ruleOf_7 rfl (lv_at hl 2 rfl) ?_
    refine lv_aload_n hx hb dX11_ruleOf_8 rfl (lv_at hl 0 rfl) ?_
    refine db_getr S hw (Nat.le_of_ble_eq_true rfl) db_s90 (C := RX11) (T := TX11) (N := 19) rfl hiX11 1 (by decide) (r := 92) rfl (List.mem_of_getElem? (i := 1) rfl) dX11_ruleOf_9 ?_
    refine lv_sipush (v := (180 : Int32)) hx hb dX11_ruleOf_12 (by decide) ?_
    refine lv_iload_n hx hb dX11_ruleOf_15 rfl (lv_at hl 1 rfl) ?_
    refine lv_iadd hx hb dX11_ruleOf_16 ?_
    obtain ⟨g3, h⟩ := h
    refine db_iald S hw (Nat.le_of_ble_eq_true rfl) db_s92 g3 dX11_ruleOf_17 ?_
    refine db_callSi S hw (As := [.int x2, .int (X1.1 92 (((180 : Int32) + x1)).toNatClampNeg)]) (ct_X11_isIn  h) gX11_ruleOf_X11_isIn rfl ⟨rfl, rfl, Nat.le_of_ble_eq_true rfl, Nat.le_of_ble_eq_true rfl⟩ 2 rfl (by decide +kernel) hl.1 rfl (Nat.le_of_ble_eq_true rfl) dX11_ruleOf_18 ⟨Nat.zero_le _, Nat.zero_le _⟩ (fun r4 X4 H locs h hw => ?_)
    refine lv_if_ne (tgt := 30) hx hb dX11_ruleOf_21 (by decide) (fun c10 => ?_) (fun c10 => ?_)
    · have h := h.2 c10
      refine lv_iload_n hx hb dX11_ruleOf_30 rfl (lv_at hl 3 rfl) ?_
      refine lv_iconst (v := (3 : Int32)) hx hb dX11_ruleOf_31 (by decide) ?_
      refine db_callSi S hw (As := [.int x3, .int (3 : Int32)]) (ct_X11_isIn  h) gX11_ruleOf_X11_isIn rfl ⟨rfl, rfl, Nat.le_of_ble_eq_true rfl, Nat.le_of_ble_eq_true rfl⟩ 2 rfl (by decide +kernel) hl.1 rfl (Nat.le_of_ble_eq_true rfl) dX11_ruleOf_32 ⟨Nat.zero_le _, Nat.zero_le _⟩ (fun r5 X5 H locs h hw => ?_)
      refine lv_if_eq (tgt := 48) hx hb dX11_ruleOf_35 (by decide) (fun c8 => ?_) (fun c8 => ?_)
      · have h := h.1 c8
        refine lv_aload_n hx hb dX11_ruleOf_48 rfl (lv_at hl 0 rfl) ?_
        refine lv_bipush (v := (-2 : Int32)) hx hb dX11_ruleOf_49 (by decide) ?_
        refine db_callVi S hw (Nat.le_of_ble_eq_true rfl) db_s90 (C := RX11) (T := TX11) (N := 19) (As := [.int (-2 : Int32)]) rfl (ct_X11_refuse  h) gX11_ruleOf_X11_refuse rfl ⟨rfl, rfl, Nat.le_of_ble_eq_true rfl, Nat.le_of_ble_eq_true rfl⟩ 1 rfl (by decide +kernel) hl.1 rfl (Nat.le_of_ble_eq_true rfl) dX11_ruleOf_51 ⟨Nat.zero_le _, Nat.zero_le _⟩ (fun r6 X6 H locs h hw => ?_)
        exact db_iret S hr hlocks hw h dX11_ruleOf_54
      · have h := h.2 c8
        refine lv_aload_n hx hb dX11_ruleOf_38 rfl (lv_at hl 0 rfl) ?_
        refine lv_iload_n hx hb dX11_ruleOf_39 rfl (lv_at hl 1 rfl) ?_
        refine lv_iload_n hx hb dX11_ruleOf_40 rfl (lv_at hl 2 rfl) ?_
        refine lv_iload_n hx hb dX11_ruleOf_41 rfl (lv_at hl 3 rfl) ?_
        refine db_callVi S hw (Nat.le_of_ble_eq_true rfl) db_s90 (C := RX11) (T := TX11) (N := 19) (As := [.int x1, .int x2, .int x3]) rfl (ct_X11_get  h) gX11_ruleOf_X11_get rfl ⟨rfl, rfl, Nat.le_of_ble_eq_true rfl, Nat.le_of_ble_eq_true rfl⟩ 3 rfl (by decide +kernel) hl.1 rfl (Nat.le_of_ble_eq_true rfl) dX11_ruleOf_42 ⟨Nat.zero_le _, Nat.zero_le _⟩ (fun r7 X7 H locs h hw => ?_)
        refine lv_goto (tgt := 54) hx hb dX11_ruleOf_45 (by decide) ?_
        exact db_iret S hr hlocks hw h dX11_ruleOf_54
    · have h := h.1 c10
      refine lv_aload_n hx hb dX11_ruleOf_24 rfl (lv_at hl 0 rfl) ?_
      refine lv_iconst (v := (-1 : Int32)) hx hb dX11_ruleOf_25 (by decide) ?_
      refine db_callVi S hw (Nat.le_of_ble_eq_true rfl) db_s90 (C := RX11) (T := TX11) (N := 19) (As := [.int (-1 : Int32)]) rfl (ct_X11_refuse  h) gX11_ruleOf_X11_refuse rfl ⟨rfl, rfl, Nat.le_of_ble_eq_true rfl, Nat.le_of_ble_eq_true rfl⟩ 1 rfl (by decide +kernel) hl.1 rfl (Nat.le_of_ble_eq_true rfl) dX11_ruleOf_26 ⟨Nat.zero_le _, Nat.zero_le _⟩ (fun r9 X9 H locs h hw => ?_)
      exact db_iret S hr hlocks hw h dX11_ruleOf_29
-- DaysOnBreadModel.lean(II)I
abbrev rm_X11_lean : Room := { frames := 2, cells := 0, slots := 0, locals := 41 }
def wp_X11_lean  (X : db_St) (x1 : Int32) (x2 : Int32) (Q : Int32 → db_St → Prop) : Prop := wp_X11_isBook X x1 (fun r1 X1 => ((r1 = 0 → wp_X11_refuse X1 (-1 : Int32) (fun r2 X2 => Q r2 X2)) ∧ (¬ (r1 = 0) → ((x2 = (-1 : Int32) → ((x1 = x2 → wp_X11_refuse X1 (-1 : Int32) (fun r7 X7 => Q r7 X7)) ∧ (¬ x1 = x2 → (vp_in ((186 : Int32) + x1) 310 ∧ (∀ z4, z4 = ((X1.1 92 (((186 : Int32) + x1)).toNatClampNeg) - (1 : Int32)) → (vp_in ((186 : Int32) + x1) 310 ∧ (∀ X6, X6 = (db_si X1 92 (((186 : Int32) + x1)).toNatClampNeg (x2 + (1 : Int32))) → Q z4 X6))))))) ∧ (¬ (x2 = (-1 : Int32)) → wp_X11_isBook X1 x2 (fun r9 X9 => ((r9 = 0 → wp_X11_refuse X9 (-1 : Int32) (fun r10 X10 => Q r10 X10)) ∧ (¬ (r9 = 0) → ((x1 = x2 → wp_X11_refuse X9 (-1 : Int32) (fun r15 X15 => Q r15 X15)) ∧ (¬ x1 = x2 → (vp_in ((186 : Int32) + x1) 310 ∧ (∀ z12, z12 = ((X9.1 92 (((186 : Int32) + x1)).toNatClampNeg) - (1 : Int32)) → (vp_in ((186 : Int32) + x1) 310 ∧ (∀ X14, X14 = (db_si X9 92 (((186 : Int32) + x1)).toNatClampNeg (x2 + (1 : Int32))) → Q z12 X14))))))))))))))
set_option maxHeartbeats 4000000 in
set_option maxRecDepth 100000 in
theorem ct_X11_lean {l : Launch} {E : db_E}  {X : db_St} {x1 : Int32} {x2 : Int32} {Q : Int32 → db_St → Prop} (h : wp_X11_lean  X x1 x2 Q) : db_MI l E yX11_lean wsX11_lean rm_X11_lean X [.ref (db_ad E 90), .int x1, .int x2] Q := by
  intro sz
  unfold wp_X11_lean at h
  refine Met.ofW (cc := cX11_lean) (maxL := 4) (ret := (some .int)) (by decide) rfl ?_
  intro p e s m args below meth c s₁ B hml hv
  obtain ⟨rfl, hsz, hU⟩ := hv
  subst hsz
  have S : CallFix p m c cX11_lean 4 s ([.ref (db_ad E 90), .int x1, .int x2] : List Value).toArray wsX11_lean RX11 := ⟨B.exec, B.bytes, hml, findClass_of_methodNamed B.named, atoms_spec (ws := wsX11_lean) B.pre⟩
  have hx := S.1
  have hb := S.2.1
  have hr := B.returns
  have hlocks := B.notSynchronized
  have hw := db_start hU
  have hiX11 : ∀ w ∈ wsX110, w ∈ wsX11_lean := fun w_ h_ => List.mem_cons_of_mem _ (List.mem_append_right _ h_)
  have hl := lv_entry ([.ref (db_ad E 90), .int x1, .int x2]) (n := 4) (Nat.le_of_ble_eq_true rfl)
  rw [lg_entry_eq]
  generalize (lg_sl ([.ref (db_ad E 90), .int x1, .int x2]) ++ List.replicate (4 - (lg_sl ([.ref (db_ad E 90), .int x1, .int x2])).length) Slot.unset).toArray = ls at hl ⊢
  have hl : lv_has ls 4 [(0, .ref (db_ad E 90)), (1, .int x1), (2, .int x2)] := hl
  refine lv_iload_n hx hb dX11_lean_0 rfl (lv_at hl 1 rfl) ?_
  refine db_callSi S hw (As := [.int x1]) (ct_X11_isBook  h) gX11_lean_X11_isBook rfl ⟨rfl, rfl, Nat.le_of_ble_eq_true rfl, Nat.le_of_ble_eq_true rfl⟩ 1 rfl (by decide +kernel) hl.1 rfl (Nat.le_of_ble_eq_true rfl) dX11_lean_1 ⟨Nat.zero_le _, Nat.zero_le _⟩ (fun r1 X1 H locs h hw => ?_)
  refine lv_if_eq (tgt := 24) hx hb dX11_lean_4 (by decide) (fun c19 => ?_) (fun c19 => ?_)
  · have h := h.1 c19
    refine lv_aload_n hx hb dX11_lean_24 rfl (lv_at hl 0 rfl) ?_
    refine lv_iconst (v := (-1 : Int32)) hx hb dX11_lean_25 (by decide) ?_
    refine db_callVi S hw (Nat.le_of_ble_eq_true rfl) db_s90 (C := RX11) (T := TX11) (N := 19) (As := [.int (-1 : Int32)]) rfl (ct_X11_refuse  h) gX11_lean_X11_refuse rfl ⟨rfl, rfl, Nat.le_of_ble_eq_true rfl, Nat.le_of_ble_eq_true rfl⟩ 1 rfl (by decide +kernel) hl.1 rfl (Nat.le_of_ble_eq_true rfl) dX11_lean_26 ⟨Nat.zero_le _, Nat.zero_le _⟩ (fun r2 X2 H locs h hw => ?_)
    exact db_iret S hr hlocks hw h dX11_lean_29
  · have h := h.2 c19
    refine lv_iload_n hx hb dX11_lean_7 rfl (lv_at hl 2 rfl) ?_
    refine lv_iconst (v := (-1 : Int32)) hx hb dX11_lean_8 (by decide) ?_
    refine lv_icmp_eq (tgt := 19) hx hb dX11_lean_9 (by decide) (fun c18 => ?_) (fun c18 => ?_)
    · have h := h.1 c18
      refine lv_iload_n hx hb dX11_lean_19 rfl (lv_at hl 1 rfl) ?_
      refine lv_iload_n hx hb dX11_lean_20 rfl (lv_at hl 2 rfl) ?_
      refine lv_icmp_ne (tgt := 30) hx hb dX11_lean_21 (by decide) (fun c8 => ?_) (fun c8 => ?_)
      · have h := h.2 c8
        refine lv_aload_n hx hb dX11_lean_30 rfl (lv_at hl 0 rfl) ?_
        refine db_getr S hw (Nat.le_of_ble_eq_true rfl) db_s90 (C := RX11) (T := TX11) (N := 19) rfl hiX11 1 (by decide) (r := 92) rfl (List.mem_of_getElem? (i := 1) rfl) dX11_lean_31 ?_
        refine lv_sipush (v := (186 : Int32)) hx hb dX11_lean_34 (by decide) ?_
        refine lv_iload_n hx hb dX11_lean_37 rfl (lv_at hl 1 rfl) ?_
        refine lv_iadd hx hb dX11_lean_38 ?_
        obtain ⟨g3, h⟩ := h
        refine db_iald S hw (Nat.le_of_ble_eq_true rfl) db_s92 g3 dX11_lean_39 ?_
        refine lv_iconst (v := (1 : Int32)) hx hb dX11_lean_40 (by decide) ?_
        refine lv_isub hx hb dX11_lean_41 ?_
        refine lv_topi (fun z4 e4 => ?_)
        have h := h z4 e4
        refine lv_istore_n (lv' := [(3, .int z4), (0, .ref (db_ad E 90)), (1, .int x1), (2, .int x2)]) hx hb dX11_lean_42 rfl hl (by decide) rfl (fun ls hl => ?_)
        refine lv_aload_n hx hb dX11_lean_43 rfl (lv_at hl 1 rfl) ?_
        refine db_getr S hw (Nat.le_of_ble_eq_true rfl) db_s90 (C := RX11) (T := TX11) (N := 19) rfl hiX11 1 (by decide) (r := 92) rfl (List.mem_of_getElem? (i := 1) rfl) dX11_lean_44 ?_
        refine lv_sipush (v := (186 : Int32)) hx hb dX11_lean_47 (by decide) ?_
        refine lv_iload_n hx hb dX11_lean_50 rfl (lv_at hl 2 rfl) ?_
        refine lv_iadd hx hb dX11_lean_51 ?_
        refine lv_iload_n hx hb dX11_lean_52 rfl (lv_at hl 3 rfl) ?_
        refine lv_iconst (v := (1 : Int32)) hx hb dX11_lean_53 (by decide) ?_
        refine lv_iadd hx hb dX11_lean_54 ?_
        obtain ⟨g5, h⟩ := h
        refine db_iast S hw (Nat.le_of_ble_eq_true rfl) db_s92 g5 dX11_lean_55 (fun H locs hw => ?_)
        obtain ⟨X6, e6, hw⟩ : ∃ Z_, Z_ = (db_si X1 92 (((186 : Int32) + x1)).toNatClampNeg (x2 + (1 : Int32))) ∧ db_HW E (db_Aw E s.heap.size) s Z_ H locs := ⟨_, rfl, hw⟩
        have h := h X6 e6
        refine lv_iload_n hx hb dX11_lean_56 rfl (lv_at hl 0 rfl) ?_
        exact db_iret S hr hlocks hw h dX11_lean_57
      · have h := h.1 c8
        refine lv_aload_n hx hb dX11_lean_24 rfl (lv_at hl 0 rfl) ?_
        refine lv_iconst (v := (-1 : Int32)) hx hb dX11_lean_25 (by decide) ?_
        refine db_callVi S hw (Nat.le_of_ble_eq_true rfl) db_s90 (C := RX11) (T := TX11) (N := 19) (As := [.int (-1 : Int32)]) rfl (ct_X11_refuse  h) gX11_lean_X11_refuse rfl ⟨rfl, rfl, Nat.le_of_ble_eq_true rfl, Nat.le_of_ble_eq_true rfl⟩ 1 rfl (by decide +kernel) hl.1 rfl (Nat.le_of_ble_eq_true rfl) dX11_lean_26 ⟨Nat.zero_le _, Nat.zero_le _⟩ (fun r7 X7 H locs h hw => ?_)
        exact db_iret S hr hlocks hw h dX11_lean_29
    · have h := h.2 c18
      refine lv_iload_n hx hb dX11_lean_12 rfl (lv_at hl 2 rfl) ?_
      refine db_callSi S hw (As := [.int x2]) (ct_X11_isBook  h) gX11_lean_X11_isBook rfl ⟨rfl, rfl, Nat.le_of_ble_eq_true rfl, Nat.le_of_ble_eq_true rfl⟩ 1 rfl (by decide +kernel) hl.1 rfl (Nat.le_of_ble_eq_true rfl) dX11_lean_13 ⟨Nat.zero_le _, Nat.zero_le _⟩ (fun r9 X9 H locs h hw => ?_)
      refine lv_if_eq (tgt := 24) hx hb dX11_lean_16 (by decide) (fun c17 => ?_) (fun c17 => ?_)
      · have h := h.1 c17
        refine lv_aload_n hx hb dX11_lean_24 rfl (lv_at hl 0 rfl) ?_
        refine lv_iconst (v := (-1 : Int32)) hx hb dX11_lean_25 (by decide) ?_
        refine db_callVi S hw (Nat.le_of_ble_eq_true rfl) db_s90 (C := RX11) (T := TX11) (N := 19) (As := [.int (-1 : Int32)]) rfl (ct_X11_refuse  h) gX11_lean_X11_refuse rfl ⟨rfl, rfl, Nat.le_of_ble_eq_true rfl, Nat.le_of_ble_eq_true rfl⟩ 1 rfl (by decide +kernel) hl.1 rfl (Nat.le_of_ble_eq_true rfl) dX11_lean_26 ⟨Nat.zero_le _, Nat.zero_le _⟩ (fun r10 X10 H locs h hw => ?_)
        exact db_iret S hr hlocks hw h dX11_lean_29
      · have h := h.2 c17
        refine lv_iload_n hx hb dX11_lean_19 rfl (lv_at hl 1 rfl) ?_
        refine lv_iload_n hx hb dX11_lean_20 rfl (lv_at hl 2 rfl) ?_
        refine lv_icmp_ne (tgt := 30) hx hb dX11_lean_21 (by decide) (fun c16 => ?_) (fun c16 => ?_)
        · have h := h.2 c16
          refine lv_aload_n hx hb dX11_lean_30 rfl (lv_at hl 0 rfl) ?_
          refine db_getr S hw (Nat.le_of_ble_eq_true rfl) db_s90 (C := RX11) (T := TX11) (N := 19) rfl hiX11 1 (by decide) (r := 92) rfl (List.mem_of_getElem? (i := 1) rfl) dX11_lean_31 ?_
          refine lv_sipush (v := (186 : Int32)) hx hb dX11_lean_34 (by decide) ?_
          refine lv_iload_n hx hb dX11_lean_37 rfl (lv_at hl 1 rfl) ?_
          refine lv_iadd hx hb dX11_lean_38 ?_
          obtain ⟨g11, h⟩ := h
          refine db_iald S hw (Nat.le_of_ble_eq_true rfl) db_s92 g11 dX11_lean_39 ?_
          refine lv_iconst (v := (1 : Int32)) hx hb dX11_lean_40 (by decide) ?_
          refine lv_isub hx hb dX11_lean_41 ?_
          refine lv_topi (fun z12 e12 => ?_)
          have h := h z12 e12
          refine lv_istore_n (lv' := [(3, .int z12), (0, .ref (db_ad E 90)), (1, .int x1), (2, .int x2)]) hx hb dX11_lean_42 rfl hl (by decide) rfl (fun ls hl => ?_)
          refine lv_aload_n hx hb dX11_lean_43 rfl (lv_at hl 1 rfl) ?_
          refine db_getr S hw (Nat.le_of_ble_eq_true rfl) db_s90 (C := RX11) (T := TX11) (N := 19) rfl hiX11 1 (by decide) (r := 92) rfl (List.mem_of_getElem? (i := 1) rfl) dX11_lean_44 ?_
          refine lv_sipush (v := (186 : Int32)) hx hb dX11_lean_47 (by decide) ?_
          refine lv_iload_n hx hb dX11_lean_50 rfl (lv_at hl 2 rfl) ?_
          refine lv_iadd hx hb dX11_lean_51 ?_
          refine lv_iload_n hx hb dX11_lean_52 rfl (lv_at hl 3 rfl) ?_
          refine lv_iconst (v := (1 : Int32)) hx hb dX11_lean_53 (by decide) ?_
          refine lv_iadd hx hb dX11_lean_54 ?_
          obtain ⟨g13, h⟩ := h
          refine db_iast S hw (Nat.le_of_ble_eq_true rfl) db_s92 g13 dX11_lean_55 (fun H locs hw => ?_)
          obtain ⟨X14, e14, hw⟩ : ∃ Z_, Z_ = (db_si X9 92 (((186 : Int32) + x1)).toNatClampNeg (x2 + (1 : Int32))) ∧ db_HW E (db_Aw E s.heap.size) s Z_ H locs := ⟨_, rfl, hw⟩
          have h := h X14 e14
          refine lv_iload_n hx hb dX11_lean_56 rfl (lv_at hl 0 rfl) ?_
          exact db_iret S hr hlocks hw h dX11_lean_57
        · have h := h.1 c16
          refine lv_aload_n hx hb dX11_lean_24 rfl (lv_at hl 0 rfl) ?_
          refine lv_iconst (v := (-1 : Int32)) hx hb dX11_lean_25 (by decide) ?_
          refine db_callVi S hw (Nat.le_of_ble_eq_true rfl) db_s90 (C := RX11) (T := TX11) (N := 19) (As := [.int (-1 : Int32)]) rfl (ct_X11_refuse  h) gX11_lean_X11_refuse rfl ⟨rfl, rfl, Nat.le_of_ble_eq_true rfl, Nat.le_of_ble_eq_true rfl⟩ 1 rfl (by decide +kernel) hl.1 rfl (Nat.le_of_ble_eq_true rfl) dX11_lean_26 ⟨Nat.zero_le _, Nat.zero_le _⟩ (fun r15 X15 H locs h hw => ?_)
          exact db_iret S hr hlocks hw h dX11_lean_29
-- DaysOnBreadModel.mode(II)I
abbrev rm_X11_mode : Room := { frames := 2, cells := 0, slots := 0, locals := 41 }
def wp_X11_mode  (X : db_St) (x1 : Int32) (x2 : Int32) (Q : Int32 → db_St → Prop) : Prop := wp_X11_isBook X x1 (fun r1 X1 => ((r1 = 0 → wp_X11_refuse X1 (-1 : Int32) (fun r9 X9 => Q r9 X9)) ∧ (¬ r1 = 0 → wp_X11_isIn X1 x2 (3 : Int32) (fun r2 X2 => ((r2 = 0 → wp_X11_refuse X2 (-2 : Int32) (fun r7 X7 => Q r7 X7)) ∧ (¬ r2 = 0 → (vp_in ((192 : Int32) + x1) 310 ∧ (∀ z4, z4 = (X2.1 92 (((192 : Int32) + x1)).toNatClampNeg) → (vp_in ((192 : Int32) + x1) 310 ∧ (∀ X6, X6 = (db_si X2 92 (((192 : Int32) + x1)).toNatClampNeg x2) → Q z4 X6))))))))))
set_option maxHeartbeats 4000000 in
set_option maxRecDepth 100000 in
theorem ct_X11_mode {l : Launch} {E : db_E}  {X : db_St} {x1 : Int32} {x2 : Int32} {Q : Int32 → db_St → Prop} (h : wp_X11_mode  X x1 x2 Q) : db_MI l E yX11_mode wsX11_mode rm_X11_mode X [.ref (db_ad E 90), .int x1, .int x2] Q := by
  intro sz
  unfold wp_X11_mode at h
  refine Met.ofW (cc := cX11_mode) (maxL := 4) (ret := (some .int)) (by decide) rfl ?_
  intro p e s m args below meth c s₁ B hml hv
  obtain ⟨rfl, hsz, hU⟩ := hv
  subst hsz
  have S : CallFix p m c cX11_mode 4 s ([.ref (db_ad E 90), .int x1, .int x2] : List Value).toArray wsX11_mode RX11 := ⟨B.exec, B.bytes, hml, findClass_of_methodNamed B.named, atoms_spec (ws := wsX11_mode) B.pre⟩
  have hx := S.1
  have hb := S.2.1
  have hr := B.returns
  have hlocks := B.notSynchronized
  have hw := db_start hU
  have hiX11 : ∀ w ∈ wsX110, w ∈ wsX11_mode := fun w_ h_ => List.mem_cons_of_mem _ (List.mem_append_right _ h_)
  have hl := lv_entry ([.ref (db_ad E 90), .int x1, .int x2]) (n := 4) (Nat.le_of_ble_eq_true rfl)
  rw [lg_entry_eq]
  generalize (lg_sl ([.ref (db_ad E 90), .int x1, .int x2]) ++ List.replicate (4 - (lg_sl ([.ref (db_ad E 90), .int x1, .int x2])).length) Slot.unset).toArray = ls at hl ⊢
  have hl : lv_has ls 4 [(0, .ref (db_ad E 90)), (1, .int x1), (2, .int x2)] := hl
  refine lv_iload_n hx hb dX11_mode_0 rfl (lv_at hl 1 rfl) ?_
  refine db_callSi S hw (As := [.int x1]) (ct_X11_isBook  h) gX11_mode_X11_isBook rfl ⟨rfl, rfl, Nat.le_of_ble_eq_true rfl, Nat.le_of_ble_eq_true rfl⟩ 1 rfl (by decide +kernel) hl.1 rfl (Nat.le_of_ble_eq_true rfl) dX11_mode_1 ⟨Nat.zero_le _, Nat.zero_le _⟩ (fun r1 X1 H locs h hw => ?_)
  refine lv_if_ne (tgt := 13) hx hb dX11_mode_4 (by decide) (fun c10 => ?_) (fun c10 => ?_)
  · have h := h.2 c10
    refine lv_iload_n hx hb dX11_mode_13 rfl (lv_at hl 2 rfl) ?_
    refine lv_iconst (v := (3 : Int32)) hx hb dX11_mode_14 (by decide) ?_
    refine db_callSi S hw (As := [.int x2, .int (3 : Int32)]) (ct_X11_isIn  h) gX11_mode_X11_isIn rfl ⟨rfl, rfl, Nat.le_of_ble_eq_true rfl, Nat.le_of_ble_eq_true rfl⟩ 2 rfl (by decide +kernel) hl.1 rfl (Nat.le_of_ble_eq_true rfl) dX11_mode_15 ⟨Nat.zero_le _, Nat.zero_le _⟩ (fun r2 X2 H locs h hw => ?_)
    refine lv_if_ne (tgt := 28) hx hb dX11_mode_18 (by decide) (fun c8 => ?_) (fun c8 => ?_)
    · have h := h.2 c8
      refine lv_aload_n hx hb dX11_mode_28 rfl (lv_at hl 0 rfl) ?_
      refine db_getr S hw (Nat.le_of_ble_eq_true rfl) db_s90 (C := RX11) (T := TX11) (N := 19) rfl hiX11 1 (by decide) (r := 92) rfl (List.mem_of_getElem? (i := 1) rfl) dX11_mode_29 ?_
      refine lv_sipush (v := (192 : Int32)) hx hb dX11_mode_32 (by decide) ?_
      refine lv_iload_n hx hb dX11_mode_35 rfl (lv_at hl 1 rfl) ?_
      refine lv_iadd hx hb dX11_mode_36 ?_
      obtain ⟨g3, h⟩ := h
      refine db_iald S hw (Nat.le_of_ble_eq_true rfl) db_s92 g3 dX11_mode_37 ?_
      refine lv_topi (fun z4 e4 => ?_)
      have h := h z4 e4
      refine lv_istore_n (lv' := [(3, .int z4), (0, .ref (db_ad E 90)), (1, .int x1), (2, .int x2)]) hx hb dX11_mode_38 rfl hl (by decide) rfl (fun ls hl => ?_)
      refine lv_aload_n hx hb dX11_mode_39 rfl (lv_at hl 1 rfl) ?_
      refine db_getr S hw (Nat.le_of_ble_eq_true rfl) db_s90 (C := RX11) (T := TX11) (N := 19) rfl hiX11 1 (by decide) (r := 92) rfl (List.mem_of_getElem? (i := 1) rfl) dX11_mode_40 ?_
      refine lv_sipush (v := (192 : Int32)) hx hb dX11_mode_43 (by decide) ?_
      refine lv_iload_n hx hb dX11_mode_46 rfl (lv_at hl 2 rfl) ?_
      refine lv_iadd hx hb dX11_mode_47 ?_
      refine lv_iload_n hx hb dX11_mode_48 rfl (lv_at hl 3 rfl) ?_
      obtain ⟨g5, h⟩ := h
      refine db_iast S hw (Nat.le_of_ble_eq_true rfl) db_s92 g5 dX11_mode_49 (fun H locs hw => ?_)
      obtain ⟨X6, e6, hw⟩ : ∃ Z_, Z_ = (db_si X2 92 (((192 : Int32) + x1)).toNatClampNeg x2) ∧ db_HW E (db_Aw E s.heap.size) s Z_ H locs := ⟨_, rfl, hw⟩
      have h := h X6 e6
      refine lv_iload_n hx hb dX11_mode_50 rfl (lv_at hl 0 rfl) ?_
      exact db_iret S hr hlocks hw h dX11_mode_51
    · have h := h.1 c8
      refine lv_aload_n hx hb dX11_mode_21 rfl (lv_at hl 0 rfl) ?_
      refine lv_bipush (v := (-2 : Int32)) hx hb dX11_mode_22 (by decide) ?_
      refine db_callVi S hw (Nat.le_of_ble_eq_true rfl) db_s90 (C := RX11) (T := TX11) (N := 19) (As := [.int (-2 : Int32)]) rfl (ct_X11_refuse  h) gX11_mode_X11_refuse rfl ⟨rfl, rfl, Nat.le_of_ble_eq_true rfl, Nat.le_of_ble_eq_true rfl⟩ 1 rfl (by decide +kernel) hl.1 rfl (Nat.le_of_ble_eq_true rfl) dX11_mode_24 ⟨Nat.zero_le _, Nat.zero_le _⟩ (fun r7 X7 H locs h hw => ?_)
      exact db_iret S hr hlocks hw h dX11_mode_27
  · have h := h.1 c10
    refine lv_aload_n hx hb dX11_mode_7 rfl (lv_at hl 0 rfl) ?_
    refine lv_iconst (v := (-1 : Int32)) hx hb dX11_mode_8 (by decide) ?_
    refine db_callVi S hw (Nat.le_of_ble_eq_true rfl) db_s90 (C := RX11) (T := TX11) (N := 19) (As := [.int (-1 : Int32)]) rfl (ct_X11_refuse  h) gX11_mode_X11_refuse rfl ⟨rfl, rfl, Nat.le_of_ble_eq_true rfl, Nat.le_of_ble_eq_true rfl⟩ 1 rfl (by decide +kernel) hl.1 rfl (Nat.le_of_ble_eq_true rfl) dX11_mode_9 ⟨Nat.zero_le _, Nat.zero_le _⟩ (fun r9 X9 H locs h hw => ?_)
    exact db_iret S hr hlocks hw h dX11_mode_12
-- DaysOnBreadModel.whyOf(III)I
abbrev rm_X11_whyOf : Room := { frames := 1, cells := 0, slots := 0, locals := 23 }
def wp_X11_whyOf_21 (k6 : db_St → Int32 → Int32 → Int32 → Int32 → Prop) (Q : Int32 → db_St → Prop) : Nat → db_St → Int32 → Int32 → Int32 → Int32 → Int32 → Prop
  | 0, _, _, _, _, _, _ => False
  | n_ + 1, X, x2, x3, x4, x5, x6 => (vp_in ((180 : Int32) + x4) 310 ∧ (((X.1 92 (((180 : Int32) + x4)).toNatClampNeg) ≤ x6 → (vp_in ((186 : Int32) + x4) 310 ∧ (∀ z3, z3 = ((X.1 92 (((186 : Int32) + x4)).toNatClampNeg) - (1 : Int32)) → k6 X x2 x3 z3 (x5 + (1 : Int32))))) ∧ (¬ ((X.1 92 (((180 : Int32) + x4)).toNatClampNeg) ≤ x6) → wp_X11_get X x4 x6 (0 : Int32) (fun r4 X4 => ((r4 = x2 → wp_X11_get X4 x4 x6 (1 : Int32) (fun r5 X5 => (((r5 &&& (x3 ^^^ (-1 : Int32))) = 0 → Q (((10 : Int32) * x4) + x6) X5) ∧ (¬ (r5 &&& (x3 ^^^ (-1 : Int32))) = 0 → wp_X11_whyOf_21 k6 Q n_ X5 x2 x3 x4 x5 (x6 + (1 : Int32)))))) ∧ (¬ r4 = x2 → wp_X11_whyOf_21 k6 Q n_ X4 x2 x3 x4 x5 (x6 + (1 : Int32))))))))
set_option maxHeartbeats 4000000 in
set_option maxRecDepth 100000 in
theorem tw_X11_whyOf_21 {p : Program} {l : Launch} {e : Env} {s : State} {m : MethodId} {args : Array Value} {below : List Frame} {meth : Method} {c : Code} {E : db_E} (S : CallFix p m c cX11_whyOf 7 s args wsX11_whyOf RX11) (hr : meth.sig.returnType = (some .int)) (hlocks : meth.locks = false)  {Q : Int32 → db_St → Prop} {k6 : db_St → Int32 → Int32 → Int32 → Int32 → Prop} (hk6 : ∀ (X : db_St) (x2 : Int32) (x3 : Int32) (x4 : Int32) (x5 : Int32) (H : Heap) (locs : List Loc) (ls : Array Slot), k6 X x2 x3 x4 x5 → db_HW E (db_Aw E s.heap.size) s X H locs → lv_has ls 7 [(0, .ref (db_ad E 90)), (2, .int x2), (3, .int x3), (4, .int x4), (5, .int x5)] → W p l e rm_X11_whyOf s m args below meth c H locs 0 0 (MQ below (va_Qi Q (db_Po E) (db_Aw E s.heap.size)) args s 0 0 (db_Aw E s.heap.size)) (F0 m 6 ls [])) : ∀ (n : Nat) (X : db_St) (x2 : Int32) (x3 : Int32) (x4 : Int32) (x5 : Int32) (x6 : Int32) (H : Heap) (locs : List Loc) (ls : Array Slot), wp_X11_whyOf_21 k6 Q n X x2 x3 x4 x5 x6 → db_HW E (db_Aw E s.heap.size) s X H locs → lv_has ls 7 [(0, .ref (db_ad E 90)), (2, .int x2), (3, .int x3), (4, .int x4), (5, .int x5), (6, .int x6)] → W p l e rm_X11_whyOf s m args below meth c H locs 0 0 (MQ below (va_Qi Q (db_Po E) (db_Aw E s.heap.size)) args s 0 0 (db_Aw E s.heap.size)) (F0 m 21 ls []) := by
  have hx := S.1
  have hb := S.2.1
  have hiX11 : ∀ w ∈ wsX110, w ∈ wsX11_whyOf := fun w_ h_ => List.mem_cons_of_mem _ (List.mem_append_right _ h_)
  intro n
  induction n with
  | zero =>
    intro X x2 x3 x4 x5 x6 H locs ls h hw hl
    exact False.elim h
  | succ n_ ih =>
    intro X x2 x3 x4 x5 x6 H locs ls h hw hl
    unfold wp_X11_whyOf_21 at h
    refine lv_iload hx hb dX11_whyOf_21 (lv_at hl 5 rfl) ?_
    refine lv_aload_n hx hb dX11_whyOf_23 rfl (lv_at hl 0 rfl) ?_
    refine db_getr S hw (Nat.le_of_ble_eq_true rfl) db_s90 (C := RX11) (T := TX11) (N := 19) rfl hiX11 1 (by decide) (r := 92) rfl (List.mem_of_getElem? (i := 1) rfl) dX11_whyOf_24 ?_
    refine lv_sipush (v := (180 : Int32)) hx hb dX11_whyOf_27 (by decide) ?_
    refine lv_iload hx hb dX11_whyOf_30 (lv_at hl 3 rfl) ?_
    refine lv_iadd hx hb dX11_whyOf_32 ?_
    obtain ⟨g1, h⟩ := h
    refine db_iald S hw (Nat.le_of_ble_eq_true rfl) db_s92 g1 dX11_whyOf_33 ?_
    refine lv_icmp_ge (tgt := 81) hx hb dX11_whyOf_34 (by decide) (fun c8 => ?_) (fun c8 => ?_)
    · have h := h.1 c8
      refine lv_aload_n hx hb dX11_whyOf_81 rfl (lv_at hl 0 rfl) ?_
      refine db_getr S hw (Nat.le_of_ble_eq_true rfl) db_s90 (C := RX11) (T := TX11) (N := 19) rfl hiX11 1 (by decide) (r := 92) rfl (List.mem_of_getElem? (i := 1) rfl) dX11_whyOf_82 ?_
      refine lv_sipush (v := (186 : Int32)) hx hb dX11_whyOf_85 (by decide) ?_
      refine lv_iload hx hb dX11_whyOf_88 (lv_at hl 3 rfl) ?_
      refine lv_iadd hx hb dX11_whyOf_90 ?_
      obtain ⟨g2, h⟩ := h
      refine db_iald S hw (Nat.le_of_ble_eq_true rfl) db_s92 g2 dX11_whyOf_91 ?_
      refine lv_iconst (v := (1 : Int32)) hx hb dX11_whyOf_92 (by decide) ?_
      refine lv_isub hx hb dX11_whyOf_93 ?_
      refine lv_topi (fun z3 e3 => ?_)
      have h := h z3 e3
      refine lv_istore (lv' := [(4, .int z3), (0, .ref (db_ad E 90)), (2, .int x2), (3, .int x3), (5, .int x5), (6, .int x6)]) hx hb dX11_whyOf_94 hl (by decide) rfl (fun ls hl => ?_)
      refine lv_iinc (v := (x5 + (1 : Int32))) (lv' := [(5, .int (x5 + (1 : Int32))), (4, .int z3), (0, .ref (db_ad E 90)), (2, .int x2), (3, .int x3), (6, .int x6)]) hx hb dX11_whyOf_96 hl (k := 4) rfl (congrArg (fun z_ => x5 + z_) (show Int32.ofInt (1) = (1 : Int32) by decide)) (by decide) rfl (fun ls hl => ?_)
      refine lv_goto (tgt := 6) hx hb dX11_whyOf_99 (by decide) ?_
      exact hk6 _ _ _ _ _ _ _ _ h hw (lv_sub hl [2, 3, 4, 1, 0] rfl)
    · have h := h.2 c8
      refine lv_aload_n hx hb dX11_whyOf_37 rfl (lv_at hl 0 rfl) ?_
      refine lv_iload hx hb dX11_whyOf_38 (lv_at hl 3 rfl) ?_
      refine lv_iload hx hb dX11_whyOf_40 (lv_at hl 5 rfl) ?_
      refine lv_iconst (v := (0 : Int32)) hx hb dX11_whyOf_42 (by decide) ?_
      refine db_callVi S hw (Nat.le_of_ble_eq_true rfl) db_s90 (C := RX11) (T := TX11) (N := 19) (As := [.int x4, .int x6, .int (0 : Int32)]) rfl (ct_X11_get  h) gX11_whyOf_X11_get rfl ⟨rfl, rfl, Nat.le_of_ble_eq_true rfl, Nat.le_of_ble_eq_true rfl⟩ 3 rfl (by decide +kernel) hl.1 rfl (Nat.le_of_ble_eq_true rfl) dX11_whyOf_43 ⟨Nat.zero_le _, Nat.zero_le _⟩ (fun r4 X4 H locs h hw => ?_)
      refine lv_iload_n hx hb dX11_whyOf_46 rfl (lv_at hl 1 rfl) ?_
      refine lv_icmp_ne (tgt := 75) hx hb dX11_whyOf_47 (by decide) (fun c7 => ?_) (fun c7 => ?_)
      · have h := h.2 c7
        refine lv_iinc (v := (x6 + (1 : Int32))) (lv' := [(6, .int (x6 + (1 : Int32))), (0, .ref (db_ad E 90)), (2, .int x2), (3, .int x3), (4, .int x4), (5, .int x5)]) hx hb dX11_whyOf_75 hl (k := 5) rfl (congrArg (fun z_ => x6 + z_) (show Int32.ofInt (1) = (1 : Int32) by decide)) (by decide) rfl (fun ls hl => ?_)
        refine lv_goto (tgt := 21) hx hb dX11_whyOf_78 (by decide) ?_
        exact ih _ _ _ _ _ _ _ _ _ h hw (lv_sub hl [1, 2, 3, 4, 5, 0] rfl)
      · have h := h.1 c7
        refine lv_aload_n hx hb dX11_whyOf_50 rfl (lv_at hl 0 rfl) ?_
        refine lv_iload hx hb dX11_whyOf_51 (lv_at hl 3 rfl) ?_
        refine lv_iload hx hb dX11_whyOf_53 (lv_at hl 5 rfl) ?_
        refine lv_iconst (v := (1 : Int32)) hx hb dX11_whyOf_55 (by decide) ?_
        refine db_callVi S hw (Nat.le_of_ble_eq_true rfl) db_s90 (C := RX11) (T := TX11) (N := 19) (As := [.int x4, .int x6, .int (1 : Int32)]) rfl (ct_X11_get  h) gX11_whyOf_X11_get rfl ⟨rfl, rfl, Nat.le_of_ble_eq_true rfl, Nat.le_of_ble_eq_true rfl⟩ 3 rfl (by decide +kernel) hl.1 rfl (Nat.le_of_ble_eq_true rfl) dX11_whyOf_56 ⟨Nat.zero_le _, Nat.zero_le _⟩ (fun r5 X5 H locs h hw => ?_)
        refine lv_iload_n hx hb dX11_whyOf_59 rfl (lv_at hl 2 rfl) ?_
        refine lv_iconst (v := (-1 : Int32)) hx hb dX11_whyOf_60 (by decide) ?_
        refine lv_ixor hx hb dX11_whyOf_61 ?_
        refine lv_iand hx hb dX11_whyOf_62 ?_
        refine lv_if_ne (tgt := 75) hx hb dX11_whyOf_63 (by decide) (fun c6 => ?_) (fun c6 => ?_)
        · have h := h.2 c6
          refine lv_iinc (v := (x6 + (1 : Int32))) (lv' := [(6, .int (x6 + (1 : Int32))), (0, .ref (db_ad E 90)), (2, .int x2), (3, .int x3), (4, .int x4), (5, .int x5)]) hx hb dX11_whyOf_75 hl (k := 5) rfl (congrArg (fun z_ => x6 + z_) (show Int32.ofInt (1) = (1 : Int32) by decide)) (by decide) rfl (fun ls hl => ?_)
          refine lv_goto (tgt := 21) hx hb dX11_whyOf_78 (by decide) ?_
          exact ih _ _ _ _ _ _ _ _ _ h hw (lv_sub hl [1, 2, 3, 4, 5, 0] rfl)
        · have h := h.1 c6
          refine lv_bipush (v := (10 : Int32)) hx hb dX11_whyOf_66 (by decide) ?_
          refine lv_iload hx hb dX11_whyOf_68 (lv_at hl 3 rfl) ?_
          refine lv_imul hx hb dX11_whyOf_70 ?_
          refine lv_iload hx hb dX11_whyOf_71 (lv_at hl 5 rfl) ?_
          refine lv_iadd hx hb dX11_whyOf_73 ?_
          exact db_iret S hr hlocks hw h dX11_whyOf_74
def wp_X11_whyOf_6 (Q : Int32 → db_St → Prop) : Nat → db_St → Int32 → Int32 → Int32 → Int32 → Prop
  | 0, _, _, _, _, _ => False
  | n_ + 1, X, x2, x3, x4, x5 => (((6 : Int32) ≤ x5 → Q (-9 : Int32) X) ∧ (¬ ((6 : Int32) ≤ x5) → ((x4 < 0 → Q (-9 : Int32) X) ∧ (¬ (x4 < 0) → (∃ f_, wp_X11_whyOf_21 (wp_X11_whyOf_6 Q n_) Q f_ X x2 x3 x4 x5 (0 : Int32))))))
set_option maxHeartbeats 4000000 in
set_option maxRecDepth 100000 in
theorem tw_X11_whyOf_6 {p : Program} {l : Launch} {e : Env} {s : State} {m : MethodId} {args : Array Value} {below : List Frame} {meth : Method} {c : Code} {E : db_E} (S : CallFix p m c cX11_whyOf 7 s args wsX11_whyOf RX11) (hr : meth.sig.returnType = (some .int)) (hlocks : meth.locks = false)  {Q : Int32 → db_St → Prop} : ∀ (n : Nat) (X : db_St) (x2 : Int32) (x3 : Int32) (x4 : Int32) (x5 : Int32) (H : Heap) (locs : List Loc) (ls : Array Slot), wp_X11_whyOf_6 Q n X x2 x3 x4 x5 → db_HW E (db_Aw E s.heap.size) s X H locs → lv_has ls 7 [(0, .ref (db_ad E 90)), (2, .int x2), (3, .int x3), (4, .int x4), (5, .int x5)] → W p l e rm_X11_whyOf s m args below meth c H locs 0 0 (MQ below (va_Qi Q (db_Po E) (db_Aw E s.heap.size)) args s 0 0 (db_Aw E s.heap.size)) (F0 m 6 ls []) := by
  have hx := S.1
  have hb := S.2.1
  have hiX11 : ∀ w ∈ wsX110, w ∈ wsX11_whyOf := fun w_ h_ => List.mem_cons_of_mem _ (List.mem_append_right _ h_)
  intro n
  induction n with
  | zero =>
    intro X x2 x3 x4 x5 H locs ls h hw hl
    exact False.elim h
  | succ n_ ih =>
    intro X x2 x3 x4 x5 H locs ls h hw hl
    unfold wp_X11_whyOf_6 at h
    refine lv_iload hx hb dX11_whyOf_6 (lv_at hl 4 rfl) ?_
    refine lv_bipush (v := (6 : Int32)) hx hb dX11_whyOf_8 (by decide) ?_
    refine lv_icmp_ge (tgt := 102) hx hb dX11_whyOf_10 (by decide) (fun c2 => ?_) (fun c2 => ?_)
    · have h := h.1 c2
      refine lv_bipush (v := (-9 : Int32)) hx hb dX11_whyOf_102 (by decide) ?_
      exact db_iret S hr hlocks hw h dX11_whyOf_104
    · have h := h.2 c2
      refine lv_iload hx hb dX11_whyOf_13 (lv_at hl 3 rfl) ?_
      refine lv_if_lt (tgt := 102) hx hb dX11_whyOf_15 (by decide) (fun c1 => ?_) (fun c1 => ?_)
      · have h := h.1 c1
        refine lv_bipush (v := (-9 : Int32)) hx hb dX11_whyOf_102 (by decide) ?_
        exact db_iret S hr hlocks hw h dX11_whyOf_104
      · have h := h.2 c1
        refine lv_iconst (v := (0 : Int32)) hx hb dX11_whyOf_18 (by decide) ?_
        refine lv_istore (lv' := [(6, .int (0 : Int32)), (0, .ref (db_ad E 90)), (2, .int x2), (3, .int x3), (4, .int x4), (5, .int x5)]) hx hb dX11_whyOf_19 hl (by decide) rfl (fun ls hl => ?_)
        obtain ⟨f_, h⟩ := h
        exact tw_X11_whyOf_21 S hr hlocks  ih f_ _ _ _ _ _ _ _ _ _ h hw (lv_sub hl [1, 2, 3, 4, 5, 0] rfl)
def wp_X11_whyOf  (X : db_St) (x1 : Int32) (x2 : Int32) (x3 : Int32) (Q : Int32 → db_St → Prop) : Prop := (∃ f_, wp_X11_whyOf_6 Q f_ X x2 x3 x1 (0 : Int32))
set_option maxHeartbeats 4000000 in
set_option maxRecDepth 100000 in
theorem ct_X11_whyOf {l : Launch} {E : db_E}  {X : db_St} {x1 : Int32} {x2 : Int32} {x3 : Int32} {Q : Int32 → db_St → Prop} (h : wp_X11_whyOf  X x1 x2 x3 Q) : db_MI l E yX11_whyOf wsX11_whyOf rm_X11_whyOf X [.ref (db_ad E 90), .int x1, .int x2, .int x3] Q := by
  intro sz
  unfold wp_X11_whyOf at h
  refine Met.ofW (cc := cX11_whyOf) (maxL := 7) (ret := (some .int)) (by decide) rfl ?_
  intro p e s m args below meth c s₁ B hml hv
  obtain ⟨rfl, hsz, hU⟩ := hv
  subst hsz
  have S : CallFix p m c cX11_whyOf 7 s ([.ref (db_ad E 90), .int x1, .int x2, .int x3] : List Value).toArray wsX11_whyOf RX11 := ⟨B.exec, B.bytes, hml, findClass_of_methodNamed B.named, atoms_spec (ws := wsX11_whyOf) B.pre⟩
  have hx := S.1
  have hb := S.2.1
  have hr := B.returns
  have hlocks := B.notSynchronized
  have hw := db_start hU
  have hiX11 : ∀ w ∈ wsX110, w ∈ wsX11_whyOf := fun w_ h_ => List.mem_cons_of_mem _ (List.mem_append_right _ h_)
  have hl := lv_entry ([.ref (db_ad E 90), .int x1, .int x2, .int x3]) (n := 7) (Nat.le_of_ble_eq_true rfl)
  rw [lg_entry_eq]
  generalize (lg_sl ([.ref (db_ad E 90), .int x1, .int x2, .int x3]) ++ List.replicate (7 - (lg_sl ([.ref (db_ad E 90), .int x1, .int x2, .int x3])).length) Slot.unset).toArray = ls at hl ⊢
  have hl : lv_has ls 7 [(0, .ref (db_ad E 90)), (1, .int x1), (2, .int x2), (3, .int x3)] := hl
  refine lv_iload_n hx hb dX11_whyOf_0 rfl (lv_at hl 1 rfl) ?_
  refine lv_istore (lv' := [(4, .int x1), (0, .ref (db_ad E 90)), (1, .int x1), (2, .int x2), (3, .int x3)]) hx hb dX11_whyOf_1 hl (by decide) rfl (fun ls hl => ?_)
  refine lv_iconst (v := (0 : Int32)) hx hb dX11_whyOf_3 (by decide) ?_
  refine lv_istore (lv' := [(5, .int (0 : Int32)), (4, .int x1), (0, .ref (db_ad E 90)), (1, .int x1), (2, .int x2), (3, .int x3)]) hx hb dX11_whyOf_4 hl (by decide) rfl (fun ls hl => ?_)
  obtain ⟨f_, h⟩ := h
  exact tw_X11_whyOf_6 S hr hlocks   f_ _ _ _ _ _ _ _ _ h hw (lv_sub hl [2, 4, 5, 1, 0] rfl)
-- DaysOnBreadModel.owesOf(III)I
abbrev rm_X11_owesOf : Room := { frames := 2, cells := 0, slots := 0, locals := 49 }
def wp_X11_owesOf  (X : db_St) (x1 : Int32) (x2 : Int32) (x3 : Int32) (Q : Int32 → db_St → Prop) : Prop := wp_X11_whyOf X x1 x2 x3 (fun r1 X1 => ((0 ≤ r1 → wp_X11_get X1 (r1 / (10 : Int32)) (r1 - r1 / (10 : Int32) * (10 : Int32)) (2 : Int32) (fun r2 X2 => Q r2 X2)) ∧ (¬ (0 ≤ r1) → Q (-9 : Int32) X1)))
set_option maxHeartbeats 4000000 in
set_option maxRecDepth 100000 in
theorem ct_X11_owesOf {l : Launch} {E : db_E}  {X : db_St} {x1 : Int32} {x2 : Int32} {x3 : Int32} {Q : Int32 → db_St → Prop} (h : wp_X11_owesOf  X x1 x2 x3 Q) : db_MI l E yX11_owesOf wsX11_owesOf rm_X11_owesOf X [.ref (db_ad E 90), .int x1, .int x2, .int x3] Q := by
  intro sz
  unfold wp_X11_owesOf at h
  refine Met.ofW (cc := cX11_owesOf) (maxL := 5) (ret := (some .int)) (by decide) rfl ?_
  intro p e s m args below meth c s₁ B hml hv
  obtain ⟨rfl, hsz, hU⟩ := hv
  subst hsz
  have S : CallFix p m c cX11_owesOf 5 s ([.ref (db_ad E 90), .int x1, .int x2, .int x3] : List Value).toArray wsX11_owesOf RX11 := ⟨B.exec, B.bytes, hml, findClass_of_methodNamed B.named, atoms_spec (ws := wsX11_owesOf) B.pre⟩
  have hx := S.1
  have hb := S.2.1
  have hr := B.returns
  have hlocks := B.notSynchronized
  have hw := db_start hU
  have hl := lv_entry ([.ref (db_ad E 90), .int x1, .int x2, .int x3]) (n := 5) (Nat.le_of_ble_eq_true rfl)
  rw [lg_entry_eq]
  generalize (lg_sl ([.ref (db_ad E 90), .int x1, .int x2, .int x3]) ++ List.replicate (5 - (lg_sl ([.ref (db_ad E 90), .int x1, .int x2, .int x3])).length) Slot.unset).toArray = ls at hl ⊢
  have hl : lv_has ls 5 [(0, .ref (db_ad E 90)), (1, .int x1), (2, .int x2), (3, .int x3)] := hl
  refine lv_aload_n hx hb dX11_owesOf_0 rfl (lv_at hl 0 rfl) ?_
  refine lv_iload_n hx hb dX11_owesOf_1 rfl (lv_at hl 1 rfl) ?_
  refine lv_iload_n hx hb dX11_owesOf_2 rfl (lv_at hl 2 rfl) ?_
  refine lv_iload_n hx hb dX11_owesOf_3 rfl (lv_at hl 3 rfl) ?_
  refine db_callVi S hw (Nat.le_of_ble_eq_true rfl) db_s90 (C := RX11) (T := TX11) (N := 19) (As := [.int x1, .int x2, .int x3]) rfl (ct_X11_whyOf  h) gX11_owesOf_X11_whyOf rfl ⟨rfl, rfl, Nat.le_of_ble_eq_true rfl, Nat.le_of_ble_eq_true rfl⟩ 3 rfl (by decide +kernel) hl.1 rfl (Nat.le_of_ble_eq_true rfl) dX11_owesOf_4 ⟨Nat.zero_le _, Nat.zero_le _⟩ (fun r1 X1 H locs h hw => ?_)
  refine lv_istore (lv' := [(4, .int r1), (0, .ref (db_ad E 90)), (1, .int x1), (2, .int x2), (3, .int x3)]) hx hb dX11_owesOf_7 hl (by decide) rfl (fun ls hl => ?_)
  refine lv_iload hx hb dX11_owesOf_9 (lv_at hl 0 rfl) ?_
  refine lv_if_ge (tgt := 19) hx hb dX11_owesOf_11 (by decide) (fun c3 => ?_) (fun c3 => ?_)
  · have h := h.1 c3
    refine lv_aload_n hx hb dX11_owesOf_19 rfl (lv_at hl 1 rfl) ?_
    refine lv_iload hx hb dX11_owesOf_20 (lv_at hl 0 rfl) ?_
    refine lv_bipush (v := (10 : Int32)) hx hb dX11_owesOf_22 (by decide) ?_
    refine lv_idiv hx hb dX11_owesOf_24 (by decide) ?_
    refine lv_iload hx hb dX11_owesOf_25 (lv_at hl 0 rfl) ?_
    refine lv_bipush (v := (10 : Int32)) hx hb dX11_owesOf_27 (by decide) ?_
    refine lv_irem hx hb dX11_owesOf_29 (by decide) ?_
    refine lv_iconst (v := (2 : Int32)) hx hb dX11_owesOf_30 (by decide) ?_
    refine db_callVi S hw (Nat.le_of_ble_eq_true rfl) db_s90 (C := RX11) (T := TX11) (N := 19) (As := [.int (r1 / (10 : Int32)), .int (r1 - r1 / (10 : Int32) * (10 : Int32)), .int (2 : Int32)]) rfl (ct_X11_get  h) gX11_owesOf_X11_get rfl ⟨rfl, rfl, Nat.le_of_ble_eq_true rfl, Nat.le_of_ble_eq_true rfl⟩ 3 rfl (by decide +kernel) hl.1 rfl (Nat.le_of_ble_eq_true rfl) dX11_owesOf_31 ⟨Nat.zero_le _, Nat.zero_le _⟩ (fun r2 X2 H locs h hw => ?_)
    exact db_iret S hr hlocks hw h dX11_owesOf_34
  · have h := h.2 c3
    refine lv_bipush (v := (-9 : Int32)) hx hb dX11_owesOf_14 (by decide) ?_
    refine lv_goto (tgt := 34) hx hb dX11_owesOf_16 (by decide) ?_
    exact db_iret S hr hlocks hw h dX11_owesOf_34
-- DaysOnBreadModel.isDeed(II)Z
abbrev rm_X11_isDeed : Room := { frames := 1, cells := 0, slots := 0, locals := 21 }
def wp_X11_isDeed  (X : db_St) (x0 : Int32) (x1 : Int32) (Q : Int32 → db_St → Prop) : Prop := wp_X11_isIn X x0 (8 : Int32) (fun r1 X1 => ((r1 = 0 → Q (0 : Int32) X1) ∧ (¬ (r1 = 0) → wp_X11_isIn X1 x1 (16 : Int32) (fun r2 X2 => ((r2 = 0 → Q (0 : Int32) X2) ∧ (¬ (r2 = 0) → Q (1 : Int32) X2))))))
set_option maxHeartbeats 4000000 in
set_option maxRecDepth 100000 in
theorem ct_X11_isDeed {l : Launch} {E : db_E}  {X : db_St} {x0 : Int32} {x1 : Int32} {Q : Int32 → db_St → Prop} (h : wp_X11_isDeed  X x0 x1 Q) : db_MI l E yX11_isDeed wsX11_isDeed rm_X11_isDeed X [.int x0, .int x1] Q := by
  intro sz
  unfold wp_X11_isDeed at h
  refine Met.ofW (cc := cX11_isDeed) (maxL := 2) (ret := (some .boolean)) (by decide) rfl ?_
  intro p e s m args below meth c s₁ B hml hv
  obtain ⟨rfl, hsz, hU⟩ := hv
  subst hsz
  have S : CallFix p m c cX11_isDeed 2 s ([.int x0, .int x1] : List Value).toArray wsX11_isDeed RX11 := ⟨B.exec, B.bytes, hml, findClass_of_methodNamed B.named, atoms_spec (ws := wsX11_isDeed) B.pre⟩
  have hx := S.1
  have hb := S.2.1
  have hr := B.returns
  have hlocks := B.notSynchronized
  have hw := db_start hU
  have hl := lv_entry ([.int x0, .int x1]) (n := 2) (Nat.le_of_ble_eq_true rfl)
  rw [lg_entry_eq]
  generalize (lg_sl ([.int x0, .int x1]) ++ List.replicate (2 - (lg_sl ([.int x0, .int x1])).length) Slot.unset).toArray = ls at hl ⊢
  have hl : lv_has ls 2 [(0, .int x0), (1, .int x1)] := hl
  refine lv_iload_n hx hb dX11_isDeed_0 rfl (lv_at hl 0 rfl) ?_
  refine lv_bipush (v := (8 : Int32)) hx hb dX11_isDeed_1 (by decide) ?_
  refine db_callSi S hw (As := [.int x0, .int (8 : Int32)]) (ct_X11_isIn  h) gX11_isDeed_X11_isIn rfl ⟨rfl, rfl, Nat.le_of_ble_eq_true rfl, Nat.le_of_ble_eq_true rfl⟩ 2 rfl (by decide +kernel) hl.1 rfl (Nat.le_of_ble_eq_true rfl) dX11_isDeed_3 ⟨Nat.zero_le _, Nat.zero_le _⟩ (fun r1 X1 H locs h hw => ?_)
  refine lv_if_eq (tgt := 22) hx hb dX11_isDeed_6 (by decide) (fun c4 => ?_) (fun c4 => ?_)
  · have h := h.1 c4
    refine lv_iconst (v := (0 : Int32)) hx hb dX11_isDeed_22 (by decide) ?_
    exact db_zret S hr hlocks rfl hw h dX11_isDeed_23
  · have h := h.2 c4
    refine lv_iload_n hx hb dX11_isDeed_9 rfl (lv_at hl 1 rfl) ?_
    refine lv_bipush (v := (16 : Int32)) hx hb dX11_isDeed_10 (by decide) ?_
    refine db_callSi S hw (As := [.int x1, .int (16 : Int32)]) (ct_X11_isIn  h) gX11_isDeed_X11_isIn rfl ⟨rfl, rfl, Nat.le_of_ble_eq_true rfl, Nat.le_of_ble_eq_true rfl⟩ 2 rfl (by decide +kernel) hl.1 rfl (Nat.le_of_ble_eq_true rfl) dX11_isDeed_12 ⟨Nat.zero_le _, Nat.zero_le _⟩ (fun r2 X2 H locs h hw => ?_)
    refine lv_if_eq (tgt := 22) hx hb dX11_isDeed_15 (by decide) (fun c3 => ?_) (fun c3 => ?_)
    · have h := h.1 c3
      refine lv_iconst (v := (0 : Int32)) hx hb dX11_isDeed_22 (by decide) ?_
      exact db_zret S hr hlocks rfl hw h dX11_isDeed_23
    · have h := h.2 c3
      refine lv_iconst (v := (1 : Int32)) hx hb dX11_isDeed_18 (by decide) ?_
      refine lv_goto (tgt := 23) hx hb dX11_isDeed_19 (by decide) ?_
      exact db_zret S hr hlocks rfl hw h dX11_isDeed_23
-- DaysOnBreadModel.owes(III)I
abbrev rm_X11_owes : Room := { frames := 3, cells := 0, slots := 0, locals := 73 }
def wp_X11_owes  (X : db_St) (x1 : Int32) (x2 : Int32) (x3 : Int32) (Q : Int32 → db_St → Prop) : Prop := wp_X11_isBook X x1 (fun r1 X1 => ((r1 = 0 → wp_X11_refuse X1 (-1 : Int32) (fun r2 X2 => Q r2 X2)) ∧ (¬ (r1 = 0) → wp_X11_isDeed X1 x2 x3 (fun r3 X3 => ((r3 = 0 → wp_X11_refuse X3 (-1 : Int32) (fun r4 X4 => Q r4 X4)) ∧ (¬ (r3 = 0) → wp_X11_owesOf X3 x1 x2 x3 (fun r5 X5 => Q r5 X5)))))))
set_option maxHeartbeats 4000000 in
set_option maxRecDepth 100000 in
theorem ct_X11_owes {l : Launch} {E : db_E}  {X : db_St} {x1 : Int32} {x2 : Int32} {x3 : Int32} {Q : Int32 → db_St → Prop} (h : wp_X11_owes  X x1 x2 x3 Q) : db_MI l E yX11_owes wsX11_owes rm_X11_owes X [.ref (db_ad E 90), .int x1, .int x2, .int x3] Q := by
  intro sz
  unfold wp_X11_owes at h
  refine Met.ofW (cc := cX11_owes) (maxL := 4) (ret := (some .int)) (by decide) rfl ?_
  intro p e s m args below meth c s₁ B hml hv
  obtain ⟨rfl, hsz, hU⟩ := hv
  subst hsz
  have S : CallFix p m c cX11_owes 4 s ([.ref (db_ad E 90), .int x1, .int x2, .int x3] : List Value).toArray wsX11_owes RX11 := ⟨B.exec, B.bytes, hml, findClass_of_methodNamed B.named, atoms_spec (ws := wsX11_owes) B.pre⟩
  have hx := S.1
  have hb := S.2.1
  have hr := B.returns
  have hlocks := B.notSynchronized
  have hw := db_start hU
  have hl := lv_entry ([.ref (db_ad E 90), .int x1, .int x2, .int x3]) (n := 4) (Nat.le_of_ble_eq_true rfl)
  rw [lg_entry_eq]
  generalize (lg_sl ([.ref (db_ad E 90), .int x1, .int x2, .int x3]) ++ List.replicate (4 - (lg_sl ([.ref (db_ad E 90), .int x1, .int x2, .int x3])).length) Slot.unset).toArray = ls at hl ⊢
  have hl : lv_has ls 4 [(0, .ref (db_ad E 90)), (1, .int x1), (2, .int x2), (3, .int x3)] := hl
  refine lv_iload_n hx hb dX11_owes_0 rfl (lv_at hl 1 rfl) ?_
  refine db_callSi S hw (As := [.int x1]) (ct_X11_isBook  h) gX11_owes_X11_isBook rfl ⟨rfl, rfl, Nat.le_of_ble_eq_true rfl, Nat.le_of_ble_eq_true rfl⟩ 1 rfl (by decide +kernel) hl.1 rfl (Nat.le_of_ble_eq_true rfl) dX11_owes_1 ⟨Nat.zero_le _, Nat.zero_le _⟩ (fun r1 X1 H locs h hw => ?_)
  refine lv_if_eq (tgt := 25) hx hb dX11_owes_4 (by decide) (fun c7 => ?_) (fun c7 => ?_)
  · have h := h.1 c7
    refine lv_aload_n hx hb dX11_owes_25 rfl (lv_at hl 0 rfl) ?_
    refine lv_iconst (v := (-1 : Int32)) hx hb dX11_owes_26 (by decide) ?_
    refine db_callVi S hw (Nat.le_of_ble_eq_true rfl) db_s90 (C := RX11) (T := TX11) (N := 19) (As := [.int (-1 : Int32)]) rfl (ct_X11_refuse  h) gX11_owes_X11_refuse rfl ⟨rfl, rfl, Nat.le_of_ble_eq_true rfl, Nat.le_of_ble_eq_true rfl⟩ 1 rfl (by decide +kernel) hl.1 rfl (Nat.le_of_ble_eq_true rfl) dX11_owes_27 ⟨Nat.zero_le _, Nat.zero_le _⟩ (fun r2 X2 H locs h hw => ?_)
    exact db_iret S hr hlocks hw h dX11_owes_30
  · have h := h.2 c7
    refine lv_iload_n hx hb dX11_owes_7 rfl (lv_at hl 2 rfl) ?_
    refine lv_iload_n hx hb dX11_owes_8 rfl (lv_at hl 3 rfl) ?_
    refine db_callSi S hw (As := [.int x2, .int x3]) (ct_X11_isDeed  h) gX11_owes_X11_isDeed rfl ⟨rfl, rfl, Nat.le_of_ble_eq_true rfl, Nat.le_of_ble_eq_true rfl⟩ 2 rfl (by decide +kernel) hl.1 rfl (Nat.le_of_ble_eq_true rfl) dX11_owes_9 ⟨Nat.zero_le _, Nat.zero_le _⟩ (fun r3 X3 H locs h hw => ?_)
    refine lv_if_eq (tgt := 25) hx hb dX11_owes_12 (by decide) (fun c6 => ?_) (fun c6 => ?_)
    · have h := h.1 c6
      refine lv_aload_n hx hb dX11_owes_25 rfl (lv_at hl 0 rfl) ?_
      refine lv_iconst (v := (-1 : Int32)) hx hb dX11_owes_26 (by decide) ?_
      refine db_callVi S hw (Nat.le_of_ble_eq_true rfl) db_s90 (C := RX11) (T := TX11) (N := 19) (As := [.int (-1 : Int32)]) rfl (ct_X11_refuse  h) gX11_owes_X11_refuse rfl ⟨rfl, rfl, Nat.le_of_ble_eq_true rfl, Nat.le_of_ble_eq_true rfl⟩ 1 rfl (by decide +kernel) hl.1 rfl (Nat.le_of_ble_eq_true rfl) dX11_owes_27 ⟨Nat.zero_le _, Nat.zero_le _⟩ (fun r4 X4 H locs h hw => ?_)
      exact db_iret S hr hlocks hw h dX11_owes_30
    · have h := h.2 c6
      refine lv_aload_n hx hb dX11_owes_15 rfl (lv_at hl 0 rfl) ?_
      refine lv_iload_n hx hb dX11_owes_16 rfl (lv_at hl 1 rfl) ?_
      refine lv_iload_n hx hb dX11_owes_17 rfl (lv_at hl 2 rfl) ?_
      refine lv_iload_n hx hb dX11_owes_18 rfl (lv_at hl 3 rfl) ?_
      refine db_callVi S hw (Nat.le_of_ble_eq_true rfl) db_s90 (C := RX11) (T := TX11) (N := 19) (As := [.int x1, .int x2, .int x3]) rfl (ct_X11_owesOf  h) gX11_owes_X11_owesOf rfl ⟨rfl, rfl, Nat.le_of_ble_eq_true rfl, Nat.le_of_ble_eq_true rfl⟩ 3 rfl (by decide +kernel) hl.1 rfl (Nat.le_of_ble_eq_true rfl) dX11_owes_19 ⟨Nat.zero_le _, Nat.zero_le _⟩ (fun r5 X5 H locs h hw => ?_)
      refine lv_goto (tgt := 30) hx hb dX11_owes_22 (by decide) ?_
      exact db_iret S hr hlocks hw h dX11_owes_30
-- DaysOnBreadModel.why(III)I
abbrev rm_X11_why : Room := { frames := 2, cells := 0, slots := 0, locals := 49 }
def wp_X11_why  (X : db_St) (x1 : Int32) (x2 : Int32) (x3 : Int32) (Q : Int32 → db_St → Prop) : Prop := wp_X11_isBook X x1 (fun r1 X1 => ((r1 = 0 → wp_X11_refuse X1 (-1 : Int32) (fun r2 X2 => Q r2 X2)) ∧ (¬ (r1 = 0) → wp_X11_isDeed X1 x2 x3 (fun r3 X3 => ((r3 = 0 → wp_X11_refuse X3 (-1 : Int32) (fun r4 X4 => Q r4 X4)) ∧ (¬ (r3 = 0) → wp_X11_whyOf X3 x1 x2 x3 (fun r5 X5 => Q r5 X5)))))))
set_option maxHeartbeats 4000000 in
set_option maxRecDepth 100000 in
theorem ct_X11_why {l : Launch} {E : db_E}  {X : db_St} {x1 : Int32} {x2 : Int32} {x3 : Int32} {Q : Int32 → db_St → Prop} (h : wp_X11_why  X x1 x2 x3 Q) : db_MI l E yX11_why wsX11_why rm_X11_why X [.ref (db_ad E 90), .int x1, .int x2, .int x3] Q := by
  intro sz
  unfold wp_X11_why at h
  refine Met.ofW (cc := cX11_why) (maxL := 4) (ret := (some .int)) (by decide) rfl ?_
  intro p e s m args below meth c s₁ B hml hv
  obtain ⟨rfl, hsz, hU⟩ := hv
  subst hsz
  have S : CallFix p m c cX11_why 4 s ([.ref (db_ad E 90), .int x1, .int x2, .int x3] : List Value).toArray wsX11_why RX11 := ⟨B.exec, B.bytes, hml, findClass_of_methodNamed B.named, atoms_spec (ws := wsX11_why) B.pre⟩
  have hx := S.1
  have hb := S.2.1
  have hr := B.returns
  have hlocks := B.notSynchronized
  have hw := db_start hU
  have hl := lv_entry ([.ref (db_ad E 90), .int x1, .int x2, .int x3]) (n := 4) (Nat.le_of_ble_eq_true rfl)
  rw [lg_entry_eq]
  generalize (lg_sl ([.ref (db_ad E 90), .int x1, .int x2, .int x3]) ++ List.replicate (4 - (lg_sl ([.ref (db_ad E 90), .int x1, .int x2, .int x3])).length) Slot.unset).toArray = ls at hl ⊢
  have hl : lv_has ls 4 [(0, .ref (db_ad E 90)), (1, .int x1), (2, .int x2), (3, .int x3)] := hl
  refine lv_iload_n hx hb dX11_why_0 rfl (lv_at hl 1 rfl) ?_
  refine db_callSi S hw (As := [.int x1]) (ct_X11_isBook  h) gX11_why_X11_isBook rfl ⟨rfl, rfl, Nat.le_of_ble_eq_true rfl, Nat.le_of_ble_eq_true rfl⟩ 1 rfl (by decide +kernel) hl.1 rfl (Nat.le_of_ble_eq_true rfl) dX11_why_1 ⟨Nat.zero_le _, Nat.zero_le _⟩ (fun r1 X1 H locs h hw => ?_)
  refine lv_if_eq (tgt := 25) hx hb dX11_why_4 (by decide) (fun c7 => ?_) (fun c7 => ?_)
  · have h := h.1 c7
    refine lv_aload_n hx hb dX11_why_25 rfl (lv_at hl 0 rfl) ?_
    refine lv_iconst (v := (-1 : Int32)) hx hb dX11_why_26 (by decide) ?_
    refine db_callVi S hw (Nat.le_of_ble_eq_true rfl) db_s90 (C := RX11) (T := TX11) (N := 19) (As := [.int (-1 : Int32)]) rfl (ct_X11_refuse  h) gX11_why_X11_refuse rfl ⟨rfl, rfl, Nat.le_of_ble_eq_true rfl, Nat.le_of_ble_eq_true rfl⟩ 1 rfl (by decide +kernel) hl.1 rfl (Nat.le_of_ble_eq_true rfl) dX11_why_27 ⟨Nat.zero_le _, Nat.zero_le _⟩ (fun r2 X2 H locs h hw => ?_)
    exact db_iret S hr hlocks hw h dX11_why_30
  · have h := h.2 c7
    refine lv_iload_n hx hb dX11_why_7 rfl (lv_at hl 2 rfl) ?_
    refine lv_iload_n hx hb dX11_why_8 rfl (lv_at hl 3 rfl) ?_
    refine db_callSi S hw (As := [.int x2, .int x3]) (ct_X11_isDeed  h) gX11_why_X11_isDeed rfl ⟨rfl, rfl, Nat.le_of_ble_eq_true rfl, Nat.le_of_ble_eq_true rfl⟩ 2 rfl (by decide +kernel) hl.1 rfl (Nat.le_of_ble_eq_true rfl) dX11_why_9 ⟨Nat.zero_le _, Nat.zero_le _⟩ (fun r3 X3 H locs h hw => ?_)
    refine lv_if_eq (tgt := 25) hx hb dX11_why_12 (by decide) (fun c6 => ?_) (fun c6 => ?_)
    · have h := h.1 c6
      refine lv_aload_n hx hb dX11_why_25 rfl (lv_at hl 0 rfl) ?_
      refine lv_iconst (v := (-1 : Int32)) hx hb dX11_why_26 (by decide) ?_
      refine db_callVi S hw (Nat.le_of_ble_eq_true rfl) db_s90 (C := RX11) (T := TX11) (N := 19) (As := [.int (-1 : Int32)]) rfl (ct_X11_refuse  h) gX11_why_X11_refuse rfl ⟨rfl, rfl, Nat.le_of_ble_eq_true rfl, Nat.le_of_ble_eq_true rfl⟩ 1 rfl (by decide +kernel) hl.1 rfl (Nat.le_of_ble_eq_true rfl) dX11_why_27 ⟨Nat.zero_le _, Nat.zero_le _⟩ (fun r4 X4 H locs h hw => ?_)
      exact db_iret S hr hlocks hw h dX11_why_30
    · have h := h.2 c6
      refine lv_aload_n hx hb dX11_why_15 rfl (lv_at hl 0 rfl) ?_
      refine lv_iload_n hx hb dX11_why_16 rfl (lv_at hl 1 rfl) ?_
      refine lv_iload_n hx hb dX11_why_17 rfl (lv_at hl 2 rfl) ?_
      refine lv_iload_n hx hb dX11_why_18 rfl (lv_at hl 3 rfl) ?_
      refine db_callVi S hw (Nat.le_of_ble_eq_true rfl) db_s90 (C := RX11) (T := TX11) (N := 19) (As := [.int x1, .int x2, .int x3]) rfl (ct_X11_whyOf  h) gX11_why_X11_whyOf rfl ⟨rfl, rfl, Nat.le_of_ble_eq_true rfl, Nat.le_of_ble_eq_true rfl⟩ 3 rfl (by decide +kernel) hl.1 rfl (Nat.le_of_ble_eq_true rfl) dX11_why_19 ⟨Nat.zero_le _, Nat.zero_le _⟩ (fun r5 X5 H locs h hw => ?_)
      refine lv_goto (tgt := 30) hx hb dX11_why_22 (by decide) ?_
      exact db_iret S hr hlocks hw h dX11_why_30
-- DaysOnBreadModel.done(IIZ)I
abbrev rm_X11_done : Room := { frames := 2, cells := 0, slots := 0, locals := 42 }
def wp_X11_done  (X : db_St) (x1 : Int32) (x2 : Int32) (x3 : Int32) (Q : Int32 → db_St → Prop) : Prop := wp_X11_isDeed X x1 x2 (fun r1 X1 => ((r1 = 0 → wp_X11_refuse X1 (-1 : Int32) (fun r16 X16 => Q r16 X16)) ∧ (¬ r1 = 0 → (((X1.1 92 ((306 : Int32)).toNatClampNeg) = (12 : Int32) → wp_X11_refuse X1 (-6 : Int32) (fun r14 X14 => Q r14 X14)) ∧ (¬ (X1.1 92 ((306 : Int32)).toNatClampNeg) = (12 : Int32) → (∀ z2, z2 = ((198 : Int32) + ((3 : Int32) * (X1.1 92 ((306 : Int32)).toNatClampNeg))) → (vp_in z2 310 ∧ (∀ X4, X4 = (db_si X1 92 (z2).toNatClampNeg x1) → (vp_in (z2 + (1 : Int32)) 310 ∧ (∀ X6, X6 = (db_si X4 92 ((z2 + (1 : Int32))).toNatClampNeg x2) → ((x3 = 0 → (vp_in (z2 + (2 : Int32)) 310 ∧ (∀ X8, X8 = (db_si X6 92 ((z2 + (2 : Int32))).toNatClampNeg (0 : Int32)) → (∀ X9, X9 = (db_si X8 92 ((306 : Int32)).toNatClampNeg ((X8.1 92 ((306 : Int32)).toNatClampNeg) + (1 : Int32))) → Q (X9.1 92 ((306 : Int32)).toNatClampNeg) X9)))) ∧ (¬ (x3 = 0) → (vp_in (z2 + (2 : Int32)) 310 ∧ (∀ X11, X11 = (db_si X6 92 ((z2 + (2 : Int32))).toNatClampNeg (1 : Int32)) → (∀ X12, X12 = (db_si X11 92 ((306 : Int32)).toNatClampNeg ((X11.1 92 ((306 : Int32)).toNatClampNeg) + (1 : Int32))) → Q (X12.1 92 ((306 : Int32)).toNatClampNeg) X12)))))))))))))))
set_option maxHeartbeats 4000000 in
set_option maxRecDepth 100000 in
theorem ct_X11_done {l : Launch} {E : db_E}  {X : db_St} {x1 : Int32} {x2 : Int32} {x3 : Int32} {Q : Int32 → db_St → Prop} (h : wp_X11_done  X x1 x2 x3 Q) : db_MI l E yX11_done wsX11_done rm_X11_done X [.ref (db_ad E 90), .int x1, .int x2, .int x3] Q := by
  intro sz
  unfold wp_X11_done at h
  refine Met.ofW (cc := cX11_done) (maxL := 5) (ret := (some .int)) (by decide) rfl ?_
  intro p e s m args below meth c s₁ B hml hv
  obtain ⟨rfl, hsz, hU⟩ := hv
  subst hsz
  have S : CallFix p m c cX11_done 5 s ([.ref (db_ad E 90), .int x1, .int x2, .int x3] : List Value).toArray wsX11_done RX11 := ⟨B.exec, B.bytes, hml, findClass_of_methodNamed B.named, atoms_spec (ws := wsX11_done) B.pre⟩
  have hx := S.1
  have hb := S.2.1
  have hr := B.returns
  have hlocks := B.notSynchronized
  have hw := db_start hU
  have hiX11 : ∀ w ∈ wsX110, w ∈ wsX11_done := fun w_ h_ => List.mem_cons_of_mem _ (List.mem_append_right _ h_)
  have hl := lv_entry ([.ref (db_ad E 90), .int x1, .int x2, .int x3]) (n := 5) (Nat.le_of_ble_eq_true rfl)
  rw [lg_entry_eq]
  generalize (lg_sl ([.ref (db_ad E 90), .int x1, .int x2, .int x3]) ++ List.replicate (5 - (lg_sl ([.ref (db_ad E 90), .int x1, .int x2, .int x3])).length) Slot.unset).toArray = ls at hl ⊢
  have hl : lv_has ls 5 [(0, .ref (db_ad E 90)), (1, .int x1), (2, .int x2), (3, .int x3)] := hl
  refine lv_iload_n hx hb dX11_done_0 rfl (lv_at hl 1 rfl) ?_
  refine lv_iload_n hx hb dX11_done_1 rfl (lv_at hl 2 rfl) ?_
  refine db_callSi S hw (As := [.int x1, .int x2]) (ct_X11_isDeed  h) gX11_done_X11_isDeed rfl ⟨rfl, rfl, Nat.le_of_ble_eq_true rfl, Nat.le_of_ble_eq_true rfl⟩ 2 rfl (by decide +kernel) hl.1 rfl (Nat.le_of_ble_eq_true rfl) dX11_done_2 ⟨Nat.zero_le _, Nat.zero_le _⟩ (fun r1 X1 H locs h hw => ?_)
  refine lv_if_ne (tgt := 14) hx hb dX11_done_5 (by decide) (fun c17 => ?_) (fun c17 => ?_)
  · have h := h.2 c17
    refine lv_aload_n hx hb dX11_done_14 rfl (lv_at hl 0 rfl) ?_
    refine db_getr S hw (Nat.le_of_ble_eq_true rfl) db_s90 (C := RX11) (T := TX11) (N := 19) rfl hiX11 1 (by decide) (r := 92) rfl (List.mem_of_getElem? (i := 1) rfl) dX11_done_15 ?_
    refine lv_sipush (v := (306 : Int32)) hx hb dX11_done_18 (by decide) ?_
    refine db_iald S hw (Nat.le_of_ble_eq_true rfl) db_s92 (show ¬ ((306 : Int32) < 0 ∨ 310 ≤ ((306 : Int32) : Int32).toNatClampNeg) by decide) dX11_done_21 ?_
    refine lv_bipush (v := (12 : Int32)) hx hb dX11_done_22 (by decide) ?_
    refine lv_icmp_ne (tgt := 34) hx hb dX11_done_24 (by decide) (fun c15 => ?_) (fun c15 => ?_)
    · have h := h.2 c15
      refine lv_sipush (v := (198 : Int32)) hx hb dX11_done_34 (by decide) ?_
      refine lv_iconst (v := (3 : Int32)) hx hb dX11_done_37 (by decide) ?_
      refine lv_aload_n hx hb dX11_done_38 rfl (lv_at hl 0 rfl) ?_
      refine db_getr S hw (Nat.le_of_ble_eq_true rfl) db_s90 (C := RX11) (T := TX11) (N := 19) rfl hiX11 1 (by decide) (r := 92) rfl (List.mem_of_getElem? (i := 1) rfl) dX11_done_39 ?_
      refine lv_sipush (v := (306 : Int32)) hx hb dX11_done_42 (by decide) ?_
      refine db_iald S hw (Nat.le_of_ble_eq_true rfl) db_s92 (show ¬ ((306 : Int32) < 0 ∨ 310 ≤ ((306 : Int32) : Int32).toNatClampNeg) by decide) dX11_done_45 ?_
      refine lv_imul hx hb dX11_done_46 ?_
      refine lv_iadd hx hb dX11_done_47 ?_
      refine lv_topi (fun z2 e2 => ?_)
      have h := h z2 e2
      refine lv_istore (lv' := [(4, .int z2), (0, .ref (db_ad E 90)), (1, .int x1), (2, .int x2), (3, .int x3)]) hx hb dX11_done_48 hl (by decide) rfl (fun ls hl => ?_)
      refine lv_aload_n hx hb dX11_done_50 rfl (lv_at hl 1 rfl) ?_
      refine db_getr S hw (Nat.le_of_ble_eq_true rfl) db_s90 (C := RX11) (T := TX11) (N := 19) rfl hiX11 1 (by decide) (r := 92) rfl (List.mem_of_getElem? (i := 1) rfl) dX11_done_51 ?_
      refine lv_iload hx hb dX11_done_54 (lv_at hl 0 rfl) ?_
      refine lv_iload_n hx hb dX11_done_56 rfl (lv_at hl 2 rfl) ?_
      obtain ⟨g3, h⟩ := h
      refine db_iast S hw (Nat.le_of_ble_eq_true rfl) db_s92 g3 dX11_done_57 (fun H locs hw => ?_)
      obtain ⟨X4, e4, hw⟩ : ∃ Z_, Z_ = (db_si X1 92 (z2).toNatClampNeg x1) ∧ db_HW E (db_Aw E s.heap.size) s Z_ H locs := ⟨_, rfl, hw⟩
      have h := h X4 e4
      refine lv_aload_n hx hb dX11_done_58 rfl (lv_at hl 1 rfl) ?_
      refine db_getr S hw (Nat.le_of_ble_eq_true rfl) db_s90 (C := RX11) (T := TX11) (N := 19) rfl hiX11 1 (by decide) (r := 92) rfl (List.mem_of_getElem? (i := 1) rfl) dX11_done_59 ?_
      refine lv_iload hx hb dX11_done_62 (lv_at hl 0 rfl) ?_
      refine lv_iconst (v := (1 : Int32)) hx hb dX11_done_64 (by decide) ?_
      refine lv_iadd hx hb dX11_done_65 ?_
      refine lv_iload_n hx hb dX11_done_66 rfl (lv_at hl 3 rfl) ?_
      obtain ⟨g5, h⟩ := h
      refine db_iast S hw (Nat.le_of_ble_eq_true rfl) db_s92 g5 dX11_done_67 (fun H locs hw => ?_)
      obtain ⟨X6, e6, hw⟩ : ∃ Z_, Z_ = (db_si X4 92 ((z2 + (1 : Int32))).toNatClampNeg x2) ∧ db_HW E (db_Aw E s.heap.size) s Z_ H locs := ⟨_, rfl, hw⟩
      have h := h X6 e6
      refine lv_aload_n hx hb dX11_done_68 rfl (lv_at hl 1 rfl) ?_
      refine db_getr S hw (Nat.le_of_ble_eq_true rfl) db_s90 (C := RX11) (T := TX11) (N := 19) rfl hiX11 1 (by decide) (r := 92) rfl (List.mem_of_getElem? (i := 1) rfl) dX11_done_69 ?_
      refine lv_iload hx hb dX11_done_72 (lv_at hl 0 rfl) ?_
      refine lv_iconst (v := (2 : Int32)) hx hb dX11_done_74 (by decide) ?_
      refine lv_iadd hx hb dX11_done_75 ?_
      refine lv_iload_n hx hb dX11_done_76 rfl (lv_at hl 4 rfl) ?_
      refine lv_if_eq (tgt := 84) hx hb dX11_done_77 (by decide) (fun c13 => ?_) (fun c13 => ?_)
      · have h := h.1 c13
        refine lv_iconst (v := (0 : Int32)) hx hb dX11_done_84 (by decide) ?_
        obtain ⟨g7, h⟩ := h
        refine db_iast S hw (Nat.le_of_ble_eq_true rfl) db_s92 g7 dX11_done_85 (fun H locs hw => ?_)
        obtain ⟨X8, e8, hw⟩ : ∃ Z_, Z_ = (db_si X6 92 ((z2 + (2 : Int32))).toNatClampNeg (0 : Int32)) ∧ db_HW E (db_Aw E s.heap.size) s Z_ H locs := ⟨_, rfl, hw⟩
        have h := h X8 e8
        refine lv_aload_n hx hb dX11_done_86 rfl (lv_at hl 1 rfl) ?_
        refine db_getr S hw (Nat.le_of_ble_eq_true rfl) db_s90 (C := RX11) (T := TX11) (N := 19) rfl hiX11 1 (by decide) (r := 92) rfl (List.mem_of_getElem? (i := 1) rfl) dX11_done_87 ?_
        refine lv_sipush (v := (306 : Int32)) hx hb dX11_done_90 (by decide) ?_
        refine lv_dup2_11 hx hb dX11_done_93 rfl rfl ?_
        refine db_iald S hw (Nat.le_of_ble_eq_true rfl) db_s92 (show ¬ ((306 : Int32) < 0 ∨ 310 ≤ ((306 : Int32) : Int32).toNatClampNeg) by decide) dX11_done_94 ?_
        refine lv_iconst (v := (1 : Int32)) hx hb dX11_done_95 (by decide) ?_
        refine lv_iadd hx hb dX11_done_96 ?_
        refine db_iast S hw (Nat.le_of_ble_eq_true rfl) db_s92 (show ¬ ((306 : Int32) < 0 ∨ 310 ≤ ((306 : Int32) : Int32).toNatClampNeg) by decide) dX11_done_97 (fun H locs hw => ?_)
        obtain ⟨X9, e9, hw⟩ : ∃ Z_, Z_ = (db_si X8 92 ((306 : Int32)).toNatClampNeg ((X8.1 92 ((306 : Int32)).toNatClampNeg) + (1 : Int32))) ∧ db_HW E (db_Aw E s.heap.size) s Z_ H locs := ⟨_, rfl, hw⟩
        have h := h X9 e9
        refine lv_aload_n hx hb dX11_done_98 rfl (lv_at hl 1 rfl) ?_
        refine db_getr S hw (Nat.le_of_ble_eq_true rfl) db_s90 (C := RX11) (T := TX11) (N := 19) rfl hiX11 1 (by decide) (r := 92) rfl (List.mem_of_getElem? (i := 1) rfl) dX11_done_99 ?_
        refine lv_sipush (v := (306 : Int32)) hx hb dX11_done_102 (by decide) ?_
        refine db_iald S hw (Nat.le_of_ble_eq_true rfl) db_s92 (show ¬ ((306 : Int32) < 0 ∨ 310 ≤ ((306 : Int32) : Int32).toNatClampNeg) by decide) dX11_done_105 ?_
        exact db_iret S hr hlocks hw h dX11_done_106
      · have h := h.2 c13
        refine lv_iconst (v := (1 : Int32)) hx hb dX11_done_80 (by decide) ?_
        refine lv_goto (tgt := 85) hx hb dX11_done_81 (by decide) ?_
        obtain ⟨g10, h⟩ := h
        refine db_iast S hw (Nat.le_of_ble_eq_true rfl) db_s92 g10 dX11_done_85 (fun H locs hw => ?_)
        obtain ⟨X11, e11, hw⟩ : ∃ Z_, Z_ = (db_si X6 92 ((z2 + (2 : Int32))).toNatClampNeg (1 : Int32)) ∧ db_HW E (db_Aw E s.heap.size) s Z_ H locs := ⟨_, rfl, hw⟩
        have h := h X11 e11
        refine lv_aload_n hx hb dX11_done_86 rfl (lv_at hl 1 rfl) ?_
        refine db_getr S hw (Nat.le_of_ble_eq_true rfl) db_s90 (C := RX11) (T := TX11) (N := 19) rfl hiX11 1 (by decide) (r := 92) rfl (List.mem_of_getElem? (i := 1) rfl) dX11_done_87 ?_
        refine lv_sipush (v := (306 : Int32)) hx hb dX11_done_90 (by decide) ?_
        refine lv_dup2_11 hx hb dX11_done_93 rfl rfl ?_
        refine db_iald S hw (Nat.le_of_ble_eq_true rfl) db_s92 (show ¬ ((306 : Int32) < 0 ∨ 310 ≤ ((306 : Int32) : Int32).toNatClampNeg) by decide) dX11_done_94 ?_
        refine lv_iconst (v := (1 : Int32)) hx hb dX11_done_95 (by decide) ?_
        refine lv_iadd hx hb dX11_done_96 ?_
        refine db_iast S hw (Nat.le_of_ble_eq_true rfl) db_s92 (show ¬ ((306 : Int32) < 0 ∨ 310 ≤ ((306 : Int32) : Int32).toNatClampNeg) by decide) dX11_done_97 (fun H locs hw => ?_)
        obtain ⟨X12, e12, hw⟩ : ∃ Z_, Z_ = (db_si X11 92 ((306 : Int32)).toNatClampNeg ((X11.1 92 ((306 : Int32)).toNatClampNeg) + (1 : Int32))) ∧ db_HW E (db_Aw E s.heap.size) s Z_ H locs := ⟨_, rfl, hw⟩
        have h := h X12 e12
        refine lv_aload_n hx hb dX11_done_98 rfl (lv_at hl 1 rfl) ?_
        refine db_getr S hw (Nat.le_of_ble_eq_true rfl) db_s90 (C := RX11) (T := TX11) (N := 19) rfl hiX11 1 (by decide) (r := 92) rfl (List.mem_of_getElem? (i := 1) rfl) dX11_done_99 ?_
        refine lv_sipush (v := (306 : Int32)) hx hb dX11_done_102 (by decide) ?_
        refine db_iald S hw (Nat.le_of_ble_eq_true rfl) db_s92 (show ¬ ((306 : Int32) < 0 ∨ 310 ≤ ((306 : Int32) : Int32).toNatClampNeg) by decide) dX11_done_105 ?_
        exact db_iret S hr hlocks hw h dX11_done_106
    · have h := h.1 c15
      refine lv_aload_n hx hb dX11_done_27 rfl (lv_at hl 0 rfl) ?_
      refine lv_bipush (v := (-6 : Int32)) hx hb dX11_done_28 (by decide) ?_
      refine db_callVi S hw (Nat.le_of_ble_eq_true rfl) db_s90 (C := RX11) (T := TX11) (N := 19) (As := [.int (-6 : Int32)]) rfl (ct_X11_refuse  h) gX11_done_X11_refuse rfl ⟨rfl, rfl, Nat.le_of_ble_eq_true rfl, Nat.le_of_ble_eq_true rfl⟩ 1 rfl (by decide +kernel) hl.1 rfl (Nat.le_of_ble_eq_true rfl) dX11_done_30 ⟨Nat.zero_le _, Nat.zero_le _⟩ (fun r14 X14 H locs h hw => ?_)
      exact db_iret S hr hlocks hw h dX11_done_33
  · have h := h.1 c17
    refine lv_aload_n hx hb dX11_done_8 rfl (lv_at hl 0 rfl) ?_
    refine lv_iconst (v := (-1 : Int32)) hx hb dX11_done_9 (by decide) ?_
    refine db_callVi S hw (Nat.le_of_ble_eq_true rfl) db_s90 (C := RX11) (T := TX11) (N := 19) (As := [.int (-1 : Int32)]) rfl (ct_X11_refuse  h) gX11_done_X11_refuse rfl ⟨rfl, rfl, Nat.le_of_ble_eq_true rfl, Nat.le_of_ble_eq_true rfl⟩ 1 rfl (by decide +kernel) hl.1 rfl (Nat.le_of_ble_eq_true rfl) dX11_done_10 ⟨Nat.zero_le _, Nat.zero_le _⟩ (fun r16 X16 H locs h hw => ?_)
    exact db_iret S hr hlocks hw h dX11_done_13
-- DaysOnBreadModel.undone()I
abbrev rm_X11_undone : Room := { frames := 0, cells := 0, slots := 0, locals := 0 }
def wp_X11_undone  (X : db_St)  (Q : Int32 → db_St → Prop) : Prop := (∀ X1, X1 = (db_si X 92 ((306 : Int32)).toNatClampNeg (0 : Int32)) → Q (X.1 92 ((306 : Int32)).toNatClampNeg) X1)
set_option maxHeartbeats 4000000 in
set_option maxRecDepth 100000 in
theorem ct_X11_undone {l : Launch} {E : db_E}  {X : db_St}  {Q : Int32 → db_St → Prop} (h : wp_X11_undone  X  Q) : db_MI l E yX11_undone wsX11_undone rm_X11_undone X [.ref (db_ad E 90)] Q := by
  intro sz
  unfold wp_X11_undone at h
  refine Met.ofW (cc := cX11_undone) (maxL := 2) (ret := (some .int)) (by decide) rfl ?_
  intro p e s m args below meth c s₁ B hml hv
  obtain ⟨rfl, hsz, hU⟩ := hv
  subst hsz
  have S : CallFix p m c cX11_undone 2 s ([.ref (db_ad E 90)] : List Value).toArray wsX11_undone RX11 := ⟨B.exec, B.bytes, hml, findClass_of_methodNamed B.named, atoms_spec (ws := wsX11_undone) B.pre⟩
  have hx := S.1
  have hb := S.2.1
  have hr := B.returns
  have hlocks := B.notSynchronized
  have hw := db_start hU
  have hiX11 : ∀ w ∈ wsX110, w ∈ wsX11_undone := fun w_ h_ => List.mem_cons_of_mem _ (List.mem_append_right _ h_)
  have hl := lv_entry ([.ref (db_ad E 90)]) (n := 2) (Nat.le_of_ble_eq_true rfl)
  rw [lg_entry_eq]
  generalize (lg_sl ([.ref (db_ad E 90)]) ++ List.replicate (2 - (lg_sl ([.ref (db_ad E 90)])).length) Slot.unset).toArray = ls at hl ⊢
  have hl : lv_has ls 2 [(0, .ref (db_ad E 90))] := hl
  refine lv_aload_n hx hb dX11_undone_0 rfl (lv_at hl 0 rfl) ?_
  refine db_getr S hw (Nat.le_of_ble_eq_true rfl) db_s90 (C := RX11) (T := TX11) (N := 19) rfl hiX11 1 (by decide) (r := 92) rfl (List.mem_of_getElem? (i := 1) rfl) dX11_undone_1 ?_
  refine lv_sipush (v := (306 : Int32)) hx hb dX11_undone_4 (by decide) ?_
  refine db_iald S hw (Nat.le_of_ble_eq_true rfl) db_s92 (show ¬ ((306 : Int32) < 0 ∨ 310 ≤ ((306 : Int32) : Int32).toNatClampNeg) by decide) dX11_undone_7 ?_
  refine lv_istore_n (lv' := [(1, .int (X.1 92 ((306 : Int32)).toNatClampNeg)), (0, .ref (db_ad E 90))]) hx hb dX11_undone_8 rfl hl (by decide) rfl (fun ls hl => ?_)
  refine lv_aload_n hx hb dX11_undone_9 rfl (lv_at hl 1 rfl) ?_
  refine db_getr S hw (Nat.le_of_ble_eq_true rfl) db_s90 (C := RX11) (T := TX11) (N := 19) rfl hiX11 1 (by decide) (r := 92) rfl (List.mem_of_getElem? (i := 1) rfl) dX11_undone_10 ?_
  refine lv_sipush (v := (306 : Int32)) hx hb dX11_undone_13 (by decide) ?_
  refine lv_iconst (v := (0 : Int32)) hx hb dX11_undone_16 (by decide) ?_
  refine db_iast S hw (Nat.le_of_ble_eq_true rfl) db_s92 (show ¬ ((306 : Int32) < 0 ∨ 310 ≤ ((306 : Int32) : Int32).toNatClampNeg) by decide) dX11_undone_17 (fun H locs hw => ?_)
  obtain ⟨X1, e1, hw⟩ : ∃ Z_, Z_ = (db_si X 92 ((306 : Int32)).toNatClampNeg (0 : Int32)) ∧ db_HW E (db_Aw E s.heap.size) s Z_ H locs := ⟨_, rfl, hw⟩
  have h := h X1 e1
  refine lv_iload_n hx hb dX11_undone_18 rfl (lv_at hl 0 rfl) ?_
  exact db_iret S hr hlocks hw h dX11_undone_19
-- DaysOnBreadModel.togetherBy(I)I
abbrev rm_X11_togetherBy : Room := { frames := 3, cells := 0, slots := 0, locals := 73 }
def wp_X11_togetherBy_7 (Q : Int32 → db_St → Prop) : Nat → db_St → Int32 → Int32 → Int32 → Int32 → Prop
  | 0, _, _, _, _, _ => False
  | n_ + 1, X, x1, x2, x3, x4 => (((X.1 92 ((306 : Int32)).toNatClampNeg) ≤ x4 → (vp_in ((192 : Int32) + x1) 310 ∧ (((X.1 92 (((192 : Int32) + x1)).toNatClampNeg) = 0 → Q x2 X) ∧ (¬ (X.1 92 (((192 : Int32) + x1)).toNatClampNeg) = 0 → (vp_in ((192 : Int32) + x1) 310 ∧ (((X.1 92 (((192 : Int32) + x1)).toNatClampNeg) = (1 : Int32) → Q x3 X) ∧ (¬ (X.1 92 (((192 : Int32) + x1)).toNatClampNeg) = (1 : Int32) → Q (x3 + ((x2 - x3) / (2 : Int32))) X))))))) ∧ (¬ ((X.1 92 ((306 : Int32)).toNatClampNeg) ≤ x4) → (vp_in ((198 : Int32) + ((3 : Int32) * x4)) 310 ∧ (vp_in (((198 : Int32) + ((3 : Int32) * x4)) + (1 : Int32)) 310 ∧ wp_X11_owesOf X x1 (X.1 92 (((198 : Int32) + ((3 : Int32) * x4))).toNatClampNeg) (X.1 92 ((((198 : Int32) + ((3 : Int32) * x4)) + (1 : Int32))).toNatClampNeg) (fun r7 X7 => ((0 ≤ r7 → (vp_in (((198 : Int32) + ((3 : Int32) * x4)) + (2 : Int32)) 310 ∧ (∀ z9, z9 = (r7 * ((1 : Int32) + (X7.1 92 ((((198 : Int32) + ((3 : Int32) * x4)) + (2 : Int32))).toNatClampNeg))) → ((z9 ≤ x3 → wp_X11_togetherBy_7 Q n_ X7 x1 (x2 + z9) x3 (x4 + (1 : Int32))) ∧ (¬ (z9 ≤ x3) → wp_X11_togetherBy_7 Q n_ X7 x1 (x2 + z9) z9 (x4 + (1 : Int32))))))) ∧ (¬ (0 ≤ r7) → wp_X11_togetherBy_7 Q n_ X7 x1 x2 x3 (x4 + (1 : Int32)))))))))
set_option maxHeartbeats 4000000 in
set_option maxRecDepth 100000 in
theorem tw_X11_togetherBy_7 {p : Program} {l : Launch} {e : Env} {s : State} {m : MethodId} {args : Array Value} {below : List Frame} {meth : Method} {c : Code} {E : db_E} (S : CallFix p m c cX11_togetherBy 7 s args wsX11_togetherBy RX11) (hr : meth.sig.returnType = (some .int)) (hlocks : meth.locks = false)  {Q : Int32 → db_St → Prop} : ∀ (n : Nat) (X : db_St) (x1 : Int32) (x2 : Int32) (x3 : Int32) (x4 : Int32) (H : Heap) (locs : List Loc) (ls : Array Slot), wp_X11_togetherBy_7 Q n X x1 x2 x3 x4 → db_HW E (db_Aw E s.heap.size) s X H locs → lv_has ls 7 [(0, .ref (db_ad E 90)), (1, .int x1), (2, .int x2), (3, .int x3), (4, .int x4)] → W p l e rm_X11_togetherBy s m args below meth c H locs 0 0 (MQ below (va_Qi Q (db_Po E) (db_Aw E s.heap.size)) args s 0 0 (db_Aw E s.heap.size)) (F0 m 7 ls []) := by
  have hx := S.1
  have hb := S.2.1
  have hiX11 : ∀ w ∈ wsX110, w ∈ wsX11_togetherBy := fun w_ h_ => List.mem_cons_of_mem _ (List.mem_append_right _ h_)
  intro n
  induction n with
  | zero =>
    intro X x1 x2 x3 x4 H locs ls h hw hl
    exact False.elim h
  | succ n_ ih =>
    intro X x1 x2 x3 x4 H locs ls h hw hl
    unfold wp_X11_togetherBy_7 at h
    refine lv_iload hx hb dX11_togetherBy_7 (lv_at hl 4 rfl) ?_
    refine lv_aload_n hx hb dX11_togetherBy_9 rfl (lv_at hl 0 rfl) ?_
    refine db_getr S hw (Nat.le_of_ble_eq_true rfl) db_s90 (C := RX11) (T := TX11) (N := 19) rfl hiX11 1 (by decide) (r := 92) rfl (List.mem_of_getElem? (i := 1) rfl) dX11_togetherBy_10 ?_
    refine lv_sipush (v := (306 : Int32)) hx hb dX11_togetherBy_13 (by decide) ?_
    refine db_iald S hw (Nat.le_of_ble_eq_true rfl) db_s92 (show ¬ ((306 : Int32) < 0 ∨ 310 ≤ ((306 : Int32) : Int32).toNatClampNeg) by decide) dX11_togetherBy_16 ?_
    refine lv_icmp_ge (tgt := 101) hx hb dX11_togetherBy_17 (by decide) (fun c12 => ?_) (fun c12 => ?_)
    · have h := h.1 c12
      refine lv_aload_n hx hb dX11_togetherBy_101 rfl (lv_at hl 0 rfl) ?_
      refine db_getr S hw (Nat.le_of_ble_eq_true rfl) db_s90 (C := RX11) (T := TX11) (N := 19) rfl hiX11 1 (by decide) (r := 92) rfl (List.mem_of_getElem? (i := 1) rfl) dX11_togetherBy_102 ?_
      refine lv_sipush (v := (192 : Int32)) hx hb dX11_togetherBy_105 (by decide) ?_
      refine lv_iload_n hx hb dX11_togetherBy_108 rfl (lv_at hl 1 rfl) ?_
      refine lv_iadd hx hb dX11_togetherBy_109 ?_
      obtain ⟨g1, h⟩ := h
      refine db_iald S hw (Nat.le_of_ble_eq_true rfl) db_s92 g1 dX11_togetherBy_110 ?_
      refine lv_if_ne (tgt := 118) hx hb dX11_togetherBy_111 (by decide) (fun c4 => ?_) (fun c4 => ?_)
      · have h := h.2 c4
        refine lv_aload_n hx hb dX11_togetherBy_118 rfl (lv_at hl 0 rfl) ?_
        refine db_getr S hw (Nat.le_of_ble_eq_true rfl) db_s90 (C := RX11) (T := TX11) (N := 19) rfl hiX11 1 (by decide) (r := 92) rfl (List.mem_of_getElem? (i := 1) rfl) dX11_togetherBy_119 ?_
        refine lv_sipush (v := (192 : Int32)) hx hb dX11_togetherBy_122 (by decide) ?_
        refine lv_iload_n hx hb dX11_togetherBy_125 rfl (lv_at hl 1 rfl) ?_
        refine lv_iadd hx hb dX11_togetherBy_126 ?_
        obtain ⟨g2, h⟩ := h
        refine db_iald S hw (Nat.le_of_ble_eq_true rfl) db_s92 g2 dX11_togetherBy_127 ?_
        refine lv_iconst (v := (1 : Int32)) hx hb dX11_togetherBy_128 (by decide) ?_
        refine lv_icmp_ne (tgt := 136) hx hb dX11_togetherBy_129 (by decide) (fun c3 => ?_) (fun c3 => ?_)
        · have h := h.2 c3
          refine lv_iload_n hx hb dX11_togetherBy_136 rfl (lv_at hl 3 rfl) ?_
          refine lv_iload_n hx hb dX11_togetherBy_137 rfl (lv_at hl 2 rfl) ?_
          refine lv_iload_n hx hb dX11_togetherBy_138 rfl (lv_at hl 3 rfl) ?_
          refine lv_isub hx hb dX11_togetherBy_139 ?_
          refine lv_iconst (v := (2 : Int32)) hx hb dX11_togetherBy_140 (by decide) ?_
          refine lv_idiv hx hb dX11_togetherBy_141 (by decide) ?_
          refine lv_iadd hx hb dX11_togetherBy_142 ?_
          exact db_iret S hr hlocks hw h dX11_togetherBy_143
        · have h := h.1 c3
          refine lv_iload_n hx hb dX11_togetherBy_132 rfl (lv_at hl 3 rfl) ?_
          refine lv_goto (tgt := 143) hx hb dX11_togetherBy_133 (by decide) ?_
          exact db_iret S hr hlocks hw h dX11_togetherBy_143
      · have h := h.1 c4
        refine lv_iload_n hx hb dX11_togetherBy_114 rfl (lv_at hl 2 rfl) ?_
        refine lv_goto (tgt := 143) hx hb dX11_togetherBy_115 (by decide) ?_
        exact db_iret S hr hlocks hw h dX11_togetherBy_143
    · have h := h.2 c12
      refine lv_sipush (v := (198 : Int32)) hx hb dX11_togetherBy_20 (by decide) ?_
      refine lv_iconst (v := (3 : Int32)) hx hb dX11_togetherBy_23 (by decide) ?_
      refine lv_iload hx hb dX11_togetherBy_24 (lv_at hl 4 rfl) ?_
      refine lv_imul hx hb dX11_togetherBy_26 ?_
      refine lv_iadd hx hb dX11_togetherBy_27 ?_
      refine lv_istore (lv' := [(5, .int ((198 : Int32) + ((3 : Int32) * x4))), (0, .ref (db_ad E 90)), (1, .int x1), (2, .int x2), (3, .int x3), (4, .int x4)]) hx hb dX11_togetherBy_28 hl (by decide) rfl (fun ls hl => ?_)
      refine lv_aload_n hx hb dX11_togetherBy_30 rfl (lv_at hl 1 rfl) ?_
      refine lv_iload_n hx hb dX11_togetherBy_31 rfl (lv_at hl 2 rfl) ?_
      refine lv_aload_n hx hb dX11_togetherBy_32 rfl (lv_at hl 1 rfl) ?_
      refine db_getr S hw (Nat.le_of_ble_eq_true rfl) db_s90 (C := RX11) (T := TX11) (N := 19) rfl hiX11 1 (by decide) (r := 92) rfl (List.mem_of_getElem? (i := 1) rfl) dX11_togetherBy_33 ?_
      refine lv_iload hx hb dX11_togetherBy_36 (lv_at hl 0 rfl) ?_
      obtain ⟨g5, h⟩ := h
      refine db_iald S hw (Nat.le_of_ble_eq_true rfl) db_s92 g5 dX11_togetherBy_38 ?_
      refine lv_aload_n hx hb dX11_togetherBy_39 rfl (lv_at hl 1 rfl) ?_
      refine db_getr S hw (Nat.le_of_ble_eq_true rfl) db_s90 (C := RX11) (T := TX11) (N := 19) rfl hiX11 1 (by decide) (r := 92) rfl (List.mem_of_getElem? (i := 1) rfl) dX11_togetherBy_40 ?_
      refine lv_iload hx hb dX11_togetherBy_43 (lv_at hl 0 rfl) ?_
      refine lv_iconst (v := (1 : Int32)) hx hb dX11_togetherBy_45 (by decide) ?_
      refine lv_iadd hx hb dX11_togetherBy_46 ?_
      obtain ⟨g6, h⟩ := h
      refine db_iald S hw (Nat.le_of_ble_eq_true rfl) db_s92 g6 dX11_togetherBy_47 ?_
      refine db_callVi S hw (Nat.le_of_ble_eq_true rfl) db_s90 (C := RX11) (T := TX11) (N := 19) (As := [.int x1, .int (X.1 92 (((198 : Int32) + ((3 : Int32) * x4))).toNatClampNeg), .int (X.1 92 ((((198 : Int32) + ((3 : Int32) * x4)) + (1 : Int32))).toNatClampNeg)]) rfl (ct_X11_owesOf  h) gX11_togetherBy_X11_owesOf rfl ⟨rfl, rfl, Nat.le_of_ble_eq_true rfl, Nat.le_of_ble_eq_true rfl⟩ 3 rfl (by decide +kernel) hl.1 rfl (Nat.le_of_ble_eq_true rfl) dX11_togetherBy_48 ⟨Nat.zero_le _, Nat.zero_le _⟩ (fun r7 X7 H locs h hw => ?_)
      refine lv_istore (lv' := [(6, .int r7), (5, .int ((198 : Int32) + ((3 : Int32) * x4))), (0, .ref (db_ad E 90)), (1, .int x1), (2, .int x2), (3, .int x3), (4, .int x4)]) hx hb dX11_togetherBy_51 hl (by decide) rfl (fun ls hl => ?_)
      refine lv_iload hx hb dX11_togetherBy_53 (lv_at hl 0 rfl) ?_
      refine lv_if_ge (tgt := 61) hx hb dX11_togetherBy_55 (by decide) (fun c11 => ?_) (fun c11 => ?_)
      · have h := h.1 c11
        refine lv_iload hx hb dX11_togetherBy_61 (lv_at hl 0 rfl) ?_
        refine lv_iconst (v := (1 : Int32)) hx hb dX11_togetherBy_63 (by decide) ?_
        refine lv_aload_n hx hb dX11_togetherBy_64 rfl (lv_at hl 2 rfl) ?_
        refine db_getr S hw (Nat.le_of_ble_eq_true rfl) db_s90 (C := RX11) (T := TX11) (N := 19) rfl hiX11 1 (by decide) (r := 92) rfl (List.mem_of_getElem? (i := 1) rfl) dX11_togetherBy_65 ?_
        refine lv_iload hx hb dX11_togetherBy_68 (lv_at hl 1 rfl) ?_
        refine lv_iconst (v := (2 : Int32)) hx hb dX11_togetherBy_70 (by decide) ?_
        refine lv_iadd hx hb dX11_togetherBy_71 ?_
        obtain ⟨g8, h⟩ := h
        refine db_iald S hw (Nat.le_of_ble_eq_true rfl) db_s92 g8 dX11_togetherBy_72 ?_
        refine lv_iadd hx hb dX11_togetherBy_73 ?_
        refine lv_imul hx hb dX11_togetherBy_74 ?_
        refine lv_topi (fun z9 e9 => ?_)
        have h := h z9 e9
        refine lv_istore (lv' := [(6, .int z9), (5, .int ((198 : Int32) + ((3 : Int32) * x4))), (0, .ref (db_ad E 90)), (1, .int x1), (2, .int x2), (3, .int x3), (4, .int x4)]) hx hb dX11_togetherBy_75 hl (by decide) rfl (fun ls hl => ?_)
        refine lv_iload_n hx hb dX11_togetherBy_77 rfl (lv_at hl 4 rfl) ?_
        refine lv_iload hx hb dX11_togetherBy_78 (lv_at hl 0 rfl) ?_
        refine lv_iadd hx hb dX11_togetherBy_80 ?_
        refine lv_istore_n (lv' := [(2, .int (x2 + z9)), (6, .int z9), (5, .int ((198 : Int32) + ((3 : Int32) * x4))), (0, .ref (db_ad E 90)), (1, .int x1), (3, .int x3), (4, .int x4)]) hx hb dX11_togetherBy_81 rfl hl (by decide) rfl (fun ls hl => ?_)
        refine lv_iload hx hb dX11_togetherBy_82 (lv_at hl 1 rfl) ?_
        refine lv_iload_n hx hb dX11_togetherBy_84 rfl (lv_at hl 5 rfl) ?_
        refine lv_icmp_le (tgt := 93) hx hb dX11_togetherBy_85 (by decide) (fun c10 => ?_) (fun c10 => ?_)
        · have h := h.1 c10
          refine lv_iload_n hx hb dX11_togetherBy_93 rfl (lv_at hl 5 rfl) ?_
          refine lv_istore_n (lv' := [(3, .int x3), (2, .int (x2 + z9)), (6, .int z9), (5, .int ((198 : Int32) + ((3 : Int32) * x4))), (0, .ref (db_ad E 90)), (1, .int x1), (4, .int x4)]) hx hb dX11_togetherBy_94 rfl hl (by decide) rfl (fun ls hl => ?_)
          refine lv_iinc (v := (x4 + (1 : Int32))) (lv' := [(4, .int (x4 + (1 : Int32))), (3, .int x3), (2, .int (x2 + z9)), (6, .int z9), (5, .int ((198 : Int32) + ((3 : Int32) * x4))), (0, .ref (db_ad E 90)), (1, .int x1)]) hx hb dX11_togetherBy_95 hl (k := 6) rfl (congrArg (fun z_ => x4 + z_) (show Int32.ofInt (1) = (1 : Int32) by decide)) (by decide) rfl (fun ls hl => ?_)
          refine lv_goto (tgt := 7) hx hb dX11_togetherBy_98 (by decide) ?_
          exact ih _ _ _ _ _ _ _ _ h hw (lv_sub hl [5, 6, 2, 1, 0] rfl)
        · have h := h.2 c10
          refine lv_iload hx hb dX11_togetherBy_88 (lv_at hl 1 rfl) ?_
          refine lv_goto (tgt := 94) hx hb dX11_togetherBy_90 (by decide) ?_
          refine lv_istore_n (lv' := [(3, .int z9), (2, .int (x2 + z9)), (6, .int z9), (5, .int ((198 : Int32) + ((3 : Int32) * x4))), (0, .ref (db_ad E 90)), (1, .int x1), (4, .int x4)]) hx hb dX11_togetherBy_94 rfl hl (by decide) rfl (fun ls hl => ?_)
          refine lv_iinc (v := (x4 + (1 : Int32))) (lv' := [(4, .int (x4 + (1 : Int32))), (3, .int z9), (2, .int (x2 + z9)), (6, .int z9), (5, .int ((198 : Int32) + ((3 : Int32) * x4))), (0, .ref (db_ad E 90)), (1, .int x1)]) hx hb dX11_togetherBy_95 hl (k := 6) rfl (congrArg (fun z_ => x4 + z_) (show Int32.ofInt (1) = (1 : Int32) by decide)) (by decide) rfl (fun ls hl => ?_)
          refine lv_goto (tgt := 7) hx hb dX11_togetherBy_98 (by decide) ?_
          exact ih _ _ _ _ _ _ _ _ h hw (lv_sub hl [5, 6, 2, 1, 0] rfl)
      · have h := h.2 c11
        refine lv_goto (tgt := 95) hx hb dX11_togetherBy_58 (by decide) ?_
        refine lv_iinc (v := (x4 + (1 : Int32))) (lv' := [(4, .int (x4 + (1 : Int32))), (6, .int r7), (5, .int ((198 : Int32) + ((3 : Int32) * x4))), (0, .ref (db_ad E 90)), (1, .int x1), (2, .int x2), (3, .int x3)]) hx hb dX11_togetherBy_95 hl (k := 6) rfl (congrArg (fun z_ => x4 + z_) (show Int32.ofInt (1) = (1 : Int32) by decide)) (by decide) rfl (fun ls hl => ?_)
        refine lv_goto (tgt := 7) hx hb dX11_togetherBy_98 (by decide) ?_
        exact ih _ _ _ _ _ _ _ _ h hw (lv_sub hl [3, 4, 5, 6, 0] rfl)
def wp_X11_togetherBy  (X : db_St) (x1 : Int32) (Q : Int32 → db_St → Prop) : Prop := (∃ f_, wp_X11_togetherBy_7 Q f_ X x1 (0 : Int32) (0 : Int32) (0 : Int32))
set_option maxHeartbeats 4000000 in
set_option maxRecDepth 100000 in
theorem ct_X11_togetherBy {l : Launch} {E : db_E}  {X : db_St} {x1 : Int32} {Q : Int32 → db_St → Prop} (h : wp_X11_togetherBy  X x1 Q) : db_MI l E yX11_togetherBy wsX11_togetherBy rm_X11_togetherBy X [.ref (db_ad E 90), .int x1] Q := by
  intro sz
  unfold wp_X11_togetherBy at h
  refine Met.ofW (cc := cX11_togetherBy) (maxL := 7) (ret := (some .int)) (by decide) rfl ?_
  intro p e s m args below meth c s₁ B hml hv
  obtain ⟨rfl, hsz, hU⟩ := hv
  subst hsz
  have S : CallFix p m c cX11_togetherBy 7 s ([.ref (db_ad E 90), .int x1] : List Value).toArray wsX11_togetherBy RX11 := ⟨B.exec, B.bytes, hml, findClass_of_methodNamed B.named, atoms_spec (ws := wsX11_togetherBy) B.pre⟩
  have hx := S.1
  have hb := S.2.1
  have hr := B.returns
  have hlocks := B.notSynchronized
  have hw := db_start hU
  have hiX11 : ∀ w ∈ wsX110, w ∈ wsX11_togetherBy := fun w_ h_ => List.mem_cons_of_mem _ (List.mem_append_right _ h_)
  have hl := lv_entry ([.ref (db_ad E 90), .int x1]) (n := 7) (Nat.le_of_ble_eq_true rfl)
  rw [lg_entry_eq]
  generalize (lg_sl ([.ref (db_ad E 90), .int x1]) ++ List.replicate (7 - (lg_sl ([.ref (db_ad E 90), .int x1])).length) Slot.unset).toArray = ls at hl ⊢
  have hl : lv_has ls 7 [(0, .ref (db_ad E 90)), (1, .int x1)] := hl
  refine lv_iconst (v := (0 : Int32)) hx hb dX11_togetherBy_0 (by decide) ?_
  refine lv_istore_n (lv' := [(2, .int (0 : Int32)), (0, .ref (db_ad E 90)), (1, .int x1)]) hx hb dX11_togetherBy_1 rfl hl (by decide) rfl (fun ls hl => ?_)
  refine lv_iconst (v := (0 : Int32)) hx hb dX11_togetherBy_2 (by decide) ?_
  refine lv_istore_n (lv' := [(3, .int (0 : Int32)), (2, .int (0 : Int32)), (0, .ref (db_ad E 90)), (1, .int x1)]) hx hb dX11_togetherBy_3 rfl hl (by decide) rfl (fun ls hl => ?_)
  refine lv_iconst (v := (0 : Int32)) hx hb dX11_togetherBy_4 (by decide) ?_
  refine lv_istore (lv' := [(4, .int (0 : Int32)), (3, .int (0 : Int32)), (2, .int (0 : Int32)), (0, .ref (db_ad E 90)), (1, .int x1)]) hx hb dX11_togetherBy_5 hl (by decide) rfl (fun ls hl => ?_)
  obtain ⟨f_, h⟩ := h
  exact tw_X11_togetherBy_7 S hr hlocks   f_ _ _ _ _ _ _ _ _ h hw (lv_sub hl [3, 4, 2, 1, 0] rfl)
-- DaysOnBreadModel.together(I)I
abbrev rm_X11_together : Room := { frames := 4, cells := 0, slots := 0, locals := 99 }
def wp_X11_together  (X : db_St) (x1 : Int32) (Q : Int32 → db_St → Prop) : Prop := wp_X11_isBook X x1 (fun r1 X1 => ((r1 = 0 → wp_X11_refuse X1 (-1 : Int32) (fun r2 X2 => Q r2 X2)) ∧ (¬ (r1 = 0) → wp_X11_togetherBy X1 x1 (fun r3 X3 => Q r3 X3))))
set_option maxHeartbeats 4000000 in
set_option maxRecDepth 100000 in
theorem ct_X11_together {l : Launch} {E : db_E}  {X : db_St} {x1 : Int32} {Q : Int32 → db_St → Prop} (h : wp_X11_together  X x1 Q) : db_MI l E yX11_together wsX11_together rm_X11_together X [.ref (db_ad E 90), .int x1] Q := by
  intro sz
  unfold wp_X11_together at h
  refine Met.ofW (cc := cX11_together) (maxL := 2) (ret := (some .int)) (by decide) rfl ?_
  intro p e s m args below meth c s₁ B hml hv
  obtain ⟨rfl, hsz, hU⟩ := hv
  subst hsz
  have S : CallFix p m c cX11_together 2 s ([.ref (db_ad E 90), .int x1] : List Value).toArray wsX11_together RX11 := ⟨B.exec, B.bytes, hml, findClass_of_methodNamed B.named, atoms_spec (ws := wsX11_together) B.pre⟩
  have hx := S.1
  have hb := S.2.1
  have hr := B.returns
  have hlocks := B.notSynchronized
  have hw := db_start hU
  have hl := lv_entry ([.ref (db_ad E 90), .int x1]) (n := 2) (Nat.le_of_ble_eq_true rfl)
  rw [lg_entry_eq]
  generalize (lg_sl ([.ref (db_ad E 90), .int x1]) ++ List.replicate (2 - (lg_sl ([.ref (db_ad E 90), .int x1])).length) Slot.unset).toArray = ls at hl ⊢
  have hl : lv_has ls 2 [(0, .ref (db_ad E 90)), (1, .int x1)] := hl
  refine lv_iload_n hx hb dX11_together_0 rfl (lv_at hl 1 rfl) ?_
  refine db_callSi S hw (As := [.int x1]) (ct_X11_isBook  h) gX11_together_X11_isBook rfl ⟨rfl, rfl, Nat.le_of_ble_eq_true rfl, Nat.le_of_ble_eq_true rfl⟩ 1 rfl (by decide +kernel) hl.1 rfl (Nat.le_of_ble_eq_true rfl) dX11_together_1 ⟨Nat.zero_le _, Nat.zero_le _⟩ (fun r1 X1 H locs h hw => ?_)
  refine lv_if_eq (tgt := 15) hx hb dX11_together_4 (by decide) (fun c4 => ?_) (fun c4 => ?_)
  · have h := h.1 c4
    refine lv_aload_n hx hb dX11_together_15 rfl (lv_at hl 0 rfl) ?_
    refine lv_iconst (v := (-1 : Int32)) hx hb dX11_together_16 (by decide) ?_
    refine db_callVi S hw (Nat.le_of_ble_eq_true rfl) db_s90 (C := RX11) (T := TX11) (N := 19) (As := [.int (-1 : Int32)]) rfl (ct_X11_refuse  h) gX11_together_X11_refuse rfl ⟨rfl, rfl, Nat.le_of_ble_eq_true rfl, Nat.le_of_ble_eq_true rfl⟩ 1 rfl (by decide +kernel) hl.1 rfl (Nat.le_of_ble_eq_true rfl) dX11_together_17 ⟨Nat.zero_le _, Nat.zero_le _⟩ (fun r2 X2 H locs h hw => ?_)
    exact db_iret S hr hlocks hw h dX11_together_20
  · have h := h.2 c4
    refine lv_aload_n hx hb dX11_together_7 rfl (lv_at hl 0 rfl) ?_
    refine lv_iload_n hx hb dX11_together_8 rfl (lv_at hl 1 rfl) ?_
    refine db_callVi S hw (Nat.le_of_ble_eq_true rfl) db_s90 (C := RX11) (T := TX11) (N := 19) (As := [.int x1]) rfl (ct_X11_togetherBy  h) gX11_together_X11_togetherBy rfl ⟨rfl, rfl, Nat.le_of_ble_eq_true rfl, Nat.le_of_ble_eq_true rfl⟩ 1 rfl (by decide +kernel) hl.1 rfl (Nat.le_of_ble_eq_true rfl) dX11_together_9 ⟨Nat.zero_le _, Nat.zero_le _⟩ (fun r3 X3 H locs h hw => ?_)
    refine lv_goto (tgt := 20) hx hb dX11_together_12 (by decide) ?_
    exact db_iret S hr hlocks hw h dX11_together_20
-- DaysOnBreadModel.pay(II)I
abbrev rm_X11_pay : Room := { frames := 0, cells := 0, slots := 0, locals := 0 }
def wp_X11_pay  (X : db_St) (x1 : Int32) (x2 : Int32) (Q : Int32 → db_St → Prop) : Prop := (vp_in (((234 : Int32) + ((4 : Int32) * x1)) + x2) 310 ∧ Q (X.1 92 ((((234 : Int32) + ((4 : Int32) * x1)) + x2)).toNatClampNeg) X)
set_option maxHeartbeats 4000000 in
set_option maxRecDepth 100000 in
theorem ct_X11_pay {l : Launch} {E : db_E}  {X : db_St} {x1 : Int32} {x2 : Int32} {Q : Int32 → db_St → Prop} (h : wp_X11_pay  X x1 x2 Q) : db_MI l E yX11_pay wsX11_pay rm_X11_pay X [.ref (db_ad E 90), .int x1, .int x2] Q := by
  intro sz
  unfold wp_X11_pay at h
  refine Met.ofW (cc := cX11_pay) (maxL := 3) (ret := (some .int)) (by decide) rfl ?_
  intro p e s m args below meth c s₁ B hml hv
  obtain ⟨rfl, hsz, hU⟩ := hv
  subst hsz
  have S : CallFix p m c cX11_pay 3 s ([.ref (db_ad E 90), .int x1, .int x2] : List Value).toArray wsX11_pay RX11 := ⟨B.exec, B.bytes, hml, findClass_of_methodNamed B.named, atoms_spec (ws := wsX11_pay) B.pre⟩
  have hx := S.1
  have hb := S.2.1
  have hr := B.returns
  have hlocks := B.notSynchronized
  have hw := db_start hU
  have hiX11 : ∀ w ∈ wsX110, w ∈ wsX11_pay := fun w_ h_ => List.mem_cons_of_mem _ (List.mem_append_right _ h_)
  have hl := lv_entry ([.ref (db_ad E 90), .int x1, .int x2]) (n := 3) (Nat.le_of_ble_eq_true rfl)
  rw [lg_entry_eq]
  generalize (lg_sl ([.ref (db_ad E 90), .int x1, .int x2]) ++ List.replicate (3 - (lg_sl ([.ref (db_ad E 90), .int x1, .int x2])).length) Slot.unset).toArray = ls at hl ⊢
  have hl : lv_has ls 3 [(0, .ref (db_ad E 90)), (1, .int x1), (2, .int x2)] := hl
  refine lv_aload_n hx hb dX11_pay_0 rfl (lv_at hl 0 rfl) ?_
  refine db_getr S hw (Nat.le_of_ble_eq_true rfl) db_s90 (C := RX11) (T := TX11) (N := 19) rfl hiX11 1 (by decide) (r := 92) rfl (List.mem_of_getElem? (i := 1) rfl) dX11_pay_1 ?_
  refine lv_sipush (v := (234 : Int32)) hx hb dX11_pay_4 (by decide) ?_
  refine lv_iconst (v := (4 : Int32)) hx hb dX11_pay_7 (by decide) ?_
  refine lv_iload_n hx hb dX11_pay_8 rfl (lv_at hl 1 rfl) ?_
  refine lv_imul hx hb dX11_pay_9 ?_
  refine lv_iadd hx hb dX11_pay_10 ?_
  refine lv_iload_n hx hb dX11_pay_11 rfl (lv_at hl 2 rfl) ?_
  refine lv_iadd hx hb dX11_pay_12 ?_
  obtain ⟨g1, h⟩ := h
  refine db_iald S hw (Nat.le_of_ble_eq_true rfl) db_s92 g1 dX11_pay_13 ?_
  exact db_iret S hr hlocks hw h dX11_pay_14
-- DaysOnBreadModel.paying(III)I
abbrev rm_X11_paying : Room := { frames := 1, cells := 0, slots := 0, locals := 22 }
def wp_X11_paying_55 (Q : Int32 → db_St → Prop) (X : db_St) (x1 : Int32) (x2 : Int32) (x3 : Int32) (y0 : Int32) (y1 : Int32) (y2 : Int32) : Prop := wp_X11_within X y0 y1 y2 (fun r1 X1 => ((r1 = 0 → wp_X11_pay X1 x1 x2 (fun r2 X2 => (vp_in (((234 : Int32) + ((4 : Int32) * x1)) + x2) 310 ∧ (∀ X4, X4 = (db_si X2 92 ((((234 : Int32) + ((4 : Int32) * x1)) + x2)).toNatClampNeg x3) → Q r2 X4)))) ∧ (¬ (r1 = 0) → wp_X11_refuse X1 r1 (fun r5 X5 => Q r5 X5))))
set_option maxHeartbeats 4000000 in
set_option maxRecDepth 100000 in
theorem tw_X11_paying_55 {p : Program} {l : Launch} {e : Env} {s : State} {m : MethodId} {args : Array Value} {below : List Frame} {meth : Method} {c : Code} {E : db_E} (S : CallFix p m c cX11_paying 6 s args wsX11_paying RX11) (hr : meth.sig.returnType = (some .int)) (hlocks : meth.locks = false)  {Q : Int32 → db_St → Prop} : ∀ (X : db_St) (x1 : Int32) (x2 : Int32) (x3 : Int32) (y0 : Int32) (y1 : Int32) (y2 : Int32) (H : Heap) (locs : List Loc) (ls : Array Slot), wp_X11_paying_55 Q X x1 x2 x3 y0 y1 y2 → db_HW E (db_Aw E s.heap.size) s X H locs → lv_has ls 6 [(0, .ref (db_ad E 90)), (1, .int x1), (2, .int x2), (3, .int x3)] → W p l e rm_X11_paying s m args below meth c H locs 0 0 (MQ below (va_Qi Q (db_Po E) (db_Aw E s.heap.size)) args s 0 0 (db_Aw E s.heap.size)) (F0 m 55 ls [.int y2, .int y1, .int y0]) := by
  have hx := S.1
  have hb := S.2.1
  have hiX11 : ∀ w ∈ wsX110, w ∈ wsX11_paying := fun w_ h_ => List.mem_cons_of_mem _ (List.mem_append_right _ h_)
  intro X x1 x2 x3 y0 y1 y2 H locs ls h hw hl
  unfold wp_X11_paying_55 at h
  refine db_callSi S hw (As := [.int y0, .int y1, .int y2]) (ct_X11_within  h) gX11_paying_X11_within rfl ⟨rfl, rfl, Nat.le_of_ble_eq_true rfl, Nat.le_of_ble_eq_true rfl⟩ 3 rfl (by decide +kernel) hl.1 rfl (Nat.le_of_ble_eq_true rfl) dX11_paying_55 ⟨Nat.zero_le _, Nat.zero_le _⟩ (fun r1 X1 H locs h hw => ?_)
  refine lv_istore (lv' := [(4, .int r1), (0, .ref (db_ad E 90)), (1, .int x1), (2, .int x2), (3, .int x3)]) hx hb dX11_paying_58 hl (by decide) rfl (fun ls hl => ?_)
  refine lv_iload hx hb dX11_paying_60 (lv_at hl 0 rfl) ?_
  refine lv_if_eq (tgt := 72) hx hb dX11_paying_62 (by decide) (fun c6 => ?_) (fun c6 => ?_)
  · have h := h.1 c6
    refine lv_aload_n hx hb dX11_paying_72 rfl (lv_at hl 1 rfl) ?_
    refine lv_iload_n hx hb dX11_paying_73 rfl (lv_at hl 2 rfl) ?_
    refine lv_iload_n hx hb dX11_paying_74 rfl (lv_at hl 3 rfl) ?_
    refine db_callVi S hw (Nat.le_of_ble_eq_true rfl) db_s90 (C := RX11) (T := TX11) (N := 19) (As := [.int x1, .int x2]) rfl (ct_X11_pay  h) gX11_paying_X11_pay rfl ⟨rfl, rfl, Nat.le_of_ble_eq_true rfl, Nat.le_of_ble_eq_true rfl⟩ 2 rfl (by decide +kernel) hl.1 rfl (Nat.le_of_ble_eq_true rfl) dX11_paying_75 ⟨Nat.zero_le _, Nat.zero_le _⟩ (fun r2 X2 H locs h hw => ?_)
    refine lv_istore (lv' := [(5, .int r2), (4, .int r1), (0, .ref (db_ad E 90)), (1, .int x1), (2, .int x2), (3, .int x3)]) hx hb dX11_paying_78 hl (by decide) rfl (fun ls hl => ?_)
    refine lv_aload_n hx hb dX11_paying_80 rfl (lv_at hl 2 rfl) ?_
    refine db_getr S hw (Nat.le_of_ble_eq_true rfl) db_s90 (C := RX11) (T := TX11) (N := 19) rfl hiX11 1 (by decide) (r := 92) rfl (List.mem_of_getElem? (i := 1) rfl) dX11_paying_81 ?_
    refine lv_sipush (v := (234 : Int32)) hx hb dX11_paying_84 (by decide) ?_
    refine lv_iconst (v := (4 : Int32)) hx hb dX11_paying_87 (by decide) ?_
    refine lv_iload_n hx hb dX11_paying_88 rfl (lv_at hl 3 rfl) ?_
    refine lv_imul hx hb dX11_paying_89 ?_
    refine lv_iadd hx hb dX11_paying_90 ?_
    refine lv_iload_n hx hb dX11_paying_91 rfl (lv_at hl 4 rfl) ?_
    refine lv_iadd hx hb dX11_paying_92 ?_
    refine lv_iload_n hx hb dX11_paying_93 rfl (lv_at hl 5 rfl) ?_
    obtain ⟨g3, h⟩ := h
    refine db_iast S hw (Nat.le_of_ble_eq_true rfl) db_s92 g3 dX11_paying_94 (fun H locs hw => ?_)
    obtain ⟨X4, e4, hw⟩ : ∃ Z_, Z_ = (db_si X2 92 ((((234 : Int32) + ((4 : Int32) * x1)) + x2)).toNatClampNeg x3) ∧ db_HW E (db_Aw E s.heap.size) s Z_ H locs := ⟨_, rfl, hw⟩
    have h := h X4 e4
    refine lv_iload hx hb dX11_paying_95 (lv_at hl 0 rfl) ?_
    exact db_iret S hr hlocks hw h dX11_paying_97
  · have h := h.2 c6
    refine lv_aload_n hx hb dX11_paying_65 rfl (lv_at hl 1 rfl) ?_
    refine lv_iload hx hb dX11_paying_66 (lv_at hl 0 rfl) ?_
    refine db_callVi S hw (Nat.le_of_ble_eq_true rfl) db_s90 (C := RX11) (T := TX11) (N := 19) (As := [.int r1]) rfl (ct_X11_refuse  h) gX11_paying_X11_refuse rfl ⟨rfl, rfl, Nat.le_of_ble_eq_true rfl, Nat.le_of_ble_eq_true rfl⟩ 1 rfl (by decide +kernel) hl.1 rfl (Nat.le_of_ble_eq_true rfl) dX11_paying_68 ⟨Nat.zero_le _, Nat.zero_le _⟩ (fun r5 X5 H locs h hw => ?_)
    exact db_iret S hr hlocks hw h dX11_paying_71
def wp_X11_paying  (X : db_St) (x1 : Int32) (x2 : Int32) (x3 : Int32) (Q : Int32 → db_St → Prop) : Prop := wp_X11_isIn X x1 (6 : Int32) (fun r1 X1 => ((r1 = 0 → wp_X11_refuse X1 (-1 : Int32) (fun r7 X7 => Q r7 X7)) ∧ (¬ r1 = 0 → wp_X11_isIn X1 x2 (4 : Int32) (fun r2 X2 => ((r2 = 0 → wp_X11_refuse X2 (-2 : Int32) (fun r5 X5 => Q r5 X5)) ∧ (¬ r2 = 0 → (((2 : Int32) ≤ x2 → ((x2 = (2 : Int32) → wp_X11_paying_55 Q X2 x1 x2 x3 x3 (0 : Int32) (9 : Int32)) ∧ (¬ x2 = (2 : Int32) → wp_X11_paying_55 Q X2 x1 x2 x3 x3 (0 : Int32) (999 : Int32)))) ∧ (¬ ((2 : Int32) ≤ x2) → wp_X11_paying_55 Q X2 x1 x2 x3 x3 (0 : Int32) (99 : Int32)))))))))
set_option maxHeartbeats 4000000 in
set_option maxRecDepth 100000 in
theorem ct_X11_paying {l : Launch} {E : db_E}  {X : db_St} {x1 : Int32} {x2 : Int32} {x3 : Int32} {Q : Int32 → db_St → Prop} (h : wp_X11_paying  X x1 x2 x3 Q) : db_MI l E yX11_paying wsX11_paying rm_X11_paying X [.ref (db_ad E 90), .int x1, .int x2, .int x3] Q := by
  intro sz
  unfold wp_X11_paying at h
  refine Met.ofW (cc := cX11_paying) (maxL := 6) (ret := (some .int)) (by decide) rfl ?_
  intro p e s m args below meth c s₁ B hml hv
  obtain ⟨rfl, hsz, hU⟩ := hv
  subst hsz
  have S : CallFix p m c cX11_paying 6 s ([.ref (db_ad E 90), .int x1, .int x2, .int x3] : List Value).toArray wsX11_paying RX11 := ⟨B.exec, B.bytes, hml, findClass_of_methodNamed B.named, atoms_spec (ws := wsX11_paying) B.pre⟩
  have hx := S.1
  have hb := S.2.1
  have hr := B.returns
  have hlocks := B.notSynchronized
  have hw := db_start hU
  have hiX11 : ∀ w ∈ wsX110, w ∈ wsX11_paying := fun w_ h_ => List.mem_cons_of_mem _ (List.mem_append_right _ h_)
  have hl := lv_entry ([.ref (db_ad E 90), .int x1, .int x2, .int x3]) (n := 6) (Nat.le_of_ble_eq_true rfl)
  rw [lg_entry_eq]
  generalize (lg_sl ([.ref (db_ad E 90), .int x1, .int x2, .int x3]) ++ List.replicate (6 - (lg_sl ([.ref (db_ad E 90), .int x1, .int x2, .int x3])).length) Slot.unset).toArray = ls at hl ⊢
  have hl : lv_has ls 6 [(0, .ref (db_ad E 90)), (1, .int x1), (2, .int x2), (3, .int x3)] := hl
  refine lv_iload_n hx hb dX11_paying_0 rfl (lv_at hl 1 rfl) ?_
  refine lv_bipush (v := (6 : Int32)) hx hb dX11_paying_1 (by decide) ?_
  refine db_callSi S hw (As := [.int x1, .int (6 : Int32)]) (ct_X11_isIn  h) gX11_paying_X11_isIn rfl ⟨rfl, rfl, Nat.le_of_ble_eq_true rfl, Nat.le_of_ble_eq_true rfl⟩ 2 rfl (by decide +kernel) hl.1 rfl (Nat.le_of_ble_eq_true rfl) dX11_paying_3 ⟨Nat.zero_le _, Nat.zero_le _⟩ (fun r1 X1 H locs h hw => ?_)
  refine lv_if_ne (tgt := 15) hx hb dX11_paying_6 (by decide) (fun c8 => ?_) (fun c8 => ?_)
  · have h := h.2 c8
    refine lv_iload_n hx hb dX11_paying_15 rfl (lv_at hl 2 rfl) ?_
    refine lv_iconst (v := (4 : Int32)) hx hb dX11_paying_16 (by decide) ?_
    refine db_callSi S hw (As := [.int x2, .int (4 : Int32)]) (ct_X11_isIn  h) gX11_paying_X11_isIn rfl ⟨rfl, rfl, Nat.le_of_ble_eq_true rfl, Nat.le_of_ble_eq_true rfl⟩ 2 rfl (by decide +kernel) hl.1 rfl (Nat.le_of_ble_eq_true rfl) dX11_paying_17 ⟨Nat.zero_le _, Nat.zero_le _⟩ (fun r2 X2 H locs h hw => ?_)
    refine lv_if_ne (tgt := 30) hx hb dX11_paying_20 (by decide) (fun c6 => ?_) (fun c6 => ?_)
    · have h := h.2 c6
      refine lv_iload_n hx hb dX11_paying_30 rfl (lv_at hl 3 rfl) ?_
      refine lv_iconst (v := (0 : Int32)) hx hb dX11_paying_31 (by decide) ?_
      refine lv_iload_n hx hb dX11_paying_32 rfl (lv_at hl 2 rfl) ?_
      refine lv_iconst (v := (2 : Int32)) hx hb dX11_paying_33 (by decide) ?_
      refine lv_icmp_ge (tgt := 42) hx hb dX11_paying_34 (by decide) (fun c4 => ?_) (fun c4 => ?_)
      · have h := h.1 c4
        refine lv_iload_n hx hb dX11_paying_42 rfl (lv_at hl 2 rfl) ?_
        refine lv_iconst (v := (2 : Int32)) hx hb dX11_paying_43 (by decide) ?_
        refine lv_icmp_ne (tgt := 52) hx hb dX11_paying_44 (by decide) (fun c3 => ?_) (fun c3 => ?_)
        · have h := h.2 c3
          refine lv_sipush (v := (999 : Int32)) hx hb dX11_paying_52 (by decide) ?_
          exact tw_X11_paying_55 S hr hlocks   _ _ _ _ _ _ _ _ _ _ h hw (lv_sub hl [0, 1, 2, 3] rfl)
        · have h := h.1 c3
          refine lv_bipush (v := (9 : Int32)) hx hb dX11_paying_47 (by decide) ?_
          refine lv_goto (tgt := 55) hx hb dX11_paying_49 (by decide) ?_
          exact tw_X11_paying_55 S hr hlocks   _ _ _ _ _ _ _ _ _ _ h hw (lv_sub hl [0, 1, 2, 3] rfl)
      · have h := h.2 c4
        refine lv_bipush (v := (99 : Int32)) hx hb dX11_paying_37 (by decide) ?_
        refine lv_goto (tgt := 55) hx hb dX11_paying_39 (by decide) ?_
        exact tw_X11_paying_55 S hr hlocks   _ _ _ _ _ _ _ _ _ _ h hw (lv_sub hl [0, 1, 2, 3] rfl)
    · have h := h.1 c6
      refine lv_aload_n hx hb dX11_paying_23 rfl (lv_at hl 0 rfl) ?_
      refine lv_bipush (v := (-2 : Int32)) hx hb dX11_paying_24 (by decide) ?_
      refine db_callVi S hw (Nat.le_of_ble_eq_true rfl) db_s90 (C := RX11) (T := TX11) (N := 19) (As := [.int (-2 : Int32)]) rfl (ct_X11_refuse  h) gX11_paying_X11_refuse rfl ⟨rfl, rfl, Nat.le_of_ble_eq_true rfl, Nat.le_of_ble_eq_true rfl⟩ 1 rfl (by decide +kernel) hl.1 rfl (Nat.le_of_ble_eq_true rfl) dX11_paying_26 ⟨Nat.zero_le _, Nat.zero_le _⟩ (fun r5 X5 H locs h hw => ?_)
      exact db_iret S hr hlocks hw h dX11_paying_29
  · have h := h.1 c8
    refine lv_aload_n hx hb dX11_paying_9 rfl (lv_at hl 0 rfl) ?_
    refine lv_iconst (v := (-1 : Int32)) hx hb dX11_paying_10 (by decide) ?_
    refine db_callVi S hw (Nat.le_of_ble_eq_true rfl) db_s90 (C := RX11) (T := TX11) (N := 19) (As := [.int (-1 : Int32)]) rfl (ct_X11_refuse  h) gX11_paying_X11_refuse rfl ⟨rfl, rfl, Nat.le_of_ble_eq_true rfl, Nat.le_of_ble_eq_true rfl⟩ 1 rfl (by decide +kernel) hl.1 rfl (Nat.le_of_ble_eq_true rfl) dX11_paying_11 ⟨Nat.zero_le _, Nat.zero_le _⟩ (fun r7 X7 H locs h hw => ?_)
    exact db_iret S hr hlocks hw h dX11_paying_14
-- DaysOnBreadModel.feasts(I)I
abbrev rm_X11_feasts : Room := { frames := 1, cells := 0, slots := 0, locals := 22 }
def wp_X11_feasts  (X : db_St) (x1 : Int32) (Q : Int32 → db_St → Prop) : Prop := wp_X11_within X x1 (0 : Int32) (268435455 : Int32) (fun r1 X1 => ((r1 = 0 → (∀ X2, X2 = (db_si X1 92 ((308 : Int32)).toNatClampNeg x1) → wp_X11_bits X2 x1 (fun r3 X3 => Q r3 X3))) ∧ (¬ (r1 = 0) → wp_X11_refuse X1 r1 (fun r4 X4 => Q r4 X4))))
set_option maxHeartbeats 4000000 in
set_option maxRecDepth 100000 in
theorem ct_X11_feasts {l : Launch} {E : db_E}  {X : db_St} {x1 : Int32} {Q : Int32 → db_St → Prop} (h : wp_X11_feasts  X x1 Q) : db_MI l E yX11_feasts wsX11_feasts rm_X11_feasts X [.ref (db_ad E 90), .int x1] Q := by
  intro sz
  unfold wp_X11_feasts at h
  refine Met.ofW (cc := cX11_feasts) (maxL := 3) (ret := (some .int)) (by decide) rfl ?_
  intro p e s m args below meth c s₁ B hml hv
  obtain ⟨rfl, hsz, hU⟩ := hv
  subst hsz
  have S : CallFix p m c cX11_feasts 3 s ([.ref (db_ad E 90), .int x1] : List Value).toArray wsX11_feasts RX11 := ⟨B.exec, B.bytes, hml, findClass_of_methodNamed B.named, atoms_spec (ws := wsX11_feasts) B.pre⟩
  have hx := S.1
  have hb := S.2.1
  have hr := B.returns
  have hlocks := B.notSynchronized
  have hw := db_start hU
  have hiX11 : ∀ w ∈ wsX110, w ∈ wsX11_feasts := fun w_ h_ => List.mem_cons_of_mem _ (List.mem_append_right _ h_)
  have hl := lv_entry ([.ref (db_ad E 90), .int x1]) (n := 3) (Nat.le_of_ble_eq_true rfl)
  rw [lg_entry_eq]
  generalize (lg_sl ([.ref (db_ad E 90), .int x1]) ++ List.replicate (3 - (lg_sl ([.ref (db_ad E 90), .int x1])).length) Slot.unset).toArray = ls at hl ⊢
  have hl : lv_has ls 3 [(0, .ref (db_ad E 90)), (1, .int x1)] := hl
  refine lv_iload_n hx hb dX11_feasts_0 rfl (lv_at hl 1 rfl) ?_
  refine lv_iconst (v := (0 : Int32)) hx hb dX11_feasts_1 (by decide) ?_
  refine lv_ldc (v := (268435455 : Int32)) hx hb S.2.2.2.1 (S.2.2.2.2 _ (List.mem_of_getElem? (i := 1) rfl)) dX11_feasts_2 ?_
  refine db_callSi S hw (As := [.int x1, .int (0 : Int32), .int (268435455 : Int32)]) (ct_X11_within  h) gX11_feasts_X11_within rfl ⟨rfl, rfl, Nat.le_of_ble_eq_true rfl, Nat.le_of_ble_eq_true rfl⟩ 3 rfl (by decide +kernel) hl.1 rfl (Nat.le_of_ble_eq_true rfl) dX11_feasts_4 ⟨Nat.zero_le _, Nat.zero_le _⟩ (fun r1 X1 H locs h hw => ?_)
  refine lv_istore_n (lv' := [(2, .int r1), (0, .ref (db_ad E 90)), (1, .int x1)]) hx hb dX11_feasts_7 rfl hl (by decide) rfl (fun ls hl => ?_)
  refine lv_iload_n hx hb dX11_feasts_8 rfl (lv_at hl 0 rfl) ?_
  refine lv_if_eq (tgt := 18) hx hb dX11_feasts_9 (by decide) (fun c5 => ?_) (fun c5 => ?_)
  · have h := h.1 c5
    refine lv_aload_n hx hb dX11_feasts_18 rfl (lv_at hl 1 rfl) ?_
    refine db_getr S hw (Nat.le_of_ble_eq_true rfl) db_s90 (C := RX11) (T := TX11) (N := 19) rfl hiX11 1 (by decide) (r := 92) rfl (List.mem_of_getElem? (i := 2) rfl) dX11_feasts_19 ?_
    refine lv_sipush (v := (308 : Int32)) hx hb dX11_feasts_22 (by decide) ?_
    refine lv_iload_n hx hb dX11_feasts_25 rfl (lv_at hl 2 rfl) ?_
    refine db_iast S hw (Nat.le_of_ble_eq_true rfl) db_s92 (show ¬ ((308 : Int32) < 0 ∨ 310 ≤ ((308 : Int32) : Int32).toNatClampNeg) by decide) dX11_feasts_26 (fun H locs hw => ?_)
    obtain ⟨X2, e2, hw⟩ : ∃ Z_, Z_ = (db_si X1 92 ((308 : Int32)).toNatClampNeg x1) ∧ db_HW E (db_Aw E s.heap.size) s Z_ H locs := ⟨_, rfl, hw⟩
    have h := h X2 e2
    refine lv_iload_n hx hb dX11_feasts_27 rfl (lv_at hl 2 rfl) ?_
    refine db_callSi S hw (As := [.int x1]) (ct_X11_bits  h) gX11_feasts_X11_bits rfl ⟨rfl, rfl, Nat.le_of_ble_eq_true rfl, Nat.le_of_ble_eq_true rfl⟩ 1 rfl (by decide +kernel) hl.1 rfl (Nat.le_of_ble_eq_true rfl) dX11_feasts_28 ⟨Nat.zero_le _, Nat.zero_le _⟩ (fun r3 X3 H locs h hw => ?_)
    exact db_iret S hr hlocks hw h dX11_feasts_31
  · have h := h.2 c5
    refine lv_aload_n hx hb dX11_feasts_12 rfl (lv_at hl 1 rfl) ?_
    refine lv_iload_n hx hb dX11_feasts_13 rfl (lv_at hl 0 rfl) ?_
    refine db_callVi S hw (Nat.le_of_ble_eq_true rfl) db_s90 (C := RX11) (T := TX11) (N := 19) (As := [.int r1]) rfl (ct_X11_refuse  h) gX11_feasts_X11_refuse rfl ⟨rfl, rfl, Nat.le_of_ble_eq_true rfl, Nat.le_of_ble_eq_true rfl⟩ 1 rfl (by decide +kernel) hl.1 rfl (Nat.le_of_ble_eq_true rfl) dX11_feasts_14 ⟨Nat.zero_le _, Nat.zero_le _⟩ (fun r4 X4 H locs h hw => ?_)
    exact db_iret S hr hlocks hw h dX11_feasts_17
-- DaysOnBreadModel.friends(I)I
abbrev rm_X11_friends : Room := { frames := 1, cells := 0, slots := 0, locals := 22 }
def wp_X11_friends  (X : db_St) (x1 : Int32) (Q : Int32 → db_St → Prop) : Prop := wp_X11_within X x1 (0 : Int32) (99 : Int32) (fun r1 X1 => ((r1 = 0 → (∀ X2, X2 = (db_si X1 92 ((309 : Int32)).toNatClampNeg x1) → Q (X1.1 92 ((309 : Int32)).toNatClampNeg) X2)) ∧ (¬ (r1 = 0) → wp_X11_refuse X1 r1 (fun r3 X3 => Q r3 X3))))
set_option maxHeartbeats 4000000 in
set_option maxRecDepth 100000 in
theorem ct_X11_friends {l : Launch} {E : db_E}  {X : db_St} {x1 : Int32} {Q : Int32 → db_St → Prop} (h : wp_X11_friends  X x1 Q) : db_MI l E yX11_friends wsX11_friends rm_X11_friends X [.ref (db_ad E 90), .int x1] Q := by
  intro sz
  unfold wp_X11_friends at h
  refine Met.ofW (cc := cX11_friends) (maxL := 4) (ret := (some .int)) (by decide) rfl ?_
  intro p e s m args below meth c s₁ B hml hv
  obtain ⟨rfl, hsz, hU⟩ := hv
  subst hsz
  have S : CallFix p m c cX11_friends 4 s ([.ref (db_ad E 90), .int x1] : List Value).toArray wsX11_friends RX11 := ⟨B.exec, B.bytes, hml, findClass_of_methodNamed B.named, atoms_spec (ws := wsX11_friends) B.pre⟩
  have hx := S.1
  have hb := S.2.1
  have hr := B.returns
  have hlocks := B.notSynchronized
  have hw := db_start hU
  have hiX11 : ∀ w ∈ wsX110, w ∈ wsX11_friends := fun w_ h_ => List.mem_cons_of_mem _ (List.mem_append_right _ h_)
  have hl := lv_entry ([.ref (db_ad E 90), .int x1]) (n := 4) (Nat.le_of_ble_eq_true rfl)
  rw [lg_entry_eq]
  generalize (lg_sl ([.ref (db_ad E 90), .int x1]) ++ List.replicate (4 - (lg_sl ([.ref (db_ad E 90), .int x1])).length) Slot.unset).toArray = ls at hl ⊢
  have hl : lv_has ls 4 [(0, .ref (db_ad E 90)), (1, .int x1)] := hl
  refine lv_iload_n hx hb dX11_friends_0 rfl (lv_at hl 1 rfl) ?_
  refine lv_iconst (v := (0 : Int32)) hx hb dX11_friends_1 (by decide) ?_
  refine lv_bipush (v := (99 : Int32)) hx hb dX11_friends_2 (by decide) ?_
  refine db_callSi S hw (As := [.int x1, .int (0 : Int32), .int (99 : Int32)]) (ct_X11_within  h) gX11_friends_X11_within rfl ⟨rfl, rfl, Nat.le_of_ble_eq_true rfl, Nat.le_of_ble_eq_true rfl⟩ 3 rfl (by decide +kernel) hl.1 rfl (Nat.le_of_ble_eq_true rfl) dX11_friends_4 ⟨Nat.zero_le _, Nat.zero_le _⟩ (fun r1 X1 H locs h hw => ?_)
  refine lv_istore_n (lv' := [(2, .int r1), (0, .ref (db_ad E 90)), (1, .int x1)]) hx hb dX11_friends_7 rfl hl (by decide) rfl (fun ls hl => ?_)
  refine lv_iload_n hx hb dX11_friends_8 rfl (lv_at hl 0 rfl) ?_
  refine lv_if_eq (tgt := 18) hx hb dX11_friends_9 (by decide) (fun c4 => ?_) (fun c4 => ?_)
  · have h := h.1 c4
    refine lv_aload_n hx hb dX11_friends_18 rfl (lv_at hl 1 rfl) ?_
    refine db_getr S hw (Nat.le_of_ble_eq_true rfl) db_s90 (C := RX11) (T := TX11) (N := 19) rfl hiX11 1 (by decide) (r := 92) rfl (List.mem_of_getElem? (i := 1) rfl) dX11_friends_19 ?_
    refine lv_sipush (v := (309 : Int32)) hx hb dX11_friends_22 (by decide) ?_
    refine db_iald S hw (Nat.le_of_ble_eq_true rfl) db_s92 (show ¬ ((309 : Int32) < 0 ∨ 310 ≤ ((309 : Int32) : Int32).toNatClampNeg) by decide) dX11_friends_25 ?_
    refine lv_istore_n (lv' := [(3, .int (X1.1 92 ((309 : Int32)).toNatClampNeg)), (2, .int r1), (0, .ref (db_ad E 90)), (1, .int x1)]) hx hb dX11_friends_26 rfl hl (by decide) rfl (fun ls hl => ?_)
    refine lv_aload_n hx hb dX11_friends_27 rfl (lv_at hl 2 rfl) ?_
    refine db_getr S hw (Nat.le_of_ble_eq_true rfl) db_s90 (C := RX11) (T := TX11) (N := 19) rfl hiX11 1 (by decide) (r := 92) rfl (List.mem_of_getElem? (i := 1) rfl) dX11_friends_28 ?_
    refine lv_sipush (v := (309 : Int32)) hx hb dX11_friends_31 (by decide) ?_
    refine lv_iload_n hx hb dX11_friends_34 rfl (lv_at hl 3 rfl) ?_
    refine db_iast S hw (Nat.le_of_ble_eq_true rfl) db_s92 (show ¬ ((309 : Int32) < 0 ∨ 310 ≤ ((309 : Int32) : Int32).toNatClampNeg) by decide) dX11_friends_35 (fun H locs hw => ?_)
    obtain ⟨X2, e2, hw⟩ : ∃ Z_, Z_ = (db_si X1 92 ((309 : Int32)).toNatClampNeg x1) ∧ db_HW E (db_Aw E s.heap.size) s Z_ H locs := ⟨_, rfl, hw⟩
    have h := h X2 e2
    refine lv_iload_n hx hb dX11_friends_36 rfl (lv_at hl 0 rfl) ?_
    exact db_iret S hr hlocks hw h dX11_friends_37
  · have h := h.2 c4
    refine lv_aload_n hx hb dX11_friends_12 rfl (lv_at hl 1 rfl) ?_
    refine lv_iload_n hx hb dX11_friends_13 rfl (lv_at hl 0 rfl) ?_
    refine db_callVi S hw (Nat.le_of_ble_eq_true rfl) db_s90 (C := RX11) (T := TX11) (N := 19) (As := [.int r1]) rfl (ct_X11_refuse  h) gX11_friends_X11_refuse rfl ⟨rfl, rfl, Nat.le_of_ble_eq_true rfl, Nat.le_of_ble_eq_true rfl⟩ 1 rfl (by decide +kernel) hl.1 rfl (Nat.le_of_ble_eq_true rfl) dX11_friends_14 ⟨Nat.zero_le _, Nat.zero_le _⟩ (fun r3 X3 H locs h hw => ?_)
    exact db_iret S hr hlocks hw h dX11_friends_17
-- DaysOnBreadModel.isFeast(I)Z
abbrev rm_X11_isFeast : Room := { frames := 0, cells := 0, slots := 0, locals := 0 }
def wp_X11_isFeast  (X : db_St) (x1 : Int32) (Q : Int32 → db_St → Prop) : Prop := (((((X.1 92 ((308 : Int32)).toNatClampNeg) >>> ((x1 - x1 / (28 : Int32) * (28 : Int32)) &&& 31)) &&& (1 : Int32)) = (1 : Int32) → Q (1 : Int32) X) ∧ (¬ (((X.1 92 ((308 : Int32)).toNatClampNeg) >>> ((x1 - x1 / (28 : Int32) * (28 : Int32)) &&& 31)) &&& (1 : Int32)) = (1 : Int32) → Q (0 : Int32) X))
set_option maxHeartbeats 4000000 in
set_option maxRecDepth 100000 in
theorem ct_X11_isFeast {l : Launch} {E : db_E}  {X : db_St} {x1 : Int32} {Q : Int32 → db_St → Prop} (h : wp_X11_isFeast  X x1 Q) : db_MI l E yX11_isFeast wsX11_isFeast rm_X11_isFeast X [.ref (db_ad E 90), .int x1] Q := by
  intro sz
  unfold wp_X11_isFeast at h
  refine Met.ofW (cc := cX11_isFeast) (maxL := 2) (ret := (some .boolean)) (by decide) rfl ?_
  intro p e s m args below meth c s₁ B hml hv
  obtain ⟨rfl, hsz, hU⟩ := hv
  subst hsz
  have S : CallFix p m c cX11_isFeast 2 s ([.ref (db_ad E 90), .int x1] : List Value).toArray wsX11_isFeast RX11 := ⟨B.exec, B.bytes, hml, findClass_of_methodNamed B.named, atoms_spec (ws := wsX11_isFeast) B.pre⟩
  have hx := S.1
  have hb := S.2.1
  have hr := B.returns
  have hlocks := B.notSynchronized
  have hw := db_start hU
  have hiX11 : ∀ w ∈ wsX110, w ∈ wsX11_isFeast := fun w_ h_ => List.mem_cons_of_mem _ (List.mem_append_right _ h_)
  have hl := lv_entry ([.ref (db_ad E 90), .int x1]) (n := 2) (Nat.le_of_ble_eq_true rfl)
  rw [lg_entry_eq]
  generalize (lg_sl ([.ref (db_ad E 90), .int x1]) ++ List.replicate (2 - (lg_sl ([.ref (db_ad E 90), .int x1])).length) Slot.unset).toArray = ls at hl ⊢
  have hl : lv_has ls 2 [(0, .ref (db_ad E 90)), (1, .int x1)] := hl
  refine lv_aload_n hx hb dX11_isFeast_0 rfl (lv_at hl 0 rfl) ?_
  refine db_getr S hw (Nat.le_of_ble_eq_true rfl) db_s90 (C := RX11) (T := TX11) (N := 19) rfl hiX11 1 (by decide) (r := 92) rfl (List.mem_of_getElem? (i := 1) rfl) dX11_isFeast_1 ?_
  refine lv_sipush (v := (308 : Int32)) hx hb dX11_isFeast_4 (by decide) ?_
  refine db_iald S hw (Nat.le_of_ble_eq_true rfl) db_s92 (show ¬ ((308 : Int32) < 0 ∨ 310 ≤ ((308 : Int32) : Int32).toNatClampNeg) by decide) dX11_isFeast_7 ?_
  refine lv_iload_n hx hb dX11_isFeast_8 rfl (lv_at hl 1 rfl) ?_
  refine lv_bipush (v := (28 : Int32)) hx hb dX11_isFeast_9 (by decide) ?_
  refine lv_irem hx hb dX11_isFeast_11 (by decide) ?_
  refine lv_ishr hx hb dX11_isFeast_12 ?_
  refine lv_iconst (v := (1 : Int32)) hx hb dX11_isFeast_13 (by decide) ?_
  refine lv_iand hx hb dX11_isFeast_14 ?_
  refine lv_iconst (v := (1 : Int32)) hx hb dX11_isFeast_15 (by decide) ?_
  refine lv_icmp_ne (tgt := 23) hx hb dX11_isFeast_16 (by decide) (fun c1 => ?_) (fun c1 => ?_)
  · have h := h.2 c1
    refine lv_iconst (v := (0 : Int32)) hx hb dX11_isFeast_23 (by decide) ?_
    exact db_zret S hr hlocks rfl hw h dX11_isFeast_24
  · have h := h.1 c1
    refine lv_iconst (v := (1 : Int32)) hx hb dX11_isFeast_19 (by decide) ?_
    refine lv_goto (tgt := 24) hx hb dX11_isFeast_20 (by decide) ?_
    exact db_zret S hr hlocks rfl hw h dX11_isFeast_24
-- DaysOnBreadModel.perDay(I)I
abbrev rm_X11_perDay : Room := { frames := 1, cells := 0, slots := 0, locals := 22 }
def wp_X11_perDay  (X : db_St) (x1 : Int32) (Q : Int32 → db_St → Prop) : Prop := ((x1 = (4 : Int32) → wp_X11_pay X x1 (2 : Int32) (fun r2 X2 => Q ((X.1 92 ((309 : Int32)).toNatClampNeg) * (r2 + (1 : Int32))) X2)) ∧ (¬ x1 = (4 : Int32) → wp_X11_pay X x1 (2 : Int32) (fun r1 X1 => Q r1 X1)))
set_option maxHeartbeats 4000000 in
set_option maxRecDepth 100000 in
theorem ct_X11_perDay {l : Launch} {E : db_E}  {X : db_St} {x1 : Int32} {Q : Int32 → db_St → Prop} (h : wp_X11_perDay  X x1 Q) : db_MI l E yX11_perDay wsX11_perDay rm_X11_perDay X [.ref (db_ad E 90), .int x1] Q := by
  intro sz
  unfold wp_X11_perDay at h
  refine Met.ofW (cc := cX11_perDay) (maxL := 2) (ret := (some .int)) (by decide) rfl ?_
  intro p e s m args below meth c s₁ B hml hv
  obtain ⟨rfl, hsz, hU⟩ := hv
  subst hsz
  have S : CallFix p m c cX11_perDay 2 s ([.ref (db_ad E 90), .int x1] : List Value).toArray wsX11_perDay RX11 := ⟨B.exec, B.bytes, hml, findClass_of_methodNamed B.named, atoms_spec (ws := wsX11_perDay) B.pre⟩
  have hx := S.1
  have hb := S.2.1
  have hr := B.returns
  have hlocks := B.notSynchronized
  have hw := db_start hU
  have hiX11 : ∀ w ∈ wsX110, w ∈ wsX11_perDay := fun w_ h_ => List.mem_cons_of_mem _ (List.mem_append_right _ h_)
  have hl := lv_entry ([.ref (db_ad E 90), .int x1]) (n := 2) (Nat.le_of_ble_eq_true rfl)
  rw [lg_entry_eq]
  generalize (lg_sl ([.ref (db_ad E 90), .int x1]) ++ List.replicate (2 - (lg_sl ([.ref (db_ad E 90), .int x1])).length) Slot.unset).toArray = ls at hl ⊢
  have hl : lv_has ls 2 [(0, .ref (db_ad E 90)), (1, .int x1)] := hl
  refine lv_iload_n hx hb dX11_perDay_0 rfl (lv_at hl 1 rfl) ?_
  refine lv_iconst (v := (4 : Int32)) hx hb dX11_perDay_1 (by decide) ?_
  refine lv_icmp_ne (tgt := 25) hx hb dX11_perDay_2 (by decide) (fun c3 => ?_) (fun c3 => ?_)
  · have h := h.2 c3
    refine lv_aload_n hx hb dX11_perDay_25 rfl (lv_at hl 0 rfl) ?_
    refine lv_iload_n hx hb dX11_perDay_26 rfl (lv_at hl 1 rfl) ?_
    refine lv_iconst (v := (2 : Int32)) hx hb dX11_perDay_27 (by decide) ?_
    refine db_callVi S hw (Nat.le_of_ble_eq_true rfl) db_s90 (C := RX11) (T := TX11) (N := 19) (As := [.int x1, .int (2 : Int32)]) rfl (ct_X11_pay  h) gX11_perDay_X11_pay rfl ⟨rfl, rfl, Nat.le_of_ble_eq_true rfl, Nat.le_of_ble_eq_true rfl⟩ 2 rfl (by decide +kernel) hl.1 rfl (Nat.le_of_ble_eq_true rfl) dX11_perDay_28 ⟨Nat.zero_le _, Nat.zero_le _⟩ (fun r1 X1 H locs h hw => ?_)
    exact db_iret S hr hlocks hw h dX11_perDay_31
  · have h := h.1 c3
    refine lv_aload_n hx hb dX11_perDay_5 rfl (lv_at hl 0 rfl) ?_
    refine db_getr S hw (Nat.le_of_ble_eq_true rfl) db_s90 (C := RX11) (T := TX11) (N := 19) rfl hiX11 1 (by decide) (r := 92) rfl (List.mem_of_getElem? (i := 1) rfl) dX11_perDay_6 ?_
    refine lv_sipush (v := (309 : Int32)) hx hb dX11_perDay_9 (by decide) ?_
    refine db_iald S hw (Nat.le_of_ble_eq_true rfl) db_s92 (show ¬ ((309 : Int32) < 0 ∨ 310 ≤ ((309 : Int32) : Int32).toNatClampNeg) by decide) dX11_perDay_12 ?_
    refine lv_aload_n hx hb dX11_perDay_13 rfl (lv_at hl 0 rfl) ?_
    refine lv_iload_n hx hb dX11_perDay_14 rfl (lv_at hl 1 rfl) ?_
    refine lv_iconst (v := (2 : Int32)) hx hb dX11_perDay_15 (by decide) ?_
    refine db_callVi S hw (Nat.le_of_ble_eq_true rfl) db_s90 (C := RX11) (T := TX11) (N := 19) (As := [.int x1, .int (2 : Int32)]) rfl (ct_X11_pay  h) gX11_perDay_X11_pay rfl ⟨rfl, rfl, Nat.le_of_ble_eq_true rfl, Nat.le_of_ble_eq_true rfl⟩ 2 rfl (by decide +kernel) hl.1 rfl (Nat.le_of_ble_eq_true rfl) dX11_perDay_16 ⟨Nat.zero_le _, Nat.zero_le _⟩ (fun r2 X2 H locs h hw => ?_)
    refine lv_iconst (v := (1 : Int32)) hx hb dX11_perDay_19 (by decide) ?_
    refine lv_iadd hx hb dX11_perDay_20 ?_
    refine lv_imul hx hb dX11_perDay_21 ?_
    refine lv_goto (tgt := 31) hx hb dX11_perDay_22 (by decide) ?_
    exact db_iret S hr hlocks hw h dX11_perDay_31
-- DaysOnBreadModel.mostOf(II)I
abbrev rm_X11_mostOf : Room := { frames := 2, cells := 0, slots := 0, locals := 43 }
def wp_X11_mostOf_29 (Q : Int32 → db_St → Prop) : Nat → db_St → Int32 → Int32 → Int32 → Int32 → Prop
  | 0, _, _, _, _, _ => False
  | n_ + 1, X, x1, x2, x3, x4 => ((x2 ≤ x4 → wp_X11_pay X x1 (3 : Int32) (fun r1 X1 => wp_X11_perDay X1 x1 (fun r2 X2 => wp_X11_lesser X2 r1 (x3 * r2) (fun r3 X3 => Q r3 X3)))) ∧ (¬ (x2 ≤ x4) → ((x1 = 0 → wp_X11_isFeast X x4 (fun r4 X4 => ((r4 = 0 → wp_X11_mostOf_29 Q n_ X4 x1 x2 (x3 - (0 : Int32)) (x4 + (1 : Int32))) ∧ (¬ (r4 = 0) → wp_X11_mostOf_29 Q n_ X4 x1 x2 (x3 - (1 : Int32)) (x4 + (1 : Int32)))))) ∧ (¬ (x1 = 0) → ((x1 = (5 : Int32) → wp_X11_isFeast X x4 (fun r9 X9 => ((r9 = 0 → wp_X11_mostOf_29 Q n_ X9 x1 x2 (x3 - (0 : Int32)) (x4 + (1 : Int32))) ∧ (¬ (r9 = 0) → wp_X11_mostOf_29 Q n_ X9 x1 x2 (x3 - (1 : Int32)) (x4 + (1 : Int32)))))) ∧ (¬ x1 = (5 : Int32) → wp_X11_pay X x1 (3 : Int32) (fun r6 X6 => wp_X11_perDay X6 x1 (fun r7 X7 => wp_X11_lesser X7 r6 (x3 * r7) (fun r8 X8 => Q r8 X8)))))))))
set_option maxHeartbeats 4000000 in
set_option maxRecDepth 100000 in
theorem tw_X11_mostOf_29 {p : Program} {l : Launch} {e : Env} {s : State} {m : MethodId} {args : Array Value} {below : List Frame} {meth : Method} {c : Code} {E : db_E} (S : CallFix p m c cX11_mostOf 5 s args wsX11_mostOf RX11) (hr : meth.sig.returnType = (some .int)) (hlocks : meth.locks = false)  {Q : Int32 → db_St → Prop} : ∀ (n : Nat) (X : db_St) (x1 : Int32) (x2 : Int32) (x3 : Int32) (x4 : Int32) (H : Heap) (locs : List Loc) (ls : Array Slot), wp_X11_mostOf_29 Q n X x1 x2 x3 x4 → db_HW E (db_Aw E s.heap.size) s X H locs → lv_has ls 5 [(0, .ref (db_ad E 90)), (1, .int x1), (2, .int x2), (3, .int x3), (4, .int x4)] → W p l e rm_X11_mostOf s m args below meth c H locs 0 0 (MQ below (va_Qi Q (db_Po E) (db_Aw E s.heap.size)) args s 0 0 (db_Aw E s.heap.size)) (F0 m 29 ls []) := by
  have hx := S.1
  have hb := S.2.1
  intro n
  induction n with
  | zero =>
    intro X x1 x2 x3 x4 H locs ls h hw hl
    exact False.elim h
  | succ n_ ih =>
    intro X x1 x2 x3 x4 H locs ls h hw hl
    unfold wp_X11_mostOf_29 at h
    refine lv_iload hx hb dX11_mostOf_29 (lv_at hl 4 rfl) ?_
    refine lv_iload_n hx hb dX11_mostOf_31 rfl (lv_at hl 2 rfl) ?_
    refine lv_icmp_ge (tgt := 67) hx hb dX11_mostOf_32 (by decide) (fun c13 => ?_) (fun c13 => ?_)
    · have h := h.1 c13
      refine lv_aload_n hx hb dX11_mostOf_67 rfl (lv_at hl 0 rfl) ?_
      refine lv_iload_n hx hb dX11_mostOf_68 rfl (lv_at hl 1 rfl) ?_
      refine lv_iconst (v := (3 : Int32)) hx hb dX11_mostOf_69 (by decide) ?_
      refine db_callVi S hw (Nat.le_of_ble_eq_true rfl) db_s90 (C := RX11) (T := TX11) (N := 19) (As := [.int x1, .int (3 : Int32)]) rfl (ct_X11_pay  h) gX11_mostOf_X11_pay rfl ⟨rfl, rfl, Nat.le_of_ble_eq_true rfl, Nat.le_of_ble_eq_true rfl⟩ 2 rfl (by decide +kernel) hl.1 rfl (Nat.le_of_ble_eq_true rfl) dX11_mostOf_70 ⟨Nat.zero_le _, Nat.zero_le _⟩ (fun r1 X1 H locs h hw => ?_)
      refine lv_iload_n hx hb dX11_mostOf_73 rfl (lv_at hl 3 rfl) ?_
      refine lv_aload_n hx hb dX11_mostOf_74 rfl (lv_at hl 0 rfl) ?_
      refine lv_iload_n hx hb dX11_mostOf_75 rfl (lv_at hl 1 rfl) ?_
      refine db_callVi S hw (Nat.le_of_ble_eq_true rfl) db_s90 (C := RX11) (T := TX11) (N := 19) (As := [.int x1]) rfl (ct_X11_perDay  h) gX11_mostOf_X11_perDay rfl ⟨rfl, rfl, Nat.le_of_ble_eq_true rfl, Nat.le_of_ble_eq_true rfl⟩ 1 rfl (by decide +kernel) hl.1 rfl (Nat.le_of_ble_eq_true rfl) dX11_mostOf_76 ⟨Nat.zero_le _, Nat.zero_le _⟩ (fun r2 X2 H locs h hw => ?_)
      refine lv_imul hx hb dX11_mostOf_79 ?_
      refine db_callSi S hw (As := [.int r1, .int (x3 * r2)]) (ct_X11_lesser  h) gX11_mostOf_X11_lesser rfl ⟨rfl, rfl, Nat.le_of_ble_eq_true rfl, Nat.le_of_ble_eq_true rfl⟩ 2 rfl (by decide +kernel) hl.1 rfl (Nat.le_of_ble_eq_true rfl) dX11_mostOf_80 ⟨Nat.zero_le _, Nat.zero_le _⟩ (fun r3 X3 H locs h hw => ?_)
      exact db_iret S hr hlocks hw h dX11_mostOf_83
    · have h := h.2 c13
      refine lv_iload_n hx hb dX11_mostOf_35 rfl (lv_at hl 1 rfl) ?_
      refine lv_if_eq (tgt := 44) hx hb dX11_mostOf_36 (by decide) (fun c12 => ?_) (fun c12 => ?_)
      · have h := h.1 c12
        refine lv_iload_n hx hb dX11_mostOf_44 rfl (lv_at hl 3 rfl) ?_
        refine lv_aload_n hx hb dX11_mostOf_45 rfl (lv_at hl 0 rfl) ?_
        refine lv_iload hx hb dX11_mostOf_46 (lv_at hl 4 rfl) ?_
        refine db_callVi S hw (Nat.le_of_ble_eq_true rfl) db_s90 (C := RX11) (T := TX11) (N := 19) (As := [.int x4]) rfl (ct_X11_isFeast  h) gX11_mostOf_X11_isFeast rfl ⟨rfl, rfl, Nat.le_of_ble_eq_true rfl, Nat.le_of_ble_eq_true rfl⟩ 1 rfl (by decide +kernel) hl.1 rfl (Nat.le_of_ble_eq_true rfl) dX11_mostOf_48 ⟨Nat.zero_le _, Nat.zero_le _⟩ (fun r4 X4 H locs h hw => ?_)
        refine lv_if_eq (tgt := 58) hx hb dX11_mostOf_51 (by decide) (fun c5 => ?_) (fun c5 => ?_)
        · have h := h.1 c5
          refine lv_iconst (v := (0 : Int32)) hx hb dX11_mostOf_58 (by decide) ?_
          refine lv_isub hx hb dX11_mostOf_59 ?_
          refine lv_istore_n (lv' := [(3, .int (x3 - (0 : Int32))), (0, .ref (db_ad E 90)), (1, .int x1), (2, .int x2), (4, .int x4)]) hx hb dX11_mostOf_60 rfl hl (by decide) rfl (fun ls hl => ?_)
          refine lv_iinc (v := (x4 + (1 : Int32))) (lv' := [(4, .int (x4 + (1 : Int32))), (3, .int (x3 - (0 : Int32))), (0, .ref (db_ad E 90)), (1, .int x1), (2, .int x2)]) hx hb dX11_mostOf_61 hl (k := 4) rfl (congrArg (fun z_ => x4 + z_) (show Int32.ofInt (1) = (1 : Int32) by decide)) (by decide) rfl (fun ls hl => ?_)
          refine lv_goto (tgt := 29) hx hb dX11_mostOf_64 (by decide) ?_
          exact ih _ _ _ _ _ _ _ _ h hw (lv_sub hl [2, 3, 4, 1, 0] rfl)
        · have h := h.2 c5
          refine lv_iconst (v := (1 : Int32)) hx hb dX11_mostOf_54 (by decide) ?_
          refine lv_goto (tgt := 59) hx hb dX11_mostOf_55 (by decide) ?_
          refine lv_isub hx hb dX11_mostOf_59 ?_
          refine lv_istore_n (lv' := [(3, .int (x3 - (1 : Int32))), (0, .ref (db_ad E 90)), (1, .int x1), (2, .int x2), (4, .int x4)]) hx hb dX11_mostOf_60 rfl hl (by decide) rfl (fun ls hl => ?_)
          refine lv_iinc (v := (x4 + (1 : Int32))) (lv' := [(4, .int (x4 + (1 : Int32))), (3, .int (x3 - (1 : Int32))), (0, .ref (db_ad E 90)), (1, .int x1), (2, .int x2)]) hx hb dX11_mostOf_61 hl (k := 4) rfl (congrArg (fun z_ => x4 + z_) (show Int32.ofInt (1) = (1 : Int32) by decide)) (by decide) rfl (fun ls hl => ?_)
          refine lv_goto (tgt := 29) hx hb dX11_mostOf_64 (by decide) ?_
          exact ih _ _ _ _ _ _ _ _ h hw (lv_sub hl [2, 3, 4, 1, 0] rfl)
      · have h := h.2 c12
        refine lv_iload_n hx hb dX11_mostOf_39 rfl (lv_at hl 1 rfl) ?_
        refine lv_iconst (v := (5 : Int32)) hx hb dX11_mostOf_40 (by decide) ?_
        refine lv_icmp_ne (tgt := 67) hx hb dX11_mostOf_41 (by decide) (fun c11 => ?_) (fun c11 => ?_)
        · have h := h.2 c11
          refine lv_aload_n hx hb dX11_mostOf_67 rfl (lv_at hl 0 rfl) ?_
          refine lv_iload_n hx hb dX11_mostOf_68 rfl (lv_at hl 1 rfl) ?_
          refine lv_iconst (v := (3 : Int32)) hx hb dX11_mostOf_69 (by decide) ?_
          refine db_callVi S hw (Nat.le_of_ble_eq_true rfl) db_s90 (C := RX11) (T := TX11) (N := 19) (As := [.int x1, .int (3 : Int32)]) rfl (ct_X11_pay  h) gX11_mostOf_X11_pay rfl ⟨rfl, rfl, Nat.le_of_ble_eq_true rfl, Nat.le_of_ble_eq_true rfl⟩ 2 rfl (by decide +kernel) hl.1 rfl (Nat.le_of_ble_eq_true rfl) dX11_mostOf_70 ⟨Nat.zero_le _, Nat.zero_le _⟩ (fun r6 X6 H locs h hw => ?_)
          refine lv_iload_n hx hb dX11_mostOf_73 rfl (lv_at hl 3 rfl) ?_
          refine lv_aload_n hx hb dX11_mostOf_74 rfl (lv_at hl 0 rfl) ?_
          refine lv_iload_n hx hb dX11_mostOf_75 rfl (lv_at hl 1 rfl) ?_
          refine db_callVi S hw (Nat.le_of_ble_eq_true rfl) db_s90 (C := RX11) (T := TX11) (N := 19) (As := [.int x1]) rfl (ct_X11_perDay  h) gX11_mostOf_X11_perDay rfl ⟨rfl, rfl, Nat.le_of_ble_eq_true rfl, Nat.le_of_ble_eq_true rfl⟩ 1 rfl (by decide +kernel) hl.1 rfl (Nat.le_of_ble_eq_true rfl) dX11_mostOf_76 ⟨Nat.zero_le _, Nat.zero_le _⟩ (fun r7 X7 H locs h hw => ?_)
          refine lv_imul hx hb dX11_mostOf_79 ?_
          refine db_callSi S hw (As := [.int r6, .int (x3 * r7)]) (ct_X11_lesser  h) gX11_mostOf_X11_lesser rfl ⟨rfl, rfl, Nat.le_of_ble_eq_true rfl, Nat.le_of_ble_eq_true rfl⟩ 2 rfl (by decide +kernel) hl.1 rfl (Nat.le_of_ble_eq_true rfl) dX11_mostOf_80 ⟨Nat.zero_le _, Nat.zero_le _⟩ (fun r8 X8 H locs h hw => ?_)
          exact db_iret S hr hlocks hw h dX11_mostOf_83
        · have h := h.1 c11
          refine lv_iload_n hx hb dX11_mostOf_44 rfl (lv_at hl 3 rfl) ?_
          refine lv_aload_n hx hb dX11_mostOf_45 rfl (lv_at hl 0 rfl) ?_
          refine lv_iload hx hb dX11_mostOf_46 (lv_at hl 4 rfl) ?_
          refine db_callVi S hw (Nat.le_of_ble_eq_true rfl) db_s90 (C := RX11) (T := TX11) (N := 19) (As := [.int x4]) rfl (ct_X11_isFeast  h) gX11_mostOf_X11_isFeast rfl ⟨rfl, rfl, Nat.le_of_ble_eq_true rfl, Nat.le_of_ble_eq_true rfl⟩ 1 rfl (by decide +kernel) hl.1 rfl (Nat.le_of_ble_eq_true rfl) dX11_mostOf_48 ⟨Nat.zero_le _, Nat.zero_le _⟩ (fun r9 X9 H locs h hw => ?_)
          refine lv_if_eq (tgt := 58) hx hb dX11_mostOf_51 (by decide) (fun c10 => ?_) (fun c10 => ?_)
          · have h := h.1 c10
            refine lv_iconst (v := (0 : Int32)) hx hb dX11_mostOf_58 (by decide) ?_
            refine lv_isub hx hb dX11_mostOf_59 ?_
            refine lv_istore_n (lv' := [(3, .int (x3 - (0 : Int32))), (0, .ref (db_ad E 90)), (1, .int x1), (2, .int x2), (4, .int x4)]) hx hb dX11_mostOf_60 rfl hl (by decide) rfl (fun ls hl => ?_)
            refine lv_iinc (v := (x4 + (1 : Int32))) (lv' := [(4, .int (x4 + (1 : Int32))), (3, .int (x3 - (0 : Int32))), (0, .ref (db_ad E 90)), (1, .int x1), (2, .int x2)]) hx hb dX11_mostOf_61 hl (k := 4) rfl (congrArg (fun z_ => x4 + z_) (show Int32.ofInt (1) = (1 : Int32) by decide)) (by decide) rfl (fun ls hl => ?_)
            refine lv_goto (tgt := 29) hx hb dX11_mostOf_64 (by decide) ?_
            exact ih _ _ _ _ _ _ _ _ h hw (lv_sub hl [2, 3, 4, 1, 0] rfl)
          · have h := h.2 c10
            refine lv_iconst (v := (1 : Int32)) hx hb dX11_mostOf_54 (by decide) ?_
            refine lv_goto (tgt := 59) hx hb dX11_mostOf_55 (by decide) ?_
            refine lv_isub hx hb dX11_mostOf_59 ?_
            refine lv_istore_n (lv' := [(3, .int (x3 - (1 : Int32))), (0, .ref (db_ad E 90)), (1, .int x1), (2, .int x2), (4, .int x4)]) hx hb dX11_mostOf_60 rfl hl (by decide) rfl (fun ls hl => ?_)
            refine lv_iinc (v := (x4 + (1 : Int32))) (lv' := [(4, .int (x4 + (1 : Int32))), (3, .int (x3 - (1 : Int32))), (0, .ref (db_ad E 90)), (1, .int x1), (2, .int x2)]) hx hb dX11_mostOf_61 hl (k := 4) rfl (congrArg (fun z_ => x4 + z_) (show Int32.ofInt (1) = (1 : Int32) by decide)) (by decide) rfl (fun ls hl => ?_)
            refine lv_goto (tgt := 29) hx hb dX11_mostOf_64 (by decide) ?_
            exact ih _ _ _ _ _ _ _ _ h hw (lv_sub hl [2, 3, 4, 1, 0] rfl)
def wp_X11_mostOf  (X : db_St) (x1 : Int32) (x2 : Int32) (Q : Int32 → db_St → Prop) : Prop := wp_X11_pay X x1 (0 : Int32) (fun r1 X1 => ((r1 = 0 → Q (0 : Int32) X1) ∧ (¬ r1 = 0 → ((x1 = (3 : Int32) → (∃ f_, wp_X11_mostOf_29 Q f_ X1 x1 x2 ((x2 + (1 : Int32)) / (2 : Int32)) (0 : Int32))) ∧ (¬ x1 = (3 : Int32) → (∃ f_, wp_X11_mostOf_29 Q f_ X1 x1 x2 x2 (0 : Int32)))))))
set_option maxHeartbeats 4000000 in
set_option maxRecDepth 100000 in
theorem ct_X11_mostOf {l : Launch} {E : db_E}  {X : db_St} {x1 : Int32} {x2 : Int32} {Q : Int32 → db_St → Prop} (h : wp_X11_mostOf  X x1 x2 Q) : db_MI l E yX11_mostOf wsX11_mostOf rm_X11_mostOf X [.ref (db_ad E 90), .int x1, .int x2] Q := by
  intro sz
  unfold wp_X11_mostOf at h
  refine Met.ofW (cc := cX11_mostOf) (maxL := 5) (ret := (some .int)) (by decide) rfl ?_
  intro p e s m args below meth c s₁ B hml hv
  obtain ⟨rfl, hsz, hU⟩ := hv
  subst hsz
  have S : CallFix p m c cX11_mostOf 5 s ([.ref (db_ad E 90), .int x1, .int x2] : List Value).toArray wsX11_mostOf RX11 := ⟨B.exec, B.bytes, hml, findClass_of_methodNamed B.named, atoms_spec (ws := wsX11_mostOf) B.pre⟩
  have hx := S.1
  have hb := S.2.1
  have hr := B.returns
  have hlocks := B.notSynchronized
  have hw := db_start hU
  have hl := lv_entry ([.ref (db_ad E 90), .int x1, .int x2]) (n := 5) (Nat.le_of_ble_eq_true rfl)
  rw [lg_entry_eq]
  generalize (lg_sl ([.ref (db_ad E 90), .int x1, .int x2]) ++ List.replicate (5 - (lg_sl ([.ref (db_ad E 90), .int x1, .int x2])).length) Slot.unset).toArray = ls at hl ⊢
  have hl : lv_has ls 5 [(0, .ref (db_ad E 90)), (1, .int x1), (2, .int x2)] := hl
  refine lv_aload_n hx hb dX11_mostOf_0 rfl (lv_at hl 0 rfl) ?_
  refine lv_iload_n hx hb dX11_mostOf_1 rfl (lv_at hl 1 rfl) ?_
  refine lv_iconst (v := (0 : Int32)) hx hb dX11_mostOf_2 (by decide) ?_
  refine db_callVi S hw (Nat.le_of_ble_eq_true rfl) db_s90 (C := RX11) (T := TX11) (N := 19) (As := [.int x1, .int (0 : Int32)]) rfl (ct_X11_pay  h) gX11_mostOf_X11_pay rfl ⟨rfl, rfl, Nat.le_of_ble_eq_true rfl, Nat.le_of_ble_eq_true rfl⟩ 2 rfl (by decide +kernel) hl.1 rfl (Nat.le_of_ble_eq_true rfl) dX11_mostOf_3 ⟨Nat.zero_le _, Nat.zero_le _⟩ (fun r1 X1 H locs h hw => ?_)
  refine lv_if_ne (tgt := 11) hx hb dX11_mostOf_6 (by decide) (fun c3 => ?_) (fun c3 => ?_)
  · have h := h.2 c3
    refine lv_iload_n hx hb dX11_mostOf_11 rfl (lv_at hl 1 rfl) ?_
    refine lv_iconst (v := (3 : Int32)) hx hb dX11_mostOf_12 (by decide) ?_
    refine lv_icmp_ne (tgt := 24) hx hb dX11_mostOf_13 (by decide) (fun c2 => ?_) (fun c2 => ?_)
    · have h := h.2 c2
      refine lv_iload_n hx hb dX11_mostOf_24 rfl (lv_at hl 2 rfl) ?_
      refine lv_istore_n (lv' := [(3, .int x2), (0, .ref (db_ad E 90)), (1, .int x1), (2, .int x2)]) hx hb dX11_mostOf_25 rfl hl (by decide) rfl (fun ls hl => ?_)
      refine lv_iconst (v := (0 : Int32)) hx hb dX11_mostOf_26 (by decide) ?_
      refine lv_istore (lv' := [(4, .int (0 : Int32)), (3, .int x2), (0, .ref (db_ad E 90)), (1, .int x1), (2, .int x2)]) hx hb dX11_mostOf_27 hl (by decide) rfl (fun ls hl => ?_)
      obtain ⟨f_, h⟩ := h
      exact tw_X11_mostOf_29 S hr hlocks   f_ _ _ _ _ _ _ _ _ h hw (lv_sub hl [2, 3, 4, 1, 0] rfl)
    · have h := h.1 c2
      refine lv_iload_n hx hb dX11_mostOf_16 rfl (lv_at hl 2 rfl) ?_
      refine lv_iconst (v := (1 : Int32)) hx hb dX11_mostOf_17 (by decide) ?_
      refine lv_iadd hx hb dX11_mostOf_18 ?_
      refine lv_iconst (v := (2 : Int32)) hx hb dX11_mostOf_19 (by decide) ?_
      refine lv_idiv hx hb dX11_mostOf_20 (by decide) ?_
      refine lv_goto (tgt := 25) hx hb dX11_mostOf_21 (by decide) ?_
      refine lv_istore_n (lv' := [(3, .int ((x2 + (1 : Int32)) / (2 : Int32))), (0, .ref (db_ad E 90)), (1, .int x1), (2, .int x2)]) hx hb dX11_mostOf_25 rfl hl (by decide) rfl (fun ls hl => ?_)
      refine lv_iconst (v := (0 : Int32)) hx hb dX11_mostOf_26 (by decide) ?_
      refine lv_istore (lv' := [(4, .int (0 : Int32)), (3, .int ((x2 + (1 : Int32)) / (2 : Int32))), (0, .ref (db_ad E 90)), (1, .int x1), (2, .int x2)]) hx hb dX11_mostOf_27 hl (by decide) rfl (fun ls hl => ?_)
      obtain ⟨f_, h⟩ := h
      exact tw_X11_mostOf_29 S hr hlocks   f_ _ _ _ _ _ _ _ _ h hw (lv_sub hl [2, 3, 4, 1, 0] rfl)
  · have h := h.1 c3
    refine lv_iconst (v := (0 : Int32)) hx hb dX11_mostOf_9 (by decide) ?_
    exact db_iret S hr hlocks hw h dX11_mostOf_10
-- DaysOnBreadModel.unitsFor(II)I
abbrev rm_X11_unitsFor : Room := { frames := 1, cells := 0, slots := 0, locals := 22 }
def wp_X11_unitsFor_78 (k9 : db_St → Int32 → Int32 → Int32 → Int32 → Int32 → Prop) (Q : Int32 → db_St → Prop) (X : db_St) (x1 : Int32) (x2 : Int32) (x3 : Int32) (x4 : Int32) (x5 : Int32) (x6 : Int32) (x7 : Int32) : Prop := ((x7 < 0 → ((0 < x6 → k9 X x1 x2 x3 x4 (x5 + (1 : Int32))) ∧ (¬ (0 < x6) → Q x3 X))) ∧ (¬ (x7 < 0) → ((x3 < 0 → ((0 < x6 → k9 X x1 x2 x5 x7 (x5 + (1 : Int32))) ∧ (¬ (0 < x6) → Q x5 X))) ∧ (¬ (x3 < 0) → ((x4 ≤ x7 → ((0 < x6 → k9 X x1 x2 x3 x4 (x5 + (1 : Int32))) ∧ (¬ (0 < x6) → Q x3 X))) ∧ (¬ (x4 ≤ x7) → ((0 < x6 → k9 X x1 x2 x5 x7 (x5 + (1 : Int32))) ∧ (¬ (0 < x6) → Q x5 X))))))))
set_option maxHeartbeats 4000000 in
set_option maxRecDepth 100000 in
theorem tw_X11_unitsFor_78 {p : Program} {l : Launch} {e : Env} {s : State} {m : MethodId} {args : Array Value} {below : List Frame} {meth : Method} {c : Code} {E : db_E} (S : CallFix p m c cX11_unitsFor 8 s args wsX11_unitsFor RX11) (hr : meth.sig.returnType = (some .int)) (hlocks : meth.locks = false)  {Q : Int32 → db_St → Prop} {k9 : db_St → Int32 → Int32 → Int32 → Int32 → Int32 → Prop} (hk9 : ∀ (X : db_St) (x1 : Int32) (x2 : Int32) (x3 : Int32) (x4 : Int32) (x5 : Int32) (H : Heap) (locs : List Loc) (ls : Array Slot), k9 X x1 x2 x3 x4 x5 → db_HW E (db_Aw E s.heap.size) s X H locs → lv_has ls 8 [(0, .ref (db_ad E 90)), (1, .int x1), (2, .int x2), (3, .int x3), (4, .int x4), (5, .int x5)] → W p l e rm_X11_unitsFor s m args below meth c H locs 0 0 (MQ below (va_Qi Q (db_Po E) (db_Aw E s.heap.size)) args s 0 0 (db_Aw E s.heap.size)) (F0 m 9 ls [])) : ∀ (X : db_St) (x1 : Int32) (x2 : Int32) (x3 : Int32) (x4 : Int32) (x5 : Int32) (x6 : Int32) (x7 : Int32) (H : Heap) (locs : List Loc) (ls : Array Slot), wp_X11_unitsFor_78 k9 Q X x1 x2 x3 x4 x5 x6 x7 → db_HW E (db_Aw E s.heap.size) s X H locs → lv_has ls 8 [(0, .ref (db_ad E 90)), (1, .int x1), (2, .int x2), (3, .int x3), (4, .int x4), (5, .int x5), (6, .int x6), (7, .int x7)] → W p l e rm_X11_unitsFor s m args below meth c H locs 0 0 (MQ below (va_Qi Q (db_Po E) (db_Aw E s.heap.size)) args s 0 0 (db_Aw E s.heap.size)) (F0 m 78 ls []) := by
  have hx := S.1
  have hb := S.2.1
  have hiX11 : ∀ w ∈ wsX110, w ∈ wsX11_unitsFor := fun w_ h_ => List.mem_cons_of_mem _ (List.mem_append_right _ h_)
  intro X x1 x2 x3 x4 x5 x6 x7 H locs ls h hw hl
  unfold wp_X11_unitsFor_78 at h
  refine lv_iload hx hb dX11_unitsFor_78 (lv_at hl 7 rfl) ?_
  refine lv_if_lt (tgt := 101) hx hb dX11_unitsFor_80 (by decide) (fun c7 => ?_) (fun c7 => ?_)
  · have h := h.1 c7
    refine lv_iload hx hb dX11_unitsFor_101 (lv_at hl 6 rfl) ?_
    refine lv_if_gt (tgt := 109) hx hb dX11_unitsFor_103 (by decide) (fun c1 => ?_) (fun c1 => ?_)
    · have h := h.1 c1
      refine lv_iinc (v := (x5 + (1 : Int32))) (lv' := [(5, .int (x5 + (1 : Int32))), (0, .ref (db_ad E 90)), (1, .int x1), (2, .int x2), (3, .int x3), (4, .int x4), (6, .int x6), (7, .int x7)]) hx hb dX11_unitsFor_109 hl (k := 5) rfl (congrArg (fun z_ => x5 + z_) (show Int32.ofInt (1) = (1 : Int32) by decide)) (by decide) rfl (fun ls hl => ?_)
      refine lv_goto (tgt := 9) hx hb dX11_unitsFor_112 (by decide) ?_
      exact hk9 _ _ _ _ _ _ _ _ _ h hw (lv_sub hl [1, 2, 3, 4, 5, 0] rfl)
    · have h := h.2 c1
      refine lv_goto (tgt := 115) hx hb dX11_unitsFor_106 (by decide) ?_
      refine lv_iload_n hx hb dX11_unitsFor_115 rfl (lv_at hl 3 rfl) ?_
      exact db_iret S hr hlocks hw h dX11_unitsFor_116
  · have h := h.2 c7
    refine lv_iload_n hx hb dX11_unitsFor_83 rfl (lv_at hl 3 rfl) ?_
    refine lv_if_lt (tgt := 94) hx hb dX11_unitsFor_84 (by decide) (fun c6 => ?_) (fun c6 => ?_)
    · have h := h.1 c6
      refine lv_iload hx hb dX11_unitsFor_94 (lv_at hl 5 rfl) ?_
      refine lv_istore_n (lv' := [(3, .int x5), (0, .ref (db_ad E 90)), (1, .int x1), (2, .int x2), (4, .int x4), (5, .int x5), (6, .int x6), (7, .int x7)]) hx hb dX11_unitsFor_96 rfl hl (by decide) rfl (fun ls hl => ?_)
      refine lv_iload hx hb dX11_unitsFor_97 (lv_at hl 7 rfl) ?_
      refine lv_istore (lv' := [(4, .int x7), (3, .int x5), (0, .ref (db_ad E 90)), (1, .int x1), (2, .int x2), (5, .int x5), (6, .int x6), (7, .int x7)]) hx hb dX11_unitsFor_99 hl (by decide) rfl (fun ls hl => ?_)
      refine lv_iload hx hb dX11_unitsFor_101 (lv_at hl 6 rfl) ?_
      refine lv_if_gt (tgt := 109) hx hb dX11_unitsFor_103 (by decide) (fun c2 => ?_) (fun c2 => ?_)
      · have h := h.1 c2
        refine lv_iinc (v := (x5 + (1 : Int32))) (lv' := [(5, .int (x5 + (1 : Int32))), (4, .int x7), (3, .int x5), (0, .ref (db_ad E 90)), (1, .int x1), (2, .int x2), (6, .int x6), (7, .int x7)]) hx hb dX11_unitsFor_109 hl (k := 5) rfl (congrArg (fun z_ => x5 + z_) (show Int32.ofInt (1) = (1 : Int32) by decide)) (by decide) rfl (fun ls hl => ?_)
        refine lv_goto (tgt := 9) hx hb dX11_unitsFor_112 (by decide) ?_
        exact hk9 _ _ _ _ _ _ _ _ _ h hw (lv_sub hl [3, 4, 5, 2, 1, 0] rfl)
      · have h := h.2 c2
        refine lv_goto (tgt := 115) hx hb dX11_unitsFor_106 (by decide) ?_
        refine lv_iload_n hx hb dX11_unitsFor_115 rfl (lv_at hl 1 rfl) ?_
        exact db_iret S hr hlocks hw h dX11_unitsFor_116
    · have h := h.2 c6
      refine lv_iload hx hb dX11_unitsFor_87 (lv_at hl 7 rfl) ?_
      refine lv_iload hx hb dX11_unitsFor_89 (lv_at hl 4 rfl) ?_
      refine lv_icmp_ge (tgt := 101) hx hb dX11_unitsFor_91 (by decide) (fun c5 => ?_) (fun c5 => ?_)
      · have h := h.1 c5
        refine lv_iload hx hb dX11_unitsFor_101 (lv_at hl 6 rfl) ?_
        refine lv_if_gt (tgt := 109) hx hb dX11_unitsFor_103 (by decide) (fun c3 => ?_) (fun c3 => ?_)
        · have h := h.1 c3
          refine lv_iinc (v := (x5 + (1 : Int32))) (lv' := [(5, .int (x5 + (1 : Int32))), (0, .ref (db_ad E 90)), (1, .int x1), (2, .int x2), (3, .int x3), (4, .int x4), (6, .int x6), (7, .int x7)]) hx hb dX11_unitsFor_109 hl (k := 5) rfl (congrArg (fun z_ => x5 + z_) (show Int32.ofInt (1) = (1 : Int32) by decide)) (by decide) rfl (fun ls hl => ?_)
          refine lv_goto (tgt := 9) hx hb dX11_unitsFor_112 (by decide) ?_
          exact hk9 _ _ _ _ _ _ _ _ _ h hw (lv_sub hl [1, 2, 3, 4, 5, 0] rfl)
        · have h := h.2 c3
          refine lv_goto (tgt := 115) hx hb dX11_unitsFor_106 (by decide) ?_
          refine lv_iload_n hx hb dX11_unitsFor_115 rfl (lv_at hl 3 rfl) ?_
          exact db_iret S hr hlocks hw h dX11_unitsFor_116
      · have h := h.2 c5
        refine lv_iload hx hb dX11_unitsFor_94 (lv_at hl 5 rfl) ?_
        refine lv_istore_n (lv' := [(3, .int x5), (0, .ref (db_ad E 90)), (1, .int x1), (2, .int x2), (4, .int x4), (5, .int x5), (6, .int x6), (7, .int x7)]) hx hb dX11_unitsFor_96 rfl hl (by decide) rfl (fun ls hl => ?_)
        refine lv_iload hx hb dX11_unitsFor_97 (lv_at hl 7 rfl) ?_
        refine lv_istore (lv' := [(4, .int x7), (3, .int x5), (0, .ref (db_ad E 90)), (1, .int x1), (2, .int x2), (5, .int x5), (6, .int x6), (7, .int x7)]) hx hb dX11_unitsFor_99 hl (by decide) rfl (fun ls hl => ?_)
        refine lv_iload hx hb dX11_unitsFor_101 (lv_at hl 6 rfl) ?_
        refine lv_if_gt (tgt := 109) hx hb dX11_unitsFor_103 (by decide) (fun c4 => ?_) (fun c4 => ?_)
        · have h := h.1 c4
          refine lv_iinc (v := (x5 + (1 : Int32))) (lv' := [(5, .int (x5 + (1 : Int32))), (4, .int x7), (3, .int x5), (0, .ref (db_ad E 90)), (1, .int x1), (2, .int x2), (6, .int x6), (7, .int x7)]) hx hb dX11_unitsFor_109 hl (k := 5) rfl (congrArg (fun z_ => x5 + z_) (show Int32.ofInt (1) = (1 : Int32) by decide)) (by decide) rfl (fun ls hl => ?_)
          refine lv_goto (tgt := 9) hx hb dX11_unitsFor_112 (by decide) ?_
          exact hk9 _ _ _ _ _ _ _ _ _ h hw (lv_sub hl [3, 4, 5, 2, 1, 0] rfl)
        · have h := h.2 c4
          refine lv_goto (tgt := 115) hx hb dX11_unitsFor_106 (by decide) ?_
          refine lv_iload_n hx hb dX11_unitsFor_115 rfl (lv_at hl 1 rfl) ?_
          exact db_iret S hr hlocks hw h dX11_unitsFor_116
def wp_X11_unitsFor_9 (Q : Int32 → db_St → Prop) : Nat → db_St → Int32 → Int32 → Int32 → Int32 → Int32 → Prop
  | 0, _, _, _, _, _, _ => False
  | n_ + 1, X, x1, x2, x3, x4, x5 => (vp_in x1 6 ∧ (((X.1 97 (x1).toNatClampNeg) < x5 → Q x3 X) ∧ (¬ ((X.1 97 (x1).toNatClampNeg) < x5) → wp_X11_pay X x1 (0 : Int32) (fun r2 X2 => ((0 ≤ (x2 - (x5 * r2)) → (vp_in (((1001 : Int32) * (x1 + (1 : Int32))) + (x2 - (x5 * r2))) 7007 ∧ (∀ z4, z4 = (X2.1 95 ((((1001 : Int32) * (x1 + (1 : Int32))) + (x2 - (x5 * r2)))).toNatClampNeg) → ((z4 < 0 → wp_X11_unitsFor_78 (wp_X11_unitsFor_9 Q n_) Q X2 x1 x2 x3 x4 x5 (x2 - (x5 * r2)) z4) ∧ (¬ (z4 < 0) → wp_X11_pay X2 x1 (1 : Int32) (fun r5 X5 => wp_X11_unitsFor_78 (wp_X11_unitsFor_9 Q n_) Q X5 x1 x2 x3 x4 x5 (x2 - (x5 * r2)) (z4 + (x5 * r5)))))))) ∧ (¬ (0 ≤ (x2 - (x5 * r2))) → (vp_in (((1001 : Int32) * (x1 + (1 : Int32))) + (0 : Int32)) 7007 ∧ (∀ z8, z8 = (X2.1 95 ((((1001 : Int32) * (x1 + (1 : Int32))) + (0 : Int32))).toNatClampNeg) → ((z8 < 0 → wp_X11_unitsFor_78 (wp_X11_unitsFor_9 Q n_) Q X2 x1 x2 x3 x4 x5 (x2 - (x5 * r2)) z8) ∧ (¬ (z8 < 0) → wp_X11_pay X2 x1 (1 : Int32) (fun r9 X9 => wp_X11_unitsFor_78 (wp_X11_unitsFor_9 Q n_) Q X9 x1 x2 x3 x4 x5 (x2 - (x5 * r2)) (z8 + (x5 * r9)))))))))))))
set_option maxHeartbeats 4000000 in
set_option maxRecDepth 100000 in
theorem tw_X11_unitsFor_9 {p : Program} {l : Launch} {e : Env} {s : State} {m : MethodId} {args : Array Value} {below : List Frame} {meth : Method} {c : Code} {E : db_E} (S : CallFix p m c cX11_unitsFor 8 s args wsX11_unitsFor RX11) (hr : meth.sig.returnType = (some .int)) (hlocks : meth.locks = false)  {Q : Int32 → db_St → Prop} : ∀ (n : Nat) (X : db_St) (x1 : Int32) (x2 : Int32) (x3 : Int32) (x4 : Int32) (x5 : Int32) (H : Heap) (locs : List Loc) (ls : Array Slot), wp_X11_unitsFor_9 Q n X x1 x2 x3 x4 x5 → db_HW E (db_Aw E s.heap.size) s X H locs → lv_has ls 8 [(0, .ref (db_ad E 90)), (1, .int x1), (2, .int x2), (3, .int x3), (4, .int x4), (5, .int x5)] → W p l e rm_X11_unitsFor s m args below meth c H locs 0 0 (MQ below (va_Qi Q (db_Po E) (db_Aw E s.heap.size)) args s 0 0 (db_Aw E s.heap.size)) (F0 m 9 ls []) := by
  have hx := S.1
  have hb := S.2.1
  have hiX11 : ∀ w ∈ wsX110, w ∈ wsX11_unitsFor := fun w_ h_ => List.mem_cons_of_mem _ (List.mem_append_right _ h_)
  intro n
  induction n with
  | zero =>
    intro X x1 x2 x3 x4 x5 H locs ls h hw hl
    exact False.elim h
  | succ n_ ih =>
    intro X x1 x2 x3 x4 x5 H locs ls h hw hl
    unfold wp_X11_unitsFor_9 at h
    refine lv_iload hx hb dX11_unitsFor_9 (lv_at hl 5 rfl) ?_
    refine lv_aload_n hx hb dX11_unitsFor_11 rfl (lv_at hl 0 rfl) ?_
    refine db_getr S hw (Nat.le_of_ble_eq_true rfl) db_s90 (C := RX11) (T := TX11) (N := 19) rfl hiX11 9 (by decide) (r := 97) rfl (List.mem_of_getElem? (i := 1) rfl) dX11_unitsFor_12 ?_
    refine lv_iload_n hx hb dX11_unitsFor_15 rfl (lv_at hl 1 rfl) ?_
    obtain ⟨g1, h⟩ := h
    refine db_iald S hw (Nat.le_of_ble_eq_true rfl) db_s97 g1 dX11_unitsFor_16 ?_
    refine lv_icmp_gt (tgt := 115) hx hb dX11_unitsFor_17 (by decide) (fun c12 => ?_) (fun c12 => ?_)
    · have h := h.1 c12
      refine lv_iload_n hx hb dX11_unitsFor_115 rfl (lv_at hl 3 rfl) ?_
      exact db_iret S hr hlocks hw h dX11_unitsFor_116
    · have h := h.2 c12
      refine lv_iload_n hx hb dX11_unitsFor_20 rfl (lv_at hl 2 rfl) ?_
      refine lv_iload hx hb dX11_unitsFor_21 (lv_at hl 5 rfl) ?_
      refine lv_aload_n hx hb dX11_unitsFor_23 rfl (lv_at hl 0 rfl) ?_
      refine lv_iload_n hx hb dX11_unitsFor_24 rfl (lv_at hl 1 rfl) ?_
      refine lv_iconst (v := (0 : Int32)) hx hb dX11_unitsFor_25 (by decide) ?_
      refine db_callVi S hw (Nat.le_of_ble_eq_true rfl) db_s90 (C := RX11) (T := TX11) (N := 19) (As := [.int x1, .int (0 : Int32)]) rfl (ct_X11_pay  h) gX11_unitsFor_X11_pay rfl ⟨rfl, rfl, Nat.le_of_ble_eq_true rfl, Nat.le_of_ble_eq_true rfl⟩ 2 rfl (by decide +kernel) hl.1 rfl (Nat.le_of_ble_eq_true rfl) dX11_unitsFor_26 ⟨Nat.zero_le _, Nat.zero_le _⟩ (fun r2 X2 H locs h hw => ?_)
      refine lv_imul hx hb dX11_unitsFor_29 ?_
      refine lv_isub hx hb dX11_unitsFor_30 ?_
      refine lv_istore (lv' := [(6, .int (x2 - (x5 * r2))), (0, .ref (db_ad E 90)), (1, .int x1), (2, .int x2), (3, .int x3), (4, .int x4), (5, .int x5)]) hx hb dX11_unitsFor_31 hl (by decide) rfl (fun ls hl => ?_)
      refine lv_aload_n hx hb dX11_unitsFor_33 rfl (lv_at hl 1 rfl) ?_
      refine db_getr S hw (Nat.le_of_ble_eq_true rfl) db_s90 (C := RX11) (T := TX11) (N := 19) rfl hiX11 7 (by decide) (r := 95) rfl (List.mem_of_getElem? (i := 2) rfl) dX11_unitsFor_34 ?_
      refine lv_sipush (v := (1001 : Int32)) hx hb dX11_unitsFor_37 (by decide) ?_
      refine lv_iload_n hx hb dX11_unitsFor_40 rfl (lv_at hl 2 rfl) ?_
      refine lv_iconst (v := (1 : Int32)) hx hb dX11_unitsFor_41 (by decide) ?_
      refine lv_iadd hx hb dX11_unitsFor_42 ?_
      refine lv_imul hx hb dX11_unitsFor_43 ?_
      refine lv_iload hx hb dX11_unitsFor_44 (lv_at hl 0 rfl) ?_
      refine lv_if_ge (tgt := 53) hx hb dX11_unitsFor_46 (by decide) (fun c11 => ?_) (fun c11 => ?_)
      · have h := h.1 c11
        refine lv_iload hx hb dX11_unitsFor_53 (lv_at hl 0 rfl) ?_
        refine lv_iadd hx hb dX11_unitsFor_55 ?_
        obtain ⟨g3, h⟩ := h
        refine db_iald S hw (Nat.le_of_ble_eq_true rfl) db_s95 g3 dX11_unitsFor_56 ?_
        refine lv_topi (fun z4 e4 => ?_)
        have h := h z4 e4
        refine lv_istore (lv' := [(7, .int z4), (6, .int (x2 - (x5 * r2))), (0, .ref (db_ad E 90)), (1, .int x1), (2, .int x2), (3, .int x3), (4, .int x4), (5, .int x5)]) hx hb dX11_unitsFor_57 hl (by decide) rfl (fun ls hl => ?_)
        refine lv_iload hx hb dX11_unitsFor_59 (lv_at hl 0 rfl) ?_
        refine lv_if_lt (tgt := 78) hx hb dX11_unitsFor_61 (by decide) (fun c6 => ?_) (fun c6 => ?_)
        · have h := h.1 c6
          exact tw_X11_unitsFor_78 S hr hlocks  ih _ _ _ _ _ _ _ _ _ _ _ h hw (lv_sub hl [2, 3, 4, 5, 6, 7, 1, 0] rfl)
        · have h := h.2 c6
          refine lv_iload hx hb dX11_unitsFor_64 (lv_at hl 0 rfl) ?_
          refine lv_iload hx hb dX11_unitsFor_66 (lv_at hl 7 rfl) ?_
          refine lv_aload_n hx hb dX11_unitsFor_68 rfl (lv_at hl 2 rfl) ?_
          refine lv_iload_n hx hb dX11_unitsFor_69 rfl (lv_at hl 3 rfl) ?_
          refine lv_iconst (v := (1 : Int32)) hx hb dX11_unitsFor_70 (by decide) ?_
          refine db_callVi S hw (Nat.le_of_ble_eq_true rfl) db_s90 (C := RX11) (T := TX11) (N := 19) (As := [.int x1, .int (1 : Int32)]) rfl (ct_X11_pay  h) gX11_unitsFor_X11_pay rfl ⟨rfl, rfl, Nat.le_of_ble_eq_true rfl, Nat.le_of_ble_eq_true rfl⟩ 2 rfl (by decide +kernel) hl.1 rfl (Nat.le_of_ble_eq_true rfl) dX11_unitsFor_71 ⟨Nat.zero_le _, Nat.zero_le _⟩ (fun r5 X5 H locs h hw => ?_)
          refine lv_imul hx hb dX11_unitsFor_74 ?_
          refine lv_iadd hx hb dX11_unitsFor_75 ?_
          refine lv_istore (lv' := [(7, .int (z4 + (x5 * r5))), (6, .int (x2 - (x5 * r2))), (0, .ref (db_ad E 90)), (1, .int x1), (2, .int x2), (3, .int x3), (4, .int x4), (5, .int x5)]) hx hb dX11_unitsFor_76 hl (by decide) rfl (fun ls hl => ?_)
          exact tw_X11_unitsFor_78 S hr hlocks  ih _ _ _ _ _ _ _ _ _ _ _ h hw (lv_sub hl [2, 3, 4, 5, 6, 7, 1, 0] rfl)
      · have h := h.2 c11
        refine lv_iconst (v := (0 : Int32)) hx hb dX11_unitsFor_49 (by decide) ?_
        refine lv_goto (tgt := 55) hx hb dX11_unitsFor_50 (by decide) ?_
        refine lv_iadd hx hb dX11_unitsFor_55 ?_
        obtain ⟨g7, h⟩ := h
        refine db_iald S hw (Nat.le_of_ble_eq_true rfl) db_s95 g7 dX11_unitsFor_56 ?_
        refine lv_topi (fun z8 e8 => ?_)
        have h := h z8 e8
        refine lv_istore (lv' := [(7, .int z8), (6, .int (x2 - (x5 * r2))), (0, .ref (db_ad E 90)), (1, .int x1), (2, .int x2), (3, .int x3), (4, .int x4), (5, .int x5)]) hx hb dX11_unitsFor_57 hl (by decide) rfl (fun ls hl => ?_)
        refine lv_iload hx hb dX11_unitsFor_59 (lv_at hl 0 rfl) ?_
        refine lv_if_lt (tgt := 78) hx hb dX11_unitsFor_61 (by decide) (fun c10 => ?_) (fun c10 => ?_)
        · have h := h.1 c10
          exact tw_X11_unitsFor_78 S hr hlocks  ih _ _ _ _ _ _ _ _ _ _ _ h hw (lv_sub hl [2, 3, 4, 5, 6, 7, 1, 0] rfl)
        · have h := h.2 c10
          refine lv_iload hx hb dX11_unitsFor_64 (lv_at hl 0 rfl) ?_
          refine lv_iload hx hb dX11_unitsFor_66 (lv_at hl 7 rfl) ?_
          refine lv_aload_n hx hb dX11_unitsFor_68 rfl (lv_at hl 2 rfl) ?_
          refine lv_iload_n hx hb dX11_unitsFor_69 rfl (lv_at hl 3 rfl) ?_
          refine lv_iconst (v := (1 : Int32)) hx hb dX11_unitsFor_70 (by decide) ?_
          refine db_callVi S hw (Nat.le_of_ble_eq_true rfl) db_s90 (C := RX11) (T := TX11) (N := 19) (As := [.int x1, .int (1 : Int32)]) rfl (ct_X11_pay  h) gX11_unitsFor_X11_pay rfl ⟨rfl, rfl, Nat.le_of_ble_eq_true rfl, Nat.le_of_ble_eq_true rfl⟩ 2 rfl (by decide +kernel) hl.1 rfl (Nat.le_of_ble_eq_true rfl) dX11_unitsFor_71 ⟨Nat.zero_le _, Nat.zero_le _⟩ (fun r9 X9 H locs h hw => ?_)
          refine lv_imul hx hb dX11_unitsFor_74 ?_
          refine lv_iadd hx hb dX11_unitsFor_75 ?_
          refine lv_istore (lv' := [(7, .int (z8 + (x5 * r9))), (6, .int (x2 - (x5 * r2))), (0, .ref (db_ad E 90)), (1, .int x1), (2, .int x2), (3, .int x3), (4, .int x4), (5, .int x5)]) hx hb dX11_unitsFor_76 hl (by decide) rfl (fun ls hl => ?_)
          exact tw_X11_unitsFor_78 S hr hlocks  ih _ _ _ _ _ _ _ _ _ _ _ h hw (lv_sub hl [2, 3, 4, 5, 6, 7, 1, 0] rfl)
def wp_X11_unitsFor  (X : db_St) (x1 : Int32) (x2 : Int32) (Q : Int32 → db_St → Prop) : Prop := (∃ f_, wp_X11_unitsFor_9 Q f_ X x1 x2 (-9 : Int32) (0 : Int32) (0 : Int32))
set_option maxHeartbeats 4000000 in
set_option maxRecDepth 100000 in
theorem ct_X11_unitsFor {l : Launch} {E : db_E}  {X : db_St} {x1 : Int32} {x2 : Int32} {Q : Int32 → db_St → Prop} (h : wp_X11_unitsFor  X x1 x2 Q) : db_MI l E yX11_unitsFor wsX11_unitsFor rm_X11_unitsFor X [.ref (db_ad E 90), .int x1, .int x2] Q := by
  intro sz
  unfold wp_X11_unitsFor at h
  refine Met.ofW (cc := cX11_unitsFor) (maxL := 8) (ret := (some .int)) (by decide) rfl ?_
  intro p e s m args below meth c s₁ B hml hv
  obtain ⟨rfl, hsz, hU⟩ := hv
  subst hsz
  have S : CallFix p m c cX11_unitsFor 8 s ([.ref (db_ad E 90), .int x1, .int x2] : List Value).toArray wsX11_unitsFor RX11 := ⟨B.exec, B.bytes, hml, findClass_of_methodNamed B.named, atoms_spec (ws := wsX11_unitsFor) B.pre⟩
  have hx := S.1
  have hb := S.2.1
  have hr := B.returns
  have hlocks := B.notSynchronized
  have hw := db_start hU
  have hiX11 : ∀ w ∈ wsX110, w ∈ wsX11_unitsFor := fun w_ h_ => List.mem_cons_of_mem _ (List.mem_append_right _ h_)
  have hl := lv_entry ([.ref (db_ad E 90), .int x1, .int x2]) (n := 8) (Nat.le_of_ble_eq_true rfl)
  rw [lg_entry_eq]
  generalize (lg_sl ([.ref (db_ad E 90), .int x1, .int x2]) ++ List.replicate (8 - (lg_sl ([.ref (db_ad E 90), .int x1, .int x2])).length) Slot.unset).toArray = ls at hl ⊢
  have hl : lv_has ls 8 [(0, .ref (db_ad E 90)), (1, .int x1), (2, .int x2)] := hl
  refine lv_bipush (v := (-9 : Int32)) hx hb dX11_unitsFor_0 (by decide) ?_
  refine lv_istore_n (lv' := [(3, .int (-9 : Int32)), (0, .ref (db_ad E 90)), (1, .int x1), (2, .int x2)]) hx hb dX11_unitsFor_2 rfl hl (by decide) rfl (fun ls hl => ?_)
  refine lv_iconst (v := (0 : Int32)) hx hb dX11_unitsFor_3 (by decide) ?_
  refine lv_istore (lv' := [(4, .int (0 : Int32)), (3, .int (-9 : Int32)), (0, .ref (db_ad E 90)), (1, .int x1), (2, .int x2)]) hx hb dX11_unitsFor_4 hl (by decide) rfl (fun ls hl => ?_)
  refine lv_iconst (v := (0 : Int32)) hx hb dX11_unitsFor_6 (by decide) ?_
  refine lv_istore (lv' := [(5, .int (0 : Int32)), (4, .int (0 : Int32)), (3, .int (-9 : Int32)), (0, .ref (db_ad E 90)), (1, .int x1), (2, .int x2)]) hx hb dX11_unitsFor_7 hl (by decide) rfl (fun ls hl => ?_)
  obtain ⟨f_, h⟩ := h
  exact tw_X11_unitsFor_9 S hr hlocks   f_ _ _ _ _ _ _ _ _ _ h hw (lv_sub hl [3, 4, 5, 2, 1, 0] rfl)
-- DaysOnBreadModel.findLeast(II)I
abbrev rm_X11_findLeast : Room := { frames := 3, cells := 0, slots := 0, locals := 67 }
def wp_X11_findLeast_191 (Q : Int32 → db_St → Prop) : Nat → db_St → Int32 → Int32 → Int32 → Prop
  | 0, _, _, _, _ => False
  | n_ + 1, X, x1, x3, x4 => (((6 : Int32) ≤ x4 → (vp_in ((10 : Int32) * x1) 7007 ∧ Q (X.1 95 (((10 : Int32) * x1)).toNatClampNeg) X)) ∧ (¬ ((6 : Int32) ≤ x4) → wp_X11_unitsFor X x4 x3 (fun r2 X2 => (vp_in x4 6 ∧ (∀ X4, X4 = (db_si X2 96 (x4).toNatClampNeg r2) → (vp_in x4 6 ∧ wp_X11_pay X4 x4 (0 : Int32) (fun r6 X6 => ((x3 ≤ ((X4.1 96 (x4).toNatClampNeg) * r6) → wp_X11_findLeast_191 Q n_ X6 x1 (0 : Int32) (x4 + (1 : Int32))) ∧ (¬ (x3 ≤ ((X4.1 96 (x4).toNatClampNeg) * r6)) → (vp_in x4 6 ∧ wp_X11_pay X6 x4 (0 : Int32) (fun r8 X8 => wp_X11_findLeast_191 Q n_ X8 x1 (x3 - ((X6.1 96 (x4).toNatClampNeg) * r8)) (x4 + (1 : Int32)))))))))))))
set_option maxHeartbeats 4000000 in
set_option maxRecDepth 100000 in
theorem tw_X11_findLeast_191 {p : Program} {l : Launch} {e : Env} {s : State} {m : MethodId} {args : Array Value} {below : List Frame} {meth : Method} {c : Code} {E : db_E} (S : CallFix p m c cX11_findLeast 7 s args wsX11_findLeast RX11) (hr : meth.sig.returnType = (some .int)) (hlocks : meth.locks = false)  {Q : Int32 → db_St → Prop} : ∀ (n : Nat) (X : db_St) (x1 : Int32) (x3 : Int32) (x4 : Int32) (H : Heap) (locs : List Loc) (ls : Array Slot), wp_X11_findLeast_191 Q n X x1 x3 x4 → db_HW E (db_Aw E s.heap.size) s X H locs → lv_has ls 7 [(0, .ref (db_ad E 90)), (1, .int x1), (3, .int x3), (4, .int x4)] → W p l e rm_X11_findLeast s m args below meth c H locs 0 0 (MQ below (va_Qi Q (db_Po E) (db_Aw E s.heap.size)) args s 0 0 (db_Aw E s.heap.size)) (F0 m 191 ls []) := by
  have hx := S.1
  have hb := S.2.1
  have hiX11 : ∀ w ∈ wsX110, w ∈ wsX11_findLeast := fun w_ h_ => List.mem_cons_of_mem _ (List.mem_append_right _ h_)
  intro n
  induction n with
  | zero =>
    intro X x1 x3 x4 H locs ls h hw hl
    exact False.elim h
  | succ n_ ih =>
    intro X x1 x3 x4 H locs ls h hw hl
    unfold wp_X11_findLeast_191 at h
    refine lv_iload hx hb dX11_findLeast_191 (lv_at hl 3 rfl) ?_
    refine lv_bipush (v := (6 : Int32)) hx hb dX11_findLeast_193 (by decide) ?_
    refine lv_icmp_ge (tgt := 259) hx hb dX11_findLeast_195 (by decide) (fun c10 => ?_) (fun c10 => ?_)
    · have h := h.1 c10
      refine lv_aload_n hx hb dX11_findLeast_259 rfl (lv_at hl 0 rfl) ?_
      refine db_getr S hw (Nat.le_of_ble_eq_true rfl) db_s90 (C := RX11) (T := TX11) (N := 19) rfl hiX11 7 (by decide) (r := 95) rfl (List.mem_of_getElem? (i := 1) rfl) dX11_findLeast_260 ?_
      refine lv_bipush (v := (10 : Int32)) hx hb dX11_findLeast_263 (by decide) ?_
      refine lv_iload_n hx hb dX11_findLeast_265 rfl (lv_at hl 1 rfl) ?_
      refine lv_imul hx hb dX11_findLeast_266 ?_
      obtain ⟨g1, h⟩ := h
      refine db_iald S hw (Nat.le_of_ble_eq_true rfl) db_s95 g1 dX11_findLeast_267 ?_
      exact db_iret S hr hlocks hw h dX11_findLeast_268
    · have h := h.2 c10
      refine lv_aload_n hx hb dX11_findLeast_198 rfl (lv_at hl 0 rfl) ?_
      refine db_getr S hw (Nat.le_of_ble_eq_true rfl) db_s90 (C := RX11) (T := TX11) (N := 19) rfl hiX11 8 (by decide) (r := 96) rfl (List.mem_of_getElem? (i := 3) rfl) dX11_findLeast_199 ?_
      refine lv_iload hx hb dX11_findLeast_202 (lv_at hl 3 rfl) ?_
      refine lv_aload_n hx hb dX11_findLeast_204 rfl (lv_at hl 0 rfl) ?_
      refine lv_iload hx hb dX11_findLeast_205 (lv_at hl 3 rfl) ?_
      refine lv_iload_n hx hb dX11_findLeast_207 rfl (lv_at hl 2 rfl) ?_
      refine db_callVi S hw (Nat.le_of_ble_eq_true rfl) db_s90 (C := RX11) (T := TX11) (N := 19) (As := [.int x4, .int x3]) rfl (ct_X11_unitsFor  h) gX11_findLeast_X11_unitsFor rfl ⟨rfl, rfl, Nat.le_of_ble_eq_true rfl, Nat.le_of_ble_eq_true rfl⟩ 2 rfl (by decide +kernel) hl.1 rfl (Nat.le_of_ble_eq_true rfl) dX11_findLeast_208 ⟨Nat.zero_le _, Nat.zero_le _⟩ (fun r2 X2 H locs h hw => ?_)
      obtain ⟨g3, h⟩ := h
      refine db_iast S hw (Nat.le_of_ble_eq_true rfl) db_s96 g3 dX11_findLeast_211 (fun H locs hw => ?_)
      obtain ⟨X4, e4, hw⟩ : ∃ Z_, Z_ = (db_si X2 96 (x4).toNatClampNeg r2) ∧ db_HW E (db_Aw E s.heap.size) s Z_ H locs := ⟨_, rfl, hw⟩
      have h := h X4 e4
      refine lv_iload_n hx hb dX11_findLeast_212 rfl (lv_at hl 2 rfl) ?_
      refine lv_aload_n hx hb dX11_findLeast_213 rfl (lv_at hl 0 rfl) ?_
      refine db_getr S hw (Nat.le_of_ble_eq_true rfl) db_s90 (C := RX11) (T := TX11) (N := 19) rfl hiX11 8 (by decide) (r := 96) rfl (List.mem_of_getElem? (i := 3) rfl) dX11_findLeast_214 ?_
      refine lv_iload hx hb dX11_findLeast_217 (lv_at hl 3 rfl) ?_
      obtain ⟨g5, h⟩ := h
      refine db_iald S hw (Nat.le_of_ble_eq_true rfl) db_s96 g5 dX11_findLeast_219 ?_
      refine lv_aload_n hx hb dX11_findLeast_220 rfl (lv_at hl 0 rfl) ?_
      refine lv_iload hx hb dX11_findLeast_221 (lv_at hl 3 rfl) ?_
      refine lv_iconst (v := (0 : Int32)) hx hb dX11_findLeast_223 (by decide) ?_
      refine db_callVi S hw (Nat.le_of_ble_eq_true rfl) db_s90 (C := RX11) (T := TX11) (N := 19) (As := [.int x4, .int (0 : Int32)]) rfl (ct_X11_pay  h) gX11_findLeast_X11_pay rfl ⟨rfl, rfl, Nat.le_of_ble_eq_true rfl, Nat.le_of_ble_eq_true rfl⟩ 2 rfl (by decide +kernel) hl.1 rfl (Nat.le_of_ble_eq_true rfl) dX11_findLeast_224 ⟨Nat.zero_le _, Nat.zero_le _⟩ (fun r6 X6 H locs h hw => ?_)
      refine lv_imul hx hb dX11_findLeast_227 ?_
      refine lv_icmp_le (tgt := 251) hx hb dX11_findLeast_228 (by decide) (fun c9 => ?_) (fun c9 => ?_)
      · have h := h.1 c9
        refine lv_iconst (v := (0 : Int32)) hx hb dX11_findLeast_251 (by decide) ?_
        refine lv_istore_n (lv' := [(3, .int (0 : Int32)), (0, .ref (db_ad E 90)), (1, .int x1), (4, .int x4)]) hx hb dX11_findLeast_252 rfl hl (by decide) rfl (fun ls hl => ?_)
        refine lv_iinc (v := (x4 + (1 : Int32))) (lv' := [(4, .int (x4 + (1 : Int32))), (3, .int (0 : Int32)), (0, .ref (db_ad E 90)), (1, .int x1)]) hx hb dX11_findLeast_253 hl (k := 3) rfl (congrArg (fun z_ => x4 + z_) (show Int32.ofInt (1) = (1 : Int32) by decide)) (by decide) rfl (fun ls hl => ?_)
        refine lv_goto (tgt := 191) hx hb dX11_findLeast_256 (by decide) ?_
        exact ih _ _ _ _ _ _ _ h hw (lv_sub hl [2, 3, 1, 0] rfl)
      · have h := h.2 c9
        refine lv_iload_n hx hb dX11_findLeast_231 rfl (lv_at hl 2 rfl) ?_
        refine lv_aload_n hx hb dX11_findLeast_232 rfl (lv_at hl 0 rfl) ?_
        refine db_getr S hw (Nat.le_of_ble_eq_true rfl) db_s90 (C := RX11) (T := TX11) (N := 19) rfl hiX11 8 (by decide) (r := 96) rfl (List.mem_of_getElem? (i := 3) rfl) dX11_findLeast_233 ?_
        refine lv_iload hx hb dX11_findLeast_236 (lv_at hl 3 rfl) ?_
        obtain ⟨g7, h⟩ := h
        refine db_iald S hw (Nat.le_of_ble_eq_true rfl) db_s96 g7 dX11_findLeast_238 ?_
        refine lv_aload_n hx hb dX11_findLeast_239 rfl (lv_at hl 0 rfl) ?_
        refine lv_iload hx hb dX11_findLeast_240 (lv_at hl 3 rfl) ?_
        refine lv_iconst (v := (0 : Int32)) hx hb dX11_findLeast_242 (by decide) ?_
        refine db_callVi S hw (Nat.le_of_ble_eq_true rfl) db_s90 (C := RX11) (T := TX11) (N := 19) (As := [.int x4, .int (0 : Int32)]) rfl (ct_X11_pay  h) gX11_findLeast_X11_pay rfl ⟨rfl, rfl, Nat.le_of_ble_eq_true rfl, Nat.le_of_ble_eq_true rfl⟩ 2 rfl (by decide +kernel) hl.1 rfl (Nat.le_of_ble_eq_true rfl) dX11_findLeast_243 ⟨Nat.zero_le _, Nat.zero_le _⟩ (fun r8 X8 H locs h hw => ?_)
        refine lv_imul hx hb dX11_findLeast_246 ?_
        refine lv_isub hx hb dX11_findLeast_247 ?_
        refine lv_goto (tgt := 252) hx hb dX11_findLeast_248 (by decide) ?_
        refine lv_istore_n (lv' := [(3, .int (x3 - ((X6.1 96 (x4).toNatClampNeg) * r8))), (0, .ref (db_ad E 90)), (1, .int x1), (4, .int x4)]) hx hb dX11_findLeast_252 rfl hl (by decide) rfl (fun ls hl => ?_)
        refine lv_iinc (v := (x4 + (1 : Int32))) (lv' := [(4, .int (x4 + (1 : Int32))), (3, .int (x3 - ((X6.1 96 (x4).toNatClampNeg) * r8))), (0, .ref (db_ad E 90)), (1, .int x1)]) hx hb dX11_findLeast_253 hl (k := 3) rfl (congrArg (fun z_ => x4 + z_) (show Int32.ofInt (1) = (1 : Int32) by decide)) (by decide) rfl (fun ls hl => ?_)
        refine lv_goto (tgt := 191) hx hb dX11_findLeast_256 (by decide) ?_
        exact ih _ _ _ _ _ _ _ h hw (lv_sub hl [2, 3, 1, 0] rfl)
def wp_X11_findLeast_70 (k63 : db_St → Int32 → Int32 → Prop) (Q : Int32 → db_St → Prop) : Nat → db_St → Int32 → Int32 → Int32 → Prop
  | 0, _, _, _, _ => False
  | n_ + 1, X, x1, x3, x4 => ((((10 : Int32) * x1) < x4 → k63 X x1 (x3 + (-1 : Int32))) ∧ (¬ (((10 : Int32) * x1) < x4) → wp_X11_unitsFor X x3 x4 (fun r1 X1 => wp_X11_pay X1 x3 (0 : Int32) (fun r2 X2 => ((0 ≤ r1 → wp_X11_pay X2 x3 (1 : Int32) (fun r3 X3 => ((0 ≤ (x4 - (r1 * r2)) → (vp_in (((1001 : Int32) * (x3 + (1 : Int32))) + (x4 - (r1 * r2))) 7007 ∧ (vp_in (((1001 : Int32) * x3) + x4) 7007 ∧ (∀ X6, X6 = (db_si X3 95 ((((1001 : Int32) * x3) + x4)).toNatClampNeg ((r1 * r3) + (X3.1 95 ((((1001 : Int32) * (x3 + (1 : Int32))) + (x4 - (r1 * r2)))).toNatClampNeg))) → wp_X11_findLeast_70 k63 Q n_ X6 x1 x3 (x4 + (1 : Int32)))))) ∧ (¬ (0 ≤ (x4 - (r1 * r2))) → (vp_in (((1001 : Int32) * (x3 + (1 : Int32))) + (0 : Int32)) 7007 ∧ (vp_in (((1001 : Int32) * x3) + x4) 7007 ∧ (∀ X9, X9 = (db_si X3 95 ((((1001 : Int32) * x3) + x4)).toNatClampNeg ((r1 * r3) + (X3.1 95 ((((1001 : Int32) * (x3 + (1 : Int32))) + (0 : Int32))).toNatClampNeg))) → wp_X11_findLeast_70 k63 Q n_ X9 x1 x3 (x4 + (1 : Int32))))))))) ∧ (¬ (0 ≤ r1) → (vp_in (((1001 : Int32) * x3) + x4) 7007 ∧ (∀ X12, X12 = (db_si X2 95 ((((1001 : Int32) * x3) + x4)).toNatClampNeg (-9 : Int32)) → wp_X11_findLeast_70 k63 Q n_ X12 x1 x3 (x4 + (1 : Int32))))))))))
set_option maxHeartbeats 4000000 in
set_option maxRecDepth 100000 in
theorem tw_X11_findLeast_70 {p : Program} {l : Launch} {e : Env} {s : State} {m : MethodId} {args : Array Value} {below : List Frame} {meth : Method} {c : Code} {E : db_E} (S : CallFix p m c cX11_findLeast 7 s args wsX11_findLeast RX11) (hr : meth.sig.returnType = (some .int)) (hlocks : meth.locks = false)  {Q : Int32 → db_St → Prop} {k63 : db_St → Int32 → Int32 → Prop} (hk63 : ∀ (X : db_St) (x1 : Int32) (x3 : Int32) (H : Heap) (locs : List Loc) (ls : Array Slot), k63 X x1 x3 → db_HW E (db_Aw E s.heap.size) s X H locs → lv_has ls 7 [(0, .ref (db_ad E 90)), (1, .int x1), (3, .int x3)] → W p l e rm_X11_findLeast s m args below meth c H locs 0 0 (MQ below (va_Qi Q (db_Po E) (db_Aw E s.heap.size)) args s 0 0 (db_Aw E s.heap.size)) (F0 m 63 ls [])) : ∀ (n : Nat) (X : db_St) (x1 : Int32) (x3 : Int32) (x4 : Int32) (H : Heap) (locs : List Loc) (ls : Array Slot), wp_X11_findLeast_70 k63 Q n X x1 x3 x4 → db_HW E (db_Aw E s.heap.size) s X H locs → lv_has ls 7 [(0, .ref (db_ad E 90)), (1, .int x1), (3, .int x3), (4, .int x4)] → W p l e rm_X11_findLeast s m args below meth c H locs 0 0 (MQ below (va_Qi Q (db_Po E) (db_Aw E s.heap.size)) args s 0 0 (db_Aw E s.heap.size)) (F0 m 70 ls []) := by
  have hx := S.1
  have hb := S.2.1
  have hiX11 : ∀ w ∈ wsX110, w ∈ wsX11_findLeast := fun w_ h_ => List.mem_cons_of_mem _ (List.mem_append_right _ h_)
  intro n
  induction n with
  | zero =>
    intro X x1 x3 x4 H locs ls h hw hl
    exact False.elim h
  | succ n_ ih =>
    intro X x1 x3 x4 H locs ls h hw hl
    unfold wp_X11_findLeast_70 at h
    refine lv_iload hx hb dX11_findLeast_70 (lv_at hl 3 rfl) ?_
    refine lv_bipush (v := (10 : Int32)) hx hb dX11_findLeast_72 (by decide) ?_
    refine lv_iload_n hx hb dX11_findLeast_74 rfl (lv_at hl 1 rfl) ?_
    refine lv_imul hx hb dX11_findLeast_75 ?_
    refine lv_icmp_gt (tgt := 165) hx hb dX11_findLeast_76 (by decide) (fun c14 => ?_) (fun c14 => ?_)
    · have h := h.1 c14
      refine lv_iinc (v := (x3 + (-1 : Int32))) (lv' := [(3, .int (x3 + (-1 : Int32))), (0, .ref (db_ad E 90)), (1, .int x1), (4, .int x4)]) hx hb dX11_findLeast_165 hl (k := 2) rfl (congrArg (fun z_ => x3 + z_) (show Int32.ofInt (-1) = (-1 : Int32) by decide)) (by decide) rfl (fun ls hl => ?_)
      refine lv_goto (tgt := 63) hx hb dX11_findLeast_168 (by decide) ?_
      exact hk63 _ _ _ _ _ _ h hw (lv_sub hl [1, 2, 0] rfl)
    · have h := h.2 c14
      refine lv_aload_n hx hb dX11_findLeast_79 rfl (lv_at hl 0 rfl) ?_
      refine lv_iload_n hx hb dX11_findLeast_80 rfl (lv_at hl 2 rfl) ?_
      refine lv_iload hx hb dX11_findLeast_81 (lv_at hl 3 rfl) ?_
      refine db_callVi S hw (Nat.le_of_ble_eq_true rfl) db_s90 (C := RX11) (T := TX11) (N := 19) (As := [.int x3, .int x4]) rfl (ct_X11_unitsFor  h) gX11_findLeast_X11_unitsFor rfl ⟨rfl, rfl, Nat.le_of_ble_eq_true rfl, Nat.le_of_ble_eq_true rfl⟩ 2 rfl (by decide +kernel) hl.1 rfl (Nat.le_of_ble_eq_true rfl) dX11_findLeast_83 ⟨Nat.zero_le _, Nat.zero_le _⟩ (fun r1 X1 H locs h hw => ?_)
      refine lv_istore (lv' := [(5, .int r1), (0, .ref (db_ad E 90)), (1, .int x1), (3, .int x3), (4, .int x4)]) hx hb dX11_findLeast_86 hl (by decide) rfl (fun ls hl => ?_)
      refine lv_iload hx hb dX11_findLeast_88 (lv_at hl 4 rfl) ?_
      refine lv_iload hx hb dX11_findLeast_90 (lv_at hl 0 rfl) ?_
      refine lv_aload_n hx hb dX11_findLeast_92 rfl (lv_at hl 1 rfl) ?_
      refine lv_iload_n hx hb dX11_findLeast_93 rfl (lv_at hl 3 rfl) ?_
      refine lv_iconst (v := (0 : Int32)) hx hb dX11_findLeast_94 (by decide) ?_
      refine db_callVi S hw (Nat.le_of_ble_eq_true rfl) db_s90 (C := RX11) (T := TX11) (N := 19) (As := [.int x3, .int (0 : Int32)]) rfl (ct_X11_pay  h) gX11_findLeast_X11_pay rfl ⟨rfl, rfl, Nat.le_of_ble_eq_true rfl, Nat.le_of_ble_eq_true rfl⟩ 2 rfl (by decide +kernel) hl.1 rfl (Nat.le_of_ble_eq_true rfl) dX11_findLeast_95 ⟨Nat.zero_le _, Nat.zero_le _⟩ (fun r2 X2 H locs h hw => ?_)
      refine lv_imul hx hb dX11_findLeast_98 ?_
      refine lv_isub hx hb dX11_findLeast_99 ?_
      refine lv_istore (lv' := [(6, .int (x4 - (r1 * r2))), (5, .int r1), (0, .ref (db_ad E 90)), (1, .int x1), (3, .int x3), (4, .int x4)]) hx hb dX11_findLeast_100 hl (by decide) rfl (fun ls hl => ?_)
      refine lv_aload_n hx hb dX11_findLeast_102 rfl (lv_at hl 2 rfl) ?_
      refine db_getr S hw (Nat.le_of_ble_eq_true rfl) db_s90 (C := RX11) (T := TX11) (N := 19) rfl hiX11 7 (by decide) (r := 95) rfl (List.mem_of_getElem? (i := 1) rfl) dX11_findLeast_103 ?_
      refine lv_sipush (v := (1001 : Int32)) hx hb dX11_findLeast_106 (by decide) ?_
      refine lv_iload_n hx hb dX11_findLeast_109 rfl (lv_at hl 4 rfl) ?_
      refine lv_imul hx hb dX11_findLeast_110 ?_
      refine lv_iload hx hb dX11_findLeast_111 (lv_at hl 5 rfl) ?_
      refine lv_iadd hx hb dX11_findLeast_113 ?_
      refine lv_iload hx hb dX11_findLeast_114 (lv_at hl 1 rfl) ?_
      refine lv_if_ge (tgt := 124) hx hb dX11_findLeast_116 (by decide) (fun c13 => ?_) (fun c13 => ?_)
      · have h := h.1 c13
        refine lv_iload hx hb dX11_findLeast_124 (lv_at hl 1 rfl) ?_
        refine lv_aload_n hx hb dX11_findLeast_126 rfl (lv_at hl 2 rfl) ?_
        refine lv_iload_n hx hb dX11_findLeast_127 rfl (lv_at hl 4 rfl) ?_
        refine lv_iconst (v := (1 : Int32)) hx hb dX11_findLeast_128 (by decide) ?_
        refine db_callVi S hw (Nat.le_of_ble_eq_true rfl) db_s90 (C := RX11) (T := TX11) (N := 19) (As := [.int x3, .int (1 : Int32)]) rfl (ct_X11_pay  h) gX11_findLeast_X11_pay rfl ⟨rfl, rfl, Nat.le_of_ble_eq_true rfl, Nat.le_of_ble_eq_true rfl⟩ 2 rfl (by decide +kernel) hl.1 rfl (Nat.le_of_ble_eq_true rfl) dX11_findLeast_129 ⟨Nat.zero_le _, Nat.zero_le _⟩ (fun r3 X3 H locs h hw => ?_)
        refine lv_imul hx hb dX11_findLeast_132 ?_
        refine lv_aload_n hx hb dX11_findLeast_133 rfl (lv_at hl 2 rfl) ?_
        refine db_getr S hw (Nat.le_of_ble_eq_true rfl) db_s90 (C := RX11) (T := TX11) (N := 19) rfl hiX11 7 (by decide) (r := 95) rfl (List.mem_of_getElem? (i := 1) rfl) dX11_findLeast_134 ?_
        refine lv_sipush (v := (1001 : Int32)) hx hb dX11_findLeast_137 (by decide) ?_
        refine lv_iload_n hx hb dX11_findLeast_140 rfl (lv_at hl 4 rfl) ?_
        refine lv_iconst (v := (1 : Int32)) hx hb dX11_findLeast_141 (by decide) ?_
        refine lv_iadd hx hb dX11_findLeast_142 ?_
        refine lv_imul hx hb dX11_findLeast_143 ?_
        refine lv_iload hx hb dX11_findLeast_144 (lv_at hl 0 rfl) ?_
        refine lv_if_ge (tgt := 153) hx hb dX11_findLeast_146 (by decide) (fun c10 => ?_) (fun c10 => ?_)
        · have h := h.1 c10
          refine lv_iload hx hb dX11_findLeast_153 (lv_at hl 0 rfl) ?_
          refine lv_iadd hx hb dX11_findLeast_155 ?_
          obtain ⟨g4, h⟩ := h
          refine db_iald S hw (Nat.le_of_ble_eq_true rfl) db_s95 g4 dX11_findLeast_156 ?_
          refine lv_iadd hx hb dX11_findLeast_157 ?_
          obtain ⟨g5, h⟩ := h
          refine db_iast S hw (Nat.le_of_ble_eq_true rfl) db_s95 g5 dX11_findLeast_158 (fun H locs hw => ?_)
          obtain ⟨X6, e6, hw⟩ : ∃ Z_, Z_ = (db_si X3 95 ((((1001 : Int32) * x3) + x4)).toNatClampNeg ((r1 * r3) + (X3.1 95 ((((1001 : Int32) * (x3 + (1 : Int32))) + (x4 - (r1 * r2)))).toNatClampNeg))) ∧ db_HW E (db_Aw E s.heap.size) s Z_ H locs := ⟨_, rfl, hw⟩
          have h := h X6 e6
          refine lv_iinc (v := (x4 + (1 : Int32))) (lv' := [(4, .int (x4 + (1 : Int32))), (6, .int (x4 - (r1 * r2))), (5, .int r1), (0, .ref (db_ad E 90)), (1, .int x1), (3, .int x3)]) hx hb dX11_findLeast_159 hl (k := 5) rfl (congrArg (fun z_ => x4 + z_) (show Int32.ofInt (1) = (1 : Int32) by decide)) (by decide) rfl (fun ls hl => ?_)
          refine lv_goto (tgt := 70) hx hb dX11_findLeast_162 (by decide) ?_
          exact ih _ _ _ _ _ _ _ h hw (lv_sub hl [3, 4, 5, 0] rfl)
        · have h := h.2 c10
          refine lv_iconst (v := (0 : Int32)) hx hb dX11_findLeast_149 (by decide) ?_
          refine lv_goto (tgt := 155) hx hb dX11_findLeast_150 (by decide) ?_
          refine lv_iadd hx hb dX11_findLeast_155 ?_
          obtain ⟨g7, h⟩ := h
          refine db_iald S hw (Nat.le_of_ble_eq_true rfl) db_s95 g7 dX11_findLeast_156 ?_
          refine lv_iadd hx hb dX11_findLeast_157 ?_
          obtain ⟨g8, h⟩ := h
          refine db_iast S hw (Nat.le_of_ble_eq_true rfl) db_s95 g8 dX11_findLeast_158 (fun H locs hw => ?_)
          obtain ⟨X9, e9, hw⟩ : ∃ Z_, Z_ = (db_si X3 95 ((((1001 : Int32) * x3) + x4)).toNatClampNeg ((r1 * r3) + (X3.1 95 ((((1001 : Int32) * (x3 + (1 : Int32))) + (0 : Int32))).toNatClampNeg))) ∧ db_HW E (db_Aw E s.heap.size) s Z_ H locs := ⟨_, rfl, hw⟩
          have h := h X9 e9
          refine lv_iinc (v := (x4 + (1 : Int32))) (lv' := [(4, .int (x4 + (1 : Int32))), (6, .int (x4 - (r1 * r2))), (5, .int r1), (0, .ref (db_ad E 90)), (1, .int x1), (3, .int x3)]) hx hb dX11_findLeast_159 hl (k := 5) rfl (congrArg (fun z_ => x4 + z_) (show Int32.ofInt (1) = (1 : Int32) by decide)) (by decide) rfl (fun ls hl => ?_)
          refine lv_goto (tgt := 70) hx hb dX11_findLeast_162 (by decide) ?_
          exact ih _ _ _ _ _ _ _ h hw (lv_sub hl [3, 4, 5, 0] rfl)
      · have h := h.2 c13
        refine lv_bipush (v := (-9 : Int32)) hx hb dX11_findLeast_119 (by decide) ?_
        refine lv_goto (tgt := 158) hx hb dX11_findLeast_121 (by decide) ?_
        obtain ⟨g11, h⟩ := h
        refine db_iast S hw (Nat.le_of_ble_eq_true rfl) db_s95 g11 dX11_findLeast_158 (fun H locs hw => ?_)
        obtain ⟨X12, e12, hw⟩ : ∃ Z_, Z_ = (db_si X2 95 ((((1001 : Int32) * x3) + x4)).toNatClampNeg (-9 : Int32)) ∧ db_HW E (db_Aw E s.heap.size) s Z_ H locs := ⟨_, rfl, hw⟩
        have h := h X12 e12
        refine lv_iinc (v := (x4 + (1 : Int32))) (lv' := [(4, .int (x4 + (1 : Int32))), (6, .int (x4 - (r1 * r2))), (5, .int r1), (0, .ref (db_ad E 90)), (1, .int x1), (3, .int x3)]) hx hb dX11_findLeast_159 hl (k := 5) rfl (congrArg (fun z_ => x4 + z_) (show Int32.ofInt (1) = (1 : Int32) by decide)) (by decide) rfl (fun ls hl => ?_)
        refine lv_goto (tgt := 70) hx hb dX11_findLeast_162 (by decide) ?_
        exact ih _ _ _ _ _ _ _ h hw (lv_sub hl [3, 4, 5, 0] rfl)
def wp_X11_findLeast_63 (Q : Int32 → db_St → Prop) : Nat → db_St → Int32 → Int32 → Prop
  | 0, _, _, _ => False
  | n_ + 1, X, x1, x3 => ((x3 < 0 → (vp_in ((10 : Int32) * x1) 7007 ∧ ((0 ≤ (X.1 95 (((10 : Int32) * x1)).toNatClampNeg) → (∃ f_, wp_X11_findLeast_191 Q f_ X x1 ((10 : Int32) * x1) (0 : Int32))) ∧ (¬ (0 ≤ (X.1 95 (((10 : Int32) * x1)).toNatClampNeg)) → Q (-9 : Int32) X)))) ∧ (¬ (x3 < 0) → (∃ f_, wp_X11_findLeast_70 (wp_X11_findLeast_63 Q n_) Q f_ X x1 x3 (0 : Int32))))
set_option maxHeartbeats 4000000 in
set_option maxRecDepth 100000 in
theorem tw_X11_findLeast_63 {p : Program} {l : Launch} {e : Env} {s : State} {m : MethodId} {args : Array Value} {below : List Frame} {meth : Method} {c : Code} {E : db_E} (S : CallFix p m c cX11_findLeast 7 s args wsX11_findLeast RX11) (hr : meth.sig.returnType = (some .int)) (hlocks : meth.locks = false)  {Q : Int32 → db_St → Prop} : ∀ (n : Nat) (X : db_St) (x1 : Int32) (x3 : Int32) (H : Heap) (locs : List Loc) (ls : Array Slot), wp_X11_findLeast_63 Q n X x1 x3 → db_HW E (db_Aw E s.heap.size) s X H locs → lv_has ls 7 [(0, .ref (db_ad E 90)), (1, .int x1), (3, .int x3)] → W p l e rm_X11_findLeast s m args below meth c H locs 0 0 (MQ below (va_Qi Q (db_Po E) (db_Aw E s.heap.size)) args s 0 0 (db_Aw E s.heap.size)) (F0 m 63 ls []) := by
  have hx := S.1
  have hb := S.2.1
  have hiX11 : ∀ w ∈ wsX110, w ∈ wsX11_findLeast := fun w_ h_ => List.mem_cons_of_mem _ (List.mem_append_right _ h_)
  intro n
  induction n with
  | zero =>
    intro X x1 x3 H locs ls h hw hl
    exact False.elim h
  | succ n_ ih =>
    intro X x1 x3 H locs ls h hw hl
    unfold wp_X11_findLeast_63 at h
    refine lv_iload_n hx hb dX11_findLeast_63 rfl (lv_at hl 2 rfl) ?_
    refine lv_if_lt (tgt := 171) hx hb dX11_findLeast_64 (by decide) (fun c3 => ?_) (fun c3 => ?_)
    · have h := h.1 c3
      refine lv_bipush (v := (10 : Int32)) hx hb dX11_findLeast_171 (by decide) ?_
      refine lv_iload_n hx hb dX11_findLeast_173 rfl (lv_at hl 1 rfl) ?_
      refine lv_imul hx hb dX11_findLeast_174 ?_
      refine lv_istore_n (lv' := [(3, .int ((10 : Int32) * x1)), (0, .ref (db_ad E 90)), (1, .int x1)]) hx hb dX11_findLeast_175 rfl hl (by decide) rfl (fun ls hl => ?_)
      refine lv_aload_n hx hb dX11_findLeast_176 rfl (lv_at hl 1 rfl) ?_
      refine db_getr S hw (Nat.le_of_ble_eq_true rfl) db_s90 (C := RX11) (T := TX11) (N := 19) rfl hiX11 7 (by decide) (r := 95) rfl (List.mem_of_getElem? (i := 1) rfl) dX11_findLeast_177 ?_
      refine lv_iload_n hx hb dX11_findLeast_180 rfl (lv_at hl 0 rfl) ?_
      obtain ⟨g1, h⟩ := h
      refine db_iald S hw (Nat.le_of_ble_eq_true rfl) db_s95 g1 dX11_findLeast_181 ?_
      refine lv_if_ge (tgt := 188) hx hb dX11_findLeast_182 (by decide) (fun c2 => ?_) (fun c2 => ?_)
      · have h := h.1 c2
        refine lv_iconst (v := (0 : Int32)) hx hb dX11_findLeast_188 (by decide) ?_
        refine lv_istore (lv' := [(4, .int (0 : Int32)), (3, .int ((10 : Int32) * x1)), (0, .ref (db_ad E 90)), (1, .int x1)]) hx hb dX11_findLeast_189 hl (by decide) rfl (fun ls hl => ?_)
        obtain ⟨f_, h⟩ := h
        exact tw_X11_findLeast_191 S hr hlocks   f_ _ _ _ _ _ _ _ h hw (lv_sub hl [2, 3, 1, 0] rfl)
      · have h := h.2 c2
        refine lv_bipush (v := (-9 : Int32)) hx hb dX11_findLeast_185 (by decide) ?_
        exact db_iret S hr hlocks hw h dX11_findLeast_187
    · have h := h.2 c3
      refine lv_iconst (v := (0 : Int32)) hx hb dX11_findLeast_67 (by decide) ?_
      refine lv_istore (lv' := [(4, .int (0 : Int32)), (0, .ref (db_ad E 90)), (1, .int x1), (3, .int x3)]) hx hb dX11_findLeast_68 hl (by decide) rfl (fun ls hl => ?_)
      obtain ⟨f_, h⟩ := h
      exact tw_X11_findLeast_70 S hr hlocks  ih f_ _ _ _ _ _ _ _ h hw (lv_sub hl [1, 2, 3, 0] rfl)
def wp_X11_findLeast_37 (Q : Int32 → db_St → Prop) : Nat → db_St → Int32 → Int32 → Int32 → Prop
  | 0, _, _, _, _ => False
  | n_ + 1, X, x1, x2, x3 => (((6 : Int32) ≤ x3 → (∃ f_, wp_X11_findLeast_63 Q f_ X x1 (5 : Int32))) ∧ (¬ ((6 : Int32) ≤ x3) → wp_X11_mostOf X x3 x2 (fun r1 X1 => (vp_in x3 6 ∧ (∀ X3, X3 = (db_si X1 97 (x3).toNatClampNeg r1) → wp_X11_findLeast_37 Q n_ X3 x1 x2 (x3 + (1 : Int32)))))))
set_option maxHeartbeats 4000000 in
set_option maxRecDepth 100000 in
theorem tw_X11_findLeast_37 {p : Program} {l : Launch} {e : Env} {s : State} {m : MethodId} {args : Array Value} {below : List Frame} {meth : Method} {c : Code} {E : db_E} (S : CallFix p m c cX11_findLeast 7 s args wsX11_findLeast RX11) (hr : meth.sig.returnType = (some .int)) (hlocks : meth.locks = false)  {Q : Int32 → db_St → Prop} : ∀ (n : Nat) (X : db_St) (x1 : Int32) (x2 : Int32) (x3 : Int32) (H : Heap) (locs : List Loc) (ls : Array Slot), wp_X11_findLeast_37 Q n X x1 x2 x3 → db_HW E (db_Aw E s.heap.size) s X H locs → lv_has ls 7 [(0, .ref (db_ad E 90)), (1, .int x1), (2, .int x2), (3, .int x3)] → W p l e rm_X11_findLeast s m args below meth c H locs 0 0 (MQ below (va_Qi Q (db_Po E) (db_Aw E s.heap.size)) args s 0 0 (db_Aw E s.heap.size)) (F0 m 37 ls []) := by
  have hx := S.1
  have hb := S.2.1
  have hiX11 : ∀ w ∈ wsX110, w ∈ wsX11_findLeast := fun w_ h_ => List.mem_cons_of_mem _ (List.mem_append_right _ h_)
  intro n
  induction n with
  | zero =>
    intro X x1 x2 x3 H locs ls h hw hl
    exact False.elim h
  | succ n_ ih =>
    intro X x1 x2 x3 H locs ls h hw hl
    unfold wp_X11_findLeast_37 at h
    refine lv_iload_n hx hb dX11_findLeast_37 rfl (lv_at hl 3 rfl) ?_
    refine lv_bipush (v := (6 : Int32)) hx hb dX11_findLeast_38 (by decide) ?_
    refine lv_icmp_ge (tgt := 61) hx hb dX11_findLeast_40 (by decide) (fun c4 => ?_) (fun c4 => ?_)
    · have h := h.1 c4
      refine lv_iconst (v := (5 : Int32)) hx hb dX11_findLeast_61 (by decide) ?_
      refine lv_istore_n (lv' := [(3, .int (5 : Int32)), (0, .ref (db_ad E 90)), (1, .int x1), (2, .int x2)]) hx hb dX11_findLeast_62 rfl hl (by decide) rfl (fun ls hl => ?_)
      obtain ⟨f_, h⟩ := h
      exact tw_X11_findLeast_63 S hr hlocks   f_ _ _ _ _ _ _ h hw (lv_sub hl [1, 2, 0] rfl)
    · have h := h.2 c4
      refine lv_aload_n hx hb dX11_findLeast_43 rfl (lv_at hl 0 rfl) ?_
      refine db_getr S hw (Nat.le_of_ble_eq_true rfl) db_s90 (C := RX11) (T := TX11) (N := 19) rfl hiX11 9 (by decide) (r := 97) rfl (List.mem_of_getElem? (i := 2) rfl) dX11_findLeast_44 ?_
      refine lv_iload_n hx hb dX11_findLeast_47 rfl (lv_at hl 3 rfl) ?_
      refine lv_aload_n hx hb dX11_findLeast_48 rfl (lv_at hl 0 rfl) ?_
      refine lv_iload_n hx hb dX11_findLeast_49 rfl (lv_at hl 3 rfl) ?_
      refine lv_iload_n hx hb dX11_findLeast_50 rfl (lv_at hl 2 rfl) ?_
      refine db_callVi S hw (Nat.le_of_ble_eq_true rfl) db_s90 (C := RX11) (T := TX11) (N := 19) (As := [.int x3, .int x2]) rfl (ct_X11_mostOf  h) gX11_findLeast_X11_mostOf rfl ⟨rfl, rfl, Nat.le_of_ble_eq_true rfl, Nat.le_of_ble_eq_true rfl⟩ 2 rfl (by decide +kernel) hl.1 rfl (Nat.le_of_ble_eq_true rfl) dX11_findLeast_51 ⟨Nat.zero_le _, Nat.zero_le _⟩ (fun r1 X1 H locs h hw => ?_)
      obtain ⟨g2, h⟩ := h
      refine db_iast S hw (Nat.le_of_ble_eq_true rfl) db_s97 g2 dX11_findLeast_54 (fun H locs hw => ?_)
      obtain ⟨X3, e3, hw⟩ : ∃ Z_, Z_ = (db_si X1 97 (x3).toNatClampNeg r1) ∧ db_HW E (db_Aw E s.heap.size) s Z_ H locs := ⟨_, rfl, hw⟩
      have h := h X3 e3
      refine lv_iinc (v := (x3 + (1 : Int32))) (lv' := [(3, .int (x3 + (1 : Int32))), (0, .ref (db_ad E 90)), (1, .int x1), (2, .int x2)]) hx hb dX11_findLeast_55 hl (k := 3) rfl (congrArg (fun z_ => x3 + z_) (show Int32.ofInt (1) = (1 : Int32) by decide)) (by decide) rfl (fun ls hl => ?_)
      refine lv_goto (tgt := 37) hx hb dX11_findLeast_58 (by decide) ?_
      exact ih _ _ _ _ _ _ _ h hw (lv_sub hl [1, 2, 3, 0] rfl)
def wp_X11_findLeast_2 (Q : Int32 → db_St → Prop) : Nat → db_St → Int32 → Int32 → Int32 → Prop
  | 0, _, _, _, _ => False
  | n_ + 1, X, x1, x2, x3 => (((1001 : Int32) ≤ x3 → (∃ f_, wp_X11_findLeast_37 Q f_ X x1 x2 (0 : Int32))) ∧ (¬ ((1001 : Int32) ≤ x3) → ((x3 = 0 → (vp_in ((6006 : Int32) + x3) 7007 ∧ (∀ X4, X4 = (db_si X 95 (((6006 : Int32) + x3)).toNatClampNeg (0 : Int32)) → wp_X11_findLeast_2 Q n_ X4 x1 x2 (x3 + (1 : Int32))))) ∧ (¬ x3 = 0 → (vp_in ((6006 : Int32) + x3) 7007 ∧ (∀ X2, X2 = (db_si X 95 (((6006 : Int32) + x3)).toNatClampNeg (-9 : Int32)) → wp_X11_findLeast_2 Q n_ X2 x1 x2 (x3 + (1 : Int32))))))))
set_option maxHeartbeats 4000000 in
set_option maxRecDepth 100000 in
theorem tw_X11_findLeast_2 {p : Program} {l : Launch} {e : Env} {s : State} {m : MethodId} {args : Array Value} {below : List Frame} {meth : Method} {c : Code} {E : db_E} (S : CallFix p m c cX11_findLeast 7 s args wsX11_findLeast RX11) (hr : meth.sig.returnType = (some .int)) (hlocks : meth.locks = false)  {Q : Int32 → db_St → Prop} : ∀ (n : Nat) (X : db_St) (x1 : Int32) (x2 : Int32) (x3 : Int32) (H : Heap) (locs : List Loc) (ls : Array Slot), wp_X11_findLeast_2 Q n X x1 x2 x3 → db_HW E (db_Aw E s.heap.size) s X H locs → lv_has ls 7 [(0, .ref (db_ad E 90)), (1, .int x1), (2, .int x2), (3, .int x3)] → W p l e rm_X11_findLeast s m args below meth c H locs 0 0 (MQ below (va_Qi Q (db_Po E) (db_Aw E s.heap.size)) args s 0 0 (db_Aw E s.heap.size)) (F0 m 2 ls []) := by
  have hx := S.1
  have hb := S.2.1
  have hiX11 : ∀ w ∈ wsX110, w ∈ wsX11_findLeast := fun w_ h_ => List.mem_cons_of_mem _ (List.mem_append_right _ h_)
  intro n
  induction n with
  | zero =>
    intro X x1 x2 x3 H locs ls h hw hl
    exact False.elim h
  | succ n_ ih =>
    intro X x1 x2 x3 H locs ls h hw hl
    unfold wp_X11_findLeast_2 at h
    refine lv_iload_n hx hb dX11_findLeast_2 rfl (lv_at hl 3 rfl) ?_
    refine lv_sipush (v := (1001 : Int32)) hx hb dX11_findLeast_3 (by decide) ?_
    refine lv_icmp_ge (tgt := 35) hx hb dX11_findLeast_6 (by decide) (fun c6 => ?_) (fun c6 => ?_)
    · have h := h.1 c6
      refine lv_iconst (v := (0 : Int32)) hx hb dX11_findLeast_35 (by decide) ?_
      refine lv_istore_n (lv' := [(3, .int (0 : Int32)), (0, .ref (db_ad E 90)), (1, .int x1), (2, .int x2)]) hx hb dX11_findLeast_36 rfl hl (by decide) rfl (fun ls hl => ?_)
      obtain ⟨f_, h⟩ := h
      exact tw_X11_findLeast_37 S hr hlocks   f_ _ _ _ _ _ _ _ h hw (lv_sub hl [1, 2, 3, 0] rfl)
    · have h := h.2 c6
      refine lv_aload_n hx hb dX11_findLeast_9 rfl (lv_at hl 0 rfl) ?_
      refine db_getr S hw (Nat.le_of_ble_eq_true rfl) db_s90 (C := RX11) (T := TX11) (N := 19) rfl hiX11 7 (by decide) (r := 95) rfl (List.mem_of_getElem? (i := 1) rfl) dX11_findLeast_10 ?_
      refine lv_sipush (v := (6006 : Int32)) hx hb dX11_findLeast_13 (by decide) ?_
      refine lv_iload_n hx hb dX11_findLeast_16 rfl (lv_at hl 3 rfl) ?_
      refine lv_iadd hx hb dX11_findLeast_17 ?_
      refine lv_iload_n hx hb dX11_findLeast_18 rfl (lv_at hl 3 rfl) ?_
      refine lv_if_ne (tgt := 26) hx hb dX11_findLeast_19 (by decide) (fun c5 => ?_) (fun c5 => ?_)
      · have h := h.2 c5
        refine lv_bipush (v := (-9 : Int32)) hx hb dX11_findLeast_26 (by decide) ?_
        obtain ⟨g1, h⟩ := h
        refine db_iast S hw (Nat.le_of_ble_eq_true rfl) db_s95 g1 dX11_findLeast_28 (fun H locs hw => ?_)
        obtain ⟨X2, e2, hw⟩ : ∃ Z_, Z_ = (db_si X 95 (((6006 : Int32) + x3)).toNatClampNeg (-9 : Int32)) ∧ db_HW E (db_Aw E s.heap.size) s Z_ H locs := ⟨_, rfl, hw⟩
        have h := h X2 e2
        refine lv_iinc (v := (x3 + (1 : Int32))) (lv' := [(3, .int (x3 + (1 : Int32))), (0, .ref (db_ad E 90)), (1, .int x1), (2, .int x2)]) hx hb dX11_findLeast_29 hl (k := 3) rfl (congrArg (fun z_ => x3 + z_) (show Int32.ofInt (1) = (1 : Int32) by decide)) (by decide) rfl (fun ls hl => ?_)
        refine lv_goto (tgt := 2) hx hb dX11_findLeast_32 (by decide) ?_
        exact ih _ _ _ _ _ _ _ h hw (lv_sub hl [1, 2, 3, 0] rfl)
      · have h := h.1 c5
        refine lv_iconst (v := (0 : Int32)) hx hb dX11_findLeast_22 (by decide) ?_
        refine lv_goto (tgt := 28) hx hb dX11_findLeast_23 (by decide) ?_
        obtain ⟨g3, h⟩ := h
        refine db_iast S hw (Nat.le_of_ble_eq_true rfl) db_s95 g3 dX11_findLeast_28 (fun H locs hw => ?_)
        obtain ⟨X4, e4, hw⟩ : ∃ Z_, Z_ = (db_si X 95 (((6006 : Int32) + x3)).toNatClampNeg (0 : Int32)) ∧ db_HW E (db_Aw E s.heap.size) s Z_ H locs := ⟨_, rfl, hw⟩
        have h := h X4 e4
        refine lv_iinc (v := (x3 + (1 : Int32))) (lv' := [(3, .int (x3 + (1 : Int32))), (0, .ref (db_ad E 90)), (1, .int x1), (2, .int x2)]) hx hb dX11_findLeast_29 hl (k := 3) rfl (congrArg (fun z_ => x3 + z_) (show Int32.ofInt (1) = (1 : Int32) by decide)) (by decide) rfl (fun ls hl => ?_)
        refine lv_goto (tgt := 2) hx hb dX11_findLeast_32 (by decide) ?_
        exact ih _ _ _ _ _ _ _ h hw (lv_sub hl [1, 2, 3, 0] rfl)
def wp_X11_findLeast  (X : db_St) (x1 : Int32) (x2 : Int32) (Q : Int32 → db_St → Prop) : Prop := (∃ f_, wp_X11_findLeast_2 Q f_ X x1 x2 (0 : Int32))
set_option maxHeartbeats 4000000 in
set_option maxRecDepth 100000 in
theorem ct_X11_findLeast {l : Launch} {E : db_E}  {X : db_St} {x1 : Int32} {x2 : Int32} {Q : Int32 → db_St → Prop} (h : wp_X11_findLeast  X x1 x2 Q) : db_MI l E yX11_findLeast wsX11_findLeast rm_X11_findLeast X [.ref (db_ad E 90), .int x1, .int x2] Q := by
  intro sz
  unfold wp_X11_findLeast at h
  refine Met.ofW (cc := cX11_findLeast) (maxL := 7) (ret := (some .int)) (by decide) rfl ?_
  intro p e s m args below meth c s₁ B hml hv
  obtain ⟨rfl, hsz, hU⟩ := hv
  subst hsz
  have S : CallFix p m c cX11_findLeast 7 s ([.ref (db_ad E 90), .int x1, .int x2] : List Value).toArray wsX11_findLeast RX11 := ⟨B.exec, B.bytes, hml, findClass_of_methodNamed B.named, atoms_spec (ws := wsX11_findLeast) B.pre⟩
  have hx := S.1
  have hb := S.2.1
  have hr := B.returns
  have hlocks := B.notSynchronized
  have hw := db_start hU
  have hiX11 : ∀ w ∈ wsX110, w ∈ wsX11_findLeast := fun w_ h_ => List.mem_cons_of_mem _ (List.mem_append_right _ h_)
  have hl := lv_entry ([.ref (db_ad E 90), .int x1, .int x2]) (n := 7) (Nat.le_of_ble_eq_true rfl)
  rw [lg_entry_eq]
  generalize (lg_sl ([.ref (db_ad E 90), .int x1, .int x2]) ++ List.replicate (7 - (lg_sl ([.ref (db_ad E 90), .int x1, .int x2])).length) Slot.unset).toArray = ls at hl ⊢
  have hl : lv_has ls 7 [(0, .ref (db_ad E 90)), (1, .int x1), (2, .int x2)] := hl
  refine lv_iconst (v := (0 : Int32)) hx hb dX11_findLeast_0 (by decide) ?_
  refine lv_istore_n (lv' := [(3, .int (0 : Int32)), (0, .ref (db_ad E 90)), (1, .int x1), (2, .int x2)]) hx hb dX11_findLeast_1 rfl hl (by decide) rfl (fun ls hl => ?_)
  obtain ⟨f_, h⟩ := h
  exact tw_X11_findLeast_2 S hr hlocks   f_ _ _ _ _ _ _ _ h hw (lv_sub hl [1, 2, 3, 0] rfl)
-- DaysOnBreadModel.least(III)I
abbrev rm_X11_least : Room := { frames := 4, cells := 0, slots := 0, locals := 93 }
def wp_X11_least  (X : db_St) (x1 : Int32) (x2 : Int32) (x3 : Int32) (Q : Int32 → db_St → Prop) : Prop := wp_X11_isIn X x3 (7 : Int32) (fun r1 X1 => ((r1 = 0 → wp_X11_refuse X1 (-2 : Int32) (fun r14 X14 => Q r14 X14)) ∧ (¬ r1 = 0 → ((x1 < 0 → wp_X11_refuse X1 (-4 : Int32) (fun r2 X2 => Q r2 X2)) ∧ (¬ (x1 < 0) → (((1 : Int32) ≤ x2 → (((100 : Int32) < x1 → wp_X11_refuse X1 (-6 : Int32) (fun r3 X3 => Q r3 X3)) ∧ (¬ ((100 : Int32) < x1) → ((x2 ≤ (400 : Int32) → wp_X11_findLeast X1 x1 x2 (fun r4 X4 => ((0 ≤ r4 → ((x3 = (6 : Int32) → Q r4 X4) ∧ (¬ x3 = (6 : Int32) → (vp_in x3 6 ∧ Q (X4.1 96 (x3).toNatClampNeg) X4)))) ∧ (¬ (0 ≤ r4) → Q (-9 : Int32) X4)))) ∧ (¬ (x2 ≤ (400 : Int32)) → wp_X11_refuse X1 (-6 : Int32) (fun r8 X8 => Q r8 X8)))))) ∧ (¬ ((1 : Int32) ≤ x2) → wp_X11_refuse X1 (-4 : Int32) (fun r11 X11 => Q r11 X11))))))))
set_option maxHeartbeats 4000000 in
set_option maxRecDepth 100000 in
theorem ct_X11_least {l : Launch} {E : db_E}  {X : db_St} {x1 : Int32} {x2 : Int32} {x3 : Int32} {Q : Int32 → db_St → Prop} (h : wp_X11_least  X x1 x2 x3 Q) : db_MI l E yX11_least wsX11_least rm_X11_least X [.ref (db_ad E 90), .int x1, .int x2, .int x3] Q := by
  intro sz
  unfold wp_X11_least at h
  refine Met.ofW (cc := cX11_least) (maxL := 5) (ret := (some .int)) (by decide) rfl ?_
  intro p e s m args below meth c s₁ B hml hv
  obtain ⟨rfl, hsz, hU⟩ := hv
  subst hsz
  have S : CallFix p m c cX11_least 5 s ([.ref (db_ad E 90), .int x1, .int x2, .int x3] : List Value).toArray wsX11_least RX11 := ⟨B.exec, B.bytes, hml, findClass_of_methodNamed B.named, atoms_spec (ws := wsX11_least) B.pre⟩
  have hx := S.1
  have hb := S.2.1
  have hr := B.returns
  have hlocks := B.notSynchronized
  have hw := db_start hU
  have hiX11 : ∀ w ∈ wsX110, w ∈ wsX11_least := fun w_ h_ => List.mem_cons_of_mem _ (List.mem_append_right _ h_)
  have hl := lv_entry ([.ref (db_ad E 90), .int x1, .int x2, .int x3]) (n := 5) (Nat.le_of_ble_eq_true rfl)
  rw [lg_entry_eq]
  generalize (lg_sl ([.ref (db_ad E 90), .int x1, .int x2, .int x3]) ++ List.replicate (5 - (lg_sl ([.ref (db_ad E 90), .int x1, .int x2, .int x3])).length) Slot.unset).toArray = ls at hl ⊢
  have hl : lv_has ls 5 [(0, .ref (db_ad E 90)), (1, .int x1), (2, .int x2), (3, .int x3)] := hl
  refine lv_iload_n hx hb dX11_least_0 rfl (lv_at hl 3 rfl) ?_
  refine lv_bipush (v := (7 : Int32)) hx hb dX11_least_1 (by decide) ?_
  refine db_callSi S hw (As := [.int x3, .int (7 : Int32)]) (ct_X11_isIn  h) gX11_least_X11_isIn rfl ⟨rfl, rfl, Nat.le_of_ble_eq_true rfl, Nat.le_of_ble_eq_true rfl⟩ 2 rfl (by decide +kernel) hl.1 rfl (Nat.le_of_ble_eq_true rfl) dX11_least_3 ⟨Nat.zero_le _, Nat.zero_le _⟩ (fun r1 X1 H locs h hw => ?_)
  refine lv_if_ne (tgt := 16) hx hb dX11_least_6 (by decide) (fun c15 => ?_) (fun c15 => ?_)
  · have h := h.2 c15
    refine lv_iload_n hx hb dX11_least_16 rfl (lv_at hl 1 rfl) ?_
    refine lv_if_lt (tgt := 25) hx hb dX11_least_17 (by decide) (fun c13 => ?_) (fun c13 => ?_)
    · have h := h.1 c13
      refine lv_aload_n hx hb dX11_least_25 rfl (lv_at hl 0 rfl) ?_
      refine lv_bipush (v := (-4 : Int32)) hx hb dX11_least_26 (by decide) ?_
      refine db_callVi S hw (Nat.le_of_ble_eq_true rfl) db_s90 (C := RX11) (T := TX11) (N := 19) (As := [.int (-4 : Int32)]) rfl (ct_X11_refuse  h) gX11_least_X11_refuse rfl ⟨rfl, rfl, Nat.le_of_ble_eq_true rfl, Nat.le_of_ble_eq_true rfl⟩ 1 rfl (by decide +kernel) hl.1 rfl (Nat.le_of_ble_eq_true rfl) dX11_least_28 ⟨Nat.zero_le _, Nat.zero_le _⟩ (fun r2 X2 H locs h hw => ?_)
      exact db_iret S hr hlocks hw h dX11_least_31
    · have h := h.2 c13
      refine lv_iload_n hx hb dX11_least_20 rfl (lv_at hl 2 rfl) ?_
      refine lv_iconst (v := (1 : Int32)) hx hb dX11_least_21 (by decide) ?_
      refine lv_icmp_ge (tgt := 32) hx hb dX11_least_22 (by decide) (fun c12 => ?_) (fun c12 => ?_)
      · have h := h.1 c12
        refine lv_iload_n hx hb dX11_least_32 rfl (lv_at hl 1 rfl) ?_
        refine lv_bipush (v := (100 : Int32)) hx hb dX11_least_33 (by decide) ?_
        refine lv_icmp_gt (tgt := 45) hx hb dX11_least_35 (by decide) (fun c10 => ?_) (fun c10 => ?_)
        · have h := h.1 c10
          refine lv_aload_n hx hb dX11_least_45 rfl (lv_at hl 0 rfl) ?_
          refine lv_bipush (v := (-6 : Int32)) hx hb dX11_least_46 (by decide) ?_
          refine db_callVi S hw (Nat.le_of_ble_eq_true rfl) db_s90 (C := RX11) (T := TX11) (N := 19) (As := [.int (-6 : Int32)]) rfl (ct_X11_refuse  h) gX11_least_X11_refuse rfl ⟨rfl, rfl, Nat.le_of_ble_eq_true rfl, Nat.le_of_ble_eq_true rfl⟩ 1 rfl (by decide +kernel) hl.1 rfl (Nat.le_of_ble_eq_true rfl) dX11_least_48 ⟨Nat.zero_le _, Nat.zero_le _⟩ (fun r3 X3 H locs h hw => ?_)
          exact db_iret S hr hlocks hw h dX11_least_51
        · have h := h.2 c10
          refine lv_iload_n hx hb dX11_least_38 rfl (lv_at hl 2 rfl) ?_
          refine lv_sipush (v := (400 : Int32)) hx hb dX11_least_39 (by decide) ?_
          refine lv_icmp_le (tgt := 52) hx hb dX11_least_42 (by decide) (fun c9 => ?_) (fun c9 => ?_)
          · have h := h.1 c9
            refine lv_aload_n hx hb dX11_least_52 rfl (lv_at hl 0 rfl) ?_
            refine lv_iload_n hx hb dX11_least_53 rfl (lv_at hl 1 rfl) ?_
            refine lv_iload_n hx hb dX11_least_54 rfl (lv_at hl 2 rfl) ?_
            refine db_callVi S hw (Nat.le_of_ble_eq_true rfl) db_s90 (C := RX11) (T := TX11) (N := 19) (As := [.int x1, .int x2]) rfl (ct_X11_findLeast  h) gX11_least_X11_findLeast rfl ⟨rfl, rfl, Nat.le_of_ble_eq_true rfl, Nat.le_of_ble_eq_true rfl⟩ 2 rfl (by decide +kernel) hl.1 rfl (Nat.le_of_ble_eq_true rfl) dX11_least_55 ⟨Nat.zero_le _, Nat.zero_le _⟩ (fun r4 X4 H locs h hw => ?_)
            refine lv_istore (lv' := [(4, .int r4), (0, .ref (db_ad E 90)), (1, .int x1), (2, .int x2), (3, .int x3)]) hx hb dX11_least_58 hl (by decide) rfl (fun ls hl => ?_)
            refine lv_iload hx hb dX11_least_60 (lv_at hl 0 rfl) ?_
            refine lv_if_ge (tgt := 70) hx hb dX11_least_62 (by decide) (fun c7 => ?_) (fun c7 => ?_)
            · have h := h.1 c7
              refine lv_iload_n hx hb dX11_least_70 rfl (lv_at hl 4 rfl) ?_
              refine lv_bipush (v := (6 : Int32)) hx hb dX11_least_71 (by decide) ?_
              refine lv_icmp_ne (tgt := 81) hx hb dX11_least_73 (by decide) (fun c6 => ?_) (fun c6 => ?_)
              · have h := h.2 c6
                refine lv_aload_n hx hb dX11_least_81 rfl (lv_at hl 1 rfl) ?_
                refine db_getr S hw (Nat.le_of_ble_eq_true rfl) db_s90 (C := RX11) (T := TX11) (N := 19) rfl hiX11 8 (by decide) (r := 96) rfl (List.mem_of_getElem? (i := 1) rfl) dX11_least_82 ?_
                refine lv_iload_n hx hb dX11_least_85 rfl (lv_at hl 4 rfl) ?_
                obtain ⟨g5, h⟩ := h
                refine db_iald S hw (Nat.le_of_ble_eq_true rfl) db_s96 g5 dX11_least_86 ?_
                exact db_iret S hr hlocks hw h dX11_least_87
              · have h := h.1 c6
                refine lv_iload hx hb dX11_least_76 (lv_at hl 0 rfl) ?_
                refine lv_goto (tgt := 87) hx hb dX11_least_78 (by decide) ?_
                exact db_iret S hr hlocks hw h dX11_least_87
            · have h := h.2 c7
              refine lv_bipush (v := (-9 : Int32)) hx hb dX11_least_65 (by decide) ?_
              refine lv_goto (tgt := 87) hx hb dX11_least_67 (by decide) ?_
              exact db_iret S hr hlocks hw h dX11_least_87
          · have h := h.2 c9
            refine lv_aload_n hx hb dX11_least_45 rfl (lv_at hl 0 rfl) ?_
            refine lv_bipush (v := (-6 : Int32)) hx hb dX11_least_46 (by decide) ?_
            refine db_callVi S hw (Nat.le_of_ble_eq_true rfl) db_s90 (C := RX11) (T := TX11) (N := 19) (As := [.int (-6 : Int32)]) rfl (ct_X11_refuse  h) gX11_least_X11_refuse rfl ⟨rfl, rfl, Nat.le_of_ble_eq_true rfl, Nat.le_of_ble_eq_true rfl⟩ 1 rfl (by decide +kernel) hl.1 rfl (Nat.le_of_ble_eq_true rfl) dX11_least_48 ⟨Nat.zero_le _, Nat.zero_le _⟩ (fun r8 X8 H locs h hw => ?_)
            exact db_iret S hr hlocks hw h dX11_least_51
      · have h := h.2 c12
        refine lv_aload_n hx hb dX11_least_25 rfl (lv_at hl 0 rfl) ?_
        refine lv_bipush (v := (-4 : Int32)) hx hb dX11_least_26 (by decide) ?_
        refine db_callVi S hw (Nat.le_of_ble_eq_true rfl) db_s90 (C := RX11) (T := TX11) (N := 19) (As := [.int (-4 : Int32)]) rfl (ct_X11_refuse  h) gX11_least_X11_refuse rfl ⟨rfl, rfl, Nat.le_of_ble_eq_true rfl, Nat.le_of_ble_eq_true rfl⟩ 1 rfl (by decide +kernel) hl.1 rfl (Nat.le_of_ble_eq_true rfl) dX11_least_28 ⟨Nat.zero_le _, Nat.zero_le _⟩ (fun r11 X11 H locs h hw => ?_)
        exact db_iret S hr hlocks hw h dX11_least_31
  · have h := h.1 c15
    refine lv_aload_n hx hb dX11_least_9 rfl (lv_at hl 0 rfl) ?_
    refine lv_bipush (v := (-2 : Int32)) hx hb dX11_least_10 (by decide) ?_
    refine db_callVi S hw (Nat.le_of_ble_eq_true rfl) db_s90 (C := RX11) (T := TX11) (N := 19) (As := [.int (-2 : Int32)]) rfl (ct_X11_refuse  h) gX11_least_X11_refuse rfl ⟨rfl, rfl, Nat.le_of_ble_eq_true rfl, Nat.le_of_ble_eq_true rfl⟩ 1 rfl (by decide +kernel) hl.1 rfl (Nat.le_of_ble_eq_true rfl) dX11_least_12 ⟨Nat.zero_le _, Nat.zero_le _⟩ (fun r14 X14 H locs h hw => ?_)
    exact db_iret S hr hlocks hw h dX11_least_15
-- DaysOnBreadModel.soonestOf(I)I
abbrev rm_X11_soonestOf : Room := { frames := 2, cells := 0, slots := 0, locals := 43 }
def wp_X11_soonestOf_122 (k53 : db_St → Int32 → Int32 → Int32 → Int32 → Int32 → Int32 → Prop) (Q : Int32 → db_St → Prop) (X : db_St) (x1 : Int32) (x2 : Int32) (x3 : Int32) (x4 : Int32) (x5 : Int32) (x6 : Int32) (y0 : Int32) : Prop := (vp_in x6 6 ∧ (vp_in x6 6 ∧ (∀ X3, X3 = (db_si X 98 (x6).toNatClampNeg ((X.1 98 (x6).toNatClampNeg) - y0)) → wp_X11_pay X3 x6 (0 : Int32) (fun r4 X4 => ((x5 = 0 → ((y0 ≤ 0 → k53 X4 x1 (x2 + (y0 * r4)) x3 x4 (0 : Int32) (x6 + (1 : Int32))) ∧ (¬ (y0 ≤ 0) → ((x6 = (3 : Int32) → k53 X4 x1 (x2 + (y0 * r4)) x3 x4 (1 : Int32) (x6 + (1 : Int32))) ∧ (¬ (x6 = (3 : Int32)) → ((x6 = (5 : Int32) → k53 X4 x1 (x2 + (y0 * r4)) x3 x4 (1 : Int32) (x6 + (1 : Int32))) ∧ (¬ x6 = (5 : Int32) → k53 X4 x1 (x2 + (y0 * r4)) x3 x4 (0 : Int32) (x6 + (1 : Int32))))))))) ∧ (¬ x5 = 0 → k53 X4 x1 (x2 + (y0 * r4)) x3 x4 (1 : Int32) (x6 + (1 : Int32))))))))
set_option maxHeartbeats 4000000 in
set_option maxRecDepth 100000 in
theorem tw_X11_soonestOf_122 {p : Program} {l : Launch} {e : Env} {s : State} {m : MethodId} {args : Array Value} {below : List Frame} {meth : Method} {c : Code} {E : db_E} (S : CallFix p m c cX11_soonestOf 9 s args wsX11_soonestOf RX11) (hr : meth.sig.returnType = (some .int)) (hlocks : meth.locks = false)  {Q : Int32 → db_St → Prop} {k53 : db_St → Int32 → Int32 → Int32 → Int32 → Int32 → Int32 → Prop} (hk53 : ∀ (X : db_St) (x1 : Int32) (x2 : Int32) (x3 : Int32) (x4 : Int32) (x5 : Int32) (x6 : Int32) (H : Heap) (locs : List Loc) (ls : Array Slot), k53 X x1 x2 x3 x4 x5 x6 → db_HW E (db_Aw E s.heap.size) s X H locs → lv_has ls 9 [(0, .ref (db_ad E 90)), (1, .int x1), (2, .int x2), (3, .int x3), (4, .int x4), (5, .int x5), (6, .int x6)] → W p l e rm_X11_soonestOf s m args below meth c H locs 0 0 (MQ below (va_Qi Q (db_Po E) (db_Aw E s.heap.size)) args s 0 0 (db_Aw E s.heap.size)) (F0 m 53 ls [])) : ∀ (X : db_St) (x1 : Int32) (x2 : Int32) (x3 : Int32) (x4 : Int32) (x5 : Int32) (x6 : Int32) (y0 : Int32) (H : Heap) (locs : List Loc) (ls : Array Slot), wp_X11_soonestOf_122 k53 Q X x1 x2 x3 x4 x5 x6 y0 → db_HW E (db_Aw E s.heap.size) s X H locs → lv_has ls 9 [(0, .ref (db_ad E 90)), (1, .int x1), (2, .int x2), (3, .int x3), (4, .int x4), (5, .int x5), (6, .int x6)] → W p l e rm_X11_soonestOf s m args below meth c H locs 0 0 (MQ below (va_Qi Q (db_Po E) (db_Aw E s.heap.size)) args s 0 0 (db_Aw E s.heap.size)) (F0 m 122 ls [.int y0]) := by
  have hx := S.1
  have hb := S.2.1
  have hiX11 : ∀ w ∈ wsX110, w ∈ wsX11_soonestOf := fun w_ h_ => List.mem_cons_of_mem _ (List.mem_append_right _ h_)
  intro X x1 x2 x3 x4 x5 x6 y0 H locs ls h hw hl
  unfold wp_X11_soonestOf_122 at h
  refine lv_istore (lv' := [(8, .int y0), (0, .ref (db_ad E 90)), (1, .int x1), (2, .int x2), (3, .int x3), (4, .int x4), (5, .int x5), (6, .int x6)]) hx hb dX11_soonestOf_122 hl (by decide) rfl (fun ls hl => ?_)
  refine lv_aload_n hx hb dX11_soonestOf_124 rfl (lv_at hl 1 rfl) ?_
  refine db_getr S hw (Nat.le_of_ble_eq_true rfl) db_s90 (C := RX11) (T := TX11) (N := 19) rfl hiX11 10 (by decide) (r := 98) rfl (List.mem_of_getElem? (i := 1) rfl) dX11_soonestOf_125 ?_
  refine lv_iload hx hb dX11_soonestOf_128 (lv_at hl 7 rfl) ?_
  refine lv_dup2_11 hx hb dX11_soonestOf_130 rfl rfl ?_
  obtain ⟨g1, h⟩ := h
  refine db_iald S hw (Nat.le_of_ble_eq_true rfl) db_s98 g1 dX11_soonestOf_131 ?_
  refine lv_iload hx hb dX11_soonestOf_132 (lv_at hl 0 rfl) ?_
  refine lv_isub hx hb dX11_soonestOf_134 ?_
  obtain ⟨g2, h⟩ := h
  refine db_iast S hw (Nat.le_of_ble_eq_true rfl) db_s98 g2 dX11_soonestOf_135 (fun H locs hw => ?_)
  obtain ⟨X3, e3, hw⟩ : ∃ Z_, Z_ = (db_si X 98 (x6).toNatClampNeg ((X.1 98 (x6).toNatClampNeg) - y0)) ∧ db_HW E (db_Aw E s.heap.size) s Z_ H locs := ⟨_, rfl, hw⟩
  have h := h X3 e3
  refine lv_iload_n hx hb dX11_soonestOf_136 rfl (lv_at hl 3 rfl) ?_
  refine lv_iload hx hb dX11_soonestOf_137 (lv_at hl 0 rfl) ?_
  refine lv_aload_n hx hb dX11_soonestOf_139 rfl (lv_at hl 1 rfl) ?_
  refine lv_iload hx hb dX11_soonestOf_140 (lv_at hl 7 rfl) ?_
  refine lv_iconst (v := (0 : Int32)) hx hb dX11_soonestOf_142 (by decide) ?_
  refine db_callVi S hw (Nat.le_of_ble_eq_true rfl) db_s90 (C := RX11) (T := TX11) (N := 19) (As := [.int x6, .int (0 : Int32)]) rfl (ct_X11_pay  h) gX11_soonestOf_X11_pay rfl ⟨rfl, rfl, Nat.le_of_ble_eq_true rfl, Nat.le_of_ble_eq_true rfl⟩ 2 rfl (by decide +kernel) hl.1 rfl (Nat.le_of_ble_eq_true rfl) dX11_soonestOf_143 ⟨Nat.zero_le _, Nat.zero_le _⟩ (fun r4 X4 H locs h hw => ?_)
  refine lv_imul hx hb dX11_soonestOf_146 ?_
  refine lv_iadd hx hb dX11_soonestOf_147 ?_
  refine lv_istore_n (lv' := [(2, .int (x2 + (y0 * r4))), (8, .int y0), (0, .ref (db_ad E 90)), (1, .int x1), (3, .int x3), (4, .int x4), (5, .int x5), (6, .int x6)]) hx hb dX11_soonestOf_148 rfl hl (by decide) rfl (fun ls hl => ?_)
  refine lv_iload hx hb dX11_soonestOf_149 (lv_at hl 6 rfl) ?_
  refine lv_if_ne (tgt := 171) hx hb dX11_soonestOf_151 (by decide) (fun c8 => ?_) (fun c8 => ?_)
  · have h := h.2 c8
    refine lv_iconst (v := (1 : Int32)) hx hb dX11_soonestOf_171 (by decide) ?_
    refine lv_goto (tgt := 176) hx hb dX11_soonestOf_172 (by decide) ?_
    refine lv_istore (lv' := [(5, .int (1 : Int32)), (2, .int (x2 + (y0 * r4))), (8, .int y0), (0, .ref (db_ad E 90)), (1, .int x1), (3, .int x3), (4, .int x4), (6, .int x6)]) hx hb dX11_soonestOf_176 hl (by decide) rfl (fun ls hl => ?_)
    refine lv_iinc (v := (x6 + (1 : Int32))) (lv' := [(6, .int (x6 + (1 : Int32))), (5, .int (1 : Int32)), (2, .int (x2 + (y0 * r4))), (8, .int y0), (0, .ref (db_ad E 90)), (1, .int x1), (3, .int x3), (4, .int x4)]) hx hb dX11_soonestOf_178 hl (k := 7) rfl (congrArg (fun z_ => x6 + z_) (show Int32.ofInt (1) = (1 : Int32) by decide)) (by decide) rfl (fun ls hl => ?_)
    refine lv_goto (tgt := 53) hx hb dX11_soonestOf_181 (by decide) ?_
    exact hk53 _ _ _ _ _ _ _ _ _ _ h hw (lv_sub hl [4, 5, 2, 6, 7, 1, 0] rfl)
  · have h := h.1 c8
    refine lv_iload hx hb dX11_soonestOf_154 (lv_at hl 1 rfl) ?_
    refine lv_if_le (tgt := 175) hx hb dX11_soonestOf_156 (by decide) (fun c7 => ?_) (fun c7 => ?_)
    · have h := h.1 c7
      refine lv_iconst (v := (0 : Int32)) hx hb dX11_soonestOf_175 (by decide) ?_
      refine lv_istore (lv' := [(5, .int (0 : Int32)), (2, .int (x2 + (y0 * r4))), (8, .int y0), (0, .ref (db_ad E 90)), (1, .int x1), (3, .int x3), (4, .int x4), (6, .int x6)]) hx hb dX11_soonestOf_176 hl (by decide) rfl (fun ls hl => ?_)
      refine lv_iinc (v := (x6 + (1 : Int32))) (lv' := [(6, .int (x6 + (1 : Int32))), (5, .int (0 : Int32)), (2, .int (x2 + (y0 * r4))), (8, .int y0), (0, .ref (db_ad E 90)), (1, .int x1), (3, .int x3), (4, .int x4)]) hx hb dX11_soonestOf_178 hl (k := 7) rfl (congrArg (fun z_ => x6 + z_) (show Int32.ofInt (1) = (1 : Int32) by decide)) (by decide) rfl (fun ls hl => ?_)
      refine lv_goto (tgt := 53) hx hb dX11_soonestOf_181 (by decide) ?_
      exact hk53 _ _ _ _ _ _ _ _ _ _ h hw (lv_sub hl [4, 5, 2, 6, 7, 1, 0] rfl)
    · have h := h.2 c7
      refine lv_iload hx hb dX11_soonestOf_159 (lv_at hl 7 rfl) ?_
      refine lv_iconst (v := (3 : Int32)) hx hb dX11_soonestOf_161 (by decide) ?_
      refine lv_icmp_eq (tgt := 171) hx hb dX11_soonestOf_162 (by decide) (fun c6 => ?_) (fun c6 => ?_)
      · have h := h.1 c6
        refine lv_iconst (v := (1 : Int32)) hx hb dX11_soonestOf_171 (by decide) ?_
        refine lv_goto (tgt := 176) hx hb dX11_soonestOf_172 (by decide) ?_
        refine lv_istore (lv' := [(5, .int (1 : Int32)), (2, .int (x2 + (y0 * r4))), (8, .int y0), (0, .ref (db_ad E 90)), (1, .int x1), (3, .int x3), (4, .int x4), (6, .int x6)]) hx hb dX11_soonestOf_176 hl (by decide) rfl (fun ls hl => ?_)
        refine lv_iinc (v := (x6 + (1 : Int32))) (lv' := [(6, .int (x6 + (1 : Int32))), (5, .int (1 : Int32)), (2, .int (x2 + (y0 * r4))), (8, .int y0), (0, .ref (db_ad E 90)), (1, .int x1), (3, .int x3), (4, .int x4)]) hx hb dX11_soonestOf_178 hl (k := 7) rfl (congrArg (fun z_ => x6 + z_) (show Int32.ofInt (1) = (1 : Int32) by decide)) (by decide) rfl (fun ls hl => ?_)
        refine lv_goto (tgt := 53) hx hb dX11_soonestOf_181 (by decide) ?_
        exact hk53 _ _ _ _ _ _ _ _ _ _ h hw (lv_sub hl [4, 5, 2, 6, 7, 1, 0] rfl)
      · have h := h.2 c6
        refine lv_iload hx hb dX11_soonestOf_165 (lv_at hl 7 rfl) ?_
        refine lv_iconst (v := (5 : Int32)) hx hb dX11_soonestOf_167 (by decide) ?_
        refine lv_icmp_ne (tgt := 175) hx hb dX11_soonestOf_168 (by decide) (fun c5 => ?_) (fun c5 => ?_)
        · have h := h.2 c5
          refine lv_iconst (v := (0 : Int32)) hx hb dX11_soonestOf_175 (by decide) ?_
          refine lv_istore (lv' := [(5, .int (0 : Int32)), (2, .int (x2 + (y0 * r4))), (8, .int y0), (0, .ref (db_ad E 90)), (1, .int x1), (3, .int x3), (4, .int x4), (6, .int x6)]) hx hb dX11_soonestOf_176 hl (by decide) rfl (fun ls hl => ?_)
          refine lv_iinc (v := (x6 + (1 : Int32))) (lv' := [(6, .int (x6 + (1 : Int32))), (5, .int (0 : Int32)), (2, .int (x2 + (y0 * r4))), (8, .int y0), (0, .ref (db_ad E 90)), (1, .int x1), (3, .int x3), (4, .int x4)]) hx hb dX11_soonestOf_178 hl (k := 7) rfl (congrArg (fun z_ => x6 + z_) (show Int32.ofInt (1) = (1 : Int32) by decide)) (by decide) rfl (fun ls hl => ?_)
          refine lv_goto (tgt := 53) hx hb dX11_soonestOf_181 (by decide) ?_
          exact hk53 _ _ _ _ _ _ _ _ _ _ h hw (lv_sub hl [4, 5, 2, 6, 7, 1, 0] rfl)
        · have h := h.1 c5
          refine lv_iconst (v := (1 : Int32)) hx hb dX11_soonestOf_171 (by decide) ?_
          refine lv_goto (tgt := 176) hx hb dX11_soonestOf_172 (by decide) ?_
          refine lv_istore (lv' := [(5, .int (1 : Int32)), (2, .int (x2 + (y0 * r4))), (8, .int y0), (0, .ref (db_ad E 90)), (1, .int x1), (3, .int x3), (4, .int x4), (6, .int x6)]) hx hb dX11_soonestOf_176 hl (by decide) rfl (fun ls hl => ?_)
          refine lv_iinc (v := (x6 + (1 : Int32))) (lv' := [(6, .int (x6 + (1 : Int32))), (5, .int (1 : Int32)), (2, .int (x2 + (y0 * r4))), (8, .int y0), (0, .ref (db_ad E 90)), (1, .int x1), (3, .int x3), (4, .int x4)]) hx hb dX11_soonestOf_178 hl (k := 7) rfl (congrArg (fun z_ => x6 + z_) (show Int32.ofInt (1) = (1 : Int32) by decide)) (by decide) rfl (fun ls hl => ?_)
          refine lv_goto (tgt := 53) hx hb dX11_soonestOf_181 (by decide) ?_
          exact hk53 _ _ _ _ _ _ _ _ _ _ h hw (lv_sub hl [4, 5, 2, 6, 7, 1, 0] rfl)
def wp_X11_soonestOf_80 (k53 : db_St → Int32 → Int32 → Int32 → Int32 → Int32 → Int32 → Prop) (Q : Int32 → db_St → Prop) (X : db_St) (x1 : Int32) (x2 : Int32) (x3 : Int32) (x4 : Int32) (x5 : Int32) (x6 : Int32) : Prop := ((x6 = (3 : Int32) → ((x3 = 0 → (((0 : Int32) = 0 → (vp_in x6 6 ∧ wp_X11_perDay X x6 (fun r6 X6 => wp_X11_lesser X6 (X.1 98 (x6).toNatClampNeg) r6 (fun r7 X7 => wp_X11_soonestOf_122 k53 Q X7 x1 x2 x3 x4 x5 x6 r7)))) ∧ (¬ ((0 : Int32) = 0) → wp_X11_soonestOf_122 k53 Q X x1 x2 x3 x4 x5 x6 (0 : Int32)))) ∧ (¬ (x3 = 0) → (((1 : Int32) = 0 → (vp_in x6 6 ∧ wp_X11_perDay X x6 (fun r10 X10 => wp_X11_lesser X10 (X.1 98 (x6).toNatClampNeg) r10 (fun r11 X11 => wp_X11_soonestOf_122 k53 Q X11 x1 x2 x3 x4 x5 x6 r11)))) ∧ (¬ ((1 : Int32) = 0) → wp_X11_soonestOf_122 k53 Q X x1 x2 x3 x4 x5 x6 (0 : Int32)))))) ∧ (¬ x6 = (3 : Int32) → (((0 : Int32) = 0 → (vp_in x6 6 ∧ wp_X11_perDay X x6 (fun r2 X2 => wp_X11_lesser X2 (X.1 98 (x6).toNatClampNeg) r2 (fun r3 X3 => wp_X11_soonestOf_122 k53 Q X3 x1 x2 x3 x4 x5 x6 r3)))) ∧ (¬ ((0 : Int32) = 0) → wp_X11_soonestOf_122 k53 Q X x1 x2 x3 x4 x5 x6 (0 : Int32)))))
set_option maxHeartbeats 4000000 in
set_option maxRecDepth 100000 in
theorem tw_X11_soonestOf_80 {p : Program} {l : Launch} {e : Env} {s : State} {m : MethodId} {args : Array Value} {below : List Frame} {meth : Method} {c : Code} {E : db_E} (S : CallFix p m c cX11_soonestOf 9 s args wsX11_soonestOf RX11) (hr : meth.sig.returnType = (some .int)) (hlocks : meth.locks = false)  {Q : Int32 → db_St → Prop} {k53 : db_St → Int32 → Int32 → Int32 → Int32 → Int32 → Int32 → Prop} (hk53 : ∀ (X : db_St) (x1 : Int32) (x2 : Int32) (x3 : Int32) (x4 : Int32) (x5 : Int32) (x6 : Int32) (H : Heap) (locs : List Loc) (ls : Array Slot), k53 X x1 x2 x3 x4 x5 x6 → db_HW E (db_Aw E s.heap.size) s X H locs → lv_has ls 9 [(0, .ref (db_ad E 90)), (1, .int x1), (2, .int x2), (3, .int x3), (4, .int x4), (5, .int x5), (6, .int x6)] → W p l e rm_X11_soonestOf s m args below meth c H locs 0 0 (MQ below (va_Qi Q (db_Po E) (db_Aw E s.heap.size)) args s 0 0 (db_Aw E s.heap.size)) (F0 m 53 ls [])) : ∀ (X : db_St) (x1 : Int32) (x2 : Int32) (x3 : Int32) (x4 : Int32) (x5 : Int32) (x6 : Int32) (H : Heap) (locs : List Loc) (ls : Array Slot), wp_X11_soonestOf_80 k53 Q X x1 x2 x3 x4 x5 x6 → db_HW E (db_Aw E s.heap.size) s X H locs → lv_has ls 9 [(0, .ref (db_ad E 90)), (1, .int x1), (2, .int x2), (3, .int x3), (4, .int x4), (5, .int x5), (6, .int x6)] → W p l e rm_X11_soonestOf s m args below meth c H locs 0 0 (MQ below (va_Qi Q (db_Po E) (db_Aw E s.heap.size)) args s 0 0 (db_Aw E s.heap.size)) (F0 m 80 ls []) := by
  have hx := S.1
  have hb := S.2.1
  have hiX11 : ∀ w ∈ wsX110, w ∈ wsX11_soonestOf := fun w_ h_ => List.mem_cons_of_mem _ (List.mem_append_right _ h_)
  intro X x1 x2 x3 x4 x5 x6 H locs ls h hw hl
  unfold wp_X11_soonestOf_80 at h
  refine lv_iload hx hb dX11_soonestOf_80 (lv_at hl 6 rfl) ?_
  refine lv_iconst (v := (3 : Int32)) hx hb dX11_soonestOf_82 (by decide) ?_
  refine lv_icmp_ne (tgt := 94) hx hb dX11_soonestOf_83 (by decide) (fun c14 => ?_) (fun c14 => ?_)
  · have h := h.2 c14
    refine lv_iconst (v := (0 : Int32)) hx hb dX11_soonestOf_94 (by decide) ?_
    refine lv_istore (lv' := [(7, .int (0 : Int32)), (0, .ref (db_ad E 90)), (1, .int x1), (2, .int x2), (3, .int x3), (4, .int x4), (5, .int x5), (6, .int x6)]) hx hb dX11_soonestOf_95 hl (by decide) rfl (fun ls hl => ?_)
    refine lv_iload hx hb dX11_soonestOf_97 (lv_at hl 0 rfl) ?_
    refine lv_if_eq (tgt := 106) hx hb dX11_soonestOf_99 (by decide) (fun c4 => ?_) (fun c4 => ?_)
    · have h := h.1 c4
      refine lv_aload_n hx hb dX11_soonestOf_106 rfl (lv_at hl 1 rfl) ?_
      refine db_getr S hw (Nat.le_of_ble_eq_true rfl) db_s90 (C := RX11) (T := TX11) (N := 19) rfl hiX11 10 (by decide) (r := 98) rfl (List.mem_of_getElem? (i := 1) rfl) dX11_soonestOf_107 ?_
      refine lv_iload hx hb dX11_soonestOf_110 (lv_at hl 7 rfl) ?_
      obtain ⟨g1, h⟩ := h
      refine db_iald S hw (Nat.le_of_ble_eq_true rfl) db_s98 g1 dX11_soonestOf_112 ?_
      refine lv_aload_n hx hb dX11_soonestOf_113 rfl (lv_at hl 1 rfl) ?_
      refine lv_iload hx hb dX11_soonestOf_114 (lv_at hl 7 rfl) ?_
      refine db_callVi S hw (Nat.le_of_ble_eq_true rfl) db_s90 (C := RX11) (T := TX11) (N := 19) (As := [.int x6]) rfl (ct_X11_perDay  h) gX11_soonestOf_X11_perDay rfl ⟨rfl, rfl, Nat.le_of_ble_eq_true rfl, Nat.le_of_ble_eq_true rfl⟩ 1 rfl (by decide +kernel) hl.1 rfl (Nat.le_of_ble_eq_true rfl) dX11_soonestOf_116 ⟨Nat.zero_le _, Nat.zero_le _⟩ (fun r2 X2 H locs h hw => ?_)
      refine db_callSi S hw (As := [.int (X.1 98 (x6).toNatClampNeg), .int r2]) (ct_X11_lesser  h) gX11_soonestOf_X11_lesser rfl ⟨rfl, rfl, Nat.le_of_ble_eq_true rfl, Nat.le_of_ble_eq_true rfl⟩ 2 rfl (by decide +kernel) hl.1 rfl (Nat.le_of_ble_eq_true rfl) dX11_soonestOf_119 ⟨Nat.zero_le _, Nat.zero_le _⟩ (fun r3 X3 H locs h hw => ?_)
      exact tw_X11_soonestOf_122 S hr hlocks  hk53 _ _ _ _ _ _ _ _ _ _ _ h hw (lv_sub hl [1, 2, 3, 4, 5, 6, 7] rfl)
    · have h := h.2 c4
      refine lv_iconst (v := (0 : Int32)) hx hb dX11_soonestOf_102 (by decide) ?_
      refine lv_goto (tgt := 122) hx hb dX11_soonestOf_103 (by decide) ?_
      exact tw_X11_soonestOf_122 S hr hlocks  hk53 _ _ _ _ _ _ _ _ _ _ _ h hw (lv_sub hl [1, 2, 3, 4, 5, 6, 7] rfl)
  · have h := h.1 c14
    refine lv_iload_n hx hb dX11_soonestOf_86 rfl (lv_at hl 3 rfl) ?_
    refine lv_if_eq (tgt := 94) hx hb dX11_soonestOf_87 (by decide) (fun c13 => ?_) (fun c13 => ?_)
    · have h := h.1 c13
      refine lv_iconst (v := (0 : Int32)) hx hb dX11_soonestOf_94 (by decide) ?_
      refine lv_istore (lv' := [(7, .int (0 : Int32)), (0, .ref (db_ad E 90)), (1, .int x1), (2, .int x2), (3, .int x3), (4, .int x4), (5, .int x5), (6, .int x6)]) hx hb dX11_soonestOf_95 hl (by decide) rfl (fun ls hl => ?_)
      refine lv_iload hx hb dX11_soonestOf_97 (lv_at hl 0 rfl) ?_
      refine lv_if_eq (tgt := 106) hx hb dX11_soonestOf_99 (by decide) (fun c8 => ?_) (fun c8 => ?_)
      · have h := h.1 c8
        refine lv_aload_n hx hb dX11_soonestOf_106 rfl (lv_at hl 1 rfl) ?_
        refine db_getr S hw (Nat.le_of_ble_eq_true rfl) db_s90 (C := RX11) (T := TX11) (N := 19) rfl hiX11 10 (by decide) (r := 98) rfl (List.mem_of_getElem? (i := 1) rfl) dX11_soonestOf_107 ?_
        refine lv_iload hx hb dX11_soonestOf_110 (lv_at hl 7 rfl) ?_
        obtain ⟨g5, h⟩ := h
        refine db_iald S hw (Nat.le_of_ble_eq_true rfl) db_s98 g5 dX11_soonestOf_112 ?_
        refine lv_aload_n hx hb dX11_soonestOf_113 rfl (lv_at hl 1 rfl) ?_
        refine lv_iload hx hb dX11_soonestOf_114 (lv_at hl 7 rfl) ?_
        refine db_callVi S hw (Nat.le_of_ble_eq_true rfl) db_s90 (C := RX11) (T := TX11) (N := 19) (As := [.int x6]) rfl (ct_X11_perDay  h) gX11_soonestOf_X11_perDay rfl ⟨rfl, rfl, Nat.le_of_ble_eq_true rfl, Nat.le_of_ble_eq_true rfl⟩ 1 rfl (by decide +kernel) hl.1 rfl (Nat.le_of_ble_eq_true rfl) dX11_soonestOf_116 ⟨Nat.zero_le _, Nat.zero_le _⟩ (fun r6 X6 H locs h hw => ?_)
        refine db_callSi S hw (As := [.int (X.1 98 (x6).toNatClampNeg), .int r6]) (ct_X11_lesser  h) gX11_soonestOf_X11_lesser rfl ⟨rfl, rfl, Nat.le_of_ble_eq_true rfl, Nat.le_of_ble_eq_true rfl⟩ 2 rfl (by decide +kernel) hl.1 rfl (Nat.le_of_ble_eq_true rfl) dX11_soonestOf_119 ⟨Nat.zero_le _, Nat.zero_le _⟩ (fun r7 X7 H locs h hw => ?_)
        exact tw_X11_soonestOf_122 S hr hlocks  hk53 _ _ _ _ _ _ _ _ _ _ _ h hw (lv_sub hl [1, 2, 3, 4, 5, 6, 7] rfl)
      · have h := h.2 c8
        refine lv_iconst (v := (0 : Int32)) hx hb dX11_soonestOf_102 (by decide) ?_
        refine lv_goto (tgt := 122) hx hb dX11_soonestOf_103 (by decide) ?_
        exact tw_X11_soonestOf_122 S hr hlocks  hk53 _ _ _ _ _ _ _ _ _ _ _ h hw (lv_sub hl [1, 2, 3, 4, 5, 6, 7] rfl)
    · have h := h.2 c13
      refine lv_iconst (v := (1 : Int32)) hx hb dX11_soonestOf_90 (by decide) ?_
      refine lv_goto (tgt := 95) hx hb dX11_soonestOf_91 (by decide) ?_
      refine lv_istore (lv' := [(7, .int (1 : Int32)), (0, .ref (db_ad E 90)), (1, .int x1), (2, .int x2), (3, .int x3), (4, .int x4), (5, .int x5), (6, .int x6)]) hx hb dX11_soonestOf_95 hl (by decide) rfl (fun ls hl => ?_)
      refine lv_iload hx hb dX11_soonestOf_97 (lv_at hl 0 rfl) ?_
      refine lv_if_eq (tgt := 106) hx hb dX11_soonestOf_99 (by decide) (fun c12 => ?_) (fun c12 => ?_)
      · have h := h.1 c12
        refine lv_aload_n hx hb dX11_soonestOf_106 rfl (lv_at hl 1 rfl) ?_
        refine db_getr S hw (Nat.le_of_ble_eq_true rfl) db_s90 (C := RX11) (T := TX11) (N := 19) rfl hiX11 10 (by decide) (r := 98) rfl (List.mem_of_getElem? (i := 1) rfl) dX11_soonestOf_107 ?_
        refine lv_iload hx hb dX11_soonestOf_110 (lv_at hl 7 rfl) ?_
        obtain ⟨g9, h⟩ := h
        refine db_iald S hw (Nat.le_of_ble_eq_true rfl) db_s98 g9 dX11_soonestOf_112 ?_
        refine lv_aload_n hx hb dX11_soonestOf_113 rfl (lv_at hl 1 rfl) ?_
        refine lv_iload hx hb dX11_soonestOf_114 (lv_at hl 7 rfl) ?_
        refine db_callVi S hw (Nat.le_of_ble_eq_true rfl) db_s90 (C := RX11) (T := TX11) (N := 19) (As := [.int x6]) rfl (ct_X11_perDay  h) gX11_soonestOf_X11_perDay rfl ⟨rfl, rfl, Nat.le_of_ble_eq_true rfl, Nat.le_of_ble_eq_true rfl⟩ 1 rfl (by decide +kernel) hl.1 rfl (Nat.le_of_ble_eq_true rfl) dX11_soonestOf_116 ⟨Nat.zero_le _, Nat.zero_le _⟩ (fun r10 X10 H locs h hw => ?_)
        refine db_callSi S hw (As := [.int (X.1 98 (x6).toNatClampNeg), .int r10]) (ct_X11_lesser  h) gX11_soonestOf_X11_lesser rfl ⟨rfl, rfl, Nat.le_of_ble_eq_true rfl, Nat.le_of_ble_eq_true rfl⟩ 2 rfl (by decide +kernel) hl.1 rfl (Nat.le_of_ble_eq_true rfl) dX11_soonestOf_119 ⟨Nat.zero_le _, Nat.zero_le _⟩ (fun r11 X11 H locs h hw => ?_)
        exact tw_X11_soonestOf_122 S hr hlocks  hk53 _ _ _ _ _ _ _ _ _ _ _ h hw (lv_sub hl [1, 2, 3, 4, 5, 6, 7] rfl)
      · have h := h.2 c12
        refine lv_iconst (v := (0 : Int32)) hx hb dX11_soonestOf_102 (by decide) ?_
        refine lv_goto (tgt := 122) hx hb dX11_soonestOf_103 (by decide) ?_
        exact tw_X11_soonestOf_122 S hr hlocks  hk53 _ _ _ _ _ _ _ _ _ _ _ h hw (lv_sub hl [1, 2, 3, 4, 5, 6, 7] rfl)
def wp_X11_soonestOf_53 (k39 : db_St → Int32 → Int32 → Int32 → Int32 → Prop) (Q : Int32 → db_St → Prop) : Nat → db_St → Int32 → Int32 → Int32 → Int32 → Int32 → Int32 → Prop
  | 0, _, _, _, _, _, _, _ => False
  | n_ + 1, X, x1, x2, x3, x4, x5, x6 => (((6 : Int32) ≤ x6 → ((x2 < ((10 : Int32) * x1) → k39 X x1 x2 x5 (x4 + (1 : Int32))) ∧ (¬ (x2 < ((10 : Int32) * x1)) → Q (x4 + (1 : Int32)) X))) ∧ (¬ ((6 : Int32) ≤ x6) → ((x6 = 0 → wp_X11_isFeast X x4 (fun r2 X2 => ((r2 = 0 → wp_X11_soonestOf_80 (wp_X11_soonestOf_53 k39 Q n_) Q X2 x1 x2 x3 x4 x5 x6) ∧ (¬ r2 = 0 → (((1 : Int32) = 0 → (vp_in x6 6 ∧ wp_X11_perDay X2 x6 (fun r4 X4 => wp_X11_lesser X4 (X2.1 98 (x6).toNatClampNeg) r4 (fun r5 X5 => wp_X11_soonestOf_122 (wp_X11_soonestOf_53 k39 Q n_) Q X5 x1 x2 x3 x4 x5 x6 r5)))) ∧ (¬ ((1 : Int32) = 0) → wp_X11_soonestOf_122 (wp_X11_soonestOf_53 k39 Q n_) Q X2 x1 x2 x3 x4 x5 x6 (0 : Int32))))))) ∧ (¬ (x6 = 0) → ((x6 = (5 : Int32) → wp_X11_isFeast X x4 (fun r8 X8 => ((r8 = 0 → wp_X11_soonestOf_80 (wp_X11_soonestOf_53 k39 Q n_) Q X8 x1 x2 x3 x4 x5 x6) ∧ (¬ r8 = 0 → (((1 : Int32) = 0 → (vp_in x6 6 ∧ wp_X11_perDay X8 x6 (fun r10 X10 => wp_X11_lesser X10 (X8.1 98 (x6).toNatClampNeg) r10 (fun r11 X11 => wp_X11_soonestOf_122 (wp_X11_soonestOf_53 k39 Q n_) Q X11 x1 x2 x3 x4 x5 x6 r11)))) ∧ (¬ ((1 : Int32) = 0) → wp_X11_soonestOf_122 (wp_X11_soonestOf_53 k39 Q n_) Q X8 x1 x2 x3 x4 x5 x6 (0 : Int32))))))) ∧ (¬ x6 = (5 : Int32) → wp_X11_soonestOf_80 (wp_X11_soonestOf_53 k39 Q n_) Q X x1 x2 x3 x4 x5 x6))))))
set_option maxHeartbeats 4000000 in
set_option maxRecDepth 100000 in
theorem tw_X11_soonestOf_53 {p : Program} {l : Launch} {e : Env} {s : State} {m : MethodId} {args : Array Value} {below : List Frame} {meth : Method} {c : Code} {E : db_E} (S : CallFix p m c cX11_soonestOf 9 s args wsX11_soonestOf RX11) (hr : meth.sig.returnType = (some .int)) (hlocks : meth.locks = false)  {Q : Int32 → db_St → Prop} {k39 : db_St → Int32 → Int32 → Int32 → Int32 → Prop} (hk39 : ∀ (X : db_St) (x1 : Int32) (x2 : Int32) (x3 : Int32) (x4 : Int32) (H : Heap) (locs : List Loc) (ls : Array Slot), k39 X x1 x2 x3 x4 → db_HW E (db_Aw E s.heap.size) s X H locs → lv_has ls 9 [(0, .ref (db_ad E 90)), (1, .int x1), (2, .int x2), (3, .int x3), (4, .int x4)] → W p l e rm_X11_soonestOf s m args below meth c H locs 0 0 (MQ below (va_Qi Q (db_Po E) (db_Aw E s.heap.size)) args s 0 0 (db_Aw E s.heap.size)) (F0 m 39 ls [])) : ∀ (n : Nat) (X : db_St) (x1 : Int32) (x2 : Int32) (x3 : Int32) (x4 : Int32) (x5 : Int32) (x6 : Int32) (H : Heap) (locs : List Loc) (ls : Array Slot), wp_X11_soonestOf_53 k39 Q n X x1 x2 x3 x4 x5 x6 → db_HW E (db_Aw E s.heap.size) s X H locs → lv_has ls 9 [(0, .ref (db_ad E 90)), (1, .int x1), (2, .int x2), (3, .int x3), (4, .int x4), (5, .int x5), (6, .int x6)] → W p l e rm_X11_soonestOf s m args below meth c H locs 0 0 (MQ below (va_Qi Q (db_Po E) (db_Aw E s.heap.size)) args s 0 0 (db_Aw E s.heap.size)) (F0 m 53 ls []) := by
  have hx := S.1
  have hb := S.2.1
  have hiX11 : ∀ w ∈ wsX110, w ∈ wsX11_soonestOf := fun w_ h_ => List.mem_cons_of_mem _ (List.mem_append_right _ h_)
  intro n
  induction n with
  | zero =>
    intro X x1 x2 x3 x4 x5 x6 H locs ls h hw hl
    exact False.elim h
  | succ n_ ih =>
    intro X x1 x2 x3 x4 x5 x6 H locs ls h hw hl
    unfold wp_X11_soonestOf_53 at h
    refine lv_iload hx hb dX11_soonestOf_53 (lv_at hl 6 rfl) ?_
    refine lv_bipush (v := (6 : Int32)) hx hb dX11_soonestOf_55 (by decide) ?_
    refine lv_icmp_ge (tgt := 184) hx hb dX11_soonestOf_57 (by decide) (fun c16 => ?_) (fun c16 => ?_)
    · have h := h.1 c16
      refine lv_iload hx hb dX11_soonestOf_184 (lv_at hl 5 rfl) ?_
      refine lv_istore_n (lv' := [(3, .int x5), (0, .ref (db_ad E 90)), (1, .int x1), (2, .int x2), (4, .int x4), (5, .int x5), (6, .int x6)]) hx hb dX11_soonestOf_186 rfl hl (by decide) rfl (fun ls hl => ?_)
      refine lv_iload_n hx hb dX11_soonestOf_187 rfl (lv_at hl 3 rfl) ?_
      refine lv_bipush (v := (10 : Int32)) hx hb dX11_soonestOf_188 (by decide) ?_
      refine lv_iload_n hx hb dX11_soonestOf_190 rfl (lv_at hl 2 rfl) ?_
      refine lv_imul hx hb dX11_soonestOf_191 ?_
      refine lv_icmp_lt (tgt := 200) hx hb dX11_soonestOf_192 (by decide) (fun c1 => ?_) (fun c1 => ?_)
      · have h := h.1 c1
        refine lv_iinc (v := (x4 + (1 : Int32))) (lv' := [(4, .int (x4 + (1 : Int32))), (3, .int x5), (0, .ref (db_ad E 90)), (1, .int x1), (2, .int x2), (5, .int x5), (6, .int x6)]) hx hb dX11_soonestOf_200 hl (k := 4) rfl (congrArg (fun z_ => x4 + z_) (show Int32.ofInt (1) = (1 : Int32) by decide)) (by decide) rfl (fun ls hl => ?_)
        refine lv_goto (tgt := 39) hx hb dX11_soonestOf_203 (by decide) ?_
        exact hk39 _ _ _ _ _ _ _ _ h hw (lv_sub hl [2, 3, 4, 1, 0] rfl)
      · have h := h.2 c1
        refine lv_iload hx hb dX11_soonestOf_195 (lv_at hl 4 rfl) ?_
        refine lv_iconst (v := (1 : Int32)) hx hb dX11_soonestOf_197 (by decide) ?_
        refine lv_iadd hx hb dX11_soonestOf_198 ?_
        exact db_iret S hr hlocks hw h dX11_soonestOf_199
    · have h := h.2 c16
      refine lv_iload hx hb dX11_soonestOf_60 (lv_at hl 6 rfl) ?_
      refine lv_if_eq (tgt := 71) hx hb dX11_soonestOf_62 (by decide) (fun c15 => ?_) (fun c15 => ?_)
      · have h := h.1 c15
        refine lv_aload_n hx hb dX11_soonestOf_71 rfl (lv_at hl 0 rfl) ?_
        refine lv_iload hx hb dX11_soonestOf_72 (lv_at hl 4 rfl) ?_
        refine db_callVi S hw (Nat.le_of_ble_eq_true rfl) db_s90 (C := RX11) (T := TX11) (N := 19) (As := [.int x4]) rfl (ct_X11_isFeast  h) gX11_soonestOf_X11_isFeast rfl ⟨rfl, rfl, Nat.le_of_ble_eq_true rfl, Nat.le_of_ble_eq_true rfl⟩ 1 rfl (by decide +kernel) hl.1 rfl (Nat.le_of_ble_eq_true rfl) dX11_soonestOf_74 ⟨Nat.zero_le _, Nat.zero_le _⟩ (fun r2 X2 H locs h hw => ?_)
        refine lv_if_ne (tgt := 90) hx hb dX11_soonestOf_77 (by decide) (fun c7 => ?_) (fun c7 => ?_)
        · have h := h.2 c7
          refine lv_iconst (v := (1 : Int32)) hx hb dX11_soonestOf_90 (by decide) ?_
          refine lv_goto (tgt := 95) hx hb dX11_soonestOf_91 (by decide) ?_
          refine lv_istore (lv' := [(7, .int (1 : Int32)), (0, .ref (db_ad E 90)), (1, .int x1), (2, .int x2), (3, .int x3), (4, .int x4), (5, .int x5), (6, .int x6)]) hx hb dX11_soonestOf_95 hl (by decide) rfl (fun ls hl => ?_)
          refine lv_iload hx hb dX11_soonestOf_97 (lv_at hl 0 rfl) ?_
          refine lv_if_eq (tgt := 106) hx hb dX11_soonestOf_99 (by decide) (fun c6 => ?_) (fun c6 => ?_)
          · have h := h.1 c6
            refine lv_aload_n hx hb dX11_soonestOf_106 rfl (lv_at hl 1 rfl) ?_
            refine db_getr S hw (Nat.le_of_ble_eq_true rfl) db_s90 (C := RX11) (T := TX11) (N := 19) rfl hiX11 10 (by decide) (r := 98) rfl (List.mem_of_getElem? (i := 1) rfl) dX11_soonestOf_107 ?_
            refine lv_iload hx hb dX11_soonestOf_110 (lv_at hl 7 rfl) ?_
            obtain ⟨g3, h⟩ := h
            refine db_iald S hw (Nat.le_of_ble_eq_true rfl) db_s98 g3 dX11_soonestOf_112 ?_
            refine lv_aload_n hx hb dX11_soonestOf_113 rfl (lv_at hl 1 rfl) ?_
            refine lv_iload hx hb dX11_soonestOf_114 (lv_at hl 7 rfl) ?_
            refine db_callVi S hw (Nat.le_of_ble_eq_true rfl) db_s90 (C := RX11) (T := TX11) (N := 19) (As := [.int x6]) rfl (ct_X11_perDay  h) gX11_soonestOf_X11_perDay rfl ⟨rfl, rfl, Nat.le_of_ble_eq_true rfl, Nat.le_of_ble_eq_true rfl⟩ 1 rfl (by decide +kernel) hl.1 rfl (Nat.le_of_ble_eq_true rfl) dX11_soonestOf_116 ⟨Nat.zero_le _, Nat.zero_le _⟩ (fun r4 X4 H locs h hw => ?_)
            refine db_callSi S hw (As := [.int (X2.1 98 (x6).toNatClampNeg), .int r4]) (ct_X11_lesser  h) gX11_soonestOf_X11_lesser rfl ⟨rfl, rfl, Nat.le_of_ble_eq_true rfl, Nat.le_of_ble_eq_true rfl⟩ 2 rfl (by decide +kernel) hl.1 rfl (Nat.le_of_ble_eq_true rfl) dX11_soonestOf_119 ⟨Nat.zero_le _, Nat.zero_le _⟩ (fun r5 X5 H locs h hw => ?_)
            exact tw_X11_soonestOf_122 S hr hlocks  ih _ _ _ _ _ _ _ _ _ _ _ h hw (lv_sub hl [1, 2, 3, 4, 5, 6, 7] rfl)
          · have h := h.2 c6
            refine lv_iconst (v := (0 : Int32)) hx hb dX11_soonestOf_102 (by decide) ?_
            refine lv_goto (tgt := 122) hx hb dX11_soonestOf_103 (by decide) ?_
            exact tw_X11_soonestOf_122 S hr hlocks  ih _ _ _ _ _ _ _ _ _ _ _ h hw (lv_sub hl [1, 2, 3, 4, 5, 6, 7] rfl)
        · have h := h.1 c7
          exact tw_X11_soonestOf_80 S hr hlocks  ih _ _ _ _ _ _ _ _ _ _ h hw (lv_sub hl [0, 1, 2, 3, 4, 5, 6] rfl)
      · have h := h.2 c15
        refine lv_iload hx hb dX11_soonestOf_65 (lv_at hl 6 rfl) ?_
        refine lv_iconst (v := (5 : Int32)) hx hb dX11_soonestOf_67 (by decide) ?_
        refine lv_icmp_ne (tgt := 80) hx hb dX11_soonestOf_68 (by decide) (fun c14 => ?_) (fun c14 => ?_)
        · have h := h.2 c14
          exact tw_X11_soonestOf_80 S hr hlocks  ih _ _ _ _ _ _ _ _ _ _ h hw (lv_sub hl [0, 1, 2, 3, 4, 5, 6] rfl)
        · have h := h.1 c14
          refine lv_aload_n hx hb dX11_soonestOf_71 rfl (lv_at hl 0 rfl) ?_
          refine lv_iload hx hb dX11_soonestOf_72 (lv_at hl 4 rfl) ?_
          refine db_callVi S hw (Nat.le_of_ble_eq_true rfl) db_s90 (C := RX11) (T := TX11) (N := 19) (As := [.int x4]) rfl (ct_X11_isFeast  h) gX11_soonestOf_X11_isFeast rfl ⟨rfl, rfl, Nat.le_of_ble_eq_true rfl, Nat.le_of_ble_eq_true rfl⟩ 1 rfl (by decide +kernel) hl.1 rfl (Nat.le_of_ble_eq_true rfl) dX11_soonestOf_74 ⟨Nat.zero_le _, Nat.zero_le _⟩ (fun r8 X8 H locs h hw => ?_)
          refine lv_if_ne (tgt := 90) hx hb dX11_soonestOf_77 (by decide) (fun c13 => ?_) (fun c13 => ?_)
          · have h := h.2 c13
            refine lv_iconst (v := (1 : Int32)) hx hb dX11_soonestOf_90 (by decide) ?_
            refine lv_goto (tgt := 95) hx hb dX11_soonestOf_91 (by decide) ?_
            refine lv_istore (lv' := [(7, .int (1 : Int32)), (0, .ref (db_ad E 90)), (1, .int x1), (2, .int x2), (3, .int x3), (4, .int x4), (5, .int x5), (6, .int x6)]) hx hb dX11_soonestOf_95 hl (by decide) rfl (fun ls hl => ?_)
            refine lv_iload hx hb dX11_soonestOf_97 (lv_at hl 0 rfl) ?_
            refine lv_if_eq (tgt := 106) hx hb dX11_soonestOf_99 (by decide) (fun c12 => ?_) (fun c12 => ?_)
            · have h := h.1 c12
              refine lv_aload_n hx hb dX11_soonestOf_106 rfl (lv_at hl 1 rfl) ?_
              refine db_getr S hw (Nat.le_of_ble_eq_true rfl) db_s90 (C := RX11) (T := TX11) (N := 19) rfl hiX11 10 (by decide) (r := 98) rfl (List.mem_of_getElem? (i := 1) rfl) dX11_soonestOf_107 ?_
              refine lv_iload hx hb dX11_soonestOf_110 (lv_at hl 7 rfl) ?_
              obtain ⟨g9, h⟩ := h
              refine db_iald S hw (Nat.le_of_ble_eq_true rfl) db_s98 g9 dX11_soonestOf_112 ?_
              refine lv_aload_n hx hb dX11_soonestOf_113 rfl (lv_at hl 1 rfl) ?_
              refine lv_iload hx hb dX11_soonestOf_114 (lv_at hl 7 rfl) ?_
              refine db_callVi S hw (Nat.le_of_ble_eq_true rfl) db_s90 (C := RX11) (T := TX11) (N := 19) (As := [.int x6]) rfl (ct_X11_perDay  h) gX11_soonestOf_X11_perDay rfl ⟨rfl, rfl, Nat.le_of_ble_eq_true rfl, Nat.le_of_ble_eq_true rfl⟩ 1 rfl (by decide +kernel) hl.1 rfl (Nat.le_of_ble_eq_true rfl) dX11_soonestOf_116 ⟨Nat.zero_le _, Nat.zero_le _⟩ (fun r10 X10 H locs h hw => ?_)
              refine db_callSi S hw (As := [.int (X8.1 98 (x6).toNatClampNeg), .int r10]) (ct_X11_lesser  h) gX11_soonestOf_X11_lesser rfl ⟨rfl, rfl, Nat.le_of_ble_eq_true rfl, Nat.le_of_ble_eq_true rfl⟩ 2 rfl (by decide +kernel) hl.1 rfl (Nat.le_of_ble_eq_true rfl) dX11_soonestOf_119 ⟨Nat.zero_le _, Nat.zero_le _⟩ (fun r11 X11 H locs h hw => ?_)
              exact tw_X11_soonestOf_122 S hr hlocks  ih _ _ _ _ _ _ _ _ _ _ _ h hw (lv_sub hl [1, 2, 3, 4, 5, 6, 7] rfl)
            · have h := h.2 c12
              refine lv_iconst (v := (0 : Int32)) hx hb dX11_soonestOf_102 (by decide) ?_
              refine lv_goto (tgt := 122) hx hb dX11_soonestOf_103 (by decide) ?_
              exact tw_X11_soonestOf_122 S hr hlocks  ih _ _ _ _ _ _ _ _ _ _ _ h hw (lv_sub hl [1, 2, 3, 4, 5, 6, 7] rfl)
          · have h := h.1 c13
            exact tw_X11_soonestOf_80 S hr hlocks  ih _ _ _ _ _ _ _ _ _ _ h hw (lv_sub hl [0, 1, 2, 3, 4, 5, 6] rfl)
def wp_X11_soonestOf_39 (Q : Int32 → db_St → Prop) : Nat → db_St → Int32 → Int32 → Int32 → Int32 → Prop
  | 0, _, _, _, _, _ => False
  | n_ + 1, X, x1, x2, x3, x4 => (((400 : Int32) ≤ x4 → Q (-9 : Int32) X) ∧ (¬ ((400 : Int32) ≤ x4) → (∃ f_, wp_X11_soonestOf_53 (wp_X11_soonestOf_39 Q n_) Q f_ X x1 x2 x3 x4 (0 : Int32) (0 : Int32))))
set_option maxHeartbeats 4000000 in
set_option maxRecDepth 100000 in
theorem tw_X11_soonestOf_39 {p : Program} {l : Launch} {e : Env} {s : State} {m : MethodId} {args : Array Value} {below : List Frame} {meth : Method} {c : Code} {E : db_E} (S : CallFix p m c cX11_soonestOf 9 s args wsX11_soonestOf RX11) (hr : meth.sig.returnType = (some .int)) (hlocks : meth.locks = false)  {Q : Int32 → db_St → Prop} : ∀ (n : Nat) (X : db_St) (x1 : Int32) (x2 : Int32) (x3 : Int32) (x4 : Int32) (H : Heap) (locs : List Loc) (ls : Array Slot), wp_X11_soonestOf_39 Q n X x1 x2 x3 x4 → db_HW E (db_Aw E s.heap.size) s X H locs → lv_has ls 9 [(0, .ref (db_ad E 90)), (1, .int x1), (2, .int x2), (3, .int x3), (4, .int x4)] → W p l e rm_X11_soonestOf s m args below meth c H locs 0 0 (MQ below (va_Qi Q (db_Po E) (db_Aw E s.heap.size)) args s 0 0 (db_Aw E s.heap.size)) (F0 m 39 ls []) := by
  have hx := S.1
  have hb := S.2.1
  have hiX11 : ∀ w ∈ wsX110, w ∈ wsX11_soonestOf := fun w_ h_ => List.mem_cons_of_mem _ (List.mem_append_right _ h_)
  intro n
  induction n with
  | zero =>
    intro X x1 x2 x3 x4 H locs ls h hw hl
    exact False.elim h
  | succ n_ ih =>
    intro X x1 x2 x3 x4 H locs ls h hw hl
    unfold wp_X11_soonestOf_39 at h
    refine lv_iload hx hb dX11_soonestOf_39 (lv_at hl 4 rfl) ?_
    refine lv_sipush (v := (400 : Int32)) hx hb dX11_soonestOf_41 (by decide) ?_
    refine lv_icmp_ge (tgt := 206) hx hb dX11_soonestOf_44 (by decide) (fun c1 => ?_) (fun c1 => ?_)
    · have h := h.1 c1
      refine lv_bipush (v := (-9 : Int32)) hx hb dX11_soonestOf_206 (by decide) ?_
      exact db_iret S hr hlocks hw h dX11_soonestOf_208
    · have h := h.2 c1
      refine lv_iconst (v := (0 : Int32)) hx hb dX11_soonestOf_47 (by decide) ?_
      refine lv_istore (lv' := [(5, .int (0 : Int32)), (0, .ref (db_ad E 90)), (1, .int x1), (2, .int x2), (3, .int x3), (4, .int x4)]) hx hb dX11_soonestOf_48 hl (by decide) rfl (fun ls hl => ?_)
      refine lv_iconst (v := (0 : Int32)) hx hb dX11_soonestOf_50 (by decide) ?_
      refine lv_istore (lv' := [(6, .int (0 : Int32)), (5, .int (0 : Int32)), (0, .ref (db_ad E 90)), (1, .int x1), (2, .int x2), (3, .int x3), (4, .int x4)]) hx hb dX11_soonestOf_51 hl (by decide) rfl (fun ls hl => ?_)
      obtain ⟨f_, h⟩ := h
      exact tw_X11_soonestOf_53 S hr hlocks  ih f_ _ _ _ _ _ _ _ _ _ _ h hw (lv_sub hl [2, 3, 4, 5, 6, 1, 0] rfl)
def wp_X11_soonestOf_8 (Q : Int32 → db_St → Prop) : Nat → db_St → Int32 → Int32 → Prop
  | 0, _, _, _ => False
  | n_ + 1, X, x1, x2 => (((6 : Int32) ≤ x2 → (∃ f_, wp_X11_soonestOf_39 Q f_ X x1 (0 : Int32) (0 : Int32) (0 : Int32))) ∧ (¬ ((6 : Int32) ≤ x2) → wp_X11_pay X x2 (3 : Int32) (fun r1 X1 => (vp_in x2 6 ∧ (∀ X3, X3 = (db_si X1 98 (x2).toNatClampNeg r1) → wp_X11_soonestOf_8 Q n_ X3 x1 (x2 + (1 : Int32)))))))
set_option maxHeartbeats 4000000 in
set_option maxRecDepth 100000 in
theorem tw_X11_soonestOf_8 {p : Program} {l : Launch} {e : Env} {s : State} {m : MethodId} {args : Array Value} {below : List Frame} {meth : Method} {c : Code} {E : db_E} (S : CallFix p m c cX11_soonestOf 9 s args wsX11_soonestOf RX11) (hr : meth.sig.returnType = (some .int)) (hlocks : meth.locks = false)  {Q : Int32 → db_St → Prop} : ∀ (n : Nat) (X : db_St) (x1 : Int32) (x2 : Int32) (H : Heap) (locs : List Loc) (ls : Array Slot), wp_X11_soonestOf_8 Q n X x1 x2 → db_HW E (db_Aw E s.heap.size) s X H locs → lv_has ls 9 [(0, .ref (db_ad E 90)), (1, .int x1), (2, .int x2)] → W p l e rm_X11_soonestOf s m args below meth c H locs 0 0 (MQ below (va_Qi Q (db_Po E) (db_Aw E s.heap.size)) args s 0 0 (db_Aw E s.heap.size)) (F0 m 8 ls []) := by
  have hx := S.1
  have hb := S.2.1
  have hiX11 : ∀ w ∈ wsX110, w ∈ wsX11_soonestOf := fun w_ h_ => List.mem_cons_of_mem _ (List.mem_append_right _ h_)
  intro n
  induction n with
  | zero =>
    intro X x1 x2 H locs ls h hw hl
    exact False.elim h
  | succ n_ ih =>
    intro X x1 x2 H locs ls h hw hl
    unfold wp_X11_soonestOf_8 at h
    refine lv_iload_n hx hb dX11_soonestOf_8 rfl (lv_at hl 2 rfl) ?_
    refine lv_bipush (v := (6 : Int32)) hx hb dX11_soonestOf_9 (by decide) ?_
    refine lv_icmp_ge (tgt := 32) hx hb dX11_soonestOf_11 (by decide) (fun c4 => ?_) (fun c4 => ?_)
    · have h := h.1 c4
      refine lv_iconst (v := (0 : Int32)) hx hb dX11_soonestOf_32 (by decide) ?_
      refine lv_istore_n (lv' := [(2, .int (0 : Int32)), (0, .ref (db_ad E 90)), (1, .int x1)]) hx hb dX11_soonestOf_33 rfl hl (by decide) rfl (fun ls hl => ?_)
      refine lv_iconst (v := (0 : Int32)) hx hb dX11_soonestOf_34 (by decide) ?_
      refine lv_istore_n (lv' := [(3, .int (0 : Int32)), (2, .int (0 : Int32)), (0, .ref (db_ad E 90)), (1, .int x1)]) hx hb dX11_soonestOf_35 rfl hl (by decide) rfl (fun ls hl => ?_)
      refine lv_iconst (v := (0 : Int32)) hx hb dX11_soonestOf_36 (by decide) ?_
      refine lv_istore (lv' := [(4, .int (0 : Int32)), (3, .int (0 : Int32)), (2, .int (0 : Int32)), (0, .ref (db_ad E 90)), (1, .int x1)]) hx hb dX11_soonestOf_37 hl (by decide) rfl (fun ls hl => ?_)
      obtain ⟨f_, h⟩ := h
      exact tw_X11_soonestOf_39 S hr hlocks   f_ _ _ _ _ _ _ _ _ h hw (lv_sub hl [3, 4, 2, 1, 0] rfl)
    · have h := h.2 c4
      refine lv_aload_n hx hb dX11_soonestOf_14 rfl (lv_at hl 0 rfl) ?_
      refine db_getr S hw (Nat.le_of_ble_eq_true rfl) db_s90 (C := RX11) (T := TX11) (N := 19) rfl hiX11 10 (by decide) (r := 98) rfl (List.mem_of_getElem? (i := 1) rfl) dX11_soonestOf_15 ?_
      refine lv_iload_n hx hb dX11_soonestOf_18 rfl (lv_at hl 2 rfl) ?_
      refine lv_aload_n hx hb dX11_soonestOf_19 rfl (lv_at hl 0 rfl) ?_
      refine lv_iload_n hx hb dX11_soonestOf_20 rfl (lv_at hl 2 rfl) ?_
      refine lv_iconst (v := (3 : Int32)) hx hb dX11_soonestOf_21 (by decide) ?_
      refine db_callVi S hw (Nat.le_of_ble_eq_true rfl) db_s90 (C := RX11) (T := TX11) (N := 19) (As := [.int x2, .int (3 : Int32)]) rfl (ct_X11_pay  h) gX11_soonestOf_X11_pay rfl ⟨rfl, rfl, Nat.le_of_ble_eq_true rfl, Nat.le_of_ble_eq_true rfl⟩ 2 rfl (by decide +kernel) hl.1 rfl (Nat.le_of_ble_eq_true rfl) dX11_soonestOf_22 ⟨Nat.zero_le _, Nat.zero_le _⟩ (fun r1 X1 H locs h hw => ?_)
      obtain ⟨g2, h⟩ := h
      refine db_iast S hw (Nat.le_of_ble_eq_true rfl) db_s98 g2 dX11_soonestOf_25 (fun H locs hw => ?_)
      obtain ⟨X3, e3, hw⟩ : ∃ Z_, Z_ = (db_si X1 98 (x2).toNatClampNeg r1) ∧ db_HW E (db_Aw E s.heap.size) s Z_ H locs := ⟨_, rfl, hw⟩
      have h := h X3 e3
      refine lv_iinc (v := (x2 + (1 : Int32))) (lv' := [(2, .int (x2 + (1 : Int32))), (0, .ref (db_ad E 90)), (1, .int x1)]) hx hb dX11_soonestOf_26 hl (k := 2) rfl (congrArg (fun z_ => x2 + z_) (show Int32.ofInt (1) = (1 : Int32) by decide)) (by decide) rfl (fun ls hl => ?_)
      refine lv_goto (tgt := 8) hx hb dX11_soonestOf_29 (by decide) ?_
      exact ih _ _ _ _ _ _ h hw (lv_sub hl [1, 2, 0] rfl)
def wp_X11_soonestOf  (X : db_St) (x1 : Int32) (Q : Int32 → db_St → Prop) : Prop := ((x1 = 0 → Q (0 : Int32) X) ∧ (¬ x1 = 0 → (∃ f_, wp_X11_soonestOf_8 Q f_ X x1 (0 : Int32))))
set_option maxHeartbeats 4000000 in
set_option maxRecDepth 100000 in
theorem ct_X11_soonestOf {l : Launch} {E : db_E}  {X : db_St} {x1 : Int32} {Q : Int32 → db_St → Prop} (h : wp_X11_soonestOf  X x1 Q) : db_MI l E yX11_soonestOf wsX11_soonestOf rm_X11_soonestOf X [.ref (db_ad E 90), .int x1] Q := by
  intro sz
  unfold wp_X11_soonestOf at h
  refine Met.ofW (cc := cX11_soonestOf) (maxL := 9) (ret := (some .int)) (by decide) rfl ?_
  intro p e s m args below meth c s₁ B hml hv
  obtain ⟨rfl, hsz, hU⟩ := hv
  subst hsz
  have S : CallFix p m c cX11_soonestOf 9 s ([.ref (db_ad E 90), .int x1] : List Value).toArray wsX11_soonestOf RX11 := ⟨B.exec, B.bytes, hml, findClass_of_methodNamed B.named, atoms_spec (ws := wsX11_soonestOf) B.pre⟩
  have hx := S.1
  have hb := S.2.1
  have hr := B.returns
  have hlocks := B.notSynchronized
  have hw := db_start hU
  have hiX11 : ∀ w ∈ wsX110, w ∈ wsX11_soonestOf := fun w_ h_ => List.mem_cons_of_mem _ (List.mem_append_right _ h_)
  have hl := lv_entry ([.ref (db_ad E 90), .int x1]) (n := 9) (Nat.le_of_ble_eq_true rfl)
  rw [lg_entry_eq]
  generalize (lg_sl ([.ref (db_ad E 90), .int x1]) ++ List.replicate (9 - (lg_sl ([.ref (db_ad E 90), .int x1])).length) Slot.unset).toArray = ls at hl ⊢
  have hl : lv_has ls 9 [(0, .ref (db_ad E 90)), (1, .int x1)] := hl
  refine lv_iload_n hx hb dX11_soonestOf_0 rfl (lv_at hl 1 rfl) ?_
  refine lv_if_ne (tgt := 6) hx hb dX11_soonestOf_1 (by decide) (fun c1 => ?_) (fun c1 => ?_)
  · have h := h.2 c1
    refine lv_iconst (v := (0 : Int32)) hx hb dX11_soonestOf_6 (by decide) ?_
    refine lv_istore_n (lv' := [(2, .int (0 : Int32)), (0, .ref (db_ad E 90)), (1, .int x1)]) hx hb dX11_soonestOf_7 rfl hl (by decide) rfl (fun ls hl => ?_)
    obtain ⟨f_, h⟩ := h
    exact tw_X11_soonestOf_8 S hr hlocks   f_ _ _ _ _ _ _ h hw (lv_sub hl [1, 2, 0] rfl)
  · have h := h.1 c1
    refine lv_iconst (v := (0 : Int32)) hx hb dX11_soonestOf_4 (by decide) ?_
    exact db_iret S hr hlocks hw h dX11_soonestOf_5
-- DaysOnBreadModel.soonest(I)I
abbrev rm_X11_soonest : Room := { frames := 3, cells := 0, slots := 0, locals := 71 }
def wp_X11_soonest  (X : db_St) (x1 : Int32) (Q : Int32 → db_St → Prop) : Prop := wp_X11_within X x1 (0 : Int32) (400 : Int32) (fun r1 X1 => ((r1 = 0 → wp_X11_soonestOf X1 x1 (fun r2 X2 => Q r2 X2)) ∧ (¬ (r1 = 0) → wp_X11_refuse X1 r1 (fun r3 X3 => Q r3 X3))))
set_option maxHeartbeats 4000000 in
set_option maxRecDepth 100000 in
theorem ct_X11_soonest {l : Launch} {E : db_E}  {X : db_St} {x1 : Int32} {Q : Int32 → db_St → Prop} (h : wp_X11_soonest  X x1 Q) : db_MI l E yX11_soonest wsX11_soonest rm_X11_soonest X [.ref (db_ad E 90), .int x1] Q := by
  intro sz
  unfold wp_X11_soonest at h
  refine Met.ofW (cc := cX11_soonest) (maxL := 3) (ret := (some .int)) (by decide) rfl ?_
  intro p e s m args below meth c s₁ B hml hv
  obtain ⟨rfl, hsz, hU⟩ := hv
  subst hsz
  have S : CallFix p m c cX11_soonest 3 s ([.ref (db_ad E 90), .int x1] : List Value).toArray wsX11_soonest RX11 := ⟨B.exec, B.bytes, hml, findClass_of_methodNamed B.named, atoms_spec (ws := wsX11_soonest) B.pre⟩
  have hx := S.1
  have hb := S.2.1
  have hr := B.returns
  have hlocks := B.notSynchronized
  have hw := db_start hU
  have hl := lv_entry ([.ref (db_ad E 90), .int x1]) (n := 3) (Nat.le_of_ble_eq_true rfl)
  rw [lg_entry_eq]
  generalize (lg_sl ([.ref (db_ad E 90), .int x1]) ++ List.replicate (3 - (lg_sl ([.ref (db_ad E 90), .int x1])).length) Slot.unset).toArray = ls at hl ⊢
  have hl : lv_has ls 3 [(0, .ref (db_ad E 90)), (1, .int x1)] := hl
  refine lv_iload_n hx hb dX11_soonest_0 rfl (lv_at hl 1 rfl) ?_
  refine lv_iconst (v := (0 : Int32)) hx hb dX11_soonest_1 (by decide) ?_
  refine lv_sipush (v := (400 : Int32)) hx hb dX11_soonest_2 (by decide) ?_
  refine db_callSi S hw (As := [.int x1, .int (0 : Int32), .int (400 : Int32)]) (ct_X11_within  h) gX11_soonest_X11_within rfl ⟨rfl, rfl, Nat.le_of_ble_eq_true rfl, Nat.le_of_ble_eq_true rfl⟩ 3 rfl (by decide +kernel) hl.1 rfl (Nat.le_of_ble_eq_true rfl) dX11_soonest_5 ⟨Nat.zero_le _, Nat.zero_le _⟩ (fun r1 X1 H locs h hw => ?_)
  refine lv_istore_n (lv' := [(2, .int r1), (0, .ref (db_ad E 90)), (1, .int x1)]) hx hb dX11_soonest_8 rfl hl (by decide) rfl (fun ls hl => ?_)
  refine lv_iload_n hx hb dX11_soonest_9 rfl (lv_at hl 0 rfl) ?_
  refine lv_if_eq (tgt := 21) hx hb dX11_soonest_10 (by decide) (fun c4 => ?_) (fun c4 => ?_)
  · have h := h.1 c4
    refine lv_aload_n hx hb dX11_soonest_21 rfl (lv_at hl 1 rfl) ?_
    refine lv_iload_n hx hb dX11_soonest_22 rfl (lv_at hl 2 rfl) ?_
    refine db_callVi S hw (Nat.le_of_ble_eq_true rfl) db_s90 (C := RX11) (T := TX11) (N := 19) (As := [.int x1]) rfl (ct_X11_soonestOf  h) gX11_soonest_X11_soonestOf rfl ⟨rfl, rfl, Nat.le_of_ble_eq_true rfl, Nat.le_of_ble_eq_true rfl⟩ 1 rfl (by decide +kernel) hl.1 rfl (Nat.le_of_ble_eq_true rfl) dX11_soonest_23 ⟨Nat.zero_le _, Nat.zero_le _⟩ (fun r2 X2 H locs h hw => ?_)
    exact db_iret S hr hlocks hw h dX11_soonest_26
  · have h := h.2 c4
    refine lv_aload_n hx hb dX11_soonest_13 rfl (lv_at hl 1 rfl) ?_
    refine lv_iload_n hx hb dX11_soonest_14 rfl (lv_at hl 0 rfl) ?_
    refine db_callVi S hw (Nat.le_of_ble_eq_true rfl) db_s90 (C := RX11) (T := TX11) (N := 19) (As := [.int r1]) rfl (ct_X11_refuse  h) gX11_soonest_X11_refuse rfl ⟨rfl, rfl, Nat.le_of_ble_eq_true rfl, Nat.le_of_ble_eq_true rfl⟩ 1 rfl (by decide +kernel) hl.1 rfl (Nat.le_of_ble_eq_true rfl) dX11_soonest_15 ⟨Nat.zero_le _, Nat.zero_le _⟩ (fun r3 X3 H locs h hw => ?_)
    refine lv_goto (tgt := 26) hx hb dX11_soonest_18 (by decide) ?_
    exact db_iret S hr hlocks hw h dX11_soonest_26
-- DaysOnBreadModel.needed(II)I
abbrev rm_X11_needed : Room := { frames := 3, cells := 0, slots := 0, locals := 71 }
def wp_X11_needed_53 (Q : Int32 → db_St → Prop) : Nat → db_St → Int32 → Int32 → Int32 → Int32 → Int32 → Prop
  | 0, _, _, _, _, _, _ => False
  | n_ + 1, X, x1, x2, x3, x4, x5 => (((100 : Int32) ≤ x5 → (∀ X1, X1 = (db_si X 92 ((309 : Int32)).toNatClampNeg x3) → Q x4 X1)) ∧ (¬ ((100 : Int32) ≤ x5) → ((0 ≤ x4 → (∀ X2, X2 = (db_si X 92 ((309 : Int32)).toNatClampNeg x3) → Q x4 X2)) ∧ (¬ (0 ≤ x4) → (∀ X3, X3 = (db_si X 92 ((309 : Int32)).toNatClampNeg x5) → wp_X11_soonestOf X3 x1 (fun r4 X4 => ((r4 < 0 → wp_X11_needed_53 Q n_ X4 x1 x2 x3 (-9 : Int32) (x5 + (1 : Int32))) ∧ (¬ (r4 < 0) → ((x2 < r4 → wp_X11_needed_53 Q n_ X4 x1 x2 x3 (-9 : Int32) (x5 + (1 : Int32))) ∧ (¬ (x2 < r4) → wp_X11_needed_53 Q n_ X4 x1 x2 x3 x5 (x5 + (1 : Int32))))))))))))
set_option maxHeartbeats 4000000 in
set_option maxRecDepth 100000 in
theorem tw_X11_needed_53 {p : Program} {l : Launch} {e : Env} {s : State} {m : MethodId} {args : Array Value} {below : List Frame} {meth : Method} {c : Code} {E : db_E} (S : CallFix p m c cX11_needed 7 s args wsX11_needed RX11) (hr : meth.sig.returnType = (some .int)) (hlocks : meth.locks = false)  {Q : Int32 → db_St → Prop} : ∀ (n : Nat) (X : db_St) (x1 : Int32) (x2 : Int32) (x3 : Int32) (x4 : Int32) (x5 : Int32) (H : Heap) (locs : List Loc) (ls : Array Slot), wp_X11_needed_53 Q n X x1 x2 x3 x4 x5 → db_HW E (db_Aw E s.heap.size) s X H locs → lv_has ls 7 [(0, .ref (db_ad E 90)), (1, .int x1), (2, .int x2), (3, .int x3), (4, .int x4), (5, .int x5)] → W p l e rm_X11_needed s m args below meth c H locs 0 0 (MQ below (va_Qi Q (db_Po E) (db_Aw E s.heap.size)) args s 0 0 (db_Aw E s.heap.size)) (F0 m 53 ls []) := by
  have hx := S.1
  have hb := S.2.1
  have hiX11 : ∀ w ∈ wsX110, w ∈ wsX11_needed := fun w_ h_ => List.mem_cons_of_mem _ (List.mem_append_right _ h_)
  intro n
  induction n with
  | zero =>
    intro X x1 x2 x3 x4 x5 H locs ls h hw hl
    exact False.elim h
  | succ n_ ih =>
    intro X x1 x2 x3 x4 x5 H locs ls h hw hl
    unfold wp_X11_needed_53 at h
    refine lv_iload hx hb dX11_needed_53 (lv_at hl 5 rfl) ?_
    refine lv_bipush (v := (100 : Int32)) hx hb dX11_needed_55 (by decide) ?_
    refine lv_icmp_ge (tgt := 108) hx hb dX11_needed_57 (by decide) (fun c8 => ?_) (fun c8 => ?_)
    · have h := h.1 c8
      refine lv_aload_n hx hb dX11_needed_108 rfl (lv_at hl 0 rfl) ?_
      refine db_getr S hw (Nat.le_of_ble_eq_true rfl) db_s90 (C := RX11) (T := TX11) (N := 19) rfl hiX11 1 (by decide) (r := 92) rfl (List.mem_of_getElem? (i := 1) rfl) dX11_needed_109 ?_
      refine lv_sipush (v := (309 : Int32)) hx hb dX11_needed_112 (by decide) ?_
      refine lv_iload_n hx hb dX11_needed_115 rfl (lv_at hl 3 rfl) ?_
      refine db_iast S hw (Nat.le_of_ble_eq_true rfl) db_s92 (show ¬ ((309 : Int32) < 0 ∨ 310 ≤ ((309 : Int32) : Int32).toNatClampNeg) by decide) dX11_needed_116 (fun H locs hw => ?_)
      obtain ⟨X1, e1, hw⟩ : ∃ Z_, Z_ = (db_si X 92 ((309 : Int32)).toNatClampNeg x3) ∧ db_HW E (db_Aw E s.heap.size) s Z_ H locs := ⟨_, rfl, hw⟩
      have h := h X1 e1
      refine lv_iload hx hb dX11_needed_117 (lv_at hl 4 rfl) ?_
      exact db_iret S hr hlocks hw h dX11_needed_119
    · have h := h.2 c8
      refine lv_iload hx hb dX11_needed_60 (lv_at hl 4 rfl) ?_
      refine lv_if_ge (tgt := 108) hx hb dX11_needed_62 (by decide) (fun c7 => ?_) (fun c7 => ?_)
      · have h := h.1 c7
        refine lv_aload_n hx hb dX11_needed_108 rfl (lv_at hl 0 rfl) ?_
        refine db_getr S hw (Nat.le_of_ble_eq_true rfl) db_s90 (C := RX11) (T := TX11) (N := 19) rfl hiX11 1 (by decide) (r := 92) rfl (List.mem_of_getElem? (i := 1) rfl) dX11_needed_109 ?_
        refine lv_sipush (v := (309 : Int32)) hx hb dX11_needed_112 (by decide) ?_
        refine lv_iload_n hx hb dX11_needed_115 rfl (lv_at hl 3 rfl) ?_
        refine db_iast S hw (Nat.le_of_ble_eq_true rfl) db_s92 (show ¬ ((309 : Int32) < 0 ∨ 310 ≤ ((309 : Int32) : Int32).toNatClampNeg) by decide) dX11_needed_116 (fun H locs hw => ?_)
        obtain ⟨X2, e2, hw⟩ : ∃ Z_, Z_ = (db_si X 92 ((309 : Int32)).toNatClampNeg x3) ∧ db_HW E (db_Aw E s.heap.size) s Z_ H locs := ⟨_, rfl, hw⟩
        have h := h X2 e2
        refine lv_iload hx hb dX11_needed_117 (lv_at hl 4 rfl) ?_
        exact db_iret S hr hlocks hw h dX11_needed_119
      · have h := h.2 c7
        refine lv_aload_n hx hb dX11_needed_65 rfl (lv_at hl 0 rfl) ?_
        refine db_getr S hw (Nat.le_of_ble_eq_true rfl) db_s90 (C := RX11) (T := TX11) (N := 19) rfl hiX11 1 (by decide) (r := 92) rfl (List.mem_of_getElem? (i := 1) rfl) dX11_needed_66 ?_
        refine lv_sipush (v := (309 : Int32)) hx hb dX11_needed_69 (by decide) ?_
        refine lv_iload hx hb dX11_needed_72 (lv_at hl 5 rfl) ?_
        refine db_iast S hw (Nat.le_of_ble_eq_true rfl) db_s92 (show ¬ ((309 : Int32) < 0 ∨ 310 ≤ ((309 : Int32) : Int32).toNatClampNeg) by decide) dX11_needed_74 (fun H locs hw => ?_)
        obtain ⟨X3, e3, hw⟩ : ∃ Z_, Z_ = (db_si X 92 ((309 : Int32)).toNatClampNeg x5) ∧ db_HW E (db_Aw E s.heap.size) s Z_ H locs := ⟨_, rfl, hw⟩
        have h := h X3 e3
        refine lv_aload_n hx hb dX11_needed_75 rfl (lv_at hl 0 rfl) ?_
        refine lv_iload_n hx hb dX11_needed_76 rfl (lv_at hl 1 rfl) ?_
        refine db_callVi S hw (Nat.le_of_ble_eq_true rfl) db_s90 (C := RX11) (T := TX11) (N := 19) (As := [.int x1]) rfl (ct_X11_soonestOf  h) gX11_needed_X11_soonestOf rfl ⟨rfl, rfl, Nat.le_of_ble_eq_true rfl, Nat.le_of_ble_eq_true rfl⟩ 1 rfl (by decide +kernel) hl.1 rfl (Nat.le_of_ble_eq_true rfl) dX11_needed_77 ⟨Nat.zero_le _, Nat.zero_le _⟩ (fun r4 X4 H locs h hw => ?_)
        refine lv_istore (lv' := [(6, .int r4), (0, .ref (db_ad E 90)), (1, .int x1), (2, .int x2), (3, .int x3), (4, .int x4), (5, .int x5)]) hx hb dX11_needed_80 hl (by decide) rfl (fun ls hl => ?_)
        refine lv_iload hx hb dX11_needed_82 (lv_at hl 0 rfl) ?_
        refine lv_if_lt (tgt := 98) hx hb dX11_needed_84 (by decide) (fun c6 => ?_) (fun c6 => ?_)
        · have h := h.1 c6
          refine lv_bipush (v := (-9 : Int32)) hx hb dX11_needed_98 (by decide) ?_
          refine lv_istore (lv' := [(4, .int (-9 : Int32)), (6, .int r4), (0, .ref (db_ad E 90)), (1, .int x1), (2, .int x2), (3, .int x3), (5, .int x5)]) hx hb dX11_needed_100 hl (by decide) rfl (fun ls hl => ?_)
          refine lv_iinc (v := (x5 + (1 : Int32))) (lv' := [(5, .int (x5 + (1 : Int32))), (4, .int (-9 : Int32)), (6, .int r4), (0, .ref (db_ad E 90)), (1, .int x1), (2, .int x2), (3, .int x3)]) hx hb dX11_needed_102 hl (k := 6) rfl (congrArg (fun z_ => x5 + z_) (show Int32.ofInt (1) = (1 : Int32) by decide)) (by decide) rfl (fun ls hl => ?_)
          refine lv_goto (tgt := 53) hx hb dX11_needed_105 (by decide) ?_
          exact ih _ _ _ _ _ _ _ _ _ h hw (lv_sub hl [3, 4, 5, 6, 1, 0] rfl)
        · have h := h.2 c6
          refine lv_iload hx hb dX11_needed_87 (lv_at hl 0 rfl) ?_
          refine lv_iload_n hx hb dX11_needed_89 rfl (lv_at hl 3 rfl) ?_
          refine lv_icmp_gt (tgt := 98) hx hb dX11_needed_90 (by decide) (fun c5 => ?_) (fun c5 => ?_)
          · have h := h.1 c5
            refine lv_bipush (v := (-9 : Int32)) hx hb dX11_needed_98 (by decide) ?_
            refine lv_istore (lv' := [(4, .int (-9 : Int32)), (6, .int r4), (0, .ref (db_ad E 90)), (1, .int x1), (2, .int x2), (3, .int x3), (5, .int x5)]) hx hb dX11_needed_100 hl (by decide) rfl (fun ls hl => ?_)
            refine lv_iinc (v := (x5 + (1 : Int32))) (lv' := [(5, .int (x5 + (1 : Int32))), (4, .int (-9 : Int32)), (6, .int r4), (0, .ref (db_ad E 90)), (1, .int x1), (2, .int x2), (3, .int x3)]) hx hb dX11_needed_102 hl (k := 6) rfl (congrArg (fun z_ => x5 + z_) (show Int32.ofInt (1) = (1 : Int32) by decide)) (by decide) rfl (fun ls hl => ?_)
            refine lv_goto (tgt := 53) hx hb dX11_needed_105 (by decide) ?_
            exact ih _ _ _ _ _ _ _ _ _ h hw (lv_sub hl [3, 4, 5, 6, 1, 0] rfl)
          · have h := h.2 c5
            refine lv_iload hx hb dX11_needed_93 (lv_at hl 6 rfl) ?_
            refine lv_goto (tgt := 100) hx hb dX11_needed_95 (by decide) ?_
            refine lv_istore (lv' := [(4, .int x5), (6, .int r4), (0, .ref (db_ad E 90)), (1, .int x1), (2, .int x2), (3, .int x3), (5, .int x5)]) hx hb dX11_needed_100 hl (by decide) rfl (fun ls hl => ?_)
            refine lv_iinc (v := (x5 + (1 : Int32))) (lv' := [(5, .int (x5 + (1 : Int32))), (4, .int x5), (6, .int r4), (0, .ref (db_ad E 90)), (1, .int x1), (2, .int x2), (3, .int x3)]) hx hb dX11_needed_102 hl (k := 6) rfl (congrArg (fun z_ => x5 + z_) (show Int32.ofInt (1) = (1 : Int32) by decide)) (by decide) rfl (fun ls hl => ?_)
            refine lv_goto (tgt := 53) hx hb dX11_needed_105 (by decide) ?_
            exact ih _ _ _ _ _ _ _ _ _ h hw (lv_sub hl [3, 4, 5, 6, 1, 0] rfl)
def wp_X11_needed  (X : db_St) (x1 : Int32) (x2 : Int32) (Q : Int32 → db_St → Prop) : Prop := ((x1 < 0 → wp_X11_refuse X (-4 : Int32) (fun r1 X1 => Q r1 X1)) ∧ (¬ (x1 < 0) → (((1 : Int32) ≤ x2 → (((400 : Int32) < x1 → wp_X11_refuse X (-6 : Int32) (fun r2 X2 => Q r2 X2)) ∧ (¬ ((400 : Int32) < x1) → ((x2 ≤ (400 : Int32) → (∃ f_, wp_X11_needed_53 Q f_ X x1 x2 (X.1 92 ((309 : Int32)).toNatClampNeg) (-9 : Int32) (0 : Int32))) ∧ (¬ (x2 ≤ (400 : Int32)) → wp_X11_refuse X (-6 : Int32) (fun r3 X3 => Q r3 X3)))))) ∧ (¬ ((1 : Int32) ≤ x2) → wp_X11_refuse X (-4 : Int32) (fun r6 X6 => Q r6 X6)))))
set_option maxHeartbeats 4000000 in
set_option maxRecDepth 100000 in
theorem ct_X11_needed {l : Launch} {E : db_E}  {X : db_St} {x1 : Int32} {x2 : Int32} {Q : Int32 → db_St → Prop} (h : wp_X11_needed  X x1 x2 Q) : db_MI l E yX11_needed wsX11_needed rm_X11_needed X [.ref (db_ad E 90), .int x1, .int x2] Q := by
  intro sz
  unfold wp_X11_needed at h
  refine Met.ofW (cc := cX11_needed) (maxL := 7) (ret := (some .int)) (by decide) rfl ?_
  intro p e s m args below meth c s₁ B hml hv
  obtain ⟨rfl, hsz, hU⟩ := hv
  subst hsz
  have S : CallFix p m c cX11_needed 7 s ([.ref (db_ad E 90), .int x1, .int x2] : List Value).toArray wsX11_needed RX11 := ⟨B.exec, B.bytes, hml, findClass_of_methodNamed B.named, atoms_spec (ws := wsX11_needed) B.pre⟩
  have hx := S.1
  have hb := S.2.1
  have hr := B.returns
  have hlocks := B.notSynchronized
  have hw := db_start hU
  have hiX11 : ∀ w ∈ wsX110, w ∈ wsX11_needed := fun w_ h_ => List.mem_cons_of_mem _ (List.mem_append_right _ h_)
  have hl := lv_entry ([.ref (db_ad E 90), .int x1, .int x2]) (n := 7) (Nat.le_of_ble_eq_true rfl)
  rw [lg_entry_eq]
  generalize (lg_sl ([.ref (db_ad E 90), .int x1, .int x2]) ++ List.replicate (7 - (lg_sl ([.ref (db_ad E 90), .int x1, .int x2])).length) Slot.unset).toArray = ls at hl ⊢
  have hl : lv_has ls 7 [(0, .ref (db_ad E 90)), (1, .int x1), (2, .int x2)] := hl
  refine lv_iload_n hx hb dX11_needed_0 rfl (lv_at hl 1 rfl) ?_
  refine lv_if_lt (tgt := 9) hx hb dX11_needed_1 (by decide) (fun c8 => ?_) (fun c8 => ?_)
  · have h := h.1 c8
    refine lv_aload_n hx hb dX11_needed_9 rfl (lv_at hl 0 rfl) ?_
    refine lv_bipush (v := (-4 : Int32)) hx hb dX11_needed_10 (by decide) ?_
    refine db_callVi S hw (Nat.le_of_ble_eq_true rfl) db_s90 (C := RX11) (T := TX11) (N := 19) (As := [.int (-4 : Int32)]) rfl (ct_X11_refuse  h) gX11_needed_X11_refuse rfl ⟨rfl, rfl, Nat.le_of_ble_eq_true rfl, Nat.le_of_ble_eq_true rfl⟩ 1 rfl (by decide +kernel) hl.1 rfl (Nat.le_of_ble_eq_true rfl) dX11_needed_12 ⟨Nat.zero_le _, Nat.zero_le _⟩ (fun r1 X1 H locs h hw => ?_)
    exact db_iret S hr hlocks hw h dX11_needed_15
  · have h := h.2 c8
    refine lv_iload_n hx hb dX11_needed_4 rfl (lv_at hl 2 rfl) ?_
    refine lv_iconst (v := (1 : Int32)) hx hb dX11_needed_5 (by decide) ?_
    refine lv_icmp_ge (tgt := 16) hx hb dX11_needed_6 (by decide) (fun c7 => ?_) (fun c7 => ?_)
    · have h := h.1 c7
      refine lv_iload_n hx hb dX11_needed_16 rfl (lv_at hl 1 rfl) ?_
      refine lv_sipush (v := (400 : Int32)) hx hb dX11_needed_17 (by decide) ?_
      refine lv_icmp_gt (tgt := 30) hx hb dX11_needed_20 (by decide) (fun c5 => ?_) (fun c5 => ?_)
      · have h := h.1 c5
        refine lv_aload_n hx hb dX11_needed_30 rfl (lv_at hl 0 rfl) ?_
        refine lv_bipush (v := (-6 : Int32)) hx hb dX11_needed_31 (by decide) ?_
        refine db_callVi S hw (Nat.le_of_ble_eq_true rfl) db_s90 (C := RX11) (T := TX11) (N := 19) (As := [.int (-6 : Int32)]) rfl (ct_X11_refuse  h) gX11_needed_X11_refuse rfl ⟨rfl, rfl, Nat.le_of_ble_eq_true rfl, Nat.le_of_ble_eq_true rfl⟩ 1 rfl (by decide +kernel) hl.1 rfl (Nat.le_of_ble_eq_true rfl) dX11_needed_33 ⟨Nat.zero_le _, Nat.zero_le _⟩ (fun r2 X2 H locs h hw => ?_)
        exact db_iret S hr hlocks hw h dX11_needed_36
      · have h := h.2 c5
        refine lv_iload_n hx hb dX11_needed_23 rfl (lv_at hl 2 rfl) ?_
        refine lv_sipush (v := (400 : Int32)) hx hb dX11_needed_24 (by decide) ?_
        refine lv_icmp_le (tgt := 37) hx hb dX11_needed_27 (by decide) (fun c4 => ?_) (fun c4 => ?_)
        · have h := h.1 c4
          refine lv_aload_n hx hb dX11_needed_37 rfl (lv_at hl 0 rfl) ?_
          refine db_getr S hw (Nat.le_of_ble_eq_true rfl) db_s90 (C := RX11) (T := TX11) (N := 19) rfl hiX11 1 (by decide) (r := 92) rfl (List.mem_of_getElem? (i := 1) rfl) dX11_needed_38 ?_
          refine lv_sipush (v := (309 : Int32)) hx hb dX11_needed_41 (by decide) ?_
          refine db_iald S hw (Nat.le_of_ble_eq_true rfl) db_s92 (show ¬ ((309 : Int32) < 0 ∨ 310 ≤ ((309 : Int32) : Int32).toNatClampNeg) by decide) dX11_needed_44 ?_
          refine lv_istore_n (lv' := [(3, .int (X.1 92 ((309 : Int32)).toNatClampNeg)), (0, .ref (db_ad E 90)), (1, .int x1), (2, .int x2)]) hx hb dX11_needed_45 rfl hl (by decide) rfl (fun ls hl => ?_)
          refine lv_bipush (v := (-9 : Int32)) hx hb dX11_needed_46 (by decide) ?_
          refine lv_istore (lv' := [(4, .int (-9 : Int32)), (3, .int (X.1 92 ((309 : Int32)).toNatClampNeg)), (0, .ref (db_ad E 90)), (1, .int x1), (2, .int x2)]) hx hb dX11_needed_48 hl (by decide) rfl (fun ls hl => ?_)
          refine lv_iconst (v := (0 : Int32)) hx hb dX11_needed_50 (by decide) ?_
          refine lv_istore (lv' := [(5, .int (0 : Int32)), (4, .int (-9 : Int32)), (3, .int (X.1 92 ((309 : Int32)).toNatClampNeg)), (0, .ref (db_ad E 90)), (1, .int x1), (2, .int x2)]) hx hb dX11_needed_51 hl (by decide) rfl (fun ls hl => ?_)
          obtain ⟨f_, h⟩ := h
          exact tw_X11_needed_53 S hr hlocks   f_ _ _ _ _ _ _ _ _ _ h hw (lv_sub hl [3, 4, 5, 2, 1, 0] rfl)
        · have h := h.2 c4
          refine lv_aload_n hx hb dX11_needed_30 rfl (lv_at hl 0 rfl) ?_
          refine lv_bipush (v := (-6 : Int32)) hx hb dX11_needed_31 (by decide) ?_
          refine db_callVi S hw (Nat.le_of_ble_eq_true rfl) db_s90 (C := RX11) (T := TX11) (N := 19) (As := [.int (-6 : Int32)]) rfl (ct_X11_refuse  h) gX11_needed_X11_refuse rfl ⟨rfl, rfl, Nat.le_of_ble_eq_true rfl, Nat.le_of_ble_eq_true rfl⟩ 1 rfl (by decide +kernel) hl.1 rfl (Nat.le_of_ble_eq_true rfl) dX11_needed_33 ⟨Nat.zero_le _, Nat.zero_le _⟩ (fun r3 X3 H locs h hw => ?_)
          exact db_iret S hr hlocks hw h dX11_needed_36
    · have h := h.2 c7
      refine lv_aload_n hx hb dX11_needed_9 rfl (lv_at hl 0 rfl) ?_
      refine lv_bipush (v := (-4 : Int32)) hx hb dX11_needed_10 (by decide) ?_
      refine db_callVi S hw (Nat.le_of_ble_eq_true rfl) db_s90 (C := RX11) (T := TX11) (N := 19) (As := [.int (-4 : Int32)]) rfl (ct_X11_refuse  h) gX11_needed_X11_refuse rfl ⟨rfl, rfl, Nat.le_of_ble_eq_true rfl, Nat.le_of_ble_eq_true rfl⟩ 1 rfl (by decide +kernel) hl.1 rfl (Nat.le_of_ble_eq_true rfl) dX11_needed_12 ⟨Nat.zero_le _, Nat.zero_le _⟩ (fun r6 X6 H locs h hw => ?_)
      exact db_iret S hr hlocks hw h dX11_needed_15
-- DaysOnBreadModel.over(IIII)I
abbrev rm_X11_over : Room := { frames := 1, cells := 0, slots := 0, locals := 21 }
def wp_X11_over  (X : db_St) (x1 : Int32) (x2 : Int32) (x3 : Int32) (x4 : Int32) (Q : Int32 → db_St → Prop) : Prop := wp_X11_isIn X x1 (6 : Int32) (fun r1 X1 => ((r1 = 0 → wp_X11_refuse X1 (-1 : Int32) (fun r2 X2 => Q r2 X2)) ∧ (¬ (r1 = 0) → wp_X11_isIn X1 x3 (6 : Int32) (fun r3 X3 => ((r3 = 0 → wp_X11_refuse X3 (-1 : Int32) (fun r4 X4 => Q r4 X4)) ∧ (¬ (r3 = 0) → ((x1 = x3 → wp_X11_refuse X3 (-1 : Int32) (fun r25 X25 => Q r25 X25)) ∧ (¬ x1 = x3 → ((x2 < (1 : Int32) → wp_X11_refuse X3 (-4 : Int32) (fun r5 X5 => Q r5 X5)) ∧ (¬ (x2 < (1 : Int32)) → (((1 : Int32) ≤ x4 → (((30 : Int32) < x2 → wp_X11_refuse X3 (-6 : Int32) (fun r6 X6 => Q r6 X6)) ∧ (¬ ((30 : Int32) < x2) → (((30 : Int32) < x4 → wp_X11_refuse X3 (-6 : Int32) (fun r7 X7 => Q r7 X7)) ∧ (¬ ((30 : Int32) < x4) → (((X3.1 92 ((307 : Int32)).toNatClampNeg) = (12 : Int32) → wp_X11_refuse X3 (-6 : Int32) (fun r18 X18 => Q r18 X18)) ∧ (¬ (X3.1 92 ((307 : Int32)).toNatClampNeg) = (12 : Int32) → (∀ z8, z8 = ((258 : Int32) + ((4 : Int32) * (X3.1 92 ((307 : Int32)).toNatClampNeg))) → (vp_in z8 310 ∧ (∀ X10, X10 = (db_si X3 92 (z8).toNatClampNeg x1) → (vp_in (z8 + (1 : Int32)) 310 ∧ (∀ X12, X12 = (db_si X10 92 ((z8 + (1 : Int32))).toNatClampNeg x2) → (vp_in (z8 + (2 : Int32)) 310 ∧ (∀ X14, X14 = (db_si X12 92 ((z8 + (2 : Int32))).toNatClampNeg x3) → (vp_in (z8 + (3 : Int32)) 310 ∧ (∀ X16, X16 = (db_si X14 92 ((z8 + (3 : Int32))).toNatClampNeg x4) → (∀ X17, X17 = (db_si X16 92 ((307 : Int32)).toNatClampNeg ((X16.1 92 ((307 : Int32)).toNatClampNeg) + (1 : Int32))) → Q (X17.1 92 ((307 : Int32)).toNatClampNeg) X17))))))))))))))))) ∧ (¬ ((1 : Int32) ≤ x4) → wp_X11_refuse X3 (-4 : Int32) (fun r22 X22 => Q r22 X22)))))))))))))
set_option maxHeartbeats 4000000 in
set_option maxRecDepth 100000 in
theorem ct_X11_over {l : Launch} {E : db_E}  {X : db_St} {x1 : Int32} {x2 : Int32} {x3 : Int32} {x4 : Int32} {Q : Int32 → db_St → Prop} (h : wp_X11_over  X x1 x2 x3 x4 Q) : db_MI l E yX11_over wsX11_over rm_X11_over X [.ref (db_ad E 90), .int x1, .int x2, .int x3, .int x4] Q := by
  intro sz
  unfold wp_X11_over at h
  refine Met.ofW (cc := cX11_over) (maxL := 6) (ret := (some .int)) (by decide) rfl ?_
  intro p e s m args below meth c s₁ B hml hv
  obtain ⟨rfl, hsz, hU⟩ := hv
  subst hsz
  have S : CallFix p m c cX11_over 6 s ([.ref (db_ad E 90), .int x1, .int x2, .int x3, .int x4] : List Value).toArray wsX11_over RX11 := ⟨B.exec, B.bytes, hml, findClass_of_methodNamed B.named, atoms_spec (ws := wsX11_over) B.pre⟩
  have hx := S.1
  have hb := S.2.1
  have hr := B.returns
  have hlocks := B.notSynchronized
  have hw := db_start hU
  have hiX11 : ∀ w ∈ wsX110, w ∈ wsX11_over := fun w_ h_ => List.mem_cons_of_mem _ (List.mem_append_right _ h_)
  have hl := lv_entry ([.ref (db_ad E 90), .int x1, .int x2, .int x3, .int x4]) (n := 6) (Nat.le_of_ble_eq_true rfl)
  rw [lg_entry_eq]
  generalize (lg_sl ([.ref (db_ad E 90), .int x1, .int x2, .int x3, .int x4]) ++ List.replicate (6 - (lg_sl ([.ref (db_ad E 90), .int x1, .int x2, .int x3, .int x4])).length) Slot.unset).toArray = ls at hl ⊢
  have hl : lv_has ls 6 [(0, .ref (db_ad E 90)), (1, .int x1), (2, .int x2), (3, .int x3), (4, .int x4)] := hl
  refine lv_iload_n hx hb dX11_over_0 rfl (lv_at hl 1 rfl) ?_
  refine lv_bipush (v := (6 : Int32)) hx hb dX11_over_1 (by decide) ?_
  refine db_callSi S hw (As := [.int x1, .int (6 : Int32)]) (ct_X11_isIn  h) gX11_over_X11_isIn rfl ⟨rfl, rfl, Nat.le_of_ble_eq_true rfl, Nat.le_of_ble_eq_true rfl⟩ 2 rfl (by decide +kernel) hl.1 rfl (Nat.le_of_ble_eq_true rfl) dX11_over_3 ⟨Nat.zero_le _, Nat.zero_le _⟩ (fun r1 X1 H locs h hw => ?_)
  refine lv_if_eq (tgt := 23) hx hb dX11_over_6 (by decide) (fun c28 => ?_) (fun c28 => ?_)
  · have h := h.1 c28
    refine lv_aload_n hx hb dX11_over_23 rfl (lv_at hl 0 rfl) ?_
    refine lv_iconst (v := (-1 : Int32)) hx hb dX11_over_24 (by decide) ?_
    refine db_callVi S hw (Nat.le_of_ble_eq_true rfl) db_s90 (C := RX11) (T := TX11) (N := 19) (As := [.int (-1 : Int32)]) rfl (ct_X11_refuse  h) gX11_over_X11_refuse rfl ⟨rfl, rfl, Nat.le_of_ble_eq_true rfl, Nat.le_of_ble_eq_true rfl⟩ 1 rfl (by decide +kernel) hl.1 rfl (Nat.le_of_ble_eq_true rfl) dX11_over_25 ⟨Nat.zero_le _, Nat.zero_le _⟩ (fun r2 X2 H locs h hw => ?_)
    exact db_iret S hr hlocks hw h dX11_over_28
  · have h := h.2 c28
    refine lv_iload_n hx hb dX11_over_9 rfl (lv_at hl 3 rfl) ?_
    refine lv_bipush (v := (6 : Int32)) hx hb dX11_over_10 (by decide) ?_
    refine db_callSi S hw (As := [.int x3, .int (6 : Int32)]) (ct_X11_isIn  h) gX11_over_X11_isIn rfl ⟨rfl, rfl, Nat.le_of_ble_eq_true rfl, Nat.le_of_ble_eq_true rfl⟩ 2 rfl (by decide +kernel) hl.1 rfl (Nat.le_of_ble_eq_true rfl) dX11_over_12 ⟨Nat.zero_le _, Nat.zero_le _⟩ (fun r3 X3 H locs h hw => ?_)
    refine lv_if_eq (tgt := 23) hx hb dX11_over_15 (by decide) (fun c27 => ?_) (fun c27 => ?_)
    · have h := h.1 c27
      refine lv_aload_n hx hb dX11_over_23 rfl (lv_at hl 0 rfl) ?_
      refine lv_iconst (v := (-1 : Int32)) hx hb dX11_over_24 (by decide) ?_
      refine db_callVi S hw (Nat.le_of_ble_eq_true rfl) db_s90 (C := RX11) (T := TX11) (N := 19) (As := [.int (-1 : Int32)]) rfl (ct_X11_refuse  h) gX11_over_X11_refuse rfl ⟨rfl, rfl, Nat.le_of_ble_eq_true rfl, Nat.le_of_ble_eq_true rfl⟩ 1 rfl (by decide +kernel) hl.1 rfl (Nat.le_of_ble_eq_true rfl) dX11_over_25 ⟨Nat.zero_le _, Nat.zero_le _⟩ (fun r4 X4 H locs h hw => ?_)
      exact db_iret S hr hlocks hw h dX11_over_28
    · have h := h.2 c27
      refine lv_iload_n hx hb dX11_over_18 rfl (lv_at hl 1 rfl) ?_
      refine lv_iload_n hx hb dX11_over_19 rfl (lv_at hl 3 rfl) ?_
      refine lv_icmp_ne (tgt := 29) hx hb dX11_over_20 (by decide) (fun c26 => ?_) (fun c26 => ?_)
      · have h := h.2 c26
        refine lv_iload_n hx hb dX11_over_29 rfl (lv_at hl 2 rfl) ?_
        refine lv_iconst (v := (1 : Int32)) hx hb dX11_over_30 (by decide) ?_
        refine lv_icmp_lt (tgt := 40) hx hb dX11_over_31 (by decide) (fun c24 => ?_) (fun c24 => ?_)
        · have h := h.1 c24
          refine lv_aload_n hx hb dX11_over_40 rfl (lv_at hl 0 rfl) ?_
          refine lv_bipush (v := (-4 : Int32)) hx hb dX11_over_41 (by decide) ?_
          refine db_callVi S hw (Nat.le_of_ble_eq_true rfl) db_s90 (C := RX11) (T := TX11) (N := 19) (As := [.int (-4 : Int32)]) rfl (ct_X11_refuse  h) gX11_over_X11_refuse rfl ⟨rfl, rfl, Nat.le_of_ble_eq_true rfl, Nat.le_of_ble_eq_true rfl⟩ 1 rfl (by decide +kernel) hl.1 rfl (Nat.le_of_ble_eq_true rfl) dX11_over_43 ⟨Nat.zero_le _, Nat.zero_le _⟩ (fun r5 X5 H locs h hw => ?_)
          exact db_iret S hr hlocks hw h dX11_over_46
        · have h := h.2 c24
          refine lv_iload hx hb dX11_over_34 (lv_at hl 4 rfl) ?_
          refine lv_iconst (v := (1 : Int32)) hx hb dX11_over_36 (by decide) ?_
          refine lv_icmp_ge (tgt := 47) hx hb dX11_over_37 (by decide) (fun c23 => ?_) (fun c23 => ?_)
          · have h := h.1 c23
            refine lv_iload_n hx hb dX11_over_47 rfl (lv_at hl 2 rfl) ?_
            refine lv_bipush (v := (30 : Int32)) hx hb dX11_over_48 (by decide) ?_
            refine lv_icmp_gt (tgt := 73) hx hb dX11_over_50 (by decide) (fun c21 => ?_) (fun c21 => ?_)
            · have h := h.1 c21
              refine lv_aload_n hx hb dX11_over_73 rfl (lv_at hl 0 rfl) ?_
              refine lv_bipush (v := (-6 : Int32)) hx hb dX11_over_74 (by decide) ?_
              refine db_callVi S hw (Nat.le_of_ble_eq_true rfl) db_s90 (C := RX11) (T := TX11) (N := 19) (As := [.int (-6 : Int32)]) rfl (ct_X11_refuse  h) gX11_over_X11_refuse rfl ⟨rfl, rfl, Nat.le_of_ble_eq_true rfl, Nat.le_of_ble_eq_true rfl⟩ 1 rfl (by decide +kernel) hl.1 rfl (Nat.le_of_ble_eq_true rfl) dX11_over_76 ⟨Nat.zero_le _, Nat.zero_le _⟩ (fun r6 X6 H locs h hw => ?_)
              exact db_iret S hr hlocks hw h dX11_over_79
            · have h := h.2 c21
              refine lv_iload hx hb dX11_over_53 (lv_at hl 4 rfl) ?_
              refine lv_bipush (v := (30 : Int32)) hx hb dX11_over_55 (by decide) ?_
              refine lv_icmp_gt (tgt := 73) hx hb dX11_over_57 (by decide) (fun c20 => ?_) (fun c20 => ?_)
              · have h := h.1 c20
                refine lv_aload_n hx hb dX11_over_73 rfl (lv_at hl 0 rfl) ?_
                refine lv_bipush (v := (-6 : Int32)) hx hb dX11_over_74 (by decide) ?_
                refine db_callVi S hw (Nat.le_of_ble_eq_true rfl) db_s90 (C := RX11) (T := TX11) (N := 19) (As := [.int (-6 : Int32)]) rfl (ct_X11_refuse  h) gX11_over_X11_refuse rfl ⟨rfl, rfl, Nat.le_of_ble_eq_true rfl, Nat.le_of_ble_eq_true rfl⟩ 1 rfl (by decide +kernel) hl.1 rfl (Nat.le_of_ble_eq_true rfl) dX11_over_76 ⟨Nat.zero_le _, Nat.zero_le _⟩ (fun r7 X7 H locs h hw => ?_)
                exact db_iret S hr hlocks hw h dX11_over_79
              · have h := h.2 c20
                refine lv_aload_n hx hb dX11_over_60 rfl (lv_at hl 0 rfl) ?_
                refine db_getr S hw (Nat.le_of_ble_eq_true rfl) db_s90 (C := RX11) (T := TX11) (N := 19) rfl hiX11 1 (by decide) (r := 92) rfl (List.mem_of_getElem? (i := 1) rfl) dX11_over_61 ?_
                refine lv_sipush (v := (307 : Int32)) hx hb dX11_over_64 (by decide) ?_
                refine db_iald S hw (Nat.le_of_ble_eq_true rfl) db_s92 (show ¬ ((307 : Int32) < 0 ∨ 310 ≤ ((307 : Int32) : Int32).toNatClampNeg) by decide) dX11_over_67 ?_
                refine lv_bipush (v := (12 : Int32)) hx hb dX11_over_68 (by decide) ?_
                refine lv_icmp_ne (tgt := 80) hx hb dX11_over_70 (by decide) (fun c19 => ?_) (fun c19 => ?_)
                · have h := h.2 c19
                  refine lv_sipush (v := (258 : Int32)) hx hb dX11_over_80 (by decide) ?_
                  refine lv_iconst (v := (4 : Int32)) hx hb dX11_over_83 (by decide) ?_
                  refine lv_aload_n hx hb dX11_over_84 rfl (lv_at hl 0 rfl) ?_
                  refine db_getr S hw (Nat.le_of_ble_eq_true rfl) db_s90 (C := RX11) (T := TX11) (N := 19) rfl hiX11 1 (by decide) (r := 92) rfl (List.mem_of_getElem? (i := 1) rfl) dX11_over_85 ?_
                  refine lv_sipush (v := (307 : Int32)) hx hb dX11_over_88 (by decide) ?_
                  refine db_iald S hw (Nat.le_of_ble_eq_true rfl) db_s92 (show ¬ ((307 : Int32) < 0 ∨ 310 ≤ ((307 : Int32) : Int32).toNatClampNeg) by decide) dX11_over_91 ?_
                  refine lv_imul hx hb dX11_over_92 ?_
                  refine lv_iadd hx hb dX11_over_93 ?_
                  refine lv_topi (fun z8 e8 => ?_)
                  have h := h z8 e8
                  refine lv_istore (lv' := [(5, .int z8), (0, .ref (db_ad E 90)), (1, .int x1), (2, .int x2), (3, .int x3), (4, .int x4)]) hx hb dX11_over_94 hl (by decide) rfl (fun ls hl => ?_)
                  refine lv_aload_n hx hb dX11_over_96 rfl (lv_at hl 1 rfl) ?_
                  refine db_getr S hw (Nat.le_of_ble_eq_true rfl) db_s90 (C := RX11) (T := TX11) (N := 19) rfl hiX11 1 (by decide) (r := 92) rfl (List.mem_of_getElem? (i := 1) rfl) dX11_over_97 ?_
                  refine lv_iload hx hb dX11_over_100 (lv_at hl 0 rfl) ?_
                  refine lv_iload_n hx hb dX11_over_102 rfl (lv_at hl 2 rfl) ?_
                  obtain ⟨g9, h⟩ := h
                  refine db_iast S hw (Nat.le_of_ble_eq_true rfl) db_s92 g9 dX11_over_103 (fun H locs hw => ?_)
                  obtain ⟨X10, e10, hw⟩ : ∃ Z_, Z_ = (db_si X3 92 (z8).toNatClampNeg x1) ∧ db_HW E (db_Aw E s.heap.size) s Z_ H locs := ⟨_, rfl, hw⟩
                  have h := h X10 e10
                  refine lv_aload_n hx hb dX11_over_104 rfl (lv_at hl 1 rfl) ?_
                  refine db_getr S hw (Nat.le_of_ble_eq_true rfl) db_s90 (C := RX11) (T := TX11) (N := 19) rfl hiX11 1 (by decide) (r := 92) rfl (List.mem_of_getElem? (i := 1) rfl) dX11_over_105 ?_
                  refine lv_iload hx hb dX11_over_108 (lv_at hl 0 rfl) ?_
                  refine lv_iconst (v := (1 : Int32)) hx hb dX11_over_110 (by decide) ?_
                  refine lv_iadd hx hb dX11_over_111 ?_
                  refine lv_iload_n hx hb dX11_over_112 rfl (lv_at hl 3 rfl) ?_
                  obtain ⟨g11, h⟩ := h
                  refine db_iast S hw (Nat.le_of_ble_eq_true rfl) db_s92 g11 dX11_over_113 (fun H locs hw => ?_)
                  obtain ⟨X12, e12, hw⟩ : ∃ Z_, Z_ = (db_si X10 92 ((z8 + (1 : Int32))).toNatClampNeg x2) ∧ db_HW E (db_Aw E s.heap.size) s Z_ H locs := ⟨_, rfl, hw⟩
                  have h := h X12 e12
                  refine lv_aload_n hx hb dX11_over_114 rfl (lv_at hl 1 rfl) ?_
                  refine db_getr S hw (Nat.le_of_ble_eq_true rfl) db_s90 (C := RX11) (T := TX11) (N := 19) rfl hiX11 1 (by decide) (r := 92) rfl (List.mem_of_getElem? (i := 1) rfl) dX11_over_115 ?_
                  refine lv_iload hx hb dX11_over_118 (lv_at hl 0 rfl) ?_
                  refine lv_iconst (v := (2 : Int32)) hx hb dX11_over_120 (by decide) ?_
                  refine lv_iadd hx hb dX11_over_121 ?_
                  refine lv_iload_n hx hb dX11_over_122 rfl (lv_at hl 4 rfl) ?_
                  obtain ⟨g13, h⟩ := h
                  refine db_iast S hw (Nat.le_of_ble_eq_true rfl) db_s92 g13 dX11_over_123 (fun H locs hw => ?_)
                  obtain ⟨X14, e14, hw⟩ : ∃ Z_, Z_ = (db_si X12 92 ((z8 + (2 : Int32))).toNatClampNeg x3) ∧ db_HW E (db_Aw E s.heap.size) s Z_ H locs := ⟨_, rfl, hw⟩
                  have h := h X14 e14
                  refine lv_aload_n hx hb dX11_over_124 rfl (lv_at hl 1 rfl) ?_
                  refine db_getr S hw (Nat.le_of_ble_eq_true rfl) db_s90 (C := RX11) (T := TX11) (N := 19) rfl hiX11 1 (by decide) (r := 92) rfl (List.mem_of_getElem? (i := 1) rfl) dX11_over_125 ?_
                  refine lv_iload hx hb dX11_over_128 (lv_at hl 0 rfl) ?_
                  refine lv_iconst (v := (3 : Int32)) hx hb dX11_over_130 (by decide) ?_
                  refine lv_iadd hx hb dX11_over_131 ?_
                  refine lv_iload hx hb dX11_over_132 (lv_at hl 5 rfl) ?_
                  obtain ⟨g15, h⟩ := h
                  refine db_iast S hw (Nat.le_of_ble_eq_true rfl) db_s92 g15 dX11_over_134 (fun H locs hw => ?_)
                  obtain ⟨X16, e16, hw⟩ : ∃ Z_, Z_ = (db_si X14 92 ((z8 + (3 : Int32))).toNatClampNeg x4) ∧ db_HW E (db_Aw E s.heap.size) s Z_ H locs := ⟨_, rfl, hw⟩
                  have h := h X16 e16
                  refine lv_aload_n hx hb dX11_over_135 rfl (lv_at hl 1 rfl) ?_
                  refine db_getr S hw (Nat.le_of_ble_eq_true rfl) db_s90 (C := RX11) (T := TX11) (N := 19) rfl hiX11 1 (by decide) (r := 92) rfl (List.mem_of_getElem? (i := 1) rfl) dX11_over_136 ?_
                  refine lv_sipush (v := (307 : Int32)) hx hb dX11_over_139 (by decide) ?_
                  refine lv_dup2_11 hx hb dX11_over_142 rfl rfl ?_
                  refine db_iald S hw (Nat.le_of_ble_eq_true rfl) db_s92 (show ¬ ((307 : Int32) < 0 ∨ 310 ≤ ((307 : Int32) : Int32).toNatClampNeg) by decide) dX11_over_143 ?_
                  refine lv_iconst (v := (1 : Int32)) hx hb dX11_over_144 (by decide) ?_
                  refine lv_iadd hx hb dX11_over_145 ?_
                  refine db_iast S hw (Nat.le_of_ble_eq_true rfl) db_s92 (show ¬ ((307 : Int32) < 0 ∨ 310 ≤ ((307 : Int32) : Int32).toNatClampNeg) by decide) dX11_over_146 (fun H locs hw => ?_)
                  obtain ⟨X17, e17, hw⟩ : ∃ Z_, Z_ = (db_si X16 92 ((307 : Int32)).toNatClampNeg ((X16.1 92 ((307 : Int32)).toNatClampNeg) + (1 : Int32))) ∧ db_HW E (db_Aw E s.heap.size) s Z_ H locs := ⟨_, rfl, hw⟩
                  have h := h X17 e17
                  refine lv_aload_n hx hb dX11_over_147 rfl (lv_at hl 1 rfl) ?_
                  refine db_getr S hw (Nat.le_of_ble_eq_true rfl) db_s90 (C := RX11) (T := TX11) (N := 19) rfl hiX11 1 (by decide) (r := 92) rfl (List.mem_of_getElem? (i := 1) rfl) dX11_over_148 ?_
                  refine lv_sipush (v := (307 : Int32)) hx hb dX11_over_151 (by decide) ?_
                  refine db_iald S hw (Nat.le_of_ble_eq_true rfl) db_s92 (show ¬ ((307 : Int32) < 0 ∨ 310 ≤ ((307 : Int32) : Int32).toNatClampNeg) by decide) dX11_over_154 ?_
                  exact db_iret S hr hlocks hw h dX11_over_155
                · have h := h.1 c19
                  refine lv_aload_n hx hb dX11_over_73 rfl (lv_at hl 0 rfl) ?_
                  refine lv_bipush (v := (-6 : Int32)) hx hb dX11_over_74 (by decide) ?_
                  refine db_callVi S hw (Nat.le_of_ble_eq_true rfl) db_s90 (C := RX11) (T := TX11) (N := 19) (As := [.int (-6 : Int32)]) rfl (ct_X11_refuse  h) gX11_over_X11_refuse rfl ⟨rfl, rfl, Nat.le_of_ble_eq_true rfl, Nat.le_of_ble_eq_true rfl⟩ 1 rfl (by decide +kernel) hl.1 rfl (Nat.le_of_ble_eq_true rfl) dX11_over_76 ⟨Nat.zero_le _, Nat.zero_le _⟩ (fun r18 X18 H locs h hw => ?_)
                  exact db_iret S hr hlocks hw h dX11_over_79
          · have h := h.2 c23
            refine lv_aload_n hx hb dX11_over_40 rfl (lv_at hl 0 rfl) ?_
            refine lv_bipush (v := (-4 : Int32)) hx hb dX11_over_41 (by decide) ?_
            refine db_callVi S hw (Nat.le_of_ble_eq_true rfl) db_s90 (C := RX11) (T := TX11) (N := 19) (As := [.int (-4 : Int32)]) rfl (ct_X11_refuse  h) gX11_over_X11_refuse rfl ⟨rfl, rfl, Nat.le_of_ble_eq_true rfl, Nat.le_of_ble_eq_true rfl⟩ 1 rfl (by decide +kernel) hl.1 rfl (Nat.le_of_ble_eq_true rfl) dX11_over_43 ⟨Nat.zero_le _, Nat.zero_le _⟩ (fun r22 X22 H locs h hw => ?_)
            exact db_iret S hr hlocks hw h dX11_over_46
      · have h := h.1 c26
        refine lv_aload_n hx hb dX11_over_23 rfl (lv_at hl 0 rfl) ?_
        refine lv_iconst (v := (-1 : Int32)) hx hb dX11_over_24 (by decide) ?_
        refine db_callVi S hw (Nat.le_of_ble_eq_true rfl) db_s90 (C := RX11) (T := TX11) (N := 19) (As := [.int (-1 : Int32)]) rfl (ct_X11_refuse  h) gX11_over_X11_refuse rfl ⟨rfl, rfl, Nat.le_of_ble_eq_true rfl, Nat.le_of_ble_eq_true rfl⟩ 1 rfl (by decide +kernel) hl.1 rfl (Nat.le_of_ble_eq_true rfl) dX11_over_25 ⟨Nat.zero_le _, Nat.zero_le _⟩ (fun r25 X25 H locs h hw => ?_)
        exact db_iret S hr hlocks hw h dX11_over_28
-- DaysOnBreadModel.overOf(II)I
abbrev rm_X11_overOf : Room := { frames := 0, cells := 0, slots := 0, locals := 0 }
def wp_X11_overOf  (X : db_St) (x1 : Int32) (x2 : Int32) (Q : Int32 → db_St → Prop) : Prop := (vp_in (((258 : Int32) + ((4 : Int32) * x1)) + x2) 310 ∧ Q (X.1 92 ((((258 : Int32) + ((4 : Int32) * x1)) + x2)).toNatClampNeg) X)
set_option maxHeartbeats 4000000 in
set_option maxRecDepth 100000 in
theorem ct_X11_overOf {l : Launch} {E : db_E}  {X : db_St} {x1 : Int32} {x2 : Int32} {Q : Int32 → db_St → Prop} (h : wp_X11_overOf  X x1 x2 Q) : db_MI l E yX11_overOf wsX11_overOf rm_X11_overOf X [.ref (db_ad E 90), .int x1, .int x2] Q := by
  intro sz
  unfold wp_X11_overOf at h
  refine Met.ofW (cc := cX11_overOf) (maxL := 3) (ret := (some .int)) (by decide) rfl ?_
  intro p e s m args below meth c s₁ B hml hv
  obtain ⟨rfl, hsz, hU⟩ := hv
  subst hsz
  have S : CallFix p m c cX11_overOf 3 s ([.ref (db_ad E 90), .int x1, .int x2] : List Value).toArray wsX11_overOf RX11 := ⟨B.exec, B.bytes, hml, findClass_of_methodNamed B.named, atoms_spec (ws := wsX11_overOf) B.pre⟩
  have hx := S.1
  have hb := S.2.1
  have hr := B.returns
  have hlocks := B.notSynchronized
  have hw := db_start hU
  have hiX11 : ∀ w ∈ wsX110, w ∈ wsX11_overOf := fun w_ h_ => List.mem_cons_of_mem _ (List.mem_append_right _ h_)
  have hl := lv_entry ([.ref (db_ad E 90), .int x1, .int x2]) (n := 3) (Nat.le_of_ble_eq_true rfl)
  rw [lg_entry_eq]
  generalize (lg_sl ([.ref (db_ad E 90), .int x1, .int x2]) ++ List.replicate (3 - (lg_sl ([.ref (db_ad E 90), .int x1, .int x2])).length) Slot.unset).toArray = ls at hl ⊢
  have hl : lv_has ls 3 [(0, .ref (db_ad E 90)), (1, .int x1), (2, .int x2)] := hl
  refine lv_aload_n hx hb dX11_overOf_0 rfl (lv_at hl 0 rfl) ?_
  refine db_getr S hw (Nat.le_of_ble_eq_true rfl) db_s90 (C := RX11) (T := TX11) (N := 19) rfl hiX11 1 (by decide) (r := 92) rfl (List.mem_of_getElem? (i := 1) rfl) dX11_overOf_1 ?_
  refine lv_sipush (v := (258 : Int32)) hx hb dX11_overOf_4 (by decide) ?_
  refine lv_iconst (v := (4 : Int32)) hx hb dX11_overOf_7 (by decide) ?_
  refine lv_iload_n hx hb dX11_overOf_8 rfl (lv_at hl 1 rfl) ?_
  refine lv_imul hx hb dX11_overOf_9 ?_
  refine lv_iadd hx hb dX11_overOf_10 ?_
  refine lv_iload_n hx hb dX11_overOf_11 rfl (lv_at hl 2 rfl) ?_
  refine lv_iadd hx hb dX11_overOf_12 ?_
  obtain ⟨g1, h⟩ := h
  refine db_iald S hw (Nat.le_of_ble_eq_true rfl) db_s92 g1 dX11_overOf_13 ?_
  exact db_iret S hr hlocks hw h dX11_overOf_14
-- DaysOnBreadModel.goes(IIIJJ)V
abbrev rm_X11_goes (d : Nat) : Room := { frames := d + 2, cells := 0, slots := 0, locals := 28 * d + 22 }
def wp_X11_goes_48 (Rc : db_St → Int32 → Int32 → Int32 → Int64 → Int64 → (db_St → Prop) → Prop) (Q : db_St → Prop) : Nat → db_St → Int32 → Int32 → Int32 → Int64 → Int64 → Int32 → Prop
  | 0, _, _, _, _, _, _, _ => False
  | n_ + 1, X, x1, x2, x3, x4, x6, x8 => (((X.1 92 ((307 : Int32)).toNatClampNeg) ≤ x8 → Q X) ∧ (¬ ((X.1 92 ((307 : Int32)).toNatClampNeg) ≤ x8) → wp_X11_overOf X x8 (0 : Int32) (fun r1 X1 => ((r1 = x1 → wp_X11_overOf X1 x8 (2 : Int32) (fun r2 X2 => ((((x3 >>> (r2 &&& 31)) &&& (1 : Int32)) = 0 → wp_X11_overOf X2 x8 (2 : Int32) (fun r3 X3 => wp_X11_overOf X3 x8 (2 : Int32) (fun r4 X4 => wp_X11_overOf X4 x8 (3 : Int32) (fun r5 X5 => wp_X11_overOf X5 x8 (1 : Int32) (fun r6 X6 => Rc X6 r3 x2 (x3 ||| ((1 : Int32) <<< (r4 &&& 31))) (x4 * ((r5).toInt64)) (x6 * ((r6).toInt64)) (fun X7 => wp_X11_goes_48 Rc Q n_ X7 x1 x2 x3 x4 x6 (x8 + (1 : Int32)))))))) ∧ (¬ ((x3 >>> (r2 &&& 31)) &&& (1 : Int32)) = 0 → wp_X11_goes_48 Rc Q n_ X2 x1 x2 x3 x4 x6 (x8 + (1 : Int32)))))) ∧ (¬ r1 = x1 → wp_X11_goes_48 Rc Q n_ X1 x1 x2 x3 x4 x6 (x8 + (1 : Int32)))))))
set_option maxHeartbeats 4000000 in
set_option maxRecDepth 100000 in
theorem tw_X11_goes_48 {p : Program} {l : Launch} {e : Env} {s : State} {m : MethodId} {args : Array Value} {below : List Frame} {meth : Method} {c : Code} {E : db_E} (S : CallFix p m c cX11_goes 9 s args wsX11_goes RX11) (hr : meth.sig.returnType = none) (hlocks : meth.locks = false)  {d : Nat} {Rc : db_St → Int32 → Int32 → Int32 → Int64 → Int64 → (db_St → Prop) → Prop} (hRc : ∀ (X : db_St) (x1 : Int32) (x2 : Int32) (x3 : Int32) (x4 : Int64) (x6 : Int64) (P : db_St → Prop), Rc X x1 x2 x3 x4 x6 P → db_MV l E yX11_goes wsX11_goes (rm_X11_goes d) X [.ref (db_ad E 90), .int x1, .int x2, .int x3, .long x4, .long x6] P) {Q : db_St → Prop} : ∀ (n : Nat) (X : db_St) (x1 : Int32) (x2 : Int32) (x3 : Int32) (x4 : Int64) (x6 : Int64) (x8 : Int32) (H : Heap) (locs : List Loc) (ls : Array Slot), wp_X11_goes_48 Rc Q n X x1 x2 x3 x4 x6 x8 → db_HW E (db_Aw E s.heap.size) s X H locs → lv_has ls 9 [(0, .ref (db_ad E 90)), (1, .int x1), (2, .int x2), (3, .int x3), (4, .long x4), (6, .long x6), (8, .int x8)] → W p l e (rm_X11_goes (d + 1)) s m args below meth c H locs 0 0 (MQ below (va_Qv Q (db_Po E) (db_Aw E s.heap.size)) args s 0 0 (db_Aw E s.heap.size)) (F0 m 48 ls []) := by
  have hx := S.1
  have hb := S.2.1
  have hiX11 : ∀ w ∈ wsX110, w ∈ wsX11_goes := fun w_ h_ => List.mem_cons_of_mem _ (List.mem_append_right _ h_)
  intro n
  induction n with
  | zero =>
    intro X x1 x2 x3 x4 x6 x8 H locs ls h hw hl
    exact False.elim h
  | succ n_ ih =>
    intro X x1 x2 x3 x4 x6 x8 H locs ls h hw hl
    unfold wp_X11_goes_48 at h
    refine lv_iload hx hb dX11_goes_48 (lv_at hl 6 rfl) ?_
    refine lv_aload_n hx hb dX11_goes_50 rfl (lv_at hl 0 rfl) ?_
    refine db_getr S hw (Nat.le_of_ble_eq_true rfl) db_s90 (C := RX11) (T := TX11) (N := 19) rfl hiX11 1 (by decide) (r := 92) rfl (List.mem_of_getElem? (i := 3) rfl) dX11_goes_51 ?_
    refine lv_sipush (v := (307 : Int32)) hx hb dX11_goes_54 (by decide) ?_
    refine db_iald S hw (Nat.le_of_ble_eq_true rfl) db_s92 (show ¬ ((307 : Int32) < 0 ∨ 310 ≤ ((307 : Int32) : Int32).toNatClampNeg) by decide) dX11_goes_57 ?_
    refine lv_icmp_ge (tgt := 137) hx hb dX11_goes_58 (by decide) (fun c10 => ?_) (fun c10 => ?_)
    · have h := h.1 c10
      exact db_vret S hr hlocks hw h dX11_goes_137
    · have h := h.2 c10
      refine lv_aload_n hx hb dX11_goes_61 rfl (lv_at hl 0 rfl) ?_
      refine lv_iload hx hb dX11_goes_62 (lv_at hl 6 rfl) ?_
      refine lv_iconst (v := (0 : Int32)) hx hb dX11_goes_64 (by decide) ?_
      refine db_callVi S hw (Nat.le_of_ble_eq_true rfl) db_s90 (C := RX11) (T := TX11) (N := 19) (As := [.int x8, .int (0 : Int32)]) rfl (ct_X11_overOf  h) gX11_goes_X11_overOf rfl ⟨rfl, rfl, by show 0 + 1 ≤ d + 1 + 2; omega, by show 8 + (3 + 11) + 0 ≤ 28 * (d + 1) + 22; omega⟩ 2 rfl (by decide +kernel) hl.1 rfl (Nat.le_of_ble_eq_true rfl) dX11_goes_65 ⟨Nat.zero_le _, Nat.zero_le _⟩ (fun r1 X1 H locs h hw => ?_)
      refine lv_iload_n hx hb dX11_goes_68 rfl (lv_at hl 1 rfl) ?_
      refine lv_icmp_ne (tgt := 131) hx hb dX11_goes_69 (by decide) (fun c9 => ?_) (fun c9 => ?_)
      · have h := h.2 c9
        refine lv_iinc (v := (x8 + (1 : Int32))) (lv' := [(8, .int (x8 + (1 : Int32))), (0, .ref (db_ad E 90)), (1, .int x1), (2, .int x2), (3, .int x3), (4, .long x4), (6, .long x6)]) hx hb dX11_goes_131 hl (k := 6) rfl (congrArg (fun z_ => x8 + z_) (show Int32.ofInt (1) = (1 : Int32) by decide)) (by decide) rfl (fun ls hl => ?_)
        refine lv_goto (tgt := 48) hx hb dX11_goes_134 (by decide) ?_
        exact ih _ _ _ _ _ _ _ _ _ _ h hw (lv_sub hl [1, 2, 3, 4, 5, 6, 0] rfl)
      · have h := h.1 c9
        refine lv_iload_n hx hb dX11_goes_72 rfl (lv_at hl 3 rfl) ?_
        refine lv_aload_n hx hb dX11_goes_73 rfl (lv_at hl 0 rfl) ?_
        refine lv_iload hx hb dX11_goes_74 (lv_at hl 6 rfl) ?_
        refine lv_iconst (v := (2 : Int32)) hx hb dX11_goes_76 (by decide) ?_
        refine db_callVi S hw (Nat.le_of_ble_eq_true rfl) db_s90 (C := RX11) (T := TX11) (N := 19) (As := [.int x8, .int (2 : Int32)]) rfl (ct_X11_overOf  h) gX11_goes_X11_overOf rfl ⟨rfl, rfl, by show 0 + 1 ≤ d + 1 + 2; omega, by show 8 + (3 + 11) + 0 ≤ 28 * (d + 1) + 22; omega⟩ 2 rfl (by decide +kernel) hl.1 rfl (Nat.le_of_ble_eq_true rfl) dX11_goes_77 ⟨Nat.zero_le _, Nat.zero_le _⟩ (fun r2 X2 H locs h hw => ?_)
        refine lv_ishr hx hb dX11_goes_80 ?_
        refine lv_iconst (v := (1 : Int32)) hx hb dX11_goes_81 (by decide) ?_
        refine lv_iand hx hb dX11_goes_82 ?_
        refine lv_if_ne (tgt := 131) hx hb dX11_goes_83 (by decide) (fun c8 => ?_) (fun c8 => ?_)
        · have h := h.2 c8
          refine lv_iinc (v := (x8 + (1 : Int32))) (lv' := [(8, .int (x8 + (1 : Int32))), (0, .ref (db_ad E 90)), (1, .int x1), (2, .int x2), (3, .int x3), (4, .long x4), (6, .long x6)]) hx hb dX11_goes_131 hl (k := 6) rfl (congrArg (fun z_ => x8 + z_) (show Int32.ofInt (1) = (1 : Int32) by decide)) (by decide) rfl (fun ls hl => ?_)
          refine lv_goto (tgt := 48) hx hb dX11_goes_134 (by decide) ?_
          exact ih _ _ _ _ _ _ _ _ _ _ h hw (lv_sub hl [1, 2, 3, 4, 5, 6, 0] rfl)
        · have h := h.1 c8
          refine lv_aload_n hx hb dX11_goes_86 rfl (lv_at hl 0 rfl) ?_
          refine lv_aload_n hx hb dX11_goes_87 rfl (lv_at hl 0 rfl) ?_
          refine lv_iload hx hb dX11_goes_88 (lv_at hl 6 rfl) ?_
          refine lv_iconst (v := (2 : Int32)) hx hb dX11_goes_90 (by decide) ?_
          refine db_callVi S hw (Nat.le_of_ble_eq_true rfl) db_s90 (C := RX11) (T := TX11) (N := 19) (As := [.int x8, .int (2 : Int32)]) rfl (ct_X11_overOf  h) gX11_goes_X11_overOf rfl ⟨rfl, rfl, by show 0 + 1 ≤ d + 1 + 2; omega, by show 8 + (3 + 11) + 0 ≤ 28 * (d + 1) + 22; omega⟩ 2 rfl (by decide +kernel) hl.1 rfl (Nat.le_of_ble_eq_true rfl) dX11_goes_91 ⟨Nat.zero_le _, Nat.zero_le _⟩ (fun r3 X3 H locs h hw => ?_)
          refine lv_iload_n hx hb dX11_goes_94 rfl (lv_at hl 2 rfl) ?_
          refine lv_iload_n hx hb dX11_goes_95 rfl (lv_at hl 3 rfl) ?_
          refine lv_iconst (v := (1 : Int32)) hx hb dX11_goes_96 (by decide) ?_
          refine lv_aload_n hx hb dX11_goes_97 rfl (lv_at hl 0 rfl) ?_
          refine lv_iload hx hb dX11_goes_98 (lv_at hl 6 rfl) ?_
          refine lv_iconst (v := (2 : Int32)) hx hb dX11_goes_100 (by decide) ?_
          refine db_callVi S hw (Nat.le_of_ble_eq_true rfl) db_s90 (C := RX11) (T := TX11) (N := 19) (As := [.int x8, .int (2 : Int32)]) rfl (ct_X11_overOf  h) gX11_goes_X11_overOf rfl ⟨rfl, rfl, by show 0 + 1 ≤ d + 1 + 2; omega, by show 8 + (3 + 11) + 0 ≤ 28 * (d + 1) + 22; omega⟩ 2 rfl (by decide +kernel) hl.1 rfl (Nat.le_of_ble_eq_true rfl) dX11_goes_101 ⟨Nat.zero_le _, Nat.zero_le _⟩ (fun r4 X4 H locs h hw => ?_)
          refine lv_ishl hx hb dX11_goes_104 ?_
          refine lv_ior hx hb dX11_goes_105 ?_
          refine lv_lload hx hb dX11_goes_106 (lv_at hl 4 rfl) ?_
          refine lv_aload_n hx hb dX11_goes_108 rfl (lv_at hl 0 rfl) ?_
          refine lv_iload hx hb dX11_goes_109 (lv_at hl 6 rfl) ?_
          refine lv_iconst (v := (3 : Int32)) hx hb dX11_goes_111 (by decide) ?_
          refine db_callVi S hw (Nat.le_of_ble_eq_true rfl) db_s90 (C := RX11) (T := TX11) (N := 19) (As := [.int x8, .int (3 : Int32)]) rfl (ct_X11_overOf  h) gX11_goes_X11_overOf rfl ⟨rfl, rfl, by show 0 + 1 ≤ d + 1 + 2; omega, by show 8 + (3 + 11) + 0 ≤ 28 * (d + 1) + 22; omega⟩ 2 rfl (by decide +kernel) hl.1 rfl (Nat.le_of_ble_eq_true rfl) dX11_goes_112 ⟨Nat.zero_le _, Nat.zero_le _⟩ (fun r5 X5 H locs h hw => ?_)
          refine lv_i2l (v := ((r5).toInt64)) hx hb dX11_goes_115 rfl ?_
          refine lv_lmul hx hb dX11_goes_116 ?_
          refine lv_lload hx hb dX11_goes_117 (lv_at hl 5 rfl) ?_
          refine lv_aload_n hx hb dX11_goes_119 rfl (lv_at hl 0 rfl) ?_
          refine lv_iload hx hb dX11_goes_120 (lv_at hl 6 rfl) ?_
          refine lv_iconst (v := (1 : Int32)) hx hb dX11_goes_122 (by decide) ?_
          refine db_callVi S hw (Nat.le_of_ble_eq_true rfl) db_s90 (C := RX11) (T := TX11) (N := 19) (As := [.int x8, .int (1 : Int32)]) rfl (ct_X11_overOf  h) gX11_goes_X11_overOf rfl ⟨rfl, rfl, by show 0 + 1 ≤ d + 1 + 2; omega, by show 8 + (3 + 11) + 0 ≤ 28 * (d + 1) + 22; omega⟩ 2 rfl (by decide +kernel) hl.1 rfl (Nat.le_of_ble_eq_true rfl) dX11_goes_123 ⟨Nat.zero_le _, Nat.zero_le _⟩ (fun r6 X6 H locs h hw => ?_)
          refine lv_i2l (v := ((r6).toInt64)) hx hb dX11_goes_126 rfl ?_
          refine lv_lmul hx hb dX11_goes_127 ?_
          refine db_callVv S hw (Nat.le_of_ble_eq_true rfl) db_s90 (C := RX11) (T := TX11) (N := 19) (As := [.int r3, .int x2, .int (x3 ||| ((1 : Int32) <<< (r4 &&& 31))), .long (x4 * ((r5).toInt64)), .long (x6 * ((r6).toInt64))]) rfl (hRc _ _ _ _ _ _ _ h) gX11_goes_X11_goes rfl ⟨rfl, rfl, by show d + 2 + 1 ≤ d + 1 + 2; omega, by show 8 + (9 + 11) + (28 * d + 22) ≤ 28 * (d + 1) + 22; omega⟩ 5 rfl (by decide +kernel) hl.1 rfl (Nat.le_of_ble_eq_true rfl) dX11_goes_128 ⟨Nat.zero_le _, Nat.zero_le _⟩ (fun X7 H locs h hw => ?_)
          refine lv_iinc (v := (x8 + (1 : Int32))) (lv' := [(8, .int (x8 + (1 : Int32))), (0, .ref (db_ad E 90)), (1, .int x1), (2, .int x2), (3, .int x3), (4, .long x4), (6, .long x6)]) hx hb dX11_goes_131 hl (k := 6) rfl (congrArg (fun z_ => x8 + z_) (show Int32.ofInt (1) = (1 : Int32) by decide)) (by decide) rfl (fun ls hl => ?_)
          refine lv_goto (tgt := 48) hx hb dX11_goes_134 (by decide) ?_
          exact ih _ _ _ _ _ _ _ _ _ _ h hw (lv_sub hl [1, 2, 3, 4, 5, 6, 0] rfl)
def wp_X11_goes  : Nat → db_St → Int32 → Int32 → Int32 → Int64 → Int64 → (db_St → Prop) → Prop
  | 0, _, _, _, _, _, _, _ => False
  | d_ + 1, X, x1, x2, x3, x4, x6, Q => ((x1 = x2 → (((lg_cmp (X.2 90 12) (0 : Int64)) = 0 → (∀ X1, X1 = (db_sl X 90 11 x4) → (∀ X2, X2 = (db_sl X1 90 12 x6) → Q X2))) ∧ (¬ ((lg_cmp (X.2 90 12) (0 : Int64)) = 0) → ((0 ≤ (lg_cmp (x4 * (X.2 90 12)) ((X.2 90 11) * x6)) → Q X) ∧ (¬ (0 ≤ (lg_cmp (x4 * (X.2 90 12)) ((X.2 90 11) * x6))) → (∀ X3, X3 = (db_sl X 90 11 x4) → (∀ X4, X4 = (db_sl X3 90 12 x6) → Q X4))))))) ∧ (¬ x1 = x2 → (∃ f_, wp_X11_goes_48 (wp_X11_goes  d_) Q f_ X x1 x2 x3 x4 x6 (0 : Int32))))
set_option maxHeartbeats 4000000 in
set_option maxRecDepth 100000 in
theorem ct_X11_goes {l : Launch} {E : db_E}  : ∀ (d : Nat) (X : db_St) (x1 : Int32) (x2 : Int32) (x3 : Int32) (x4 : Int64) (x6 : Int64) (Q : db_St → Prop), wp_X11_goes  d X x1 x2 x3 x4 x6 Q → db_MV l E yX11_goes wsX11_goes (rm_X11_goes d) X [.ref (db_ad E 90), .int x1, .int x2, .int x3, .long x4, .long x6] Q := by
  intro d
  induction d with
  | zero =>
    intro X x1 x2 x3 x4 x6 Q h
    exact False.elim h
  | succ d hRc =>
  intro X x1 x2 x3 x4 x6 Q h sz
  unfold wp_X11_goes at h
  refine Met.ofW (cc := cX11_goes) (maxL := 9) (ret := none) (by decide) rfl ?_
  intro p e s m args below meth c s₁ B hml hv
  obtain ⟨rfl, hsz, hU⟩ := hv
  subst hsz
  have S : CallFix p m c cX11_goes 9 s ([.ref (db_ad E 90), .int x1, .int x2, .int x3, .long x4, .long x6] : List Value).toArray wsX11_goes RX11 := ⟨B.exec, B.bytes, hml, findClass_of_methodNamed B.named, atoms_spec (ws := wsX11_goes) B.pre⟩
  have hx := S.1
  have hb := S.2.1
  have hr := B.returns
  have hlocks := B.notSynchronized
  have hw := db_start hU
  have hiX11 : ∀ w ∈ wsX110, w ∈ wsX11_goes := fun w_ h_ => List.mem_cons_of_mem _ (List.mem_append_right _ h_)
  have hl := lv_entry ([.ref (db_ad E 90), .int x1, .int x2, .int x3, .long x4, .long x6]) (n := 9) (Nat.le_of_ble_eq_true rfl)
  rw [lg_entry_eq]
  generalize (lg_sl ([.ref (db_ad E 90), .int x1, .int x2, .int x3, .long x4, .long x6]) ++ List.replicate (9 - (lg_sl ([.ref (db_ad E 90), .int x1, .int x2, .int x3, .long x4, .long x6])).length) Slot.unset).toArray = ls at hl ⊢
  have hl : lv_has ls 9 [(0, .ref (db_ad E 90)), (1, .int x1), (2, .int x2), (3, .int x3), (4, .long x4), (6, .long x6)] := hl
  refine lv_iload_n hx hb dX11_goes_0 rfl (lv_at hl 1 rfl) ?_
  refine lv_iload_n hx hb dX11_goes_1 rfl (lv_at hl 2 rfl) ?_
  refine lv_icmp_ne (tgt := 45) hx hb dX11_goes_2 (by decide) (fun c7 => ?_) (fun c7 => ?_)
  · have h := h.2 c7
    refine lv_iconst (v := (0 : Int32)) hx hb dX11_goes_45 (by decide) ?_
    refine lv_istore (lv' := [(8, .int (0 : Int32)), (0, .ref (db_ad E 90)), (1, .int x1), (2, .int x2), (3, .int x3), (4, .long x4), (6, .long x6)]) hx hb dX11_goes_46 hl (by decide) rfl (fun ls hl => ?_)
    obtain ⟨f_, h⟩ := h
    exact tw_X11_goes_48 S hr hlocks  hRc  f_ _ _ _ _ _ _ _ _ _ _ h hw (lv_sub hl [1, 2, 3, 4, 5, 6, 0] rfl)
  · have h := h.1 c7
    refine lv_aload_n hx hb dX11_goes_5 rfl (lv_at hl 0 rfl) ?_
    refine db_getl S hw (Nat.le_of_ble_eq_true rfl) db_s90 (C := RX11) (T := TX11) (N := 19) rfl hiX11 12 (by decide) rfl (List.mem_of_getElem? (i := 1) rfl) dX11_goes_6 ?_
    refine lv_lconst (v := (0 : Int64)) hx hb dX11_goes_9 (by decide) ?_
    refine W.lcmp hx hb dX11_goes_10 ?_
    refine lv_if_eq (tgt := 32) hx hb dX11_goes_11 (by decide) (fun c6 => ?_) (fun c6 => ?_)
    · have h := h.1 c6
      refine lv_aload_n hx hb dX11_goes_32 rfl (lv_at hl 0 rfl) ?_
      refine lv_lload hx hb dX11_goes_33 (lv_at hl 4 rfl) ?_
      refine db_putl S hw (Nat.le_of_ble_eq_true rfl) db_s90 (C := RX11) (T := TX11) (N := 19) rfl hiX11 tyX11_ok nmX11 11 (by decide) rfl (List.mem_of_getElem? (i := 2) rfl) rfl ⟨rfl, rfl⟩ dX11_goes_35 (fun H locs hw => ?_)
      obtain ⟨X1, e1, hw⟩ : ∃ Z_, Z_ = (db_sl X 90 11 x4) ∧ db_HW E (db_Aw E s.heap.size) s Z_ H locs := ⟨_, rfl, hw⟩
      have h := h X1 e1
      refine lv_aload_n hx hb dX11_goes_38 rfl (lv_at hl 0 rfl) ?_
      refine lv_lload hx hb dX11_goes_39 (lv_at hl 5 rfl) ?_
      refine db_putl S hw (Nat.le_of_ble_eq_true rfl) db_s90 (C := RX11) (T := TX11) (N := 19) rfl hiX11 tyX11_ok nmX11 12 (by decide) rfl (List.mem_of_getElem? (i := 1) rfl) rfl ⟨rfl, rfl⟩ dX11_goes_41 (fun H locs hw => ?_)
      obtain ⟨X2, e2, hw⟩ : ∃ Z_, Z_ = (db_sl X1 90 12 x6) ∧ db_HW E (db_Aw E s.heap.size) s Z_ H locs := ⟨_, rfl, hw⟩
      have h := h X2 e2
      exact db_vret S hr hlocks hw h dX11_goes_44
    · have h := h.2 c6
      refine lv_lload hx hb dX11_goes_14 (lv_at hl 4 rfl) ?_
      refine lv_aload_n hx hb dX11_goes_16 rfl (lv_at hl 0 rfl) ?_
      refine db_getl S hw (Nat.le_of_ble_eq_true rfl) db_s90 (C := RX11) (T := TX11) (N := 19) rfl hiX11 12 (by decide) rfl (List.mem_of_getElem? (i := 1) rfl) dX11_goes_17 ?_
      refine lv_lmul hx hb dX11_goes_20 ?_
      refine lv_aload_n hx hb dX11_goes_21 rfl (lv_at hl 0 rfl) ?_
      refine db_getl S hw (Nat.le_of_ble_eq_true rfl) db_s90 (C := RX11) (T := TX11) (N := 19) rfl hiX11 11 (by decide) rfl (List.mem_of_getElem? (i := 2) rfl) dX11_goes_22 ?_
      refine lv_lload hx hb dX11_goes_25 (lv_at hl 5 rfl) ?_
      refine lv_lmul hx hb dX11_goes_27 ?_
      refine W.lcmp hx hb dX11_goes_28 ?_
      refine lv_if_ge (tgt := 44) hx hb dX11_goes_29 (by decide) (fun c5 => ?_) (fun c5 => ?_)
      · have h := h.1 c5
        exact db_vret S hr hlocks hw h dX11_goes_44
      · have h := h.2 c5
        refine lv_aload_n hx hb dX11_goes_32 rfl (lv_at hl 0 rfl) ?_
        refine lv_lload hx hb dX11_goes_33 (lv_at hl 4 rfl) ?_
        refine db_putl S hw (Nat.le_of_ble_eq_true rfl) db_s90 (C := RX11) (T := TX11) (N := 19) rfl hiX11 tyX11_ok nmX11 11 (by decide) rfl (List.mem_of_getElem? (i := 2) rfl) rfl ⟨rfl, rfl⟩ dX11_goes_35 (fun H locs hw => ?_)
        obtain ⟨X3, e3, hw⟩ : ∃ Z_, Z_ = (db_sl X 90 11 x4) ∧ db_HW E (db_Aw E s.heap.size) s Z_ H locs := ⟨_, rfl, hw⟩
        have h := h X3 e3
        refine lv_aload_n hx hb dX11_goes_38 rfl (lv_at hl 0 rfl) ?_
        refine lv_lload hx hb dX11_goes_39 (lv_at hl 5 rfl) ?_
        refine db_putl S hw (Nat.le_of_ble_eq_true rfl) db_s90 (C := RX11) (T := TX11) (N := 19) rfl hiX11 tyX11_ok nmX11 12 (by decide) rfl (List.mem_of_getElem? (i := 1) rfl) rfl ⟨rfl, rfl⟩ dX11_goes_41 (fun H locs hw => ?_)
        obtain ⟨X4, e4, hw⟩ : ∃ Z_, Z_ = (db_sl X3 90 12 x6) ∧ db_HW E (db_Aw E s.heap.size) s Z_ H locs := ⟨_, rfl, hw⟩
        have h := h X4 e4
        exact db_vret S hr hlocks hw h dX11_goes_44
-- DaysOnBreadModel.byPutting(II)I
abbrev rm_X11_byPutting : Room := { frames := 11, cells := 0, slots := 0, locals := 274 }
def wp_X11_byPutting_72 (Q : Int32 → db_St → Prop) : Nat → db_St → Int32 → Int64 → Int64 → Prop
  | 0, _, _, _, _ => False
  | n_ + 1, X, x2, x3, x5 => (((lg_cmp x5 (0 : Int64)) = 0 → ((x2 = 0 → (¬ x3 = 0 ∧ Q ((((X.2 90 11) / x3)).toInt32) X)) ∧ (¬ x2 = 0 → (¬ x3 = 0 ∧ Q ((((X.2 90 12) / x3)).toInt32) X)))) ∧ (¬ ((lg_cmp x5 (0 : Int64)) = 0) → (¬ x5 = 0 ∧ wp_X11_byPutting_72 Q n_ X x2 x5 (x3 - x3 / x5 * x5))))
set_option maxHeartbeats 4000000 in
set_option maxRecDepth 100000 in
theorem tw_X11_byPutting_72 {p : Program} {l : Launch} {e : Env} {s : State} {m : MethodId} {args : Array Value} {below : List Frame} {meth : Method} {c : Code} {E : db_E} (S : CallFix p m c cX11_byPutting 9 s args wsX11_byPutting RX11) (hr : meth.sig.returnType = (some .int)) (hlocks : meth.locks = false)  {Q : Int32 → db_St → Prop} : ∀ (n : Nat) (X : db_St) (x2 : Int32) (x3 : Int64) (x5 : Int64) (H : Heap) (locs : List Loc) (ls : Array Slot), wp_X11_byPutting_72 Q n X x2 x3 x5 → db_HW E (db_Aw E s.heap.size) s X H locs → lv_has ls 9 [(0, .ref (db_ad E 90)), (2, .int x2), (3, .long x3), (5, .long x5)] → W p l e rm_X11_byPutting s m args below meth c H locs 0 0 (MQ below (va_Qi Q (db_Po E) (db_Aw E s.heap.size)) args s 0 0 (db_Aw E s.heap.size)) (F0 m 72 ls []) := by
  have hx := S.1
  have hb := S.2.1
  have hiX11 : ∀ w ∈ wsX110, w ∈ wsX11_byPutting := fun w_ h_ => List.mem_cons_of_mem _ (List.mem_append_right _ h_)
  intro n
  induction n with
  | zero =>
    intro X x2 x3 x5 H locs ls h hw hl
    exact False.elim h
  | succ n_ ih =>
    intro X x2 x3 x5 H locs ls h hw hl
    unfold wp_X11_byPutting_72 at h
    refine lv_lload hx hb dX11_byPutting_72 (lv_at hl 3 rfl) ?_
    refine lv_lconst (v := (0 : Int64)) hx hb dX11_byPutting_74 (by decide) ?_
    refine W.lcmp hx hb dX11_byPutting_75 ?_
    refine lv_if_eq (tgt := 95) hx hb dX11_byPutting_76 (by decide) (fun c5 => ?_) (fun c5 => ?_)
    · have h := h.1 c5
      refine lv_iload_n hx hb dX11_byPutting_95 rfl (lv_at hl 1 rfl) ?_
      refine lv_if_ne (tgt := 108) hx hb dX11_byPutting_96 (by decide) (fun c3 => ?_) (fun c3 => ?_)
      · have h := h.2 c3
        refine lv_aload_n hx hb dX11_byPutting_108 rfl (lv_at hl 0 rfl) ?_
        refine db_getl S hw (Nat.le_of_ble_eq_true rfl) db_s90 (C := RX11) (T := TX11) (N := 19) rfl hiX11 12 (by decide) rfl (List.mem_of_getElem? (i := 2) rfl) dX11_byPutting_109 ?_
        refine lv_lload_n hx hb dX11_byPutting_112 rfl (lv_at hl 2 rfl) ?_
        obtain ⟨g1, h⟩ := h
        refine lv_ldiv hx hb dX11_byPutting_113 g1 ?_
        refine lv_l2i (v := ((((X.2 90 12) / x3)).toInt32)) hx hb dX11_byPutting_114 rfl ?_
        exact db_iret S hr hlocks hw h dX11_byPutting_115
      · have h := h.1 c3
        refine lv_aload_n hx hb dX11_byPutting_99 rfl (lv_at hl 0 rfl) ?_
        refine db_getl S hw (Nat.le_of_ble_eq_true rfl) db_s90 (C := RX11) (T := TX11) (N := 19) rfl hiX11 11 (by decide) rfl (List.mem_of_getElem? (i := 1) rfl) dX11_byPutting_100 ?_
        refine lv_lload_n hx hb dX11_byPutting_103 rfl (lv_at hl 2 rfl) ?_
        obtain ⟨g2, h⟩ := h
        refine lv_ldiv hx hb dX11_byPutting_104 g2 ?_
        refine lv_goto (tgt := 114) hx hb dX11_byPutting_105 (by decide) ?_
        refine lv_l2i (v := ((((X.2 90 11) / x3)).toInt32)) hx hb dX11_byPutting_114 rfl ?_
        exact db_iret S hr hlocks hw h dX11_byPutting_115
    · have h := h.2 c5
      refine lv_lload_n hx hb dX11_byPutting_79 rfl (lv_at hl 2 rfl) ?_
      refine lv_lload hx hb dX11_byPutting_80 (lv_at hl 3 rfl) ?_
      obtain ⟨g4, h⟩ := h
      refine lv_lrem hx hb dX11_byPutting_82 g4 ?_
      refine lv_lstore (lv' := [(7, .long (x3 - x3 / x5 * x5)), (0, .ref (db_ad E 90)), (2, .int x2), (3, .long x3), (5, .long x5)]) hx hb dX11_byPutting_83 hl (by decide) rfl (fun ls hl => ?_)
      refine lv_lload hx hb dX11_byPutting_85 (lv_at hl 4 rfl) ?_
      refine lv_lstore_n (lv' := [(3, .long x5), (7, .long (x3 - x3 / x5 * x5)), (0, .ref (db_ad E 90)), (2, .int x2), (5, .long x5)]) hx hb dX11_byPutting_87 rfl hl (by decide) rfl (fun ls hl => ?_)
      refine lv_lload hx hb dX11_byPutting_88 (lv_at hl 1 rfl) ?_
      refine lv_lstore (lv' := [(5, .long (x3 - x3 / x5 * x5)), (3, .long x5), (7, .long (x3 - x3 / x5 * x5)), (0, .ref (db_ad E 90)), (2, .int x2)]) hx hb dX11_byPutting_90 hl (by decide) rfl (fun ls hl => ?_)
      refine lv_goto (tgt := 72) hx hb dX11_byPutting_92 (by decide) ?_
      exact ih _ _ _ _ _ _ _ h hw (lv_sub hl [3, 4, 1, 0] rfl)
def wp_X11_byPutting  (X : db_St) (x1 : Int32) (x2 : Int32) (Q : Int32 → db_St → Prop) : Prop := wp_X11_isIn X x1 (6 : Int32) (fun r1 X1 => ((r1 = 0 → wp_X11_refuse X1 (-1 : Int32) (fun r9 X9 => Q r9 X9)) ∧ (¬ r1 = 0 → wp_X11_isIn X1 x2 (2 : Int32) (fun r2 X2 => ((r2 = 0 → wp_X11_refuse X2 (-2 : Int32) (fun r7 X7 => Q r7 X7)) ∧ (¬ r2 = 0 → (∀ X3, X3 = (db_sl X2 90 11 (0 : Int64)) → (∀ X4, X4 = (db_sl X3 90 12 (0 : Int64)) → wp_X11_goes 8 X4 (0 : Int32) x1 (1 : Int32) (1 : Int64) (1 : Int64) (fun X5 => (((lg_cmp (X5.2 90 12) (0 : Int64)) = 0 → Q (-9 : Int32) X5) ∧ (¬ (lg_cmp (X5.2 90 12) (0 : Int64)) = 0 → (∃ f_, wp_X11_byPutting_72 Q f_ X5 x2 (X5.2 90 11) (X5.2 90 12)))))))))))))
set_option maxHeartbeats 4000000 in
set_option maxRecDepth 100000 in
theorem ct_X11_byPutting {l : Launch} {E : db_E}  {X : db_St} {x1 : Int32} {x2 : Int32} {Q : Int32 → db_St → Prop} (h : wp_X11_byPutting  X x1 x2 Q) : db_MI l E yX11_byPutting wsX11_byPutting rm_X11_byPutting X [.ref (db_ad E 90), .int x1, .int x2] Q := by
  intro sz
  unfold wp_X11_byPutting at h
  refine Met.ofW (cc := cX11_byPutting) (maxL := 9) (ret := (some .int)) (by decide) rfl ?_
  intro p e s m args below meth c s₁ B hml hv
  obtain ⟨rfl, hsz, hU⟩ := hv
  subst hsz
  have S : CallFix p m c cX11_byPutting 9 s ([.ref (db_ad E 90), .int x1, .int x2] : List Value).toArray wsX11_byPutting RX11 := ⟨B.exec, B.bytes, hml, findClass_of_methodNamed B.named, atoms_spec (ws := wsX11_byPutting) B.pre⟩
  have hx := S.1
  have hb := S.2.1
  have hr := B.returns
  have hlocks := B.notSynchronized
  have hw := db_start hU
  have hiX11 : ∀ w ∈ wsX110, w ∈ wsX11_byPutting := fun w_ h_ => List.mem_cons_of_mem _ (List.mem_append_right _ h_)
  have hl := lv_entry ([.ref (db_ad E 90), .int x1, .int x2]) (n := 9) (Nat.le_of_ble_eq_true rfl)
  rw [lg_entry_eq]
  generalize (lg_sl ([.ref (db_ad E 90), .int x1, .int x2]) ++ List.replicate (9 - (lg_sl ([.ref (db_ad E 90), .int x1, .int x2])).length) Slot.unset).toArray = ls at hl ⊢
  have hl : lv_has ls 9 [(0, .ref (db_ad E 90)), (1, .int x1), (2, .int x2)] := hl
  refine lv_iload_n hx hb dX11_byPutting_0 rfl (lv_at hl 1 rfl) ?_
  refine lv_bipush (v := (6 : Int32)) hx hb dX11_byPutting_1 (by decide) ?_
  refine db_callSi S hw (As := [.int x1, .int (6 : Int32)]) (ct_X11_isIn  h) gX11_byPutting_X11_isIn rfl ⟨rfl, rfl, Nat.le_of_ble_eq_true rfl, Nat.le_of_ble_eq_true rfl⟩ 2 rfl (by decide +kernel) hl.1 rfl (Nat.le_of_ble_eq_true rfl) dX11_byPutting_3 ⟨Nat.zero_le _, Nat.zero_le _⟩ (fun r1 X1 H locs h hw => ?_)
  refine lv_if_ne (tgt := 15) hx hb dX11_byPutting_6 (by decide) (fun c10 => ?_) (fun c10 => ?_)
  · have h := h.2 c10
    refine lv_iload_n hx hb dX11_byPutting_15 rfl (lv_at hl 2 rfl) ?_
    refine lv_iconst (v := (2 : Int32)) hx hb dX11_byPutting_16 (by decide) ?_
    refine db_callSi S hw (As := [.int x2, .int (2 : Int32)]) (ct_X11_isIn  h) gX11_byPutting_X11_isIn rfl ⟨rfl, rfl, Nat.le_of_ble_eq_true rfl, Nat.le_of_ble_eq_true rfl⟩ 2 rfl (by decide +kernel) hl.1 rfl (Nat.le_of_ble_eq_true rfl) dX11_byPutting_17 ⟨Nat.zero_le _, Nat.zero_le _⟩ (fun r2 X2 H locs h hw => ?_)
    refine lv_if_ne (tgt := 30) hx hb dX11_byPutting_20 (by decide) (fun c8 => ?_) (fun c8 => ?_)
    · have h := h.2 c8
      refine lv_aload_n hx hb dX11_byPutting_30 rfl (lv_at hl 0 rfl) ?_
      refine lv_lconst (v := (0 : Int64)) hx hb dX11_byPutting_31 (by decide) ?_
      refine db_putl S hw (Nat.le_of_ble_eq_true rfl) db_s90 (C := RX11) (T := TX11) (N := 19) rfl hiX11 tyX11_ok nmX11 11 (by decide) rfl (List.mem_of_getElem? (i := 1) rfl) rfl ⟨rfl, rfl⟩ dX11_byPutting_32 (fun H locs hw => ?_)
      obtain ⟨X3, e3, hw⟩ : ∃ Z_, Z_ = (db_sl X2 90 11 (0 : Int64)) ∧ db_HW E (db_Aw E s.heap.size) s Z_ H locs := ⟨_, rfl, hw⟩
      have h := h X3 e3
      refine lv_aload_n hx hb dX11_byPutting_35 rfl (lv_at hl 0 rfl) ?_
      refine lv_lconst (v := (0 : Int64)) hx hb dX11_byPutting_36 (by decide) ?_
      refine db_putl S hw (Nat.le_of_ble_eq_true rfl) db_s90 (C := RX11) (T := TX11) (N := 19) rfl hiX11 tyX11_ok nmX11 12 (by decide) rfl (List.mem_of_getElem? (i := 2) rfl) rfl ⟨rfl, rfl⟩ dX11_byPutting_37 (fun H locs hw => ?_)
      obtain ⟨X4, e4, hw⟩ : ∃ Z_, Z_ = (db_sl X3 90 12 (0 : Int64)) ∧ db_HW E (db_Aw E s.heap.size) s Z_ H locs := ⟨_, rfl, hw⟩
      have h := h X4 e4
      refine lv_aload_n hx hb dX11_byPutting_40 rfl (lv_at hl 0 rfl) ?_
      refine lv_iconst (v := (0 : Int32)) hx hb dX11_byPutting_41 (by decide) ?_
      refine lv_iload_n hx hb dX11_byPutting_42 rfl (lv_at hl 1 rfl) ?_
      refine lv_iconst (v := (1 : Int32)) hx hb dX11_byPutting_43 (by decide) ?_
      refine lv_lconst (v := (1 : Int64)) hx hb dX11_byPutting_44 (by decide) ?_
      refine lv_lconst (v := (1 : Int64)) hx hb dX11_byPutting_45 (by decide) ?_
      refine db_callVv S hw (Nat.le_of_ble_eq_true rfl) db_s90 (C := RX11) (T := TX11) (N := 19) (As := [.int (0 : Int32), .int x1, .int (1 : Int32), .long (1 : Int64), .long (1 : Int64)]) rfl (ct_X11_goes 8 _ _ _ _ _ _ _ h) gX11_byPutting_X11_goes rfl ⟨rfl, rfl, Nat.le_of_ble_eq_true rfl, Nat.le_of_ble_eq_true rfl⟩ 5 rfl (by decide +kernel) hl.1 rfl (Nat.le_of_ble_eq_true rfl) dX11_byPutting_46 ⟨Nat.zero_le _, Nat.zero_le _⟩ (fun X5 H locs h hw => ?_)
      refine lv_aload_n hx hb dX11_byPutting_49 rfl (lv_at hl 0 rfl) ?_
      refine db_getl S hw (Nat.le_of_ble_eq_true rfl) db_s90 (C := RX11) (T := TX11) (N := 19) rfl hiX11 12 (by decide) rfl (List.mem_of_getElem? (i := 2) rfl) dX11_byPutting_50 ?_
      refine lv_lconst (v := (0 : Int64)) hx hb dX11_byPutting_53 (by decide) ?_
      refine W.lcmp hx hb dX11_byPutting_54 ?_
      refine lv_if_ne (tgt := 61) hx hb dX11_byPutting_55 (by decide) (fun c6 => ?_) (fun c6 => ?_)
      · have h := h.2 c6
        refine lv_aload_n hx hb dX11_byPutting_61 rfl (lv_at hl 0 rfl) ?_
        refine db_getl S hw (Nat.le_of_ble_eq_true rfl) db_s90 (C := RX11) (T := TX11) (N := 19) rfl hiX11 11 (by decide) rfl (List.mem_of_getElem? (i := 1) rfl) dX11_byPutting_62 ?_
        refine lv_lstore_n (lv' := [(3, .long (X5.2 90 11)), (0, .ref (db_ad E 90)), (1, .int x1), (2, .int x2)]) hx hb dX11_byPutting_65 rfl hl (by decide) rfl (fun ls hl => ?_)
        refine lv_aload_n hx hb dX11_byPutting_66 rfl (lv_at hl 1 rfl) ?_
        refine db_getl S hw (Nat.le_of_ble_eq_true rfl) db_s90 (C := RX11) (T := TX11) (N := 19) rfl hiX11 12 (by decide) rfl (List.mem_of_getElem? (i := 2) rfl) dX11_byPutting_67 ?_
        refine lv_lstore (lv' := [(5, .long (X5.2 90 12)), (3, .long (X5.2 90 11)), (0, .ref (db_ad E 90)), (1, .int x1), (2, .int x2)]) hx hb dX11_byPutting_70 hl (by decide) rfl (fun ls hl => ?_)
        obtain ⟨f_, h⟩ := h
        exact tw_X11_byPutting_72 S hr hlocks   f_ _ _ _ _ _ _ _ h hw (lv_sub hl [2, 4, 1, 0] rfl)
      · have h := h.1 c6
        refine lv_bipush (v := (-9 : Int32)) hx hb dX11_byPutting_58 (by decide) ?_
        exact db_iret S hr hlocks hw h dX11_byPutting_60
    · have h := h.1 c8
      refine lv_aload_n hx hb dX11_byPutting_23 rfl (lv_at hl 0 rfl) ?_
      refine lv_bipush (v := (-2 : Int32)) hx hb dX11_byPutting_24 (by decide) ?_
      refine db_callVi S hw (Nat.le_of_ble_eq_true rfl) db_s90 (C := RX11) (T := TX11) (N := 19) (As := [.int (-2 : Int32)]) rfl (ct_X11_refuse  h) gX11_byPutting_X11_refuse rfl ⟨rfl, rfl, Nat.le_of_ble_eq_true rfl, Nat.le_of_ble_eq_true rfl⟩ 1 rfl (by decide +kernel) hl.1 rfl (Nat.le_of_ble_eq_true rfl) dX11_byPutting_26 ⟨Nat.zero_le _, Nat.zero_le _⟩ (fun r7 X7 H locs h hw => ?_)
      exact db_iret S hr hlocks hw h dX11_byPutting_29
  · have h := h.1 c10
    refine lv_aload_n hx hb dX11_byPutting_9 rfl (lv_at hl 0 rfl) ?_
    refine lv_iconst (v := (-1 : Int32)) hx hb dX11_byPutting_10 (by decide) ?_
    refine db_callVi S hw (Nat.le_of_ble_eq_true rfl) db_s90 (C := RX11) (T := TX11) (N := 19) (As := [.int (-1 : Int32)]) rfl (ct_X11_refuse  h) gX11_byPutting_X11_refuse rfl ⟨rfl, rfl, Nat.le_of_ble_eq_true rfl, Nat.le_of_ble_eq_true rfl⟩ 1 rfl (by decide +kernel) hl.1 rfl (Nat.le_of_ble_eq_true rfl) dX11_byPutting_11 ⟨Nat.zero_le _, Nat.zero_le _⟩ (fun r9 X9 H locs h hw => ?_)
    exact db_iret S hr hlocks hw h dX11_byPutting_14
-- DaysOnBreadModel.rounds(IIIIJJ)V
abbrev rm_X11_rounds (d : Nat) : Room := { frames := d + 2, cells := 0, slots := 0, locals := 34 * d + 22 }
def wp_X11_rounds_115 (Rc : db_St → Int32 → Int32 → Int32 → Int32 → Int64 → Int64 → (db_St → Prop) → Prop) (k3 : db_St → Int32 → Int32 → Int32 → Int32 → Int64 → Int64 → Int32 → Prop) (Q : db_St → Prop) (X : db_St) (x1 : Int32) (x2 : Int32) (x3 : Int32) (x4 : Int32) (x5 : Int64) (x7 : Int64) (x9 : Int32) (x10 : Int32) (x11 : Int64) (x13 : Int64) : Prop := ((x10 ≤ x2 → k3 X x1 x2 x3 x4 x5 x7 (x9 + (1 : Int32))) ∧ (¬ (x10 ≤ x2) → ((((x3 >>> (x10 &&& 31)) &&& (1 : Int32)) = 0 → Rc X x10 x2 (x3 ||| ((1 : Int32) <<< (x10 &&& 31))) (x4 ||| ((1 : Int32) <<< (x9 &&& 31))) x11 x13 (fun X1 => k3 X1 x1 x2 x3 x4 x5 x7 (x9 + (1 : Int32)))) ∧ (¬ ((x3 >>> (x10 &&& 31)) &&& (1 : Int32)) = 0 → k3 X x1 x2 x3 x4 x5 x7 (x9 + (1 : Int32))))))
set_option maxHeartbeats 4000000 in
set_option maxRecDepth 100000 in
theorem tw_X11_rounds_115 {p : Program} {l : Launch} {e : Env} {s : State} {m : MethodId} {args : Array Value} {below : List Frame} {meth : Method} {c : Code} {E : db_E} (S : CallFix p m c cX11_rounds 15 s args wsX11_rounds RX11) (hr : meth.sig.returnType = none) (hlocks : meth.locks = false)  {d : Nat} {Rc : db_St → Int32 → Int32 → Int32 → Int32 → Int64 → Int64 → (db_St → Prop) → Prop} (hRc : ∀ (X : db_St) (x1 : Int32) (x2 : Int32) (x3 : Int32) (x4 : Int32) (x5 : Int64) (x7 : Int64) (P : db_St → Prop), Rc X x1 x2 x3 x4 x5 x7 P → db_MV l E yX11_rounds wsX11_rounds (rm_X11_rounds d) X [.ref (db_ad E 90), .int x1, .int x2, .int x3, .int x4, .long x5, .long x7] P) {Q : db_St → Prop} {k3 : db_St → Int32 → Int32 → Int32 → Int32 → Int64 → Int64 → Int32 → Prop} (hk3 : ∀ (X : db_St) (x1 : Int32) (x2 : Int32) (x3 : Int32) (x4 : Int32) (x5 : Int64) (x7 : Int64) (x9 : Int32) (H : Heap) (locs : List Loc) (ls : Array Slot), k3 X x1 x2 x3 x4 x5 x7 x9 → db_HW E (db_Aw E s.heap.size) s X H locs → lv_has ls 15 [(0, .ref (db_ad E 90)), (1, .int x1), (2, .int x2), (3, .int x3), (4, .int x4), (5, .long x5), (7, .long x7), (9, .int x9)] → W p l e (rm_X11_rounds (d + 1)) s m args below meth c H locs 0 0 (MQ below (va_Qv Q (db_Po E) (db_Aw E s.heap.size)) args s 0 0 (db_Aw E s.heap.size)) (F0 m 3 ls [])) : ∀ (X : db_St) (x1 : Int32) (x2 : Int32) (x3 : Int32) (x4 : Int32) (x5 : Int64) (x7 : Int64) (x9 : Int32) (x10 : Int32) (x11 : Int64) (x13 : Int64) (H : Heap) (locs : List Loc) (ls : Array Slot), wp_X11_rounds_115 Rc k3 Q X x1 x2 x3 x4 x5 x7 x9 x10 x11 x13 → db_HW E (db_Aw E s.heap.size) s X H locs → lv_has ls 15 [(0, .ref (db_ad E 90)), (1, .int x1), (2, .int x2), (3, .int x3), (4, .int x4), (5, .long x5), (7, .long x7), (9, .int x9), (10, .int x10), (11, .long x11), (13, .long x13)] → W p l e (rm_X11_rounds (d + 1)) s m args below meth c H locs 0 0 (MQ below (va_Qv Q (db_Po E) (db_Aw E s.heap.size)) args s 0 0 (db_Aw E s.heap.size)) (F0 m 115 ls []) := by
  have hx := S.1
  have hb := S.2.1
  have hiX11 : ∀ w ∈ wsX110, w ∈ wsX11_rounds := fun w_ h_ => List.mem_cons_of_mem _ (List.mem_append_right _ h_)
  intro X x1 x2 x3 x4 x5 x7 x9 x10 x11 x13 H locs ls h hw hl
  unfold wp_X11_rounds_115 at h
  refine lv_iload hx hb dX11_rounds_115 (lv_at hl 8 rfl) ?_
  refine lv_iload_n hx hb dX11_rounds_117 rfl (lv_at hl 2 rfl) ?_
  refine lv_icmp_le (tgt := 154) hx hb dX11_rounds_118 (by decide) (fun c3 => ?_) (fun c3 => ?_)
  · have h := h.1 c3
    refine lv_iinc (v := (x9 + (1 : Int32))) (lv' := [(9, .int (x9 + (1 : Int32))), (0, .ref (db_ad E 90)), (1, .int x1), (2, .int x2), (3, .int x3), (4, .int x4), (5, .long x5), (7, .long x7), (10, .int x10), (11, .long x11), (13, .long x13)]) hx hb dX11_rounds_154 hl (k := 7) rfl (congrArg (fun z_ => x9 + z_) (show Int32.ofInt (1) = (1 : Int32) by decide)) (by decide) rfl (fun ls hl => ?_)
    refine lv_goto (tgt := 3) hx hb dX11_rounds_157 (by decide) ?_
    exact hk3 _ _ _ _ _ _ _ _ _ _ _ h hw (lv_sub hl [1, 2, 3, 4, 5, 6, 7, 0] rfl)
  · have h := h.2 c3
    refine lv_iload_n hx hb dX11_rounds_121 rfl (lv_at hl 3 rfl) ?_
    refine lv_iload hx hb dX11_rounds_122 (lv_at hl 8 rfl) ?_
    refine lv_ishr hx hb dX11_rounds_124 ?_
    refine lv_iconst (v := (1 : Int32)) hx hb dX11_rounds_125 (by decide) ?_
    refine lv_iand hx hb dX11_rounds_126 ?_
    refine lv_if_ne (tgt := 154) hx hb dX11_rounds_127 (by decide) (fun c2 => ?_) (fun c2 => ?_)
    · have h := h.2 c2
      refine lv_iinc (v := (x9 + (1 : Int32))) (lv' := [(9, .int (x9 + (1 : Int32))), (0, .ref (db_ad E 90)), (1, .int x1), (2, .int x2), (3, .int x3), (4, .int x4), (5, .long x5), (7, .long x7), (10, .int x10), (11, .long x11), (13, .long x13)]) hx hb dX11_rounds_154 hl (k := 7) rfl (congrArg (fun z_ => x9 + z_) (show Int32.ofInt (1) = (1 : Int32) by decide)) (by decide) rfl (fun ls hl => ?_)
      refine lv_goto (tgt := 3) hx hb dX11_rounds_157 (by decide) ?_
      exact hk3 _ _ _ _ _ _ _ _ _ _ _ h hw (lv_sub hl [1, 2, 3, 4, 5, 6, 7, 0] rfl)
    · have h := h.1 c2
      refine lv_aload_n hx hb dX11_rounds_130 rfl (lv_at hl 0 rfl) ?_
      refine lv_iload hx hb dX11_rounds_131 (lv_at hl 8 rfl) ?_
      refine lv_iload_n hx hb dX11_rounds_133 rfl (lv_at hl 2 rfl) ?_
      refine lv_iload_n hx hb dX11_rounds_134 rfl (lv_at hl 3 rfl) ?_
      refine lv_iconst (v := (1 : Int32)) hx hb dX11_rounds_135 (by decide) ?_
      refine lv_iload hx hb dX11_rounds_136 (lv_at hl 8 rfl) ?_
      refine lv_ishl hx hb dX11_rounds_138 ?_
      refine lv_ior hx hb dX11_rounds_139 ?_
      refine lv_iload hx hb dX11_rounds_140 (lv_at hl 4 rfl) ?_
      refine lv_iconst (v := (1 : Int32)) hx hb dX11_rounds_142 (by decide) ?_
      refine lv_iload hx hb dX11_rounds_143 (lv_at hl 7 rfl) ?_
      refine lv_ishl hx hb dX11_rounds_145 ?_
      refine lv_ior hx hb dX11_rounds_146 ?_
      refine lv_lload hx hb dX11_rounds_147 (lv_at hl 9 rfl) ?_
      refine lv_lload hx hb dX11_rounds_149 (lv_at hl 10 rfl) ?_
      refine db_callVv S hw (Nat.le_of_ble_eq_true rfl) db_s90 (C := RX11) (T := TX11) (N := 19) (As := [.int x10, .int x2, .int (x3 ||| ((1 : Int32) <<< (x10 &&& 31))), .int (x4 ||| ((1 : Int32) <<< (x9 &&& 31))), .long x11, .long x13]) rfl (hRc _ _ _ _ _ _ _ _ h) gX11_rounds_X11_rounds rfl ⟨rfl, rfl, by show d + 2 + 1 ≤ d + 1 + 2; omega, by show 8 + (15 + 11) + (34 * d + 22) ≤ 34 * (d + 1) + 22; omega⟩ 6 rfl (by decide +kernel) hl.1 rfl (Nat.le_of_ble_eq_true rfl) dX11_rounds_151 ⟨Nat.zero_le _, Nat.zero_le _⟩ (fun X1 H locs h hw => ?_)
      refine lv_iinc (v := (x9 + (1 : Int32))) (lv' := [(9, .int (x9 + (1 : Int32))), (0, .ref (db_ad E 90)), (1, .int x1), (2, .int x2), (3, .int x3), (4, .int x4), (5, .long x5), (7, .long x7), (10, .int x10), (11, .long x11), (13, .long x13)]) hx hb dX11_rounds_154 hl (k := 7) rfl (congrArg (fun z_ => x9 + z_) (show Int32.ofInt (1) = (1 : Int32) by decide)) (by decide) rfl (fun ls hl => ?_)
      refine lv_goto (tgt := 3) hx hb dX11_rounds_157 (by decide) ?_
      exact hk3 _ _ _ _ _ _ _ _ _ _ _ h hw (lv_sub hl [1, 2, 3, 4, 5, 6, 7, 0] rfl)
def wp_X11_rounds_3 (Rc : db_St → Int32 → Int32 → Int32 → Int32 → Int64 → Int64 → (db_St → Prop) → Prop) (Q : db_St → Prop) : Nat → db_St → Int32 → Int32 → Int32 → Int32 → Int64 → Int64 → Int32 → Prop
  | 0, _, _, _, _, _, _, _, _ => False
  | n_ + 1, X, x1, x2, x3, x4, x5, x7, x9 => (((X.1 92 ((307 : Int32)).toNatClampNeg) ≤ x9 → Q X) ∧ (¬ ((X.1 92 ((307 : Int32)).toNatClampNeg) ≤ x9) → wp_X11_overOf X x9 (0 : Int32) (fun r1 X1 => ((r1 = x1 → wp_X11_overOf X1 x9 (2 : Int32) (fun r2 X2 => wp_X11_overOf X2 x9 (3 : Int32) (fun r3 X3 => wp_X11_overOf X3 x9 (1 : Int32) (fun r4 X4 => ((r2 = x2 → ((0 ≤ (lg_cmp (x5 * ((r3).toInt64)) (x7 * ((r4).toInt64))) → wp_X11_rounds_115 Rc (wp_X11_rounds_3 Rc Q n_) Q X4 x1 x2 x3 x4 x5 x7 x9 r2 (x5 * ((r3).toInt64)) (x7 * ((r4).toInt64))) ∧ (¬ (0 ≤ (lg_cmp (x5 * ((r3).toInt64)) (x7 * ((r4).toInt64)))) → (((4096 : Int32) ≤ (X4.1 90 14) → wp_X11_rounds_115 Rc (wp_X11_rounds_3 Rc Q n_) Q X4 x1 x2 x3 x4 x5 x7 x9 r2 (x5 * ((r3).toInt64)) (x7 * ((r4).toInt64))) ∧ (¬ ((4096 : Int32) ≤ (X4.1 90 14)) → (vp_in (X4.1 90 14) 4096 ∧ (∀ X6, X6 = (db_si X4 99 ((X4.1 90 14)).toNatClampNeg (x4 ||| ((1 : Int32) <<< (x9 &&& 31)))) → (∀ X7, X7 = (db_si X6 90 14 ((X6.1 90 14) + (1 : Int32))) → wp_X11_rounds_115 Rc (wp_X11_rounds_3 Rc Q n_) Q X7 x1 x2 x3 x4 x5 x7 x9 r2 (x5 * ((r3).toInt64)) (x7 * ((r4).toInt64)))))))))) ∧ (¬ r2 = x2 → wp_X11_rounds_115 Rc (wp_X11_rounds_3 Rc Q n_) Q X4 x1 x2 x3 x4 x5 x7 x9 r2 (x5 * ((r3).toInt64)) (x7 * ((r4).toInt64)))))))) ∧ (¬ (r1 = x1) → wp_X11_rounds_3 Rc Q n_ X1 x1 x2 x3 x4 x5 x7 (x9 + (1 : Int32)))))))
set_option maxHeartbeats 4000000 in
set_option maxRecDepth 100000 in
theorem tw_X11_rounds_3 {p : Program} {l : Launch} {e : Env} {s : State} {m : MethodId} {args : Array Value} {below : List Frame} {meth : Method} {c : Code} {E : db_E} (S : CallFix p m c cX11_rounds 15 s args wsX11_rounds RX11) (hr : meth.sig.returnType = none) (hlocks : meth.locks = false)  {d : Nat} {Rc : db_St → Int32 → Int32 → Int32 → Int32 → Int64 → Int64 → (db_St → Prop) → Prop} (hRc : ∀ (X : db_St) (x1 : Int32) (x2 : Int32) (x3 : Int32) (x4 : Int32) (x5 : Int64) (x7 : Int64) (P : db_St → Prop), Rc X x1 x2 x3 x4 x5 x7 P → db_MV l E yX11_rounds wsX11_rounds (rm_X11_rounds d) X [.ref (db_ad E 90), .int x1, .int x2, .int x3, .int x4, .long x5, .long x7] P) {Q : db_St → Prop} : ∀ (n : Nat) (X : db_St) (x1 : Int32) (x2 : Int32) (x3 : Int32) (x4 : Int32) (x5 : Int64) (x7 : Int64) (x9 : Int32) (H : Heap) (locs : List Loc) (ls : Array Slot), wp_X11_rounds_3 Rc Q n X x1 x2 x3 x4 x5 x7 x9 → db_HW E (db_Aw E s.heap.size) s X H locs → lv_has ls 15 [(0, .ref (db_ad E 90)), (1, .int x1), (2, .int x2), (3, .int x3), (4, .int x4), (5, .long x5), (7, .long x7), (9, .int x9)] → W p l e (rm_X11_rounds (d + 1)) s m args below meth c H locs 0 0 (MQ below (va_Qv Q (db_Po E) (db_Aw E s.heap.size)) args s 0 0 (db_Aw E s.heap.size)) (F0 m 3 ls []) := by
  have hx := S.1
  have hb := S.2.1
  have hiX11 : ∀ w ∈ wsX110, w ∈ wsX11_rounds := fun w_ h_ => List.mem_cons_of_mem _ (List.mem_append_right _ h_)
  intro n
  induction n with
  | zero =>
    intro X x1 x2 x3 x4 x5 x7 x9 H locs ls h hw hl
    exact False.elim h
  | succ n_ ih =>
    intro X x1 x2 x3 x4 x5 x7 x9 H locs ls h hw hl
    unfold wp_X11_rounds_3 at h
    refine lv_iload hx hb dX11_rounds_3 (lv_at hl 7 rfl) ?_
    refine lv_aload_n hx hb dX11_rounds_5 rfl (lv_at hl 0 rfl) ?_
    refine db_getr S hw (Nat.le_of_ble_eq_true rfl) db_s90 (C := RX11) (T := TX11) (N := 19) rfl hiX11 1 (by decide) (r := 92) rfl (List.mem_of_getElem? (i := 1) rfl) dX11_rounds_6 ?_
    refine lv_sipush (v := (307 : Int32)) hx hb dX11_rounds_9 (by decide) ?_
    refine db_iald S hw (Nat.le_of_ble_eq_true rfl) db_s92 (show ¬ ((307 : Int32) < 0 ∨ 310 ≤ ((307 : Int32) : Int32).toNatClampNeg) by decide) dX11_rounds_12 ?_
    refine lv_icmp_ge (tgt := 160) hx hb dX11_rounds_13 (by decide) (fun c12 => ?_) (fun c12 => ?_)
    · have h := h.1 c12
      exact db_vret S hr hlocks hw h dX11_rounds_160
    · have h := h.2 c12
      refine lv_aload_n hx hb dX11_rounds_16 rfl (lv_at hl 0 rfl) ?_
      refine lv_iload hx hb dX11_rounds_17 (lv_at hl 7 rfl) ?_
      refine lv_iconst (v := (0 : Int32)) hx hb dX11_rounds_19 (by decide) ?_
      refine db_callVi S hw (Nat.le_of_ble_eq_true rfl) db_s90 (C := RX11) (T := TX11) (N := 19) (As := [.int x9, .int (0 : Int32)]) rfl (ct_X11_overOf  h) gX11_rounds_X11_overOf rfl ⟨rfl, rfl, by show 0 + 1 ≤ d + 1 + 2; omega, by show 8 + (3 + 11) + 0 ≤ 34 * (d + 1) + 22; omega⟩ 2 rfl (by decide +kernel) hl.1 rfl (Nat.le_of_ble_eq_true rfl) dX11_rounds_20 ⟨Nat.zero_le _, Nat.zero_le _⟩ (fun r1 X1 H locs h hw => ?_)
      refine lv_iload_n hx hb dX11_rounds_23 rfl (lv_at hl 1 rfl) ?_
      refine lv_icmp_eq (tgt := 30) hx hb dX11_rounds_24 (by decide) (fun c11 => ?_) (fun c11 => ?_)
      · have h := h.1 c11
        refine lv_aload_n hx hb dX11_rounds_30 rfl (lv_at hl 0 rfl) ?_
        refine lv_iload hx hb dX11_rounds_31 (lv_at hl 7 rfl) ?_
        refine lv_iconst (v := (2 : Int32)) hx hb dX11_rounds_33 (by decide) ?_
        refine db_callVi S hw (Nat.le_of_ble_eq_true rfl) db_s90 (C := RX11) (T := TX11) (N := 19) (As := [.int x9, .int (2 : Int32)]) rfl (ct_X11_overOf  h) gX11_rounds_X11_overOf rfl ⟨rfl, rfl, by show 0 + 1 ≤ d + 1 + 2; omega, by show 8 + (3 + 11) + 0 ≤ 34 * (d + 1) + 22; omega⟩ 2 rfl (by decide +kernel) hl.1 rfl (Nat.le_of_ble_eq_true rfl) dX11_rounds_34 ⟨Nat.zero_le _, Nat.zero_le _⟩ (fun r2 X2 H locs h hw => ?_)
        refine lv_istore (lv' := [(10, .int r2), (0, .ref (db_ad E 90)), (1, .int x1), (2, .int x2), (3, .int x3), (4, .int x4), (5, .long x5), (7, .long x7), (9, .int x9)]) hx hb dX11_rounds_37 hl (by decide) rfl (fun ls hl => ?_)
        refine lv_lload hx hb dX11_rounds_39 (lv_at hl 6 rfl) ?_
        refine lv_aload_n hx hb dX11_rounds_41 rfl (lv_at hl 1 rfl) ?_
        refine lv_iload hx hb dX11_rounds_42 (lv_at hl 8 rfl) ?_
        refine lv_iconst (v := (3 : Int32)) hx hb dX11_rounds_44 (by decide) ?_
        refine db_callVi S hw (Nat.le_of_ble_eq_true rfl) db_s90 (C := RX11) (T := TX11) (N := 19) (As := [.int x9, .int (3 : Int32)]) rfl (ct_X11_overOf  h) gX11_rounds_X11_overOf rfl ⟨rfl, rfl, by show 0 + 1 ≤ d + 1 + 2; omega, by show 8 + (3 + 11) + 0 ≤ 34 * (d + 1) + 22; omega⟩ 2 rfl (by decide +kernel) hl.1 rfl (Nat.le_of_ble_eq_true rfl) dX11_rounds_45 ⟨Nat.zero_le _, Nat.zero_le _⟩ (fun r3 X3 H locs h hw => ?_)
        refine lv_i2l (v := ((r3).toInt64)) hx hb dX11_rounds_48 rfl ?_
        refine lv_lmul hx hb dX11_rounds_49 ?_
        refine lv_lstore (lv' := [(11, .long (x5 * ((r3).toInt64))), (10, .int r2), (0, .ref (db_ad E 90)), (1, .int x1), (2, .int x2), (3, .int x3), (4, .int x4), (5, .long x5), (7, .long x7), (9, .int x9)]) hx hb dX11_rounds_50 hl (by decide) rfl (fun ls hl => ?_)
        refine lv_lload hx hb dX11_rounds_52 (lv_at hl 8 rfl) ?_
        refine lv_aload_n hx hb dX11_rounds_54 rfl (lv_at hl 2 rfl) ?_
        refine lv_iload hx hb dX11_rounds_55 (lv_at hl 9 rfl) ?_
        refine lv_iconst (v := (1 : Int32)) hx hb dX11_rounds_57 (by decide) ?_
        refine db_callVi S hw (Nat.le_of_ble_eq_true rfl) db_s90 (C := RX11) (T := TX11) (N := 19) (As := [.int x9, .int (1 : Int32)]) rfl (ct_X11_overOf  h) gX11_rounds_X11_overOf rfl ⟨rfl, rfl, by show 0 + 1 ≤ d + 1 + 2; omega, by show 8 + (3 + 11) + 0 ≤ 34 * (d + 1) + 22; omega⟩ 2 rfl (by decide +kernel) hl.1 rfl (Nat.le_of_ble_eq_true rfl) dX11_rounds_58 ⟨Nat.zero_le _, Nat.zero_le _⟩ (fun r4 X4 H locs h hw => ?_)
        refine lv_i2l (v := ((r4).toInt64)) hx hb dX11_rounds_61 rfl ?_
        refine lv_lmul hx hb dX11_rounds_62 ?_
        refine lv_lstore (lv' := [(13, .long (x7 * ((r4).toInt64))), (11, .long (x5 * ((r3).toInt64))), (10, .int r2), (0, .ref (db_ad E 90)), (1, .int x1), (2, .int x2), (3, .int x3), (4, .int x4), (5, .long x5), (7, .long x7), (9, .int x9)]) hx hb dX11_rounds_63 hl (by decide) rfl (fun ls hl => ?_)
        refine lv_iload hx hb dX11_rounds_65 (lv_at hl 2 rfl) ?_
        refine lv_iload_n hx hb dX11_rounds_67 rfl (lv_at hl 5 rfl) ?_
        refine lv_icmp_ne (tgt := 115) hx hb dX11_rounds_68 (by decide) (fun c10 => ?_) (fun c10 => ?_)
        · have h := h.2 c10
          exact tw_X11_rounds_115 S hr hlocks  hRc ih _ _ _ _ _ _ _ _ _ _ _ _ _ _ h hw (lv_sub hl [3, 4, 5, 6, 7, 8, 9, 10, 2, 1, 0] rfl)
        · have h := h.1 c10
          refine lv_lload hx hb dX11_rounds_71 (lv_at hl 1 rfl) ?_
          refine lv_lload hx hb dX11_rounds_73 (lv_at hl 0 rfl) ?_
          refine W.lcmp hx hb dX11_rounds_75 ?_
          refine lv_if_ge (tgt := 115) hx hb dX11_rounds_76 (by decide) (fun c9 => ?_) (fun c9 => ?_)
          · have h := h.1 c9
            exact tw_X11_rounds_115 S hr hlocks  hRc ih _ _ _ _ _ _ _ _ _ _ _ _ _ _ h hw (lv_sub hl [3, 4, 5, 6, 7, 8, 9, 10, 2, 1, 0] rfl)
          · have h := h.2 c9
            refine lv_aload_n hx hb dX11_rounds_79 rfl (lv_at hl 3 rfl) ?_
            refine db_geti S hw (Nat.le_of_ble_eq_true rfl) db_s90 (C := RX11) (T := TX11) (N := 19) rfl hiX11 14 (by decide) rfl (List.mem_of_getElem? (i := 2) rfl) dX11_rounds_80 ?_
            refine lv_sipush (v := (4096 : Int32)) hx hb dX11_rounds_83 (by decide) ?_
            refine lv_icmp_ge (tgt := 115) hx hb dX11_rounds_86 (by decide) (fun c8 => ?_) (fun c8 => ?_)
            · have h := h.1 c8
              exact tw_X11_rounds_115 S hr hlocks  hRc ih _ _ _ _ _ _ _ _ _ _ _ _ _ _ h hw (lv_sub hl [3, 4, 5, 6, 7, 8, 9, 10, 2, 1, 0] rfl)
            · have h := h.2 c8
              refine lv_aload_n hx hb dX11_rounds_89 rfl (lv_at hl 3 rfl) ?_
              refine db_getr S hw (Nat.le_of_ble_eq_true rfl) db_s90 (C := RX11) (T := TX11) (N := 19) rfl hiX11 13 (by decide) (r := 99) rfl (List.mem_of_getElem? (i := 3) rfl) dX11_rounds_90 ?_
              refine lv_aload_n hx hb dX11_rounds_93 rfl (lv_at hl 3 rfl) ?_
              refine db_geti S hw (Nat.le_of_ble_eq_true rfl) db_s90 (C := RX11) (T := TX11) (N := 19) rfl hiX11 14 (by decide) rfl (List.mem_of_getElem? (i := 2) rfl) dX11_rounds_94 ?_
              refine lv_iload hx hb dX11_rounds_97 (lv_at hl 7 rfl) ?_
              refine lv_iconst (v := (1 : Int32)) hx hb dX11_rounds_99 (by decide) ?_
              refine lv_iload hx hb dX11_rounds_100 (lv_at hl 10 rfl) ?_
              refine lv_ishl hx hb dX11_rounds_102 ?_
              refine lv_ior hx hb dX11_rounds_103 ?_
              obtain ⟨g5, h⟩ := h
              refine db_iast S hw (Nat.le_of_ble_eq_true rfl) db_s99 g5 dX11_rounds_104 (fun H locs hw => ?_)
              obtain ⟨X6, e6, hw⟩ : ∃ Z_, Z_ = (db_si X4 99 ((X4.1 90 14)).toNatClampNeg (x4 ||| ((1 : Int32) <<< (x9 &&& 31)))) ∧ db_HW E (db_Aw E s.heap.size) s Z_ H locs := ⟨_, rfl, hw⟩
              have h := h X6 e6
              refine lv_aload_n hx hb dX11_rounds_105 rfl (lv_at hl 3 rfl) ?_
              refine lv_dup hx hb dX11_rounds_106 rfl ?_
              refine db_geti S hw (Nat.le_of_ble_eq_true rfl) db_s90 (C := RX11) (T := TX11) (N := 19) rfl hiX11 14 (by decide) rfl (List.mem_of_getElem? (i := 2) rfl) dX11_rounds_107 ?_
              refine lv_iconst (v := (1 : Int32)) hx hb dX11_rounds_110 (by decide) ?_
              refine lv_iadd hx hb dX11_rounds_111 ?_
              refine db_puti S hw (Nat.le_of_ble_eq_true rfl) db_s90 (C := RX11) (T := TX11) (N := 19) rfl hiX11 tyX11_ok nmX11 14 (by decide) rfl (List.mem_of_getElem? (i := 2) rfl) rfl ⟨rfl, rfl⟩ dX11_rounds_112 (fun H locs hw => ?_)
              obtain ⟨X7, e7, hw⟩ : ∃ Z_, Z_ = (db_si X6 90 14 ((X6.1 90 14) + (1 : Int32))) ∧ db_HW E (db_Aw E s.heap.size) s Z_ H locs := ⟨_, rfl, hw⟩
              have h := h X7 e7
              exact tw_X11_rounds_115 S hr hlocks  hRc ih _ _ _ _ _ _ _ _ _ _ _ _ _ _ h hw (lv_sub hl [3, 4, 5, 6, 7, 8, 9, 10, 2, 1, 0] rfl)
      · have h := h.2 c11
        refine lv_goto (tgt := 154) hx hb dX11_rounds_27 (by decide) ?_
        refine lv_iinc (v := (x9 + (1 : Int32))) (lv' := [(9, .int (x9 + (1 : Int32))), (0, .ref (db_ad E 90)), (1, .int x1), (2, .int x2), (3, .int x3), (4, .int x4), (5, .long x5), (7, .long x7)]) hx hb dX11_rounds_154 hl (k := 7) rfl (congrArg (fun z_ => x9 + z_) (show Int32.ofInt (1) = (1 : Int32) by decide)) (by decide) rfl (fun ls hl => ?_)
        refine lv_goto (tgt := 3) hx hb dX11_rounds_157 (by decide) ?_
        exact ih _ _ _ _ _ _ _ _ _ _ _ h hw (lv_sub hl [1, 2, 3, 4, 5, 6, 7, 0] rfl)
def wp_X11_rounds  : Nat → db_St → Int32 → Int32 → Int32 → Int32 → Int64 → Int64 → (db_St → Prop) → Prop
  | 0, _, _, _, _, _, _, _, _ => False
  | d_ + 1, X, x1, x2, x3, x4, x5, x7, Q => (∃ f_, wp_X11_rounds_3 (wp_X11_rounds  d_) Q f_ X x1 x2 x3 x4 x5 x7 (0 : Int32))
set_option maxHeartbeats 4000000 in
set_option maxRecDepth 100000 in
theorem ct_X11_rounds {l : Launch} {E : db_E}  : ∀ (d : Nat) (X : db_St) (x1 : Int32) (x2 : Int32) (x3 : Int32) (x4 : Int32) (x5 : Int64) (x7 : Int64) (Q : db_St → Prop), wp_X11_rounds  d X x1 x2 x3 x4 x5 x7 Q → db_MV l E yX11_rounds wsX11_rounds (rm_X11_rounds d) X [.ref (db_ad E 90), .int x1, .int x2, .int x3, .int x4, .long x5, .long x7] Q := by
  intro d
  induction d with
  | zero =>
    intro X x1 x2 x3 x4 x5 x7 Q h
    exact False.elim h
  | succ d hRc =>
  intro X x1 x2 x3 x4 x5 x7 Q h sz
  unfold wp_X11_rounds at h
  refine Met.ofW (cc := cX11_rounds) (maxL := 15) (ret := none) (by decide) rfl ?_
  intro p e s m args below meth c s₁ B hml hv
  obtain ⟨rfl, hsz, hU⟩ := hv
  subst hsz
  have S : CallFix p m c cX11_rounds 15 s ([.ref (db_ad E 90), .int x1, .int x2, .int x3, .int x4, .long x5, .long x7] : List Value).toArray wsX11_rounds RX11 := ⟨B.exec, B.bytes, hml, findClass_of_methodNamed B.named, atoms_spec (ws := wsX11_rounds) B.pre⟩
  have hx := S.1
  have hb := S.2.1
  have hr := B.returns
  have hlocks := B.notSynchronized
  have hw := db_start hU
  have hiX11 : ∀ w ∈ wsX110, w ∈ wsX11_rounds := fun w_ h_ => List.mem_cons_of_mem _ (List.mem_append_right _ h_)
  have hl := lv_entry ([.ref (db_ad E 90), .int x1, .int x2, .int x3, .int x4, .long x5, .long x7]) (n := 15) (Nat.le_of_ble_eq_true rfl)
  rw [lg_entry_eq]
  generalize (lg_sl ([.ref (db_ad E 90), .int x1, .int x2, .int x3, .int x4, .long x5, .long x7]) ++ List.replicate (15 - (lg_sl ([.ref (db_ad E 90), .int x1, .int x2, .int x3, .int x4, .long x5, .long x7])).length) Slot.unset).toArray = ls at hl ⊢
  have hl : lv_has ls 15 [(0, .ref (db_ad E 90)), (1, .int x1), (2, .int x2), (3, .int x3), (4, .int x4), (5, .long x5), (7, .long x7)] := hl
  refine lv_iconst (v := (0 : Int32)) hx hb dX11_rounds_0 (by decide) ?_
  refine lv_istore (lv' := [(9, .int (0 : Int32)), (0, .ref (db_ad E 90)), (1, .int x1), (2, .int x2), (3, .int x3), (4, .int x4), (5, .long x5), (7, .long x7)]) hx hb dX11_rounds_1 hl (by decide) rfl (fun ls hl => ?_)
  obtain ⟨f_, h⟩ := h
  exact tw_X11_rounds_3 S hr hlocks  hRc  f_ _ _ _ _ _ _ _ _ _ _ _ h hw (lv_sub hl [1, 2, 3, 4, 5, 6, 7, 0] rfl)
-- DaysOnBreadModel.findRings()V
abbrev rm_X11_findRings : Room := { frames := 11, cells := 0, slots := 0, locals := 328 }
def wp_X11_findRings_7 (Q : db_St → Prop) : Nat → db_St → Int32 → Prop
  | 0, _, _ => False
  | n_ + 1, X, x1 => (((6 : Int32) ≤ x1 → Q X) ∧ (¬ ((6 : Int32) ≤ x1) → wp_X11_rounds 8 X x1 x1 ((1 : Int32) <<< (x1 &&& 31)) (0 : Int32) (1 : Int64) (1 : Int64) (fun X1 => wp_X11_findRings_7 Q n_ X1 (x1 + (1 : Int32)))))
set_option maxHeartbeats 4000000 in
set_option maxRecDepth 100000 in
theorem tw_X11_findRings_7 {p : Program} {l : Launch} {e : Env} {s : State} {m : MethodId} {args : Array Value} {below : List Frame} {meth : Method} {c : Code} {E : db_E} (S : CallFix p m c cX11_findRings 2 s args wsX11_findRings RX11) (hr : meth.sig.returnType = none) (hlocks : meth.locks = false)  {Q : db_St → Prop} : ∀ (n : Nat) (X : db_St) (x1 : Int32) (H : Heap) (locs : List Loc) (ls : Array Slot), wp_X11_findRings_7 Q n X x1 → db_HW E (db_Aw E s.heap.size) s X H locs → lv_has ls 2 [(0, .ref (db_ad E 90)), (1, .int x1)] → W p l e rm_X11_findRings s m args below meth c H locs 0 0 (MQ below (va_Qv Q (db_Po E) (db_Aw E s.heap.size)) args s 0 0 (db_Aw E s.heap.size)) (F0 m 7 ls []) := by
  have hx := S.1
  have hb := S.2.1
  have hiX11 : ∀ w ∈ wsX110, w ∈ wsX11_findRings := fun w_ h_ => List.mem_cons_of_mem _ (List.mem_append_right _ h_)
  intro n
  induction n with
  | zero =>
    intro X x1 H locs ls h hw hl
    exact False.elim h
  | succ n_ ih =>
    intro X x1 H locs ls h hw hl
    unfold wp_X11_findRings_7 at h
    refine lv_iload_n hx hb dX11_findRings_7 rfl (lv_at hl 1 rfl) ?_
    refine lv_bipush (v := (6 : Int32)) hx hb dX11_findRings_8 (by decide) ?_
    refine lv_icmp_ge (tgt := 31) hx hb dX11_findRings_10 (by decide) (fun c2 => ?_) (fun c2 => ?_)
    · have h := h.1 c2
      exact db_vret S hr hlocks hw h dX11_findRings_31
    · have h := h.2 c2
      refine lv_aload_n hx hb dX11_findRings_13 rfl (lv_at hl 0 rfl) ?_
      refine lv_iload_n hx hb dX11_findRings_14 rfl (lv_at hl 1 rfl) ?_
      refine lv_iload_n hx hb dX11_findRings_15 rfl (lv_at hl 1 rfl) ?_
      refine lv_iconst (v := (1 : Int32)) hx hb dX11_findRings_16 (by decide) ?_
      refine lv_iload_n hx hb dX11_findRings_17 rfl (lv_at hl 1 rfl) ?_
      refine lv_ishl hx hb dX11_findRings_18 ?_
      refine lv_iconst (v := (0 : Int32)) hx hb dX11_findRings_19 (by decide) ?_
      refine lv_lconst (v := (1 : Int64)) hx hb dX11_findRings_20 (by decide) ?_
      refine lv_lconst (v := (1 : Int64)) hx hb dX11_findRings_21 (by decide) ?_
      refine db_callVv S hw (Nat.le_of_ble_eq_true rfl) db_s90 (C := RX11) (T := TX11) (N := 19) (As := [.int x1, .int x1, .int ((1 : Int32) <<< (x1 &&& 31)), .int (0 : Int32), .long (1 : Int64), .long (1 : Int64)]) rfl (ct_X11_rounds 8 _ _ _ _ _ _ _ _ h) gX11_findRings_X11_rounds rfl ⟨rfl, rfl, Nat.le_of_ble_eq_true rfl, Nat.le_of_ble_eq_true rfl⟩ 6 rfl (by decide +kernel) hl.1 rfl (Nat.le_of_ble_eq_true rfl) dX11_findRings_22 ⟨Nat.zero_le _, Nat.zero_le _⟩ (fun X1 H locs h hw => ?_)
      refine lv_iinc (v := (x1 + (1 : Int32))) (lv' := [(1, .int (x1 + (1 : Int32))), (0, .ref (db_ad E 90))]) hx hb dX11_findRings_25 hl (k := 1) rfl (congrArg (fun z_ => x1 + z_) (show Int32.ofInt (1) = (1 : Int32) by decide)) (by decide) rfl (fun ls hl => ?_)
      refine lv_goto (tgt := 7) hx hb dX11_findRings_28 (by decide) ?_
      exact ih _ _ _ _ _ h hw (lv_sub hl [1, 0] rfl)
def wp_X11_findRings  (X : db_St)  (Q : db_St → Prop) : Prop := (∀ X1, X1 = (db_si X 90 14 (0 : Int32)) → (∃ f_, wp_X11_findRings_7 Q f_ X1 (0 : Int32)))
set_option maxHeartbeats 4000000 in
set_option maxRecDepth 100000 in
theorem ct_X11_findRings {l : Launch} {E : db_E}  {X : db_St}  {Q : db_St → Prop} (h : wp_X11_findRings  X  Q) : db_MV l E yX11_findRings wsX11_findRings rm_X11_findRings X [.ref (db_ad E 90)] Q := by
  intro sz
  unfold wp_X11_findRings at h
  refine Met.ofW (cc := cX11_findRings) (maxL := 2) (ret := none) (by decide) rfl ?_
  intro p e s m args below meth c s₁ B hml hv
  obtain ⟨rfl, hsz, hU⟩ := hv
  subst hsz
  have S : CallFix p m c cX11_findRings 2 s ([.ref (db_ad E 90)] : List Value).toArray wsX11_findRings RX11 := ⟨B.exec, B.bytes, hml, findClass_of_methodNamed B.named, atoms_spec (ws := wsX11_findRings) B.pre⟩
  have hx := S.1
  have hb := S.2.1
  have hr := B.returns
  have hlocks := B.notSynchronized
  have hw := db_start hU
  have hiX11 : ∀ w ∈ wsX110, w ∈ wsX11_findRings := fun w_ h_ => List.mem_cons_of_mem _ (List.mem_append_right _ h_)
  have hl := lv_entry ([.ref (db_ad E 90)]) (n := 2) (Nat.le_of_ble_eq_true rfl)
  rw [lg_entry_eq]
  generalize (lg_sl ([.ref (db_ad E 90)]) ++ List.replicate (2 - (lg_sl ([.ref (db_ad E 90)])).length) Slot.unset).toArray = ls at hl ⊢
  have hl : lv_has ls 2 [(0, .ref (db_ad E 90))] := hl
  refine lv_aload_n hx hb dX11_findRings_0 rfl (lv_at hl 0 rfl) ?_
  refine lv_iconst (v := (0 : Int32)) hx hb dX11_findRings_1 (by decide) ?_
  refine db_puti S hw (Nat.le_of_ble_eq_true rfl) db_s90 (C := RX11) (T := TX11) (N := 19) rfl hiX11 tyX11_ok nmX11 14 (by decide) rfl (List.mem_of_getElem? (i := 1) rfl) rfl ⟨rfl, rfl⟩ dX11_findRings_2 (fun H locs hw => ?_)
  obtain ⟨X1, e1, hw⟩ : ∃ Z_, Z_ = (db_si X 90 14 (0 : Int32)) ∧ db_HW E (db_Aw E s.heap.size) s Z_ H locs := ⟨_, rfl, hw⟩
  have h := h X1 e1
  refine lv_iconst (v := (0 : Int32)) hx hb dX11_findRings_5 (by decide) ?_
  refine lv_istore_n (lv' := [(1, .int (0 : Int32)), (0, .ref (db_ad E 90))]) hx hb dX11_findRings_6 rfl hl (by decide) rfl (fun ls hl => ?_)
  obtain ⟨f_, h⟩ := h
  exact tw_X11_findRings_7 S hr hlocks   f_ _ _ _ _ _ h hw (lv_sub hl [1, 0] rfl)
-- DaysOnBreadModel.ring()I
abbrev rm_X11_ring : Room := { frames := 12, cells := 0, slots := 0, locals := 349 }
def wp_X11_ring_9 (Q : Int32 → db_St → Prop) : Nat → db_St → Int32 → Int32 → Prop
  | 0, _, _, _ => False
  | n_ + 1, X, x1, x2 => (((X.1 90 14) ≤ x2 → Q x1 X) ∧ (¬ ((X.1 90 14) ≤ x2) → ((x1 < 0 → (vp_in x2 4096 ∧ wp_X11_bits X (X.1 99 (x2).toNatClampNeg) (fun r2 X2 => wp_X11_ring_9 Q n_ X2 r2 (x2 + (1 : Int32))))) ∧ (¬ (x1 < 0) → (vp_in x2 4096 ∧ wp_X11_bits X (X.1 99 (x2).toNatClampNeg) (fun r4 X4 => ((x1 ≤ r4 → wp_X11_ring_9 Q n_ X4 x1 (x2 + (1 : Int32))) ∧ (¬ (x1 ≤ r4) → (vp_in x2 4096 ∧ wp_X11_bits X4 (X4.1 99 (x2).toNatClampNeg) (fun r6 X6 => wp_X11_ring_9 Q n_ X6 r6 (x2 + (1 : Int32))))))))))))
set_option maxHeartbeats 4000000 in
set_option maxRecDepth 100000 in
theorem tw_X11_ring_9 {p : Program} {l : Launch} {e : Env} {s : State} {m : MethodId} {args : Array Value} {below : List Frame} {meth : Method} {c : Code} {E : db_E} (S : CallFix p m c cX11_ring 3 s args wsX11_ring RX11) (hr : meth.sig.returnType = (some .int)) (hlocks : meth.locks = false)  {Q : Int32 → db_St → Prop} : ∀ (n : Nat) (X : db_St) (x1 : Int32) (x2 : Int32) (H : Heap) (locs : List Loc) (ls : Array Slot), wp_X11_ring_9 Q n X x1 x2 → db_HW E (db_Aw E s.heap.size) s X H locs → lv_has ls 3 [(0, .ref (db_ad E 90)), (1, .int x1), (2, .int x2)] → W p l e rm_X11_ring s m args below meth c H locs 0 0 (MQ below (va_Qi Q (db_Po E) (db_Aw E s.heap.size)) args s 0 0 (db_Aw E s.heap.size)) (F0 m 9 ls []) := by
  have hx := S.1
  have hb := S.2.1
  have hiX11 : ∀ w ∈ wsX110, w ∈ wsX11_ring := fun w_ h_ => List.mem_cons_of_mem _ (List.mem_append_right _ h_)
  intro n
  induction n with
  | zero =>
    intro X x1 x2 H locs ls h hw hl
    exact False.elim h
  | succ n_ ih =>
    intro X x1 x2 H locs ls h hw hl
    unfold wp_X11_ring_9 at h
    refine lv_iload_n hx hb dX11_ring_9 rfl (lv_at hl 2 rfl) ?_
    refine lv_aload_n hx hb dX11_ring_10 rfl (lv_at hl 0 rfl) ?_
    refine db_geti S hw (Nat.le_of_ble_eq_true rfl) db_s90 (C := RX11) (T := TX11) (N := 19) rfl hiX11 14 (by decide) rfl (List.mem_of_getElem? (i := 1) rfl) dX11_ring_11 ?_
    refine lv_icmp_ge (tgt := 54) hx hb dX11_ring_14 (by decide) (fun c9 => ?_) (fun c9 => ?_)
    · have h := h.1 c9
      refine lv_iload_n hx hb dX11_ring_54 rfl (lv_at hl 1 rfl) ?_
      exact db_iret S hr hlocks hw h dX11_ring_55
    · have h := h.2 c9
      refine lv_iload_n hx hb dX11_ring_17 rfl (lv_at hl 1 rfl) ?_
      refine lv_if_lt (tgt := 34) hx hb dX11_ring_18 (by decide) (fun c8 => ?_) (fun c8 => ?_)
      · have h := h.1 c8
        refine lv_aload_n hx hb dX11_ring_34 rfl (lv_at hl 0 rfl) ?_
        refine db_getr S hw (Nat.le_of_ble_eq_true rfl) db_s90 (C := RX11) (T := TX11) (N := 19) rfl hiX11 13 (by decide) (r := 99) rfl (List.mem_of_getElem? (i := 2) rfl) dX11_ring_35 ?_
        refine lv_iload_n hx hb dX11_ring_38 rfl (lv_at hl 2 rfl) ?_
        obtain ⟨g1, h⟩ := h
        refine db_iald S hw (Nat.le_of_ble_eq_true rfl) db_s99 g1 dX11_ring_39 ?_
        refine db_callSi S hw (As := [.int (X.1 99 (x2).toNatClampNeg)]) (ct_X11_bits  h) gX11_ring_X11_bits rfl ⟨rfl, rfl, Nat.le_of_ble_eq_true rfl, Nat.le_of_ble_eq_true rfl⟩ 1 rfl (by decide +kernel) hl.1 rfl (Nat.le_of_ble_eq_true rfl) dX11_ring_40 ⟨Nat.zero_le _, Nat.zero_le _⟩ (fun r2 X2 H locs h hw => ?_)
        refine lv_goto (tgt := 47) hx hb dX11_ring_43 (by decide) ?_
        refine lv_istore_n (lv' := [(1, .int r2), (0, .ref (db_ad E 90)), (2, .int x2)]) hx hb dX11_ring_47 rfl hl (by decide) rfl (fun ls hl => ?_)
        refine lv_iinc (v := (x2 + (1 : Int32))) (lv' := [(2, .int (x2 + (1 : Int32))), (1, .int r2), (0, .ref (db_ad E 90))]) hx hb dX11_ring_48 hl (k := 2) rfl (congrArg (fun z_ => x2 + z_) (show Int32.ofInt (1) = (1 : Int32) by decide)) (by decide) rfl (fun ls hl => ?_)
        refine lv_goto (tgt := 9) hx hb dX11_ring_51 (by decide) ?_
        exact ih _ _ _ _ _ _ h hw (lv_sub hl [2, 1, 0] rfl)
      · have h := h.2 c8
        refine lv_aload_n hx hb dX11_ring_21 rfl (lv_at hl 0 rfl) ?_
        refine db_getr S hw (Nat.le_of_ble_eq_true rfl) db_s90 (C := RX11) (T := TX11) (N := 19) rfl hiX11 13 (by decide) (r := 99) rfl (List.mem_of_getElem? (i := 2) rfl) dX11_ring_22 ?_
        refine lv_iload_n hx hb dX11_ring_25 rfl (lv_at hl 2 rfl) ?_
        obtain ⟨g3, h⟩ := h
        refine db_iald S hw (Nat.le_of_ble_eq_true rfl) db_s99 g3 dX11_ring_26 ?_
        refine db_callSi S hw (As := [.int (X.1 99 (x2).toNatClampNeg)]) (ct_X11_bits  h) gX11_ring_X11_bits rfl ⟨rfl, rfl, Nat.le_of_ble_eq_true rfl, Nat.le_of_ble_eq_true rfl⟩ 1 rfl (by decide +kernel) hl.1 rfl (Nat.le_of_ble_eq_true rfl) dX11_ring_27 ⟨Nat.zero_le _, Nat.zero_le _⟩ (fun r4 X4 H locs h hw => ?_)
        refine lv_iload_n hx hb dX11_ring_30 rfl (lv_at hl 1 rfl) ?_
        refine lv_icmp_ge (tgt := 46) hx hb dX11_ring_31 (by decide) (fun c7 => ?_) (fun c7 => ?_)
        · have h := h.1 c7
          refine lv_iload_n hx hb dX11_ring_46 rfl (lv_at hl 1 rfl) ?_
          refine lv_istore_n (lv' := [(1, .int x1), (0, .ref (db_ad E 90)), (2, .int x2)]) hx hb dX11_ring_47 rfl hl (by decide) rfl (fun ls hl => ?_)
          refine lv_iinc (v := (x2 + (1 : Int32))) (lv' := [(2, .int (x2 + (1 : Int32))), (1, .int x1), (0, .ref (db_ad E 90))]) hx hb dX11_ring_48 hl (k := 2) rfl (congrArg (fun z_ => x2 + z_) (show Int32.ofInt (1) = (1 : Int32) by decide)) (by decide) rfl (fun ls hl => ?_)
          refine lv_goto (tgt := 9) hx hb dX11_ring_51 (by decide) ?_
          exact ih _ _ _ _ _ _ h hw (lv_sub hl [2, 1, 0] rfl)
        · have h := h.2 c7
          refine lv_aload_n hx hb dX11_ring_34 rfl (lv_at hl 0 rfl) ?_
          refine db_getr S hw (Nat.le_of_ble_eq_true rfl) db_s90 (C := RX11) (T := TX11) (N := 19) rfl hiX11 13 (by decide) (r := 99) rfl (List.mem_of_getElem? (i := 2) rfl) dX11_ring_35 ?_
          refine lv_iload_n hx hb dX11_ring_38 rfl (lv_at hl 2 rfl) ?_
          obtain ⟨g5, h⟩ := h
          refine db_iald S hw (Nat.le_of_ble_eq_true rfl) db_s99 g5 dX11_ring_39 ?_
          refine db_callSi S hw (As := [.int (X4.1 99 (x2).toNatClampNeg)]) (ct_X11_bits  h) gX11_ring_X11_bits rfl ⟨rfl, rfl, Nat.le_of_ble_eq_true rfl, Nat.le_of_ble_eq_true rfl⟩ 1 rfl (by decide +kernel) hl.1 rfl (Nat.le_of_ble_eq_true rfl) dX11_ring_40 ⟨Nat.zero_le _, Nat.zero_le _⟩ (fun r6 X6 H locs h hw => ?_)
          refine lv_goto (tgt := 47) hx hb dX11_ring_43 (by decide) ?_
          refine lv_istore_n (lv' := [(1, .int r6), (0, .ref (db_ad E 90)), (2, .int x2)]) hx hb dX11_ring_47 rfl hl (by decide) rfl (fun ls hl => ?_)
          refine lv_iinc (v := (x2 + (1 : Int32))) (lv' := [(2, .int (x2 + (1 : Int32))), (1, .int r6), (0, .ref (db_ad E 90))]) hx hb dX11_ring_48 hl (k := 2) rfl (congrArg (fun z_ => x2 + z_) (show Int32.ofInt (1) = (1 : Int32) by decide)) (by decide) rfl (fun ls hl => ?_)
          refine lv_goto (tgt := 9) hx hb dX11_ring_51 (by decide) ?_
          exact ih _ _ _ _ _ _ h hw (lv_sub hl [2, 1, 0] rfl)
def wp_X11_ring  (X : db_St)  (Q : Int32 → db_St → Prop) : Prop := wp_X11_findRings X (fun X1 => (∃ f_, wp_X11_ring_9 Q f_ X1 (-9 : Int32) (0 : Int32)))
set_option maxHeartbeats 4000000 in
set_option maxRecDepth 100000 in
theorem ct_X11_ring {l : Launch} {E : db_E}  {X : db_St}  {Q : Int32 → db_St → Prop} (h : wp_X11_ring  X  Q) : db_MI l E yX11_ring wsX11_ring rm_X11_ring X [.ref (db_ad E 90)] Q := by
  intro sz
  unfold wp_X11_ring at h
  refine Met.ofW (cc := cX11_ring) (maxL := 3) (ret := (some .int)) (by decide) rfl ?_
  intro p e s m args below meth c s₁ B hml hv
  obtain ⟨rfl, hsz, hU⟩ := hv
  subst hsz
  have S : CallFix p m c cX11_ring 3 s ([.ref (db_ad E 90)] : List Value).toArray wsX11_ring RX11 := ⟨B.exec, B.bytes, hml, findClass_of_methodNamed B.named, atoms_spec (ws := wsX11_ring) B.pre⟩
  have hx := S.1
  have hb := S.2.1
  have hr := B.returns
  have hlocks := B.notSynchronized
  have hw := db_start hU
  have hiX11 : ∀ w ∈ wsX110, w ∈ wsX11_ring := fun w_ h_ => List.mem_cons_of_mem _ (List.mem_append_right _ h_)
  have hl := lv_entry ([.ref (db_ad E 90)]) (n := 3) (Nat.le_of_ble_eq_true rfl)
  rw [lg_entry_eq]
  generalize (lg_sl ([.ref (db_ad E 90)]) ++ List.replicate (3 - (lg_sl ([.ref (db_ad E 90)])).length) Slot.unset).toArray = ls at hl ⊢
  have hl : lv_has ls 3 [(0, .ref (db_ad E 90))] := hl
  refine lv_aload_n hx hb dX11_ring_0 rfl (lv_at hl 0 rfl) ?_
  refine db_callVv S hw (Nat.le_of_ble_eq_true rfl) db_s90 (C := RX11) (T := TX11) (N := 19) (As := []) rfl (ct_X11_findRings  h) gX11_ring_X11_findRings rfl ⟨rfl, rfl, Nat.le_of_ble_eq_true rfl, Nat.le_of_ble_eq_true rfl⟩ 0 rfl (by decide +kernel) hl.1 rfl (Nat.le_of_ble_eq_true rfl) dX11_ring_1 ⟨Nat.zero_le _, Nat.zero_le _⟩ (fun X1 H locs h hw => ?_)
  refine lv_bipush (v := (-9 : Int32)) hx hb dX11_ring_4 (by decide) ?_
  refine lv_istore_n (lv' := [(1, .int (-9 : Int32)), (0, .ref (db_ad E 90))]) hx hb dX11_ring_6 rfl hl (by decide) rfl (fun ls hl => ?_)
  refine lv_iconst (v := (0 : Int32)) hx hb dX11_ring_7 (by decide) ?_
  refine lv_istore_n (lv' := [(2, .int (0 : Int32)), (1, .int (-9 : Int32)), (0, .ref (db_ad E 90))]) hx hb dX11_ring_8 rfl hl (by decide) rfl (fun ls hl => ?_)
  obtain ⟨f_, h⟩ := h
  exact tw_X11_ring_9 S hr hlocks   f_ _ _ _ _ _ _ h hw (lv_sub hl [2, 1, 0] rfl)
-- DaysOnBreadModel.isStopped(I)Z
abbrev rm_X11_isStopped : Room := { frames := 0, cells := 0, slots := 0, locals := 0 }
def wp_X11_isStopped_2 (Q : Int32 → db_St → Prop) : Nat → db_St → Int32 → Int32 → Prop
  | 0, _, _, _ => False
  | n_ + 1, X, x1, x2 => (((X.1 90 14) ≤ x2 → Q (1 : Int32) X) ∧ (¬ ((X.1 90 14) ≤ x2) → (vp_in x2 4096 ∧ ((((X.1 99 (x2).toNatClampNeg) &&& x1) = 0 → Q (0 : Int32) X) ∧ (¬ ((X.1 99 (x2).toNatClampNeg) &&& x1) = 0 → wp_X11_isStopped_2 Q n_ X x1 (x2 + (1 : Int32)))))))
set_option maxHeartbeats 4000000 in
set_option maxRecDepth 100000 in
theorem tw_X11_isStopped_2 {p : Program} {l : Launch} {e : Env} {s : State} {m : MethodId} {args : Array Value} {below : List Frame} {meth : Method} {c : Code} {E : db_E} (S : CallFix p m c cX11_isStopped 3 s args wsX11_isStopped RX11) (hr : meth.sig.returnType = (some .boolean)) (hlocks : meth.locks = false)  {Q : Int32 → db_St → Prop} : ∀ (n : Nat) (X : db_St) (x1 : Int32) (x2 : Int32) (H : Heap) (locs : List Loc) (ls : Array Slot), wp_X11_isStopped_2 Q n X x1 x2 → db_HW E (db_Aw E s.heap.size) s X H locs → lv_has ls 3 [(0, .ref (db_ad E 90)), (1, .int x1), (2, .int x2)] → W p l e rm_X11_isStopped s m args below meth c H locs 0 0 (MQ below (va_Qi Q (db_Po E) (db_Aw E s.heap.size)) args s 0 0 (db_Aw E s.heap.size)) (F0 m 2 ls []) := by
  have hx := S.1
  have hb := S.2.1
  have hiX11 : ∀ w ∈ wsX110, w ∈ wsX11_isStopped := fun w_ h_ => List.mem_cons_of_mem _ (List.mem_append_right _ h_)
  intro n
  induction n with
  | zero =>
    intro X x1 x2 H locs ls h hw hl
    exact False.elim h
  | succ n_ ih =>
    intro X x1 x2 H locs ls h hw hl
    unfold wp_X11_isStopped_2 at h
    refine lv_iload_n hx hb dX11_isStopped_2 rfl (lv_at hl 2 rfl) ?_
    refine lv_aload_n hx hb dX11_isStopped_3 rfl (lv_at hl 0 rfl) ?_
    refine db_geti S hw (Nat.le_of_ble_eq_true rfl) db_s90 (C := RX11) (T := TX11) (N := 19) rfl hiX11 14 (by decide) rfl (List.mem_of_getElem? (i := 1) rfl) dX11_isStopped_4 ?_
    refine lv_icmp_ge (tgt := 29) hx hb dX11_isStopped_7 (by decide) (fun c3 => ?_) (fun c3 => ?_)
    · have h := h.1 c3
      refine lv_iconst (v := (1 : Int32)) hx hb dX11_isStopped_29 (by decide) ?_
      exact db_zret S hr hlocks rfl hw h dX11_isStopped_30
    · have h := h.2 c3
      refine lv_aload_n hx hb dX11_isStopped_10 rfl (lv_at hl 0 rfl) ?_
      refine db_getr S hw (Nat.le_of_ble_eq_true rfl) db_s90 (C := RX11) (T := TX11) (N := 19) rfl hiX11 13 (by decide) (r := 99) rfl (List.mem_of_getElem? (i := 2) rfl) dX11_isStopped_11 ?_
      refine lv_iload_n hx hb dX11_isStopped_14 rfl (lv_at hl 2 rfl) ?_
      obtain ⟨g1, h⟩ := h
      refine db_iald S hw (Nat.le_of_ble_eq_true rfl) db_s99 g1 dX11_isStopped_15 ?_
      refine lv_iload_n hx hb dX11_isStopped_16 rfl (lv_at hl 1 rfl) ?_
      refine lv_iand hx hb dX11_isStopped_17 ?_
      refine lv_if_ne (tgt := 23) hx hb dX11_isStopped_18 (by decide) (fun c2 => ?_) (fun c2 => ?_)
      · have h := h.2 c2
        refine lv_iinc (v := (x2 + (1 : Int32))) (lv' := [(2, .int (x2 + (1 : Int32))), (0, .ref (db_ad E 90)), (1, .int x1)]) hx hb dX11_isStopped_23 hl (k := 2) rfl (congrArg (fun z_ => x2 + z_) (show Int32.ofInt (1) = (1 : Int32) by decide)) (by decide) rfl (fun ls hl => ?_)
        refine lv_goto (tgt := 2) hx hb dX11_isStopped_26 (by decide) ?_
        exact ih _ _ _ _ _ _ h hw (lv_sub hl [1, 2, 0] rfl)
      · have h := h.1 c2
        refine lv_iconst (v := (0 : Int32)) hx hb dX11_isStopped_21 (by decide) ?_
        exact db_zret S hr hlocks rfl hw h dX11_isStopped_22
def wp_X11_isStopped  (X : db_St) (x1 : Int32) (Q : Int32 → db_St → Prop) : Prop := (∃ f_, wp_X11_isStopped_2 Q f_ X x1 (0 : Int32))
set_option maxHeartbeats 4000000 in
set_option maxRecDepth 100000 in
theorem ct_X11_isStopped {l : Launch} {E : db_E}  {X : db_St} {x1 : Int32} {Q : Int32 → db_St → Prop} (h : wp_X11_isStopped  X x1 Q) : db_MI l E yX11_isStopped wsX11_isStopped rm_X11_isStopped X [.ref (db_ad E 90), .int x1] Q := by
  intro sz
  unfold wp_X11_isStopped at h
  refine Met.ofW (cc := cX11_isStopped) (maxL := 3) (ret := (some .boolean)) (by decide) rfl ?_
  intro p e s m args below meth c s₁ B hml hv
  obtain ⟨rfl, hsz, hU⟩ := hv
  subst hsz
  have S : CallFix p m c cX11_isStopped 3 s ([.ref (db_ad E 90), .int x1] : List Value).toArray wsX11_isStopped RX11 := ⟨B.exec, B.bytes, hml, findClass_of_methodNamed B.named, atoms_spec (ws := wsX11_isStopped) B.pre⟩
  have hx := S.1
  have hb := S.2.1
  have hr := B.returns
  have hlocks := B.notSynchronized
  have hw := db_start hU
  have hiX11 : ∀ w ∈ wsX110, w ∈ wsX11_isStopped := fun w_ h_ => List.mem_cons_of_mem _ (List.mem_append_right _ h_)
  have hl := lv_entry ([.ref (db_ad E 90), .int x1]) (n := 3) (Nat.le_of_ble_eq_true rfl)
  rw [lg_entry_eq]
  generalize (lg_sl ([.ref (db_ad E 90), .int x1]) ++ List.replicate (3 - (lg_sl ([.ref (db_ad E 90), .int x1])).length) Slot.unset).toArray = ls at hl ⊢
  have hl : lv_has ls 3 [(0, .ref (db_ad E 90)), (1, .int x1)] := hl
  refine lv_iconst (v := (0 : Int32)) hx hb dX11_isStopped_0 (by decide) ?_
  refine lv_istore_n (lv' := [(2, .int (0 : Int32)), (0, .ref (db_ad E 90)), (1, .int x1)]) hx hb dX11_isStopped_1 rfl hl (by decide) rfl (fun ls hl => ?_)
  obtain ⟨f_, h⟩ := h
  exact tw_X11_isStopped_2 S hr hlocks   f_ _ _ _ _ _ _ h hw (lv_sub hl [1, 2, 0] rfl)
-- DaysOnBreadModel.stops()I
abbrev rm_X11_stops : Room := { frames := 12, cells := 0, slots := 0, locals := 349 }
def wp_X11_stops_19 (Q : Int32 → db_St → Prop) : Nat → db_St → Int32 → Int32 → Prop
  | 0, _, _, _ => False
  | n_ + 1, X, x1, x2 => ((((1 : Int32) <<< ((X.1 92 ((307 : Int32)).toNatClampNeg) &&& 31)) ≤ x2 → Q x1 X) ∧ (¬ (((1 : Int32) <<< ((X.1 92 ((307 : Int32)).toNatClampNeg) &&& 31)) ≤ x2) → wp_X11_bits X x2 (fun r1 X1 => wp_X11_bits X1 x1 (fun r2 X2 => ((r2 ≤ r1 → wp_X11_stops_19 Q n_ X2 x1 (x2 + (1 : Int32))) ∧ (¬ (r2 ≤ r1) → wp_X11_isStopped X2 x2 (fun r3 X3 => ((r3 = 0 → wp_X11_stops_19 Q n_ X3 x1 (x2 + (1 : Int32))) ∧ (¬ (r3 = 0) → wp_X11_stops_19 Q n_ X3 x2 (x2 + (1 : Int32)))))))))))
set_option maxHeartbeats 4000000 in
set_option maxRecDepth 100000 in
theorem tw_X11_stops_19 {p : Program} {l : Launch} {e : Env} {s : State} {m : MethodId} {args : Array Value} {below : List Frame} {meth : Method} {c : Code} {E : db_E} (S : CallFix p m c cX11_stops 3 s args wsX11_stops RX11) (hr : meth.sig.returnType = (some .int)) (hlocks : meth.locks = false)  {Q : Int32 → db_St → Prop} : ∀ (n : Nat) (X : db_St) (x1 : Int32) (x2 : Int32) (H : Heap) (locs : List Loc) (ls : Array Slot), wp_X11_stops_19 Q n X x1 x2 → db_HW E (db_Aw E s.heap.size) s X H locs → lv_has ls 3 [(0, .ref (db_ad E 90)), (1, .int x1), (2, .int x2)] → W p l e rm_X11_stops s m args below meth c H locs 0 0 (MQ below (va_Qi Q (db_Po E) (db_Aw E s.heap.size)) args s 0 0 (db_Aw E s.heap.size)) (F0 m 19 ls []) := by
  have hx := S.1
  have hb := S.2.1
  have hiX11 : ∀ w ∈ wsX110, w ∈ wsX11_stops := fun w_ h_ => List.mem_cons_of_mem _ (List.mem_append_right _ h_)
  intro n
  induction n with
  | zero =>
    intro X x1 x2 H locs ls h hw hl
    exact False.elim h
  | succ n_ ih =>
    intro X x1 x2 H locs ls h hw hl
    unfold wp_X11_stops_19 at h
    refine lv_iload_n hx hb dX11_stops_19 rfl (lv_at hl 2 rfl) ?_
    refine lv_iconst (v := (1 : Int32)) hx hb dX11_stops_20 (by decide) ?_
    refine lv_aload_n hx hb dX11_stops_21 rfl (lv_at hl 0 rfl) ?_
    refine db_getr S hw (Nat.le_of_ble_eq_true rfl) db_s90 (C := RX11) (T := TX11) (N := 19) rfl hiX11 1 (by decide) (r := 92) rfl (List.mem_of_getElem? (i := 1) rfl) dX11_stops_22 ?_
    refine lv_sipush (v := (307 : Int32)) hx hb dX11_stops_25 (by decide) ?_
    refine db_iald S hw (Nat.le_of_ble_eq_true rfl) db_s92 (show ¬ ((307 : Int32) < 0 ∨ 310 ≤ ((307 : Int32) : Int32).toNatClampNeg) by decide) dX11_stops_28 ?_
    refine lv_ishl hx hb dX11_stops_29 ?_
    refine lv_icmp_ge (tgt := 60) hx hb dX11_stops_30 (by decide) (fun c6 => ?_) (fun c6 => ?_)
    · have h := h.1 c6
      refine lv_iload_n hx hb dX11_stops_60 rfl (lv_at hl 1 rfl) ?_
      exact db_iret S hr hlocks hw h dX11_stops_61
    · have h := h.2 c6
      refine lv_iload_n hx hb dX11_stops_33 rfl (lv_at hl 2 rfl) ?_
      refine db_callSi S hw (As := [.int x2]) (ct_X11_bits  h) gX11_stops_X11_bits rfl ⟨rfl, rfl, Nat.le_of_ble_eq_true rfl, Nat.le_of_ble_eq_true rfl⟩ 1 rfl (by decide +kernel) hl.1 rfl (Nat.le_of_ble_eq_true rfl) dX11_stops_34 ⟨Nat.zero_le _, Nat.zero_le _⟩ (fun r1 X1 H locs h hw => ?_)
      refine lv_iload_n hx hb dX11_stops_37 rfl (lv_at hl 1 rfl) ?_
      refine db_callSi S hw (As := [.int x1]) (ct_X11_bits  h) gX11_stops_X11_bits rfl ⟨rfl, rfl, Nat.le_of_ble_eq_true rfl, Nat.le_of_ble_eq_true rfl⟩ 1 rfl (by decide +kernel) hl.1 rfl (Nat.le_of_ble_eq_true rfl) dX11_stops_38 ⟨Nat.zero_le _, Nat.zero_le _⟩ (fun r2 X2 H locs h hw => ?_)
      refine lv_icmp_ge (tgt := 54) hx hb dX11_stops_41 (by decide) (fun c5 => ?_) (fun c5 => ?_)
      · have h := h.1 c5
        refine lv_iinc (v := (x2 + (1 : Int32))) (lv' := [(2, .int (x2 + (1 : Int32))), (0, .ref (db_ad E 90)), (1, .int x1)]) hx hb dX11_stops_54 hl (k := 2) rfl (congrArg (fun z_ => x2 + z_) (show Int32.ofInt (1) = (1 : Int32) by decide)) (by decide) rfl (fun ls hl => ?_)
        refine lv_goto (tgt := 19) hx hb dX11_stops_57 (by decide) ?_
        exact ih _ _ _ _ _ _ h hw (lv_sub hl [1, 2, 0] rfl)
      · have h := h.2 c5
        refine lv_aload_n hx hb dX11_stops_44 rfl (lv_at hl 0 rfl) ?_
        refine lv_iload_n hx hb dX11_stops_45 rfl (lv_at hl 2 rfl) ?_
        refine db_callVi S hw (Nat.le_of_ble_eq_true rfl) db_s90 (C := RX11) (T := TX11) (N := 19) (As := [.int x2]) rfl (ct_X11_isStopped  h) gX11_stops_X11_isStopped rfl ⟨rfl, rfl, Nat.le_of_ble_eq_true rfl, Nat.le_of_ble_eq_true rfl⟩ 1 rfl (by decide +kernel) hl.1 rfl (Nat.le_of_ble_eq_true rfl) dX11_stops_46 ⟨Nat.zero_le _, Nat.zero_le _⟩ (fun r3 X3 H locs h hw => ?_)
        refine lv_if_eq (tgt := 54) hx hb dX11_stops_49 (by decide) (fun c4 => ?_) (fun c4 => ?_)
        · have h := h.1 c4
          refine lv_iinc (v := (x2 + (1 : Int32))) (lv' := [(2, .int (x2 + (1 : Int32))), (0, .ref (db_ad E 90)), (1, .int x1)]) hx hb dX11_stops_54 hl (k := 2) rfl (congrArg (fun z_ => x2 + z_) (show Int32.ofInt (1) = (1 : Int32) by decide)) (by decide) rfl (fun ls hl => ?_)
          refine lv_goto (tgt := 19) hx hb dX11_stops_57 (by decide) ?_
          exact ih _ _ _ _ _ _ h hw (lv_sub hl [1, 2, 0] rfl)
        · have h := h.2 c4
          refine lv_iload_n hx hb dX11_stops_52 rfl (lv_at hl 2 rfl) ?_
          refine lv_istore_n (lv' := [(1, .int x2), (0, .ref (db_ad E 90)), (2, .int x2)]) hx hb dX11_stops_53 rfl hl (by decide) rfl (fun ls hl => ?_)
          refine lv_iinc (v := (x2 + (1 : Int32))) (lv' := [(2, .int (x2 + (1 : Int32))), (1, .int x2), (0, .ref (db_ad E 90))]) hx hb dX11_stops_54 hl (k := 2) rfl (congrArg (fun z_ => x2 + z_) (show Int32.ofInt (1) = (1 : Int32) by decide)) (by decide) rfl (fun ls hl => ?_)
          refine lv_goto (tgt := 19) hx hb dX11_stops_57 (by decide) ?_
          exact ih _ _ _ _ _ _ h hw (lv_sub hl [2, 1, 0] rfl)
def wp_X11_stops  (X : db_St)  (Q : Int32 → db_St → Prop) : Prop := wp_X11_findRings X (fun X1 => (∀ z2, z2 = (((1 : Int32) <<< ((X1.1 92 ((307 : Int32)).toNatClampNeg) &&& 31)) - (1 : Int32)) → (∃ f_, wp_X11_stops_19 Q f_ X1 z2 (0 : Int32))))
set_option maxHeartbeats 4000000 in
set_option maxRecDepth 100000 in
theorem ct_X11_stops {l : Launch} {E : db_E}  {X : db_St}  {Q : Int32 → db_St → Prop} (h : wp_X11_stops  X  Q) : db_MI l E yX11_stops wsX11_stops rm_X11_stops X [.ref (db_ad E 90)] Q := by
  intro sz
  unfold wp_X11_stops at h
  refine Met.ofW (cc := cX11_stops) (maxL := 3) (ret := (some .int)) (by decide) rfl ?_
  intro p e s m args below meth c s₁ B hml hv
  obtain ⟨rfl, hsz, hU⟩ := hv
  subst hsz
  have S : CallFix p m c cX11_stops 3 s ([.ref (db_ad E 90)] : List Value).toArray wsX11_stops RX11 := ⟨B.exec, B.bytes, hml, findClass_of_methodNamed B.named, atoms_spec (ws := wsX11_stops) B.pre⟩
  have hx := S.1
  have hb := S.2.1
  have hr := B.returns
  have hlocks := B.notSynchronized
  have hw := db_start hU
  have hiX11 : ∀ w ∈ wsX110, w ∈ wsX11_stops := fun w_ h_ => List.mem_cons_of_mem _ (List.mem_append_right _ h_)
  have hl := lv_entry ([.ref (db_ad E 90)]) (n := 3) (Nat.le_of_ble_eq_true rfl)
  rw [lg_entry_eq]
  generalize (lg_sl ([.ref (db_ad E 90)]) ++ List.replicate (3 - (lg_sl ([.ref (db_ad E 90)])).length) Slot.unset).toArray = ls at hl ⊢
  have hl : lv_has ls 3 [(0, .ref (db_ad E 90))] := hl
  refine lv_aload_n hx hb dX11_stops_0 rfl (lv_at hl 0 rfl) ?_
  refine db_callVv S hw (Nat.le_of_ble_eq_true rfl) db_s90 (C := RX11) (T := TX11) (N := 19) (As := []) rfl (ct_X11_findRings  h) gX11_stops_X11_findRings rfl ⟨rfl, rfl, Nat.le_of_ble_eq_true rfl, Nat.le_of_ble_eq_true rfl⟩ 0 rfl (by decide +kernel) hl.1 rfl (Nat.le_of_ble_eq_true rfl) dX11_stops_1 ⟨Nat.zero_le _, Nat.zero_le _⟩ (fun X1 H locs h hw => ?_)
  refine lv_iconst (v := (1 : Int32)) hx hb dX11_stops_4 (by decide) ?_
  refine lv_aload_n hx hb dX11_stops_5 rfl (lv_at hl 0 rfl) ?_
  refine db_getr S hw (Nat.le_of_ble_eq_true rfl) db_s90 (C := RX11) (T := TX11) (N := 19) rfl hiX11 1 (by decide) (r := 92) rfl (List.mem_of_getElem? (i := 1) rfl) dX11_stops_6 ?_
  refine lv_sipush (v := (307 : Int32)) hx hb dX11_stops_9 (by decide) ?_
  refine db_iald S hw (Nat.le_of_ble_eq_true rfl) db_s92 (show ¬ ((307 : Int32) < 0 ∨ 310 ≤ ((307 : Int32) : Int32).toNatClampNeg) by decide) dX11_stops_12 ?_
  refine lv_ishl hx hb dX11_stops_13 ?_
  refine lv_iconst (v := (1 : Int32)) hx hb dX11_stops_14 (by decide) ?_
  refine lv_isub hx hb dX11_stops_15 ?_
  refine lv_topi (fun z2 e2 => ?_)
  have h := h z2 e2
  refine lv_istore_n (lv' := [(1, .int z2), (0, .ref (db_ad E 90))]) hx hb dX11_stops_16 rfl hl (by decide) rfl (fun ls hl => ?_)
  refine lv_iconst (v := (0 : Int32)) hx hb dX11_stops_17 (by decide) ?_
  refine lv_istore_n (lv' := [(2, .int (0 : Int32)), (1, .int z2), (0, .ref (db_ad E 90))]) hx hb dX11_stops_18 rfl hl (by decide) rfl (fun ls hl => ?_)
  obtain ⟨f_, h⟩ := h
  exact tw_X11_stops_19 S hr hlocks   f_ _ _ _ _ _ _ h hw (lv_sub hl [2, 1, 0] rfl)
-- DaysOnBreadModel.put(I)I
abbrev rm_X11_put : Room := { frames := 1, cells := 0, slots := 0, locals := 22 }
def wp_X11_put  (X : db_St) (x1 : Int32) (Q : Int32 → db_St → Prop) : Prop := wp_X11_within X x1 (-128 : Int32) (127 : Int32) (fun r1 X1 => ((r1 = 0 → (((X1.1 90 17) = (100 : Int32) → (((-6 : Int32) = 0 → (vp_in (X1.1 90 17) 100 ∧ (∀ X13, X13 = (db_si X1 100 ((X1.1 90 17)).toNatClampNeg x1) → (∀ X14, X14 = (db_si X13 90 17 ((X13.1 90 17) + (1 : Int32))) → Q (X14.1 90 17) X14)))) ∧ (¬ ((-6 : Int32) = 0) → wp_X11_refuse X1 (-6 : Int32) (fun r15 X15 => Q r15 X15)))) ∧ (¬ (X1.1 90 17) = (100 : Int32) → ((r1 = 0 → (vp_in (X1.1 90 17) 100 ∧ (∀ X8, X8 = (db_si X1 100 ((X1.1 90 17)).toNatClampNeg x1) → (∀ X9, X9 = (db_si X8 90 17 ((X8.1 90 17) + (1 : Int32))) → Q (X9.1 90 17) X9)))) ∧ (¬ (r1 = 0) → wp_X11_refuse X1 r1 (fun r10 X10 => Q r10 X10)))))) ∧ (¬ r1 = 0 → ((r1 = 0 → (vp_in (X1.1 90 17) 100 ∧ (∀ X3, X3 = (db_si X1 100 ((X1.1 90 17)).toNatClampNeg x1) → (∀ X4, X4 = (db_si X3 90 17 ((X3.1 90 17) + (1 : Int32))) → Q (X4.1 90 17) X4)))) ∧ (¬ (r1 = 0) → wp_X11_refuse X1 r1 (fun r5 X5 => Q r5 X5))))))
set_option maxHeartbeats 4000000 in
set_option maxRecDepth 100000 in
theorem ct_X11_put {l : Launch} {E : db_E}  {X : db_St} {x1 : Int32} {Q : Int32 → db_St → Prop} (h : wp_X11_put  X x1 Q) : db_MI l E yX11_put wsX11_put rm_X11_put X [.ref (db_ad E 90), .int x1] Q := by
  intro sz
  unfold wp_X11_put at h
  refine Met.ofW (cc := cX11_put) (maxL := 3) (ret := (some .int)) (by decide) rfl ?_
  intro p e s m args below meth c s₁ B hml hv
  obtain ⟨rfl, hsz, hU⟩ := hv
  subst hsz
  have S : CallFix p m c cX11_put 3 s ([.ref (db_ad E 90), .int x1] : List Value).toArray wsX11_put RX11 := ⟨B.exec, B.bytes, hml, findClass_of_methodNamed B.named, atoms_spec (ws := wsX11_put) B.pre⟩
  have hx := S.1
  have hb := S.2.1
  have hr := B.returns
  have hlocks := B.notSynchronized
  have hw := db_start hU
  have hiX11 : ∀ w ∈ wsX110, w ∈ wsX11_put := fun w_ h_ => List.mem_cons_of_mem _ (List.mem_append_right _ h_)
  have hl := lv_entry ([.ref (db_ad E 90), .int x1]) (n := 3) (Nat.le_of_ble_eq_true rfl)
  rw [lg_entry_eq]
  generalize (lg_sl ([.ref (db_ad E 90), .int x1]) ++ List.replicate (3 - (lg_sl ([.ref (db_ad E 90), .int x1])).length) Slot.unset).toArray = ls at hl ⊢
  have hl : lv_has ls 3 [(0, .ref (db_ad E 90)), (1, .int x1)] := hl
  refine lv_iload_n hx hb dX11_put_0 rfl (lv_at hl 1 rfl) ?_
  refine lv_bipush (v := (-128 : Int32)) hx hb dX11_put_1 (by decide) ?_
  refine lv_bipush (v := (127 : Int32)) hx hb dX11_put_3 (by decide) ?_
  refine db_callSi S hw (As := [.int x1, .int (-128 : Int32), .int (127 : Int32)]) (ct_X11_within  h) gX11_put_X11_within rfl ⟨rfl, rfl, Nat.le_of_ble_eq_true rfl, Nat.le_of_ble_eq_true rfl⟩ 3 rfl (by decide +kernel) hl.1 rfl (Nat.le_of_ble_eq_true rfl) dX11_put_5 ⟨Nat.zero_le _, Nat.zero_le _⟩ (fun r1 X1 H locs h hw => ?_)
  refine lv_istore_n (lv' := [(2, .int r1), (0, .ref (db_ad E 90)), (1, .int x1)]) hx hb dX11_put_8 rfl hl (by decide) rfl (fun ls hl => ?_)
  refine lv_iload_n hx hb dX11_put_9 rfl (lv_at hl 0 rfl) ?_
  refine lv_if_ne (tgt := 25) hx hb dX11_put_10 (by decide) (fun c18 => ?_) (fun c18 => ?_)
  · have h := h.2 c18
    refine lv_iload_n hx hb dX11_put_25 rfl (lv_at hl 0 rfl) ?_
    refine lv_if_eq (tgt := 35) hx hb dX11_put_26 (by decide) (fun c6 => ?_) (fun c6 => ?_)
    · have h := h.1 c6
      refine lv_aload_n hx hb dX11_put_35 rfl (lv_at hl 1 rfl) ?_
      refine db_getr S hw (Nat.le_of_ble_eq_true rfl) db_s90 (C := RX11) (T := TX11) (N := 19) rfl hiX11 15 (by decide) (r := 100) rfl (List.mem_of_getElem? (i := 2) rfl) dX11_put_36 ?_
      refine lv_aload_n hx hb dX11_put_39 rfl (lv_at hl 1 rfl) ?_
      refine db_geti S hw (Nat.le_of_ble_eq_true rfl) db_s90 (C := RX11) (T := TX11) (N := 19) rfl hiX11 17 (by decide) rfl (List.mem_of_getElem? (i := 1) rfl) dX11_put_40 ?_
      refine lv_iload_n hx hb dX11_put_43 rfl (lv_at hl 2 rfl) ?_
      obtain ⟨g2, h⟩ := h
      refine db_iast S hw (Nat.le_of_ble_eq_true rfl) db_s100 g2 dX11_put_44 (fun H locs hw => ?_)
      obtain ⟨X3, e3, hw⟩ : ∃ Z_, Z_ = (db_si X1 100 ((X1.1 90 17)).toNatClampNeg x1) ∧ db_HW E (db_Aw E s.heap.size) s Z_ H locs := ⟨_, rfl, hw⟩
      have h := h X3 e3
      refine lv_aload_n hx hb dX11_put_45 rfl (lv_at hl 1 rfl) ?_
      refine lv_dup hx hb dX11_put_46 rfl ?_
      refine db_geti S hw (Nat.le_of_ble_eq_true rfl) db_s90 (C := RX11) (T := TX11) (N := 19) rfl hiX11 17 (by decide) rfl (List.mem_of_getElem? (i := 1) rfl) dX11_put_47 ?_
      refine lv_iconst (v := (1 : Int32)) hx hb dX11_put_50 (by decide) ?_
      refine lv_iadd hx hb dX11_put_51 ?_
      refine db_puti S hw (Nat.le_of_ble_eq_true rfl) db_s90 (C := RX11) (T := TX11) (N := 19) rfl hiX11 tyX11_ok nmX11 17 (by decide) rfl (List.mem_of_getElem? (i := 1) rfl) rfl ⟨rfl, rfl⟩ dX11_put_52 (fun H locs hw => ?_)
      obtain ⟨X4, e4, hw⟩ : ∃ Z_, Z_ = (db_si X3 90 17 ((X3.1 90 17) + (1 : Int32))) ∧ db_HW E (db_Aw E s.heap.size) s Z_ H locs := ⟨_, rfl, hw⟩
      have h := h X4 e4
      refine lv_aload_n hx hb dX11_put_55 rfl (lv_at hl 1 rfl) ?_
      refine db_geti S hw (Nat.le_of_ble_eq_true rfl) db_s90 (C := RX11) (T := TX11) (N := 19) rfl hiX11 17 (by decide) rfl (List.mem_of_getElem? (i := 1) rfl) dX11_put_56 ?_
      exact db_iret S hr hlocks hw h dX11_put_59
    · have h := h.2 c6
      refine lv_aload_n hx hb dX11_put_29 rfl (lv_at hl 1 rfl) ?_
      refine lv_iload_n hx hb dX11_put_30 rfl (lv_at hl 0 rfl) ?_
      refine db_callVi S hw (Nat.le_of_ble_eq_true rfl) db_s90 (C := RX11) (T := TX11) (N := 19) (As := [.int r1]) rfl (ct_X11_refuse  h) gX11_put_X11_refuse rfl ⟨rfl, rfl, Nat.le_of_ble_eq_true rfl, Nat.le_of_ble_eq_true rfl⟩ 1 rfl (by decide +kernel) hl.1 rfl (Nat.le_of_ble_eq_true rfl) dX11_put_31 ⟨Nat.zero_le _, Nat.zero_le _⟩ (fun r5 X5 H locs h hw => ?_)
      exact db_iret S hr hlocks hw h dX11_put_34
  · have h := h.1 c18
    refine lv_aload_n hx hb dX11_put_13 rfl (lv_at hl 1 rfl) ?_
    refine db_geti S hw (Nat.le_of_ble_eq_true rfl) db_s90 (C := RX11) (T := TX11) (N := 19) rfl hiX11 17 (by decide) rfl (List.mem_of_getElem? (i := 1) rfl) dX11_put_14 ?_
    refine lv_bipush (v := (100 : Int32)) hx hb dX11_put_17 (by decide) ?_
    refine lv_icmp_ne (tgt := 25) hx hb dX11_put_19 (by decide) (fun c17 => ?_) (fun c17 => ?_)
    · have h := h.2 c17
      refine lv_iload_n hx hb dX11_put_25 rfl (lv_at hl 0 rfl) ?_
      refine lv_if_eq (tgt := 35) hx hb dX11_put_26 (by decide) (fun c11 => ?_) (fun c11 => ?_)
      · have h := h.1 c11
        refine lv_aload_n hx hb dX11_put_35 rfl (lv_at hl 1 rfl) ?_
        refine db_getr S hw (Nat.le_of_ble_eq_true rfl) db_s90 (C := RX11) (T := TX11) (N := 19) rfl hiX11 15 (by decide) (r := 100) rfl (List.mem_of_getElem? (i := 2) rfl) dX11_put_36 ?_
        refine lv_aload_n hx hb dX11_put_39 rfl (lv_at hl 1 rfl) ?_
        refine db_geti S hw (Nat.le_of_ble_eq_true rfl) db_s90 (C := RX11) (T := TX11) (N := 19) rfl hiX11 17 (by decide) rfl (List.mem_of_getElem? (i := 1) rfl) dX11_put_40 ?_
        refine lv_iload_n hx hb dX11_put_43 rfl (lv_at hl 2 rfl) ?_
        obtain ⟨g7, h⟩ := h
        refine db_iast S hw (Nat.le_of_ble_eq_true rfl) db_s100 g7 dX11_put_44 (fun H locs hw => ?_)
        obtain ⟨X8, e8, hw⟩ : ∃ Z_, Z_ = (db_si X1 100 ((X1.1 90 17)).toNatClampNeg x1) ∧ db_HW E (db_Aw E s.heap.size) s Z_ H locs := ⟨_, rfl, hw⟩
        have h := h X8 e8
        refine lv_aload_n hx hb dX11_put_45 rfl (lv_at hl 1 rfl) ?_
        refine lv_dup hx hb dX11_put_46 rfl ?_
        refine db_geti S hw (Nat.le_of_ble_eq_true rfl) db_s90 (C := RX11) (T := TX11) (N := 19) rfl hiX11 17 (by decide) rfl (List.mem_of_getElem? (i := 1) rfl) dX11_put_47 ?_
        refine lv_iconst (v := (1 : Int32)) hx hb dX11_put_50 (by decide) ?_
        refine lv_iadd hx hb dX11_put_51 ?_
        refine db_puti S hw (Nat.le_of_ble_eq_true rfl) db_s90 (C := RX11) (T := TX11) (N := 19) rfl hiX11 tyX11_ok nmX11 17 (by decide) rfl (List.mem_of_getElem? (i := 1) rfl) rfl ⟨rfl, rfl⟩ dX11_put_52 (fun H locs hw => ?_)
        obtain ⟨X9, e9, hw⟩ : ∃ Z_, Z_ = (db_si X8 90 17 ((X8.1 90 17) + (1 : Int32))) ∧ db_HW E (db_Aw E s.heap.size) s Z_ H locs := ⟨_, rfl, hw⟩
        have h := h X9 e9
        refine lv_aload_n hx hb dX11_put_55 rfl (lv_at hl 1 rfl) ?_
        refine db_geti S hw (Nat.le_of_ble_eq_true rfl) db_s90 (C := RX11) (T := TX11) (N := 19) rfl hiX11 17 (by decide) rfl (List.mem_of_getElem? (i := 1) rfl) dX11_put_56 ?_
        exact db_iret S hr hlocks hw h dX11_put_59
      · have h := h.2 c11
        refine lv_aload_n hx hb dX11_put_29 rfl (lv_at hl 1 rfl) ?_
        refine lv_iload_n hx hb dX11_put_30 rfl (lv_at hl 0 rfl) ?_
        refine db_callVi S hw (Nat.le_of_ble_eq_true rfl) db_s90 (C := RX11) (T := TX11) (N := 19) (As := [.int r1]) rfl (ct_X11_refuse  h) gX11_put_X11_refuse rfl ⟨rfl, rfl, Nat.le_of_ble_eq_true rfl, Nat.le_of_ble_eq_true rfl⟩ 1 rfl (by decide +kernel) hl.1 rfl (Nat.le_of_ble_eq_true rfl) dX11_put_31 ⟨Nat.zero_le _, Nat.zero_le _⟩ (fun r10 X10 H locs h hw => ?_)
        exact db_iret S hr hlocks hw h dX11_put_34
    · have h := h.1 c17
      refine lv_bipush (v := (-6 : Int32)) hx hb dX11_put_22 (by decide) ?_
      refine lv_istore_n (lv' := [(2, .int (-6 : Int32)), (0, .ref (db_ad E 90)), (1, .int x1)]) hx hb dX11_put_24 rfl hl (by decide) rfl (fun ls hl => ?_)
      refine lv_iload_n hx hb dX11_put_25 rfl (lv_at hl 0 rfl) ?_
      refine lv_if_eq (tgt := 35) hx hb dX11_put_26 (by decide) (fun c16 => ?_) (fun c16 => ?_)
      · have h := h.1 c16
        refine lv_aload_n hx hb dX11_put_35 rfl (lv_at hl 1 rfl) ?_
        refine db_getr S hw (Nat.le_of_ble_eq_true rfl) db_s90 (C := RX11) (T := TX11) (N := 19) rfl hiX11 15 (by decide) (r := 100) rfl (List.mem_of_getElem? (i := 2) rfl) dX11_put_36 ?_
        refine lv_aload_n hx hb dX11_put_39 rfl (lv_at hl 1 rfl) ?_
        refine db_geti S hw (Nat.le_of_ble_eq_true rfl) db_s90 (C := RX11) (T := TX11) (N := 19) rfl hiX11 17 (by decide) rfl (List.mem_of_getElem? (i := 1) rfl) dX11_put_40 ?_
        refine lv_iload_n hx hb dX11_put_43 rfl (lv_at hl 2 rfl) ?_
        obtain ⟨g12, h⟩ := h
        refine db_iast S hw (Nat.le_of_ble_eq_true rfl) db_s100 g12 dX11_put_44 (fun H locs hw => ?_)
        obtain ⟨X13, e13, hw⟩ : ∃ Z_, Z_ = (db_si X1 100 ((X1.1 90 17)).toNatClampNeg x1) ∧ db_HW E (db_Aw E s.heap.size) s Z_ H locs := ⟨_, rfl, hw⟩
        have h := h X13 e13
        refine lv_aload_n hx hb dX11_put_45 rfl (lv_at hl 1 rfl) ?_
        refine lv_dup hx hb dX11_put_46 rfl ?_
        refine db_geti S hw (Nat.le_of_ble_eq_true rfl) db_s90 (C := RX11) (T := TX11) (N := 19) rfl hiX11 17 (by decide) rfl (List.mem_of_getElem? (i := 1) rfl) dX11_put_47 ?_
        refine lv_iconst (v := (1 : Int32)) hx hb dX11_put_50 (by decide) ?_
        refine lv_iadd hx hb dX11_put_51 ?_
        refine db_puti S hw (Nat.le_of_ble_eq_true rfl) db_s90 (C := RX11) (T := TX11) (N := 19) rfl hiX11 tyX11_ok nmX11 17 (by decide) rfl (List.mem_of_getElem? (i := 1) rfl) rfl ⟨rfl, rfl⟩ dX11_put_52 (fun H locs hw => ?_)
        obtain ⟨X14, e14, hw⟩ : ∃ Z_, Z_ = (db_si X13 90 17 ((X13.1 90 17) + (1 : Int32))) ∧ db_HW E (db_Aw E s.heap.size) s Z_ H locs := ⟨_, rfl, hw⟩
        have h := h X14 e14
        refine lv_aload_n hx hb dX11_put_55 rfl (lv_at hl 1 rfl) ?_
        refine db_geti S hw (Nat.le_of_ble_eq_true rfl) db_s90 (C := RX11) (T := TX11) (N := 19) rfl hiX11 17 (by decide) rfl (List.mem_of_getElem? (i := 1) rfl) dX11_put_56 ?_
        exact db_iret S hr hlocks hw h dX11_put_59
      · have h := h.2 c16
        refine lv_aload_n hx hb dX11_put_29 rfl (lv_at hl 1 rfl) ?_
        refine lv_iload_n hx hb dX11_put_30 rfl (lv_at hl 0 rfl) ?_
        refine db_callVi S hw (Nat.le_of_ble_eq_true rfl) db_s90 (C := RX11) (T := TX11) (N := 19) (As := [.int (-6 : Int32)]) rfl (ct_X11_refuse  h) gX11_put_X11_refuse rfl ⟨rfl, rfl, Nat.le_of_ble_eq_true rfl, Nat.le_of_ble_eq_true rfl⟩ 1 rfl (by decide +kernel) hl.1 rfl (Nat.le_of_ble_eq_true rfl) dX11_put_31 ⟨Nat.zero_le _, Nat.zero_le _⟩ (fun r15 X15 H locs h hw => ?_)
        exact db_iret S hr hlocks hw h dX11_put_34
-- DaysOnBreadModel.wrongAt()I
abbrev rm_X11_wrongAt : Room := { frames := 2, cells := 0, slots := 0, locals := 43 }
def wp_X11_wrongAt_176 (k44 : db_St → Int32 → Int32 → Int32 → Prop) (Q : Int32 → db_St → Prop) (X : db_St) (x1 : Int32) (x2 : Int32) (x3 : Int32) (x4 : Int32) : Prop := ((x4 = (3 : Int32) → ((x2 = 0 → (vp_in x4 6 ∧ (vp_in x4 6 ∧ (∀ X11, X11 = (db_si X 101 (x4).toNatClampNeg ((X.1 101 (x4).toNatClampNeg) + (1 : Int32))) → (vp_in x4 6 ∧ (vp_in x4 6 ∧ (∀ X14, X14 = (db_si X11 98 (x4).toNatClampNeg ((X11.1 98 (x4).toNatClampNeg) - (1 : Int32))) → wp_X11_pay X14 x4 (0 : Int32) (fun r15 X15 => (∀ X16, X16 = (db_si X15 90 18 ((X14.1 90 18) + r15)) → k44 X16 x1 x2 (x3 + (1 : Int32))))))))))) ∧ (¬ (x2 = 0) → Q x3 X))) ∧ (¬ x4 = (3 : Int32) → (vp_in x4 6 ∧ (vp_in x4 6 ∧ (∀ X3, X3 = (db_si X 101 (x4).toNatClampNeg ((X.1 101 (x4).toNatClampNeg) + (1 : Int32))) → (vp_in x4 6 ∧ (vp_in x4 6 ∧ (∀ X6, X6 = (db_si X3 98 (x4).toNatClampNeg ((X3.1 98 (x4).toNatClampNeg) - (1 : Int32))) → wp_X11_pay X6 x4 (0 : Int32) (fun r7 X7 => (∀ X8, X8 = (db_si X7 90 18 ((X6.1 90 18) + r7)) → k44 X8 x1 x2 (x3 + (1 : Int32))))))))))))
set_option maxHeartbeats 4000000 in
set_option maxRecDepth 100000 in
theorem tw_X11_wrongAt_176 {p : Program} {l : Launch} {e : Env} {s : State} {m : MethodId} {args : Array Value} {below : List Frame} {meth : Method} {c : Code} {E : db_E} (S : CallFix p m c cX11_wrongAt 6 s args wsX11_wrongAt RX11) (hr : meth.sig.returnType = (some .int)) (hlocks : meth.locks = false)  {Q : Int32 → db_St → Prop} {k44 : db_St → Int32 → Int32 → Int32 → Prop} (hk44 : ∀ (X : db_St) (x1 : Int32) (x2 : Int32) (x3 : Int32) (H : Heap) (locs : List Loc) (ls : Array Slot), k44 X x1 x2 x3 → db_HW E (db_Aw E s.heap.size) s X H locs → lv_has ls 6 [(0, .ref (db_ad E 90)), (1, .int x1), (2, .int x2), (3, .int x3)] → W p l e rm_X11_wrongAt s m args below meth c H locs 0 0 (MQ below (va_Qi Q (db_Po E) (db_Aw E s.heap.size)) args s 0 0 (db_Aw E s.heap.size)) (F0 m 44 ls [])) : ∀ (X : db_St) (x1 : Int32) (x2 : Int32) (x3 : Int32) (x4 : Int32) (H : Heap) (locs : List Loc) (ls : Array Slot), wp_X11_wrongAt_176 k44 Q X x1 x2 x3 x4 → db_HW E (db_Aw E s.heap.size) s X H locs → lv_has ls 6 [(0, .ref (db_ad E 90)), (1, .int x1), (2, .int x2), (3, .int x3), (4, .int x4)] → W p l e rm_X11_wrongAt s m args below meth c H locs 0 0 (MQ below (va_Qi Q (db_Po E) (db_Aw E s.heap.size)) args s 0 0 (db_Aw E s.heap.size)) (F0 m 176 ls []) := by
  have hx := S.1
  have hb := S.2.1
  have hiX11 : ∀ w ∈ wsX110, w ∈ wsX11_wrongAt := fun w_ h_ => List.mem_cons_of_mem _ (List.mem_append_right _ h_)
  intro X x1 x2 x3 x4 H locs ls h hw hl
  unfold wp_X11_wrongAt_176 at h
  refine lv_iload hx hb dX11_wrongAt_176 (lv_at hl 4 rfl) ?_
  refine lv_iconst (v := (3 : Int32)) hx hb dX11_wrongAt_178 (by decide) ?_
  refine lv_icmp_ne (tgt := 188) hx hb dX11_wrongAt_179 (by decide) (fun c18 => ?_) (fun c18 => ?_)
  · have h := h.2 c18
    refine lv_aload_n hx hb dX11_wrongAt_188 rfl (lv_at hl 0 rfl) ?_
    refine db_getr S hw (Nat.le_of_ble_eq_true rfl) db_s90 (C := RX11) (T := TX11) (N := 19) rfl hiX11 16 (by decide) (r := 101) rfl (List.mem_of_getElem? (i := 2) rfl) dX11_wrongAt_189 ?_
    refine lv_iload hx hb dX11_wrongAt_192 (lv_at hl 4 rfl) ?_
    refine lv_dup2_11 hx hb dX11_wrongAt_194 rfl rfl ?_
    obtain ⟨g1, h⟩ := h
    refine db_iald S hw (Nat.le_of_ble_eq_true rfl) db_s101 g1 dX11_wrongAt_195 ?_
    refine lv_iconst (v := (1 : Int32)) hx hb dX11_wrongAt_196 (by decide) ?_
    refine lv_iadd hx hb dX11_wrongAt_197 ?_
    obtain ⟨g2, h⟩ := h
    refine db_iast S hw (Nat.le_of_ble_eq_true rfl) db_s101 g2 dX11_wrongAt_198 (fun H locs hw => ?_)
    obtain ⟨X3, e3, hw⟩ : ∃ Z_, Z_ = (db_si X 101 (x4).toNatClampNeg ((X.1 101 (x4).toNatClampNeg) + (1 : Int32))) ∧ db_HW E (db_Aw E s.heap.size) s Z_ H locs := ⟨_, rfl, hw⟩
    have h := h X3 e3
    refine lv_aload_n hx hb dX11_wrongAt_199 rfl (lv_at hl 0 rfl) ?_
    refine db_getr S hw (Nat.le_of_ble_eq_true rfl) db_s90 (C := RX11) (T := TX11) (N := 19) rfl hiX11 10 (by decide) (r := 98) rfl (List.mem_of_getElem? (i := 1) rfl) dX11_wrongAt_200 ?_
    refine lv_iload hx hb dX11_wrongAt_203 (lv_at hl 4 rfl) ?_
    refine lv_dup2_11 hx hb dX11_wrongAt_205 rfl rfl ?_
    obtain ⟨g4, h⟩ := h
    refine db_iald S hw (Nat.le_of_ble_eq_true rfl) db_s98 g4 dX11_wrongAt_206 ?_
    refine lv_iconst (v := (1 : Int32)) hx hb dX11_wrongAt_207 (by decide) ?_
    refine lv_isub hx hb dX11_wrongAt_208 ?_
    obtain ⟨g5, h⟩ := h
    refine db_iast S hw (Nat.le_of_ble_eq_true rfl) db_s98 g5 dX11_wrongAt_209 (fun H locs hw => ?_)
    obtain ⟨X6, e6, hw⟩ : ∃ Z_, Z_ = (db_si X3 98 (x4).toNatClampNeg ((X3.1 98 (x4).toNatClampNeg) - (1 : Int32))) ∧ db_HW E (db_Aw E s.heap.size) s Z_ H locs := ⟨_, rfl, hw⟩
    have h := h X6 e6
    refine lv_aload_n hx hb dX11_wrongAt_210 rfl (lv_at hl 0 rfl) ?_
    refine lv_dup hx hb dX11_wrongAt_211 rfl ?_
    refine db_geti S hw (Nat.le_of_ble_eq_true rfl) db_s90 (C := RX11) (T := TX11) (N := 19) rfl hiX11 18 (by decide) rfl (List.mem_of_getElem? (i := 3) rfl) dX11_wrongAt_212 ?_
    refine lv_aload_n hx hb dX11_wrongAt_215 rfl (lv_at hl 0 rfl) ?_
    refine lv_iload hx hb dX11_wrongAt_216 (lv_at hl 4 rfl) ?_
    refine lv_iconst (v := (0 : Int32)) hx hb dX11_wrongAt_218 (by decide) ?_
    refine db_callVi S hw (Nat.le_of_ble_eq_true rfl) db_s90 (C := RX11) (T := TX11) (N := 19) (As := [.int x4, .int (0 : Int32)]) rfl (ct_X11_pay  h) gX11_wrongAt_X11_pay rfl ⟨rfl, rfl, Nat.le_of_ble_eq_true rfl, Nat.le_of_ble_eq_true rfl⟩ 2 rfl (by decide +kernel) hl.1 rfl (Nat.le_of_ble_eq_true rfl) dX11_wrongAt_219 ⟨Nat.zero_le _, Nat.zero_le _⟩ (fun r7 X7 H locs h hw => ?_)
    refine lv_iadd hx hb dX11_wrongAt_222 ?_
    refine db_puti S hw (Nat.le_of_ble_eq_true rfl) db_s90 (C := RX11) (T := TX11) (N := 19) rfl hiX11 tyX11_ok nmX11 18 (by decide) rfl (List.mem_of_getElem? (i := 3) rfl) rfl ⟨rfl, rfl⟩ dX11_wrongAt_223 (fun H locs hw => ?_)
    obtain ⟨X8, e8, hw⟩ : ∃ Z_, Z_ = (db_si X7 90 18 ((X6.1 90 18) + r7)) ∧ db_HW E (db_Aw E s.heap.size) s Z_ H locs := ⟨_, rfl, hw⟩
    have h := h X8 e8
    refine lv_iinc (v := (x3 + (1 : Int32))) (lv' := [(3, .int (x3 + (1 : Int32))), (0, .ref (db_ad E 90)), (1, .int x1), (2, .int x2), (4, .int x4)]) hx hb dX11_wrongAt_226 hl (k := 3) rfl (congrArg (fun z_ => x3 + z_) (show Int32.ofInt (1) = (1 : Int32) by decide)) (by decide) rfl (fun ls hl => ?_)
    refine lv_goto (tgt := 44) hx hb dX11_wrongAt_229 (by decide) ?_
    exact hk44 _ _ _ _ _ _ _ h hw (lv_sub hl [1, 2, 3, 0] rfl)
  · have h := h.1 c18
    refine lv_iload_n hx hb dX11_wrongAt_182 rfl (lv_at hl 2 rfl) ?_
    refine lv_if_eq (tgt := 188) hx hb dX11_wrongAt_183 (by decide) (fun c17 => ?_) (fun c17 => ?_)
    · have h := h.1 c17
      refine lv_aload_n hx hb dX11_wrongAt_188 rfl (lv_at hl 0 rfl) ?_
      refine db_getr S hw (Nat.le_of_ble_eq_true rfl) db_s90 (C := RX11) (T := TX11) (N := 19) rfl hiX11 16 (by decide) (r := 101) rfl (List.mem_of_getElem? (i := 2) rfl) dX11_wrongAt_189 ?_
      refine lv_iload hx hb dX11_wrongAt_192 (lv_at hl 4 rfl) ?_
      refine lv_dup2_11 hx hb dX11_wrongAt_194 rfl rfl ?_
      obtain ⟨g9, h⟩ := h
      refine db_iald S hw (Nat.le_of_ble_eq_true rfl) db_s101 g9 dX11_wrongAt_195 ?_
      refine lv_iconst (v := (1 : Int32)) hx hb dX11_wrongAt_196 (by decide) ?_
      refine lv_iadd hx hb dX11_wrongAt_197 ?_
      obtain ⟨g10, h⟩ := h
      refine db_iast S hw (Nat.le_of_ble_eq_true rfl) db_s101 g10 dX11_wrongAt_198 (fun H locs hw => ?_)
      obtain ⟨X11, e11, hw⟩ : ∃ Z_, Z_ = (db_si X 101 (x4).toNatClampNeg ((X.1 101 (x4).toNatClampNeg) + (1 : Int32))) ∧ db_HW E (db_Aw E s.heap.size) s Z_ H locs := ⟨_, rfl, hw⟩
      have h := h X11 e11
      refine lv_aload_n hx hb dX11_wrongAt_199 rfl (lv_at hl 0 rfl) ?_
      refine db_getr S hw (Nat.le_of_ble_eq_true rfl) db_s90 (C := RX11) (T := TX11) (N := 19) rfl hiX11 10 (by decide) (r := 98) rfl (List.mem_of_getElem? (i := 1) rfl) dX11_wrongAt_200 ?_
      refine lv_iload hx hb dX11_wrongAt_203 (lv_at hl 4 rfl) ?_
      refine lv_dup2_11 hx hb dX11_wrongAt_205 rfl rfl ?_
      obtain ⟨g12, h⟩ := h
      refine db_iald S hw (Nat.le_of_ble_eq_true rfl) db_s98 g12 dX11_wrongAt_206 ?_
      refine lv_iconst (v := (1 : Int32)) hx hb dX11_wrongAt_207 (by decide) ?_
      refine lv_isub hx hb dX11_wrongAt_208 ?_
      obtain ⟨g13, h⟩ := h
      refine db_iast S hw (Nat.le_of_ble_eq_true rfl) db_s98 g13 dX11_wrongAt_209 (fun H locs hw => ?_)
      obtain ⟨X14, e14, hw⟩ : ∃ Z_, Z_ = (db_si X11 98 (x4).toNatClampNeg ((X11.1 98 (x4).toNatClampNeg) - (1 : Int32))) ∧ db_HW E (db_Aw E s.heap.size) s Z_ H locs := ⟨_, rfl, hw⟩
      have h := h X14 e14
      refine lv_aload_n hx hb dX11_wrongAt_210 rfl (lv_at hl 0 rfl) ?_
      refine lv_dup hx hb dX11_wrongAt_211 rfl ?_
      refine db_geti S hw (Nat.le_of_ble_eq_true rfl) db_s90 (C := RX11) (T := TX11) (N := 19) rfl hiX11 18 (by decide) rfl (List.mem_of_getElem? (i := 3) rfl) dX11_wrongAt_212 ?_
      refine lv_aload_n hx hb dX11_wrongAt_215 rfl (lv_at hl 0 rfl) ?_
      refine lv_iload hx hb dX11_wrongAt_216 (lv_at hl 4 rfl) ?_
      refine lv_iconst (v := (0 : Int32)) hx hb dX11_wrongAt_218 (by decide) ?_
      refine db_callVi S hw (Nat.le_of_ble_eq_true rfl) db_s90 (C := RX11) (T := TX11) (N := 19) (As := [.int x4, .int (0 : Int32)]) rfl (ct_X11_pay  h) gX11_wrongAt_X11_pay rfl ⟨rfl, rfl, Nat.le_of_ble_eq_true rfl, Nat.le_of_ble_eq_true rfl⟩ 2 rfl (by decide +kernel) hl.1 rfl (Nat.le_of_ble_eq_true rfl) dX11_wrongAt_219 ⟨Nat.zero_le _, Nat.zero_le _⟩ (fun r15 X15 H locs h hw => ?_)
      refine lv_iadd hx hb dX11_wrongAt_222 ?_
      refine db_puti S hw (Nat.le_of_ble_eq_true rfl) db_s90 (C := RX11) (T := TX11) (N := 19) rfl hiX11 tyX11_ok nmX11 18 (by decide) rfl (List.mem_of_getElem? (i := 3) rfl) rfl ⟨rfl, rfl⟩ dX11_wrongAt_223 (fun H locs hw => ?_)
      obtain ⟨X16, e16, hw⟩ : ∃ Z_, Z_ = (db_si X15 90 18 ((X14.1 90 18) + r15)) ∧ db_HW E (db_Aw E s.heap.size) s Z_ H locs := ⟨_, rfl, hw⟩
      have h := h X16 e16
      refine lv_iinc (v := (x3 + (1 : Int32))) (lv' := [(3, .int (x3 + (1 : Int32))), (0, .ref (db_ad E 90)), (1, .int x1), (2, .int x2), (4, .int x4)]) hx hb dX11_wrongAt_226 hl (k := 3) rfl (congrArg (fun z_ => x3 + z_) (show Int32.ofInt (1) = (1 : Int32) by decide)) (by decide) rfl (fun ls hl => ?_)
      refine lv_goto (tgt := 44) hx hb dX11_wrongAt_229 (by decide) ?_
      exact hk44 _ _ _ _ _ _ _ h hw (lv_sub hl [1, 2, 3, 0] rfl)
    · have h := h.2 c17
      refine lv_iload_n hx hb dX11_wrongAt_186 rfl (lv_at hl 3 rfl) ?_
      exact db_iret S hr hlocks hw h dX11_wrongAt_187
def wp_X11_wrongAt_97 (k44 : db_St → Int32 → Int32 → Int32 → Prop) (Q : Int32 → db_St → Prop) : Nat → db_St → Int32 → Int32 → Int32 → Int32 → Prop
  | 0, _, _, _, _, _ => False
  | n_ + 1, X, x1, x2, x3, x5 => (((6 : Int32) ≤ x5 → k44 X x1 x2 (x3 + (1 : Int32))) ∧ (¬ ((6 : Int32) ≤ x5) → (vp_in x5 6 ∧ (∀ X2, X2 = (db_si X 101 (x5).toNatClampNeg (0 : Int32)) → wp_X11_wrongAt_97 k44 Q n_ X2 x1 x2 x3 (x5 + (1 : Int32))))))
set_option maxHeartbeats 4000000 in
set_option maxRecDepth 100000 in
theorem tw_X11_wrongAt_97 {p : Program} {l : Launch} {e : Env} {s : State} {m : MethodId} {args : Array Value} {below : List Frame} {meth : Method} {c : Code} {E : db_E} (S : CallFix p m c cX11_wrongAt 6 s args wsX11_wrongAt RX11) (hr : meth.sig.returnType = (some .int)) (hlocks : meth.locks = false)  {Q : Int32 → db_St → Prop} {k44 : db_St → Int32 → Int32 → Int32 → Prop} (hk44 : ∀ (X : db_St) (x1 : Int32) (x2 : Int32) (x3 : Int32) (H : Heap) (locs : List Loc) (ls : Array Slot), k44 X x1 x2 x3 → db_HW E (db_Aw E s.heap.size) s X H locs → lv_has ls 6 [(0, .ref (db_ad E 90)), (1, .int x1), (2, .int x2), (3, .int x3)] → W p l e rm_X11_wrongAt s m args below meth c H locs 0 0 (MQ below (va_Qi Q (db_Po E) (db_Aw E s.heap.size)) args s 0 0 (db_Aw E s.heap.size)) (F0 m 44 ls [])) : ∀ (n : Nat) (X : db_St) (x1 : Int32) (x2 : Int32) (x3 : Int32) (x5 : Int32) (H : Heap) (locs : List Loc) (ls : Array Slot), wp_X11_wrongAt_97 k44 Q n X x1 x2 x3 x5 → db_HW E (db_Aw E s.heap.size) s X H locs → lv_has ls 6 [(0, .ref (db_ad E 90)), (1, .int x1), (2, .int x2), (3, .int x3), (5, .int x5)] → W p l e rm_X11_wrongAt s m args below meth c H locs 0 0 (MQ below (va_Qi Q (db_Po E) (db_Aw E s.heap.size)) args s 0 0 (db_Aw E s.heap.size)) (F0 m 97 ls []) := by
  have hx := S.1
  have hb := S.2.1
  have hiX11 : ∀ w ∈ wsX110, w ∈ wsX11_wrongAt := fun w_ h_ => List.mem_cons_of_mem _ (List.mem_append_right _ h_)
  intro n
  induction n with
  | zero =>
    intro X x1 x2 x3 x5 H locs ls h hw hl
    exact False.elim h
  | succ n_ ih =>
    intro X x1 x2 x3 x5 H locs ls h hw hl
    unfold wp_X11_wrongAt_97 at h
    refine lv_iload hx hb dX11_wrongAt_97 (lv_at hl 4 rfl) ?_
    refine lv_bipush (v := (6 : Int32)) hx hb dX11_wrongAt_99 (by decide) ?_
    refine lv_icmp_ge (tgt := 118) hx hb dX11_wrongAt_101 (by decide) (fun c3 => ?_) (fun c3 => ?_)
    · have h := h.1 c3
      refine lv_goto (tgt := 226) hx hb dX11_wrongAt_118 (by decide) ?_
      refine lv_iinc (v := (x3 + (1 : Int32))) (lv' := [(3, .int (x3 + (1 : Int32))), (0, .ref (db_ad E 90)), (1, .int x1), (2, .int x2), (5, .int x5)]) hx hb dX11_wrongAt_226 hl (k := 3) rfl (congrArg (fun z_ => x3 + z_) (show Int32.ofInt (1) = (1 : Int32) by decide)) (by decide) rfl (fun ls hl => ?_)
      refine lv_goto (tgt := 44) hx hb dX11_wrongAt_229 (by decide) ?_
      exact hk44 _ _ _ _ _ _ _ h hw (lv_sub hl [1, 2, 3, 0] rfl)
    · have h := h.2 c3
      refine lv_aload_n hx hb dX11_wrongAt_104 rfl (lv_at hl 0 rfl) ?_
      refine db_getr S hw (Nat.le_of_ble_eq_true rfl) db_s90 (C := RX11) (T := TX11) (N := 19) rfl hiX11 16 (by decide) (r := 101) rfl (List.mem_of_getElem? (i := 2) rfl) dX11_wrongAt_105 ?_
      refine lv_iload hx hb dX11_wrongAt_108 (lv_at hl 4 rfl) ?_
      refine lv_iconst (v := (0 : Int32)) hx hb dX11_wrongAt_110 (by decide) ?_
      obtain ⟨g1, h⟩ := h
      refine db_iast S hw (Nat.le_of_ble_eq_true rfl) db_s101 g1 dX11_wrongAt_111 (fun H locs hw => ?_)
      obtain ⟨X2, e2, hw⟩ : ∃ Z_, Z_ = (db_si X 101 (x5).toNatClampNeg (0 : Int32)) ∧ db_HW E (db_Aw E s.heap.size) s Z_ H locs := ⟨_, rfl, hw⟩
      have h := h X2 e2
      refine lv_iinc (v := (x5 + (1 : Int32))) (lv' := [(5, .int (x5 + (1 : Int32))), (0, .ref (db_ad E 90)), (1, .int x1), (2, .int x2), (3, .int x3)]) hx hb dX11_wrongAt_112 hl (k := 4) rfl (congrArg (fun z_ => x5 + z_) (show Int32.ofInt (1) = (1 : Int32) by decide)) (by decide) rfl (fun ls hl => ?_)
      refine lv_goto (tgt := 97) hx hb dX11_wrongAt_115 (by decide) ?_
      exact ih _ _ _ _ _ _ _ _ h hw (lv_sub hl [1, 2, 3, 4, 0] rfl)
def wp_X11_wrongAt_44 (Q : Int32 → db_St → Prop) : Nat → db_St → Int32 → Int32 → Int32 → Prop
  | 0, _, _, _, _ => False
  | n_ + 1, X, x1, x2, x3 => (((X.1 90 17) ≤ x3 → Q (-9 : Int32) X) ∧ (¬ ((X.1 90 17) ≤ x3) → (vp_in x3 100 ∧ (((X.1 100 (x3).toNatClampNeg) = (9 : Int32) → ((0 < (X.1 101 ((3 : Int32)).toNatClampNeg) → (∃ f_, wp_X11_wrongAt_97 (wp_X11_wrongAt_44 Q n_) Q f_ X (x1 + (1 : Int32)) (1 : Int32) x3 (0 : Int32))) ∧ (¬ (0 < (X.1 101 ((3 : Int32)).toNatClampNeg)) → (((X.1 101 ((5 : Int32)).toNatClampNeg) ≤ 0 → (∃ f_, wp_X11_wrongAt_97 (wp_X11_wrongAt_44 Q n_) Q f_ X (x1 + (1 : Int32)) (0 : Int32) x3 (0 : Int32))) ∧ (¬ ((X.1 101 ((5 : Int32)).toNatClampNeg) ≤ 0) → (∃ f_, wp_X11_wrongAt_97 (wp_X11_wrongAt_44 Q n_) Q f_ X (x1 + (1 : Int32)) (1 : Int32) x3 (0 : Int32))))))) ∧ (¬ (X.1 100 (x3).toNatClampNeg) = (9 : Int32) → wp_X11_isIn X (X.1 100 (x3).toNatClampNeg) (6 : Int32) (fun r2 X2 => ((r2 = 0 → Q x3 X2) ∧ (¬ (r2 = 0) → (vp_in (X.1 100 (x3).toNatClampNeg) 6 ∧ wp_X11_perDay X2 (X.1 100 (x3).toNatClampNeg) (fun r4 X4 => (((X2.1 101 ((X.1 100 (x3).toNatClampNeg)).toNatClampNeg) = r4 → Q x3 X4) ∧ (¬ ((X2.1 101 ((X.1 100 (x3).toNatClampNeg)).toNatClampNeg) = r4) → (vp_in (X.1 100 (x3).toNatClampNeg) 6 ∧ (((X4.1 98 ((X.1 100 (x3).toNatClampNeg)).toNatClampNeg) = 0 → Q x3 X4) ∧ (¬ ((X4.1 98 ((X.1 100 (x3).toNatClampNeg)).toNatClampNeg) = 0) → (((X.1 100 (x3).toNatClampNeg) = 0 → wp_X11_isFeast X4 x1 (fun r6 X6 => ((r6 = 0 → wp_X11_wrongAt_176 (wp_X11_wrongAt_44 Q n_) Q X6 x1 x2 x3 (X.1 100 (x3).toNatClampNeg)) ∧ (¬ r6 = 0 → Q x3 X6)))) ∧ (¬ ((X.1 100 (x3).toNatClampNeg) = 0) → (((X.1 100 (x3).toNatClampNeg) = (5 : Int32) → wp_X11_isFeast X4 x1 (fun r8 X8 => ((r8 = 0 → wp_X11_wrongAt_176 (wp_X11_wrongAt_44 Q n_) Q X8 x1 x2 x3 (X.1 100 (x3).toNatClampNeg)) ∧ (¬ r8 = 0 → Q x3 X8)))) ∧ (¬ (X.1 100 (x3).toNatClampNeg) = (5 : Int32) → wp_X11_wrongAt_176 (wp_X11_wrongAt_44 Q n_) Q X4 x1 x2 x3 (X.1 100 (x3).toNatClampNeg))))))))))))))))))))
set_option maxHeartbeats 4000000 in
set_option maxRecDepth 100000 in
theorem tw_X11_wrongAt_44 {p : Program} {l : Launch} {e : Env} {s : State} {m : MethodId} {args : Array Value} {below : List Frame} {meth : Method} {c : Code} {E : db_E} (S : CallFix p m c cX11_wrongAt 6 s args wsX11_wrongAt RX11) (hr : meth.sig.returnType = (some .int)) (hlocks : meth.locks = false)  {Q : Int32 → db_St → Prop} : ∀ (n : Nat) (X : db_St) (x1 : Int32) (x2 : Int32) (x3 : Int32) (H : Heap) (locs : List Loc) (ls : Array Slot), wp_X11_wrongAt_44 Q n X x1 x2 x3 → db_HW E (db_Aw E s.heap.size) s X H locs → lv_has ls 6 [(0, .ref (db_ad E 90)), (1, .int x1), (2, .int x2), (3, .int x3)] → W p l e rm_X11_wrongAt s m args below meth c H locs 0 0 (MQ below (va_Qi Q (db_Po E) (db_Aw E s.heap.size)) args s 0 0 (db_Aw E s.heap.size)) (F0 m 44 ls []) := by
  have hx := S.1
  have hb := S.2.1
  have hiX11 : ∀ w ∈ wsX110, w ∈ wsX11_wrongAt := fun w_ h_ => List.mem_cons_of_mem _ (List.mem_append_right _ h_)
  intro n
  induction n with
  | zero =>
    intro X x1 x2 x3 H locs ls h hw hl
    exact False.elim h
  | succ n_ ih =>
    intro X x1 x2 x3 H locs ls h hw hl
    unfold wp_X11_wrongAt_44 at h
    refine lv_iload_n hx hb dX11_wrongAt_44 rfl (lv_at hl 3 rfl) ?_
    refine lv_aload_n hx hb dX11_wrongAt_45 rfl (lv_at hl 0 rfl) ?_
    refine db_geti S hw (Nat.le_of_ble_eq_true rfl) db_s90 (C := RX11) (T := TX11) (N := 19) rfl hiX11 17 (by decide) rfl (List.mem_of_getElem? (i := 4) rfl) dX11_wrongAt_46 ?_
    refine lv_icmp_ge (tgt := 232) hx hb dX11_wrongAt_49 (by decide) (fun c18 => ?_) (fun c18 => ?_)
    · have h := h.1 c18
      refine lv_bipush (v := (-9 : Int32)) hx hb dX11_wrongAt_232 (by decide) ?_
      exact db_iret S hr hlocks hw h dX11_wrongAt_234
    · have h := h.2 c18
      refine lv_aload_n hx hb dX11_wrongAt_52 rfl (lv_at hl 0 rfl) ?_
      refine db_getr S hw (Nat.le_of_ble_eq_true rfl) db_s90 (C := RX11) (T := TX11) (N := 19) rfl hiX11 15 (by decide) (r := 100) rfl (List.mem_of_getElem? (i := 5) rfl) dX11_wrongAt_53 ?_
      refine lv_iload_n hx hb dX11_wrongAt_56 rfl (lv_at hl 3 rfl) ?_
      obtain ⟨g1, h⟩ := h
      refine db_iald S hw (Nat.le_of_ble_eq_true rfl) db_s100 g1 dX11_wrongAt_57 ?_
      refine lv_istore (lv' := [(4, .int (X.1 100 (x3).toNatClampNeg)), (0, .ref (db_ad E 90)), (1, .int x1), (2, .int x2), (3, .int x3)]) hx hb dX11_wrongAt_58 hl (by decide) rfl (fun ls hl => ?_)
      refine lv_iload hx hb dX11_wrongAt_60 (lv_at hl 0 rfl) ?_
      refine lv_bipush (v := (9 : Int32)) hx hb dX11_wrongAt_62 (by decide) ?_
      refine lv_icmp_ne (tgt := 121) hx hb dX11_wrongAt_64 (by decide) (fun c17 => ?_) (fun c17 => ?_)
      · have h := h.2 c17
        refine lv_iload hx hb dX11_wrongAt_121 (lv_at hl 0 rfl) ?_
        refine lv_bipush (v := (6 : Int32)) hx hb dX11_wrongAt_123 (by decide) ?_
        refine db_callSi S hw (As := [.int (X.1 100 (x3).toNatClampNeg), .int (6 : Int32)]) (ct_X11_isIn  h) gX11_wrongAt_X11_isIn rfl ⟨rfl, rfl, Nat.le_of_ble_eq_true rfl, Nat.le_of_ble_eq_true rfl⟩ 2 rfl (by decide +kernel) hl.1 rfl (Nat.le_of_ble_eq_true rfl) dX11_wrongAt_125 ⟨Nat.zero_le _, Nat.zero_le _⟩ (fun r2 X2 H locs h hw => ?_)
        refine lv_if_eq (tgt := 186) hx hb dX11_wrongAt_128 (by decide) (fun c14 => ?_) (fun c14 => ?_)
        · have h := h.1 c14
          refine lv_iload_n hx hb dX11_wrongAt_186 rfl (lv_at hl 4 rfl) ?_
          exact db_iret S hr hlocks hw h dX11_wrongAt_187
        · have h := h.2 c14
          refine lv_aload_n hx hb dX11_wrongAt_131 rfl (lv_at hl 1 rfl) ?_
          refine db_getr S hw (Nat.le_of_ble_eq_true rfl) db_s90 (C := RX11) (T := TX11) (N := 19) rfl hiX11 16 (by decide) (r := 101) rfl (List.mem_of_getElem? (i := 2) rfl) dX11_wrongAt_132 ?_
          refine lv_iload hx hb dX11_wrongAt_135 (lv_at hl 0 rfl) ?_
          obtain ⟨g3, h⟩ := h
          refine db_iald S hw (Nat.le_of_ble_eq_true rfl) db_s101 g3 dX11_wrongAt_137 ?_
          refine lv_aload_n hx hb dX11_wrongAt_138 rfl (lv_at hl 1 rfl) ?_
          refine lv_iload hx hb dX11_wrongAt_139 (lv_at hl 0 rfl) ?_
          refine db_callVi S hw (Nat.le_of_ble_eq_true rfl) db_s90 (C := RX11) (T := TX11) (N := 19) (As := [.int (X.1 100 (x3).toNatClampNeg)]) rfl (ct_X11_perDay  h) gX11_wrongAt_X11_perDay rfl ⟨rfl, rfl, Nat.le_of_ble_eq_true rfl, Nat.le_of_ble_eq_true rfl⟩ 1 rfl (by decide +kernel) hl.1 rfl (Nat.le_of_ble_eq_true rfl) dX11_wrongAt_141 ⟨Nat.zero_le _, Nat.zero_le _⟩ (fun r4 X4 H locs h hw => ?_)
          refine lv_icmp_eq (tgt := 186) hx hb dX11_wrongAt_144 (by decide) (fun c13 => ?_) (fun c13 => ?_)
          · have h := h.1 c13
            refine lv_iload_n hx hb dX11_wrongAt_186 rfl (lv_at hl 4 rfl) ?_
            exact db_iret S hr hlocks hw h dX11_wrongAt_187
          · have h := h.2 c13
            refine lv_aload_n hx hb dX11_wrongAt_147 rfl (lv_at hl 1 rfl) ?_
            refine db_getr S hw (Nat.le_of_ble_eq_true rfl) db_s90 (C := RX11) (T := TX11) (N := 19) rfl hiX11 10 (by decide) (r := 98) rfl (List.mem_of_getElem? (i := 1) rfl) dX11_wrongAt_148 ?_
            refine lv_iload hx hb dX11_wrongAt_151 (lv_at hl 0 rfl) ?_
            obtain ⟨g5, h⟩ := h
            refine db_iald S hw (Nat.le_of_ble_eq_true rfl) db_s98 g5 dX11_wrongAt_153 ?_
            refine lv_if_eq (tgt := 186) hx hb dX11_wrongAt_154 (by decide) (fun c12 => ?_) (fun c12 => ?_)
            · have h := h.1 c12
              refine lv_iload_n hx hb dX11_wrongAt_186 rfl (lv_at hl 4 rfl) ?_
              exact db_iret S hr hlocks hw h dX11_wrongAt_187
            · have h := h.2 c12
              refine lv_iload hx hb dX11_wrongAt_157 (lv_at hl 0 rfl) ?_
              refine lv_if_eq (tgt := 168) hx hb dX11_wrongAt_159 (by decide) (fun c11 => ?_) (fun c11 => ?_)
              · have h := h.1 c11
                refine lv_aload_n hx hb dX11_wrongAt_168 rfl (lv_at hl 1 rfl) ?_
                refine lv_iload_n hx hb dX11_wrongAt_169 rfl (lv_at hl 2 rfl) ?_
                refine db_callVi S hw (Nat.le_of_ble_eq_true rfl) db_s90 (C := RX11) (T := TX11) (N := 19) (As := [.int x1]) rfl (ct_X11_isFeast  h) gX11_wrongAt_X11_isFeast rfl ⟨rfl, rfl, Nat.le_of_ble_eq_true rfl, Nat.le_of_ble_eq_true rfl⟩ 1 rfl (by decide +kernel) hl.1 rfl (Nat.le_of_ble_eq_true rfl) dX11_wrongAt_170 ⟨Nat.zero_le _, Nat.zero_le _⟩ (fun r6 X6 H locs h hw => ?_)
                refine lv_if_ne (tgt := 186) hx hb dX11_wrongAt_173 (by decide) (fun c7 => ?_) (fun c7 => ?_)
                · have h := h.2 c7
                  refine lv_iload_n hx hb dX11_wrongAt_186 rfl (lv_at hl 4 rfl) ?_
                  exact db_iret S hr hlocks hw h dX11_wrongAt_187
                · have h := h.1 c7
                  exact tw_X11_wrongAt_176 S hr hlocks  ih _ _ _ _ _ _ _ _ h hw (lv_sub hl [1, 2, 3, 4, 0] rfl)
              · have h := h.2 c11
                refine lv_iload hx hb dX11_wrongAt_162 (lv_at hl 0 rfl) ?_
                refine lv_iconst (v := (5 : Int32)) hx hb dX11_wrongAt_164 (by decide) ?_
                refine lv_icmp_ne (tgt := 176) hx hb dX11_wrongAt_165 (by decide) (fun c10 => ?_) (fun c10 => ?_)
                · have h := h.2 c10
                  exact tw_X11_wrongAt_176 S hr hlocks  ih _ _ _ _ _ _ _ _ h hw (lv_sub hl [1, 2, 3, 4, 0] rfl)
                · have h := h.1 c10
                  refine lv_aload_n hx hb dX11_wrongAt_168 rfl (lv_at hl 1 rfl) ?_
                  refine lv_iload_n hx hb dX11_wrongAt_169 rfl (lv_at hl 2 rfl) ?_
                  refine db_callVi S hw (Nat.le_of_ble_eq_true rfl) db_s90 (C := RX11) (T := TX11) (N := 19) (As := [.int x1]) rfl (ct_X11_isFeast  h) gX11_wrongAt_X11_isFeast rfl ⟨rfl, rfl, Nat.le_of_ble_eq_true rfl, Nat.le_of_ble_eq_true rfl⟩ 1 rfl (by decide +kernel) hl.1 rfl (Nat.le_of_ble_eq_true rfl) dX11_wrongAt_170 ⟨Nat.zero_le _, Nat.zero_le _⟩ (fun r8 X8 H locs h hw => ?_)
                  refine lv_if_ne (tgt := 186) hx hb dX11_wrongAt_173 (by decide) (fun c9 => ?_) (fun c9 => ?_)
                  · have h := h.2 c9
                    refine lv_iload_n hx hb dX11_wrongAt_186 rfl (lv_at hl 4 rfl) ?_
                    exact db_iret S hr hlocks hw h dX11_wrongAt_187
                  · have h := h.1 c9
                    exact tw_X11_wrongAt_176 S hr hlocks  ih _ _ _ _ _ _ _ _ h hw (lv_sub hl [1, 2, 3, 4, 0] rfl)
      · have h := h.1 c17
        refine lv_aload_n hx hb dX11_wrongAt_67 rfl (lv_at hl 1 rfl) ?_
        refine db_getr S hw (Nat.le_of_ble_eq_true rfl) db_s90 (C := RX11) (T := TX11) (N := 19) rfl hiX11 16 (by decide) (r := 101) rfl (List.mem_of_getElem? (i := 2) rfl) dX11_wrongAt_68 ?_
        refine lv_iconst (v := (3 : Int32)) hx hb dX11_wrongAt_71 (by decide) ?_
        refine db_iald S hw (Nat.le_of_ble_eq_true rfl) db_s101 (show ¬ ((3 : Int32) < 0 ∨ 6 ≤ ((3 : Int32) : Int32).toNatClampNeg) by decide) dX11_wrongAt_72 ?_
        refine lv_if_gt (tgt := 85) hx hb dX11_wrongAt_73 (by decide) (fun c16 => ?_) (fun c16 => ?_)
        · have h := h.1 c16
          refine lv_iconst (v := (1 : Int32)) hx hb dX11_wrongAt_85 (by decide) ?_
          refine lv_goto (tgt := 90) hx hb dX11_wrongAt_86 (by decide) ?_
          refine lv_istore_n (lv' := [(2, .int (1 : Int32)), (4, .int (X.1 100 (x3).toNatClampNeg)), (0, .ref (db_ad E 90)), (1, .int x1), (3, .int x3)]) hx hb dX11_wrongAt_90 rfl hl (by decide) rfl (fun ls hl => ?_)
          refine lv_iinc (v := (x1 + (1 : Int32))) (lv' := [(1, .int (x1 + (1 : Int32))), (2, .int (1 : Int32)), (4, .int (X.1 100 (x3).toNatClampNeg)), (0, .ref (db_ad E 90)), (3, .int x3)]) hx hb dX11_wrongAt_91 hl (k := 3) rfl (congrArg (fun z_ => x1 + z_) (show Int32.ofInt (1) = (1 : Int32) by decide)) (by decide) rfl (fun ls hl => ?_)
          refine lv_iconst (v := (0 : Int32)) hx hb dX11_wrongAt_94 (by decide) ?_
          refine lv_istore (lv' := [(5, .int (0 : Int32)), (1, .int (x1 + (1 : Int32))), (2, .int (1 : Int32)), (4, .int (X.1 100 (x3).toNatClampNeg)), (0, .ref (db_ad E 90)), (3, .int x3)]) hx hb dX11_wrongAt_95 hl (by decide) rfl (fun ls hl => ?_)
          obtain ⟨f_, h⟩ := h
          exact tw_X11_wrongAt_97 S hr hlocks  ih f_ _ _ _ _ _ _ _ _ h hw (lv_sub hl [4, 1, 2, 5, 0] rfl)
        · have h := h.2 c16
          refine lv_aload_n hx hb dX11_wrongAt_76 rfl (lv_at hl 1 rfl) ?_
          refine db_getr S hw (Nat.le_of_ble_eq_true rfl) db_s90 (C := RX11) (T := TX11) (N := 19) rfl hiX11 16 (by decide) (r := 101) rfl (List.mem_of_getElem? (i := 2) rfl) dX11_wrongAt_77 ?_
          refine lv_iconst (v := (5 : Int32)) hx hb dX11_wrongAt_80 (by decide) ?_
          refine db_iald S hw (Nat.le_of_ble_eq_true rfl) db_s101 (show ¬ ((5 : Int32) < 0 ∨ 6 ≤ ((5 : Int32) : Int32).toNatClampNeg) by decide) dX11_wrongAt_81 ?_
          refine lv_if_le (tgt := 89) hx hb dX11_wrongAt_82 (by decide) (fun c15 => ?_) (fun c15 => ?_)
          · have h := h.1 c15
            refine lv_iconst (v := (0 : Int32)) hx hb dX11_wrongAt_89 (by decide) ?_
            refine lv_istore_n (lv' := [(2, .int (0 : Int32)), (4, .int (X.1 100 (x3).toNatClampNeg)), (0, .ref (db_ad E 90)), (1, .int x1), (3, .int x3)]) hx hb dX11_wrongAt_90 rfl hl (by decide) rfl (fun ls hl => ?_)
            refine lv_iinc (v := (x1 + (1 : Int32))) (lv' := [(1, .int (x1 + (1 : Int32))), (2, .int (0 : Int32)), (4, .int (X.1 100 (x3).toNatClampNeg)), (0, .ref (db_ad E 90)), (3, .int x3)]) hx hb dX11_wrongAt_91 hl (k := 3) rfl (congrArg (fun z_ => x1 + z_) (show Int32.ofInt (1) = (1 : Int32) by decide)) (by decide) rfl (fun ls hl => ?_)
            refine lv_iconst (v := (0 : Int32)) hx hb dX11_wrongAt_94 (by decide) ?_
            refine lv_istore (lv' := [(5, .int (0 : Int32)), (1, .int (x1 + (1 : Int32))), (2, .int (0 : Int32)), (4, .int (X.1 100 (x3).toNatClampNeg)), (0, .ref (db_ad E 90)), (3, .int x3)]) hx hb dX11_wrongAt_95 hl (by decide) rfl (fun ls hl => ?_)
            obtain ⟨f_, h⟩ := h
            exact tw_X11_wrongAt_97 S hr hlocks  ih f_ _ _ _ _ _ _ _ _ h hw (lv_sub hl [4, 1, 2, 5, 0] rfl)
          · have h := h.2 c15
            refine lv_iconst (v := (1 : Int32)) hx hb dX11_wrongAt_85 (by decide) ?_
            refine lv_goto (tgt := 90) hx hb dX11_wrongAt_86 (by decide) ?_
            refine lv_istore_n (lv' := [(2, .int (1 : Int32)), (4, .int (X.1 100 (x3).toNatClampNeg)), (0, .ref (db_ad E 90)), (1, .int x1), (3, .int x3)]) hx hb dX11_wrongAt_90 rfl hl (by decide) rfl (fun ls hl => ?_)
            refine lv_iinc (v := (x1 + (1 : Int32))) (lv' := [(1, .int (x1 + (1 : Int32))), (2, .int (1 : Int32)), (4, .int (X.1 100 (x3).toNatClampNeg)), (0, .ref (db_ad E 90)), (3, .int x3)]) hx hb dX11_wrongAt_91 hl (k := 3) rfl (congrArg (fun z_ => x1 + z_) (show Int32.ofInt (1) = (1 : Int32) by decide)) (by decide) rfl (fun ls hl => ?_)
            refine lv_iconst (v := (0 : Int32)) hx hb dX11_wrongAt_94 (by decide) ?_
            refine lv_istore (lv' := [(5, .int (0 : Int32)), (1, .int (x1 + (1 : Int32))), (2, .int (1 : Int32)), (4, .int (X.1 100 (x3).toNatClampNeg)), (0, .ref (db_ad E 90)), (3, .int x3)]) hx hb dX11_wrongAt_95 hl (by decide) rfl (fun ls hl => ?_)
            obtain ⟨f_, h⟩ := h
            exact tw_X11_wrongAt_97 S hr hlocks  ih f_ _ _ _ _ _ _ _ _ h hw (lv_sub hl [4, 1, 2, 5, 0] rfl)
def wp_X11_wrongAt_2 (Q : Int32 → db_St → Prop) : Nat → db_St → Int32 → Prop
  | 0, _, _ => False
  | n_ + 1, X, x1 => (((6 : Int32) ≤ x1 → (∀ X1, X1 = (db_si X 90 18 (0 : Int32)) → (∃ f_, wp_X11_wrongAt_44 Q f_ X1 (0 : Int32) (0 : Int32) (0 : Int32)))) ∧ (¬ ((6 : Int32) ≤ x1) → wp_X11_pay X x1 (3 : Int32) (fun r2 X2 => (vp_in x1 6 ∧ (∀ X4, X4 = (db_si X2 98 (x1).toNatClampNeg r2) → (vp_in x1 6 ∧ (∀ X6, X6 = (db_si X4 101 (x1).toNatClampNeg (0 : Int32)) → wp_X11_wrongAt_2 Q n_ X6 (x1 + (1 : Int32)))))))))
set_option maxHeartbeats 4000000 in
set_option maxRecDepth 100000 in
theorem tw_X11_wrongAt_2 {p : Program} {l : Launch} {e : Env} {s : State} {m : MethodId} {args : Array Value} {below : List Frame} {meth : Method} {c : Code} {E : db_E} (S : CallFix p m c cX11_wrongAt 6 s args wsX11_wrongAt RX11) (hr : meth.sig.returnType = (some .int)) (hlocks : meth.locks = false)  {Q : Int32 → db_St → Prop} : ∀ (n : Nat) (X : db_St) (x1 : Int32) (H : Heap) (locs : List Loc) (ls : Array Slot), wp_X11_wrongAt_2 Q n X x1 → db_HW E (db_Aw E s.heap.size) s X H locs → lv_has ls 6 [(0, .ref (db_ad E 90)), (1, .int x1)] → W p l e rm_X11_wrongAt s m args below meth c H locs 0 0 (MQ below (va_Qi Q (db_Po E) (db_Aw E s.heap.size)) args s 0 0 (db_Aw E s.heap.size)) (F0 m 2 ls []) := by
  have hx := S.1
  have hb := S.2.1
  have hiX11 : ∀ w ∈ wsX110, w ∈ wsX11_wrongAt := fun w_ h_ => List.mem_cons_of_mem _ (List.mem_append_right _ h_)
  intro n
  induction n with
  | zero =>
    intro X x1 H locs ls h hw hl
    exact False.elim h
  | succ n_ ih =>
    intro X x1 H locs ls h hw hl
    unfold wp_X11_wrongAt_2 at h
    refine lv_iload_n hx hb dX11_wrongAt_2 rfl (lv_at hl 1 rfl) ?_
    refine lv_bipush (v := (6 : Int32)) hx hb dX11_wrongAt_3 (by decide) ?_
    refine lv_icmp_ge (tgt := 33) hx hb dX11_wrongAt_5 (by decide) (fun c7 => ?_) (fun c7 => ?_)
    · have h := h.1 c7
      refine lv_aload_n hx hb dX11_wrongAt_33 rfl (lv_at hl 0 rfl) ?_
      refine lv_iconst (v := (0 : Int32)) hx hb dX11_wrongAt_34 (by decide) ?_
      refine db_puti S hw (Nat.le_of_ble_eq_true rfl) db_s90 (C := RX11) (T := TX11) (N := 19) rfl hiX11 tyX11_ok nmX11 18 (by decide) rfl (List.mem_of_getElem? (i := 3) rfl) rfl ⟨rfl, rfl⟩ dX11_wrongAt_35 (fun H locs hw => ?_)
      obtain ⟨X1, e1, hw⟩ : ∃ Z_, Z_ = (db_si X 90 18 (0 : Int32)) ∧ db_HW E (db_Aw E s.heap.size) s Z_ H locs := ⟨_, rfl, hw⟩
      have h := h X1 e1
      refine lv_iconst (v := (0 : Int32)) hx hb dX11_wrongAt_38 (by decide) ?_
      refine lv_istore_n (lv' := [(1, .int (0 : Int32)), (0, .ref (db_ad E 90))]) hx hb dX11_wrongAt_39 rfl hl (by decide) rfl (fun ls hl => ?_)
      refine lv_iconst (v := (0 : Int32)) hx hb dX11_wrongAt_40 (by decide) ?_
      refine lv_istore_n (lv' := [(2, .int (0 : Int32)), (1, .int (0 : Int32)), (0, .ref (db_ad E 90))]) hx hb dX11_wrongAt_41 rfl hl (by decide) rfl (fun ls hl => ?_)
      refine lv_iconst (v := (0 : Int32)) hx hb dX11_wrongAt_42 (by decide) ?_
      refine lv_istore_n (lv' := [(3, .int (0 : Int32)), (2, .int (0 : Int32)), (1, .int (0 : Int32)), (0, .ref (db_ad E 90))]) hx hb dX11_wrongAt_43 rfl hl (by decide) rfl (fun ls hl => ?_)
      obtain ⟨f_, h⟩ := h
      exact tw_X11_wrongAt_44 S hr hlocks   f_ _ _ _ _ _ _ _ h hw (lv_sub hl [3, 2, 1, 0] rfl)
    · have h := h.2 c7
      refine lv_aload_n hx hb dX11_wrongAt_8 rfl (lv_at hl 0 rfl) ?_
      refine db_getr S hw (Nat.le_of_ble_eq_true rfl) db_s90 (C := RX11) (T := TX11) (N := 19) rfl hiX11 10 (by decide) (r := 98) rfl (List.mem_of_getElem? (i := 1) rfl) dX11_wrongAt_9 ?_
      refine lv_iload_n hx hb dX11_wrongAt_12 rfl (lv_at hl 1 rfl) ?_
      refine lv_aload_n hx hb dX11_wrongAt_13 rfl (lv_at hl 0 rfl) ?_
      refine lv_iload_n hx hb dX11_wrongAt_14 rfl (lv_at hl 1 rfl) ?_
      refine lv_iconst (v := (3 : Int32)) hx hb dX11_wrongAt_15 (by decide) ?_
      refine db_callVi S hw (Nat.le_of_ble_eq_true rfl) db_s90 (C := RX11) (T := TX11) (N := 19) (As := [.int x1, .int (3 : Int32)]) rfl (ct_X11_pay  h) gX11_wrongAt_X11_pay rfl ⟨rfl, rfl, Nat.le_of_ble_eq_true rfl, Nat.le_of_ble_eq_true rfl⟩ 2 rfl (by decide +kernel) hl.1 rfl (Nat.le_of_ble_eq_true rfl) dX11_wrongAt_16 ⟨Nat.zero_le _, Nat.zero_le _⟩ (fun r2 X2 H locs h hw => ?_)
      obtain ⟨g3, h⟩ := h
      refine db_iast S hw (Nat.le_of_ble_eq_true rfl) db_s98 g3 dX11_wrongAt_19 (fun H locs hw => ?_)
      obtain ⟨X4, e4, hw⟩ : ∃ Z_, Z_ = (db_si X2 98 (x1).toNatClampNeg r2) ∧ db_HW E (db_Aw E s.heap.size) s Z_ H locs := ⟨_, rfl, hw⟩
      have h := h X4 e4
      refine lv_aload_n hx hb dX11_wrongAt_20 rfl (lv_at hl 0 rfl) ?_
      refine db_getr S hw (Nat.le_of_ble_eq_true rfl) db_s90 (C := RX11) (T := TX11) (N := 19) rfl hiX11 16 (by decide) (r := 101) rfl (List.mem_of_getElem? (i := 2) rfl) dX11_wrongAt_21 ?_
      refine lv_iload_n hx hb dX11_wrongAt_24 rfl (lv_at hl 1 rfl) ?_
      refine lv_iconst (v := (0 : Int32)) hx hb dX11_wrongAt_25 (by decide) ?_
      obtain ⟨g5, h⟩ := h
      refine db_iast S hw (Nat.le_of_ble_eq_true rfl) db_s101 g5 dX11_wrongAt_26 (fun H locs hw => ?_)
      obtain ⟨X6, e6, hw⟩ : ∃ Z_, Z_ = (db_si X4 101 (x1).toNatClampNeg (0 : Int32)) ∧ db_HW E (db_Aw E s.heap.size) s Z_ H locs := ⟨_, rfl, hw⟩
      have h := h X6 e6
      refine lv_iinc (v := (x1 + (1 : Int32))) (lv' := [(1, .int (x1 + (1 : Int32))), (0, .ref (db_ad E 90))]) hx hb dX11_wrongAt_27 hl (k := 1) rfl (congrArg (fun z_ => x1 + z_) (show Int32.ofInt (1) = (1 : Int32) by decide)) (by decide) rfl (fun ls hl => ?_)
      refine lv_goto (tgt := 2) hx hb dX11_wrongAt_30 (by decide) ?_
      exact ih _ _ _ _ _ h hw (lv_sub hl [1, 0] rfl)
def wp_X11_wrongAt  (X : db_St)  (Q : Int32 → db_St → Prop) : Prop := (∃ f_, wp_X11_wrongAt_2 Q f_ X (0 : Int32))
set_option maxHeartbeats 4000000 in
set_option maxRecDepth 100000 in
theorem ct_X11_wrongAt {l : Launch} {E : db_E}  {X : db_St}  {Q : Int32 → db_St → Prop} (h : wp_X11_wrongAt  X  Q) : db_MI l E yX11_wrongAt wsX11_wrongAt rm_X11_wrongAt X [.ref (db_ad E 90)] Q := by
  intro sz
  unfold wp_X11_wrongAt at h
  refine Met.ofW (cc := cX11_wrongAt) (maxL := 6) (ret := (some .int)) (by decide) rfl ?_
  intro p e s m args below meth c s₁ B hml hv
  obtain ⟨rfl, hsz, hU⟩ := hv
  subst hsz
  have S : CallFix p m c cX11_wrongAt 6 s ([.ref (db_ad E 90)] : List Value).toArray wsX11_wrongAt RX11 := ⟨B.exec, B.bytes, hml, findClass_of_methodNamed B.named, atoms_spec (ws := wsX11_wrongAt) B.pre⟩
  have hx := S.1
  have hb := S.2.1
  have hr := B.returns
  have hlocks := B.notSynchronized
  have hw := db_start hU
  have hiX11 : ∀ w ∈ wsX110, w ∈ wsX11_wrongAt := fun w_ h_ => List.mem_cons_of_mem _ (List.mem_append_right _ h_)
  have hl := lv_entry ([.ref (db_ad E 90)]) (n := 6) (Nat.le_of_ble_eq_true rfl)
  rw [lg_entry_eq]
  generalize (lg_sl ([.ref (db_ad E 90)]) ++ List.replicate (6 - (lg_sl ([.ref (db_ad E 90)])).length) Slot.unset).toArray = ls at hl ⊢
  have hl : lv_has ls 6 [(0, .ref (db_ad E 90))] := hl
  refine lv_iconst (v := (0 : Int32)) hx hb dX11_wrongAt_0 (by decide) ?_
  refine lv_istore_n (lv' := [(1, .int (0 : Int32)), (0, .ref (db_ad E 90))]) hx hb dX11_wrongAt_1 rfl hl (by decide) rfl (fun ls hl => ?_)
  obtain ⟨f_, h⟩ := h
  exact tw_X11_wrongAt_2 S hr hlocks   f_ _ _ _ _ _ h hw (lv_sub hl [1, 0] rfl)
-- DaysOnBreadModel.judge()I
abbrev rm_X11_judge : Room := { frames := 3, cells := 0, slots := 0, locals := 68 }
def wp_X11_judge  (X : db_St)  (Q : Int32 → db_St → Prop) : Prop := wp_X11_wrongAt X (fun r1 X1 => (∀ X2, X2 = (db_si X1 90 17 (0 : Int32)) → Q r1 X2))
set_option maxHeartbeats 4000000 in
set_option maxRecDepth 100000 in
theorem ct_X11_judge {l : Launch} {E : db_E}  {X : db_St}  {Q : Int32 → db_St → Prop} (h : wp_X11_judge  X  Q) : db_MI l E yX11_judge wsX11_judge rm_X11_judge X [.ref (db_ad E 90)] Q := by
  intro sz
  unfold wp_X11_judge at h
  refine Met.ofW (cc := cX11_judge) (maxL := 2) (ret := (some .int)) (by decide) rfl ?_
  intro p e s m args below meth c s₁ B hml hv
  obtain ⟨rfl, hsz, hU⟩ := hv
  subst hsz
  have S : CallFix p m c cX11_judge 2 s ([.ref (db_ad E 90)] : List Value).toArray wsX11_judge RX11 := ⟨B.exec, B.bytes, hml, findClass_of_methodNamed B.named, atoms_spec (ws := wsX11_judge) B.pre⟩
  have hx := S.1
  have hb := S.2.1
  have hr := B.returns
  have hlocks := B.notSynchronized
  have hw := db_start hU
  have hiX11 : ∀ w ∈ wsX110, w ∈ wsX11_judge := fun w_ h_ => List.mem_cons_of_mem _ (List.mem_append_right _ h_)
  have hl := lv_entry ([.ref (db_ad E 90)]) (n := 2) (Nat.le_of_ble_eq_true rfl)
  rw [lg_entry_eq]
  generalize (lg_sl ([.ref (db_ad E 90)]) ++ List.replicate (2 - (lg_sl ([.ref (db_ad E 90)])).length) Slot.unset).toArray = ls at hl ⊢
  have hl : lv_has ls 2 [(0, .ref (db_ad E 90))] := hl
  refine lv_aload_n hx hb dX11_judge_0 rfl (lv_at hl 0 rfl) ?_
  refine db_callVi S hw (Nat.le_of_ble_eq_true rfl) db_s90 (C := RX11) (T := TX11) (N := 19) (As := []) rfl (ct_X11_wrongAt  h) gX11_judge_X11_wrongAt rfl ⟨rfl, rfl, Nat.le_of_ble_eq_true rfl, Nat.le_of_ble_eq_true rfl⟩ 0 rfl (by decide +kernel) hl.1 rfl (Nat.le_of_ble_eq_true rfl) dX11_judge_1 ⟨Nat.zero_le _, Nat.zero_le _⟩ (fun r1 X1 H locs h hw => ?_)
  refine lv_istore_n (lv' := [(1, .int r1), (0, .ref (db_ad E 90))]) hx hb dX11_judge_4 rfl hl (by decide) rfl (fun ls hl => ?_)
  refine lv_aload_n hx hb dX11_judge_5 rfl (lv_at hl 1 rfl) ?_
  refine lv_iconst (v := (0 : Int32)) hx hb dX11_judge_6 (by decide) ?_
  refine db_puti S hw (Nat.le_of_ble_eq_true rfl) db_s90 (C := RX11) (T := TX11) (N := 19) rfl hiX11 tyX11_ok nmX11 17 (by decide) rfl (List.mem_of_getElem? (i := 1) rfl) rfl ⟨rfl, rfl⟩ dX11_judge_7 (fun H locs hw => ?_)
  obtain ⟨X2, e2, hw⟩ : ∃ Z_, Z_ = (db_si X1 90 17 (0 : Int32)) ∧ db_HW E (db_Aw E s.heap.size) s Z_ H locs := ⟨_, rfl, hw⟩
  have h := h X2 e2
  refine lv_iload_n hx hb dX11_judge_10 rfl (lv_at hl 0 rfl) ?_
  exact db_iret S hr hlocks hw h dX11_judge_11
-- DaysOnBreadModel.paid()I
abbrev rm_X11_paid : Room := { frames := 3, cells := 0, slots := 0, locals := 68 }
def wp_X11_paid  (X : db_St)  (Q : Int32 → db_St → Prop) : Prop := wp_X11_wrongAt X (fun r1 X1 => ((r1 < 0 → Q (X1.1 90 18) X1) ∧ (¬ (r1 < 0) → Q (-9 : Int32) X1)))
set_option maxHeartbeats 4000000 in
set_option maxRecDepth 100000 in
theorem ct_X11_paid {l : Launch} {E : db_E}  {X : db_St}  {Q : Int32 → db_St → Prop} (h : wp_X11_paid  X  Q) : db_MI l E yX11_paid wsX11_paid rm_X11_paid X [.ref (db_ad E 90)] Q := by
  intro sz
  unfold wp_X11_paid at h
  refine Met.ofW (cc := cX11_paid) (maxL := 1) (ret := (some .int)) (by decide) rfl ?_
  intro p e s m args below meth c s₁ B hml hv
  obtain ⟨rfl, hsz, hU⟩ := hv
  subst hsz
  have S : CallFix p m c cX11_paid 1 s ([.ref (db_ad E 90)] : List Value).toArray wsX11_paid RX11 := ⟨B.exec, B.bytes, hml, findClass_of_methodNamed B.named, atoms_spec (ws := wsX11_paid) B.pre⟩
  have hx := S.1
  have hb := S.2.1
  have hr := B.returns
  have hlocks := B.notSynchronized
  have hw := db_start hU
  have hiX11 : ∀ w ∈ wsX110, w ∈ wsX11_paid := fun w_ h_ => List.mem_cons_of_mem _ (List.mem_append_right _ h_)
  have hl := lv_entry ([.ref (db_ad E 90)]) (n := 1) (Nat.le_of_ble_eq_true rfl)
  rw [lg_entry_eq]
  generalize (lg_sl ([.ref (db_ad E 90)]) ++ List.replicate (1 - (lg_sl ([.ref (db_ad E 90)])).length) Slot.unset).toArray = ls at hl ⊢
  have hl : lv_has ls 1 [(0, .ref (db_ad E 90))] := hl
  refine lv_aload_n hx hb dX11_paid_0 rfl (lv_at hl 0 rfl) ?_
  refine db_callVi S hw (Nat.le_of_ble_eq_true rfl) db_s90 (C := RX11) (T := TX11) (N := 19) (As := []) rfl (ct_X11_wrongAt  h) gX11_paid_X11_wrongAt rfl ⟨rfl, rfl, Nat.le_of_ble_eq_true rfl, Nat.le_of_ble_eq_true rfl⟩ 0 rfl (by decide +kernel) hl.1 rfl (Nat.le_of_ble_eq_true rfl) dX11_paid_1 ⟨Nat.zero_le _, Nat.zero_le _⟩ (fun r1 X1 H locs h hw => ?_)
  refine lv_if_lt (tgt := 12) hx hb dX11_paid_4 (by decide) (fun c2 => ?_) (fun c2 => ?_)
  · have h := h.1 c2
    refine lv_aload_n hx hb dX11_paid_12 rfl (lv_at hl 0 rfl) ?_
    refine db_geti S hw (Nat.le_of_ble_eq_true rfl) db_s90 (C := RX11) (T := TX11) (N := 19) rfl hiX11 18 (by decide) rfl (List.mem_of_getElem? (i := 1) rfl) dX11_paid_13 ?_
    exact db_iret S hr hlocks hw h dX11_paid_16
  · have h := h.2 c2
    refine lv_bipush (v := (-9 : Int32)) hx hb dX11_paid_7 (by decide) ?_
    refine lv_goto (tgt := 16) hx hb dX11_paid_9 (by decide) ?_
    exact db_iret S hr hlocks hw h dX11_paid_16
-- DaysOnBreadModel.beside(Z)I
abbrev rm_X11_beside : Room := { frames := 4, cells := 0, slots := 0, locals := 99 }
def wp_X11_beside_4 (Q : Int32 → db_St → Prop) : Nat → db_St → Int32 → Int32 → Int32 → Prop
  | 0, _, _, _, _ => False
  | n_ + 1, X, x1, x2, x3 => (((6 : Int32) ≤ x3 → Q x2 X) ∧ (¬ ((6 : Int32) ≤ x3) → wp_X11_togetherBy X x3 (fun r1 X1 => wp_X11_togetherBy X1 x2 (fun r2 X2 => ((x1 = 0 → ((r2 ≤ r1 → wp_X11_beside_4 Q n_ X2 x1 x2 (x3 + (1 : Int32))) ∧ (¬ (r2 ≤ r1) → wp_X11_beside_4 Q n_ X2 x1 x3 (x3 + (1 : Int32))))) ∧ (¬ (x1 = 0) → ((r1 ≤ r2 → wp_X11_beside_4 Q n_ X2 x1 x2 (x3 + (1 : Int32))) ∧ (¬ (r1 ≤ r2) → wp_X11_beside_4 Q n_ X2 x1 x3 (x3 + (1 : Int32))))))))))
set_option maxHeartbeats 4000000 in
set_option maxRecDepth 100000 in
theorem tw_X11_beside_4 {p : Program} {l : Launch} {e : Env} {s : State} {m : MethodId} {args : Array Value} {below : List Frame} {meth : Method} {c : Code} {E : db_E} (S : CallFix p m c cX11_beside 6 s args wsX11_beside RX11) (hr : meth.sig.returnType = (some .int)) (hlocks : meth.locks = false)  {Q : Int32 → db_St → Prop} : ∀ (n : Nat) (X : db_St) (x1 : Int32) (x2 : Int32) (x3 : Int32) (H : Heap) (locs : List Loc) (ls : Array Slot), wp_X11_beside_4 Q n X x1 x2 x3 → db_HW E (db_Aw E s.heap.size) s X H locs → lv_has ls 6 [(0, .ref (db_ad E 90)), (1, .int x1), (2, .int x2), (3, .int x3)] → W p l e rm_X11_beside s m args below meth c H locs 0 0 (MQ below (va_Qi Q (db_Po E) (db_Aw E s.heap.size)) args s 0 0 (db_Aw E s.heap.size)) (F0 m 4 ls []) := by
  have hx := S.1
  have hb := S.2.1
  intro n
  induction n with
  | zero =>
    intro X x1 x2 x3 H locs ls h hw hl
    exact False.elim h
  | succ n_ ih =>
    intro X x1 x2 x3 H locs ls h hw hl
    unfold wp_X11_beside_4 at h
    refine lv_iload_n hx hb dX11_beside_4 rfl (lv_at hl 3 rfl) ?_
    refine lv_bipush (v := (6 : Int32)) hx hb dX11_beside_5 (by decide) ?_
    refine lv_icmp_ge (tgt := 62) hx hb dX11_beside_7 (by decide) (fun c6 => ?_) (fun c6 => ?_)
    · have h := h.1 c6
      refine lv_iload_n hx hb dX11_beside_62 rfl (lv_at hl 2 rfl) ?_
      exact db_iret S hr hlocks hw h dX11_beside_63
    · have h := h.2 c6
      refine lv_aload_n hx hb dX11_beside_10 rfl (lv_at hl 0 rfl) ?_
      refine lv_iload_n hx hb dX11_beside_11 rfl (lv_at hl 3 rfl) ?_
      refine db_callVi S hw (Nat.le_of_ble_eq_true rfl) db_s90 (C := RX11) (T := TX11) (N := 19) (As := [.int x3]) rfl (ct_X11_togetherBy  h) gX11_beside_X11_togetherBy rfl ⟨rfl, rfl, Nat.le_of_ble_eq_true rfl, Nat.le_of_ble_eq_true rfl⟩ 1 rfl (by decide +kernel) hl.1 rfl (Nat.le_of_ble_eq_true rfl) dX11_beside_12 ⟨Nat.zero_le _, Nat.zero_le _⟩ (fun r1 X1 H locs h hw => ?_)
      refine lv_istore (lv' := [(4, .int r1), (0, .ref (db_ad E 90)), (1, .int x1), (2, .int x2), (3, .int x3)]) hx hb dX11_beside_15 hl (by decide) rfl (fun ls hl => ?_)
      refine lv_aload_n hx hb dX11_beside_17 rfl (lv_at hl 1 rfl) ?_
      refine lv_iload_n hx hb dX11_beside_18 rfl (lv_at hl 3 rfl) ?_
      refine db_callVi S hw (Nat.le_of_ble_eq_true rfl) db_s90 (C := RX11) (T := TX11) (N := 19) (As := [.int x2]) rfl (ct_X11_togetherBy  h) gX11_beside_X11_togetherBy rfl ⟨rfl, rfl, Nat.le_of_ble_eq_true rfl, Nat.le_of_ble_eq_true rfl⟩ 1 rfl (by decide +kernel) hl.1 rfl (Nat.le_of_ble_eq_true rfl) dX11_beside_19 ⟨Nat.zero_le _, Nat.zero_le _⟩ (fun r2 X2 H locs h hw => ?_)
      refine lv_istore (lv' := [(5, .int r2), (4, .int r1), (0, .ref (db_ad E 90)), (1, .int x1), (2, .int x2), (3, .int x3)]) hx hb dX11_beside_22 hl (by decide) rfl (fun ls hl => ?_)
      refine lv_iload_n hx hb dX11_beside_24 rfl (lv_at hl 3 rfl) ?_
      refine lv_if_eq (tgt := 43) hx hb dX11_beside_25 (by decide) (fun c5 => ?_) (fun c5 => ?_)
      · have h := h.1 c5
        refine lv_iload hx hb dX11_beside_43 (lv_at hl 1 rfl) ?_
        refine lv_iload hx hb dX11_beside_45 (lv_at hl 0 rfl) ?_
        refine lv_icmp_ge (tgt := 54) hx hb dX11_beside_47 (by decide) (fun c3 => ?_) (fun c3 => ?_)
        · have h := h.1 c3
          refine lv_iload_n hx hb dX11_beside_54 rfl (lv_at hl 4 rfl) ?_
          refine lv_istore_n (lv' := [(2, .int x2), (5, .int r2), (4, .int r1), (0, .ref (db_ad E 90)), (1, .int x1), (3, .int x3)]) hx hb dX11_beside_55 rfl hl (by decide) rfl (fun ls hl => ?_)
          refine lv_iinc (v := (x3 + (1 : Int32))) (lv' := [(3, .int (x3 + (1 : Int32))), (2, .int x2), (5, .int r2), (4, .int r1), (0, .ref (db_ad E 90)), (1, .int x1)]) hx hb dX11_beside_56 hl (k := 5) rfl (congrArg (fun z_ => x3 + z_) (show Int32.ofInt (1) = (1 : Int32) by decide)) (by decide) rfl (fun ls hl => ?_)
          refine lv_goto (tgt := 4) hx hb dX11_beside_59 (by decide) ?_
          exact ih _ _ _ _ _ _ _ h hw (lv_sub hl [4, 5, 1, 0] rfl)
        · have h := h.2 c3
          refine lv_iload_n hx hb dX11_beside_50 rfl (lv_at hl 5 rfl) ?_
          refine lv_goto (tgt := 55) hx hb dX11_beside_51 (by decide) ?_
          refine lv_istore_n (lv' := [(2, .int x3), (5, .int r2), (4, .int r1), (0, .ref (db_ad E 90)), (1, .int x1), (3, .int x3)]) hx hb dX11_beside_55 rfl hl (by decide) rfl (fun ls hl => ?_)
          refine lv_iinc (v := (x3 + (1 : Int32))) (lv' := [(3, .int (x3 + (1 : Int32))), (2, .int x3), (5, .int r2), (4, .int r1), (0, .ref (db_ad E 90)), (1, .int x1)]) hx hb dX11_beside_56 hl (k := 5) rfl (congrArg (fun z_ => x3 + z_) (show Int32.ofInt (1) = (1 : Int32) by decide)) (by decide) rfl (fun ls hl => ?_)
          refine lv_goto (tgt := 4) hx hb dX11_beside_59 (by decide) ?_
          exact ih _ _ _ _ _ _ _ h hw (lv_sub hl [4, 5, 1, 0] rfl)
      · have h := h.2 c5
        refine lv_iload hx hb dX11_beside_28 (lv_at hl 1 rfl) ?_
        refine lv_iload hx hb dX11_beside_30 (lv_at hl 0 rfl) ?_
        refine lv_icmp_le (tgt := 39) hx hb dX11_beside_32 (by decide) (fun c4 => ?_) (fun c4 => ?_)
        · have h := h.1 c4
          refine lv_iload_n hx hb dX11_beside_39 rfl (lv_at hl 4 rfl) ?_
          refine lv_goto (tgt := 55) hx hb dX11_beside_40 (by decide) ?_
          refine lv_istore_n (lv' := [(2, .int x2), (5, .int r2), (4, .int r1), (0, .ref (db_ad E 90)), (1, .int x1), (3, .int x3)]) hx hb dX11_beside_55 rfl hl (by decide) rfl (fun ls hl => ?_)
          refine lv_iinc (v := (x3 + (1 : Int32))) (lv' := [(3, .int (x3 + (1 : Int32))), (2, .int x2), (5, .int r2), (4, .int r1), (0, .ref (db_ad E 90)), (1, .int x1)]) hx hb dX11_beside_56 hl (k := 5) rfl (congrArg (fun z_ => x3 + z_) (show Int32.ofInt (1) = (1 : Int32) by decide)) (by decide) rfl (fun ls hl => ?_)
          refine lv_goto (tgt := 4) hx hb dX11_beside_59 (by decide) ?_
          exact ih _ _ _ _ _ _ _ h hw (lv_sub hl [4, 5, 1, 0] rfl)
        · have h := h.2 c4
          refine lv_iload_n hx hb dX11_beside_35 rfl (lv_at hl 5 rfl) ?_
          refine lv_goto (tgt := 55) hx hb dX11_beside_36 (by decide) ?_
          refine lv_istore_n (lv' := [(2, .int x3), (5, .int r2), (4, .int r1), (0, .ref (db_ad E 90)), (1, .int x1), (3, .int x3)]) hx hb dX11_beside_55 rfl hl (by decide) rfl (fun ls hl => ?_)
          refine lv_iinc (v := (x3 + (1 : Int32))) (lv' := [(3, .int (x3 + (1 : Int32))), (2, .int x3), (5, .int r2), (4, .int r1), (0, .ref (db_ad E 90)), (1, .int x1)]) hx hb dX11_beside_56 hl (k := 5) rfl (congrArg (fun z_ => x3 + z_) (show Int32.ofInt (1) = (1 : Int32) by decide)) (by decide) rfl (fun ls hl => ?_)
          refine lv_goto (tgt := 4) hx hb dX11_beside_59 (by decide) ?_
          exact ih _ _ _ _ _ _ _ h hw (lv_sub hl [4, 5, 1, 0] rfl)
def wp_X11_beside  (X : db_St) (x1 : Int32) (Q : Int32 → db_St → Prop) : Prop := (∃ f_, wp_X11_beside_4 Q f_ X x1 (0 : Int32) (1 : Int32))
set_option maxHeartbeats 4000000 in
set_option maxRecDepth 100000 in
theorem ct_X11_beside {l : Launch} {E : db_E}  {X : db_St} {x1 : Int32} {Q : Int32 → db_St → Prop} (h : wp_X11_beside  X x1 Q) : db_MI l E yX11_beside wsX11_beside rm_X11_beside X [.ref (db_ad E 90), .int x1] Q := by
  intro sz
  unfold wp_X11_beside at h
  refine Met.ofW (cc := cX11_beside) (maxL := 6) (ret := (some .int)) (by decide) rfl ?_
  intro p e s m args below meth c s₁ B hml hv
  obtain ⟨rfl, hsz, hU⟩ := hv
  subst hsz
  have S : CallFix p m c cX11_beside 6 s ([.ref (db_ad E 90), .int x1] : List Value).toArray wsX11_beside RX11 := ⟨B.exec, B.bytes, hml, findClass_of_methodNamed B.named, atoms_spec (ws := wsX11_beside) B.pre⟩
  have hx := S.1
  have hb := S.2.1
  have hr := B.returns
  have hlocks := B.notSynchronized
  have hw := db_start hU
  have hl := lv_entry ([.ref (db_ad E 90), .int x1]) (n := 6) (Nat.le_of_ble_eq_true rfl)
  rw [lg_entry_eq]
  generalize (lg_sl ([.ref (db_ad E 90), .int x1]) ++ List.replicate (6 - (lg_sl ([.ref (db_ad E 90), .int x1])).length) Slot.unset).toArray = ls at hl ⊢
  have hl : lv_has ls 6 [(0, .ref (db_ad E 90)), (1, .int x1)] := hl
  refine lv_iconst (v := (0 : Int32)) hx hb dX11_beside_0 (by decide) ?_
  refine lv_istore_n (lv' := [(2, .int (0 : Int32)), (0, .ref (db_ad E 90)), (1, .int x1)]) hx hb dX11_beside_1 rfl hl (by decide) rfl (fun ls hl => ?_)
  refine lv_iconst (v := (1 : Int32)) hx hb dX11_beside_2 (by decide) ?_
  refine lv_istore_n (lv' := [(3, .int (1 : Int32)), (2, .int (0 : Int32)), (0, .ref (db_ad E 90)), (1, .int x1)]) hx hb dX11_beside_3 rfl hl (by decide) rfl (fun ls hl => ?_)
  obtain ⟨f_, h⟩ := h
  exact tw_X11_beside_4 S hr hlocks   f_ _ _ _ _ _ _ _ h hw (lv_sub hl [2, 3, 1, 0] rfl)
-- DaysOnBreadModel.part(II)I
abbrev rm_X11_part : Room := { frames := 3, cells := 0, slots := 0, locals := 73 }
def wp_X11_part_36 (k27 : db_St → Int32 → Int32 → Int32 → Prop) (Q : Int32 → db_St → Prop) : Nat → db_St → Int32 → Int32 → Int32 → Int32 → Prop
  | 0, _, _, _, _, _ => False
  | n_ + 1, X, x1, x2, x3, x4 => (((16 : Int32) ≤ x4 → k27 X x1 x2 (x3 + (1 : Int32))) ∧ (¬ ((16 : Int32) ≤ x4) → wp_X11_owesOf X x1 x3 x4 (fun r1 X1 => wp_X11_owesOf X1 x2 x3 x4 (fun r2 X2 => ((r1 = r2 → wp_X11_part_36 k27 Q n_ X2 x1 x2 x3 (x4 + (1 : Int32))) ∧ (¬ (r1 = r2) → Q (((16 : Int32) * x3) + x4) X2))))))
set_option maxHeartbeats 4000000 in
set_option maxRecDepth 100000 in
theorem tw_X11_part_36 {p : Program} {l : Launch} {e : Env} {s : State} {m : MethodId} {args : Array Value} {below : List Frame} {meth : Method} {c : Code} {E : db_E} (S : CallFix p m c cX11_part 5 s args wsX11_part RX11) (hr : meth.sig.returnType = (some .int)) (hlocks : meth.locks = false)  {Q : Int32 → db_St → Prop} {k27 : db_St → Int32 → Int32 → Int32 → Prop} (hk27 : ∀ (X : db_St) (x1 : Int32) (x2 : Int32) (x3 : Int32) (H : Heap) (locs : List Loc) (ls : Array Slot), k27 X x1 x2 x3 → db_HW E (db_Aw E s.heap.size) s X H locs → lv_has ls 5 [(0, .ref (db_ad E 90)), (1, .int x1), (2, .int x2), (3, .int x3)] → W p l e rm_X11_part s m args below meth c H locs 0 0 (MQ below (va_Qi Q (db_Po E) (db_Aw E s.heap.size)) args s 0 0 (db_Aw E s.heap.size)) (F0 m 27 ls [])) : ∀ (n : Nat) (X : db_St) (x1 : Int32) (x2 : Int32) (x3 : Int32) (x4 : Int32) (H : Heap) (locs : List Loc) (ls : Array Slot), wp_X11_part_36 k27 Q n X x1 x2 x3 x4 → db_HW E (db_Aw E s.heap.size) s X H locs → lv_has ls 5 [(0, .ref (db_ad E 90)), (1, .int x1), (2, .int x2), (3, .int x3), (4, .int x4)] → W p l e rm_X11_part s m args below meth c H locs 0 0 (MQ below (va_Qi Q (db_Po E) (db_Aw E s.heap.size)) args s 0 0 (db_Aw E s.heap.size)) (F0 m 36 ls []) := by
  have hx := S.1
  have hb := S.2.1
  intro n
  induction n with
  | zero =>
    intro X x1 x2 x3 x4 H locs ls h hw hl
    exact False.elim h
  | succ n_ ih =>
    intro X x1 x2 x3 x4 H locs ls h hw hl
    unfold wp_X11_part_36 at h
    refine lv_iload hx hb dX11_part_36 (lv_at hl 4 rfl) ?_
    refine lv_bipush (v := (16 : Int32)) hx hb dX11_part_38 (by decide) ?_
    refine lv_icmp_ge (tgt := 76) hx hb dX11_part_40 (by decide) (fun c4 => ?_) (fun c4 => ?_)
    · have h := h.1 c4
      refine lv_iinc (v := (x3 + (1 : Int32))) (lv' := [(3, .int (x3 + (1 : Int32))), (0, .ref (db_ad E 90)), (1, .int x1), (2, .int x2), (4, .int x4)]) hx hb dX11_part_76 hl (k := 3) rfl (congrArg (fun z_ => x3 + z_) (show Int32.ofInt (1) = (1 : Int32) by decide)) (by decide) rfl (fun ls hl => ?_)
      refine lv_goto (tgt := 27) hx hb dX11_part_79 (by decide) ?_
      exact hk27 _ _ _ _ _ _ _ h hw (lv_sub hl [1, 2, 3, 0] rfl)
    · have h := h.2 c4
      refine lv_aload_n hx hb dX11_part_43 rfl (lv_at hl 0 rfl) ?_
      refine lv_iload_n hx hb dX11_part_44 rfl (lv_at hl 1 rfl) ?_
      refine lv_iload_n hx hb dX11_part_45 rfl (lv_at hl 3 rfl) ?_
      refine lv_iload hx hb dX11_part_46 (lv_at hl 4 rfl) ?_
      refine db_callVi S hw (Nat.le_of_ble_eq_true rfl) db_s90 (C := RX11) (T := TX11) (N := 19) (As := [.int x1, .int x3, .int x4]) rfl (ct_X11_owesOf  h) gX11_part_X11_owesOf rfl ⟨rfl, rfl, Nat.le_of_ble_eq_true rfl, Nat.le_of_ble_eq_true rfl⟩ 3 rfl (by decide +kernel) hl.1 rfl (Nat.le_of_ble_eq_true rfl) dX11_part_48 ⟨Nat.zero_le _, Nat.zero_le _⟩ (fun r1 X1 H locs h hw => ?_)
      refine lv_aload_n hx hb dX11_part_51 rfl (lv_at hl 0 rfl) ?_
      refine lv_iload_n hx hb dX11_part_52 rfl (lv_at hl 2 rfl) ?_
      refine lv_iload_n hx hb dX11_part_53 rfl (lv_at hl 3 rfl) ?_
      refine lv_iload hx hb dX11_part_54 (lv_at hl 4 rfl) ?_
      refine db_callVi S hw (Nat.le_of_ble_eq_true rfl) db_s90 (C := RX11) (T := TX11) (N := 19) (As := [.int x2, .int x3, .int x4]) rfl (ct_X11_owesOf  h) gX11_part_X11_owesOf rfl ⟨rfl, rfl, Nat.le_of_ble_eq_true rfl, Nat.le_of_ble_eq_true rfl⟩ 3 rfl (by decide +kernel) hl.1 rfl (Nat.le_of_ble_eq_true rfl) dX11_part_56 ⟨Nat.zero_le _, Nat.zero_le _⟩ (fun r2 X2 H locs h hw => ?_)
      refine lv_icmp_eq (tgt := 70) hx hb dX11_part_59 (by decide) (fun c3 => ?_) (fun c3 => ?_)
      · have h := h.1 c3
        refine lv_iinc (v := (x4 + (1 : Int32))) (lv' := [(4, .int (x4 + (1 : Int32))), (0, .ref (db_ad E 90)), (1, .int x1), (2, .int x2), (3, .int x3)]) hx hb dX11_part_70 hl (k := 4) rfl (congrArg (fun z_ => x4 + z_) (show Int32.ofInt (1) = (1 : Int32) by decide)) (by decide) rfl (fun ls hl => ?_)
        refine lv_goto (tgt := 36) hx hb dX11_part_73 (by decide) ?_
        exact ih _ _ _ _ _ _ _ _ h hw (lv_sub hl [1, 2, 3, 4, 0] rfl)
      · have h := h.2 c3
        refine lv_bipush (v := (16 : Int32)) hx hb dX11_part_62 (by decide) ?_
        refine lv_iload_n hx hb dX11_part_64 rfl (lv_at hl 3 rfl) ?_
        refine lv_imul hx hb dX11_part_65 ?_
        refine lv_iload hx hb dX11_part_66 (lv_at hl 4 rfl) ?_
        refine lv_iadd hx hb dX11_part_68 ?_
        exact db_iret S hr hlocks hw h dX11_part_69
def wp_X11_part_27 (Q : Int32 → db_St → Prop) : Nat → db_St → Int32 → Int32 → Int32 → Prop
  | 0, _, _, _, _ => False
  | n_ + 1, X, x1, x2, x3 => (((8 : Int32) ≤ x3 → Q (-9 : Int32) X) ∧ (¬ ((8 : Int32) ≤ x3) → (∃ f_, wp_X11_part_36 (wp_X11_part_27 Q n_) Q f_ X x1 x2 x3 (0 : Int32))))
set_option maxHeartbeats 4000000 in
set_option maxRecDepth 100000 in
theorem tw_X11_part_27 {p : Program} {l : Launch} {e : Env} {s : State} {m : MethodId} {args : Array Value} {below : List Frame} {meth : Method} {c : Code} {E : db_E} (S : CallFix p m c cX11_part 5 s args wsX11_part RX11) (hr : meth.sig.returnType = (some .int)) (hlocks : meth.locks = false)  {Q : Int32 → db_St → Prop} : ∀ (n : Nat) (X : db_St) (x1 : Int32) (x2 : Int32) (x3 : Int32) (H : Heap) (locs : List Loc) (ls : Array Slot), wp_X11_part_27 Q n X x1 x2 x3 → db_HW E (db_Aw E s.heap.size) s X H locs → lv_has ls 5 [(0, .ref (db_ad E 90)), (1, .int x1), (2, .int x2), (3, .int x3)] → W p l e rm_X11_part s m args below meth c H locs 0 0 (MQ below (va_Qi Q (db_Po E) (db_Aw E s.heap.size)) args s 0 0 (db_Aw E s.heap.size)) (F0 m 27 ls []) := by
  have hx := S.1
  have hb := S.2.1
  intro n
  induction n with
  | zero =>
    intro X x1 x2 x3 H locs ls h hw hl
    exact False.elim h
  | succ n_ ih =>
    intro X x1 x2 x3 H locs ls h hw hl
    unfold wp_X11_part_27 at h
    refine lv_iload_n hx hb dX11_part_27 rfl (lv_at hl 3 rfl) ?_
    refine lv_bipush (v := (8 : Int32)) hx hb dX11_part_28 (by decide) ?_
    refine lv_icmp_ge (tgt := 82) hx hb dX11_part_30 (by decide) (fun c1 => ?_) (fun c1 => ?_)
    · have h := h.1 c1
      refine lv_bipush (v := (-9 : Int32)) hx hb dX11_part_82 (by decide) ?_
      exact db_iret S hr hlocks hw h dX11_part_84
    · have h := h.2 c1
      refine lv_iconst (v := (0 : Int32)) hx hb dX11_part_33 (by decide) ?_
      refine lv_istore (lv' := [(4, .int (0 : Int32)), (0, .ref (db_ad E 90)), (1, .int x1), (2, .int x2), (3, .int x3)]) hx hb dX11_part_34 hl (by decide) rfl (fun ls hl => ?_)
      obtain ⟨f_, h⟩ := h
      exact tw_X11_part_36 S hr hlocks  ih f_ _ _ _ _ _ _ _ _ h hw (lv_sub hl [1, 2, 3, 4, 0] rfl)
def wp_X11_part  (X : db_St) (x1 : Int32) (x2 : Int32) (Q : Int32 → db_St → Prop) : Prop := wp_X11_isBook X x1 (fun r1 X1 => ((r1 = 0 → wp_X11_refuse X1 (-1 : Int32) (fun r2 X2 => Q r2 X2)) ∧ (¬ (r1 = 0) → wp_X11_isBook X1 x2 (fun r3 X3 => ((r3 = 0 → wp_X11_refuse X3 (-1 : Int32) (fun r4 X4 => Q r4 X4)) ∧ (¬ (r3 = 0) → ((x1 = x2 → wp_X11_refuse X3 (-1 : Int32) (fun r5 X5 => Q r5 X5)) ∧ (¬ x1 = x2 → (∃ f_, wp_X11_part_27 Q f_ X3 x1 x2 (0 : Int32))))))))))
set_option maxHeartbeats 4000000 in
set_option maxRecDepth 100000 in
theorem ct_X11_part {l : Launch} {E : db_E}  {X : db_St} {x1 : Int32} {x2 : Int32} {Q : Int32 → db_St → Prop} (h : wp_X11_part  X x1 x2 Q) : db_MI l E yX11_part wsX11_part rm_X11_part X [.ref (db_ad E 90), .int x1, .int x2] Q := by
  intro sz
  unfold wp_X11_part at h
  refine Met.ofW (cc := cX11_part) (maxL := 5) (ret := (some .int)) (by decide) rfl ?_
  intro p e s m args below meth c s₁ B hml hv
  obtain ⟨rfl, hsz, hU⟩ := hv
  subst hsz
  have S : CallFix p m c cX11_part 5 s ([.ref (db_ad E 90), .int x1, .int x2] : List Value).toArray wsX11_part RX11 := ⟨B.exec, B.bytes, hml, findClass_of_methodNamed B.named, atoms_spec (ws := wsX11_part) B.pre⟩
  have hx := S.1
  have hb := S.2.1
  have hr := B.returns
  have hlocks := B.notSynchronized
  have hw := db_start hU
  have hl := lv_entry ([.ref (db_ad E 90), .int x1, .int x2]) (n := 5) (Nat.le_of_ble_eq_true rfl)
  rw [lg_entry_eq]
  generalize (lg_sl ([.ref (db_ad E 90), .int x1, .int x2]) ++ List.replicate (5 - (lg_sl ([.ref (db_ad E 90), .int x1, .int x2])).length) Slot.unset).toArray = ls at hl ⊢
  have hl : lv_has ls 5 [(0, .ref (db_ad E 90)), (1, .int x1), (2, .int x2)] := hl
  refine lv_iload_n hx hb dX11_part_0 rfl (lv_at hl 1 rfl) ?_
  refine db_callSi S hw (As := [.int x1]) (ct_X11_isBook  h) gX11_part_X11_isBook rfl ⟨rfl, rfl, Nat.le_of_ble_eq_true rfl, Nat.le_of_ble_eq_true rfl⟩ 1 rfl (by decide +kernel) hl.1 rfl (Nat.le_of_ble_eq_true rfl) dX11_part_1 ⟨Nat.zero_le _, Nat.zero_le _⟩ (fun r1 X1 H locs h hw => ?_)
  refine lv_if_eq (tgt := 19) hx hb dX11_part_4 (by decide) (fun c8 => ?_) (fun c8 => ?_)
  · have h := h.1 c8
    refine lv_aload_n hx hb dX11_part_19 rfl (lv_at hl 0 rfl) ?_
    refine lv_iconst (v := (-1 : Int32)) hx hb dX11_part_20 (by decide) ?_
    refine db_callVi S hw (Nat.le_of_ble_eq_true rfl) db_s90 (C := RX11) (T := TX11) (N := 19) (As := [.int (-1 : Int32)]) rfl (ct_X11_refuse  h) gX11_part_X11_refuse rfl ⟨rfl, rfl, Nat.le_of_ble_eq_true rfl, Nat.le_of_ble_eq_true rfl⟩ 1 rfl (by decide +kernel) hl.1 rfl (Nat.le_of_ble_eq_true rfl) dX11_part_21 ⟨Nat.zero_le _, Nat.zero_le _⟩ (fun r2 X2 H locs h hw => ?_)
    exact db_iret S hr hlocks hw h dX11_part_24
  · have h := h.2 c8
    refine lv_iload_n hx hb dX11_part_7 rfl (lv_at hl 2 rfl) ?_
    refine db_callSi S hw (As := [.int x2]) (ct_X11_isBook  h) gX11_part_X11_isBook rfl ⟨rfl, rfl, Nat.le_of_ble_eq_true rfl, Nat.le_of_ble_eq_true rfl⟩ 1 rfl (by decide +kernel) hl.1 rfl (Nat.le_of_ble_eq_true rfl) dX11_part_8 ⟨Nat.zero_le _, Nat.zero_le _⟩ (fun r3 X3 H locs h hw => ?_)
    refine lv_if_eq (tgt := 19) hx hb dX11_part_11 (by decide) (fun c7 => ?_) (fun c7 => ?_)
    · have h := h.1 c7
      refine lv_aload_n hx hb dX11_part_19 rfl (lv_at hl 0 rfl) ?_
      refine lv_iconst (v := (-1 : Int32)) hx hb dX11_part_20 (by decide) ?_
      refine db_callVi S hw (Nat.le_of_ble_eq_true rfl) db_s90 (C := RX11) (T := TX11) (N := 19) (As := [.int (-1 : Int32)]) rfl (ct_X11_refuse  h) gX11_part_X11_refuse rfl ⟨rfl, rfl, Nat.le_of_ble_eq_true rfl, Nat.le_of_ble_eq_true rfl⟩ 1 rfl (by decide +kernel) hl.1 rfl (Nat.le_of_ble_eq_true rfl) dX11_part_21 ⟨Nat.zero_le _, Nat.zero_le _⟩ (fun r4 X4 H locs h hw => ?_)
      exact db_iret S hr hlocks hw h dX11_part_24
    · have h := h.2 c7
      refine lv_iload_n hx hb dX11_part_14 rfl (lv_at hl 1 rfl) ?_
      refine lv_iload_n hx hb dX11_part_15 rfl (lv_at hl 2 rfl) ?_
      refine lv_icmp_ne (tgt := 25) hx hb dX11_part_16 (by decide) (fun c6 => ?_) (fun c6 => ?_)
      · have h := h.2 c6
        refine lv_iconst (v := (0 : Int32)) hx hb dX11_part_25 (by decide) ?_
        refine lv_istore_n (lv' := [(3, .int (0 : Int32)), (0, .ref (db_ad E 90)), (1, .int x1), (2, .int x2)]) hx hb dX11_part_26 rfl hl (by decide) rfl (fun ls hl => ?_)
        obtain ⟨f_, h⟩ := h
        exact tw_X11_part_27 S hr hlocks   f_ _ _ _ _ _ _ _ h hw (lv_sub hl [1, 2, 3, 0] rfl)
      · have h := h.1 c6
        refine lv_aload_n hx hb dX11_part_19 rfl (lv_at hl 0 rfl) ?_
        refine lv_iconst (v := (-1 : Int32)) hx hb dX11_part_20 (by decide) ?_
        refine db_callVi S hw (Nat.le_of_ble_eq_true rfl) db_s90 (C := RX11) (T := TX11) (N := 19) (As := [.int (-1 : Int32)]) rfl (ct_X11_refuse  h) gX11_part_X11_refuse rfl ⟨rfl, rfl, Nat.le_of_ble_eq_true rfl, Nat.le_of_ble_eq_true rfl⟩ 1 rfl (by decide +kernel) hl.1 rfl (Nat.le_of_ble_eq_true rfl) dX11_part_21 ⟨Nat.zero_le _, Nat.zero_le _⟩ (fun r5 X5 H locs h hw => ?_)
        exact db_iret S hr hlocks hw h dX11_part_24
-- DaysOnBreadModel.has(III)Z
abbrev rm_X11_has : Room := { frames := 1, cells := 0, slots := 0, locals := 23 }
def wp_X11_has_3 (Q : Int32 → db_St → Prop) : Nat → db_St → Int32 → Int32 → Int32 → Int32 → Prop
  | 0, _, _, _, _, _ => False
  | n_ + 1, X, x1, x2, x3, x4 => (vp_in ((180 : Int32) + x1) 310 ∧ (((X.1 92 (((180 : Int32) + x1)).toNatClampNeg) ≤ x4 → Q (0 : Int32) X) ∧ (¬ ((X.1 92 (((180 : Int32) + x1)).toNatClampNeg) ≤ x4) → wp_X11_get X x1 x4 (0 : Int32) (fun r2 X2 => wp_X11_get X2 x2 x3 (0 : Int32) (fun r3 X3 => ((r2 = r3 → wp_X11_get X3 x1 x4 (1 : Int32) (fun r4 X4 => wp_X11_get X4 x2 x3 (1 : Int32) (fun r5 X5 => ((r4 = r5 → wp_X11_get X5 x1 x4 (2 : Int32) (fun r6 X6 => wp_X11_get X6 x2 x3 (2 : Int32) (fun r7 X7 => ((r6 = r7 → Q (1 : Int32) X7) ∧ (¬ r6 = r7 → wp_X11_has_3 Q n_ X7 x1 x2 x3 (x4 + (1 : Int32))))))) ∧ (¬ r4 = r5 → wp_X11_has_3 Q n_ X5 x1 x2 x3 (x4 + (1 : Int32))))))) ∧ (¬ r2 = r3 → wp_X11_has_3 Q n_ X3 x1 x2 x3 (x4 + (1 : Int32)))))))))
set_option maxHeartbeats 4000000 in
set_option maxRecDepth 100000 in
theorem tw_X11_has_3 {p : Program} {l : Launch} {e : Env} {s : State} {m : MethodId} {args : Array Value} {below : List Frame} {meth : Method} {c : Code} {E : db_E} (S : CallFix p m c cX11_has 5 s args wsX11_has RX11) (hr : meth.sig.returnType = (some .boolean)) (hlocks : meth.locks = false)  {Q : Int32 → db_St → Prop} : ∀ (n : Nat) (X : db_St) (x1 : Int32) (x2 : Int32) (x3 : Int32) (x4 : Int32) (H : Heap) (locs : List Loc) (ls : Array Slot), wp_X11_has_3 Q n X x1 x2 x3 x4 → db_HW E (db_Aw E s.heap.size) s X H locs → lv_has ls 5 [(0, .ref (db_ad E 90)), (1, .int x1), (2, .int x2), (3, .int x3), (4, .int x4)] → W p l e rm_X11_has s m args below meth c H locs 0 0 (MQ below (va_Qi Q (db_Po E) (db_Aw E s.heap.size)) args s 0 0 (db_Aw E s.heap.size)) (F0 m 3 ls []) := by
  have hx := S.1
  have hb := S.2.1
  have hiX11 : ∀ w ∈ wsX110, w ∈ wsX11_has := fun w_ h_ => List.mem_cons_of_mem _ (List.mem_append_right _ h_)
  intro n
  induction n with
  | zero =>
    intro X x1 x2 x3 x4 H locs ls h hw hl
    exact False.elim h
  | succ n_ ih =>
    intro X x1 x2 x3 x4 H locs ls h hw hl
    unfold wp_X11_has_3 at h
    refine lv_iload hx hb dX11_has_3 (lv_at hl 4 rfl) ?_
    refine lv_aload_n hx hb dX11_has_5 rfl (lv_at hl 0 rfl) ?_
    refine db_getr S hw (Nat.le_of_ble_eq_true rfl) db_s90 (C := RX11) (T := TX11) (N := 19) rfl hiX11 1 (by decide) (r := 92) rfl (List.mem_of_getElem? (i := 1) rfl) dX11_has_6 ?_
    refine lv_sipush (v := (180 : Int32)) hx hb dX11_has_9 (by decide) ?_
    refine lv_iload_n hx hb dX11_has_12 rfl (lv_at hl 1 rfl) ?_
    refine lv_iadd hx hb dX11_has_13 ?_
    obtain ⟨g1, h⟩ := h
    refine db_iald S hw (Nat.le_of_ble_eq_true rfl) db_s92 g1 dX11_has_14 ?_
    refine lv_icmp_ge (tgt := 80) hx hb dX11_has_15 (by decide) (fun c11 => ?_) (fun c11 => ?_)
    · have h := h.1 c11
      refine lv_iconst (v := (0 : Int32)) hx hb dX11_has_80 (by decide) ?_
      exact db_zret S hr hlocks rfl hw h dX11_has_81
    · have h := h.2 c11
      refine lv_aload_n hx hb dX11_has_18 rfl (lv_at hl 0 rfl) ?_
      refine lv_iload_n hx hb dX11_has_19 rfl (lv_at hl 1 rfl) ?_
      refine lv_iload hx hb dX11_has_20 (lv_at hl 4 rfl) ?_
      refine lv_iconst (v := (0 : Int32)) hx hb dX11_has_22 (by decide) ?_
      refine db_callVi S hw (Nat.le_of_ble_eq_true rfl) db_s90 (C := RX11) (T := TX11) (N := 19) (As := [.int x1, .int x4, .int (0 : Int32)]) rfl (ct_X11_get  h) gX11_has_X11_get rfl ⟨rfl, rfl, Nat.le_of_ble_eq_true rfl, Nat.le_of_ble_eq_true rfl⟩ 3 rfl (by decide +kernel) hl.1 rfl (Nat.le_of_ble_eq_true rfl) dX11_has_23 ⟨Nat.zero_le _, Nat.zero_le _⟩ (fun r2 X2 H locs h hw => ?_)
      refine lv_aload_n hx hb dX11_has_26 rfl (lv_at hl 0 rfl) ?_
      refine lv_iload_n hx hb dX11_has_27 rfl (lv_at hl 2 rfl) ?_
      refine lv_iload_n hx hb dX11_has_28 rfl (lv_at hl 3 rfl) ?_
      refine lv_iconst (v := (0 : Int32)) hx hb dX11_has_29 (by decide) ?_
      refine db_callVi S hw (Nat.le_of_ble_eq_true rfl) db_s90 (C := RX11) (T := TX11) (N := 19) (As := [.int x2, .int x3, .int (0 : Int32)]) rfl (ct_X11_get  h) gX11_has_X11_get rfl ⟨rfl, rfl, Nat.le_of_ble_eq_true rfl, Nat.le_of_ble_eq_true rfl⟩ 3 rfl (by decide +kernel) hl.1 rfl (Nat.le_of_ble_eq_true rfl) dX11_has_30 ⟨Nat.zero_le _, Nat.zero_le _⟩ (fun r3 X3 H locs h hw => ?_)
      refine lv_icmp_ne (tgt := 74) hx hb dX11_has_33 (by decide) (fun c10 => ?_) (fun c10 => ?_)
      · have h := h.2 c10
        refine lv_iinc (v := (x4 + (1 : Int32))) (lv' := [(4, .int (x4 + (1 : Int32))), (0, .ref (db_ad E 90)), (1, .int x1), (2, .int x2), (3, .int x3)]) hx hb dX11_has_74 hl (k := 4) rfl (congrArg (fun z_ => x4 + z_) (show Int32.ofInt (1) = (1 : Int32) by decide)) (by decide) rfl (fun ls hl => ?_)
        refine lv_goto (tgt := 3) hx hb dX11_has_77 (by decide) ?_
        exact ih _ _ _ _ _ _ _ _ h hw (lv_sub hl [1, 2, 3, 4, 0] rfl)
      · have h := h.1 c10
        refine lv_aload_n hx hb dX11_has_36 rfl (lv_at hl 0 rfl) ?_
        refine lv_iload_n hx hb dX11_has_37 rfl (lv_at hl 1 rfl) ?_
        refine lv_iload hx hb dX11_has_38 (lv_at hl 4 rfl) ?_
        refine lv_iconst (v := (1 : Int32)) hx hb dX11_has_40 (by decide) ?_
        refine db_callVi S hw (Nat.le_of_ble_eq_true rfl) db_s90 (C := RX11) (T := TX11) (N := 19) (As := [.int x1, .int x4, .int (1 : Int32)]) rfl (ct_X11_get  h) gX11_has_X11_get rfl ⟨rfl, rfl, Nat.le_of_ble_eq_true rfl, Nat.le_of_ble_eq_true rfl⟩ 3 rfl (by decide +kernel) hl.1 rfl (Nat.le_of_ble_eq_true rfl) dX11_has_41 ⟨Nat.zero_le _, Nat.zero_le _⟩ (fun r4 X4 H locs h hw => ?_)
        refine lv_aload_n hx hb dX11_has_44 rfl (lv_at hl 0 rfl) ?_
        refine lv_iload_n hx hb dX11_has_45 rfl (lv_at hl 2 rfl) ?_
        refine lv_iload_n hx hb dX11_has_46 rfl (lv_at hl 3 rfl) ?_
        refine lv_iconst (v := (1 : Int32)) hx hb dX11_has_47 (by decide) ?_
        refine db_callVi S hw (Nat.le_of_ble_eq_true rfl) db_s90 (C := RX11) (T := TX11) (N := 19) (As := [.int x2, .int x3, .int (1 : Int32)]) rfl (ct_X11_get  h) gX11_has_X11_get rfl ⟨rfl, rfl, Nat.le_of_ble_eq_true rfl, Nat.le_of_ble_eq_true rfl⟩ 3 rfl (by decide +kernel) hl.1 rfl (Nat.le_of_ble_eq_true rfl) dX11_has_48 ⟨Nat.zero_le _, Nat.zero_le _⟩ (fun r5 X5 H locs h hw => ?_)
        refine lv_icmp_ne (tgt := 74) hx hb dX11_has_51 (by decide) (fun c9 => ?_) (fun c9 => ?_)
        · have h := h.2 c9
          refine lv_iinc (v := (x4 + (1 : Int32))) (lv' := [(4, .int (x4 + (1 : Int32))), (0, .ref (db_ad E 90)), (1, .int x1), (2, .int x2), (3, .int x3)]) hx hb dX11_has_74 hl (k := 4) rfl (congrArg (fun z_ => x4 + z_) (show Int32.ofInt (1) = (1 : Int32) by decide)) (by decide) rfl (fun ls hl => ?_)
          refine lv_goto (tgt := 3) hx hb dX11_has_77 (by decide) ?_
          exact ih _ _ _ _ _ _ _ _ h hw (lv_sub hl [1, 2, 3, 4, 0] rfl)
        · have h := h.1 c9
          refine lv_aload_n hx hb dX11_has_54 rfl (lv_at hl 0 rfl) ?_
          refine lv_iload_n hx hb dX11_has_55 rfl (lv_at hl 1 rfl) ?_
          refine lv_iload hx hb dX11_has_56 (lv_at hl 4 rfl) ?_
          refine lv_iconst (v := (2 : Int32)) hx hb dX11_has_58 (by decide) ?_
          refine db_callVi S hw (Nat.le_of_ble_eq_true rfl) db_s90 (C := RX11) (T := TX11) (N := 19) (As := [.int x1, .int x4, .int (2 : Int32)]) rfl (ct_X11_get  h) gX11_has_X11_get rfl ⟨rfl, rfl, Nat.le_of_ble_eq_true rfl, Nat.le_of_ble_eq_true rfl⟩ 3 rfl (by decide +kernel) hl.1 rfl (Nat.le_of_ble_eq_true rfl) dX11_has_59 ⟨Nat.zero_le _, Nat.zero_le _⟩ (fun r6 X6 H locs h hw => ?_)
          refine lv_aload_n hx hb dX11_has_62 rfl (lv_at hl 0 rfl) ?_
          refine lv_iload_n hx hb dX11_has_63 rfl (lv_at hl 2 rfl) ?_
          refine lv_iload_n hx hb dX11_has_64 rfl (lv_at hl 3 rfl) ?_
          refine lv_iconst (v := (2 : Int32)) hx hb dX11_has_65 (by decide) ?_
          refine db_callVi S hw (Nat.le_of_ble_eq_true rfl) db_s90 (C := RX11) (T := TX11) (N := 19) (As := [.int x2, .int x3, .int (2 : Int32)]) rfl (ct_X11_get  h) gX11_has_X11_get rfl ⟨rfl, rfl, Nat.le_of_ble_eq_true rfl, Nat.le_of_ble_eq_true rfl⟩ 3 rfl (by decide +kernel) hl.1 rfl (Nat.le_of_ble_eq_true rfl) dX11_has_66 ⟨Nat.zero_le _, Nat.zero_le _⟩ (fun r7 X7 H locs h hw => ?_)
          refine lv_icmp_ne (tgt := 74) hx hb dX11_has_69 (by decide) (fun c8 => ?_) (fun c8 => ?_)
          · have h := h.2 c8
            refine lv_iinc (v := (x4 + (1 : Int32))) (lv' := [(4, .int (x4 + (1 : Int32))), (0, .ref (db_ad E 90)), (1, .int x1), (2, .int x2), (3, .int x3)]) hx hb dX11_has_74 hl (k := 4) rfl (congrArg (fun z_ => x4 + z_) (show Int32.ofInt (1) = (1 : Int32) by decide)) (by decide) rfl (fun ls hl => ?_)
            refine lv_goto (tgt := 3) hx hb dX11_has_77 (by decide) ?_
            exact ih _ _ _ _ _ _ _ _ h hw (lv_sub hl [1, 2, 3, 4, 0] rfl)
          · have h := h.1 c8
            refine lv_iconst (v := (1 : Int32)) hx hb dX11_has_72 (by decide) ?_
            exact db_zret S hr hlocks rfl hw h dX11_has_73
def wp_X11_has  (X : db_St) (x1 : Int32) (x2 : Int32) (x3 : Int32) (Q : Int32 → db_St → Prop) : Prop := (∃ f_, wp_X11_has_3 Q f_ X x1 x2 x3 (0 : Int32))
set_option maxHeartbeats 4000000 in
set_option maxRecDepth 100000 in
theorem ct_X11_has {l : Launch} {E : db_E}  {X : db_St} {x1 : Int32} {x2 : Int32} {x3 : Int32} {Q : Int32 → db_St → Prop} (h : wp_X11_has  X x1 x2 x3 Q) : db_MI l E yX11_has wsX11_has rm_X11_has X [.ref (db_ad E 90), .int x1, .int x2, .int x3] Q := by
  intro sz
  unfold wp_X11_has at h
  refine Met.ofW (cc := cX11_has) (maxL := 5) (ret := (some .boolean)) (by decide) rfl ?_
  intro p e s m args below meth c s₁ B hml hv
  obtain ⟨rfl, hsz, hU⟩ := hv
  subst hsz
  have S : CallFix p m c cX11_has 5 s ([.ref (db_ad E 90), .int x1, .int x2, .int x3] : List Value).toArray wsX11_has RX11 := ⟨B.exec, B.bytes, hml, findClass_of_methodNamed B.named, atoms_spec (ws := wsX11_has) B.pre⟩
  have hx := S.1
  have hb := S.2.1
  have hr := B.returns
  have hlocks := B.notSynchronized
  have hw := db_start hU
  have hiX11 : ∀ w ∈ wsX110, w ∈ wsX11_has := fun w_ h_ => List.mem_cons_of_mem _ (List.mem_append_right _ h_)
  have hl := lv_entry ([.ref (db_ad E 90), .int x1, .int x2, .int x3]) (n := 5) (Nat.le_of_ble_eq_true rfl)
  rw [lg_entry_eq]
  generalize (lg_sl ([.ref (db_ad E 90), .int x1, .int x2, .int x3]) ++ List.replicate (5 - (lg_sl ([.ref (db_ad E 90), .int x1, .int x2, .int x3])).length) Slot.unset).toArray = ls at hl ⊢
  have hl : lv_has ls 5 [(0, .ref (db_ad E 90)), (1, .int x1), (2, .int x2), (3, .int x3)] := hl
  refine lv_iconst (v := (0 : Int32)) hx hb dX11_has_0 (by decide) ?_
  refine lv_istore (lv' := [(4, .int (0 : Int32)), (0, .ref (db_ad E 90)), (1, .int x1), (2, .int x2), (3, .int x3)]) hx hb dX11_has_1 hl (by decide) rfl (fun ls hl => ?_)
  obtain ⟨f_, h⟩ := h
  exact tw_X11_has_3 S hr hlocks   f_ _ _ _ _ _ _ _ _ h hw (lv_sub hl [1, 2, 3, 4, 0] rfl)
-- DaysOnBreadModel.kin(I)I
abbrev rm_X11_kin : Room := { frames := 2, cells := 0, slots := 0, locals := 47 }
def wp_X11_kin_34 (k21 : db_St → Int32 → Int32 → Int32 → Int32 → Prop) (Q : Int32 → db_St → Prop) : Nat → db_St → Int32 → Int32 → Int32 → Int32 → Int32 → Int32 → Prop
  | 0, _, _, _, _, _, _, _ => False
  | n_ + 1, X, x1, x2, x3, x4, x5, x6 => (vp_in ((180 : Int32) + x1) 310 ∧ (((X.1 92 (((180 : Int32) + x1)).toNatClampNeg) ≤ x6 → ((x3 < x5 → k21 X x1 x4 x5 (x4 + (1 : Int32))) ∧ (¬ (x3 < x5) → k21 X x1 x2 x3 (x4 + (1 : Int32))))) ∧ (¬ ((X.1 92 (((180 : Int32) + x1)).toNatClampNeg) ≤ x6) → ((x4 = x1 → ((x3 < x5 → k21 X x1 x4 x5 (x4 + (1 : Int32))) ∧ (¬ (x3 < x5) → k21 X x1 x2 x3 (x4 + (1 : Int32))))) ∧ (¬ (x4 = x1) → wp_X11_has X x4 x1 x6 (fun r4 X4 => ((r4 = 0 → wp_X11_kin_34 k21 Q n_ X4 x1 x2 x3 x4 (x5 + (0 : Int32)) (x6 + (1 : Int32))) ∧ (¬ (r4 = 0) → wp_X11_kin_34 k21 Q n_ X4 x1 x2 x3 x4 (x5 + (1 : Int32)) (x6 + (1 : Int32))))))))))
set_option maxHeartbeats 4000000 in
set_option maxRecDepth 100000 in
theorem tw_X11_kin_34 {p : Program} {l : Launch} {e : Env} {s : State} {m : MethodId} {args : Array Value} {below : List Frame} {meth : Method} {c : Code} {E : db_E} (S : CallFix p m c cX11_kin 7 s args wsX11_kin RX11) (hr : meth.sig.returnType = (some .int)) (hlocks : meth.locks = false)  {Q : Int32 → db_St → Prop} {k21 : db_St → Int32 → Int32 → Int32 → Int32 → Prop} (hk21 : ∀ (X : db_St) (x1 : Int32) (x2 : Int32) (x3 : Int32) (x4 : Int32) (H : Heap) (locs : List Loc) (ls : Array Slot), k21 X x1 x2 x3 x4 → db_HW E (db_Aw E s.heap.size) s X H locs → lv_has ls 7 [(0, .ref (db_ad E 90)), (1, .int x1), (2, .int x2), (3, .int x3), (4, .int x4)] → W p l e rm_X11_kin s m args below meth c H locs 0 0 (MQ below (va_Qi Q (db_Po E) (db_Aw E s.heap.size)) args s 0 0 (db_Aw E s.heap.size)) (F0 m 21 ls [])) : ∀ (n : Nat) (X : db_St) (x1 : Int32) (x2 : Int32) (x3 : Int32) (x4 : Int32) (x5 : Int32) (x6 : Int32) (H : Heap) (locs : List Loc) (ls : Array Slot), wp_X11_kin_34 k21 Q n X x1 x2 x3 x4 x5 x6 → db_HW E (db_Aw E s.heap.size) s X H locs → lv_has ls 7 [(0, .ref (db_ad E 90)), (1, .int x1), (2, .int x2), (3, .int x3), (4, .int x4), (5, .int x5), (6, .int x6)] → W p l e rm_X11_kin s m args below meth c H locs 0 0 (MQ below (va_Qi Q (db_Po E) (db_Aw E s.heap.size)) args s 0 0 (db_Aw E s.heap.size)) (F0 m 34 ls []) := by
  have hx := S.1
  have hb := S.2.1
  have hiX11 : ∀ w ∈ wsX110, w ∈ wsX11_kin := fun w_ h_ => List.mem_cons_of_mem _ (List.mem_append_right _ h_)
  intro n
  induction n with
  | zero =>
    intro X x1 x2 x3 x4 x5 x6 H locs ls h hw hl
    exact False.elim h
  | succ n_ ih =>
    intro X x1 x2 x3 x4 x5 x6 H locs ls h hw hl
    unfold wp_X11_kin_34 at h
    refine lv_iload hx hb dX11_kin_34 (lv_at hl 6 rfl) ?_
    refine lv_aload_n hx hb dX11_kin_36 rfl (lv_at hl 0 rfl) ?_
    refine db_getr S hw (Nat.le_of_ble_eq_true rfl) db_s90 (C := RX11) (T := TX11) (N := 19) rfl hiX11 1 (by decide) (r := 92) rfl (List.mem_of_getElem? (i := 1) rfl) dX11_kin_37 ?_
    refine lv_sipush (v := (180 : Int32)) hx hb dX11_kin_40 (by decide) ?_
    refine lv_iload_n hx hb dX11_kin_43 rfl (lv_at hl 1 rfl) ?_
    refine lv_iadd hx hb dX11_kin_44 ?_
    obtain ⟨g1, h⟩ := h
    refine db_iald S hw (Nat.le_of_ble_eq_true rfl) db_s92 g1 dX11_kin_45 ?_
    refine lv_icmp_ge (tgt := 83) hx hb dX11_kin_46 (by decide) (fun c7 => ?_) (fun c7 => ?_)
    · have h := h.1 c7
      refine lv_iload hx hb dX11_kin_83 (lv_at hl 5 rfl) ?_
      refine lv_iload_n hx hb dX11_kin_85 rfl (lv_at hl 3 rfl) ?_
      refine lv_icmp_gt (tgt := 92) hx hb dX11_kin_86 (by decide) (fun c2 => ?_) (fun c2 => ?_)
      · have h := h.1 c2
        refine lv_iload hx hb dX11_kin_92 (lv_at hl 4 rfl) ?_
        refine lv_istore_n (lv' := [(2, .int x4), (0, .ref (db_ad E 90)), (1, .int x1), (3, .int x3), (4, .int x4), (5, .int x5), (6, .int x6)]) hx hb dX11_kin_94 rfl hl (by decide) rfl (fun ls hl => ?_)
        refine lv_iload hx hb dX11_kin_95 (lv_at hl 5 rfl) ?_
        refine lv_istore_n (lv' := [(3, .int x5), (2, .int x4), (0, .ref (db_ad E 90)), (1, .int x1), (4, .int x4), (5, .int x5), (6, .int x6)]) hx hb dX11_kin_97 rfl hl (by decide) rfl (fun ls hl => ?_)
        refine lv_iinc (v := (x4 + (1 : Int32))) (lv' := [(4, .int (x4 + (1 : Int32))), (3, .int x5), (2, .int x4), (0, .ref (db_ad E 90)), (1, .int x1), (5, .int x5), (6, .int x6)]) hx hb dX11_kin_98 hl (k := 4) rfl (congrArg (fun z_ => x4 + z_) (show Int32.ofInt (1) = (1 : Int32) by decide)) (by decide) rfl (fun ls hl => ?_)
        refine lv_goto (tgt := 21) hx hb dX11_kin_101 (by decide) ?_
        exact hk21 _ _ _ _ _ _ _ _ h hw (lv_sub hl [3, 4, 2, 1, 0] rfl)
      · have h := h.2 c2
        refine lv_goto (tgt := 98) hx hb dX11_kin_89 (by decide) ?_
        refine lv_iinc (v := (x4 + (1 : Int32))) (lv' := [(4, .int (x4 + (1 : Int32))), (0, .ref (db_ad E 90)), (1, .int x1), (2, .int x2), (3, .int x3), (5, .int x5), (6, .int x6)]) hx hb dX11_kin_98 hl (k := 4) rfl (congrArg (fun z_ => x4 + z_) (show Int32.ofInt (1) = (1 : Int32) by decide)) (by decide) rfl (fun ls hl => ?_)
        refine lv_goto (tgt := 21) hx hb dX11_kin_101 (by decide) ?_
        exact hk21 _ _ _ _ _ _ _ _ h hw (lv_sub hl [1, 2, 3, 4, 0] rfl)
    · have h := h.2 c7
      refine lv_iload hx hb dX11_kin_49 (lv_at hl 4 rfl) ?_
      refine lv_iload_n hx hb dX11_kin_51 rfl (lv_at hl 1 rfl) ?_
      refine lv_icmp_eq (tgt := 83) hx hb dX11_kin_52 (by decide) (fun c6 => ?_) (fun c6 => ?_)
      · have h := h.1 c6
        refine lv_iload hx hb dX11_kin_83 (lv_at hl 5 rfl) ?_
        refine lv_iload_n hx hb dX11_kin_85 rfl (lv_at hl 3 rfl) ?_
        refine lv_icmp_gt (tgt := 92) hx hb dX11_kin_86 (by decide) (fun c3 => ?_) (fun c3 => ?_)
        · have h := h.1 c3
          refine lv_iload hx hb dX11_kin_92 (lv_at hl 4 rfl) ?_
          refine lv_istore_n (lv' := [(2, .int x4), (0, .ref (db_ad E 90)), (1, .int x1), (3, .int x3), (4, .int x4), (5, .int x5), (6, .int x6)]) hx hb dX11_kin_94 rfl hl (by decide) rfl (fun ls hl => ?_)
          refine lv_iload hx hb dX11_kin_95 (lv_at hl 5 rfl) ?_
          refine lv_istore_n (lv' := [(3, .int x5), (2, .int x4), (0, .ref (db_ad E 90)), (1, .int x1), (4, .int x4), (5, .int x5), (6, .int x6)]) hx hb dX11_kin_97 rfl hl (by decide) rfl (fun ls hl => ?_)
          refine lv_iinc (v := (x4 + (1 : Int32))) (lv' := [(4, .int (x4 + (1 : Int32))), (3, .int x5), (2, .int x4), (0, .ref (db_ad E 90)), (1, .int x1), (5, .int x5), (6, .int x6)]) hx hb dX11_kin_98 hl (k := 4) rfl (congrArg (fun z_ => x4 + z_) (show Int32.ofInt (1) = (1 : Int32) by decide)) (by decide) rfl (fun ls hl => ?_)
          refine lv_goto (tgt := 21) hx hb dX11_kin_101 (by decide) ?_
          exact hk21 _ _ _ _ _ _ _ _ h hw (lv_sub hl [3, 4, 2, 1, 0] rfl)
        · have h := h.2 c3
          refine lv_goto (tgt := 98) hx hb dX11_kin_89 (by decide) ?_
          refine lv_iinc (v := (x4 + (1 : Int32))) (lv' := [(4, .int (x4 + (1 : Int32))), (0, .ref (db_ad E 90)), (1, .int x1), (2, .int x2), (3, .int x3), (5, .int x5), (6, .int x6)]) hx hb dX11_kin_98 hl (k := 4) rfl (congrArg (fun z_ => x4 + z_) (show Int32.ofInt (1) = (1 : Int32) by decide)) (by decide) rfl (fun ls hl => ?_)
          refine lv_goto (tgt := 21) hx hb dX11_kin_101 (by decide) ?_
          exact hk21 _ _ _ _ _ _ _ _ h hw (lv_sub hl [1, 2, 3, 4, 0] rfl)
      · have h := h.2 c6
        refine lv_iload hx hb dX11_kin_55 (lv_at hl 5 rfl) ?_
        refine lv_aload_n hx hb dX11_kin_57 rfl (lv_at hl 0 rfl) ?_
        refine lv_iload hx hb dX11_kin_58 (lv_at hl 4 rfl) ?_
        refine lv_iload_n hx hb dX11_kin_60 rfl (lv_at hl 1 rfl) ?_
        refine lv_iload hx hb dX11_kin_61 (lv_at hl 6 rfl) ?_
        refine db_callVi S hw (Nat.le_of_ble_eq_true rfl) db_s90 (C := RX11) (T := TX11) (N := 19) (As := [.int x4, .int x1, .int x6]) rfl (ct_X11_has  h) gX11_kin_X11_has rfl ⟨rfl, rfl, Nat.le_of_ble_eq_true rfl, Nat.le_of_ble_eq_true rfl⟩ 3 rfl (by decide +kernel) hl.1 rfl (Nat.le_of_ble_eq_true rfl) dX11_kin_63 ⟨Nat.zero_le _, Nat.zero_le _⟩ (fun r4 X4 H locs h hw => ?_)
        refine lv_if_eq (tgt := 73) hx hb dX11_kin_66 (by decide) (fun c5 => ?_) (fun c5 => ?_)
        · have h := h.1 c5
          refine lv_iconst (v := (0 : Int32)) hx hb dX11_kin_73 (by decide) ?_
          refine lv_iadd hx hb dX11_kin_74 ?_
          refine lv_istore (lv' := [(5, .int (x5 + (0 : Int32))), (0, .ref (db_ad E 90)), (1, .int x1), (2, .int x2), (3, .int x3), (4, .int x4), (6, .int x6)]) hx hb dX11_kin_75 hl (by decide) rfl (fun ls hl => ?_)
          refine lv_iinc (v := (x6 + (1 : Int32))) (lv' := [(6, .int (x6 + (1 : Int32))), (5, .int (x5 + (0 : Int32))), (0, .ref (db_ad E 90)), (1, .int x1), (2, .int x2), (3, .int x3), (4, .int x4)]) hx hb dX11_kin_77 hl (k := 6) rfl (congrArg (fun z_ => x6 + z_) (show Int32.ofInt (1) = (1 : Int32) by decide)) (by decide) rfl (fun ls hl => ?_)
          refine lv_goto (tgt := 34) hx hb dX11_kin_80 (by decide) ?_
          exact ih _ _ _ _ _ _ _ _ _ _ h hw (lv_sub hl [2, 3, 4, 5, 6, 1, 0] rfl)
        · have h := h.2 c5
          refine lv_iconst (v := (1 : Int32)) hx hb dX11_kin_69 (by decide) ?_
          refine lv_goto (tgt := 74) hx hb dX11_kin_70 (by decide) ?_
          refine lv_iadd hx hb dX11_kin_74 ?_
          refine lv_istore (lv' := [(5, .int (x5 + (1 : Int32))), (0, .ref (db_ad E 90)), (1, .int x1), (2, .int x2), (3, .int x3), (4, .int x4), (6, .int x6)]) hx hb dX11_kin_75 hl (by decide) rfl (fun ls hl => ?_)
          refine lv_iinc (v := (x6 + (1 : Int32))) (lv' := [(6, .int (x6 + (1 : Int32))), (5, .int (x5 + (1 : Int32))), (0, .ref (db_ad E 90)), (1, .int x1), (2, .int x2), (3, .int x3), (4, .int x4)]) hx hb dX11_kin_77 hl (k := 6) rfl (congrArg (fun z_ => x6 + z_) (show Int32.ofInt (1) = (1 : Int32) by decide)) (by decide) rfl (fun ls hl => ?_)
          refine lv_goto (tgt := 34) hx hb dX11_kin_80 (by decide) ?_
          exact ih _ _ _ _ _ _ _ _ _ _ h hw (lv_sub hl [2, 3, 4, 5, 6, 1, 0] rfl)
def wp_X11_kin_21 (Q : Int32 → db_St → Prop) : Nat → db_St → Int32 → Int32 → Int32 → Int32 → Prop
  | 0, _, _, _, _, _ => False
  | n_ + 1, X, x1, x2, x3, x4 => (((6 : Int32) ≤ x4 → Q x2 X) ∧ (¬ ((6 : Int32) ≤ x4) → (∃ f_, wp_X11_kin_34 (wp_X11_kin_21 Q n_) Q f_ X x1 x2 x3 x4 (0 : Int32) (0 : Int32))))
set_option maxHeartbeats 4000000 in
set_option maxRecDepth 100000 in
theorem tw_X11_kin_21 {p : Program} {l : Launch} {e : Env} {s : State} {m : MethodId} {args : Array Value} {below : List Frame} {meth : Method} {c : Code} {E : db_E} (S : CallFix p m c cX11_kin 7 s args wsX11_kin RX11) (hr : meth.sig.returnType = (some .int)) (hlocks : meth.locks = false)  {Q : Int32 → db_St → Prop} : ∀ (n : Nat) (X : db_St) (x1 : Int32) (x2 : Int32) (x3 : Int32) (x4 : Int32) (H : Heap) (locs : List Loc) (ls : Array Slot), wp_X11_kin_21 Q n X x1 x2 x3 x4 → db_HW E (db_Aw E s.heap.size) s X H locs → lv_has ls 7 [(0, .ref (db_ad E 90)), (1, .int x1), (2, .int x2), (3, .int x3), (4, .int x4)] → W p l e rm_X11_kin s m args below meth c H locs 0 0 (MQ below (va_Qi Q (db_Po E) (db_Aw E s.heap.size)) args s 0 0 (db_Aw E s.heap.size)) (F0 m 21 ls []) := by
  have hx := S.1
  have hb := S.2.1
  have hiX11 : ∀ w ∈ wsX110, w ∈ wsX11_kin := fun w_ h_ => List.mem_cons_of_mem _ (List.mem_append_right _ h_)
  intro n
  induction n with
  | zero =>
    intro X x1 x2 x3 x4 H locs ls h hw hl
    exact False.elim h
  | succ n_ ih =>
    intro X x1 x2 x3 x4 H locs ls h hw hl
    unfold wp_X11_kin_21 at h
    refine lv_iload hx hb dX11_kin_21 (lv_at hl 4 rfl) ?_
    refine lv_bipush (v := (6 : Int32)) hx hb dX11_kin_23 (by decide) ?_
    refine lv_icmp_ge (tgt := 104) hx hb dX11_kin_25 (by decide) (fun c1 => ?_) (fun c1 => ?_)
    · have h := h.1 c1
      refine lv_iload_n hx hb dX11_kin_104 rfl (lv_at hl 2 rfl) ?_
      exact db_iret S hr hlocks hw h dX11_kin_105
    · have h := h.2 c1
      refine lv_iconst (v := (0 : Int32)) hx hb dX11_kin_28 (by decide) ?_
      refine lv_istore (lv' := [(5, .int (0 : Int32)), (0, .ref (db_ad E 90)), (1, .int x1), (2, .int x2), (3, .int x3), (4, .int x4)]) hx hb dX11_kin_29 hl (by decide) rfl (fun ls hl => ?_)
      refine lv_iconst (v := (0 : Int32)) hx hb dX11_kin_31 (by decide) ?_
      refine lv_istore (lv' := [(6, .int (0 : Int32)), (5, .int (0 : Int32)), (0, .ref (db_ad E 90)), (1, .int x1), (2, .int x2), (3, .int x3), (4, .int x4)]) hx hb dX11_kin_32 hl (by decide) rfl (fun ls hl => ?_)
      obtain ⟨f_, h⟩ := h
      exact tw_X11_kin_34 S hr hlocks  ih f_ _ _ _ _ _ _ _ _ _ _ h hw (lv_sub hl [2, 3, 4, 5, 6, 1, 0] rfl)
def wp_X11_kin  (X : db_St) (x1 : Int32) (Q : Int32 → db_St → Prop) : Prop := wp_X11_isBook X x1 (fun r1 X1 => ((r1 = 0 → wp_X11_refuse X1 (-1 : Int32) (fun r2 X2 => Q r2 X2)) ∧ (¬ r1 = 0 → (∃ f_, wp_X11_kin_21 Q f_ X1 x1 (-9 : Int32) (0 : Int32) (0 : Int32)))))
set_option maxHeartbeats 4000000 in
set_option maxRecDepth 100000 in
theorem ct_X11_kin {l : Launch} {E : db_E}  {X : db_St} {x1 : Int32} {Q : Int32 → db_St → Prop} (h : wp_X11_kin  X x1 Q) : db_MI l E yX11_kin wsX11_kin rm_X11_kin X [.ref (db_ad E 90), .int x1] Q := by
  intro sz
  unfold wp_X11_kin at h
  refine Met.ofW (cc := cX11_kin) (maxL := 7) (ret := (some .int)) (by decide) rfl ?_
  intro p e s m args below meth c s₁ B hml hv
  obtain ⟨rfl, hsz, hU⟩ := hv
  subst hsz
  have S : CallFix p m c cX11_kin 7 s ([.ref (db_ad E 90), .int x1] : List Value).toArray wsX11_kin RX11 := ⟨B.exec, B.bytes, hml, findClass_of_methodNamed B.named, atoms_spec (ws := wsX11_kin) B.pre⟩
  have hx := S.1
  have hb := S.2.1
  have hr := B.returns
  have hlocks := B.notSynchronized
  have hw := db_start hU
  have hiX11 : ∀ w ∈ wsX110, w ∈ wsX11_kin := fun w_ h_ => List.mem_cons_of_mem _ (List.mem_append_right _ h_)
  have hl := lv_entry ([.ref (db_ad E 90), .int x1]) (n := 7) (Nat.le_of_ble_eq_true rfl)
  rw [lg_entry_eq]
  generalize (lg_sl ([.ref (db_ad E 90), .int x1]) ++ List.replicate (7 - (lg_sl ([.ref (db_ad E 90), .int x1])).length) Slot.unset).toArray = ls at hl ⊢
  have hl : lv_has ls 7 [(0, .ref (db_ad E 90)), (1, .int x1)] := hl
  refine lv_iload_n hx hb dX11_kin_0 rfl (lv_at hl 1 rfl) ?_
  refine db_callSi S hw (As := [.int x1]) (ct_X11_isBook  h) gX11_kin_X11_isBook rfl ⟨rfl, rfl, Nat.le_of_ble_eq_true rfl, Nat.le_of_ble_eq_true rfl⟩ 1 rfl (by decide +kernel) hl.1 rfl (Nat.le_of_ble_eq_true rfl) dX11_kin_1 ⟨Nat.zero_le _, Nat.zero_le _⟩ (fun r1 X1 H locs h hw => ?_)
  refine lv_if_ne (tgt := 13) hx hb dX11_kin_4 (by decide) (fun c3 => ?_) (fun c3 => ?_)
  · have h := h.2 c3
    refine lv_bipush (v := (-9 : Int32)) hx hb dX11_kin_13 (by decide) ?_
    refine lv_istore_n (lv' := [(2, .int (-9 : Int32)), (0, .ref (db_ad E 90)), (1, .int x1)]) hx hb dX11_kin_15 rfl hl (by decide) rfl (fun ls hl => ?_)
    refine lv_iconst (v := (0 : Int32)) hx hb dX11_kin_16 (by decide) ?_
    refine lv_istore_n (lv' := [(3, .int (0 : Int32)), (2, .int (-9 : Int32)), (0, .ref (db_ad E 90)), (1, .int x1)]) hx hb dX11_kin_17 rfl hl (by decide) rfl (fun ls hl => ?_)
    refine lv_iconst (v := (0 : Int32)) hx hb dX11_kin_18 (by decide) ?_
    refine lv_istore (lv' := [(4, .int (0 : Int32)), (3, .int (0 : Int32)), (2, .int (-9 : Int32)), (0, .ref (db_ad E 90)), (1, .int x1)]) hx hb dX11_kin_19 hl (by decide) rfl (fun ls hl => ?_)
    obtain ⟨f_, h⟩ := h
    exact tw_X11_kin_21 S hr hlocks   f_ _ _ _ _ _ _ _ _ h hw (lv_sub hl [3, 4, 2, 1, 0] rfl)
  · have h := h.1 c3
    refine lv_aload_n hx hb dX11_kin_7 rfl (lv_at hl 0 rfl) ?_
    refine lv_iconst (v := (-1 : Int32)) hx hb dX11_kin_8 (by decide) ?_
    refine db_callVi S hw (Nat.le_of_ble_eq_true rfl) db_s90 (C := RX11) (T := TX11) (N := 19) (As := [.int (-1 : Int32)]) rfl (ct_X11_refuse  h) gX11_kin_X11_refuse rfl ⟨rfl, rfl, Nat.le_of_ble_eq_true rfl, Nat.le_of_ble_eq_true rfl⟩ 1 rfl (by decide +kernel) hl.1 rfl (Nat.le_of_ble_eq_true rfl) dX11_kin_9 ⟨Nat.zero_le _, Nat.zero_le _⟩ (fun r2 X2 H locs h hw => ?_)
    exact db_iret S hr hlocks hw h dX11_kin_12
-- DaysOnBreadModel.image()I
abbrev rm_X11_image : Room := { frames := 0, cells := 0, slots := 0, locals := 0 }
def wp_X11_image_2 (Q : Int32 → db_St → Prop) : Nat → db_St → Int32 → Prop
  | 0, _, _ => False
  | n_ + 1, X, x1 => (((310 : Int32) ≤ x1 → (∀ X1, X1 = (db_si X 90 3 (1 : Int32)) → Q (X1.1 92 ((306 : Int32)).toNatClampNeg) X1)) ∧ (¬ ((310 : Int32) ≤ x1) → (vp_in x1 310 ∧ (vp_in x1 310 ∧ (∀ X4, X4 = (db_si X 93 (x1).toNatClampNeg (X.1 92 (x1).toNatClampNeg)) → wp_X11_image_2 Q n_ X4 (x1 + (1 : Int32)))))))
set_option maxHeartbeats 4000000 in
set_option maxRecDepth 100000 in
theorem tw_X11_image_2 {p : Program} {l : Launch} {e : Env} {s : State} {m : MethodId} {args : Array Value} {below : List Frame} {meth : Method} {c : Code} {E : db_E} (S : CallFix p m c cX11_image 2 s args wsX11_image RX11) (hr : meth.sig.returnType = (some .int)) (hlocks : meth.locks = false)  {Q : Int32 → db_St → Prop} : ∀ (n : Nat) (X : db_St) (x1 : Int32) (H : Heap) (locs : List Loc) (ls : Array Slot), wp_X11_image_2 Q n X x1 → db_HW E (db_Aw E s.heap.size) s X H locs → lv_has ls 2 [(0, .ref (db_ad E 90)), (1, .int x1)] → W p l e rm_X11_image s m args below meth c H locs 0 0 (MQ below (va_Qi Q (db_Po E) (db_Aw E s.heap.size)) args s 0 0 (db_Aw E s.heap.size)) (F0 m 2 ls []) := by
  have hx := S.1
  have hb := S.2.1
  have hiX11 : ∀ w ∈ wsX110, w ∈ wsX11_image := fun w_ h_ => List.mem_cons_of_mem _ (List.mem_append_right _ h_)
  intro n
  induction n with
  | zero =>
    intro X x1 H locs ls h hw hl
    exact False.elim h
  | succ n_ ih =>
    intro X x1 H locs ls h hw hl
    unfold wp_X11_image_2 at h
    refine lv_iload_n hx hb dX11_image_2 rfl (lv_at hl 1 rfl) ?_
    refine lv_sipush (v := (310 : Int32)) hx hb dX11_image_3 (by decide) ?_
    refine lv_icmp_ge (tgt := 27) hx hb dX11_image_6 (by decide) (fun c5 => ?_) (fun c5 => ?_)
    · have h := h.1 c5
      refine lv_aload_n hx hb dX11_image_27 rfl (lv_at hl 0 rfl) ?_
      refine lv_iconst (v := (1 : Int32)) hx hb dX11_image_28 (by decide) ?_
      refine db_puti S hw (Nat.le_of_ble_eq_true rfl) db_s90 (C := RX11) (T := TX11) (N := 19) rfl hiX11 tyX11_ok nmX11 3 (by decide) rfl (List.mem_of_getElem? (i := 3) rfl) rfl ⟨rfl, rfl⟩ dX11_image_29 (fun H locs hw => ?_)
      obtain ⟨X1, e1, hw⟩ : ∃ Z_, Z_ = (db_si X 90 3 (1 : Int32)) ∧ db_HW E (db_Aw E s.heap.size) s Z_ H locs := ⟨_, rfl, hw⟩
      have h := h X1 e1
      refine lv_aload_n hx hb dX11_image_32 rfl (lv_at hl 0 rfl) ?_
      refine db_getr S hw (Nat.le_of_ble_eq_true rfl) db_s90 (C := RX11) (T := TX11) (N := 19) rfl hiX11 1 (by decide) (r := 92) rfl (List.mem_of_getElem? (i := 2) rfl) dX11_image_33 ?_
      refine lv_sipush (v := (306 : Int32)) hx hb dX11_image_36 (by decide) ?_
      refine db_iald S hw (Nat.le_of_ble_eq_true rfl) db_s92 (show ¬ ((306 : Int32) < 0 ∨ 310 ≤ ((306 : Int32) : Int32).toNatClampNeg) by decide) dX11_image_39 ?_
      exact db_iret S hr hlocks hw h dX11_image_40
    · have h := h.2 c5
      refine lv_aload_n hx hb dX11_image_9 rfl (lv_at hl 0 rfl) ?_
      refine db_getr S hw (Nat.le_of_ble_eq_true rfl) db_s90 (C := RX11) (T := TX11) (N := 19) rfl hiX11 2 (by decide) (r := 93) rfl (List.mem_of_getElem? (i := 1) rfl) dX11_image_10 ?_
      refine lv_iload_n hx hb dX11_image_13 rfl (lv_at hl 1 rfl) ?_
      refine lv_aload_n hx hb dX11_image_14 rfl (lv_at hl 0 rfl) ?_
      refine db_getr S hw (Nat.le_of_ble_eq_true rfl) db_s90 (C := RX11) (T := TX11) (N := 19) rfl hiX11 1 (by decide) (r := 92) rfl (List.mem_of_getElem? (i := 2) rfl) dX11_image_15 ?_
      refine lv_iload_n hx hb dX11_image_18 rfl (lv_at hl 1 rfl) ?_
      obtain ⟨g2, h⟩ := h
      refine db_iald S hw (Nat.le_of_ble_eq_true rfl) db_s92 g2 dX11_image_19 ?_
      obtain ⟨g3, h⟩ := h
      refine db_iast S hw (Nat.le_of_ble_eq_true rfl) db_s93 g3 dX11_image_20 (fun H locs hw => ?_)
      obtain ⟨X4, e4, hw⟩ : ∃ Z_, Z_ = (db_si X 93 (x1).toNatClampNeg (X.1 92 (x1).toNatClampNeg)) ∧ db_HW E (db_Aw E s.heap.size) s Z_ H locs := ⟨_, rfl, hw⟩
      have h := h X4 e4
      refine lv_iinc (v := (x1 + (1 : Int32))) (lv' := [(1, .int (x1 + (1 : Int32))), (0, .ref (db_ad E 90))]) hx hb dX11_image_21 hl (k := 1) rfl (congrArg (fun z_ => x1 + z_) (show Int32.ofInt (1) = (1 : Int32) by decide)) (by decide) rfl (fun ls hl => ?_)
      refine lv_goto (tgt := 2) hx hb dX11_image_24 (by decide) ?_
      exact ih _ _ _ _ _ h hw (lv_sub hl [1, 0] rfl)
def wp_X11_image  (X : db_St)  (Q : Int32 → db_St → Prop) : Prop := (∃ f_, wp_X11_image_2 Q f_ X (0 : Int32))
set_option maxHeartbeats 4000000 in
set_option maxRecDepth 100000 in
theorem ct_X11_image {l : Launch} {E : db_E}  {X : db_St}  {Q : Int32 → db_St → Prop} (h : wp_X11_image  X  Q) : db_MI l E yX11_image wsX11_image rm_X11_image X [.ref (db_ad E 90)] Q := by
  intro sz
  unfold wp_X11_image at h
  refine Met.ofW (cc := cX11_image) (maxL := 2) (ret := (some .int)) (by decide) rfl ?_
  intro p e s m args below meth c s₁ B hml hv
  obtain ⟨rfl, hsz, hU⟩ := hv
  subst hsz
  have S : CallFix p m c cX11_image 2 s ([.ref (db_ad E 90)] : List Value).toArray wsX11_image RX11 := ⟨B.exec, B.bytes, hml, findClass_of_methodNamed B.named, atoms_spec (ws := wsX11_image) B.pre⟩
  have hx := S.1
  have hb := S.2.1
  have hr := B.returns
  have hlocks := B.notSynchronized
  have hw := db_start hU
  have hiX11 : ∀ w ∈ wsX110, w ∈ wsX11_image := fun w_ h_ => List.mem_cons_of_mem _ (List.mem_append_right _ h_)
  have hl := lv_entry ([.ref (db_ad E 90)]) (n := 2) (Nat.le_of_ble_eq_true rfl)
  rw [lg_entry_eq]
  generalize (lg_sl ([.ref (db_ad E 90)]) ++ List.replicate (2 - (lg_sl ([.ref (db_ad E 90)])).length) Slot.unset).toArray = ls at hl ⊢
  have hl : lv_has ls 2 [(0, .ref (db_ad E 90))] := hl
  refine lv_iconst (v := (0 : Int32)) hx hb dX11_image_0 (by decide) ?_
  refine lv_istore_n (lv' := [(1, .int (0 : Int32)), (0, .ref (db_ad E 90))]) hx hb dX11_image_1 rfl hl (by decide) rfl (fun ls hl => ?_)
  obtain ⟨f_, h⟩ := h
  exact tw_X11_image_2 S hr hlocks   f_ _ _ _ _ _ h hw (lv_sub hl [1, 0] rfl)
-- DaysOnBreadModel.on()I
abbrev rm_X11_on : Room := { frames := 1, cells := 0, slots := 0, locals := 21 }
def wp_X11_on_16 (Q : Int32 → db_St → Prop) : Nat → db_St → Int32 → Prop
  | 0, _, _ => False
  | n_ + 1, X, x1 => (((310 : Int32) ≤ x1 → Q (X.1 92 ((306 : Int32)).toNatClampNeg) X) ∧ (¬ ((310 : Int32) ≤ x1) → (vp_in x1 310 ∧ (vp_in x1 310 ∧ (∀ X3, X3 = (db_si X 92 (x1).toNatClampNeg (X.1 93 (x1).toNatClampNeg)) → wp_X11_on_16 Q n_ X3 (x1 + (1 : Int32)))))))
set_option maxHeartbeats 4000000 in
set_option maxRecDepth 100000 in
theorem tw_X11_on_16 {p : Program} {l : Launch} {e : Env} {s : State} {m : MethodId} {args : Array Value} {below : List Frame} {meth : Method} {c : Code} {E : db_E} (S : CallFix p m c cX11_on 2 s args wsX11_on RX11) (hr : meth.sig.returnType = (some .int)) (hlocks : meth.locks = false)  {Q : Int32 → db_St → Prop} : ∀ (n : Nat) (X : db_St) (x1 : Int32) (H : Heap) (locs : List Loc) (ls : Array Slot), wp_X11_on_16 Q n X x1 → db_HW E (db_Aw E s.heap.size) s X H locs → lv_has ls 2 [(0, .ref (db_ad E 90)), (1, .int x1)] → W p l e rm_X11_on s m args below meth c H locs 0 0 (MQ below (va_Qi Q (db_Po E) (db_Aw E s.heap.size)) args s 0 0 (db_Aw E s.heap.size)) (F0 m 16 ls []) := by
  have hx := S.1
  have hb := S.2.1
  have hiX11 : ∀ w ∈ wsX110, w ∈ wsX11_on := fun w_ h_ => List.mem_cons_of_mem _ (List.mem_append_right _ h_)
  intro n
  induction n with
  | zero =>
    intro X x1 H locs ls h hw hl
    exact False.elim h
  | succ n_ ih =>
    intro X x1 H locs ls h hw hl
    unfold wp_X11_on_16 at h
    refine lv_iload_n hx hb dX11_on_16 rfl (lv_at hl 1 rfl) ?_
    refine lv_sipush (v := (310 : Int32)) hx hb dX11_on_17 (by decide) ?_
    refine lv_icmp_ge (tgt := 41) hx hb dX11_on_20 (by decide) (fun c4 => ?_) (fun c4 => ?_)
    · have h := h.1 c4
      refine lv_aload_n hx hb dX11_on_41 rfl (lv_at hl 0 rfl) ?_
      refine db_getr S hw (Nat.le_of_ble_eq_true rfl) db_s90 (C := RX11) (T := TX11) (N := 19) rfl hiX11 1 (by decide) (r := 92) rfl (List.mem_of_getElem? (i := 2) rfl) dX11_on_42 ?_
      refine lv_sipush (v := (306 : Int32)) hx hb dX11_on_45 (by decide) ?_
      refine db_iald S hw (Nat.le_of_ble_eq_true rfl) db_s92 (show ¬ ((306 : Int32) < 0 ∨ 310 ≤ ((306 : Int32) : Int32).toNatClampNeg) by decide) dX11_on_48 ?_
      exact db_iret S hr hlocks hw h dX11_on_49
    · have h := h.2 c4
      refine lv_aload_n hx hb dX11_on_23 rfl (lv_at hl 0 rfl) ?_
      refine db_getr S hw (Nat.le_of_ble_eq_true rfl) db_s90 (C := RX11) (T := TX11) (N := 19) rfl hiX11 1 (by decide) (r := 92) rfl (List.mem_of_getElem? (i := 2) rfl) dX11_on_24 ?_
      refine lv_iload_n hx hb dX11_on_27 rfl (lv_at hl 1 rfl) ?_
      refine lv_aload_n hx hb dX11_on_28 rfl (lv_at hl 0 rfl) ?_
      refine db_getr S hw (Nat.le_of_ble_eq_true rfl) db_s90 (C := RX11) (T := TX11) (N := 19) rfl hiX11 2 (by decide) (r := 93) rfl (List.mem_of_getElem? (i := 3) rfl) dX11_on_29 ?_
      refine lv_iload_n hx hb dX11_on_32 rfl (lv_at hl 1 rfl) ?_
      obtain ⟨g1, h⟩ := h
      refine db_iald S hw (Nat.le_of_ble_eq_true rfl) db_s93 g1 dX11_on_33 ?_
      obtain ⟨g2, h⟩ := h
      refine db_iast S hw (Nat.le_of_ble_eq_true rfl) db_s92 g2 dX11_on_34 (fun H locs hw => ?_)
      obtain ⟨X3, e3, hw⟩ : ∃ Z_, Z_ = (db_si X 92 (x1).toNatClampNeg (X.1 93 (x1).toNatClampNeg)) ∧ db_HW E (db_Aw E s.heap.size) s Z_ H locs := ⟨_, rfl, hw⟩
      have h := h X3 e3
      refine lv_iinc (v := (x1 + (1 : Int32))) (lv' := [(1, .int (x1 + (1 : Int32))), (0, .ref (db_ad E 90))]) hx hb dX11_on_35 hl (k := 1) rfl (congrArg (fun z_ => x1 + z_) (show Int32.ofInt (1) = (1 : Int32) by decide)) (by decide) rfl (fun ls hl => ?_)
      refine lv_goto (tgt := 16) hx hb dX11_on_38 (by decide) ?_
      exact ih _ _ _ _ _ h hw (lv_sub hl [1, 0] rfl)
def wp_X11_on  (X : db_St)  (Q : Int32 → db_St → Prop) : Prop := (((X.1 90 3) = 0 → wp_X11_refuse X (-3 : Int32) (fun r1 X1 => Q r1 X1)) ∧ (¬ (X.1 90 3) = 0 → (∃ f_, wp_X11_on_16 Q f_ X (0 : Int32))))
set_option maxHeartbeats 4000000 in
set_option maxRecDepth 100000 in
theorem ct_X11_on {l : Launch} {E : db_E}  {X : db_St}  {Q : Int32 → db_St → Prop} (h : wp_X11_on  X  Q) : db_MI l E yX11_on wsX11_on rm_X11_on X [.ref (db_ad E 90)] Q := by
  intro sz
  unfold wp_X11_on at h
  refine Met.ofW (cc := cX11_on) (maxL := 2) (ret := (some .int)) (by decide) rfl ?_
  intro p e s m args below meth c s₁ B hml hv
  obtain ⟨rfl, hsz, hU⟩ := hv
  subst hsz
  have S : CallFix p m c cX11_on 2 s ([.ref (db_ad E 90)] : List Value).toArray wsX11_on RX11 := ⟨B.exec, B.bytes, hml, findClass_of_methodNamed B.named, atoms_spec (ws := wsX11_on) B.pre⟩
  have hx := S.1
  have hb := S.2.1
  have hr := B.returns
  have hlocks := B.notSynchronized
  have hw := db_start hU
  have hiX11 : ∀ w ∈ wsX110, w ∈ wsX11_on := fun w_ h_ => List.mem_cons_of_mem _ (List.mem_append_right _ h_)
  have hl := lv_entry ([.ref (db_ad E 90)]) (n := 2) (Nat.le_of_ble_eq_true rfl)
  rw [lg_entry_eq]
  generalize (lg_sl ([.ref (db_ad E 90)]) ++ List.replicate (2 - (lg_sl ([.ref (db_ad E 90)])).length) Slot.unset).toArray = ls at hl ⊢
  have hl : lv_has ls 2 [(0, .ref (db_ad E 90))] := hl
  refine lv_aload_n hx hb dX11_on_0 rfl (lv_at hl 0 rfl) ?_
  refine db_geti S hw (Nat.le_of_ble_eq_true rfl) db_s90 (C := RX11) (T := TX11) (N := 19) rfl hiX11 3 (by decide) rfl (List.mem_of_getElem? (i := 1) rfl) dX11_on_1 ?_
  refine lv_if_ne (tgt := 14) hx hb dX11_on_4 (by decide) (fun c2 => ?_) (fun c2 => ?_)
  · have h := h.2 c2
    refine lv_iconst (v := (0 : Int32)) hx hb dX11_on_14 (by decide) ?_
    refine lv_istore_n (lv' := [(1, .int (0 : Int32)), (0, .ref (db_ad E 90))]) hx hb dX11_on_15 rfl hl (by decide) rfl (fun ls hl => ?_)
    obtain ⟨f_, h⟩ := h
    exact tw_X11_on_16 S hr hlocks   f_ _ _ _ _ _ h hw (lv_sub hl [1, 0] rfl)
  · have h := h.1 c2
    refine lv_aload_n hx hb dX11_on_7 rfl (lv_at hl 0 rfl) ?_
    refine lv_bipush (v := (-3 : Int32)) hx hb dX11_on_8 (by decide) ?_
    refine db_callVi S hw (Nat.le_of_ble_eq_true rfl) db_s90 (C := RX11) (T := TX11) (N := 19) (As := [.int (-3 : Int32)]) rfl (ct_X11_refuse  h) gX11_on_X11_refuse rfl ⟨rfl, rfl, Nat.le_of_ble_eq_true rfl, Nat.le_of_ble_eq_true rfl⟩ 1 rfl (by decide +kernel) hl.1 rfl (Nat.le_of_ble_eq_true rfl) dX11_on_10 ⟨Nat.zero_le _, Nat.zero_le _⟩ (fun r1 X1 H locs h hw => ?_)
    exact db_iret S hr hlocks hw h dX11_on_13
-- DaysOnBreadModel.count(I)I
abbrev rm_X11_count : Room := { frames := 1, cells := 0, slots := 0, locals := 22 }
def wp_X11_count_66 (Q : Int32 → db_St → Prop) : Nat → db_St → Int32 → Int32 → Prop
  | 0, _, _, _ => False
  | n_ + 1, X, x2, x3 => (((6 : Int32) ≤ x3 → Q x2 X) ∧ (¬ ((6 : Int32) ≤ x3) → (vp_in ((180 : Int32) + x3) 310 ∧ (∀ z2, z2 = (x2 + (X.1 92 (((180 : Int32) + x3)).toNatClampNeg)) → wp_X11_count_66 Q n_ X z2 (x3 + (1 : Int32))))))
set_option maxHeartbeats 4000000 in
set_option maxRecDepth 100000 in
theorem tw_X11_count_66 {p : Program} {l : Launch} {e : Env} {s : State} {m : MethodId} {args : Array Value} {below : List Frame} {meth : Method} {c : Code} {E : db_E} (S : CallFix p m c cX11_count 4 s args wsX11_count RX11) (hr : meth.sig.returnType = (some .int)) (hlocks : meth.locks = false)  {Q : Int32 → db_St → Prop} : ∀ (n : Nat) (X : db_St) (x2 : Int32) (x3 : Int32) (H : Heap) (locs : List Loc) (ls : Array Slot), wp_X11_count_66 Q n X x2 x3 → db_HW E (db_Aw E s.heap.size) s X H locs → lv_has ls 4 [(0, .ref (db_ad E 90)), (2, .int x2), (3, .int x3)] → W p l e rm_X11_count s m args below meth c H locs 0 0 (MQ below (va_Qi Q (db_Po E) (db_Aw E s.heap.size)) args s 0 0 (db_Aw E s.heap.size)) (F0 m 66 ls []) := by
  have hx := S.1
  have hb := S.2.1
  have hiX11 : ∀ w ∈ wsX110, w ∈ wsX11_count := fun w_ h_ => List.mem_cons_of_mem _ (List.mem_append_right _ h_)
  intro n
  induction n with
  | zero =>
    intro X x2 x3 H locs ls h hw hl
    exact False.elim h
  | succ n_ ih =>
    intro X x2 x3 H locs ls h hw hl
    unfold wp_X11_count_66 at h
    refine lv_iload_n hx hb dX11_count_66 rfl (lv_at hl 2 rfl) ?_
    refine lv_bipush (v := (6 : Int32)) hx hb dX11_count_67 (by decide) ?_
    refine lv_icmp_ge (tgt := 91) hx hb dX11_count_69 (by decide) (fun c3 => ?_) (fun c3 => ?_)
    · have h := h.1 c3
      refine lv_iload_n hx hb dX11_count_91 rfl (lv_at hl 1 rfl) ?_
      exact db_iret S hr hlocks hw h dX11_count_92
    · have h := h.2 c3
      refine lv_iload_n hx hb dX11_count_72 rfl (lv_at hl 1 rfl) ?_
      refine lv_aload_n hx hb dX11_count_73 rfl (lv_at hl 0 rfl) ?_
      refine db_getr S hw (Nat.le_of_ble_eq_true rfl) db_s90 (C := RX11) (T := TX11) (N := 19) rfl hiX11 1 (by decide) (r := 92) rfl (List.mem_of_getElem? (i := 2) rfl) dX11_count_74 ?_
      refine lv_sipush (v := (180 : Int32)) hx hb dX11_count_77 (by decide) ?_
      refine lv_iload_n hx hb dX11_count_80 rfl (lv_at hl 2 rfl) ?_
      refine lv_iadd hx hb dX11_count_81 ?_
      obtain ⟨g1, h⟩ := h
      refine db_iald S hw (Nat.le_of_ble_eq_true rfl) db_s92 g1 dX11_count_82 ?_
      refine lv_iadd hx hb dX11_count_83 ?_
      refine lv_topi (fun z2 e2 => ?_)
      have h := h z2 e2
      refine lv_istore_n (lv' := [(2, .int z2), (0, .ref (db_ad E 90)), (3, .int x3)]) hx hb dX11_count_84 rfl hl (by decide) rfl (fun ls hl => ?_)
      refine lv_iinc (v := (x3 + (1 : Int32))) (lv' := [(3, .int (x3 + (1 : Int32))), (2, .int z2), (0, .ref (db_ad E 90))]) hx hb dX11_count_85 hl (k := 2) rfl (congrArg (fun z_ => x3 + z_) (show Int32.ofInt (1) = (1 : Int32) by decide)) (by decide) rfl (fun ls hl => ?_)
      refine lv_goto (tgt := 66) hx hb dX11_count_88 (by decide) ?_
      exact ih _ _ _ _ _ _ h hw (lv_sub hl [2, 1, 0] rfl)
def wp_X11_count_22 (Q : Int32 → db_St → Prop) (X : db_St) (x1 : Int32) : Prop := ((x1 = (0 : Int32) → (∃ f_, wp_X11_count_66 Q f_ X (0 : Int32) (0 : Int32))) ∧ (¬ x1 = (0 : Int32) → ((x1 = (1 : Int32) → Q (X.1 92 ((306 : Int32)).toNatClampNeg) X) ∧ (¬ x1 = (1 : Int32) → ((x1 = (2 : Int32) → Q (X.1 92 ((307 : Int32)).toNatClampNeg) X) ∧ (¬ x1 = (2 : Int32) → ((x1 = (3 : Int32) → Q (X.1 90 5) X) ∧ (¬ x1 = (3 : Int32) → ((x1 = (4 : Int32) → Q (X.1 90 17) X) ∧ (¬ x1 = (4 : Int32) → ((x1 = (5 : Int32) → wp_X11_bits X (X.1 92 ((308 : Int32)).toNatClampNeg) (fun r7 X7 => Q r7 X7)) ∧ (¬ x1 = (5 : Int32) → Q (-9 : Int32) X))))))))))))
set_option maxHeartbeats 4000000 in
set_option maxRecDepth 100000 in
theorem tw_X11_count_22 {p : Program} {l : Launch} {e : Env} {s : State} {m : MethodId} {args : Array Value} {below : List Frame} {meth : Method} {c : Code} {E : db_E} (S : CallFix p m c cX11_count 4 s args wsX11_count RX11) (hr : meth.sig.returnType = (some .int)) (hlocks : meth.locks = false)  {Q : Int32 → db_St → Prop} : ∀ (X : db_St) (x1 : Int32) (H : Heap) (locs : List Loc) (ls : Array Slot), wp_X11_count_22 Q X x1 → db_HW E (db_Aw E s.heap.size) s X H locs → lv_has ls 4 [(0, .ref (db_ad E 90)), (1, .int x1)] → W p l e rm_X11_count s m args below meth c H locs 0 0 (MQ below (va_Qi Q (db_Po E) (db_Aw E s.heap.size)) args s 0 0 (db_Aw E s.heap.size)) (F0 m 22 ls []) := by
  have hx := S.1
  have hb := S.2.1
  have hiX11 : ∀ w ∈ wsX110, w ∈ wsX11_count := fun w_ h_ => List.mem_cons_of_mem _ (List.mem_append_right _ h_)
  intro X x1 H locs ls h hw hl
  unfold wp_X11_count_22 at h
  refine lv_iconst (v := (0 : Int32)) hx hb dX11_count_22 (by decide) ?_
  refine lv_istore_n (lv' := [(2, .int (0 : Int32)), (0, .ref (db_ad E 90)), (1, .int x1)]) hx hb dX11_count_23 rfl hl (by decide) rfl (fun ls hl => ?_)
  refine lv_iload_n hx hb dX11_count_24 rfl (lv_at hl 2 rfl) ?_
  by_cases c1 : x1 = (0 : Int32)
  · have h := h.1 c1
    refine lv_tableIn (off := 39) (tgt := 64) hx hb dX11_count_25 (by rw [c1]; decide) (by rw [c1]; decide) (by rw [c1]; rfl) (by decide) ?_
    refine lv_iconst (v := (0 : Int32)) hx hb dX11_count_64 (by decide) ?_
    refine lv_istore_n (lv' := [(3, .int (0 : Int32)), (2, .int (0 : Int32)), (0, .ref (db_ad E 90)), (1, .int x1)]) hx hb dX11_count_65 rfl hl (by decide) rfl (fun ls hl => ?_)
    obtain ⟨f_, h⟩ := h
    exact tw_X11_count_66 S hr hlocks   f_ _ _ _ _ _ _ h hw (lv_sub hl [2, 1, 0] rfl)
  · have h := h.2 c1
    by_cases c2 : x1 = (1 : Int32)
    · have h := h.1 c2
      refine lv_tableIn (off := 68) (tgt := 93) hx hb dX11_count_25 (by rw [c2]; decide) (by rw [c2]; decide) (by rw [c2]; rfl) (by decide) ?_
      refine lv_aload_n hx hb dX11_count_93 rfl (lv_at hl 1 rfl) ?_
      refine db_getr S hw (Nat.le_of_ble_eq_true rfl) db_s90 (C := RX11) (T := TX11) (N := 19) rfl hiX11 1 (by decide) (r := 92) rfl (List.mem_of_getElem? (i := 2) rfl) dX11_count_94 ?_
      refine lv_sipush (v := (306 : Int32)) hx hb dX11_count_97 (by decide) ?_
      refine db_iald S hw (Nat.le_of_ble_eq_true rfl) db_s92 (show ¬ ((306 : Int32) < 0 ∨ 310 ≤ ((306 : Int32) : Int32).toNatClampNeg) by decide) dX11_count_100 ?_
      exact db_iret S hr hlocks hw h dX11_count_101
    · have h := h.2 c2
      by_cases c3 : x1 = (2 : Int32)
      · have h := h.1 c3
        refine lv_tableIn (off := 77) (tgt := 102) hx hb dX11_count_25 (by rw [c3]; decide) (by rw [c3]; decide) (by rw [c3]; rfl) (by decide) ?_
        refine lv_aload_n hx hb dX11_count_102 rfl (lv_at hl 1 rfl) ?_
        refine db_getr S hw (Nat.le_of_ble_eq_true rfl) db_s90 (C := RX11) (T := TX11) (N := 19) rfl hiX11 1 (by decide) (r := 92) rfl (List.mem_of_getElem? (i := 2) rfl) dX11_count_103 ?_
        refine lv_sipush (v := (307 : Int32)) hx hb dX11_count_106 (by decide) ?_
        refine db_iald S hw (Nat.le_of_ble_eq_true rfl) db_s92 (show ¬ ((307 : Int32) < 0 ∨ 310 ≤ ((307 : Int32) : Int32).toNatClampNeg) by decide) dX11_count_109 ?_
        exact db_iret S hr hlocks hw h dX11_count_110
      · have h := h.2 c3
        by_cases c4 : x1 = (3 : Int32)
        · have h := h.1 c4
          refine lv_tableIn (off := 86) (tgt := 111) hx hb dX11_count_25 (by rw [c4]; decide) (by rw [c4]; decide) (by rw [c4]; rfl) (by decide) ?_
          refine lv_aload_n hx hb dX11_count_111 rfl (lv_at hl 1 rfl) ?_
          refine db_geti S hw (Nat.le_of_ble_eq_true rfl) db_s90 (C := RX11) (T := TX11) (N := 19) rfl hiX11 5 (by decide) rfl (List.mem_of_getElem? (i := 3) rfl) dX11_count_112 ?_
          exact db_iret S hr hlocks hw h dX11_count_115
        · have h := h.2 c4
          by_cases c5 : x1 = (4 : Int32)
          · have h := h.1 c5
            refine lv_tableIn (off := 91) (tgt := 116) hx hb dX11_count_25 (by rw [c5]; decide) (by rw [c5]; decide) (by rw [c5]; rfl) (by decide) ?_
            refine lv_aload_n hx hb dX11_count_116 rfl (lv_at hl 1 rfl) ?_
            refine db_geti S hw (Nat.le_of_ble_eq_true rfl) db_s90 (C := RX11) (T := TX11) (N := 19) rfl hiX11 17 (by decide) rfl (List.mem_of_getElem? (i := 4) rfl) dX11_count_117 ?_
            exact db_iret S hr hlocks hw h dX11_count_120
          · have h := h.2 c5
            by_cases c6 : x1 = (5 : Int32)
            · have h := h.1 c6
              refine lv_tableIn (off := 96) (tgt := 121) hx hb dX11_count_25 (by rw [c6]; decide) (by rw [c6]; decide) (by rw [c6]; rfl) (by decide) ?_
              refine lv_aload_n hx hb dX11_count_121 rfl (lv_at hl 1 rfl) ?_
              refine db_getr S hw (Nat.le_of_ble_eq_true rfl) db_s90 (C := RX11) (T := TX11) (N := 19) rfl hiX11 1 (by decide) (r := 92) rfl (List.mem_of_getElem? (i := 2) rfl) dX11_count_122 ?_
              refine lv_sipush (v := (308 : Int32)) hx hb dX11_count_125 (by decide) ?_
              refine db_iald S hw (Nat.le_of_ble_eq_true rfl) db_s92 (show ¬ ((308 : Int32) < 0 ∨ 310 ≤ ((308 : Int32) : Int32).toNatClampNeg) by decide) dX11_count_128 ?_
              refine db_callSi S hw (As := [.int (X.1 92 ((308 : Int32)).toNatClampNeg)]) (ct_X11_bits  h) gX11_count_X11_bits rfl ⟨rfl, rfl, Nat.le_of_ble_eq_true rfl, Nat.le_of_ble_eq_true rfl⟩ 1 rfl (by decide +kernel) hl.1 rfl (Nat.le_of_ble_eq_true rfl) dX11_count_129 ⟨Nat.zero_le _, Nat.zero_le _⟩ (fun r7 X7 H locs h hw => ?_)
              exact db_iret S hr hlocks hw h dX11_count_132
            · have h := h.2 c6
              refine lv_tableOut (tgt := 133) hx hb dX11_count_25 (by have z0_ := lv_neT (a := 0) c1 rfl; have z1_ := lv_neT (a := 1) c2 rfl; have z2_ := lv_neT (a := 2) c3 rfl; have z3_ := lv_neT (a := 3) c4 rfl; have z4_ := lv_neT (a := 4) c5 rfl; have z5_ := lv_neT (a := 5) c6 rfl; omega) (by decide) ?_
              refine lv_bipush (v := (-9 : Int32)) hx hb dX11_count_133 (by decide) ?_
              exact db_iret S hr hlocks hw h dX11_count_135
def wp_X11_count  (X : db_St) (x1 : Int32) (Q : Int32 → db_St → Prop) : Prop := ((x1 ≤ (10 : Int32) → wp_X11_count_22 Q X x1) ∧ (¬ (x1 ≤ (10 : Int32)) → (((17 : Int32) ≤ x1 → wp_X11_count_22 Q X x1) ∧ (¬ ((17 : Int32) ≤ x1) → (vp_in (x1 - (10 : Int32)) 7 ∧ Q (X.1 91 ((x1 - (10 : Int32))).toNatClampNeg) X)))))
set_option maxHeartbeats 4000000 in
set_option maxRecDepth 100000 in
theorem ct_X11_count {l : Launch} {E : db_E}  {X : db_St} {x1 : Int32} {Q : Int32 → db_St → Prop} (h : wp_X11_count  X x1 Q) : db_MI l E yX11_count wsX11_count rm_X11_count X [.ref (db_ad E 90), .int x1] Q := by
  intro sz
  unfold wp_X11_count at h
  refine Met.ofW (cc := cX11_count) (maxL := 4) (ret := (some .int)) (by decide) rfl ?_
  intro p e s m args below meth c s₁ B hml hv
  obtain ⟨rfl, hsz, hU⟩ := hv
  subst hsz
  have S : CallFix p m c cX11_count 4 s ([.ref (db_ad E 90), .int x1] : List Value).toArray wsX11_count RX11 := ⟨B.exec, B.bytes, hml, findClass_of_methodNamed B.named, atoms_spec (ws := wsX11_count) B.pre⟩
  have hx := S.1
  have hb := S.2.1
  have hr := B.returns
  have hlocks := B.notSynchronized
  have hw := db_start hU
  have hiX11 : ∀ w ∈ wsX110, w ∈ wsX11_count := fun w_ h_ => List.mem_cons_of_mem _ (List.mem_append_right _ h_)
  have hl := lv_entry ([.ref (db_ad E 90), .int x1]) (n := 4) (Nat.le_of_ble_eq_true rfl)
  rw [lg_entry_eq]
  generalize (lg_sl ([.ref (db_ad E 90), .int x1]) ++ List.replicate (4 - (lg_sl ([.ref (db_ad E 90), .int x1])).length) Slot.unset).toArray = ls at hl ⊢
  have hl : lv_has ls 4 [(0, .ref (db_ad E 90)), (1, .int x1)] := hl
  refine lv_iload_n hx hb dX11_count_0 rfl (lv_at hl 1 rfl) ?_
  refine lv_bipush (v := (10 : Int32)) hx hb dX11_count_1 (by decide) ?_
  refine lv_icmp_le (tgt := 22) hx hb dX11_count_3 (by decide) (fun c3 => ?_) (fun c3 => ?_)
  · have h := h.1 c3
    exact tw_X11_count_22 S hr hlocks   _ _ _ _ _ h hw (lv_sub hl [0, 1] rfl)
  · have h := h.2 c3
    refine lv_iload_n hx hb dX11_count_6 rfl (lv_at hl 1 rfl) ?_
    refine lv_bipush (v := (17 : Int32)) hx hb dX11_count_7 (by decide) ?_
    refine lv_icmp_ge (tgt := 22) hx hb dX11_count_9 (by decide) (fun c2 => ?_) (fun c2 => ?_)
    · have h := h.1 c2
      exact tw_X11_count_22 S hr hlocks   _ _ _ _ _ h hw (lv_sub hl [0, 1] rfl)
    · have h := h.2 c2
      refine lv_aload_n hx hb dX11_count_12 rfl (lv_at hl 0 rfl) ?_
      refine db_getr S hw (Nat.le_of_ble_eq_true rfl) db_s90 (C := RX11) (T := TX11) (N := 19) rfl hiX11 0 (by decide) (r := 91) rfl (List.mem_of_getElem? (i := 1) rfl) dX11_count_13 ?_
      refine lv_iload_n hx hb dX11_count_16 rfl (lv_at hl 1 rfl) ?_
      refine lv_bipush (v := (10 : Int32)) hx hb dX11_count_17 (by decide) ?_
      refine lv_isub hx hb dX11_count_19 ?_
      obtain ⟨g1, h⟩ := h
      refine db_iald S hw (Nat.le_of_ble_eq_true rfl) db_s91 g1 dX11_count_20 ?_
      exact db_iret S hr hlocks hw h dX11_count_21
