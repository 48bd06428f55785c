-- java/util/Arrays.rangeCheck(III)V
abbrev rm_J7_rangeCheck_23922 : Room := { frames := 0, cells := 0, slots := 0, locals := 0 }
def wp_J7_rangeCheck_23922  (X : db_St) (x0 : Int32) (x1 : Int32) (x2 : Int32) (Q : db_St → Prop) : Prop := ((x1 ≤ x2 → ((0 ≤ x1 → ((x2 ≤ x0 → Q X) ∧ (¬ (x2 ≤ x0) → False))) ∧ (¬ (0 ≤ x1) → False))) ∧ (¬ (x1 ≤ x2) → False))
set_option maxHeartbeats 4000000 in
set_option maxRecDepth 100000 in
theorem ct_J7_rangeCheck_23922 {l : Launch} {E : db_E}  {X : db_St} {x0 : Int32} {x1 : Int32} {x2 : Int32} {Q : db_St → Prop} (h : wp_J7_rangeCheck_23922  X x0 x1 x2 Q) : db_MV l E yJ7_rangeCheck_23922 wsJ7_rangeCheck_23922 rm_J7_rangeCheck_23922 X [.int x0, .int x1, .int x2] Q := by
  intro sz
  unfold wp_J7_rangeCheck_23922 at h
  refine Met.ofW (cc := cJ7_rangeCheck_23922) (maxL := 3) (ret := none) (by decide) rfl ?_
  intro p e s m args below meth c s₁ B hml hv
  obtain ⟨rfl, hsz, hU⟩ := hv
  subst hsz
  have S : CallFix p m c cJ7_rangeCheck_23922 3 s ([.int x0, .int x1, .int x2] : List Value).toArray wsJ7_rangeCheck_23922 RJ7 := ⟨B.exec, B.bytes, hml, findClass_of_methodNamed B.named, atoms_spec (ws := wsJ7_rangeCheck_23922) B.pre⟩
  have hx := S.1
  have hb := S.2.1
  have hr := B.returns
  have hlocks := B.notSynchronized
  have hw := db_start hU
  have hl := lv_entry ([.int x0, .int x1, .int x2]) (n := 3) (Nat.le_of_ble_eq_true rfl)
  rw [lg_entry_eq]
  generalize (lg_sl ([.int x0, .int x1, .int x2]) ++ List.replicate (3 - (lg_sl ([.int x0, .int x1, .int x2])).length) Slot.unset).toArray = ls at hl ⊢
  have hl : lv_has ls 3 [(0, .int x0), (1, .int x1), (2, .int x2)] := hl
  refine lv_iload_n hx hb dJ7_rangeCheck_23922_0 rfl (lv_at hl 1 rfl) ?_
  refine lv_iload_n hx hb dJ7_rangeCheck_23922_1 rfl (lv_at hl 2 rfl) ?_
  refine lv_icmp_le (tgt := 46) hx hb dJ7_rangeCheck_23922_2 (by decide) (fun c3 => ?_) (fun c3 => ?_)
  · have h := h.1 c3
    refine lv_iload_n hx hb dJ7_rangeCheck_23922_46 rfl (lv_at hl 1 rfl) ?_
    refine lv_if_ge (tgt := 59) hx hb dJ7_rangeCheck_23922_47 (by decide) (fun c2 => ?_) (fun c2 => ?_)
    · have h := h.1 c2
      refine lv_iload_n hx hb dJ7_rangeCheck_23922_59 rfl (lv_at hl 2 rfl) ?_
      refine lv_iload_n hx hb dJ7_rangeCheck_23922_60 rfl (lv_at hl 0 rfl) ?_
      refine lv_icmp_le (tgt := 73) hx hb dJ7_rangeCheck_23922_61 (by decide) (fun c1 => ?_) (fun c1 => ?_)
      · have h := h.1 c1
        exact db_vret S hr hlocks hw h dJ7_rangeCheck_23922_73
      · have h := h.2 c1
        exact False.elim h
    · have h := h.2 c2
      exact False.elim h
  · have h := h.2 c3
    exact False.elim h
-- java/util/Arrays.fill([IIII)V
abbrev rm_J7_fill_fda19 : Room := { frames := 1, cells := 0, slots := 0, locals := 22 }
def wp_J7_fill_fda19_10 (q len : Nat) (Q : db_St → Prop) : Nat → db_St → Int32 → Int32 → Int32 → Prop
  | 0, _, _, _, _ => False
  | n_ + 1, X, x2, x3, x4 => ((x2 ≤ x4 → Q X) ∧ (¬ (x2 ≤ x4) → (vp_in x4 len ∧ (∀ X2, X2 = (db_si X q (x4).toNatClampNeg x3) → wp_J7_fill_fda19_10 q len Q n_ X2 x2 x3 (x4 + (1 : Int32))))))
set_option maxHeartbeats 4000000 in
set_option maxRecDepth 100000 in
theorem tw_J7_fill_fda19_10 {p : Program} {l : Launch} {e : Env} {s : State} {m : MethodId} {args : Array Value} {below : List Frame} {meth : Method} {c : Code} {E : db_E} (S : CallFix p m c cJ7_fill_fda19 5 s args wsJ7_fill_fda19 RJ7) (hr : meth.sig.returnType = none) (hlocks : meth.locks = false) {q len : Nat} (lq : q < 102) (hq : db_sh q = .inl (0, len)) {Q : db_St → Prop} : ∀ (n : Nat) (X : db_St) (x2 : Int32) (x3 : Int32) (x4 : Int32) (H : Heap) (locs : List Loc) (ls : Array Slot), wp_J7_fill_fda19_10 q len Q n X x2 x3 x4 → db_HW E (db_Aw E s.heap.size) s X H locs → lv_has ls 5 [(0, .ref (db_ad E q)), (2, .int x2), (3, .int x3), (4, .int x4)] → W p l e rm_J7_fill_fda19 s m args below meth c H locs 0 0 (MQ below (va_Qv Q (db_Po E) (db_Aw E s.heap.size)) args s 0 0 (db_Aw E s.heap.size)) (F0 m 10 ls []) := by
  have hx := S.1
  have hb := S.2.1
  intro n
  induction n with
  | zero =>
    intro X x2 x3 x4 H locs ls h hw hl
    exact False.elim h
  | succ n_ ih =>
    intro X x2 x3 x4 H locs ls h hw hl
    unfold wp_J7_fill_fda19_10 at h
    refine lv_iload hx hb dJ7_fill_fda19_10 (lv_at hl 3 rfl) ?_
    refine lv_iload_n hx hb dJ7_fill_fda19_12 rfl (lv_at hl 1 rfl) ?_
    refine lv_icmp_ge (tgt := 27) hx hb dJ7_fill_fda19_13 (by decide) (fun c3 => ?_) (fun c3 => ?_)
    · have h := h.1 c3
      exact db_vret S hr hlocks hw h dJ7_fill_fda19_27
    · have h := h.2 c3
      refine lv_aload_n hx hb dJ7_fill_fda19_16 rfl (lv_at hl 0 rfl) ?_
      refine lv_iload hx hb dJ7_fill_fda19_17 (lv_at hl 3 rfl) ?_
      refine lv_iload_n hx hb dJ7_fill_fda19_19 rfl (lv_at hl 2 rfl) ?_
      obtain ⟨g1, h⟩ := h
      refine db_iast S hw lq hq g1 dJ7_fill_fda19_20 (fun H locs hw => ?_)
      obtain ⟨X2, e2, hw⟩ : ∃ Z_, Z_ = (db_si X q (x4).toNatClampNeg x3) ∧ db_HW E (db_Aw E s.heap.size) s Z_ H locs := ⟨_, rfl, hw⟩
      have h := h X2 e2
      refine lv_iinc (v := (x4 + (1 : Int32))) (lv' := [(4, .int (x4 + (1 : Int32))), (0, .ref (db_ad E q)), (2, .int x2), (3, .int x3)]) hx hb dJ7_fill_fda19_21 hl (k := 3) rfl (congrArg (fun z_ => x4 + z_) (show Int32.ofInt (1) = (1 : Int32) by decide)) (by decide) rfl (fun ls hl => ?_)
      refine lv_goto (tgt := 10) hx hb dJ7_fill_fda19_24 (by decide) ?_
      exact ih _ _ _ _ _ _ _ h hw (lv_sub hl [1, 2, 3, 0] rfl)
def wp_J7_fill_fda19 (q len : Nat) (X : db_St) (x1 : Int32) (x2 : Int32) (x3 : Int32) (Q : db_St → Prop) : Prop := wp_J7_rangeCheck_23922 X (Int32.ofNat len) x1 x2 (fun X1 => (∃ f_, wp_J7_fill_fda19_10 q len Q f_ X1 x2 x3 x1))
set_option maxHeartbeats 4000000 in
set_option maxRecDepth 100000 in
theorem ct_J7_fill_fda19 {l : Launch} {E : db_E} {q len : Nat} (lq : q < 102) (hq : db_sh q = .inl (0, len)) {X : db_St} {x1 : Int32} {x2 : Int32} {x3 : Int32} {Q : db_St → Prop} (h : wp_J7_fill_fda19 q len X x1 x2 x3 Q) : db_MV l E yJ7_fill_fda19 wsJ7_fill_fda19 rm_J7_fill_fda19 X [.ref (db_ad E q), .int x1, .int x2, .int x3] Q := by
  intro sz
  unfold wp_J7_fill_fda19 at h
  refine Met.ofW (cc := cJ7_fill_fda19) (maxL := 5) (ret := none) (by decide) rfl ?_
  intro p e s m args below meth c s₁ B hml hv
  obtain ⟨rfl, hsz, hU⟩ := hv
  subst hsz
  have S : CallFix p m c cJ7_fill_fda19 5 s ([.ref (db_ad E q), .int x1, .int x2, .int x3] : List Value).toArray wsJ7_fill_fda19 RJ7 := ⟨B.exec, B.bytes, hml, findClass_of_methodNamed B.named, atoms_spec (ws := wsJ7_fill_fda19) B.pre⟩
  have hx := S.1
  have hb := S.2.1
  have hr := B.returns
  have hlocks := B.notSynchronized
  have hw := db_start hU
  have hl := lv_entry ([.ref (db_ad E q), .int x1, .int x2, .int x3]) (n := 5) (Nat.le_of_ble_eq_true rfl)
  rw [lg_entry_eq]
  generalize (lg_sl ([.ref (db_ad E q), .int x1, .int x2, .int x3]) ++ List.replicate (5 - (lg_sl ([.ref (db_ad E q), .int x1, .int x2, .int x3])).length) Slot.unset).toArray = ls at hl ⊢
  have hl : lv_has ls 5 [(0, .ref (db_ad E q)), (1, .int x1), (2, .int x2), (3, .int x3)] := hl
  refine lv_aload_n hx hb dJ7_fill_fda19_0 rfl (lv_at hl 0 rfl) ?_
  refine db_alen (v := (Int32.ofNat len)) S hw lq hq (by decide) (by decide) rfl dJ7_fill_fda19_1 ?_
  refine lv_iload_n hx hb dJ7_fill_fda19_2 rfl (lv_at hl 1 rfl) ?_
  refine lv_iload_n hx hb dJ7_fill_fda19_3 rfl (lv_at hl 2 rfl) ?_
  refine db_callSv S hw (As := [.int (Int32.ofNat len), .int x1, .int x2]) (ct_J7_rangeCheck_23922  h) gJ7_fill_fda19_J7_rangeCheck_23922 rfl ⟨rfl, rfl, Nat.le_of_ble_eq_true rfl, Nat.le_of_ble_eq_true rfl⟩ 3 rfl (by decide +kernel) hl.1 rfl (Nat.le_of_ble_eq_true rfl) dJ7_fill_fda19_4 ⟨Nat.zero_le _, Nat.zero_le _⟩ (fun X1 H locs h hw => ?_)
  refine lv_iload_n hx hb dJ7_fill_fda19_7 rfl (lv_at hl 1 rfl) ?_
  refine lv_istore (lv' := [(4, .int x1), (0, .ref (db_ad E q)), (1, .int x1), (2, .int x2), (3, .int x3)]) hx hb dJ7_fill_fda19_8 hl (by decide) rfl (fun ls hl => ?_)
  obtain ⟨f_, h⟩ := h
  exact tw_J7_fill_fda19_10 S hr hlocks lq hq  f_ _ _ _ _ _ _ _ h hw (lv_sub hl [1, 3, 4, 0] rfl)
-- java/util/Arrays.fill([II)V
abbrev rm_J7_fill_53178 : Room := { frames := 0, cells := 0, slots := 0, locals := 0 }
def wp_J7_fill_53178_5 (q len : Nat) (Q : db_St → Prop) : Nat → db_St → Int32 → Int32 → Int32 → Prop
  | 0, _, _, _, _ => False
  | n_ + 1, X, x1, x2, x3 => ((x3 ≤ x2 → Q X) ∧ (¬ (x3 ≤ x2) → (vp_in x2 len ∧ (∀ X2, X2 = (db_si X q (x2).toNatClampNeg x1) → wp_J7_fill_53178_5 q len Q n_ X2 x1 (x2 + (1 : Int32)) x3))))
set_option maxHeartbeats 4000000 in
set_option maxRecDepth 100000 in
theorem tw_J7_fill_53178_5 {p : Program} {l : Launch} {e : Env} {s : State} {m : MethodId} {args : Array Value} {below : List Frame} {meth : Method} {c : Code} {E : db_E} (S : CallFix p m c cJ7_fill_53178 4 s args wsJ7_fill_53178 RJ7) (hr : meth.sig.returnType = none) (hlocks : meth.locks = false) {q len : Nat} (lq : q < 102) (hq : db_sh q = .inl (0, len)) {Q : db_St → Prop} : ∀ (n : Nat) (X : db_St) (x1 : Int32) (x2 : Int32) (x3 : Int32) (H : Heap) (locs : List Loc) (ls : Array Slot), wp_J7_fill_53178_5 q len Q n X x1 x2 x3 → db_HW E (db_Aw E s.heap.size) s X H locs → lv_has ls 4 [(0, .ref (db_ad E q)), (1, .int x1), (2, .int x2), (3, .int x3)] → W p l e rm_J7_fill_53178 s m args below meth c H locs 0 0 (MQ below (va_Qv Q (db_Po E) (db_Aw E s.heap.size)) args s 0 0 (db_Aw E s.heap.size)) (F0 m 5 ls []) := by
  have hx := S.1
  have hb := S.2.1
  intro n
  induction n with
  | zero =>
    intro X x1 x2 x3 H locs ls h hw hl
    exact False.elim h
  | succ n_ ih =>
    intro X x1 x2 x3 H locs ls h hw hl
    unfold wp_J7_fill_53178_5 at h
    refine lv_iload_n hx hb dJ7_fill_53178_5 rfl (lv_at hl 2 rfl) ?_
    refine lv_iload_n hx hb dJ7_fill_53178_6 rfl (lv_at hl 3 rfl) ?_
    refine lv_icmp_ge (tgt := 20) hx hb dJ7_fill_53178_7 (by decide) (fun c3 => ?_) (fun c3 => ?_)
    · have h := h.1 c3
      exact db_vret S hr hlocks hw h dJ7_fill_53178_20
    · have h := h.2 c3
      refine lv_aload_n hx hb dJ7_fill_53178_10 rfl (lv_at hl 0 rfl) ?_
      refine lv_iload_n hx hb dJ7_fill_53178_11 rfl (lv_at hl 2 rfl) ?_
      refine lv_iload_n hx hb dJ7_fill_53178_12 rfl (lv_at hl 1 rfl) ?_
      obtain ⟨g1, h⟩ := h
      refine db_iast S hw lq hq g1 dJ7_fill_53178_13 (fun H locs hw => ?_)
      obtain ⟨X2, e2, hw⟩ : ∃ Z_, Z_ = (db_si X q (x2).toNatClampNeg x1) ∧ db_HW E (db_Aw E s.heap.size) s Z_ H locs := ⟨_, rfl, hw⟩
      have h := h X2 e2
      refine lv_iinc (v := (x2 + (1 : Int32))) (lv' := [(2, .int (x2 + (1 : Int32))), (0, .ref (db_ad E q)), (1, .int x1), (3, .int x3)]) hx hb dJ7_fill_53178_14 hl (k := 2) rfl (congrArg (fun z_ => x2 + z_) (show Int32.ofInt (1) = (1 : Int32) by decide)) (by decide) rfl (fun ls hl => ?_)
      refine lv_goto (tgt := 5) hx hb dJ7_fill_53178_17 (by decide) ?_
      exact ih _ _ _ _ _ _ _ h hw (lv_sub hl [1, 2, 0, 3] rfl)
def wp_J7_fill_53178 (q len : Nat) (X : db_St) (x1 : Int32) (Q : db_St → Prop) : Prop := (∃ f_, wp_J7_fill_53178_5 q len Q f_ X x1 (0 : Int32) (Int32.ofNat len))
set_option maxHeartbeats 4000000 in
set_option maxRecDepth 100000 in
theorem ct_J7_fill_53178 {l : Launch} {E : db_E} {q len : Nat} (lq : q < 102) (hq : db_sh q = .inl (0, len)) {X : db_St} {x1 : Int32} {Q : db_St → Prop} (h : wp_J7_fill_53178 q len X x1 Q) : db_MV l E yJ7_fill_53178 wsJ7_fill_53178 rm_J7_fill_53178 X [.ref (db_ad E q), .int x1] Q := by
  intro sz
  unfold wp_J7_fill_53178 at h
  refine Met.ofW (cc := cJ7_fill_53178) (maxL := 4) (ret := none) (by decide) rfl ?_
  intro p e s m args below meth c s₁ B hml hv
  obtain ⟨rfl, hsz, hU⟩ := hv
  subst hsz
  have S : CallFix p m c cJ7_fill_53178 4 s ([.ref (db_ad E q), .int x1] : List Value).toArray wsJ7_fill_53178 RJ7 := ⟨B.exec, B.bytes, hml, findClass_of_methodNamed B.named, atoms_spec (ws := wsJ7_fill_53178) B.pre⟩
  have hx := S.1
  have hb := S.2.1
  have hr := B.returns
  have hlocks := B.notSynchronized
  have hw := db_start hU
  have hl := lv_entry ([.ref (db_ad E q), .int x1]) (n := 4) (Nat.le_of_ble_eq_true rfl)
  rw [lg_entry_eq]
  generalize (lg_sl ([.ref (db_ad E q), .int x1]) ++ List.replicate (4 - (lg_sl ([.ref (db_ad E q), .int x1])).length) Slot.unset).toArray = ls at hl ⊢
  have hl : lv_has ls 4 [(0, .ref (db_ad E q)), (1, .int x1)] := hl
  refine lv_iconst (v := (0 : Int32)) hx hb dJ7_fill_53178_0 (by decide) ?_
  refine lv_istore_n (lv' := [(2, .int (0 : Int32)), (0, .ref (db_ad E q)), (1, .int x1)]) hx hb dJ7_fill_53178_1 rfl hl (by decide) rfl (fun ls hl => ?_)
  refine lv_aload_n hx hb dJ7_fill_53178_2 rfl (lv_at hl 1 rfl) ?_
  refine db_alen (v := (Int32.ofNat len)) S hw lq hq (by decide) (by decide) rfl dJ7_fill_53178_3 ?_
  refine lv_istore_n (lv' := [(3, .int (Int32.ofNat len)), (2, .int (0 : Int32)), (0, .ref (db_ad E q)), (1, .int x1)]) hx hb dJ7_fill_53178_4 rfl hl (by decide) rfl (fun ls hl => ?_)
  obtain ⟨f_, h⟩ := h
  exact tw_J7_fill_53178_5 S hr hlocks lq hq  f_ _ _ _ _ _ _ _ h hw (lv_sub hl [2, 3, 1, 0] rfl)
-- java/lang/Integer.bitCount(I)I
abbrev rm_J6_bitCount_0f7a4 : Room := { frames := 0, cells := 0, slots := 0, locals := 0 }
def wp_J6_bitCount_0f7a4  (X : db_St) (x0 : Int32) (Q : Int32 → db_St → Prop) : Prop := (∀ z1, z1 = (x0 - ((db_ushr x0 (1 : Int32)) &&& (1431655765 : Int32))) → (∀ z2, z2 = ((z1 &&& (858993459 : Int32)) + ((db_ushr z1 (2 : Int32)) &&& (858993459 : Int32))) → (∀ z3, z3 = ((z2 + (db_ushr z2 (4 : Int32))) &&& (252645135 : Int32)) → (∀ z4, z4 = ((z3 + (db_ushr z3 (8 : Int32))) + (db_ushr (z3 + (db_ushr z3 (8 : Int32))) (16 : Int32))) → Q (z4 &&& (63 : Int32)) X))))
set_option maxHeartbeats 4000000 in
set_option maxRecDepth 100000 in
theorem ct_J6_bitCount_0f7a4 {l : Launch} {E : db_E}  {X : db_St} {x0 : Int32} {Q : Int32 → db_St → Prop} (h : wp_J6_bitCount_0f7a4  X x0 Q) : db_MI l E yJ6_bitCount_0f7a4 wsJ6_bitCount_0f7a4 rm_J6_bitCount_0f7a4 X [.int x0] Q := by
  intro sz
  unfold wp_J6_bitCount_0f7a4 at h
  refine Met.ofW (cc := cJ6_bitCount_0f7a4) (maxL := 1) (ret := (some .int)) (by decide) rfl ?_
  intro p e s m args below meth c s₁ B hml hv
  obtain ⟨rfl, hsz, hU⟩ := hv
  subst hsz
  have S : CallFix p m c cJ6_bitCount_0f7a4 1 s ([.int x0] : List Value).toArray wsJ6_bitCount_0f7a4 RJ6 := ⟨B.exec, B.bytes, hml, findClass_of_methodNamed B.named, atoms_spec (ws := wsJ6_bitCount_0f7a4) B.pre⟩
  have hx := S.1
  have hb := S.2.1
  have hr := B.returns
  have hlocks := B.notSynchronized
  have hw := db_start hU
  have hl := lv_entry ([.int x0]) (n := 1) (Nat.le_of_ble_eq_true rfl)
  rw [lg_entry_eq]
  generalize (lg_sl ([.int x0]) ++ List.replicate (1 - (lg_sl ([.int x0])).length) Slot.unset).toArray = ls at hl ⊢
  have hl : lv_has ls 1 [(0, .int x0)] := hl
  refine lv_iload_n hx hb dJ6_bitCount_0f7a4_0 rfl (lv_at hl 0 rfl) ?_
  refine lv_iload_n hx hb dJ6_bitCount_0f7a4_1 rfl (lv_at hl 0 rfl) ?_
  refine lv_iconst (v := (1 : Int32)) hx hb dJ6_bitCount_0f7a4_2 (by decide) ?_
  refine lv_iushr (v := (db_ushr x0 (1 : Int32))) hx hb dJ6_bitCount_0f7a4_3 rfl ?_
  refine lv_ldcw (v := (1431655765 : Int32)) hx hb S.2.2.2.1 (S.2.2.2.2 _ (List.mem_of_getElem? (i := 1) rfl)) dJ6_bitCount_0f7a4_4 ?_
  refine lv_iand hx hb dJ6_bitCount_0f7a4_7 ?_
  refine lv_isub hx hb dJ6_bitCount_0f7a4_8 ?_
  refine lv_topi (fun z1 e1 => ?_)
  have h := h z1 e1
  refine lv_istore_n (lv' := [(0, .int z1)]) hx hb dJ6_bitCount_0f7a4_9 rfl hl (by decide) rfl (fun ls hl => ?_)
  refine lv_iload_n hx hb dJ6_bitCount_0f7a4_10 rfl (lv_at hl 0 rfl) ?_
  refine lv_ldcw (v := (858993459 : Int32)) hx hb S.2.2.2.1 (S.2.2.2.2 _ (List.mem_of_getElem? (i := 2) rfl)) dJ6_bitCount_0f7a4_11 ?_
  refine lv_iand hx hb dJ6_bitCount_0f7a4_14 ?_
  refine lv_iload_n hx hb dJ6_bitCount_0f7a4_15 rfl (lv_at hl 0 rfl) ?_
  refine lv_iconst (v := (2 : Int32)) hx hb dJ6_bitCount_0f7a4_16 (by decide) ?_
  refine lv_iushr (v := (db_ushr z1 (2 : Int32))) hx hb dJ6_bitCount_0f7a4_17 rfl ?_
  refine lv_ldcw (v := (858993459 : Int32)) hx hb S.2.2.2.1 (S.2.2.2.2 _ (List.mem_of_getElem? (i := 2) rfl)) dJ6_bitCount_0f7a4_18 ?_
  refine lv_iand hx hb dJ6_bitCount_0f7a4_21 ?_
  refine lv_iadd hx hb dJ6_bitCount_0f7a4_22 ?_
  refine lv_topi (fun z2 e2 => ?_)
  have h := h z2 e2
  refine lv_istore_n (lv' := [(0, .int z2)]) hx hb dJ6_bitCount_0f7a4_23 rfl hl (by decide) rfl (fun ls hl => ?_)
  refine lv_iload_n hx hb dJ6_bitCount_0f7a4_24 rfl (lv_at hl 0 rfl) ?_
  refine lv_iload_n hx hb dJ6_bitCount_0f7a4_25 rfl (lv_at hl 0 rfl) ?_
  refine lv_iconst (v := (4 : Int32)) hx hb dJ6_bitCount_0f7a4_26 (by decide) ?_
  refine lv_iushr (v := (db_ushr z2 (4 : Int32))) hx hb dJ6_bitCount_0f7a4_27 rfl ?_
  refine lv_iadd hx hb dJ6_bitCount_0f7a4_28 ?_
  refine lv_ldcw (v := (252645135 : Int32)) hx hb S.2.2.2.1 (S.2.2.2.2 _ (List.mem_of_getElem? (i := 3) rfl)) dJ6_bitCount_0f7a4_29 ?_
  refine lv_iand hx hb dJ6_bitCount_0f7a4_32 ?_
  refine lv_topi (fun z3 e3 => ?_)
  have h := h z3 e3
  refine lv_istore_n (lv' := [(0, .int z3)]) hx hb dJ6_bitCount_0f7a4_33 rfl hl (by decide) rfl (fun ls hl => ?_)
  refine lv_iload_n hx hb dJ6_bitCount_0f7a4_34 rfl (lv_at hl 0 rfl) ?_
  refine lv_iload_n hx hb dJ6_bitCount_0f7a4_35 rfl (lv_at hl 0 rfl) ?_
  refine lv_bipush (v := (8 : Int32)) hx hb dJ6_bitCount_0f7a4_36 (by decide) ?_
  refine lv_iushr (v := (db_ushr z3 (8 : Int32))) hx hb dJ6_bitCount_0f7a4_38 rfl ?_
  refine lv_iadd hx hb dJ6_bitCount_0f7a4_39 ?_
  refine lv_istore_n (lv' := [(0, .int (z3 + (db_ushr z3 (8 : Int32))))]) hx hb dJ6_bitCount_0f7a4_40 rfl hl (by decide) rfl (fun ls hl => ?_)
  refine lv_iload_n hx hb dJ6_bitCount_0f7a4_41 rfl (lv_at hl 0 rfl) ?_
  refine lv_iload_n hx hb dJ6_bitCount_0f7a4_42 rfl (lv_at hl 0 rfl) ?_
  refine lv_bipush (v := (16 : Int32)) hx hb dJ6_bitCount_0f7a4_43 (by decide) ?_
  refine lv_iushr (v := (db_ushr (z3 + (db_ushr z3 (8 : Int32))) (16 : Int32))) hx hb dJ6_bitCount_0f7a4_45 rfl ?_
  refine lv_iadd hx hb dJ6_bitCount_0f7a4_46 ?_
  refine lv_topi (fun z4 e4 => ?_)
  have h := h z4 e4
  refine lv_istore_n (lv' := [(0, .int z4)]) hx hb dJ6_bitCount_0f7a4_47 rfl hl (by decide) rfl (fun ls hl => ?_)
  refine lv_iload_n hx hb dJ6_bitCount_0f7a4_48 rfl (lv_at hl 0 rfl) ?_
  refine lv_bipush (v := (63 : Int32)) hx hb dJ6_bitCount_0f7a4_49 (by decide) ?_
  refine lv_iand hx hb dJ6_bitCount_0f7a4_51 ?_
  exact db_iret S hr hlocks hw h dJ6_bitCount_0f7a4_52
-- java/util/Arrays.fill([JJ)V
abbrev rm_J7_fill_d0a16 : Room := { frames := 0, cells := 0, slots := 0, locals := 0 }
def wp_J7_fill_d0a16_6 (q len : Nat) (Q : db_St → Prop) : Nat → db_St → Int64 → Int32 → Int32 → Prop
  | 0, _, _, _, _ => False
  | n_ + 1, X, x1, x3, x4 => ((x4 ≤ x3 → Q X) ∧ (¬ (x4 ≤ x3) → (vp_in x3 len ∧ (∀ X2, X2 = (db_sl X q (x3).toNatClampNeg x1) → wp_J7_fill_d0a16_6 q len Q n_ X2 x1 (x3 + (1 : Int32)) x4))))
set_option maxHeartbeats 4000000 in
set_option maxRecDepth 100000 in
theorem tw_J7_fill_d0a16_6 {p : Program} {l : Launch} {e : Env} {s : State} {m : MethodId} {args : Array Value} {below : List Frame} {meth : Method} {c : Code} {E : db_E} (S : CallFix p m c cJ7_fill_d0a16 5 s args wsJ7_fill_d0a16 RJ7) (hr : meth.sig.returnType = none) (hlocks : meth.locks = false) {q len : Nat} (lq : q < 102) (hq : db_sh q = .inl (2, len)) {Q : db_St → Prop} : ∀ (n : Nat) (X : db_St) (x1 : Int64) (x3 : Int32) (x4 : Int32) (H : Heap) (locs : List Loc) (ls : Array Slot), wp_J7_fill_d0a16_6 q len Q n X x1 x3 x4 → db_HW E (db_Aw E s.heap.size) s X H locs → lv_has ls 5 [(0, .ref (db_ad E q)), (1, .long x1), (3, .int x3), (4, .int x4)] → W p l e rm_J7_fill_d0a16 s m args below meth c H locs 0 0 (MQ below (va_Qv Q (db_Po E) (db_Aw E s.heap.size)) args s 0 0 (db_Aw E s.heap.size)) (F0 m 6 ls []) := by
  have hx := S.1
  have hb := S.2.1
  intro n
  induction n with
  | zero =>
    intro X x1 x3 x4 H locs ls h hw hl
    exact False.elim h
  | succ n_ ih =>
    intro X x1 x3 x4 H locs ls h hw hl
    unfold wp_J7_fill_d0a16_6 at h
    refine lv_iload_n hx hb dJ7_fill_d0a16_6 rfl (lv_at hl 2 rfl) ?_
    refine lv_iload hx hb dJ7_fill_d0a16_7 (lv_at hl 3 rfl) ?_
    refine lv_icmp_ge (tgt := 22) hx hb dJ7_fill_d0a16_9 (by decide) (fun c3 => ?_) (fun c3 => ?_)
    · have h := h.1 c3
      exact db_vret S hr hlocks hw h dJ7_fill_d0a16_22
    · have h := h.2 c3
      refine lv_aload_n hx hb dJ7_fill_d0a16_12 rfl (lv_at hl 0 rfl) ?_
      refine lv_iload_n hx hb dJ7_fill_d0a16_13 rfl (lv_at hl 2 rfl) ?_
      refine lv_lload_n hx hb dJ7_fill_d0a16_14 rfl (lv_at hl 1 rfl) ?_
      obtain ⟨g1, h⟩ := h
      refine db_last S hw lq hq g1 dJ7_fill_d0a16_15 (fun H locs hw => ?_)
      obtain ⟨X2, e2, hw⟩ : ∃ Z_, Z_ = (db_sl X q (x3).toNatClampNeg x1) ∧ db_HW E (db_Aw E s.heap.size) s Z_ H locs := ⟨_, rfl, hw⟩
      have h := h X2 e2
      refine lv_iinc (v := (x3 + (1 : Int32))) (lv' := [(3, .int (x3 + (1 : Int32))), (0, .ref (db_ad E q)), (1, .long x1), (4, .int x4)]) hx hb dJ7_fill_d0a16_16 hl (k := 2) rfl (congrArg (fun z_ => x3 + z_) (show Int32.ofInt (1) = (1 : Int32) by decide)) (by decide) rfl (fun ls hl => ?_)
      refine lv_goto (tgt := 6) hx hb dJ7_fill_d0a16_19 (by decide) ?_
      exact ih _ _ _ _ _ _ _ h hw (lv_sub hl [1, 2, 0, 3] rfl)
def wp_J7_fill_d0a16 (q len : Nat) (X : db_St) (x1 : Int64) (Q : db_St → Prop) : Prop := (∃ f_, wp_J7_fill_d0a16_6 q len Q f_ X x1 (0 : Int32) (Int32.ofNat len))
set_option maxHeartbeats 4000000 in
set_option maxRecDepth 100000 in
theorem ct_J7_fill_d0a16 {l : Launch} {E : db_E} {q len : Nat} (lq : q < 102) (hq : db_sh q = .inl (2, len)) {X : db_St} {x1 : Int64} {Q : db_St → Prop} (h : wp_J7_fill_d0a16 q len X x1 Q) : db_MV l E yJ7_fill_d0a16 wsJ7_fill_d0a16 rm_J7_fill_d0a16 X [.ref (db_ad E q), .long x1] Q := by
  intro sz
  unfold wp_J7_fill_d0a16 at h
  refine Met.ofW (cc := cJ7_fill_d0a16) (maxL := 5) (ret := none) (by decide) rfl ?_
  intro p e s m args below meth c s₁ B hml hv
  obtain ⟨rfl, hsz, hU⟩ := hv
  subst hsz
  have S : CallFix p m c cJ7_fill_d0a16 5 s ([.ref (db_ad E q), .long x1] : List Value).toArray wsJ7_fill_d0a16 RJ7 := ⟨B.exec, B.bytes, hml, findClass_of_methodNamed B.named, atoms_spec (ws := wsJ7_fill_d0a16) B.pre⟩
  have hx := S.1
  have hb := S.2.1
  have hr := B.returns
  have hlocks := B.notSynchronized
  have hw := db_start hU
  have hl := lv_entry ([.ref (db_ad E q), .long x1]) (n := 5) (Nat.le_of_ble_eq_true rfl)
  rw [lg_entry_eq]
  generalize (lg_sl ([.ref (db_ad E q), .long x1]) ++ List.replicate (5 - (lg_sl ([.ref (db_ad E q), .long x1])).length) Slot.unset).toArray = ls at hl ⊢
  have hl : lv_has ls 5 [(0, .ref (db_ad E q)), (1, .long x1)] := hl
  refine lv_iconst (v := (0 : Int32)) hx hb dJ7_fill_d0a16_0 (by decide) ?_
  refine lv_istore_n (lv' := [(3, .int (0 : Int32)), (0, .ref (db_ad E q)), (1, .long x1)]) hx hb dJ7_fill_d0a16_1 rfl hl (by decide) rfl (fun ls hl => ?_)
  refine lv_aload_n hx hb dJ7_fill_d0a16_2 rfl (lv_at hl 1 rfl) ?_
  refine db_alenl (v := (Int32.ofNat len)) S hw lq hq rfl dJ7_fill_d0a16_3 ?_
  refine lv_istore (lv' := [(4, .int (Int32.ofNat len)), (3, .int (0 : Int32)), (0, .ref (db_ad E q)), (1, .long x1)]) hx hb dJ7_fill_d0a16_4 hl (by decide) rfl (fun ls hl => ?_)
  obtain ⟨f_, h⟩ := h
  exact tw_J7_fill_d0a16_6 S hr hlocks lq hq  f_ _ _ _ _ _ _ _ h hw (lv_sub hl [2, 3, 1, 0] rfl)
