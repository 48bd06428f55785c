-- DaysOnBread$Burden.offerPart(III)V
abbrev rm_X1_offerPart : Room := { frames := 1, cells := 0, slots := 0, locals := 60 }
def wp_X1_offerPart_36 (Q : db_St → Prop) : Nat → db_St → Int32 → Int32 → Int32 → Int32 → Prop
  | 0, _, _, _, _, _ => False
  | n_ + 1, X, x4, x5, x6, x7 => ((x7 ≤ 0 → Q X) ∧ (¬ (x7 ≤ 0) → (∀ z1, z1 = (if (0 : Int32) < (x7 - x5) then (x7 - x5) else (0 : Int32)) → (vp_in (x4 + z1) 7007 ∧ (vp_in (x4 + x7) 7007 ∧ (∀ z4, z4 = (if ((X.1 47 ((x4 + z1)).toNatClampNeg) + x6) < (X.1 47 ((x4 + x7)).toNatClampNeg) then ((X.1 47 ((x4 + z1)).toNatClampNeg) + x6) else (X.1 47 ((x4 + x7)).toNatClampNeg)) → (vp_in (x4 + x7) 7007 ∧ (∀ X6, X6 = (db_si X 47 ((x4 + x7)).toNatClampNeg z4) → wp_X1_offerPart_36 Q n_ X6 x4 x5 x6 (x7 + (-1 : Int32))))))))))
set_option maxHeartbeats 4000000 in
set_option maxRecDepth 100000 in
theorem tw_X1_offerPart_36 {p : Program} {l : Launch} {e : Env} {s : State} {m : MethodId} {args : Array Value} {below : List Frame} {meth : Method} {c : Code} {E : db_E} (S : CallFix p m c cX1_offerPart 10 s args wsX1_offerPart RX1) (hr : meth.sig.returnType = none) (hlocks : meth.locks = false)  {Q : db_St → Prop} : ∀ (n : Nat) (X : db_St) (x4 : Int32) (x5 : Int32) (x6 : Int32) (x7 : Int32) (H : Heap) (locs : List Loc) (ls : Array Slot), wp_X1_offerPart_36 Q n X x4 x5 x6 x7 → db_HW E (db_Aw E s.heap.size) s X H locs → lv_has ls 10 [(0, .ref (db_ad E 46)), (4, .int x4), (5, .int x5), (6, .int x6), (7, .int x7)] → W p l e rm_X1_offerPart s m args below meth c H locs 0 0 (MQ below (va_Qv Q (db_Po E) (db_Aw E s.heap.size)) args s 0 0 (db_Aw E s.heap.size)) (F0 m 36 ls []) := by
  have hx := S.1
  have hb := S.2.1
  have hiX1 : ∀ w ∈ wsX10, w ∈ wsX1_offerPart := fun w_ h_ => List.mem_cons_of_mem _ (List.mem_append_left _ (List.mem_append_right _ h_))
  intro n
  induction n with
  | zero =>
    intro X x4 x5 x6 x7 H locs ls h hw hl
    exact False.elim h
  | succ n_ ih =>
    intro X x4 x5 x6 x7 H locs ls h hw hl
    unfold wp_X1_offerPart_36 at h
    refine lv_iload hx hb dX1_offerPart_36 (lv_at hl 4 rfl) ?_
    refine lv_if_le (tgt := 98) hx hb dX1_offerPart_38 (by decide) (fun c7 => ?_) (fun c7 => ?_)
    · have h := h.1 c7
      exact db_vret S hr hlocks hw h dX1_offerPart_98
    · have h := h.2 c7
      refine lv_iconst (v := (0 : Int32)) hx hb dX1_offerPart_41 (by decide) ?_
      refine lv_iload hx hb dX1_offerPart_42 (lv_at hl 4 rfl) ?_
      refine lv_iload hx hb dX1_offerPart_44 (lv_at hl 2 rfl) ?_
      refine lv_isub hx hb dX1_offerPart_46 ?_
      refine db_max S hl.1 (List.mem_of_getElem? (i := 2) rfl) (List.mem_of_getElem? (i := 3) rfl) (List.mem_of_getElem? (i := 4) rfl) (List.mem_of_getElem? (i := 5) rfl) ⟨Nat.le_of_ble_eq_true rfl, Nat.le_of_ble_eq_true rfl⟩ ⟨Nat.zero_le _, Nat.zero_le _⟩ dX1_offerPart_47 ?_
      refine lv_topi (fun z1 e1 => ?_)
      have h := h z1 e1
      refine lv_istore (lv' := [(8, .int z1), (0, .ref (db_ad E 46)), (4, .int x4), (5, .int x5), (6, .int x6), (7, .int x7)]) hx hb dX1_offerPart_50 hl (by decide) rfl (fun ls hl => ?_)
      refine lv_aload_n hx hb dX1_offerPart_52 rfl (lv_at hl 1 rfl) ?_
      refine db_getr S hw (Nat.le_of_ble_eq_true rfl) db_s46 (C := RX1) (T := TX1) (N := 3) rfl hiX1 1 (by decide) (r := 47) rfl (List.mem_of_getElem? (i := 6) rfl) dX1_offerPart_53 ?_
      refine lv_iload hx hb dX1_offerPart_56 (lv_at hl 2 rfl) ?_
      refine lv_iload hx hb dX1_offerPart_58 (lv_at hl 0 rfl) ?_
      refine lv_iadd hx hb dX1_offerPart_60 ?_
      obtain ⟨g2, h⟩ := h
      refine db_iald S hw (Nat.le_of_ble_eq_true rfl) db_s47 g2 dX1_offerPart_61 ?_
      refine lv_iload hx hb dX1_offerPart_62 (lv_at hl 4 rfl) ?_
      refine lv_iadd hx hb dX1_offerPart_64 ?_
      refine lv_istore (lv' := [(9, .int ((X.1 47 ((x4 + z1)).toNatClampNeg) + x6)), (8, .int z1), (0, .ref (db_ad E 46)), (4, .int x4), (5, .int x5), (6, .int x6), (7, .int x7)]) hx hb dX1_offerPart_65 hl (by decide) rfl (fun ls hl => ?_)
      refine lv_aload_n hx hb dX1_offerPart_67 rfl (lv_at hl 2 rfl) ?_
      refine db_getr S hw (Nat.le_of_ble_eq_true rfl) db_s46 (C := RX1) (T := TX1) (N := 3) rfl hiX1 1 (by decide) (r := 47) rfl (List.mem_of_getElem? (i := 6) rfl) dX1_offerPart_68 ?_
      refine lv_iload hx hb dX1_offerPart_71 (lv_at hl 3 rfl) ?_
      refine lv_iload hx hb dX1_offerPart_73 (lv_at hl 6 rfl) ?_
      refine lv_iadd hx hb dX1_offerPart_75 ?_
      refine lv_aload_n hx hb dX1_offerPart_76 rfl (lv_at hl 2 rfl) ?_
      refine db_getr S hw (Nat.le_of_ble_eq_true rfl) db_s46 (C := RX1) (T := TX1) (N := 3) rfl hiX1 1 (by decide) (r := 47) rfl (List.mem_of_getElem? (i := 6) rfl) dX1_offerPart_77 ?_
      refine lv_iload hx hb dX1_offerPart_80 (lv_at hl 3 rfl) ?_
      refine lv_iload hx hb dX1_offerPart_82 (lv_at hl 6 rfl) ?_
      refine lv_iadd hx hb dX1_offerPart_84 ?_
      obtain ⟨g3, h⟩ := h
      refine db_iald S hw (Nat.le_of_ble_eq_true rfl) db_s47 g3 dX1_offerPart_85 ?_
      refine lv_iload hx hb dX1_offerPart_86 (lv_at hl 0 rfl) ?_
      refine db_min S hl.1 (List.mem_of_getElem? (i := 7) rfl) (List.mem_of_getElem? (i := 8) rfl) (List.mem_of_getElem? (i := 4) rfl) (List.mem_of_getElem? (i := 9) rfl) ⟨Nat.le_of_ble_eq_true rfl, Nat.le_of_ble_eq_true rfl⟩ ⟨Nat.zero_le _, Nat.zero_le _⟩ dX1_offerPart_88 ?_
      refine lv_topi (fun z4 e4 => ?_)
      have h := h z4 e4
      obtain ⟨g5, h⟩ := h
      refine db_iast S hw (Nat.le_of_ble_eq_true rfl) db_s47 g5 dX1_offerPart_91 (fun H locs hw => ?_)
      obtain ⟨X6, e6, hw⟩ : ∃ Z_, Z_ = (db_si X 47 ((x4 + x7)).toNatClampNeg z4) ∧ db_HW E (db_Aw E s.heap.size) s Z_ H locs := ⟨_, rfl, hw⟩
      have h := h X6 e6
      refine lv_iinc (v := (x7 + (-1 : Int32))) (lv' := [(7, .int (x7 + (-1 : Int32))), (9, .int ((X.1 47 ((x4 + z1)).toNatClampNeg) + x6)), (8, .int z1), (0, .ref (db_ad E 46)), (4, .int x4), (5, .int x5), (6, .int x6)]) hx hb dX1_offerPart_92 hl (k := 6) rfl (congrArg (fun z_ => x7 + z_) (show Int32.ofInt (-1) = (-1 : Int32) by decide)) (by decide) rfl (fun ls hl => ?_)
      refine lv_goto (tgt := 36) hx hb dX1_offerPart_95 (by decide) ?_
      exact ih _ _ _ _ _ _ _ _ h hw (lv_sub hl [3, 4, 5, 6, 0] rfl)
def wp_X1_offerPart  (X : db_St) (x1 : Int32) (x2 : Int32) (x3 : Int32) (Q : db_St → Prop) : Prop := wp_X4_number X x1 (0 : Int32) (fun r1 X1 => wp_X4_number X1 x1 (1 : Int32) (fun r2 X2 => (∃ f_, wp_X1_offerPart_36 Q f_ X2 (x1 * (1001 : Int32)) (x2 * r1) (x2 * r2) x3)))
set_option maxHeartbeats 4000000 in
set_option maxRecDepth 100000 in
theorem ct_X1_offerPart {l : Launch} {E : db_E}  {X : db_St} {x1 : Int32} {x2 : Int32} {x3 : Int32} {Q : db_St → Prop} (h : wp_X1_offerPart  X x1 x2 x3 Q) : db_MV l E yX1_offerPart wsX1_offerPart rm_X1_offerPart X [.ref (db_ad E 46), .int x1, .int x2, .int x3] Q := by
  intro sz
  unfold wp_X1_offerPart at h
  refine Met.ofW (cc := cX1_offerPart) (maxL := 10) (ret := none) (by decide) rfl ?_
  intro p e s m args below meth c s₁ B hml hv
  obtain ⟨rfl, hsz, hU⟩ := hv
  subst hsz
  have S : CallFix p m c cX1_offerPart 10 s ([.ref (db_ad E 46), .int x1, .int x2, .int x3] : List Value).toArray wsX1_offerPart RX1 := ⟨B.exec, B.bytes, hml, findClass_of_methodNamed B.named, atoms_spec (ws := wsX1_offerPart) B.pre⟩
  have hx := S.1
  have hb := S.2.1
  have hr := B.returns
  have hlocks := B.notSynchronized
  have hw := db_start hU
  have hiX1 : ∀ w ∈ wsX10, w ∈ wsX1_offerPart := fun w_ h_ => List.mem_cons_of_mem _ (List.mem_append_left _ (List.mem_append_right _ h_))
  have hl := lv_entry ([.ref (db_ad E 46), .int x1, .int x2, .int x3]) (n := 10) (Nat.le_of_ble_eq_true rfl)
  rw [lg_entry_eq]
  generalize (lg_sl ([.ref (db_ad E 46), .int x1, .int x2, .int x3]) ++ List.replicate (10 - (lg_sl ([.ref (db_ad E 46), .int x1, .int x2, .int x3])).length) Slot.unset).toArray = ls at hl ⊢
  have hl : lv_has ls 10 [(0, .ref (db_ad E 46)), (1, .int x1), (2, .int x2), (3, .int x3)] := hl
  refine lv_iload_n hx hb dX1_offerPart_0 rfl (lv_at hl 1 rfl) ?_
  refine lv_sipush (v := (1001 : Int32)) hx hb dX1_offerPart_1 (by decide) ?_
  refine lv_imul hx hb dX1_offerPart_4 ?_
  refine lv_istore (lv' := [(4, .int (x1 * (1001 : Int32))), (0, .ref (db_ad E 46)), (1, .int x1), (2, .int x2), (3, .int x3)]) hx hb dX1_offerPart_5 hl (by decide) rfl (fun ls hl => ?_)
  refine lv_iload_n hx hb dX1_offerPart_7 rfl (lv_at hl 3 rfl) ?_
  refine lv_aload_n hx hb dX1_offerPart_8 rfl (lv_at hl 1 rfl) ?_
  refine db_getr S hw (Nat.le_of_ble_eq_true rfl) db_s46 (C := RX1) (T := TX1) (N := 3) rfl hiX1 0 (by decide) (r := 36) rfl (List.mem_of_getElem? (i := 1) rfl) dX1_offerPart_9 ?_
  refine lv_iload_n hx hb dX1_offerPart_12 rfl (lv_at hl 2 rfl) ?_
  refine lv_iconst (v := (0 : Int32)) hx hb dX1_offerPart_13 (by decide) ?_
  refine db_callVi S hw (Nat.le_of_ble_eq_true rfl) db_s36 (C := RX4) (T := TX4) (N := 3) (As := [.int x1, .int (0 : Int32)]) rfl (ct_X4_number  h) gX1_offerPart_X4_number rfl ⟨rfl, rfl, Nat.le_of_ble_eq_true rfl, Nat.le_of_ble_eq_true rfl⟩ 2 rfl (by decide +kernel) hl.1 rfl (Nat.le_of_ble_eq_true rfl) dX1_offerPart_14 ⟨Nat.zero_le _, Nat.zero_le _⟩ (fun r1 X1 H locs h hw => ?_)
  refine lv_imul hx hb dX1_offerPart_17 ?_
  refine lv_istore (lv' := [(5, .int (x2 * r1)), (4, .int (x1 * (1001 : Int32))), (0, .ref (db_ad E 46)), (1, .int x1), (2, .int x2), (3, .int x3)]) hx hb dX1_offerPart_18 hl (by decide) rfl (fun ls hl => ?_)
  refine lv_iload_n hx hb dX1_offerPart_20 rfl (lv_at hl 4 rfl) ?_
  refine lv_aload_n hx hb dX1_offerPart_21 rfl (lv_at hl 2 rfl) ?_
  refine db_getr S hw (Nat.le_of_ble_eq_true rfl) db_s46 (C := RX1) (T := TX1) (N := 3) rfl hiX1 0 (by decide) (r := 36) rfl (List.mem_of_getElem? (i := 1) rfl) dX1_offerPart_22 ?_
  refine lv_iload_n hx hb dX1_offerPart_25 rfl (lv_at hl 3 rfl) ?_
  refine lv_iconst (v := (1 : Int32)) hx hb dX1_offerPart_26 (by decide) ?_
  refine db_callVi S hw (Nat.le_of_ble_eq_true rfl) db_s36 (C := RX4) (T := TX4) (N := 3) (As := [.int x1, .int (1 : Int32)]) rfl (ct_X4_number  h) gX1_offerPart_X4_number rfl ⟨rfl, rfl, Nat.le_of_ble_eq_true rfl, Nat.le_of_ble_eq_true rfl⟩ 2 rfl (by decide +kernel) hl.1 rfl (Nat.le_of_ble_eq_true rfl) dX1_offerPart_27 ⟨Nat.zero_le _, Nat.zero_le _⟩ (fun r2 X2 H locs h hw => ?_)
  refine lv_imul hx hb dX1_offerPart_30 ?_
  refine lv_istore (lv' := [(6, .int (x2 * r2)), (5, .int (x2 * r1)), (4, .int (x1 * (1001 : Int32))), (0, .ref (db_ad E 46)), (1, .int x1), (2, .int x2), (3, .int x3)]) hx hb dX1_offerPart_31 hl (by decide) rfl (fun ls hl => ?_)
  refine lv_iload_n hx hb dX1_offerPart_33 rfl (lv_at hl 6 rfl) ?_
  refine lv_istore (lv' := [(7, .int x3), (6, .int (x2 * r2)), (5, .int (x2 * r1)), (4, .int (x1 * (1001 : Int32))), (0, .ref (db_ad E 46)), (1, .int x1), (2, .int x2), (3, .int x3)]) hx hb dX1_offerPart_34 hl (by decide) rfl (fun ls hl => ?_)
  obtain ⟨f_, h⟩ := h
  exact tw_X1_offerPart_36 S hr hlocks   f_ _ _ _ _ _ _ _ _ h hw (lv_sub hl [4, 3, 2, 1, 0] rfl)
-- DaysOnBread$Burden.fillLevel(II)V
abbrev rm_X1_fillLevel : Room := { frames := 2, cells := 0, slots := 0, locals := 89 }
def wp_X1_fillLevel_37 (Q : db_St → Prop) : Nat → db_St → Int32 → Int32 → Int32 → Int32 → Prop
  | 0, _, _, _, _, _ => False
  | n_ + 1, X, x1, x2, x4, x5 => (((10 : Int32) ≤ x5 → Q X) ∧ (¬ ((10 : Int32) ≤ x5) → ((x4 ≤ 0 → Q X) ∧ (¬ (x4 ≤ 0) → (∀ z1, z1 = (if x4 < ((1 : Int32) <<< (x5 &&& 31)) then x4 else ((1 : Int32) <<< (x5 &&& 31))) → wp_X1_offerPart X x1 z1 x2 (fun X2 => wp_X1_fillLevel_37 Q n_ X2 x1 x2 (x4 - z1) (x5 + (1 : Int32))))))))
set_option maxHeartbeats 4000000 in
set_option maxRecDepth 100000 in
theorem tw_X1_fillLevel_37 {p : Program} {l : Launch} {e : Env} {s : State} {m : MethodId} {args : Array Value} {below : List Frame} {meth : Method} {c : Code} {E : db_E} (S : CallFix p m c cX1_fillLevel 7 s args wsX1_fillLevel RX1) (hr : meth.sig.returnType = none) (hlocks : meth.locks = false)  {Q : db_St → Prop} : ∀ (n : Nat) (X : db_St) (x1 : Int32) (x2 : Int32) (x4 : Int32) (x5 : Int32) (H : Heap) (locs : List Loc) (ls : Array Slot), wp_X1_fillLevel_37 Q n X x1 x2 x4 x5 → db_HW E (db_Aw E s.heap.size) s X H locs → lv_has ls 7 [(0, .ref (db_ad E 46)), (1, .int x1), (2, .int x2), (4, .int x4), (5, .int x5)] → W p l e rm_X1_fillLevel s m args below meth c H locs 0 0 (MQ below (va_Qv Q (db_Po E) (db_Aw E s.heap.size)) args s 0 0 (db_Aw E s.heap.size)) (F0 m 37 ls []) := by
  have hx := S.1
  have hb := S.2.1
  have hiX1 : ∀ w ∈ wsX10, w ∈ wsX1_fillLevel := fun w_ h_ => List.mem_cons_of_mem _ (List.mem_append_left _ (List.mem_append_right _ h_))
  intro n
  induction n with
  | zero =>
    intro X x1 x2 x4 x5 H locs ls h hw hl
    exact False.elim h
  | succ n_ ih =>
    intro X x1 x2 x4 x5 H locs ls h hw hl
    unfold wp_X1_fillLevel_37 at h
    refine lv_iload hx hb dX1_fillLevel_37 (lv_at hl 4 rfl) ?_
    refine lv_bipush (v := (10 : Int32)) hx hb dX1_fillLevel_39 (by decide) ?_
    refine lv_icmp_ge (tgt := 81) hx hb dX1_fillLevel_41 (by decide) (fun c4 => ?_) (fun c4 => ?_)
    · have h := h.1 c4
      exact db_vret S hr hlocks hw h dX1_fillLevel_81
    · have h := h.2 c4
      refine lv_iload hx hb dX1_fillLevel_44 (lv_at hl 3 rfl) ?_
      refine lv_if_le (tgt := 81) hx hb dX1_fillLevel_46 (by decide) (fun c3 => ?_) (fun c3 => ?_)
      · have h := h.1 c3
        exact db_vret S hr hlocks hw h dX1_fillLevel_81
      · have h := h.2 c3
        refine lv_iconst (v := (1 : Int32)) hx hb dX1_fillLevel_49 (by decide) ?_
        refine lv_iload hx hb dX1_fillLevel_50 (lv_at hl 4 rfl) ?_
        refine lv_ishl hx hb dX1_fillLevel_52 ?_
        refine lv_iload hx hb dX1_fillLevel_53 (lv_at hl 3 rfl) ?_
        refine db_min S hl.1 (List.mem_of_getElem? (i := 7) rfl) (List.mem_of_getElem? (i := 8) rfl) (List.mem_of_getElem? (i := 9) rfl) (List.mem_of_getElem? (i := 10) rfl) ⟨Nat.le_of_ble_eq_true rfl, Nat.le_of_ble_eq_true rfl⟩ ⟨Nat.zero_le _, Nat.zero_le _⟩ dX1_fillLevel_55 ?_
        refine lv_topi (fun z1 e1 => ?_)
        have h := h z1 e1
        refine lv_istore (lv' := [(6, .int z1), (0, .ref (db_ad E 46)), (1, .int x1), (2, .int x2), (4, .int x4), (5, .int x5)]) hx hb dX1_fillLevel_58 hl (by decide) rfl (fun ls hl => ?_)
        refine lv_aload_n hx hb dX1_fillLevel_60 rfl (lv_at hl 1 rfl) ?_
        refine lv_iload_n hx hb dX1_fillLevel_61 rfl (lv_at hl 2 rfl) ?_
        refine lv_iload hx hb dX1_fillLevel_62 (lv_at hl 0 rfl) ?_
        refine lv_iload_n hx hb dX1_fillLevel_64 rfl (lv_at hl 3 rfl) ?_
        refine db_callVv S hw (Nat.le_of_ble_eq_true rfl) db_s46 (C := RX1) (T := TX1) (N := 3) (As := [.int x1, .int z1, .int x2]) rfl (ct_X1_offerPart  h) gX1_fillLevel_X1_offerPart rfl ⟨rfl, rfl, Nat.le_of_ble_eq_true rfl, Nat.le_of_ble_eq_true rfl⟩ 3 rfl (by decide +kernel) hl.1 rfl (Nat.le_of_ble_eq_true rfl) dX1_fillLevel_65 ⟨Nat.zero_le _, Nat.zero_le _⟩ (fun X2 H locs h hw => ?_)
        refine lv_iload hx hb dX1_fillLevel_68 (lv_at hl 4 rfl) ?_
        refine lv_iload hx hb dX1_fillLevel_70 (lv_at hl 0 rfl) ?_
        refine lv_isub hx hb dX1_fillLevel_72 ?_
        refine lv_istore (lv' := [(4, .int (x4 - z1)), (6, .int z1), (0, .ref (db_ad E 46)), (1, .int x1), (2, .int x2), (5, .int x5)]) hx hb dX1_fillLevel_73 hl (by decide) rfl (fun ls hl => ?_)
        refine lv_iinc (v := (x5 + (1 : Int32))) (lv' := [(5, .int (x5 + (1 : Int32))), (4, .int (x4 - z1)), (6, .int z1), (0, .ref (db_ad E 46)), (1, .int x1), (2, .int x2)]) hx hb dX1_fillLevel_75 hl (k := 5) rfl (congrArg (fun z_ => x5 + z_) (show Int32.ofInt (1) = (1 : Int32) by decide)) (by decide) rfl (fun ls hl => ?_)
        refine lv_goto (tgt := 37) hx hb dX1_fillLevel_78 (by decide) ?_
        exact ih _ _ _ _ _ _ _ _ h hw (lv_sub hl [3, 4, 5, 1, 0] rfl)
def wp_X1_fillLevel  (X : db_St) (x1 : Int32) (x2 : Int32) (Q : db_St → Prop) : Prop := (((¬ ((x1 * (1001 : Int32)) + (1001 : Int32)) < 0 ∧ ¬ (x1 * (1001 : Int32)) < 0 ∧ ¬ (1001 : Int32) < 0) ∧ (((x1 * (1001 : Int32)) + (1001 : Int32))).toNatClampNeg + ((1001 : Int32)).toNatClampNeg ≤ 7007 ∧ ((x1 * (1001 : Int32))).toNatClampNeg + ((1001 : Int32)).toNatClampNeg ≤ 7007) ∧ (∀ X2, X2 = (db_sa X 47 (va_cpy (X.1 47) (X.1 47) (((x1 * (1001 : Int32)) + (1001 : Int32))).toNatClampNeg ((x1 * (1001 : Int32))).toNatClampNeg ((1001 : Int32)).toNatClampNeg)) → (vp_in x1 6 ∧ (∃ f_, wp_X1_fillLevel_37 Q f_ X2 x1 x2 (X2.1 48 (x1).toNatClampNeg) (0 : Int32)))))
set_option maxHeartbeats 4000000 in
set_option maxRecDepth 100000 in
theorem ct_X1_fillLevel {l : Launch} {E : db_E}  {X : db_St} {x1 : Int32} {x2 : Int32} {Q : db_St → Prop} (h : wp_X1_fillLevel  X x1 x2 Q) : db_MV l E yX1_fillLevel wsX1_fillLevel rm_X1_fillLevel X [.ref (db_ad E 46), .int x1, .int x2] Q := by
  intro sz
  unfold wp_X1_fillLevel at h
  refine Met.ofW (cc := cX1_fillLevel) (maxL := 7) (ret := none) (by decide) rfl ?_
  intro p e s m args below meth c s₁ B hml hv
  obtain ⟨rfl, hsz, hU⟩ := hv
  subst hsz
  have S : CallFix p m c cX1_fillLevel 7 s ([.ref (db_ad E 46), .int x1, .int x2] : List Value).toArray wsX1_fillLevel RX1 := ⟨B.exec, B.bytes, hml, findClass_of_methodNamed B.named, atoms_spec (ws := wsX1_fillLevel) B.pre⟩
  have hx := S.1
  have hb := S.2.1
  have hr := B.returns
  have hlocks := B.notSynchronized
  have hw := db_start hU
  have hiX1 : ∀ w ∈ wsX10, w ∈ wsX1_fillLevel := fun w_ h_ => List.mem_cons_of_mem _ (List.mem_append_left _ (List.mem_append_right _ h_))
  have hl := lv_entry ([.ref (db_ad E 46), .int x1, .int x2]) (n := 7) (Nat.le_of_ble_eq_true rfl)
  rw [lg_entry_eq]
  generalize (lg_sl ([.ref (db_ad E 46), .int x1, .int x2]) ++ List.replicate (7 - (lg_sl ([.ref (db_ad E 46), .int x1, .int x2])).length) Slot.unset).toArray = ls at hl ⊢
  have hl : lv_has ls 7 [(0, .ref (db_ad E 46)), (1, .int x1), (2, .int x2)] := hl
  refine lv_iload_n hx hb dX1_fillLevel_0 rfl (lv_at hl 1 rfl) ?_
  refine lv_sipush (v := (1001 : Int32)) hx hb dX1_fillLevel_1 (by decide) ?_
  refine lv_imul hx hb dX1_fillLevel_4 ?_
  refine lv_istore_n (lv' := [(3, .int (x1 * (1001 : Int32))), (0, .ref (db_ad E 46)), (1, .int x1), (2, .int x2)]) hx hb dX1_fillLevel_5 rfl hl (by decide) rfl (fun ls hl => ?_)
  refine lv_aload_n hx hb dX1_fillLevel_6 rfl (lv_at hl 1 rfl) ?_
  refine db_getr S hw (Nat.le_of_ble_eq_true rfl) db_s46 (C := RX1) (T := TX1) (N := 3) rfl hiX1 1 (by decide) (r := 47) rfl (List.mem_of_getElem? (i := 1) rfl) dX1_fillLevel_7 ?_
  refine lv_iload_n hx hb dX1_fillLevel_10 rfl (lv_at hl 0 rfl) ?_
  refine lv_sipush (v := (1001 : Int32)) hx hb dX1_fillLevel_11 (by decide) ?_
  refine lv_iadd hx hb dX1_fillLevel_14 ?_
  refine lv_aload_n hx hb dX1_fillLevel_15 rfl (lv_at hl 1 rfl) ?_
  refine db_getr S hw (Nat.le_of_ble_eq_true rfl) db_s46 (C := RX1) (T := TX1) (N := 3) rfl hiX1 1 (by decide) (r := 47) rfl (List.mem_of_getElem? (i := 1) rfl) dX1_fillLevel_16 ?_
  refine lv_iload_n hx hb dX1_fillLevel_19 rfl (lv_at hl 0 rfl) ?_
  refine lv_sipush (v := (1001 : Int32)) hx hb dX1_fillLevel_20 (by decide) ?_
  obtain ⟨g1, h⟩ := h
  refine db_copy S hw hl.1 (Nat.le_of_ble_eq_true rfl) db_s47 (Nat.le_of_ble_eq_true rfl) db_s47 (List.mem_of_getElem? (i := 2) rfl) (List.mem_of_getElem? (i := 3) rfl) (List.mem_of_getElem? (i := 4) rfl) (List.mem_of_getElem? (i := 5) rfl) g1 ⟨Nat.le_of_ble_eq_true rfl, Nat.le_of_ble_eq_true rfl⟩ dX1_fillLevel_23 (fun H locs hw => ?_)
  obtain ⟨X2, e2, hw⟩ : ∃ Z_, Z_ = (db_sa X 47 (va_cpy (X.1 47) (X.1 47) (((x1 * (1001 : Int32)) + (1001 : Int32))).toNatClampNeg ((x1 * (1001 : Int32))).toNatClampNeg ((1001 : Int32)).toNatClampNeg)) ∧ db_HW E (db_Aw E s.heap.size) s Z_ H locs := ⟨_, rfl, hw⟩
  have h := h X2 e2
  refine lv_aload_n hx hb dX1_fillLevel_26 rfl (lv_at hl 1 rfl) ?_
  refine db_getr S hw (Nat.le_of_ble_eq_true rfl) db_s46 (C := RX1) (T := TX1) (N := 3) rfl hiX1 2 (by decide) (r := 48) rfl (List.mem_of_getElem? (i := 6) rfl) dX1_fillLevel_27 ?_
  refine lv_iload_n hx hb dX1_fillLevel_30 rfl (lv_at hl 2 rfl) ?_
  obtain ⟨g3, h⟩ := h
  refine db_iald S hw (Nat.le_of_ble_eq_true rfl) db_s48 g3 dX1_fillLevel_31 ?_
  refine lv_istore (lv' := [(4, .int (X2.1 48 (x1).toNatClampNeg)), (3, .int (x1 * (1001 : Int32))), (0, .ref (db_ad E 46)), (1, .int x1), (2, .int x2)]) hx hb dX1_fillLevel_32 hl (by decide) rfl (fun ls hl => ?_)
  refine lv_iconst (v := (0 : Int32)) hx hb dX1_fillLevel_34 (by decide) ?_
  refine lv_istore (lv' := [(5, .int (0 : Int32)), (4, .int (X2.1 48 (x1).toNatClampNeg)), (3, .int (x1 * (1001 : Int32))), (0, .ref (db_ad E 46)), (1, .int x1), (2, .int x2)]) hx hb dX1_fillLevel_35 hl (by decide) rfl (fun ls hl => ?_)
  obtain ⟨f_, h⟩ := h
  exact tw_X1_fillLevel_37 S hr hlocks   f_ _ _ _ _ _ _ _ _ h hw (lv_sub hl [3, 4, 5, 1, 0] rfl)
-- DaysOnBread$Burden.fewest(II)I
abbrev rm_X1_fewest : Room := { frames := 1, cells := 0, slots := 0, locals := 60 }
def wp_X1_fewest_31 (Q : Int32 → db_St → Prop) : Nat → db_St → Int32 → Int32 → Int32 → Int32 → Int32 → Int32 → Prop
  | 0, _, _, _, _, _, _, _ => False
  | n_ + 1, X, x1, x2, x3, x4, x5, x6 => (vp_in x1 6 ∧ (((X.1 48 (x1).toNatClampNeg) ≤ x6 → (vp_in x1 6 ∧ Q (X.1 48 (x1).toNatClampNeg) X)) ∧ (¬ ((X.1 48 (x1).toNatClampNeg) ≤ x6) → (∀ z3, z3 = (if (0 : Int32) < (x2 - (x6 * x3)) then (x2 - (x6 * x3)) else (0 : Int32)) → (vp_in ((x5 + (1001 : Int32)) + z3) 7007 ∧ (vp_in (x5 + x2) 7007 ∧ ((((X.1 47 (((x5 + (1001 : Int32)) + z3)).toNatClampNeg) + (x6 * x4)) = (X.1 47 ((x5 + x2)).toNatClampNeg) → Q x6 X) ∧ (¬ ((X.1 47 (((x5 + (1001 : Int32)) + z3)).toNatClampNeg) + (x6 * x4)) = (X.1 47 ((x5 + x2)).toNatClampNeg) → wp_X1_fewest_31 Q n_ X x1 x2 x3 x4 x5 (x6 + (1 : Int32))))))))))
set_option maxHeartbeats 4000000 in
set_option maxRecDepth 100000 in
theorem tw_X1_fewest_31 {p : Program} {l : Launch} {e : Env} {s : State} {m : MethodId} {args : Array Value} {below : List Frame} {meth : Method} {c : Code} {E : db_E} (S : CallFix p m c cX1_fewest 8 s args wsX1_fewest RX1) (hr : meth.sig.returnType = (some .int)) (hlocks : meth.locks = false)  {Q : Int32 → db_St → Prop} : ∀ (n : Nat) (X : db_St) (x1 : Int32) (x2 : Int32) (x3 : Int32) (x4 : Int32) (x5 : Int32) (x6 : Int32) (H : Heap) (locs : List Loc) (ls : Array Slot), wp_X1_fewest_31 Q n X x1 x2 x3 x4 x5 x6 → db_HW E (db_Aw E s.heap.size) s X H locs → lv_has ls 8 [(0, .ref (db_ad E 46)), (1, .int x1), (2, .int x2), (3, .int x3), (4, .int x4), (5, .int x5), (6, .int x6)] → W p l e rm_X1_fewest s m args below meth c H locs 0 0 (MQ below (va_Qi Q (db_Po E) (db_Aw E s.heap.size)) args s 0 0 (db_Aw E s.heap.size)) (F0 m 31 ls []) := by
  have hx := S.1
  have hb := S.2.1
  have hiX1 : ∀ w ∈ wsX10, w ∈ wsX1_fewest := fun w_ h_ => List.mem_cons_of_mem _ (List.mem_append_left _ (List.mem_append_right _ h_))
  intro n
  induction n with
  | zero =>
    intro X x1 x2 x3 x4 x5 x6 H locs ls h hw hl
    exact False.elim h
  | succ n_ ih =>
    intro X x1 x2 x3 x4 x5 x6 H locs ls h hw hl
    unfold wp_X1_fewest_31 at h
    refine lv_iload hx hb dX1_fewest_31 (lv_at hl 6 rfl) ?_
    refine lv_aload_n hx hb dX1_fewest_33 rfl (lv_at hl 0 rfl) ?_
    refine db_getr S hw (Nat.le_of_ble_eq_true rfl) db_s46 (C := RX1) (T := TX1) (N := 3) rfl hiX1 2 (by decide) (r := 48) rfl (List.mem_of_getElem? (i := 2) rfl) dX1_fewest_34 ?_
    refine lv_iload_n hx hb dX1_fewest_37 rfl (lv_at hl 1 rfl) ?_
    obtain ⟨g1, h⟩ := h
    refine db_iald S hw (Nat.le_of_ble_eq_true rfl) db_s48 g1 dX1_fewest_38 ?_
    refine lv_icmp_ge (tgt := 95) hx hb dX1_fewest_39 (by decide) (fun c7 => ?_) (fun c7 => ?_)
    · have h := h.1 c7
      refine lv_aload_n hx hb dX1_fewest_95 rfl (lv_at hl 0 rfl) ?_
      refine db_getr S hw (Nat.le_of_ble_eq_true rfl) db_s46 (C := RX1) (T := TX1) (N := 3) rfl hiX1 2 (by decide) (r := 48) rfl (List.mem_of_getElem? (i := 2) rfl) dX1_fewest_96 ?_
      refine lv_iload_n hx hb dX1_fewest_99 rfl (lv_at hl 1 rfl) ?_
      obtain ⟨g2, h⟩ := h
      refine db_iald S hw (Nat.le_of_ble_eq_true rfl) db_s48 g2 dX1_fewest_100 ?_
      exact db_iret S hr hlocks hw h dX1_fewest_101
    · have h := h.2 c7
      refine lv_iconst (v := (0 : Int32)) hx hb dX1_fewest_42 (by decide) ?_
      refine lv_iload_n hx hb dX1_fewest_43 rfl (lv_at hl 2 rfl) ?_
      refine lv_iload hx hb dX1_fewest_44 (lv_at hl 6 rfl) ?_
      refine lv_iload_n hx hb dX1_fewest_46 rfl (lv_at hl 3 rfl) ?_
      refine lv_imul hx hb dX1_fewest_47 ?_
      refine lv_isub hx hb dX1_fewest_48 ?_
      refine db_max S hl.1 (List.mem_of_getElem? (i := 3) rfl) (List.mem_of_getElem? (i := 4) rfl) (List.mem_of_getElem? (i := 5) rfl) (List.mem_of_getElem? (i := 6) rfl) ⟨Nat.le_of_ble_eq_true rfl, Nat.le_of_ble_eq_true rfl⟩ ⟨Nat.zero_le _, Nat.zero_le _⟩ dX1_fewest_49 ?_
      refine lv_topi (fun z3 e3 => ?_)
      have h := h z3 e3
      refine lv_istore (lv' := [(7, .int z3), (0, .ref (db_ad E 46)), (1, .int x1), (2, .int x2), (3, .int x3), (4, .int x4), (5, .int x5), (6, .int x6)]) hx hb dX1_fewest_52 hl (by decide) rfl (fun ls hl => ?_)
      refine lv_aload_n hx hb dX1_fewest_54 rfl (lv_at hl 1 rfl) ?_
      refine db_getr S hw (Nat.le_of_ble_eq_true rfl) db_s46 (C := RX1) (T := TX1) (N := 3) rfl hiX1 1 (by decide) (r := 47) rfl (List.mem_of_getElem? (i := 7) rfl) dX1_fewest_55 ?_
      refine lv_iload hx hb dX1_fewest_58 (lv_at hl 6 rfl) ?_
      refine lv_sipush (v := (1001 : Int32)) hx hb dX1_fewest_60 (by decide) ?_
      refine lv_iadd hx hb dX1_fewest_63 ?_
      refine lv_iload hx hb dX1_fewest_64 (lv_at hl 0 rfl) ?_
      refine lv_iadd hx hb dX1_fewest_66 ?_
      obtain ⟨g4, h⟩ := h
      refine db_iald S hw (Nat.le_of_ble_eq_true rfl) db_s47 g4 dX1_fewest_67 ?_
      refine lv_iload hx hb dX1_fewest_68 (lv_at hl 7 rfl) ?_
      refine lv_iload hx hb dX1_fewest_70 (lv_at hl 5 rfl) ?_
      refine lv_imul hx hb dX1_fewest_72 ?_
      refine lv_iadd hx hb dX1_fewest_73 ?_
      refine lv_aload_n hx hb dX1_fewest_74 rfl (lv_at hl 1 rfl) ?_
      refine db_getr S hw (Nat.le_of_ble_eq_true rfl) db_s46 (C := RX1) (T := TX1) (N := 3) rfl hiX1 1 (by decide) (r := 47) rfl (List.mem_of_getElem? (i := 7) rfl) dX1_fewest_75 ?_
      refine lv_iload hx hb dX1_fewest_78 (lv_at hl 6 rfl) ?_
      refine lv_iload_n hx hb dX1_fewest_80 rfl (lv_at hl 3 rfl) ?_
      refine lv_iadd hx hb dX1_fewest_81 ?_
      obtain ⟨g5, h⟩ := h
      refine db_iald S hw (Nat.le_of_ble_eq_true rfl) db_s47 g5 dX1_fewest_82 ?_
      refine lv_icmp_ne (tgt := 89) hx hb dX1_fewest_83 (by decide) (fun c6 => ?_) (fun c6 => ?_)
      · have h := h.2 c6
        refine lv_iinc (v := (x6 + (1 : Int32))) (lv' := [(6, .int (x6 + (1 : Int32))), (7, .int z3), (0, .ref (db_ad E 46)), (1, .int x1), (2, .int x2), (3, .int x3), (4, .int x4), (5, .int x5)]) hx hb dX1_fewest_89 hl (k := 7) rfl (congrArg (fun z_ => x6 + z_) (show Int32.ofInt (1) = (1 : Int32) by decide)) (by decide) rfl (fun ls hl => ?_)
        refine lv_goto (tgt := 31) hx hb dX1_fewest_92 (by decide) ?_
        exact ih _ _ _ _ _ _ _ _ _ _ h hw (lv_sub hl [2, 3, 4, 5, 6, 7, 0] rfl)
      · have h := h.1 c6
        refine lv_iload hx hb dX1_fewest_86 (lv_at hl 7 rfl) ?_
        exact db_iret S hr hlocks hw h dX1_fewest_88
def wp_X1_fewest  (X : db_St) (x1 : Int32) (x2 : Int32) (Q : Int32 → db_St → Prop) : Prop := wp_X4_number X x1 (0 : Int32) (fun r1 X1 => wp_X4_number X1 x1 (1 : Int32) (fun r2 X2 => (∃ f_, wp_X1_fewest_31 Q f_ X2 x1 x2 r1 r2 (x1 * (1001 : Int32)) (0 : Int32))))
set_option maxHeartbeats 4000000 in
set_option maxRecDepth 100000 in
theorem ct_X1_fewest {l : Launch} {E : db_E}  {X : db_St} {x1 : Int32} {x2 : Int32} {Q : Int32 → db_St → Prop} (h : wp_X1_fewest  X x1 x2 Q) : db_MI l E yX1_fewest wsX1_fewest rm_X1_fewest X [.ref (db_ad E 46), .int x1, .int x2] Q := by
  intro sz
  unfold wp_X1_fewest at h
  refine Met.ofW (cc := cX1_fewest) (maxL := 8) (ret := (some .int)) (by decide) rfl ?_
  intro p e s m args below meth c s₁ B hml hv
  obtain ⟨rfl, hsz, hU⟩ := hv
  subst hsz
  have S : CallFix p m c cX1_fewest 8 s ([.ref (db_ad E 46), .int x1, .int x2] : List Value).toArray wsX1_fewest RX1 := ⟨B.exec, B.bytes, hml, findClass_of_methodNamed B.named, atoms_spec (ws := wsX1_fewest) B.pre⟩
  have hx := S.1
  have hb := S.2.1
  have hr := B.returns
  have hlocks := B.notSynchronized
  have hw := db_start hU
  have hiX1 : ∀ w ∈ wsX10, w ∈ wsX1_fewest := fun w_ h_ => List.mem_cons_of_mem _ (List.mem_append_left _ (List.mem_append_right _ h_))
  have hl := lv_entry ([.ref (db_ad E 46), .int x1, .int x2]) (n := 8) (Nat.le_of_ble_eq_true rfl)
  rw [lg_entry_eq]
  generalize (lg_sl ([.ref (db_ad E 46), .int x1, .int x2]) ++ List.replicate (8 - (lg_sl ([.ref (db_ad E 46), .int x1, .int x2])).length) Slot.unset).toArray = ls at hl ⊢
  have hl : lv_has ls 8 [(0, .ref (db_ad E 46)), (1, .int x1), (2, .int x2)] := hl
  refine lv_aload_n hx hb dX1_fewest_0 rfl (lv_at hl 0 rfl) ?_
  refine db_getr S hw (Nat.le_of_ble_eq_true rfl) db_s46 (C := RX1) (T := TX1) (N := 3) rfl hiX1 0 (by decide) (r := 36) rfl (List.mem_of_getElem? (i := 1) rfl) dX1_fewest_1 ?_
  refine lv_iload_n hx hb dX1_fewest_4 rfl (lv_at hl 1 rfl) ?_
  refine lv_iconst (v := (0 : Int32)) hx hb dX1_fewest_5 (by decide) ?_
  refine db_callVi S hw (Nat.le_of_ble_eq_true rfl) db_s36 (C := RX4) (T := TX4) (N := 3) (As := [.int x1, .int (0 : Int32)]) rfl (ct_X4_number  h) gX1_fewest_X4_number rfl ⟨rfl, rfl, Nat.le_of_ble_eq_true rfl, Nat.le_of_ble_eq_true rfl⟩ 2 rfl (by decide +kernel) hl.1 rfl (Nat.le_of_ble_eq_true rfl) dX1_fewest_6 ⟨Nat.zero_le _, Nat.zero_le _⟩ (fun r1 X1 H locs h hw => ?_)
  refine lv_istore_n (lv' := [(3, .int r1), (0, .ref (db_ad E 46)), (1, .int x1), (2, .int x2)]) hx hb dX1_fewest_9 rfl hl (by decide) rfl (fun ls hl => ?_)
  refine lv_aload_n hx hb dX1_fewest_10 rfl (lv_at hl 1 rfl) ?_
  refine db_getr S hw (Nat.le_of_ble_eq_true rfl) db_s46 (C := RX1) (T := TX1) (N := 3) rfl hiX1 0 (by decide) (r := 36) rfl (List.mem_of_getElem? (i := 1) rfl) dX1_fewest_11 ?_
  refine lv_iload_n hx hb dX1_fewest_14 rfl (lv_at hl 2 rfl) ?_
  refine lv_iconst (v := (1 : Int32)) hx hb dX1_fewest_15 (by decide) ?_
  refine db_callVi S hw (Nat.le_of_ble_eq_true rfl) db_s36 (C := RX4) (T := TX4) (N := 3) (As := [.int x1, .int (1 : Int32)]) rfl (ct_X4_number  h) gX1_fewest_X4_number rfl ⟨rfl, rfl, Nat.le_of_ble_eq_true rfl, Nat.le_of_ble_eq_true rfl⟩ 2 rfl (by decide +kernel) hl.1 rfl (Nat.le_of_ble_eq_true rfl) dX1_fewest_16 ⟨Nat.zero_le _, Nat.zero_le _⟩ (fun r2 X2 H locs h hw => ?_)
  refine lv_istore (lv' := [(4, .int r2), (3, .int r1), (0, .ref (db_ad E 46)), (1, .int x1), (2, .int x2)]) hx hb dX1_fewest_19 hl (by decide) rfl (fun ls hl => ?_)
  refine lv_iload_n hx hb dX1_fewest_21 rfl (lv_at hl 3 rfl) ?_
  refine lv_sipush (v := (1001 : Int32)) hx hb dX1_fewest_22 (by decide) ?_
  refine lv_imul hx hb dX1_fewest_25 ?_
  refine lv_istore (lv' := [(5, .int (x1 * (1001 : Int32))), (4, .int r2), (3, .int r1), (0, .ref (db_ad E 46)), (1, .int x1), (2, .int x2)]) hx hb dX1_fewest_26 hl (by decide) rfl (fun ls hl => ?_)
  refine lv_iconst (v := (0 : Int32)) hx hb dX1_fewest_28 (by decide) ?_
  refine lv_istore (lv' := [(6, .int (0 : Int32)), (5, .int (x1 * (1001 : Int32))), (4, .int r2), (3, .int r1), (0, .ref (db_ad E 46)), (1, .int x1), (2, .int x2)]) hx hb dX1_fewest_29 hl (by decide) rfl (fun ls hl => ?_)
  obtain ⟨f_, h⟩ := h
  exact tw_X1_fewest_31 S hr hlocks   f_ _ _ _ _ _ _ _ _ _ _ h hw (lv_sub hl [4, 5, 6, 3, 2, 1, 0] rfl)
-- DaysOnBread$Burden.unitsOf(II)I
abbrev rm_X1_unitsOf : Room := { frames := 2, cells := 0, slots := 0, locals := 87 }
def wp_X1_unitsOf_8 (Q : Int32 → db_St → Prop) : Nat → db_St → Int32 → Int32 → Int32 → Int32 → Prop
  | 0, _, _, _, _, _ => False
  | n_ + 1, X, x1, x3, x4, x5 => ((x1 < x5 → Q x4 X) ∧ (¬ (x1 < x5) → (((6 : Int32) ≤ x5 → Q x4 X) ∧ (¬ ((6 : Int32) ≤ x5) → wp_X1_fewest X x5 x3 (fun r1 X1 => wp_X4_number X1 x5 (0 : Int32) (fun r2 X2 => (∀ z3, z3 = (if (0 : Int32) < (x3 - (r1 * r2)) then (x3 - (r1 * r2)) else (0 : Int32)) → wp_X1_unitsOf_8 Q n_ X2 x1 z3 r1 (x5 + (1 : Int32)))))))))
set_option maxHeartbeats 4000000 in
set_option maxRecDepth 100000 in
theorem tw_X1_unitsOf_8 {p : Program} {l : Launch} {e : Env} {s : State} {m : MethodId} {args : Array Value} {below : List Frame} {meth : Method} {c : Code} {E : db_E} (S : CallFix p m c cX1_unitsOf 6 s args wsX1_unitsOf RX1) (hr : meth.sig.returnType = (some .int)) (hlocks : meth.locks = false)  {Q : Int32 → db_St → Prop} : ∀ (n : Nat) (X : db_St) (x1 : Int32) (x3 : Int32) (x4 : Int32) (x5 : Int32) (H : Heap) (locs : List Loc) (ls : Array Slot), wp_X1_unitsOf_8 Q n X x1 x3 x4 x5 → db_HW E (db_Aw E s.heap.size) s X H locs → lv_has ls 6 [(0, .ref (db_ad E 46)), (1, .int x1), (3, .int x3), (4, .int x4), (5, .int x5)] → W p l e rm_X1_unitsOf s m args below meth c H locs 0 0 (MQ below (va_Qi Q (db_Po E) (db_Aw E s.heap.size)) args s 0 0 (db_Aw E s.heap.size)) (F0 m 8 ls []) := by
  have hx := S.1
  have hb := S.2.1
  have hiX1 : ∀ w ∈ wsX10, w ∈ wsX1_unitsOf := fun w_ h_ => List.mem_cons_of_mem _ (List.mem_append_left _ (List.mem_append_right _ h_))
  intro n
  induction n with
  | zero =>
    intro X x1 x3 x4 x5 H locs ls h hw hl
    exact False.elim h
  | succ n_ ih =>
    intro X x1 x3 x4 x5 H locs ls h hw hl
    unfold wp_X1_unitsOf_8 at h
    refine lv_iload hx hb dX1_unitsOf_8 (lv_at hl 4 rfl) ?_
    refine lv_iload_n hx hb dX1_unitsOf_10 rfl (lv_at hl 1 rfl) ?_
    refine lv_icmp_gt (tgt := 56) hx hb dX1_unitsOf_11 (by decide) (fun c5 => ?_) (fun c5 => ?_)
    · have h := h.1 c5
      refine lv_iload hx hb dX1_unitsOf_56 (lv_at hl 3 rfl) ?_
      exact db_iret S hr hlocks hw h dX1_unitsOf_58
    · have h := h.2 c5
      refine lv_iload hx hb dX1_unitsOf_14 (lv_at hl 4 rfl) ?_
      refine lv_bipush (v := (6 : Int32)) hx hb dX1_unitsOf_16 (by decide) ?_
      refine lv_icmp_ge (tgt := 56) hx hb dX1_unitsOf_18 (by decide) (fun c4 => ?_) (fun c4 => ?_)
      · have h := h.1 c4
        refine lv_iload hx hb dX1_unitsOf_56 (lv_at hl 3 rfl) ?_
        exact db_iret S hr hlocks hw h dX1_unitsOf_58
      · have h := h.2 c4
        refine lv_aload_n hx hb dX1_unitsOf_21 rfl (lv_at hl 0 rfl) ?_
        refine lv_iload hx hb dX1_unitsOf_22 (lv_at hl 4 rfl) ?_
        refine lv_iload_n hx hb dX1_unitsOf_24 rfl (lv_at hl 2 rfl) ?_
        refine db_callVi S hw (Nat.le_of_ble_eq_true rfl) db_s46 (C := RX1) (T := TX1) (N := 3) (As := [.int x5, .int x3]) rfl (ct_X1_fewest  h) gX1_unitsOf_X1_fewest rfl ⟨rfl, rfl, Nat.le_of_ble_eq_true rfl, Nat.le_of_ble_eq_true rfl⟩ 2 rfl (by decide +kernel) hl.1 rfl (Nat.le_of_ble_eq_true rfl) dX1_unitsOf_25 ⟨Nat.zero_le _, Nat.zero_le _⟩ (fun r1 X1 H locs h hw => ?_)
        refine lv_istore (lv' := [(4, .int r1), (0, .ref (db_ad E 46)), (1, .int x1), (3, .int x3), (5, .int x5)]) hx hb dX1_unitsOf_28 hl (by decide) rfl (fun ls hl => ?_)
        refine lv_iconst (v := (0 : Int32)) hx hb dX1_unitsOf_30 (by decide) ?_
        refine lv_iload_n hx hb dX1_unitsOf_31 rfl (lv_at hl 3 rfl) ?_
        refine lv_iload hx hb dX1_unitsOf_32 (lv_at hl 0 rfl) ?_
        refine lv_aload_n hx hb dX1_unitsOf_34 rfl (lv_at hl 1 rfl) ?_
        refine db_getr S hw (Nat.le_of_ble_eq_true rfl) db_s46 (C := RX1) (T := TX1) (N := 3) rfl hiX1 0 (by decide) (r := 36) rfl (List.mem_of_getElem? (i := 1) rfl) dX1_unitsOf_35 ?_
        refine lv_iload hx hb dX1_unitsOf_38 (lv_at hl 4 rfl) ?_
        refine lv_iconst (v := (0 : Int32)) hx hb dX1_unitsOf_40 (by decide) ?_
        refine db_callVi S hw (Nat.le_of_ble_eq_true rfl) db_s36 (C := RX4) (T := TX4) (N := 3) (As := [.int x5, .int (0 : Int32)]) rfl (ct_X4_number  h) gX1_unitsOf_X4_number rfl ⟨rfl, rfl, Nat.le_of_ble_eq_true rfl, Nat.le_of_ble_eq_true rfl⟩ 2 rfl (by decide +kernel) hl.1 rfl (Nat.le_of_ble_eq_true rfl) dX1_unitsOf_41 ⟨Nat.zero_le _, Nat.zero_le _⟩ (fun r2 X2 H locs h hw => ?_)
        refine lv_imul hx hb dX1_unitsOf_44 ?_
        refine lv_isub hx hb dX1_unitsOf_45 ?_
        refine db_max S hl.1 (List.mem_of_getElem? (i := 2) rfl) (List.mem_of_getElem? (i := 3) rfl) (List.mem_of_getElem? (i := 4) rfl) (List.mem_of_getElem? (i := 5) rfl) ⟨Nat.le_of_ble_eq_true rfl, Nat.le_of_ble_eq_true rfl⟩ ⟨Nat.zero_le _, Nat.zero_le _⟩ dX1_unitsOf_46 ?_
        refine lv_topi (fun z3 e3 => ?_)
        have h := h z3 e3
        refine lv_istore_n (lv' := [(3, .int z3), (4, .int r1), (0, .ref (db_ad E 46)), (1, .int x1), (5, .int x5)]) hx hb dX1_unitsOf_49 rfl hl (by decide) rfl (fun ls hl => ?_)
        refine lv_iinc (v := (x5 + (1 : Int32))) (lv' := [(5, .int (x5 + (1 : Int32))), (3, .int z3), (4, .int r1), (0, .ref (db_ad E 46)), (1, .int x1)]) hx hb dX1_unitsOf_50 hl (k := 4) rfl (congrArg (fun z_ => x5 + z_) (show Int32.ofInt (1) = (1 : Int32) by decide)) (by decide) rfl (fun ls hl => ?_)
        refine lv_goto (tgt := 8) hx hb dX1_unitsOf_53 (by decide) ?_
        exact ih _ _ _ _ _ _ _ _ h hw (lv_sub hl [3, 4, 1, 2, 0] rfl)
def wp_X1_unitsOf  (X : db_St) (x1 : Int32) (x2 : Int32) (Q : Int32 → db_St → Prop) : Prop := (∃ f_, wp_X1_unitsOf_8 Q f_ X x1 x2 (0 : Int32) (0 : Int32))
set_option maxHeartbeats 4000000 in
set_option maxRecDepth 100000 in
theorem ct_X1_unitsOf {l : Launch} {E : db_E}  {X : db_St} {x1 : Int32} {x2 : Int32} {Q : Int32 → db_St → Prop} (h : wp_X1_unitsOf  X x1 x2 Q) : db_MI l E yX1_unitsOf wsX1_unitsOf rm_X1_unitsOf X [.ref (db_ad E 46), .int x1, .int x2] Q := by
  intro sz
  unfold wp_X1_unitsOf at h
  refine Met.ofW (cc := cX1_unitsOf) (maxL := 6) (ret := (some .int)) (by decide) rfl ?_
  intro p e s m args below meth c s₁ B hml hv
  obtain ⟨rfl, hsz, hU⟩ := hv
  subst hsz
  have S : CallFix p m c cX1_unitsOf 6 s ([.ref (db_ad E 46), .int x1, .int x2] : List Value).toArray wsX1_unitsOf RX1 := ⟨B.exec, B.bytes, hml, findClass_of_methodNamed B.named, atoms_spec (ws := wsX1_unitsOf) B.pre⟩
  have hx := S.1
  have hb := S.2.1
  have hr := B.returns
  have hlocks := B.notSynchronized
  have hw := db_start hU
  have hiX1 : ∀ w ∈ wsX10, w ∈ wsX1_unitsOf := fun w_ h_ => List.mem_cons_of_mem _ (List.mem_append_left _ (List.mem_append_right _ h_))
  have hl := lv_entry ([.ref (db_ad E 46), .int x1, .int x2]) (n := 6) (Nat.le_of_ble_eq_true rfl)
  rw [lg_entry_eq]
  generalize (lg_sl ([.ref (db_ad E 46), .int x1, .int x2]) ++ List.replicate (6 - (lg_sl ([.ref (db_ad E 46), .int x1, .int x2])).length) Slot.unset).toArray = ls at hl ⊢
  have hl : lv_has ls 6 [(0, .ref (db_ad E 46)), (1, .int x1), (2, .int x2)] := hl
  refine lv_iload_n hx hb dX1_unitsOf_0 rfl (lv_at hl 2 rfl) ?_
  refine lv_istore_n (lv' := [(3, .int x2), (0, .ref (db_ad E 46)), (1, .int x1), (2, .int x2)]) hx hb dX1_unitsOf_1 rfl hl (by decide) rfl (fun ls hl => ?_)
  refine lv_iconst (v := (0 : Int32)) hx hb dX1_unitsOf_2 (by decide) ?_
  refine lv_istore (lv' := [(4, .int (0 : Int32)), (3, .int x2), (0, .ref (db_ad E 46)), (1, .int x1), (2, .int x2)]) hx hb dX1_unitsOf_3 hl (by decide) rfl (fun ls hl => ?_)
  refine lv_iconst (v := (0 : Int32)) hx hb dX1_unitsOf_5 (by decide) ?_
  refine lv_istore (lv' := [(5, .int (0 : Int32)), (4, .int (0 : Int32)), (3, .int x2), (0, .ref (db_ad E 46)), (1, .int x1), (2, .int x2)]) hx hb dX1_unitsOf_6 hl (by decide) rfl (fun ls hl => ?_)
  obtain ⟨f_, h⟩ := h
  exact tw_X1_unitsOf_8 S hr hlocks   f_ _ _ _ _ _ _ _ _ h hw (lv_sub hl [3, 4, 2, 1, 0] rfl)
-- DaysOnBread$Burden.leastHard(III)I
abbrev rm_X1_leastHard : Room := { frames := 4, cells := 0, slots := 0, locals := 115 }
def wp_X1_leastHard_43 (Q : Int32 → db_St → Prop) : Nat → db_St → Int32 → Int32 → Int32 → Int32 → Prop
  | 0, _, _, _, _, _ => False
  | n_ + 1, X, x1, x2, x3, x4 => ((x4 < 0 → (vp_in x1 7007 ∧ (((X.1 47 (x1).toNatClampNeg) < (100000000 : Int32) → ((x3 = (6 : Int32) → (vp_in x1 7007 ∧ Q (X.1 47 (x1).toNatClampNeg) X)) ∧ (¬ x3 = (6 : Int32) → wp_X1_unitsOf X x3 x1 (fun r2 X2 => Q r2 X2)))) ∧ (¬ ((X.1 47 (x1).toNatClampNeg) < (100000000 : Int32)) → Q (-9 : Int32) X)))) ∧ (¬ (x4 < 0) → wp_X4_unitsAtMost X x4 x2 (X.1 36 2) (fun r6 X6 => (vp_in x4 6 ∧ (∀ X8, X8 = (db_si X6 48 (x4).toNatClampNeg r6) → wp_X1_fillLevel X8 x4 x1 (fun X9 => wp_X1_leastHard_43 Q n_ X9 x1 x2 x3 (x4 + (-1 : Int32))))))))
set_option maxHeartbeats 4000000 in
set_option maxRecDepth 100000 in
theorem tw_X1_leastHard_43 {p : Program} {l : Launch} {e : Env} {s : State} {m : MethodId} {args : Array Value} {below : List Frame} {meth : Method} {c : Code} {E : db_E} (S : CallFix p m c cX1_leastHard 5 s args wsX1_leastHard RX1) (hr : meth.sig.returnType = (some .int)) (hlocks : meth.locks = false)  {Q : Int32 → db_St → Prop} : ∀ (n : Nat) (X : db_St) (x1 : Int32) (x2 : Int32) (x3 : Int32) (x4 : Int32) (H : Heap) (locs : List Loc) (ls : Array Slot), wp_X1_leastHard_43 Q n X x1 x2 x3 x4 → db_HW E (db_Aw E s.heap.size) s X H locs → lv_has ls 5 [(0, .ref (db_ad E 46)), (1, .int x1), (2, .int x2), (3, .int x3), (4, .int x4)] → W p l e rm_X1_leastHard s m args below meth c H locs 0 0 (MQ below (va_Qi Q (db_Po E) (db_Aw E s.heap.size)) args s 0 0 (db_Aw E s.heap.size)) (F0 m 43 ls []) := by
  have hx := S.1
  have hb := S.2.1
  have hiX1 : ∀ w ∈ wsX10, w ∈ wsX1_leastHard := fun w_ h_ => List.mem_cons_of_mem _ (List.mem_append_left _ (List.mem_append_right _ h_))
  have hiX4 : ∀ w ∈ wsX40, w ∈ wsX1_leastHard := fun w_ h_ => List.mem_cons_of_mem _ (List.mem_append_right _ h_)
  intro n
  induction n with
  | zero =>
    intro X x1 x2 x3 x4 H locs ls h hw hl
    exact False.elim h
  | succ n_ ih =>
    intro X x1 x2 x3 x4 H locs ls h hw hl
    unfold wp_X1_leastHard_43 at h
    refine lv_iload hx hb dX1_leastHard_43 (lv_at hl 4 rfl) ?_
    refine lv_if_lt (tgt := 85) hx hb dX1_leastHard_45 (by decide) (fun c10 => ?_) (fun c10 => ?_)
    · have h := h.1 c10
      refine lv_aload_n hx hb dX1_leastHard_85 rfl (lv_at hl 0 rfl) ?_
      refine db_getr S hw (Nat.le_of_ble_eq_true rfl) db_s46 (C := RX1) (T := TX1) (N := 3) rfl hiX1 1 (by decide) (r := 47) rfl (List.mem_of_getElem? (i := 1) rfl) dX1_leastHard_86 ?_
      refine lv_iload_n hx hb dX1_leastHard_89 rfl (lv_at hl 1 rfl) ?_
      obtain ⟨g1, h⟩ := h
      refine db_iald S hw (Nat.le_of_ble_eq_true rfl) db_s47 g1 dX1_leastHard_90 ?_
      refine lv_ldc (v := (100000000 : Int32)) hx hb S.2.2.2.1 (S.2.2.2.2 _ (List.mem_of_getElem? (i := 2) rfl)) dX1_leastHard_91 ?_
      refine lv_icmp_lt (tgt := 99) hx hb dX1_leastHard_93 (by decide) (fun c5 => ?_) (fun c5 => ?_)
      · have h := h.1 c5
        refine lv_iload_n hx hb dX1_leastHard_99 rfl (lv_at hl 3 rfl) ?_
        refine lv_bipush (v := (6 : Int32)) hx hb dX1_leastHard_100 (by decide) ?_
        refine lv_icmp_ne (tgt := 114) hx hb dX1_leastHard_102 (by decide) (fun c4 => ?_) (fun c4 => ?_)
        · have h := h.2 c4
          refine lv_aload_n hx hb dX1_leastHard_114 rfl (lv_at hl 0 rfl) ?_
          refine lv_iload_n hx hb dX1_leastHard_115 rfl (lv_at hl 3 rfl) ?_
          refine lv_iload_n hx hb dX1_leastHard_116 rfl (lv_at hl 1 rfl) ?_
          refine db_callVi S hw (Nat.le_of_ble_eq_true rfl) db_s46 (C := RX1) (T := TX1) (N := 3) (As := [.int x3, .int x1]) rfl (ct_X1_unitsOf  h) gX1_leastHard_X1_unitsOf rfl ⟨rfl, rfl, Nat.le_of_ble_eq_true rfl, Nat.le_of_ble_eq_true rfl⟩ 2 rfl (by decide +kernel) hl.1 rfl (Nat.le_of_ble_eq_true rfl) dX1_leastHard_117 ⟨Nat.zero_le _, Nat.zero_le _⟩ (fun r2 X2 H locs h hw => ?_)
          exact db_iret S hr hlocks hw h dX1_leastHard_120
        · have h := h.1 c4
          refine lv_aload_n hx hb dX1_leastHard_105 rfl (lv_at hl 0 rfl) ?_
          refine db_getr S hw (Nat.le_of_ble_eq_true rfl) db_s46 (C := RX1) (T := TX1) (N := 3) rfl hiX1 1 (by decide) (r := 47) rfl (List.mem_of_getElem? (i := 1) rfl) dX1_leastHard_106 ?_
          refine lv_iload_n hx hb dX1_leastHard_109 rfl (lv_at hl 1 rfl) ?_
          obtain ⟨g3, h⟩ := h
          refine db_iald S hw (Nat.le_of_ble_eq_true rfl) db_s47 g3 dX1_leastHard_110 ?_
          refine lv_goto (tgt := 120) hx hb dX1_leastHard_111 (by decide) ?_
          exact db_iret S hr hlocks hw h dX1_leastHard_120
      · have h := h.2 c5
        refine lv_bipush (v := (-9 : Int32)) hx hb dX1_leastHard_96 (by decide) ?_
        exact db_iret S hr hlocks hw h dX1_leastHard_98
    · have h := h.2 c10
      refine lv_aload_n hx hb dX1_leastHard_48 rfl (lv_at hl 0 rfl) ?_
      refine db_getr S hw (Nat.le_of_ble_eq_true rfl) db_s46 (C := RX1) (T := TX1) (N := 3) rfl hiX1 2 (by decide) (r := 48) rfl (List.mem_of_getElem? (i := 3) rfl) dX1_leastHard_49 ?_
      refine lv_iload hx hb dX1_leastHard_52 (lv_at hl 4 rfl) ?_
      refine lv_aload_n hx hb dX1_leastHard_54 rfl (lv_at hl 0 rfl) ?_
      refine db_getr S hw (Nat.le_of_ble_eq_true rfl) db_s46 (C := RX1) (T := TX1) (N := 3) rfl hiX1 0 (by decide) (r := 36) rfl (List.mem_of_getElem? (i := 4) rfl) dX1_leastHard_55 ?_
      refine lv_iload hx hb dX1_leastHard_58 (lv_at hl 4 rfl) ?_
      refine lv_iload_n hx hb dX1_leastHard_60 rfl (lv_at hl 2 rfl) ?_
      refine lv_aload_n hx hb dX1_leastHard_61 rfl (lv_at hl 0 rfl) ?_
      refine db_getr S hw (Nat.le_of_ble_eq_true rfl) db_s46 (C := RX1) (T := TX1) (N := 3) rfl hiX1 0 (by decide) (r := 36) rfl (List.mem_of_getElem? (i := 4) rfl) dX1_leastHard_62 ?_
      refine db_getiN S hw (Nat.le_of_ble_eq_true rfl) db_s36 (C := RX4) (T := TX4) (N := 3) rfl hiX4 2 (by decide) rfl (List.mem_of_getElem? (i := 18) rfl) dX1_leastHard_65 ?_
      refine db_callVi S hw (Nat.le_of_ble_eq_true rfl) db_s36 (C := RX4) (T := TX4) (N := 3) (As := [.int x4, .int x2, .int (X.1 36 2)]) rfl (ct_X4_unitsAtMost  h) gX1_leastHard_X4_unitsAtMost rfl ⟨rfl, rfl, Nat.le_of_ble_eq_true rfl, Nat.le_of_ble_eq_true rfl⟩ 3 rfl (by decide +kernel) hl.1 rfl (Nat.le_of_ble_eq_true rfl) dX1_leastHard_68 ⟨Nat.zero_le _, Nat.zero_le _⟩ (fun r6 X6 H locs h hw => ?_)
      obtain ⟨g7, h⟩ := h
      refine db_iast S hw (Nat.le_of_ble_eq_true rfl) db_s48 g7 dX1_leastHard_71 (fun H locs hw => ?_)
      obtain ⟨X8, e8, hw⟩ : ∃ Z_, Z_ = (db_si X6 48 (x4).toNatClampNeg r6) ∧ db_HW E (db_Aw E s.heap.size) s Z_ H locs := ⟨_, rfl, hw⟩
      have h := h X8 e8
      refine lv_aload_n hx hb dX1_leastHard_72 rfl (lv_at hl 0 rfl) ?_
      refine lv_iload hx hb dX1_leastHard_73 (lv_at hl 4 rfl) ?_
      refine lv_iload_n hx hb dX1_leastHard_75 rfl (lv_at hl 1 rfl) ?_
      refine db_callVv S hw (Nat.le_of_ble_eq_true rfl) db_s46 (C := RX1) (T := TX1) (N := 3) (As := [.int x4, .int x1]) rfl (ct_X1_fillLevel  h) gX1_leastHard_X1_fillLevel rfl ⟨rfl, rfl, Nat.le_of_ble_eq_true rfl, Nat.le_of_ble_eq_true rfl⟩ 2 rfl (by decide +kernel) hl.1 rfl (Nat.le_of_ble_eq_true rfl) dX1_leastHard_76 ⟨Nat.zero_le _, Nat.zero_le _⟩ (fun X9 H locs h hw => ?_)
      refine lv_iinc (v := (x4 + (-1 : Int32))) (lv' := [(4, .int (x4 + (-1 : Int32))), (0, .ref (db_ad E 46)), (1, .int x1), (2, .int x2), (3, .int x3)]) hx hb dX1_leastHard_79 hl (k := 4) rfl (congrArg (fun z_ => x4 + z_) (show Int32.ofInt (-1) = (-1 : Int32) by decide)) (by decide) rfl (fun ls hl => ?_)
      refine lv_goto (tgt := 43) hx hb dX1_leastHard_82 (by decide) ?_
      exact ih _ _ _ _ _ _ _ _ h hw (lv_sub hl [1, 2, 3, 4, 0] rfl)
def wp_X1_leastHard  (X : db_St) (x1 : Int32) (x2 : Int32) (x3 : Int32) (Q : Int32 → db_St → Prop) : Prop := ((x1 < 0 → Q (-9 : Int32) X) ∧ (¬ (x1 < 0) → ((x1 < (1001 : Int32) → wp_J7_fill_fda19 47 7007 X (6006 : Int32) (7007 : Int32) (100000000 : Int32) (fun X1 => (∀ X2, X2 = (db_si X1 47 ((6006 : Int32)).toNatClampNeg (0 : Int32)) → (∃ f_, wp_X1_leastHard_43 Q f_ X2 x1 x2 x3 (5 : Int32))))) ∧ (¬ (x1 < (1001 : Int32)) → Q (-9 : Int32) X))))
set_option maxHeartbeats 4000000 in
set_option maxRecDepth 100000 in
theorem ct_X1_leastHard {l : Launch} {E : db_E}  {X : db_St} {x1 : Int32} {x2 : Int32} {x3 : Int32} {Q : Int32 → db_St → Prop} (h : wp_X1_leastHard  X x1 x2 x3 Q) : db_MI l E yX1_leastHard wsX1_leastHard rm_X1_leastHard X [.ref (db_ad E 46), .int x1, .int x2, .int x3] Q := by
  intro sz
  unfold wp_X1_leastHard at h
  refine Met.ofW (cc := cX1_leastHard) (maxL := 5) (ret := (some .int)) (by decide) rfl ?_
  intro p e s m args below meth c s₁ B hml hv
  obtain ⟨rfl, hsz, hU⟩ := hv
  subst hsz
  have S : CallFix p m c cX1_leastHard 5 s ([.ref (db_ad E 46), .int x1, .int x2, .int x3] : List Value).toArray wsX1_leastHard RX1 := ⟨B.exec, B.bytes, hml, findClass_of_methodNamed B.named, atoms_spec (ws := wsX1_leastHard) B.pre⟩
  have hx := S.1
  have hb := S.2.1
  have hr := B.returns
  have hlocks := B.notSynchronized
  have hw := db_start hU
  have hiX1 : ∀ w ∈ wsX10, w ∈ wsX1_leastHard := fun w_ h_ => List.mem_cons_of_mem _ (List.mem_append_left _ (List.mem_append_right _ h_))
  have hiX4 : ∀ w ∈ wsX40, w ∈ wsX1_leastHard := fun w_ h_ => List.mem_cons_of_mem _ (List.mem_append_right _ h_)
  have hl := lv_entry ([.ref (db_ad E 46), .int x1, .int x2, .int x3]) (n := 5) (Nat.le_of_ble_eq_true rfl)
  rw [lg_entry_eq]
  generalize (lg_sl ([.ref (db_ad E 46), .int x1, .int x2, .int x3]) ++ List.replicate (5 - (lg_sl ([.ref (db_ad E 46), .int x1, .int x2, .int x3])).length) Slot.unset).toArray = ls at hl ⊢
  have hl : lv_has ls 5 [(0, .ref (db_ad E 46)), (1, .int x1), (2, .int x2), (3, .int x3)] := hl
  refine lv_iload_n hx hb dX1_leastHard_0 rfl (lv_at hl 1 rfl) ?_
  refine lv_if_lt (tgt := 11) hx hb dX1_leastHard_1 (by decide) (fun c4 => ?_) (fun c4 => ?_)
  · have h := h.1 c4
    refine lv_bipush (v := (-9 : Int32)) hx hb dX1_leastHard_11 (by decide) ?_
    exact db_iret S hr hlocks hw h dX1_leastHard_13
  · have h := h.2 c4
    refine lv_iload_n hx hb dX1_leastHard_4 rfl (lv_at hl 1 rfl) ?_
    refine lv_sipush (v := (1001 : Int32)) hx hb dX1_leastHard_5 (by decide) ?_
    refine lv_icmp_lt (tgt := 14) hx hb dX1_leastHard_8 (by decide) (fun c3 => ?_) (fun c3 => ?_)
    · have h := h.1 c3
      refine lv_aload_n hx hb dX1_leastHard_14 rfl (lv_at hl 0 rfl) ?_
      refine db_getr S hw (Nat.le_of_ble_eq_true rfl) db_s46 (C := RX1) (T := TX1) (N := 3) rfl hiX1 1 (by decide) (r := 47) rfl (List.mem_of_getElem? (i := 1) rfl) dX1_leastHard_15 ?_
      refine lv_sipush (v := (6006 : Int32)) hx hb dX1_leastHard_18 (by decide) ?_
      refine lv_aload_n hx hb dX1_leastHard_21 rfl (lv_at hl 0 rfl) ?_
      refine db_getr S hw (Nat.le_of_ble_eq_true rfl) db_s46 (C := RX1) (T := TX1) (N := 3) rfl hiX1 1 (by decide) (r := 47) rfl (List.mem_of_getElem? (i := 1) rfl) dX1_leastHard_22 ?_
      refine db_alen (v := (7007 : Int32)) S hw (Nat.le_of_ble_eq_true rfl) db_s47 (by decide) (by decide) (by decide) dX1_leastHard_25 ?_
      refine lv_ldc (v := (100000000 : Int32)) hx hb S.2.2.2.1 (S.2.2.2.2 _ (List.mem_of_getElem? (i := 2) rfl)) dX1_leastHard_26 ?_
      refine db_callSv S hw (As := [.ref (db_ad E 47), .int (6006 : Int32), .int (7007 : Int32), .int (100000000 : Int32)]) (ct_J7_fill_fda19 (Nat.le_of_ble_eq_true rfl) db_s47 h) gX1_leastHard_J7_fill_fda19 rfl ⟨rfl, rfl, Nat.le_of_ble_eq_true rfl, Nat.le_of_ble_eq_true rfl⟩ 4 rfl (by decide +kernel) hl.1 rfl (Nat.le_of_ble_eq_true rfl) dX1_leastHard_28 ⟨Nat.zero_le _, Nat.zero_le _⟩ (fun X1 H locs h hw => ?_)
      refine lv_aload_n hx hb dX1_leastHard_31 rfl (lv_at hl 0 rfl) ?_
      refine db_getr S hw (Nat.le_of_ble_eq_true rfl) db_s46 (C := RX1) (T := TX1) (N := 3) rfl hiX1 1 (by decide) (r := 47) rfl (List.mem_of_getElem? (i := 1) rfl) dX1_leastHard_32 ?_
      refine lv_sipush (v := (6006 : Int32)) hx hb dX1_leastHard_35 (by decide) ?_
      refine lv_iconst (v := (0 : Int32)) hx hb dX1_leastHard_38 (by decide) ?_
      refine db_iast S hw (Nat.le_of_ble_eq_true rfl) db_s47 (show ¬ ((6006 : Int32) < 0 ∨ 7007 ≤ ((6006 : Int32) : Int32).toNatClampNeg) by decide) dX1_leastHard_39 (fun H locs hw => ?_)
      obtain ⟨X2, e2, hw⟩ : ∃ Z_, Z_ = (db_si X1 47 ((6006 : Int32)).toNatClampNeg (0 : Int32)) ∧ db_HW E (db_Aw E s.heap.size) s Z_ H locs := ⟨_, rfl, hw⟩
      have h := h X2 e2
      refine lv_iconst (v := (5 : Int32)) hx hb dX1_leastHard_40 (by decide) ?_
      refine lv_istore (lv' := [(4, .int (5 : Int32)), (0, .ref (db_ad E 46)), (1, .int x1), (2, .int x2), (3, .int x3)]) hx hb dX1_leastHard_41 hl (by decide) rfl (fun ls hl => ?_)
      obtain ⟨f_, h⟩ := h
      exact tw_X1_leastHard_43 S hr hlocks   f_ _ _ _ _ _ _ _ _ h hw (lv_sub hl [1, 2, 3, 4, 0] rfl)
    · have h := h.2 c3
      refine lv_bipush (v := (-9 : Int32)) hx hb dX1_leastHard_11 (by decide) ?_
      exact db_iret S hr hlocks hw h dX1_leastHard_13
