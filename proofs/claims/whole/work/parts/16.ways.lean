-- DaysOnBread$Ways.goOn(II)V
abbrev rm_X9_goOn : Room := { frames := 0, cells := 0, slots := 0, locals := 0 }
def wp_X9_goOn  (X : db_St) (x1 : Int32) (x2 : Int32) (Q : db_St → Prop) : Prop := (vp_in x2 12 ∧ (vp_in x2 12 ∧ (∀ z3, z3 = ((x1 * (6 : Int32)) + (X.1 39 (x2).toNatClampNeg)) → (∀ z4, z4 = (((x1 ||| ((1 : Int32) <<< ((X.1 41 (x2).toNatClampNeg) &&& 31))) * (6 : Int32)) + (X.1 41 (x2).toNatClampNeg)) → ((((db_ushr x1 (X.1 41 (x2).toNatClampNeg)) &&& (1 : Int32)) = (1 : Int32) → Q X) ∧ (¬ (((db_ushr x1 (X.1 41 (x2).toNatClampNeg)) &&& (1 : Int32)) = (1 : Int32)) → (vp_in z3 384 ∧ (((lg_cmp (X.2 51 (z3).toNatClampNeg) (0 : Int64)) = 0 → Q X) ∧ (¬ (lg_cmp (X.2 51 (z3).toNatClampNeg) (0 : Int64)) = 0 → (vp_in z3 384 ∧ (vp_in x2 12 ∧ (∀ z8, z8 = ((X.2 50 (z3).toNatClampNeg) * (((X.1 42 (x2).toNatClampNeg)).toInt64)) → (vp_in z3 384 ∧ (vp_in x2 12 ∧ (∀ z11, z11 = ((X.2 51 (z3).toNatClampNeg) * (((X.1 40 (x2).toNatClampNeg)).toInt64)) → (vp_in z4 384 ∧ (((lg_cmp (X.2 51 (z4).toNatClampNeg) (0 : Int64)) = 0 → (vp_in z4 384 ∧ (∀ X14, X14 = (db_sl X 50 (z4).toNatClampNeg z8) → (vp_in z4 384 ∧ (∀ X16, X16 = (db_sl X14 51 (z4).toNatClampNeg z11) → Q X16))))) ∧ (¬ ((lg_cmp (X.2 51 (z4).toNatClampNeg) (0 : Int64)) = 0) → (vp_in z4 384 ∧ (vp_in z4 384 ∧ ((0 ≤ (lg_cmp (z8 * (X.2 51 (z4).toNatClampNeg)) ((X.2 50 (z4).toNatClampNeg) * z11)) → Q X) ∧ (¬ (0 ≤ (lg_cmp (z8 * (X.2 51 (z4).toNatClampNeg)) ((X.2 50 (z4).toNatClampNeg) * z11))) → (vp_in z4 384 ∧ (∀ X20, X20 = (db_sl X 50 (z4).toNatClampNeg z8) → (vp_in z4 384 ∧ (∀ X22, X22 = (db_sl X20 51 (z4).toNatClampNeg z11) → Q X22))))))))))))))))))))))))))
set_option maxHeartbeats 4000000 in
set_option maxRecDepth 100000 in
theorem ct_X9_goOn {l : Launch} {E : db_E}  {X : db_St} {x1 : Int32} {x2 : Int32} {Q : db_St → Prop} (h : wp_X9_goOn  X x1 x2 Q) : db_MV l E yX9_goOn wsX9_goOn rm_X9_goOn X [.ref (db_ad E 49), .int x1, .int x2] Q := by
  intro sz
  unfold wp_X9_goOn at h
  refine Met.ofW (cc := cX9_goOn) (maxL := 10) (ret := none) (by decide) rfl ?_
  intro p e s m args below meth c s₁ B hml hv
  obtain ⟨rfl, hsz, hU⟩ := hv
  subst hsz
  have S : CallFix p m c cX9_goOn 10 s ([.ref (db_ad E 49), .int x1, .int x2] : List Value).toArray wsX9_goOn RX9 := ⟨B.exec, B.bytes, hml, findClass_of_methodNamed B.named, atoms_spec (ws := wsX9_goOn) B.pre⟩
  have hx := S.1
  have hb := S.2.1
  have hr := B.returns
  have hlocks := B.notSynchronized
  have hw := db_start hU
  have hiX5 : ∀ w ∈ wsX50, w ∈ wsX9_goOn := fun w_ h_ => List.mem_cons_of_mem _ (List.mem_append_right _ h_)
  have hiX9 : ∀ w ∈ wsX90, w ∈ wsX9_goOn := fun w_ h_ => List.mem_cons_of_mem _ (List.mem_append_left _ (List.mem_append_right _ h_))
  have hl := lv_entry ([.ref (db_ad E 49), .int x1, .int x2]) (n := 10) (Nat.le_of_ble_eq_true rfl)
  rw [lg_entry_eq]
  generalize (lg_sl ([.ref (db_ad E 49), .int x1, .int x2]) ++ List.replicate (10 - (lg_sl ([.ref (db_ad E 49), .int x1, .int x2])).length) Slot.unset).toArray = ls at hl ⊢
  have hl : lv_has ls 10 [(0, .ref (db_ad E 49)), (1, .int x1), (2, .int x2)] := hl
  refine lv_aload_n hx hb dX9_goOn_0 rfl (lv_at hl 0 rfl) ?_
  refine db_getr S hw (Nat.le_of_ble_eq_true rfl) db_s49 (C := RX9) (T := TX9) (N := 3) rfl hiX9 0 (by decide) (r := 38) rfl (List.mem_of_getElem? (i := 1) rfl) dX9_goOn_1 ?_
  refine db_getrN S hw (Nat.le_of_ble_eq_true rfl) db_s38 (C := RX5) (T := TX5) (N := 5) rfl hiX5 2 (by decide) (r := 41) rfl (List.mem_of_getElem? (i := 24) rfl) dX9_goOn_4 ?_
  refine lv_iload_n hx hb dX9_goOn_7 rfl (lv_at hl 2 rfl) ?_
  obtain ⟨g1, h⟩ := h
  refine db_iald S hw (Nat.le_of_ble_eq_true rfl) db_s41 g1 dX9_goOn_8 ?_
  refine lv_istore_n (lv' := [(3, .int (X.1 41 (x2).toNatClampNeg)), (0, .ref (db_ad E 49)), (1, .int x1), (2, .int x2)]) hx hb dX9_goOn_9 rfl hl (by decide) rfl (fun ls hl => ?_)
  refine lv_iload_n hx hb dX9_goOn_10 rfl (lv_at hl 2 rfl) ?_
  refine lv_bipush (v := (6 : Int32)) hx hb dX9_goOn_11 (by decide) ?_
  refine lv_imul hx hb dX9_goOn_13 ?_
  refine lv_aload_n hx hb dX9_goOn_14 rfl (lv_at hl 1 rfl) ?_
  refine db_getr S hw (Nat.le_of_ble_eq_true rfl) db_s49 (C := RX9) (T := TX9) (N := 3) rfl hiX9 0 (by decide) (r := 38) rfl (List.mem_of_getElem? (i := 1) rfl) dX9_goOn_15 ?_
  refine db_getrN S hw (Nat.le_of_ble_eq_true rfl) db_s38 (C := RX5) (T := TX5) (N := 5) rfl hiX5 0 (by decide) (r := 39) rfl (List.mem_of_getElem? (i := 20) rfl) dX9_goOn_18 ?_
  refine lv_iload_n hx hb dX9_goOn_21 rfl (lv_at hl 3 rfl) ?_
  obtain ⟨g2, h⟩ := h
  refine db_iald S hw (Nat.le_of_ble_eq_true rfl) db_s39 g2 dX9_goOn_22 ?_
  refine lv_iadd hx hb dX9_goOn_23 ?_
  refine lv_topi (fun z3 e3 => ?_)
  have h := h z3 e3
  refine lv_istore (lv' := [(4, .int z3), (3, .int (X.1 41 (x2).toNatClampNeg)), (0, .ref (db_ad E 49)), (1, .int x1), (2, .int x2)]) hx hb dX9_goOn_24 hl (by decide) rfl (fun ls hl => ?_)
  refine lv_iload_n hx hb dX9_goOn_26 rfl (lv_at hl 3 rfl) ?_
  refine lv_iconst (v := (1 : Int32)) hx hb dX9_goOn_27 (by decide) ?_
  refine lv_iload_n hx hb dX9_goOn_28 rfl (lv_at hl 1 rfl) ?_
  refine lv_ishl hx hb dX9_goOn_29 ?_
  refine lv_ior hx hb dX9_goOn_30 ?_
  refine lv_bipush (v := (6 : Int32)) hx hb dX9_goOn_31 (by decide) ?_
  refine lv_imul hx hb dX9_goOn_33 ?_
  refine lv_iload_n hx hb dX9_goOn_34 rfl (lv_at hl 1 rfl) ?_
  refine lv_iadd hx hb dX9_goOn_35 ?_
  refine lv_topi (fun z4 e4 => ?_)
  have h := h z4 e4
  refine lv_istore (lv' := [(5, .int z4), (4, .int z3), (3, .int (X.1 41 (x2).toNatClampNeg)), (0, .ref (db_ad E 49)), (1, .int x1), (2, .int x2)]) hx hb dX9_goOn_36 hl (by decide) rfl (fun ls hl => ?_)
  refine lv_iload_n hx hb dX9_goOn_38 rfl (lv_at hl 4 rfl) ?_
  refine lv_iload_n hx hb dX9_goOn_39 rfl (lv_at hl 2 rfl) ?_
  refine lv_iushr (v := (db_ushr x1 (X.1 41 (x2).toNatClampNeg))) hx hb dX9_goOn_40 rfl ?_
  refine lv_iconst (v := (1 : Int32)) hx hb dX9_goOn_41 (by decide) ?_
  refine lv_iand hx hb dX9_goOn_42 ?_
  refine lv_iconst (v := (1 : Int32)) hx hb dX9_goOn_43 (by decide) ?_
  refine lv_icmp_eq (tgt := 59) hx hb dX9_goOn_44 (by decide) (fun c26 => ?_) (fun c26 => ?_)
  · have h := h.1 c26
    exact db_vret S hr hlocks hw h dX9_goOn_59
  · have h := h.2 c26
    refine lv_aload_n hx hb dX9_goOn_47 rfl (lv_at hl 3 rfl) ?_
    refine db_getr S hw (Nat.le_of_ble_eq_true rfl) db_s49 (C := RX9) (T := TX9) (N := 3) rfl hiX9 2 (by decide) (r := 51) rfl (List.mem_of_getElem? (i := 2) rfl) dX9_goOn_48 ?_
    refine lv_iload hx hb dX9_goOn_51 (lv_at hl 1 rfl) ?_
    obtain ⟨g5, h⟩ := h
    refine db_lald S hw (Nat.le_of_ble_eq_true rfl) db_s51 g5 dX9_goOn_53 ?_
    refine lv_lconst (v := (0 : Int64)) hx hb dX9_goOn_54 (by decide) ?_
    refine W.lcmp hx hb dX9_goOn_55 ?_
    refine lv_if_ne (tgt := 60) hx hb dX9_goOn_56 (by decide) (fun c25 => ?_) (fun c25 => ?_)
    · have h := h.2 c25
      refine lv_aload_n hx hb dX9_goOn_60 rfl (lv_at hl 3 rfl) ?_
      refine db_getr S hw (Nat.le_of_ble_eq_true rfl) db_s49 (C := RX9) (T := TX9) (N := 3) rfl hiX9 1 (by decide) (r := 50) rfl (List.mem_of_getElem? (i := 3) rfl) dX9_goOn_61 ?_
      refine lv_iload hx hb dX9_goOn_64 (lv_at hl 1 rfl) ?_
      obtain ⟨g6, h⟩ := h
      refine db_lald S hw (Nat.le_of_ble_eq_true rfl) db_s50 g6 dX9_goOn_66 ?_
      refine lv_aload_n hx hb dX9_goOn_67 rfl (lv_at hl 3 rfl) ?_
      refine db_getr S hw (Nat.le_of_ble_eq_true rfl) db_s49 (C := RX9) (T := TX9) (N := 3) rfl hiX9 0 (by decide) (r := 38) rfl (List.mem_of_getElem? (i := 1) rfl) dX9_goOn_68 ?_
      refine db_getrN S hw (Nat.le_of_ble_eq_true rfl) db_s38 (C := RX5) (T := TX5) (N := 5) rfl hiX5 3 (by decide) (r := 42) rfl (List.mem_of_getElem? (i := 26) rfl) dX9_goOn_71 ?_
      refine lv_iload_n hx hb dX9_goOn_74 rfl (lv_at hl 5 rfl) ?_
      obtain ⟨g7, h⟩ := h
      refine db_iald S hw (Nat.le_of_ble_eq_true rfl) db_s42 g7 dX9_goOn_75 ?_
      refine lv_i2l (v := (((X.1 42 (x2).toNatClampNeg)).toInt64)) hx hb dX9_goOn_76 rfl ?_
      refine lv_lmul hx hb dX9_goOn_77 ?_
      refine lv_topl (fun z8 e8 => ?_)
      have h := h z8 e8
      refine lv_lstore (lv' := [(6, .long z8), (5, .int z4), (4, .int z3), (3, .int (X.1 41 (x2).toNatClampNeg)), (0, .ref (db_ad E 49)), (1, .int x1), (2, .int x2)]) hx hb dX9_goOn_78 hl (by decide) rfl (fun ls hl => ?_)
      refine lv_aload_n hx hb dX9_goOn_80 rfl (lv_at hl 4 rfl) ?_
      refine db_getr S hw (Nat.le_of_ble_eq_true rfl) db_s49 (C := RX9) (T := TX9) (N := 3) rfl hiX9 2 (by decide) (r := 51) rfl (List.mem_of_getElem? (i := 2) rfl) dX9_goOn_81 ?_
      refine lv_iload hx hb dX9_goOn_84 (lv_at hl 2 rfl) ?_
      obtain ⟨g9, h⟩ := h
      refine db_lald S hw (Nat.le_of_ble_eq_true rfl) db_s51 g9 dX9_goOn_86 ?_
      refine lv_aload_n hx hb dX9_goOn_87 rfl (lv_at hl 4 rfl) ?_
      refine db_getr S hw (Nat.le_of_ble_eq_true rfl) db_s49 (C := RX9) (T := TX9) (N := 3) rfl hiX9 0 (by decide) (r := 38) rfl (List.mem_of_getElem? (i := 1) rfl) dX9_goOn_88 ?_
      refine db_getrN S hw (Nat.le_of_ble_eq_true rfl) db_s38 (C := RX5) (T := TX5) (N := 5) rfl hiX5 1 (by decide) (r := 40) rfl (List.mem_of_getElem? (i := 22) rfl) dX9_goOn_91 ?_
      refine lv_iload_n hx hb dX9_goOn_94 rfl (lv_at hl 6 rfl) ?_
      obtain ⟨g10, h⟩ := h
      refine db_iald S hw (Nat.le_of_ble_eq_true rfl) db_s40 g10 dX9_goOn_95 ?_
      refine lv_i2l (v := (((X.1 40 (x2).toNatClampNeg)).toInt64)) hx hb dX9_goOn_96 rfl ?_
      refine lv_lmul hx hb dX9_goOn_97 ?_
      refine lv_topl (fun z11 e11 => ?_)
      have h := h z11 e11
      refine lv_lstore (lv' := [(8, .long z11), (6, .long z8), (5, .int z4), (4, .int z3), (3, .int (X.1 41 (x2).toNatClampNeg)), (0, .ref (db_ad E 49)), (1, .int x1), (2, .int x2)]) hx hb dX9_goOn_98 hl (by decide) rfl (fun ls hl => ?_)
      refine lv_aload_n hx hb dX9_goOn_100 rfl (lv_at hl 5 rfl) ?_
      refine db_getr S hw (Nat.le_of_ble_eq_true rfl) db_s49 (C := RX9) (T := TX9) (N := 3) rfl hiX9 2 (by decide) (r := 51) rfl (List.mem_of_getElem? (i := 2) rfl) dX9_goOn_101 ?_
      refine lv_iload hx hb dX9_goOn_104 (lv_at hl 2 rfl) ?_
      obtain ⟨g12, h⟩ := h
      refine db_lald S hw (Nat.le_of_ble_eq_true rfl) db_s51 g12 dX9_goOn_106 ?_
      refine lv_lconst (v := (0 : Int64)) hx hb dX9_goOn_107 (by decide) ?_
      refine W.lcmp hx hb dX9_goOn_108 ?_
      refine lv_if_eq (tgt := 136) hx hb dX9_goOn_109 (by decide) (fun c24 => ?_) (fun c24 => ?_)
      · have h := h.1 c24
        refine lv_aload_n hx hb dX9_goOn_136 rfl (lv_at hl 5 rfl) ?_
        refine db_getr S hw (Nat.le_of_ble_eq_true rfl) db_s49 (C := RX9) (T := TX9) (N := 3) rfl hiX9 1 (by decide) (r := 50) rfl (List.mem_of_getElem? (i := 3) rfl) dX9_goOn_137 ?_
        refine lv_iload hx hb dX9_goOn_140 (lv_at hl 2 rfl) ?_
        refine lv_lload hx hb dX9_goOn_142 (lv_at hl 1 rfl) ?_
        obtain ⟨g13, h⟩ := h
        refine db_last S hw (Nat.le_of_ble_eq_true rfl) db_s50 g13 dX9_goOn_144 (fun H locs hw => ?_)
        obtain ⟨X14, e14, hw⟩ : ∃ Z_, Z_ = (db_sl X 50 (z4).toNatClampNeg z8) ∧ db_HW E (db_Aw E s.heap.size) s Z_ H locs := ⟨_, rfl, hw⟩
        have h := h X14 e14
        refine lv_aload_n hx hb dX9_goOn_145 rfl (lv_at hl 5 rfl) ?_
        refine db_getr S hw (Nat.le_of_ble_eq_true rfl) db_s49 (C := RX9) (T := TX9) (N := 3) rfl hiX9 2 (by decide) (r := 51) rfl (List.mem_of_getElem? (i := 2) rfl) dX9_goOn_146 ?_
        refine lv_iload hx hb dX9_goOn_149 (lv_at hl 2 rfl) ?_
        refine lv_lload hx hb dX9_goOn_151 (lv_at hl 0 rfl) ?_
        obtain ⟨g15, h⟩ := h
        refine db_last S hw (Nat.le_of_ble_eq_true rfl) db_s51 g15 dX9_goOn_153 (fun H locs hw => ?_)
        obtain ⟨X16, e16, hw⟩ : ∃ Z_, Z_ = (db_sl X14 51 (z4).toNatClampNeg z11) ∧ db_HW E (db_Aw E s.heap.size) s Z_ H locs := ⟨_, rfl, hw⟩
        have h := h X16 e16
        exact db_vret S hr hlocks hw h dX9_goOn_154
      · have h := h.2 c24
        refine lv_lload hx hb dX9_goOn_112 (lv_at hl 1 rfl) ?_
        refine lv_aload_n hx hb dX9_goOn_114 rfl (lv_at hl 5 rfl) ?_
        refine db_getr S hw (Nat.le_of_ble_eq_true rfl) db_s49 (C := RX9) (T := TX9) (N := 3) rfl hiX9 2 (by decide) (r := 51) rfl (List.mem_of_getElem? (i := 2) rfl) dX9_goOn_115 ?_
        refine lv_iload hx hb dX9_goOn_118 (lv_at hl 2 rfl) ?_
        obtain ⟨g17, h⟩ := h
        refine db_lald S hw (Nat.le_of_ble_eq_true rfl) db_s51 g17 dX9_goOn_120 ?_
        refine lv_lmul hx hb dX9_goOn_121 ?_
        refine lv_aload_n hx hb dX9_goOn_122 rfl (lv_at hl 5 rfl) ?_
        refine db_getr S hw (Nat.le_of_ble_eq_true rfl) db_s49 (C := RX9) (T := TX9) (N := 3) rfl hiX9 1 (by decide) (r := 50) rfl (List.mem_of_getElem? (i := 3) rfl) dX9_goOn_123 ?_
        refine lv_iload hx hb dX9_goOn_126 (lv_at hl 2 rfl) ?_
        obtain ⟨g18, h⟩ := h
        refine db_lald S hw (Nat.le_of_ble_eq_true rfl) db_s50 g18 dX9_goOn_128 ?_
        refine lv_lload hx hb dX9_goOn_129 (lv_at hl 0 rfl) ?_
        refine lv_lmul hx hb dX9_goOn_131 ?_
        refine W.lcmp hx hb dX9_goOn_132 ?_
        refine lv_if_ge (tgt := 154) hx hb dX9_goOn_133 (by decide) (fun c23 => ?_) (fun c23 => ?_)
        · have h := h.1 c23
          exact db_vret S hr hlocks hw h dX9_goOn_154
        · have h := h.2 c23
          refine lv_aload_n hx hb dX9_goOn_136 rfl (lv_at hl 5 rfl) ?_
          refine db_getr S hw (Nat.le_of_ble_eq_true rfl) db_s49 (C := RX9) (T := TX9) (N := 3) rfl hiX9 1 (by decide) (r := 50) rfl (List.mem_of_getElem? (i := 3) rfl) dX9_goOn_137 ?_
          refine lv_iload hx hb dX9_goOn_140 (lv_at hl 2 rfl) ?_
          refine lv_lload hx hb dX9_goOn_142 (lv_at hl 1 rfl) ?_
          obtain ⟨g19, h⟩ := h
          refine db_last S hw (Nat.le_of_ble_eq_true rfl) db_s50 g19 dX9_goOn_144 (fun H locs hw => ?_)
          obtain ⟨X20, e20, hw⟩ : ∃ Z_, Z_ = (db_sl X 50 (z4).toNatClampNeg z8) ∧ db_HW E (db_Aw E s.heap.size) s Z_ H locs := ⟨_, rfl, hw⟩
          have h := h X20 e20
          refine lv_aload_n hx hb dX9_goOn_145 rfl (lv_at hl 5 rfl) ?_
          refine db_getr S hw (Nat.le_of_ble_eq_true rfl) db_s49 (C := RX9) (T := TX9) (N := 3) rfl hiX9 2 (by decide) (r := 51) rfl (List.mem_of_getElem? (i := 2) rfl) dX9_goOn_146 ?_
          refine lv_iload hx hb dX9_goOn_149 (lv_at hl 2 rfl) ?_
          refine lv_lload hx hb dX9_goOn_151 (lv_at hl 0 rfl) ?_
          obtain ⟨g21, h⟩ := h
          refine db_last S hw (Nat.le_of_ble_eq_true rfl) db_s51 g21 dX9_goOn_153 (fun H locs hw => ?_)
          obtain ⟨X22, e22, hw⟩ : ∃ Z_, Z_ = (db_sl X20 51 (z4).toNatClampNeg z11) ∧ db_HW E (db_Aw E s.heap.size) s Z_ H locs := ⟨_, rfl, hw⟩
          have h := h X22 e22
          exact db_vret S hr hlocks hw h dX9_goOn_154
    · have h := h.1 c25
      exact db_vret S hr hlocks hw h dX9_goOn_59
-- DaysOnBread$Ways.goAllWays()V
abbrev rm_X9_goAllWays : Room := { frames := 1, cells := 0, slots := 0, locals := 29 }
def wp_X9_goAllWays_34 (k26 : db_St → Int32 → Prop) (Q : db_St → Prop) : Nat → db_St → Int32 → Int32 → Prop
  | 0, _, _, _ => False
  | n_ + 1, X, x1, x2 => (((X.1 38 4) ≤ x2 → k26 X (x1 + (1 : Int32))) ∧ (¬ ((X.1 38 4) ≤ x2) → wp_X9_goOn X x1 x2 (fun X1 => wp_X9_goAllWays_34 k26 Q n_ X1 x1 (x2 + (1 : Int32)))))
set_option maxHeartbeats 4000000 in
set_option maxRecDepth 100000 in
theorem tw_X9_goAllWays_34 {p : Program} {l : Launch} {e : Env} {s : State} {m : MethodId} {args : Array Value} {below : List Frame} {meth : Method} {c : Code} {E : db_E} (S : CallFix p m c cX9_goAllWays 3 s args wsX9_goAllWays RX9) (hr : meth.sig.returnType = none) (hlocks : meth.locks = false)  {Q : db_St → Prop} {k26 : db_St → Int32 → Prop} (hk26 : ∀ (X : db_St) (x1 : Int32) (H : Heap) (locs : List Loc) (ls : Array Slot), k26 X x1 → db_HW E (db_Aw E s.heap.size) s X H locs → lv_has ls 3 [(0, .ref (db_ad E 49)), (1, .int x1)] → W p l e rm_X9_goAllWays s m args below meth c H locs 0 0 (MQ below (va_Qv Q (db_Po E) (db_Aw E s.heap.size)) args s 0 0 (db_Aw E s.heap.size)) (F0 m 26 ls [])) : ∀ (n : Nat) (X : db_St) (x1 : Int32) (x2 : Int32) (H : Heap) (locs : List Loc) (ls : Array Slot), wp_X9_goAllWays_34 k26 Q n X x1 x2 → db_HW E (db_Aw E s.heap.size) s X H locs → lv_has ls 3 [(0, .ref (db_ad E 49)), (1, .int x1), (2, .int x2)] → W p l e rm_X9_goAllWays s m args below meth c H locs 0 0 (MQ below (va_Qv Q (db_Po E) (db_Aw E s.heap.size)) args s 0 0 (db_Aw E s.heap.size)) (F0 m 34 ls []) := by
  have hx := S.1
  have hb := S.2.1
  have hiX5 : ∀ w ∈ wsX50, w ∈ wsX9_goAllWays := fun w_ h_ => List.mem_cons_of_mem _ (List.mem_append_right _ h_)
  have hiX9 : ∀ w ∈ wsX90, w ∈ wsX9_goAllWays := fun w_ h_ => List.mem_cons_of_mem _ (List.mem_append_left _ (List.mem_append_right _ h_))
  intro n
  induction n with
  | zero =>
    intro X x1 x2 H locs ls h hw hl
    exact False.elim h
  | succ n_ ih =>
    intro X x1 x2 H locs ls h hw hl
    unfold wp_X9_goAllWays_34 at h
    refine lv_iload_n hx hb dX9_goAllWays_34 rfl (lv_at hl 2 rfl) ?_
    refine lv_aload_n hx hb dX9_goAllWays_35 rfl (lv_at hl 0 rfl) ?_
    refine db_getr S hw (Nat.le_of_ble_eq_true rfl) db_s49 (C := RX9) (T := TX9) (N := 3) rfl hiX9 0 (by decide) (r := 38) rfl (List.mem_of_getElem? (i := 3) rfl) dX9_goAllWays_36 ?_
    refine db_getiN S hw (Nat.le_of_ble_eq_true rfl) db_s38 (C := RX5) (T := TX5) (N := 5) rfl hiX5 4 (by decide) rfl (List.mem_of_getElem? (i := 29) rfl) dX9_goAllWays_39 ?_
    refine lv_icmp_ge (tgt := 57) hx hb dX9_goAllWays_42 (by decide) (fun c2 => ?_) (fun c2 => ?_)
    · have h := h.1 c2
      refine lv_iinc (v := (x1 + (1 : Int32))) (lv' := [(1, .int (x1 + (1 : Int32))), (0, .ref (db_ad E 49)), (2, .int x2)]) hx hb dX9_goAllWays_57 hl (k := 1) rfl (congrArg (fun z_ => x1 + z_) (show Int32.ofInt (1) = (1 : Int32) by decide)) (by decide) rfl (fun ls hl => ?_)
      refine lv_goto (tgt := 26) hx hb dX9_goAllWays_60 (by decide) ?_
      exact hk26 _ _ _ _ _ h hw (lv_sub hl [1, 0] rfl)
    · have h := h.2 c2
      refine lv_aload_n hx hb dX9_goAllWays_45 rfl (lv_at hl 0 rfl) ?_
      refine lv_iload_n hx hb dX9_goAllWays_46 rfl (lv_at hl 1 rfl) ?_
      refine lv_iload_n hx hb dX9_goAllWays_47 rfl (lv_at hl 2 rfl) ?_
      refine db_callVv S hw (Nat.le_of_ble_eq_true rfl) db_s49 (C := RX9) (T := TX9) (N := 3) (As := [.int x1, .int x2]) rfl (ct_X9_goOn  h) gX9_goAllWays_X9_goOn rfl ⟨rfl, rfl, Nat.le_of_ble_eq_true rfl, Nat.le_of_ble_eq_true rfl⟩ 2 rfl (by decide +kernel) hl.1 rfl (Nat.le_of_ble_eq_true rfl) dX9_goAllWays_48 ⟨Nat.zero_le _, Nat.zero_le _⟩ (fun X1 H locs h hw => ?_)
      refine lv_iinc (v := (x2 + (1 : Int32))) (lv' := [(2, .int (x2 + (1 : Int32))), (0, .ref (db_ad E 49)), (1, .int x1)]) hx hb dX9_goAllWays_51 hl (k := 2) rfl (congrArg (fun z_ => x2 + z_) (show Int32.ofInt (1) = (1 : Int32) by decide)) (by decide) rfl (fun ls hl => ?_)
      refine lv_goto (tgt := 34) hx hb dX9_goAllWays_54 (by decide) ?_
      exact ih _ _ _ _ _ _ h hw (lv_sub hl [1, 2, 0] rfl)
def wp_X9_goAllWays_26 (Q : db_St → Prop) : Nat → db_St → Int32 → Prop
  | 0, _, _ => False
  | n_ + 1, X, x1 => (((64 : Int32) ≤ x1 → Q X) ∧ (¬ ((64 : Int32) ≤ x1) → (∃ f_, wp_X9_goAllWays_34 (wp_X9_goAllWays_26 Q n_) Q f_ X x1 (0 : Int32))))
set_option maxHeartbeats 4000000 in
set_option maxRecDepth 100000 in
theorem tw_X9_goAllWays_26 {p : Program} {l : Launch} {e : Env} {s : State} {m : MethodId} {args : Array Value} {below : List Frame} {meth : Method} {c : Code} {E : db_E} (S : CallFix p m c cX9_goAllWays 3 s args wsX9_goAllWays RX9) (hr : meth.sig.returnType = none) (hlocks : meth.locks = false)  {Q : db_St → Prop} : ∀ (n : Nat) (X : db_St) (x1 : Int32) (H : Heap) (locs : List Loc) (ls : Array Slot), wp_X9_goAllWays_26 Q n X x1 → db_HW E (db_Aw E s.heap.size) s X H locs → lv_has ls 3 [(0, .ref (db_ad E 49)), (1, .int x1)] → W p l e rm_X9_goAllWays s m args below meth c H locs 0 0 (MQ below (va_Qv Q (db_Po E) (db_Aw E s.heap.size)) args s 0 0 (db_Aw E s.heap.size)) (F0 m 26 ls []) := by
  have hx := S.1
  have hb := S.2.1
  have hiX5 : ∀ w ∈ wsX50, w ∈ wsX9_goAllWays := fun w_ h_ => List.mem_cons_of_mem _ (List.mem_append_right _ h_)
  have hiX9 : ∀ w ∈ wsX90, w ∈ wsX9_goAllWays := fun w_ h_ => List.mem_cons_of_mem _ (List.mem_append_left _ (List.mem_append_right _ h_))
  intro n
  induction n with
  | zero =>
    intro X x1 H locs ls h hw hl
    exact False.elim h
  | succ n_ ih =>
    intro X x1 H locs ls h hw hl
    unfold wp_X9_goAllWays_26 at h
    refine lv_iload_n hx hb dX9_goAllWays_26 rfl (lv_at hl 1 rfl) ?_
    refine lv_bipush (v := (64 : Int32)) hx hb dX9_goAllWays_27 (by decide) ?_
    refine lv_icmp_ge (tgt := 63) hx hb dX9_goAllWays_29 (by decide) (fun c1 => ?_) (fun c1 => ?_)
    · have h := h.1 c1
      exact db_vret S hr hlocks hw h dX9_goAllWays_63
    · have h := h.2 c1
      refine lv_iconst (v := (0 : Int32)) hx hb dX9_goAllWays_32 (by decide) ?_
      refine lv_istore_n (lv' := [(2, .int (0 : Int32)), (0, .ref (db_ad E 49)), (1, .int x1)]) hx hb dX9_goAllWays_33 rfl hl (by decide) rfl (fun ls hl => ?_)
      obtain ⟨f_, h⟩ := h
      exact tw_X9_goAllWays_34 S hr hlocks  ih f_ _ _ _ _ _ _ h hw (lv_sub hl [1, 2, 0] rfl)
def wp_X9_goAllWays  (X : db_St)  (Q : db_St → Prop) : Prop := wp_J7_fill_d0a16 51 384 X (0 : Int64) (fun X1 => (∀ X2, X2 = (db_sl X1 50 ((6 : Int32)).toNatClampNeg (1 : Int64)) → (∀ X3, X3 = (db_sl X2 51 ((6 : Int32)).toNatClampNeg (1 : Int64)) → (∃ f_, wp_X9_goAllWays_26 Q f_ X3 (1 : Int32)))))
set_option maxHeartbeats 4000000 in
set_option maxRecDepth 100000 in
theorem ct_X9_goAllWays {l : Launch} {E : db_E}  {X : db_St}  {Q : db_St → Prop} (h : wp_X9_goAllWays  X  Q) : db_MV l E yX9_goAllWays wsX9_goAllWays rm_X9_goAllWays X [.ref (db_ad E 49)] Q := by
  intro sz
  unfold wp_X9_goAllWays at h
  refine Met.ofW (cc := cX9_goAllWays) (maxL := 3) (ret := none) (by decide) rfl ?_
  intro p e s m args below meth c s₁ B hml hv
  obtain ⟨rfl, hsz, hU⟩ := hv
  subst hsz
  have S : CallFix p m c cX9_goAllWays 3 s ([.ref (db_ad E 49)] : List Value).toArray wsX9_goAllWays RX9 := ⟨B.exec, B.bytes, hml, findClass_of_methodNamed B.named, atoms_spec (ws := wsX9_goAllWays) B.pre⟩
  have hx := S.1
  have hb := S.2.1
  have hr := B.returns
  have hlocks := B.notSynchronized
  have hw := db_start hU
  have hiX5 : ∀ w ∈ wsX50, w ∈ wsX9_goAllWays := fun w_ h_ => List.mem_cons_of_mem _ (List.mem_append_right _ h_)
  have hiX9 : ∀ w ∈ wsX90, w ∈ wsX9_goAllWays := fun w_ h_ => List.mem_cons_of_mem _ (List.mem_append_left _ (List.mem_append_right _ h_))
  have hl := lv_entry ([.ref (db_ad E 49)]) (n := 3) (Nat.le_of_ble_eq_true rfl)
  rw [lg_entry_eq]
  generalize (lg_sl ([.ref (db_ad E 49)]) ++ List.replicate (3 - (lg_sl ([.ref (db_ad E 49)])).length) Slot.unset).toArray = ls at hl ⊢
  have hl : lv_has ls 3 [(0, .ref (db_ad E 49))] := hl
  refine lv_aload_n hx hb dX9_goAllWays_0 rfl (lv_at hl 0 rfl) ?_
  refine db_getr S hw (Nat.le_of_ble_eq_true rfl) db_s49 (C := RX9) (T := TX9) (N := 3) rfl hiX9 2 (by decide) (r := 51) rfl (List.mem_of_getElem? (i := 1) rfl) dX9_goAllWays_1 ?_
  refine lv_lconst (v := (0 : Int64)) hx hb dX9_goAllWays_4 (by decide) ?_
  refine db_callSv S hw (As := [.ref (db_ad E 51), .long (0 : Int64)]) (ct_J7_fill_d0a16 (Nat.le_of_ble_eq_true rfl) db_s51 h) gX9_goAllWays_J7_fill_d0a16 rfl ⟨rfl, rfl, Nat.le_of_ble_eq_true rfl, Nat.le_of_ble_eq_true rfl⟩ 2 rfl (by decide +kernel) hl.1 rfl (Nat.le_of_ble_eq_true rfl) dX9_goAllWays_5 ⟨Nat.zero_le _, Nat.zero_le _⟩ (fun X1 H locs h hw => ?_)
  refine lv_aload_n hx hb dX9_goAllWays_8 rfl (lv_at hl 0 rfl) ?_
  refine db_getr S hw (Nat.le_of_ble_eq_true rfl) db_s49 (C := RX9) (T := TX9) (N := 3) rfl hiX9 1 (by decide) (r := 50) rfl (List.mem_of_getElem? (i := 2) rfl) dX9_goAllWays_9 ?_
  refine lv_bipush (v := (6 : Int32)) hx hb dX9_goAllWays_12 (by decide) ?_
  refine lv_lconst (v := (1 : Int64)) hx hb dX9_goAllWays_14 (by decide) ?_
  refine db_last S hw (Nat.le_of_ble_eq_true rfl) db_s50 (show ¬ ((6 : Int32) < 0 ∨ 384 ≤ ((6 : Int32) : Int32).toNatClampNeg) by decide) dX9_goAllWays_15 (fun H locs hw => ?_)
  obtain ⟨X2, e2, hw⟩ : ∃ Z_, Z_ = (db_sl X1 50 ((6 : Int32)).toNatClampNeg (1 : Int64)) ∧ db_HW E (db_Aw E s.heap.size) s Z_ H locs := ⟨_, rfl, hw⟩
  have h := h X2 e2
  refine lv_aload_n hx hb dX9_goAllWays_16 rfl (lv_at hl 0 rfl) ?_
  refine db_getr S hw (Nat.le_of_ble_eq_true rfl) db_s49 (C := RX9) (T := TX9) (N := 3) rfl hiX9 2 (by decide) (r := 51) rfl (List.mem_of_getElem? (i := 1) rfl) dX9_goAllWays_17 ?_
  refine lv_bipush (v := (6 : Int32)) hx hb dX9_goAllWays_20 (by decide) ?_
  refine lv_lconst (v := (1 : Int64)) hx hb dX9_goAllWays_22 (by decide) ?_
  refine db_last S hw (Nat.le_of_ble_eq_true rfl) db_s51 (show ¬ ((6 : Int32) < 0 ∨ 384 ≤ ((6 : Int32) : Int32).toNatClampNeg) by decide) dX9_goAllWays_23 (fun H locs hw => ?_)
  obtain ⟨X3, e3, hw⟩ : ∃ Z_, Z_ = (db_sl X2 51 ((6 : Int32)).toNatClampNeg (1 : Int64)) ∧ db_HW E (db_Aw E s.heap.size) s Z_ H locs := ⟨_, rfl, hw⟩
  have h := h X3 e3
  refine lv_iconst (v := (1 : Int32)) hx hb dX9_goAllWays_24 (by decide) ?_
  refine lv_istore_n (lv' := [(1, .int (1 : Int32)), (0, .ref (db_ad E 49))]) hx hb dX9_goAllWays_25 rfl hl (by decide) rfl (fun ls hl => ?_)
  obtain ⟨f_, h⟩ := h
  exact tw_X9_goAllWays_26 S hr hlocks   f_ _ _ _ _ _ h hw (lv_sub hl [1, 0] rfl)
-- DaysOnBread$Ways.bestFor(I)I
abbrev rm_X9_bestFor : Room := { frames := 0, cells := 0, slots := 0, locals := 0 }
def wp_X9_bestFor_4 (Q : Int32 → db_St → Prop) : Nat → db_St → Int32 → Int32 → Prop
  | 0, _, _, _ => False
  | n_ + 1, X, x2, x3 => (((384 : Int32) ≤ x3 → Q x2 X) ∧ (¬ ((384 : Int32) ≤ x3) → (vp_in x3 384 ∧ (vp_in x2 384 ∧ (vp_in x2 384 ∧ (vp_in x3 384 ∧ ((0 ≤ (lg_cmp ((X.2 50 (x3).toNatClampNeg) * (X.2 51 (x2).toNatClampNeg)) ((X.2 50 (x2).toNatClampNeg) * (X.2 51 (x3).toNatClampNeg))) → (vp_in x3 384 ∧ (((lg_cmp (X.2 51 (x3).toNatClampNeg) (0 : Int64)) = 0 → wp_X9_bestFor_4 Q n_ X x2 (x3 + (6 : Int32))) ∧ (¬ ((lg_cmp (X.2 51 (x3).toNatClampNeg) (0 : Int64)) = 0) → (vp_in x2 384 ∧ (((lg_cmp (X.2 51 (x2).toNatClampNeg) (0 : Int64)) = 0 → wp_X9_bestFor_4 Q n_ X x3 (x3 + (6 : Int32))) ∧ (¬ ((lg_cmp (X.2 51 (x2).toNatClampNeg) (0 : Int64)) = 0) → (((0 : Int32) = 0 → wp_X9_bestFor_4 Q n_ X x2 (x3 + (6 : Int32))) ∧ (¬ ((0 : Int32) = 0) → wp_X9_bestFor_4 Q n_ X x3 (x3 + (6 : Int32))))))))))) ∧ (¬ (0 ≤ (lg_cmp ((X.2 50 (x3).toNatClampNeg) * (X.2 51 (x2).toNatClampNeg)) ((X.2 50 (x2).toNatClampNeg) * (X.2 51 (x3).toNatClampNeg)))) → (vp_in x3 384 ∧ (((lg_cmp (X.2 51 (x3).toNatClampNeg) (0 : Int64)) = 0 → wp_X9_bestFor_4 Q n_ X x2 (x3 + (6 : Int32))) ∧ (¬ ((lg_cmp (X.2 51 (x3).toNatClampNeg) (0 : Int64)) = 0) → (vp_in x2 384 ∧ (((lg_cmp (X.2 51 (x2).toNatClampNeg) (0 : Int64)) = 0 → wp_X9_bestFor_4 Q n_ X x3 (x3 + (6 : Int32))) ∧ (¬ ((lg_cmp (X.2 51 (x2).toNatClampNeg) (0 : Int64)) = 0) → (((1 : Int32) = 0 → wp_X9_bestFor_4 Q n_ X x2 (x3 + (6 : Int32))) ∧ (¬ ((1 : Int32) = 0) → wp_X9_bestFor_4 Q n_ X x3 (x3 + (6 : Int32))))))))))))))))))
set_option maxHeartbeats 4000000 in
set_option maxRecDepth 100000 in
theorem tw_X9_bestFor_4 {p : Program} {l : Launch} {e : Env} {s : State} {m : MethodId} {args : Array Value} {below : List Frame} {meth : Method} {c : Code} {E : db_E} (S : CallFix p m c cX9_bestFor 5 s args wsX9_bestFor RX9) (hr : meth.sig.returnType = (some .int)) (hlocks : meth.locks = false)  {Q : Int32 → db_St → Prop} : ∀ (n : Nat) (X : db_St) (x2 : Int32) (x3 : Int32) (H : Heap) (locs : List Loc) (ls : Array Slot), wp_X9_bestFor_4 Q n X x2 x3 → db_HW E (db_Aw E s.heap.size) s X H locs → lv_has ls 5 [(0, .ref (db_ad E 49)), (2, .int x2), (3, .int x3)] → W p l e rm_X9_bestFor s m args below meth c H locs 0 0 (MQ below (va_Qi Q (db_Po E) (db_Aw E s.heap.size)) args s 0 0 (db_Aw E s.heap.size)) (F0 m 4 ls []) := by
  have hx := S.1
  have hb := S.2.1
  have hiX9 : ∀ w ∈ wsX90, w ∈ wsX9_bestFor := fun w_ h_ => List.mem_cons_of_mem _ (List.mem_append_right _ h_)
  intro n
  induction n with
  | zero =>
    intro X x2 x3 H locs ls h hw hl
    exact False.elim h
  | succ n_ ih =>
    intro X x2 x3 H locs ls h hw hl
    unfold wp_X9_bestFor_4 at h
    refine lv_iload_n hx hb dX9_bestFor_4 rfl (lv_at hl 2 rfl) ?_
    refine lv_aload_n hx hb dX9_bestFor_5 rfl (lv_at hl 0 rfl) ?_
    refine db_getr S hw (Nat.le_of_ble_eq_true rfl) db_s49 (C := RX9) (T := TX9) (N := 3) rfl hiX9 2 (by decide) (r := 51) rfl (List.mem_of_getElem? (i := 1) rfl) dX9_bestFor_6 ?_
    refine db_alenl (v := (384 : Int32)) S hw (Nat.le_of_ble_eq_true rfl) db_s51 (by decide) dX9_bestFor_9 ?_
    refine lv_icmp_ge (tgt := 85) hx hb dX9_bestFor_10 (by decide) (fun c16 => ?_) (fun c16 => ?_)
    · have h := h.1 c16
      refine lv_iload_n hx hb dX9_bestFor_85 rfl (lv_at hl 1 rfl) ?_
      exact db_iret S hr hlocks hw h dX9_bestFor_86
    · have h := h.2 c16
      refine lv_aload_n hx hb dX9_bestFor_13 rfl (lv_at hl 0 rfl) ?_
      refine db_getr S hw (Nat.le_of_ble_eq_true rfl) db_s49 (C := RX9) (T := TX9) (N := 3) rfl hiX9 1 (by decide) (r := 50) rfl (List.mem_of_getElem? (i := 2) rfl) dX9_bestFor_14 ?_
      refine lv_iload_n hx hb dX9_bestFor_17 rfl (lv_at hl 2 rfl) ?_
      obtain ⟨g1, h⟩ := h
      refine db_lald S hw (Nat.le_of_ble_eq_true rfl) db_s50 g1 dX9_bestFor_18 ?_
      refine lv_aload_n hx hb dX9_bestFor_19 rfl (lv_at hl 0 rfl) ?_
      refine db_getr S hw (Nat.le_of_ble_eq_true rfl) db_s49 (C := RX9) (T := TX9) (N := 3) rfl hiX9 2 (by decide) (r := 51) rfl (List.mem_of_getElem? (i := 1) rfl) dX9_bestFor_20 ?_
      refine lv_iload_n hx hb dX9_bestFor_23 rfl (lv_at hl 1 rfl) ?_
      obtain ⟨g2, h⟩ := h
      refine db_lald S hw (Nat.le_of_ble_eq_true rfl) db_s51 g2 dX9_bestFor_24 ?_
      refine lv_lmul hx hb dX9_bestFor_25 ?_
      refine lv_aload_n hx hb dX9_bestFor_26 rfl (lv_at hl 0 rfl) ?_
      refine db_getr S hw (Nat.le_of_ble_eq_true rfl) db_s49 (C := RX9) (T := TX9) (N := 3) rfl hiX9 1 (by decide) (r := 50) rfl (List.mem_of_getElem? (i := 2) rfl) dX9_bestFor_27 ?_
      refine lv_iload_n hx hb dX9_bestFor_30 rfl (lv_at hl 1 rfl) ?_
      obtain ⟨g3, h⟩ := h
      refine db_lald S hw (Nat.le_of_ble_eq_true rfl) db_s50 g3 dX9_bestFor_31 ?_
      refine lv_aload_n hx hb dX9_bestFor_32 rfl (lv_at hl 0 rfl) ?_
      refine db_getr S hw (Nat.le_of_ble_eq_true rfl) db_s49 (C := RX9) (T := TX9) (N := 3) rfl hiX9 2 (by decide) (r := 51) rfl (List.mem_of_getElem? (i := 1) rfl) dX9_bestFor_33 ?_
      refine lv_iload_n hx hb dX9_bestFor_36 rfl (lv_at hl 2 rfl) ?_
      obtain ⟨g4, h⟩ := h
      refine db_lald S hw (Nat.le_of_ble_eq_true rfl) db_s51 g4 dX9_bestFor_37 ?_
      refine lv_lmul hx hb dX9_bestFor_38 ?_
      refine W.lcmp hx hb dX9_bestFor_39 ?_
      refine lv_if_ge (tgt := 47) hx hb dX9_bestFor_40 (by decide) (fun c15 => ?_) (fun c15 => ?_)
      · have h := h.1 c15
        refine lv_iconst (v := (0 : Int32)) hx hb dX9_bestFor_47 (by decide) ?_
        refine lv_istore (lv' := [(4, .int (0 : Int32)), (0, .ref (db_ad E 49)), (2, .int x2), (3, .int x3)]) hx hb dX9_bestFor_48 hl (by decide) rfl (fun ls hl => ?_)
        refine lv_aload_n hx hb dX9_bestFor_50 rfl (lv_at hl 1 rfl) ?_
        refine db_getr S hw (Nat.le_of_ble_eq_true rfl) db_s49 (C := RX9) (T := TX9) (N := 3) rfl hiX9 2 (by decide) (r := 51) rfl (List.mem_of_getElem? (i := 1) rfl) dX9_bestFor_51 ?_
        refine lv_iload_n hx hb dX9_bestFor_54 rfl (lv_at hl 3 rfl) ?_
        obtain ⟨g5, h⟩ := h
        refine db_lald S hw (Nat.le_of_ble_eq_true rfl) db_s51 g5 dX9_bestFor_55 ?_
        refine lv_lconst (v := (0 : Int64)) hx hb dX9_bestFor_56 (by decide) ?_
        refine W.lcmp hx hb dX9_bestFor_57 ?_
        refine lv_if_eq (tgt := 79) hx hb dX9_bestFor_58 (by decide) (fun c9 => ?_) (fun c9 => ?_)
        · have h := h.1 c9
          refine lv_iinc (v := (x3 + (6 : Int32))) (lv' := [(3, .int (x3 + (6 : Int32))), (4, .int (0 : Int32)), (0, .ref (db_ad E 49)), (2, .int x2)]) hx hb dX9_bestFor_79 hl (k := 3) rfl (congrArg (fun z_ => x3 + z_) (show Int32.ofInt (6) = (6 : Int32) by decide)) (by decide) rfl (fun ls hl => ?_)
          refine lv_goto (tgt := 4) hx hb dX9_bestFor_82 (by decide) ?_
          exact ih _ _ _ _ _ _ h hw (lv_sub hl [2, 3, 0] rfl)
        · have h := h.2 c9
          refine lv_aload_n hx hb dX9_bestFor_61 rfl (lv_at hl 1 rfl) ?_
          refine db_getr S hw (Nat.le_of_ble_eq_true rfl) db_s49 (C := RX9) (T := TX9) (N := 3) rfl hiX9 2 (by decide) (r := 51) rfl (List.mem_of_getElem? (i := 1) rfl) dX9_bestFor_62 ?_
          refine lv_iload_n hx hb dX9_bestFor_65 rfl (lv_at hl 2 rfl) ?_
          obtain ⟨g6, h⟩ := h
          refine db_lald S hw (Nat.le_of_ble_eq_true rfl) db_s51 g6 dX9_bestFor_66 ?_
          refine lv_lconst (v := (0 : Int64)) hx hb dX9_bestFor_67 (by decide) ?_
          refine W.lcmp hx hb dX9_bestFor_68 ?_
          refine lv_if_eq (tgt := 77) hx hb dX9_bestFor_69 (by decide) (fun c8 => ?_) (fun c8 => ?_)
          · have h := h.1 c8
            refine lv_iload_n hx hb dX9_bestFor_77 rfl (lv_at hl 3 rfl) ?_
            refine lv_istore_n (lv' := [(2, .int x3), (4, .int (0 : Int32)), (0, .ref (db_ad E 49)), (3, .int x3)]) hx hb dX9_bestFor_78 rfl hl (by decide) rfl (fun ls hl => ?_)
            refine lv_iinc (v := (x3 + (6 : Int32))) (lv' := [(3, .int (x3 + (6 : Int32))), (2, .int x3), (4, .int (0 : Int32)), (0, .ref (db_ad E 49))]) hx hb dX9_bestFor_79 hl (k := 3) rfl (congrArg (fun z_ => x3 + z_) (show Int32.ofInt (6) = (6 : Int32) by decide)) (by decide) rfl (fun ls hl => ?_)
            refine lv_goto (tgt := 4) hx hb dX9_bestFor_82 (by decide) ?_
            exact ih _ _ _ _ _ _ h hw (lv_sub hl [3, 1, 0] rfl)
          · have h := h.2 c8
            refine lv_iload hx hb dX9_bestFor_72 (lv_at hl 0 rfl) ?_
            refine lv_if_eq (tgt := 79) hx hb dX9_bestFor_74 (by decide) (fun c7 => ?_) (fun c7 => ?_)
            · have h := h.1 c7
              refine lv_iinc (v := (x3 + (6 : Int32))) (lv' := [(3, .int (x3 + (6 : Int32))), (4, .int (0 : Int32)), (0, .ref (db_ad E 49)), (2, .int x2)]) hx hb dX9_bestFor_79 hl (k := 3) rfl (congrArg (fun z_ => x3 + z_) (show Int32.ofInt (6) = (6 : Int32) by decide)) (by decide) rfl (fun ls hl => ?_)
              refine lv_goto (tgt := 4) hx hb dX9_bestFor_82 (by decide) ?_
              exact ih _ _ _ _ _ _ h hw (lv_sub hl [2, 3, 0] rfl)
            · have h := h.2 c7
              refine lv_iload_n hx hb dX9_bestFor_77 rfl (lv_at hl 3 rfl) ?_
              refine lv_istore_n (lv' := [(2, .int x3), (4, .int (0 : Int32)), (0, .ref (db_ad E 49)), (3, .int x3)]) hx hb dX9_bestFor_78 rfl hl (by decide) rfl (fun ls hl => ?_)
              refine lv_iinc (v := (x3 + (6 : Int32))) (lv' := [(3, .int (x3 + (6 : Int32))), (2, .int x3), (4, .int (0 : Int32)), (0, .ref (db_ad E 49))]) hx hb dX9_bestFor_79 hl (k := 3) rfl (congrArg (fun z_ => x3 + z_) (show Int32.ofInt (6) = (6 : Int32) by decide)) (by decide) rfl (fun ls hl => ?_)
              refine lv_goto (tgt := 4) hx hb dX9_bestFor_82 (by decide) ?_
              exact ih _ _ _ _ _ _ h hw (lv_sub hl [3, 1, 0] rfl)
      · have h := h.2 c15
        refine lv_iconst (v := (1 : Int32)) hx hb dX9_bestFor_43 (by decide) ?_
        refine lv_goto (tgt := 48) hx hb dX9_bestFor_44 (by decide) ?_
        refine lv_istore (lv' := [(4, .int (1 : Int32)), (0, .ref (db_ad E 49)), (2, .int x2), (3, .int x3)]) hx hb dX9_bestFor_48 hl (by decide) rfl (fun ls hl => ?_)
        refine lv_aload_n hx hb dX9_bestFor_50 rfl (lv_at hl 1 rfl) ?_
        refine db_getr S hw (Nat.le_of_ble_eq_true rfl) db_s49 (C := RX9) (T := TX9) (N := 3) rfl hiX9 2 (by decide) (r := 51) rfl (List.mem_of_getElem? (i := 1) rfl) dX9_bestFor_51 ?_
        refine lv_iload_n hx hb dX9_bestFor_54 rfl (lv_at hl 3 rfl) ?_
        obtain ⟨g10, h⟩ := h
        refine db_lald S hw (Nat.le_of_ble_eq_true rfl) db_s51 g10 dX9_bestFor_55 ?_
        refine lv_lconst (v := (0 : Int64)) hx hb dX9_bestFor_56 (by decide) ?_
        refine W.lcmp hx hb dX9_bestFor_57 ?_
        refine lv_if_eq (tgt := 79) hx hb dX9_bestFor_58 (by decide) (fun c14 => ?_) (fun c14 => ?_)
        · have h := h.1 c14
          refine lv_iinc (v := (x3 + (6 : Int32))) (lv' := [(3, .int (x3 + (6 : Int32))), (4, .int (1 : Int32)), (0, .ref (db_ad E 49)), (2, .int x2)]) hx hb dX9_bestFor_79 hl (k := 3) rfl (congrArg (fun z_ => x3 + z_) (show Int32.ofInt (6) = (6 : Int32) by decide)) (by decide) rfl (fun ls hl => ?_)
          refine lv_goto (tgt := 4) hx hb dX9_bestFor_82 (by decide) ?_
          exact ih _ _ _ _ _ _ h hw (lv_sub hl [2, 3, 0] rfl)
        · have h := h.2 c14
          refine lv_aload_n hx hb dX9_bestFor_61 rfl (lv_at hl 1 rfl) ?_
          refine db_getr S hw (Nat.le_of_ble_eq_true rfl) db_s49 (C := RX9) (T := TX9) (N := 3) rfl hiX9 2 (by decide) (r := 51) rfl (List.mem_of_getElem? (i := 1) rfl) dX9_bestFor_62 ?_
          refine lv_iload_n hx hb dX9_bestFor_65 rfl (lv_at hl 2 rfl) ?_
          obtain ⟨g11, h⟩ := h
          refine db_lald S hw (Nat.le_of_ble_eq_true rfl) db_s51 g11 dX9_bestFor_66 ?_
          refine lv_lconst (v := (0 : Int64)) hx hb dX9_bestFor_67 (by decide) ?_
          refine W.lcmp hx hb dX9_bestFor_68 ?_
          refine lv_if_eq (tgt := 77) hx hb dX9_bestFor_69 (by decide) (fun c13 => ?_) (fun c13 => ?_)
          · have h := h.1 c13
            refine lv_iload_n hx hb dX9_bestFor_77 rfl (lv_at hl 3 rfl) ?_
            refine lv_istore_n (lv' := [(2, .int x3), (4, .int (1 : Int32)), (0, .ref (db_ad E 49)), (3, .int x3)]) hx hb dX9_bestFor_78 rfl hl (by decide) rfl (fun ls hl => ?_)
            refine lv_iinc (v := (x3 + (6 : Int32))) (lv' := [(3, .int (x3 + (6 : Int32))), (2, .int x3), (4, .int (1 : Int32)), (0, .ref (db_ad E 49))]) hx hb dX9_bestFor_79 hl (k := 3) rfl (congrArg (fun z_ => x3 + z_) (show Int32.ofInt (6) = (6 : Int32) by decide)) (by decide) rfl (fun ls hl => ?_)
            refine lv_goto (tgt := 4) hx hb dX9_bestFor_82 (by decide) ?_
            exact ih _ _ _ _ _ _ h hw (lv_sub hl [3, 1, 0] rfl)
          · have h := h.2 c13
            refine lv_iload hx hb dX9_bestFor_72 (lv_at hl 0 rfl) ?_
            refine lv_if_eq (tgt := 79) hx hb dX9_bestFor_74 (by decide) (fun c12 => ?_) (fun c12 => ?_)
            · have h := h.1 c12
              refine lv_iinc (v := (x3 + (6 : Int32))) (lv' := [(3, .int (x3 + (6 : Int32))), (4, .int (1 : Int32)), (0, .ref (db_ad E 49)), (2, .int x2)]) hx hb dX9_bestFor_79 hl (k := 3) rfl (congrArg (fun z_ => x3 + z_) (show Int32.ofInt (6) = (6 : Int32) by decide)) (by decide) rfl (fun ls hl => ?_)
              refine lv_goto (tgt := 4) hx hb dX9_bestFor_82 (by decide) ?_
              exact ih _ _ _ _ _ _ h hw (lv_sub hl [2, 3, 0] rfl)
            · have h := h.2 c12
              refine lv_iload_n hx hb dX9_bestFor_77 rfl (lv_at hl 3 rfl) ?_
              refine lv_istore_n (lv' := [(2, .int x3), (4, .int (1 : Int32)), (0, .ref (db_ad E 49)), (3, .int x3)]) hx hb dX9_bestFor_78 rfl hl (by decide) rfl (fun ls hl => ?_)
              refine lv_iinc (v := (x3 + (6 : Int32))) (lv' := [(3, .int (x3 + (6 : Int32))), (2, .int x3), (4, .int (1 : Int32)), (0, .ref (db_ad E 49))]) hx hb dX9_bestFor_79 hl (k := 3) rfl (congrArg (fun z_ => x3 + z_) (show Int32.ofInt (6) = (6 : Int32) by decide)) (by decide) rfl (fun ls hl => ?_)
              refine lv_goto (tgt := 4) hx hb dX9_bestFor_82 (by decide) ?_
              exact ih _ _ _ _ _ _ h hw (lv_sub hl [3, 1, 0] rfl)
def wp_X9_bestFor  (X : db_St) (x1 : Int32) (Q : Int32 → db_St → Prop) : Prop := (∃ f_, wp_X9_bestFor_4 Q f_ X x1 x1)
set_option maxHeartbeats 4000000 in
set_option maxRecDepth 100000 in
theorem ct_X9_bestFor {l : Launch} {E : db_E}  {X : db_St} {x1 : Int32} {Q : Int32 → db_St → Prop} (h : wp_X9_bestFor  X x1 Q) : db_MI l E yX9_bestFor wsX9_bestFor rm_X9_bestFor X [.ref (db_ad E 49), .int x1] Q := by
  intro sz
  unfold wp_X9_bestFor at h
  refine Met.ofW (cc := cX9_bestFor) (maxL := 5) (ret := (some .int)) (by decide) rfl ?_
  intro p e s m args below meth c s₁ B hml hv
  obtain ⟨rfl, hsz, hU⟩ := hv
  subst hsz
  have S : CallFix p m c cX9_bestFor 5 s ([.ref (db_ad E 49), .int x1] : List Value).toArray wsX9_bestFor RX9 := ⟨B.exec, B.bytes, hml, findClass_of_methodNamed B.named, atoms_spec (ws := wsX9_bestFor) B.pre⟩
  have hx := S.1
  have hb := S.2.1
  have hr := B.returns
  have hlocks := B.notSynchronized
  have hw := db_start hU
  have hiX9 : ∀ w ∈ wsX90, w ∈ wsX9_bestFor := fun w_ h_ => List.mem_cons_of_mem _ (List.mem_append_right _ h_)
  have hl := lv_entry ([.ref (db_ad E 49), .int x1]) (n := 5) (Nat.le_of_ble_eq_true rfl)
  rw [lg_entry_eq]
  generalize (lg_sl ([.ref (db_ad E 49), .int x1]) ++ List.replicate (5 - (lg_sl ([.ref (db_ad E 49), .int x1])).length) Slot.unset).toArray = ls at hl ⊢
  have hl : lv_has ls 5 [(0, .ref (db_ad E 49)), (1, .int x1)] := hl
  refine lv_iload_n hx hb dX9_bestFor_0 rfl (lv_at hl 1 rfl) ?_
  refine lv_istore_n (lv' := [(2, .int x1), (0, .ref (db_ad E 49)), (1, .int x1)]) hx hb dX9_bestFor_1 rfl hl (by decide) rfl (fun ls hl => ?_)
  refine lv_iload_n hx hb dX9_bestFor_2 rfl (lv_at hl 2 rfl) ?_
  refine lv_istore_n (lv' := [(3, .int x1), (2, .int x1), (0, .ref (db_ad E 49)), (1, .int x1)]) hx hb dX9_bestFor_3 rfl hl (by decide) rfl (fun ls hl => ?_)
  obtain ⟨f_, h⟩ := h
  exact tw_X9_bestFor_4 S hr hlocks   f_ _ _ _ _ _ _ h hw (lv_sub hl [2, 1, 0] rfl)
-- DaysOnBread$Ways.commonDivisor(JJ)J
abbrev rm_X9_commonDivisor : Room := { frames := 0, cells := 0, slots := 0, locals := 0 }
def wp_X9_commonDivisor_9 (Q : Int64 → db_St → Prop) : Nat → db_St → Int64 → Int64 → Int32 → Prop
  | 0, _, _, _, _ => False
  | n_ + 1, X, x4, x6, x8 => (((100 : Int32) ≤ x8 → Q x4 X) ∧ (¬ ((100 : Int32) ≤ x8) → (((lg_cmp x6 (0 : Int64)) ≤ 0 → Q x4 X) ∧ (¬ ((lg_cmp x6 (0 : Int64)) ≤ 0) → (¬ x6 = 0 ∧ wp_X9_commonDivisor_9 Q n_ X x6 (x4 - x4 / x6 * x6) (x8 + (1 : Int32)))))))
set_option maxHeartbeats 4000000 in
set_option maxRecDepth 100000 in
theorem tw_X9_commonDivisor_9 {p : Program} {l : Launch} {e : Env} {s : State} {m : MethodId} {args : Array Value} {below : List Frame} {meth : Method} {c : Code} {E : db_E} (S : CallFix p m c cX9_commonDivisor 11 s args wsX9_commonDivisor RX9) (hr : meth.sig.returnType = (some .long)) (hlocks : meth.locks = false)  {Q : Int64 → db_St → Prop} : ∀ (n : Nat) (X : db_St) (x4 : Int64) (x6 : Int64) (x8 : Int32) (H : Heap) (locs : List Loc) (ls : Array Slot), wp_X9_commonDivisor_9 Q n X x4 x6 x8 → db_HW E (db_Aw E s.heap.size) s X H locs → lv_has ls 11 [(4, .long x4), (6, .long x6), (8, .int x8)] → W p l e rm_X9_commonDivisor s m args below meth c H locs 0 0 (MQ below (va_Ql Q (db_Po E) (db_Aw E s.heap.size)) args s 0 0 (db_Aw E s.heap.size)) (F0 m 9 ls []) := by
  have hx := S.1
  have hb := S.2.1
  intro n
  induction n with
  | zero =>
    intro X x4 x6 x8 H locs ls h hw hl
    exact False.elim h
  | succ n_ ih =>
    intro X x4 x6 x8 H locs ls h hw hl
    unfold wp_X9_commonDivisor_9 at h
    refine lv_iload hx hb dX9_commonDivisor_9 (lv_at hl 2 rfl) ?_
    refine lv_bipush (v := (100 : Int32)) hx hb dX9_commonDivisor_11 (by decide) ?_
    refine lv_icmp_ge (tgt := 44) hx hb dX9_commonDivisor_13 (by decide) (fun c3 => ?_) (fun c3 => ?_)
    · have h := h.1 c3
      refine lv_lload hx hb dX9_commonDivisor_44 (lv_at hl 0 rfl) ?_
      exact db_lret S hr hlocks hw h dX9_commonDivisor_46
    · have h := h.2 c3
      refine lv_lload hx hb dX9_commonDivisor_16 (lv_at hl 1 rfl) ?_
      refine lv_lconst (v := (0 : Int64)) hx hb dX9_commonDivisor_18 (by decide) ?_
      refine W.lcmp hx hb dX9_commonDivisor_19 ?_
      refine lv_if_le (tgt := 44) hx hb dX9_commonDivisor_20 (by decide) (fun c2 => ?_) (fun c2 => ?_)
      · have h := h.1 c2
        refine lv_lload hx hb dX9_commonDivisor_44 (lv_at hl 0 rfl) ?_
        exact db_lret S hr hlocks hw h dX9_commonDivisor_46
      · have h := h.2 c2
        refine lv_lload hx hb dX9_commonDivisor_23 (lv_at hl 0 rfl) ?_
        refine lv_lload hx hb dX9_commonDivisor_25 (lv_at hl 1 rfl) ?_
        obtain ⟨g1, h⟩ := h
        refine lv_lrem hx hb dX9_commonDivisor_27 g1 ?_
        refine lv_lstore (lv' := [(9, .long (x4 - x4 / x6 * x6)), (4, .long x4), (6, .long x6), (8, .int x8)]) hx hb dX9_commonDivisor_28 hl (by decide) rfl (fun ls hl => ?_)
        refine lv_lload hx hb dX9_commonDivisor_30 (lv_at hl 2 rfl) ?_
        refine lv_lstore (lv' := [(4, .long x6), (9, .long (x4 - x4 / x6 * x6)), (6, .long x6), (8, .int x8)]) hx hb dX9_commonDivisor_32 hl (by decide) rfl (fun ls hl => ?_)
        refine lv_lload hx hb dX9_commonDivisor_34 (lv_at hl 1 rfl) ?_
        refine lv_lstore (lv' := [(6, .long (x4 - x4 / x6 * x6)), (4, .long x6), (9, .long (x4 - x4 / x6 * x6)), (8, .int x8)]) hx hb dX9_commonDivisor_36 hl (by decide) rfl (fun ls hl => ?_)
        refine lv_iinc (v := (x8 + (1 : Int32))) (lv' := [(8, .int (x8 + (1 : Int32))), (6, .long (x4 - x4 / x6 * x6)), (4, .long x6), (9, .long (x4 - x4 / x6 * x6))]) hx hb dX9_commonDivisor_38 hl (k := 3) rfl (congrArg (fun z_ => x8 + z_) (show Int32.ofInt (1) = (1 : Int32) by decide)) (by decide) rfl (fun ls hl => ?_)
        refine lv_goto (tgt := 9) hx hb dX9_commonDivisor_41 (by decide) ?_
        exact ih _ _ _ _ _ _ _ h hw (lv_sub hl [2, 1, 0] rfl)
def wp_X9_commonDivisor  (X : db_St) (x0 : Int64) (x2 : Int64) (Q : Int64 → db_St → Prop) : Prop := (∃ f_, wp_X9_commonDivisor_9 Q f_ X x0 x2 (0 : Int32))
set_option maxHeartbeats 4000000 in
set_option maxRecDepth 100000 in
theorem ct_X9_commonDivisor {l : Launch} {E : db_E}  {X : db_St} {x0 : Int64} {x2 : Int64} {Q : Int64 → db_St → Prop} (h : wp_X9_commonDivisor  X x0 x2 Q) : db_ML l E yX9_commonDivisor wsX9_commonDivisor rm_X9_commonDivisor X [.long x0, .long x2] Q := by
  intro sz
  unfold wp_X9_commonDivisor at h
  refine Met.ofW (cc := cX9_commonDivisor) (maxL := 11) (ret := (some .long)) (by decide) rfl ?_
  intro p e s m args below meth c s₁ B hml hv
  obtain ⟨rfl, hsz, hU⟩ := hv
  subst hsz
  have S : CallFix p m c cX9_commonDivisor 11 s ([.long x0, .long x2] : List Value).toArray wsX9_commonDivisor RX9 := ⟨B.exec, B.bytes, hml, findClass_of_methodNamed B.named, atoms_spec (ws := wsX9_commonDivisor) B.pre⟩
  have hx := S.1
  have hb := S.2.1
  have hr := B.returns
  have hlocks := B.notSynchronized
  have hw := db_start hU
  have hl := lv_entry ([.long x0, .long x2]) (n := 11) (Nat.le_of_ble_eq_true rfl)
  rw [lg_entry_eq]
  generalize (lg_sl ([.long x0, .long x2]) ++ List.replicate (11 - (lg_sl ([.long x0, .long x2])).length) Slot.unset).toArray = ls at hl ⊢
  have hl : lv_has ls 11 [(0, .long x0), (2, .long x2)] := hl
  refine lv_lload_n hx hb dX9_commonDivisor_0 rfl (lv_at hl 0 rfl) ?_
  refine lv_lstore (lv' := [(4, .long x0), (0, .long x0), (2, .long x2)]) hx hb dX9_commonDivisor_1 hl (by decide) rfl (fun ls hl => ?_)
  refine lv_lload_n hx hb dX9_commonDivisor_3 rfl (lv_at hl 2 rfl) ?_
  refine lv_lstore (lv' := [(6, .long x2), (4, .long x0), (0, .long x0), (2, .long x2)]) hx hb dX9_commonDivisor_4 hl (by decide) rfl (fun ls hl => ?_)
  refine lv_iconst (v := (0 : Int32)) hx hb dX9_commonDivisor_6 (by decide) ?_
  refine lv_istore (lv' := [(8, .int (0 : Int32)), (6, .long x2), (4, .long x0), (0, .long x0), (2, .long x2)]) hx hb dX9_commonDivisor_7 hl (by decide) rfl (fun ls hl => ?_)
  obtain ⟨f_, h⟩ := h
  exact tw_X9_commonDivisor_9 S hr hlocks   f_ _ _ _ _ _ _ _ h hw (lv_sub hl [2, 1, 0] rfl)
-- DaysOnBread$Ways.leastPart(IZ)I
abbrev rm_X9_leastPart : Room := { frames := 2, cells := 0, slots := 0, locals := 51 }
def wp_X9_leastPart  (X : db_St) (x1 : Int32) (x2 : Int32) (Q : Int32 → db_St → Prop) : Prop := wp_X9_goAllWays X (fun X1 => wp_X9_bestFor X1 x1 (fun r2 X2 => ((r2 < 0 → Q (-9 : Int32) X2) ∧ (¬ (r2 < 0) → (((384 : Int32) ≤ r2 → Q (-9 : Int32) X2) ∧ (¬ ((384 : Int32) ≤ r2) → (vp_in r2 384 ∧ (((lg_cmp (X2.2 51 (r2).toNatClampNeg) (0 : Int64)) = 0 → Q (-9 : Int32) X2) ∧ (¬ (lg_cmp (X2.2 51 (r2).toNatClampNeg) (0 : Int64)) = 0 → (vp_in r2 384 ∧ (vp_in r2 384 ∧ wp_X9_commonDivisor X2 (X2.2 50 (r2).toNatClampNeg) (X2.2 51 (r2).toNatClampNeg) (fun r6 X6 => (((lg_cmp r6 (0 : Int64)) = 0 → Q (-9 : Int32) X6) ∧ (¬ (lg_cmp r6 (0 : Int64)) = 0 → ((x2 = 0 → (vp_in r2 384 ∧ (¬ r6 = 0 ∧ Q ((((X6.2 50 (r2).toNatClampNeg) / r6)).toInt32) X6))) ∧ (¬ (x2 = 0) → (vp_in r2 384 ∧ (¬ r6 = 0 ∧ Q ((((X6.2 51 (r2).toNatClampNeg) / r6)).toInt32) X6))))))))))))))))))
set_option maxHeartbeats 4000000 in
set_option maxRecDepth 100000 in
theorem ct_X9_leastPart {l : Launch} {E : db_E}  {X : db_St} {x1 : Int32} {x2 : Int32} {Q : Int32 → db_St → Prop} (h : wp_X9_leastPart  X x1 x2 Q) : db_MI l E yX9_leastPart wsX9_leastPart rm_X9_leastPart X [.ref (db_ad E 49), .int x1, .int x2] Q := by
  intro sz
  unfold wp_X9_leastPart at h
  refine Met.ofW (cc := cX9_leastPart) (maxL := 6) (ret := (some .int)) (by decide) rfl ?_
  intro p e s m args below meth c s₁ B hml hv
  obtain ⟨rfl, hsz, hU⟩ := hv
  subst hsz
  have S : CallFix p m c cX9_leastPart 6 s ([.ref (db_ad E 49), .int x1, .int x2] : List Value).toArray wsX9_leastPart RX9 := ⟨B.exec, B.bytes, hml, findClass_of_methodNamed B.named, atoms_spec (ws := wsX9_leastPart) B.pre⟩
  have hx := S.1
  have hb := S.2.1
  have hr := B.returns
  have hlocks := B.notSynchronized
  have hw := db_start hU
  have hiX9 : ∀ w ∈ wsX90, w ∈ wsX9_leastPart := fun w_ h_ => List.mem_cons_of_mem _ (List.mem_append_left _ (List.mem_append_right _ h_))
  have hl := lv_entry ([.ref (db_ad E 49), .int x1, .int x2]) (n := 6) (Nat.le_of_ble_eq_true rfl)
  rw [lg_entry_eq]
  generalize (lg_sl ([.ref (db_ad E 49), .int x1, .int x2]) ++ List.replicate (6 - (lg_sl ([.ref (db_ad E 49), .int x1, .int x2])).length) Slot.unset).toArray = ls at hl ⊢
  have hl : lv_has ls 6 [(0, .ref (db_ad E 49)), (1, .int x1), (2, .int x2)] := hl
  refine lv_aload_n hx hb dX9_leastPart_0 rfl (lv_at hl 0 rfl) ?_
  refine db_callVv S hw (Nat.le_of_ble_eq_true rfl) db_s49 (C := RX9) (T := TX9) (N := 3) (As := []) rfl (ct_X9_goAllWays  h) gX9_leastPart_X9_goAllWays rfl ⟨rfl, rfl, Nat.le_of_ble_eq_true rfl, Nat.le_of_ble_eq_true rfl⟩ 0 rfl (by decide +kernel) hl.1 rfl (Nat.le_of_ble_eq_true rfl) dX9_leastPart_1 ⟨Nat.zero_le _, Nat.zero_le _⟩ (fun X1 H locs h hw => ?_)
  refine lv_aload_n hx hb dX9_leastPart_4 rfl (lv_at hl 0 rfl) ?_
  refine lv_iload_n hx hb dX9_leastPart_5 rfl (lv_at hl 1 rfl) ?_
  refine db_callVi S hw (Nat.le_of_ble_eq_true rfl) db_s49 (C := RX9) (T := TX9) (N := 3) (As := [.int x1]) rfl (ct_X9_bestFor  h) gX9_leastPart_X9_bestFor rfl ⟨rfl, rfl, Nat.le_of_ble_eq_true rfl, Nat.le_of_ble_eq_true rfl⟩ 1 rfl (by decide +kernel) hl.1 rfl (Nat.le_of_ble_eq_true rfl) dX9_leastPart_6 ⟨Nat.zero_le _, Nat.zero_le _⟩ (fun r2 X2 H locs h hw => ?_)
  refine lv_istore_n (lv' := [(3, .int r2), (0, .ref (db_ad E 49)), (1, .int x1), (2, .int x2)]) hx hb dX9_leastPart_9 rfl hl (by decide) rfl (fun ls hl => ?_)
  refine lv_iload_n hx hb dX9_leastPart_10 rfl (lv_at hl 0 rfl) ?_
  refine lv_if_lt (tgt := 34) hx hb dX9_leastPart_11 (by decide) (fun c15 => ?_) (fun c15 => ?_)
  · have h := h.1 c15
    refine lv_bipush (v := (-9 : Int32)) hx hb dX9_leastPart_34 (by decide) ?_
    exact db_iret S hr hlocks hw h dX9_leastPart_36
  · have h := h.2 c15
    refine lv_iload_n hx hb dX9_leastPart_14 rfl (lv_at hl 0 rfl) ?_
    refine lv_aload_n hx hb dX9_leastPart_15 rfl (lv_at hl 1 rfl) ?_
    refine db_getr S hw (Nat.le_of_ble_eq_true rfl) db_s49 (C := RX9) (T := TX9) (N := 3) rfl hiX9 2 (by decide) (r := 51) rfl (List.mem_of_getElem? (i := 1) rfl) dX9_leastPart_16 ?_
    refine db_alenl (v := (384 : Int32)) S hw (Nat.le_of_ble_eq_true rfl) db_s51 (by decide) dX9_leastPart_19 ?_
    refine lv_icmp_ge (tgt := 34) hx hb dX9_leastPart_20 (by decide) (fun c14 => ?_) (fun c14 => ?_)
    · have h := h.1 c14
      refine lv_bipush (v := (-9 : Int32)) hx hb dX9_leastPart_34 (by decide) ?_
      exact db_iret S hr hlocks hw h dX9_leastPart_36
    · have h := h.2 c14
      refine lv_aload_n hx hb dX9_leastPart_23 rfl (lv_at hl 1 rfl) ?_
      refine db_getr S hw (Nat.le_of_ble_eq_true rfl) db_s49 (C := RX9) (T := TX9) (N := 3) rfl hiX9 2 (by decide) (r := 51) rfl (List.mem_of_getElem? (i := 1) rfl) dX9_leastPart_24 ?_
      refine lv_iload_n hx hb dX9_leastPart_27 rfl (lv_at hl 0 rfl) ?_
      obtain ⟨g3, h⟩ := h
      refine db_lald S hw (Nat.le_of_ble_eq_true rfl) db_s51 g3 dX9_leastPart_28 ?_
      refine lv_lconst (v := (0 : Int64)) hx hb dX9_leastPart_29 (by decide) ?_
      refine W.lcmp hx hb dX9_leastPart_30 ?_
      refine lv_if_ne (tgt := 37) hx hb dX9_leastPart_31 (by decide) (fun c13 => ?_) (fun c13 => ?_)
      · have h := h.2 c13
        refine lv_aload_n hx hb dX9_leastPart_37 rfl (lv_at hl 1 rfl) ?_
        refine db_getr S hw (Nat.le_of_ble_eq_true rfl) db_s49 (C := RX9) (T := TX9) (N := 3) rfl hiX9 1 (by decide) (r := 50) rfl (List.mem_of_getElem? (i := 2) rfl) dX9_leastPart_38 ?_
        refine lv_iload_n hx hb dX9_leastPart_41 rfl (lv_at hl 0 rfl) ?_
        obtain ⟨g4, h⟩ := h
        refine db_lald S hw (Nat.le_of_ble_eq_true rfl) db_s50 g4 dX9_leastPart_42 ?_
        refine lv_aload_n hx hb dX9_leastPart_43 rfl (lv_at hl 1 rfl) ?_
        refine db_getr S hw (Nat.le_of_ble_eq_true rfl) db_s49 (C := RX9) (T := TX9) (N := 3) rfl hiX9 2 (by decide) (r := 51) rfl (List.mem_of_getElem? (i := 1) rfl) dX9_leastPart_44 ?_
        refine lv_iload_n hx hb dX9_leastPart_47 rfl (lv_at hl 0 rfl) ?_
        obtain ⟨g5, h⟩ := h
        refine db_lald S hw (Nat.le_of_ble_eq_true rfl) db_s51 g5 dX9_leastPart_48 ?_
        refine db_callSl S hw (As := [.long (X2.2 50 (r2).toNatClampNeg), .long (X2.2 51 (r2).toNatClampNeg)]) (ct_X9_commonDivisor  h) gX9_leastPart_X9_commonDivisor rfl ⟨rfl, rfl, Nat.le_of_ble_eq_true rfl, Nat.le_of_ble_eq_true rfl⟩ 2 rfl (by decide +kernel) hl.1 rfl (Nat.le_of_ble_eq_true rfl) dX9_leastPart_49 ⟨Nat.zero_le _, Nat.zero_le _⟩ (fun r6 X6 H locs h hw => ?_)
        refine lv_lstore (lv' := [(4, .long r6), (3, .int r2), (0, .ref (db_ad E 49)), (1, .int x1), (2, .int x2)]) hx hb dX9_leastPart_52 hl (by decide) rfl (fun ls hl => ?_)
        refine lv_lload hx hb dX9_leastPart_54 (lv_at hl 0 rfl) ?_
        refine lv_lconst (v := (0 : Int64)) hx hb dX9_leastPart_56 (by decide) ?_
        refine W.lcmp hx hb dX9_leastPart_57 ?_
        refine lv_if_ne (tgt := 64) hx hb dX9_leastPart_58 (by decide) (fun c12 => ?_) (fun c12 => ?_)
        · have h := h.2 c12
          refine lv_iload_n hx hb dX9_leastPart_64 rfl (lv_at hl 4 rfl) ?_
          refine lv_if_eq (tgt := 77) hx hb dX9_leastPart_65 (by decide) (fun c11 => ?_) (fun c11 => ?_)
          · have h := h.1 c11
            refine lv_aload_n hx hb dX9_leastPart_77 rfl (lv_at hl 2 rfl) ?_
            refine db_getr S hw (Nat.le_of_ble_eq_true rfl) db_s49 (C := RX9) (T := TX9) (N := 3) rfl hiX9 1 (by decide) (r := 50) rfl (List.mem_of_getElem? (i := 2) rfl) dX9_leastPart_78 ?_
            refine lv_iload_n hx hb dX9_leastPart_81 rfl (lv_at hl 1 rfl) ?_
            obtain ⟨g7, h⟩ := h
            refine db_lald S hw (Nat.le_of_ble_eq_true rfl) db_s50 g7 dX9_leastPart_82 ?_
            refine lv_lload hx hb dX9_leastPart_83 (lv_at hl 0 rfl) ?_
            obtain ⟨g8, h⟩ := h
            refine lv_ldiv hx hb dX9_leastPart_85 g8 ?_
            refine lv_l2i (v := ((((X6.2 50 (r2).toNatClampNeg) / r6)).toInt32)) hx hb dX9_leastPart_86 rfl ?_
            exact db_iret S hr hlocks hw h dX9_leastPart_87
          · have h := h.2 c11
            refine lv_aload_n hx hb dX9_leastPart_68 rfl (lv_at hl 2 rfl) ?_
            refine db_getr S hw (Nat.le_of_ble_eq_true rfl) db_s49 (C := RX9) (T := TX9) (N := 3) rfl hiX9 2 (by decide) (r := 51) rfl (List.mem_of_getElem? (i := 1) rfl) dX9_leastPart_69 ?_
            refine lv_iload_n hx hb dX9_leastPart_72 rfl (lv_at hl 1 rfl) ?_
            obtain ⟨g9, h⟩ := h
            refine db_lald S hw (Nat.le_of_ble_eq_true rfl) db_s51 g9 dX9_leastPart_73 ?_
            refine lv_goto (tgt := 83) hx hb dX9_leastPart_74 (by decide) ?_
            refine lv_lload hx hb dX9_leastPart_83 (lv_at hl 0 rfl) ?_
            obtain ⟨g10, h⟩ := h
            refine lv_ldiv hx hb dX9_leastPart_85 g10 ?_
            refine lv_l2i (v := ((((X6.2 51 (r2).toNatClampNeg) / r6)).toInt32)) hx hb dX9_leastPart_86 rfl ?_
            exact db_iret S hr hlocks hw h dX9_leastPart_87
        · have h := h.1 c12
          refine lv_bipush (v := (-9 : Int32)) hx hb dX9_leastPart_61 (by decide) ?_
          exact db_iret S hr hlocks hw h dX9_leastPart_63
      · have h := h.1 c13
        refine lv_bipush (v := (-9 : Int32)) hx hb dX9_leastPart_34 (by decide) ?_
        exact db_iret S hr hlocks hw h dX9_leastPart_36
