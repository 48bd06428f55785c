/-! The beginning: the two new objects are alike; every call keeps them alike. -/
set_option maxRecDepth 100000 in
theorem x0_n : ∀ i : Fin 24, (db_aF i.val).toNatClampNeg ≤ 999 ∧ (i.val % 4 = 0 → (db_aF i.val).toNatClampNeg ≤ 99) ∧ (i.val % 4 = 1 → (db_aF i.val).toNatClampNeg ≤ 99) ∧ (i.val % 4 = 2 → (db_aF i.val).toNatClampNeg ≤ 9) ∧ db_X0.1 37 i.val = nI (db_aF i.val).toNatClampNeg ∧ db_X0.1 92 (234 + i.val) = nI (db_aF i.val).toNatClampNeg := by decide +kernel
set_option maxRecDepth 100000 in
theorem x0_b : ∀ b : Fin 6, db_X0.1 (7 + 2 + 4 * b.val) 3 = nI 0 ∧ db_X0.1 92 (180 + b.val) = nI 0 ∧ db_X0.1 92 (186 + b.val) = nI 0 ∧ db_X0.1 (7 + 2 + 4 * b.val) 4 = nI 0 - 1 ∧ db_X0.1 92 (192 + b.val) = nI 0 ∧ db_X0.1 (7 + 2 + 4 * b.val) 5 = nI 0 := by decide +kernel
set_option maxRecDepth 100000 in
theorem x0_r : (∀ i : Fin 7, db_X0.1 1 i.val = db_X0.1 91 i.val) ∧ db_X0.1 2 1 = nI 0 ∧ db_X0.1 90 5 = nI 0 ∧ db_X0.1 4 1 = nI 0 ∧ db_X0.1 90 17 = nI 0 ∧ db_X0.1 7 4 = nI 0 ∧ db_X0.1 92 306 = nI 0 ∧ db_X0.1 36 1 = nI 0 ∧ db_X0.1 92 308 = nI 0 ∧ db_X0.1 36 2 = nI 0 ∧ db_X0.1 92 309 = nI 0 ∧ db_X0.1 38 4 = nI 0 ∧ db_X0.1 92 307 = nI 0 ∧ db_X0.1 0 14 = 0 ∧ db_X0.1 90 3 = 0 := by decide +kernel
theorem sim_X0 : Sim db_X0 := by
  obtain ⟨r1, r2, r3, r4, r5, r6, r7, r8, r9, r10, r11, r12, r13, r14, r15⟩ := x0_r
  refine ⟨fun i hi => r1 ⟨i, hi⟩, ⟨0, by omega, r2, r3, fun j hj => absurd hj (by omega)⟩, ⟨0, by omega, r4, r5, fun j hj => absurd hj (by omega)⟩, ⟨fun b hb => ?_, fun b hb => ?_, fun b hb => ?_, ⟨0, by omega, r6, r7, fun j hj => absurd hj (by omega)⟩, fun i hi => ?_, ⟨0, by omega, r8, r9⟩, ⟨0, by omega, r10, r11⟩, ⟨0, by omega, r12, r13, fun j hj => absurd hj (by omega)⟩⟩, Or.inl ⟨r14, r15⟩⟩
  · have x := x0_b ⟨b, hb⟩
    exact ⟨0, by omega, x.1, x.2.1, fun j hj => absurd hj (by omega)⟩
  · have x := x0_b ⟨b, hb⟩
    exact ⟨0, by omega, x.2.2.1, x.2.2.2.1⟩
  · have x := x0_b ⟨b, hb⟩
    exact ⟨0, by omega, x.2.2.2.2.1, x.2.2.2.2.2⟩
  · exact ⟨_, x0_n ⟨i, hi⟩⟩
theorem op_all (xs : Nat → Int32) (x3 : Int32) (X : db_St) (h : Sim X) : lc_all xs x3 Sim X :=
  ⟨fun _ => op_0 h, fun _ => ⟨fun _ => op_1 h, fun _ => ⟨fun _ => op_2 h, fun _ => ⟨fun _ => op_3 h, fun _ => ⟨fun _ => op_4 h, fun _ => ⟨fun _ => op_5 h, fun _ => ⟨fun _ => op_6 h, fun _ => ⟨fun _ => op_7 h, fun _ => ⟨fun _ => op_8 h, fun _ => ⟨fun _ => op_9 h, fun _ => ⟨fun _ => op_10 h, fun _ => ⟨fun _ => op_11 h, fun _ => ⟨fun _ => op_12 h, fun _ => ⟨fun _ => op_13 h, fun _ => ⟨fun _ => op_14 h, fun _ => ⟨fun _ => op_15 h, fun _ => ⟨fun _ => op_16 h, fun _ => ⟨fun _ => op_17 h, fun _ => ⟨fun _ => op_18 h, fun _ => ⟨fun _ => op_19 h, fun _ => ⟨fun _ => op_20 h, fun _ => ⟨fun _ => op_21 h, fun _ => ⟨fun _ => op_22 h, fun _ => ⟨fun _ => op_23 h, fun _ => ⟨fun _ => op_24 h, fun _ => ⟨fun _ => op_25 h, fun _ => ⟨fun _ => op_26 h, fun _ => ⟨fun _ => op_27 h, fun _ => ⟨fun _ => op_28 h, fun _ => h⟩⟩⟩⟩⟩⟩⟩⟩⟩⟩⟩⟩⟩⟩⟩⟩⟩⟩⟩⟩⟩⟩⟩⟩⟩⟩⟩⟩⟩
