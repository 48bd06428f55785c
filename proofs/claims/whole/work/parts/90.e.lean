/-! feed -/
def fb (x : Int64) (j : Nat) : Int32 := vp_nar .byte ((((db_lushr x ((8 : Int32) * nI j))).toInt32)).toInt8.toInt32
def fm (x : Int64) (j : Nat) : Int32 := ((db_lshr x ((8 : Int32) * nI j)) &&& (255 : Int64)).toInt32
theorem fb_low {y z : BitVec 64} (h : ∀ i, i < 8 → z.getLsbD i = y.getLsbD i) : (z &&& 255#64).setWidth 32 = (((y.setWidth 32).setWidth 8).signExtend 32) &&& 255#32 := by
  apply BitVec.eq_of_getLsbD_eq
  intro i hi
  have e1 : (255#64).getLsbD i = decide (i < 8) := by
    rw [BitVec.getLsbD_ofNat, show (255 : Nat) = 2 ^ 8 - 1 by decide, Nat.testBit_two_pow_sub_one]
    simp only [show i < 64 by omega, decide_true, Bool.true_and]
  have e2 : (255#32).getLsbD i = decide (i < 8) := by
    rw [BitVec.getLsbD_ofNat, show (255 : Nat) = 2 ^ 8 - 1 by decide, Nat.testBit_two_pow_sub_one]
    simp only [hi, decide_true, Bool.true_and]
  rw [BitVec.getLsbD_setWidth, BitVec.getLsbD_and, BitVec.getLsbD_and, e1, e2, BitVec.getLsbD_signExtend]
  by_cases c : i < 8
  · rw [if_pos c, BitVec.getLsbD_setWidth, BitVec.getLsbD_setWidth, h i c]
    simp only [hi, c, decide_true, Bool.true_and, Bool.and_true]
  · simp only [c, decide_false, Bool.and_false]
theorem fb_sh (x : Int64) (s : Int32) (k : Nat) (hk : k ≤ 56) (h1 : ((s.toInt64 &&& 63).toBitVec.smod 64).toNat = k) (h2 : ((s.toInt64.toUInt64 &&& Int64.toUInt64 63).toBitVec % 64).toNat = k) : ∀ i, i < 8 → (db_lshr x s).toBitVec.getLsbD i = (db_lushr x s).toBitVec.getLsbD i := by
  intro i hi
  have e1 : (db_lshr x s).toBitVec = x.toBitVec.sshiftRight k := by
    rw [← h1]; rfl
  have e2 : (db_lushr x s).toBitVec = x.toBitVec >>> k := by
    rw [← h2]
    exact UInt64.toBitVec_shiftRight _ _
  rw [e1, e2, BitVec.getLsbD_sshiftRight, BitVec.getLsbD_ushiftRight, if_pos (by omega)]
  simp only [show ¬ 64 ≤ i by omega, decide_false, Bool.not_false, Bool.true_and]
theorem fb_eq (x : Int64) (j : Nat) (hj : j < 8) : fm x j = fb x j &&& 255 ∧ (fb x j).toInt8.toInt32 = fb x j := by
  refine ⟨?_, ?_⟩
  · have g : ∀ i, i < 8 → (db_lshr x ((8 : Int32) * nI j)).toBitVec.getLsbD i = (db_lushr x ((8 : Int32) * nI j)).toBitVec.getLsbD i := by
      rcases (show j = 0 ∨ j = 1 ∨ j = 2 ∨ j = 3 ∨ j = 4 ∨ j = 5 ∨ j = 6 ∨ j = 7 by omega) with rfl | rfl | rfl | rfl | rfl | rfl | rfl | rfl
      · exact fb_sh x _ 0 (by decide) (by decide) (by decide)
      · exact fb_sh x _ 8 (by decide) (by decide) (by decide)
      · exact fb_sh x _ 16 (by decide) (by decide) (by decide)
      · exact fb_sh x _ 24 (by decide) (by decide) (by decide)
      · exact fb_sh x _ 32 (by decide) (by decide) (by decide)
      · exact fb_sh x _ 40 (by decide) (by decide) (by decide)
      · exact fb_sh x _ 48 (by decide) (by decide) (by decide)
      · exact fb_sh x _ 56 (by decide) (by decide) (by decide)
    have q := fb_low g
    unfold fm fb
    rw [pk_vb]
    apply Int32.toBitVec_inj.mp
    rw [Int64.toBitVec_toInt32, Int64.toBitVec_and, Int32.toBitVec_and, Int8.toBitVec_toInt32, Int32.toBitVec_toInt8, Int64.toBitVec_toInt32]
    rw [BitVec.signExtend_eq_setWidth_of_le ((db_lshr x (8 * nI j)).toBitVec &&& Int64.toBitVec 255) (show 32 ≤ 64 by decide), BitVec.signExtend_eq_setWidth_of_le (db_lushr x (8 * nI j)).toBitVec (show 32 ≤ 64 by decide), BitVec.signExtend_eq_setWidth_of_le (BitVec.setWidth 32 (db_lushr x (8 * nI j)).toBitVec) (show 8 ≤ 32 by decide)]
    exact q
  · unfold fb
    rw [pk_vb]
    simp
def TC (X : db_St) (t : Nat) (x : Int64) (i : Nat) (Y : db_St) : Prop := (∀ c j, c ≠ 2 → c ≠ 3 → Y.1 c j = X.1 c j) ∧ Y.1 2 1 = nI (t + i) ∧ (∀ j, j < t → Y.1 3 j = X.1 3 j) ∧ ∀ j, j < i → Y.1 3 (t + j) = fb x j
def TM (X : db_St) (t : Nat) (x : Int64) (i : Nat) (Y : db_St) : Prop := (∀ c j, c ≠ 94 → c ≠ 90 → Y.1 c j = X.1 c j) ∧ (∀ j, j ≠ 5 → Y.1 90 j = X.1 90 j) ∧ Y.1 90 5 = nI (t + i) ∧ (∀ j, j < t → Y.1 94 j = X.1 94 j) ∧ ∀ j, j < i → Y.1 94 (t + j) = fm x j
theorem cl_fed {X : db_St} {Q : Int32 → db_St → Prop} {t n : Nat} {x : Int64} (hn : t + n ≤ 16) (e0 : X.1 2 1 = nI t) (q : ∀ Y, TC X t x n Y → Q (nI (t + n)) Y) : ∃ f_, wp_X10_feed_39 Q f_ X (nI n) x (0 : Int32) := by
  refine pk_loop (fun k i Y => wp_X10_feed_39 Q k Y (nI n) x (nI i)) (TC X t x) n 0 X (Nat.zero_le _) ⟨fun _ _ _ _ => rfl, e0, fun _ _ => rfl, fun _ h => absurd h (by omega)⟩ ?_ ?_
  · intro k Y g
    refine br_t (nI_le (Nat.le_refl _) (by omega)) ?_
    unfold wp_X2_size
    rw [g.2.1]
    exact q Y g
  · intro k i Y hi ⟨g1, g2, g3, g4⟩ go
    refine br_f (nI_ge hi (by omega)) ?_
    unfold wp_X2_add
    rw [g2]
    refine br_f (nI_ge (b := 16) (by omega) (by decide)) ⟨vp_in_nI (by omega) (by decide), fun Y2 e2 Y3 e3 => ?_⟩
    rw [nI_clamp (by omega)] at e2
    have y2 : Y2.1 2 1 = nI (t + i) := by rw [e2, db_si_na (by omega), g2]
    rw [y2, nI_1, e2] at e3
    rw [nI_1]
    refine go Y3 ⟨fun c j h1 h2 => ?_, ?_, fun j hj => ?_, fun j hj => ?_⟩
    · rw [e3, db_si_na h1, db_si_na h2, g1 c j h1 h2]
    · rw [e3, db_si_hit]; rfl
    · rw [e3, db_si_na (by omega), db_si_nb (by omega), g3 j hj]
    · rw [e3, db_si_na (by omega)]
      by_cases c : j = i
      · subst c
        rw [db_si_hit]
        rfl
      · rw [db_si_nb (by omega), g4 j (by omega)]
theorem mo_fed {X : db_St} {Q : Int32 → db_St → Prop} {t n : Nat} {x : Int64} (hn : t + n ≤ 16) (e0 : X.1 90 5 = nI t) (q : ∀ Y, TM X t x n Y → Q (nI (t + n)) Y) : ∃ f_, wp_X11_feed_39 Q f_ X (nI n) x (0 : Int32) := by
  refine pk_loop (fun k i Y => wp_X11_feed_39 Q k Y (nI n) x (nI i)) (TM X t x) n 0 X (Nat.zero_le _) ⟨fun _ _ _ _ => rfl, fun _ _ => rfl, e0, fun _ _ => rfl, fun _ h => absurd h (by omega)⟩ ?_ ?_
  · intro k Y g
    refine br_t (nI_le (Nat.le_refl _) (by omega)) ?_
    rw [g.2.2.1]
    exact q Y g
  · intro k i Y hi ⟨g1, g0, g2, g3, g4⟩ go
    refine br_f (nI_ge hi (by omega)) ?_
    rw [g2]
    refine ⟨vp_in_nI (by omega) (by decide), fun Y2 e2 Y3 e3 => ?_⟩
    rw [nI_clamp (by omega)] at e2
    have y2 : Y2.1 90 5 = nI (t + i) := by rw [e2, db_si_na (by omega), g2]
    rw [y2, nI_1, e2] at e3
    rw [nI_1]
    refine go Y3 ⟨fun c j h1 h2 => ?_, fun j hj => ?_, ?_, fun j hj => ?_, fun j hj => ?_⟩
    · rw [e3, db_si_na h2, db_si_na h1, g1 c j h1 h2]
    · rw [e3, db_si_nb hj, db_si_na (by omega), g0 j hj]
    · rw [e3, db_si_hit]; rfl
    · rw [e3, db_si_na (by omega), db_si_nb (by omega), g3 j hj]
    · rw [e3, db_si_na (by omega)]
      by_cases c : j = i
      · subst c
        rw [db_si_hit]
        rfl
      · rw [db_si_nb (by omega), g4 j (by omega)]
theorem sim_fed {X Y Z : db_St} {t n : Nat} {x : Int64} (hn : t + n ≤ 16) (n8 : n ≤ 8) (e0 : X.1 2 1 = nI t) (h : Sim X) (c : TC X t x n Y) (m : TM Y t x n Z) : Sim Z := by
  obtain ⟨hR, ⟨t0, k0, k1, k2, k3⟩, hW, hX, hI⟩ := h
  have et : t0 = t := (nI_eq (by omega) (by omega)).mp (k1.symm.trans e0)
  subst et
  obtain ⟨c1, c2, c3, c4⟩ := c
  obtain ⟨m1, m0, m2, m3, m4⟩ := m
  have K : ∀ a j, a ≠ 2 → a ≠ 3 → a ≠ 94 → a ≠ 90 → Z.1 a j = X.1 a j := fun a j h1 h2 h3 h4 => (m1 a j h3 h4).trans (c1 a j h1 h2)
  have K2 : ∀ j, j ≠ 5 → Z.1 90 j = X.1 90 j := fun j hj => (m0 j hj).trans (c1 90 j (by decide) (by decide))
  have KK : ∀ a j, a ≠ 2 ∧ a ≠ 3 ∧ a ≠ 94 ∧ a ≠ 90 → Z.1 a j = X.1 a j := fun a j h => K a j h.1 h.2.1 h.2.2.1 h.2.2.2
  refine ⟨hR.keep (fun j => KK _ _ (by omega)) (fun j => KK _ _ (by omega)), ⟨t0 + n, hn, ?_, m2, fun j hj => ?_⟩, hW.keep (KK _ _ (by omega)) (K2 _ (by omega)) (fun j => KK _ _ (by omega)) (fun j => KK _ _ (by omega)), hX.keep (fun c j _ _ => KK _ _ (by omega)) (fun c j _ _ => KK _ _ (by omega)) (fun c j _ _ => KK _ _ (by omega)) (fun j => KK _ _ (by omega)), hI.keep (KK _ _ (by omega)) (K2 _ (by omega)) (fun c j _ _ => KK _ _ (by omega)) (fun j => KK _ _ (by omega))⟩
  · rw [m1 2 1 (by decide) (by decide), c2]
  · rw [m1 3 j (by decide) (by decide)]
    by_cases hj2 : j < t0
    · rw [m3 j hj2, c1 94 j (by decide) (by decide), c3 j hj2]
      exact k3 j hj2
    · obtain ⟨i, hi, rfl⟩ : ∃ i, i < n ∧ j = t0 + i := ⟨j - t0, by omega, by omega⟩
      rw [m4 i hi, c4 i hi]
      exact fb_eq x i (by omega)
theorem op_0 {xs : Nat → Int32} {x3 : Int32} {X : db_St} (h : Sim X) : lc_0 xs x3 Sim X := by
  unfold lc_0
  generalize xs ((x3 + (1 : Int32))).toNatClampNeg = a
  generalize ((db_lshl (((xs ((x3 + (2 : Int32))).toNatClampNeg)).toInt64) (32 : Int32)) ||| ((((xs ((x3 + (3 : Int32))).toNatClampNeg)).toInt64) &&& (4294967295 : Int64))) = x
  unfold wp_X10_feed wp_X11_feed wp_X2_room
  obtain ⟨t, k0, k1, k2, k3⟩ := h.2.1
  by_cases a1 : (1 : Int32) ≤ a
  rotate_left
  · exact br_f a1 (rf_c4 (br_f a1 (rf_m4 (br_t rfl (sim_ref h)))))
  by_cases a8 : (8 : Int32) < a
  · exact br_t a1 (br_t a8 (rf_c6 (br_t a1 (br_t a8 (rf_m6 (br_t rfl (sim_ref h)))))))
  obtain ⟨n, hn, rfl⟩ := nI_of2 (x := a) (M := 8) (n := 8) (by decide) (fun c => by
    rw [Int32.le_iff_toInt_le] at a1; rw [Int32.lt_iff_toInt_lt] at c; rw [show ((1 : Int32)).toInt = 1 by decide] at a1; rw [show ((0 : Int32)).toInt = 0 by decide] at c; omega) (Int32.not_lt.mp a8)
  refine br_t a1 (br_f a8 ?_)
  rw [k1, show Int32.ofNat 16 - nI t = nI (16 - t) from pk_sub k0]
  by_cases ht : t + n ≤ 16
  · refine br_t (nI_le (by omega) (by omega)) (cl_fed ht k1 (fun Y c => br_t a1 (br_f a8 ?_)))
    have y5 : Y.1 90 5 = nI t := (c.1 90 5 (by decide) (by decide)).trans k2
    rw [y5, nI_add]
    exact br_t (nI_le (b := 16) (by omega) (by decide)) (mo_fed ht y5 (fun Z m => br_t rfl (sim_fed ht hn k1 h c m)))
  · refine br_f (nI_ge (by omega) (by omega)) (rf_c6 (br_t a1 (br_f a8 ?_)))
    rw [db_si_na (show (90 : Nat) ≠ 1 by decide), k2, nI_add]
    exact br_f (nI_ge (a := 16) (by omega) (by omega)) (rf_m6 (br_t rfl (sim_ref h)))
