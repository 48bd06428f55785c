/-! count and ruleOf -/
def iS (X : db_St) : Nat → Int32
  | 0 => 0
  | i + 1 => iS X i + X.1 92 (180 + i)
theorem cl_inAll {X : db_St} {Q : Int32 → db_St → Prop} (h : SimB 7 92 X) (q : Q (iS X 6) X) : wp_X8_rulesInAll X Q := by
  unfold wp_X8_rulesInAll
  refine pk_loop (fun n i (s : Int32) => wp_X8_rulesInAll_4 Q n X s (nI i)) (fun i s => s = iS X i) 6 0 (0 : Int32) (by decide) rfl ?_ ?_
  · intro n s e
    subst e
    exact br_t (by decide) q
  · intro n i s hi e k
    obtain ⟨n0, _, g1, g2, _⟩ := h i hi
    have g1' : X.1 (8 + 1 + 4 * i) 3 = nI n0 := g1
    refine br_f (nI_ge (b := 6) hi (by decide)) ⟨vp_in_nI hi (by decide), fun z ez => ?_⟩
    rw [nI_clamp (show i < 2 ^ 31 by omega), g1', ← g2, e] at ez
    rw [nI_1]
    exact k z ez
theorem mo_inAll {X : db_St} {Q : Int32 → db_St → Prop} (q : Q (iS X 6) X) : ∃ f_, wp_X11_count_66 Q f_ X (0 : Int32) (0 : Int32) := by
  refine pk_loop (fun n i (s : Int32) => wp_X11_count_66 Q n X s (nI i)) (fun i s => s = iS X i) 6 0 (0 : Int32) (by decide) rfl ?_ ?_
  · intro n s e
    subst e
    exact br_t (by decide) q
  · intro n i s hi e k
    refine br_f (nI_ge (b := 6) hi (by decide)) ⟨ix_in (k := 180) (by decide) (by omega) (by decide), fun z ez => ?_⟩
    rw [show ((180 : Int32) + nI i).toNatClampNeg = 180 + i from ix_add (by decide) (by omega), e] at ez
    rw [nI_1]
    exact k z ez
theorem mo_22 {X : db_St} {Q : Int32 → db_St → Prop} {a : Int32} (h : ∀ j, j < 6 → a ≠ nI j) (q : Q (-9) X) : wp_X11_count_22 Q X a :=
  br_f (h 0 (by decide)) (br_f (h 1 (by decide)) (br_f (h 2 (by decide)) (br_f (h 3 (by decide)) (br_f (h 4 (by decide)) (br_f (h 5 (by decide)) q)))))
theorem op_28 {xs : Nat → Int32} {x3 : Int32} {X : db_St} (h : Sim X) : lc_28 xs x3 Sim X := by
  unfold lc_28
  generalize xs ((x3 + (1 : Int32))).toNatClampNeg = a
  unfold wp_X10_count wp_X11_count
  have clf : ∀ (Q : Int32 → db_St → Prop), (∀ j, j < 6 → a ≠ nI j) → (((a ≤ (10 : Int32) → Q (-9 : Int32) X) ∧ (¬ (a ≤ (10 : Int32)) → (((7 : Int32) ≤ (a - (10 : Int32)) → Q (-9 : Int32) X) ∧ (¬ ((7 : Int32) ≤ (a - (10 : Int32))) → (vp_in (a - (10 : Int32)) 7 ∧ Q (X.1 1 ((a - (10 : Int32))).toNatClampNeg) X))))) → ((a = (0 : Int32) → wp_X8_rulesInAll X (fun r13 X13 => Q r13 X13)) ∧ (¬ a = (0 : Int32) → ((a = (1 : Int32) → Q (X.1 7 4) X) ∧ (¬ a = (1 : Int32) → ((a = (2 : Int32) → Q (X.1 38 4) X) ∧ (¬ a = (2 : Int32) → ((a = (3 : Int32) → wp_X2_size 2 16 X (fun r12 X12 => Q r12 X12)) ∧ (¬ a = (3 : Int32) → ((a = (4 : Int32) → wp_X2_size 4 100 X (fun r11 X11 => Q r11 X11)) ∧ (¬ a = (4 : Int32) → ((a = (5 : Int32) → wp_J6_bitCount_0f7a4 X (X.1 36 1) (fun r10 X10 => Q r10 X10)) ∧ (¬ a = (5 : Int32) → ((a ≤ (10 : Int32) → Q (-9 : Int32) X) ∧ (¬ (a ≤ (10 : Int32)) → (((7 : Int32) ≤ (a - (10 : Int32)) → Q (-9 : Int32) X) ∧ (¬ ((7 : Int32) ≤ (a - (10 : Int32))) → (vp_in (a - (10 : Int32)) 7 ∧ Q (X.1 1 ((a - (10 : Int32))).toNatClampNeg) X)))))))))))))))))) := fun Q g q =>
    br_f (g 0 (by decide)) (br_f (g 1 (by decide)) (br_f (g 2 (by decide)) (br_f (g 3 (by decide)) (br_f (g 4 (by decide)) (br_f (g 5 (by decide)) q)))))
  have c306 : ((306 : Int32)).toNatClampNeg = 306 := by decide
  have c307 : ((307 : Int32)).toNatClampNeg = 307 := by decide
  have c308 : ((308 : Int32)).toNatClampNeg = 308 := by decide
  obtain ⟨hR, ⟨t, _, t1, t2, _⟩, ⟨w, _, w1, w2, _⟩, ⟨hB, hL, hM, ⟨d, _, d1, d2, _⟩, hN, ⟨f, f0, f1, f2⟩, hG, ⟨o, _, o1, o2, _⟩⟩, hI⟩ := id h
  rcases db_cs a 17 with ⟨j, hj, rfl⟩ | ha
  · by_cases h6 : j < 6
    · have m10 : ∀ {A B : Prop}, A → ((nI j ≤ (10 : Int32) → A) ∧ (¬ nI j ≤ (10 : Int32) → B)) := fun q => br_t (nI_le (b := 10) (by omega) (by decide)) q
      clear clf
      rcases (show j = 0 ∨ j = 1 ∨ j = 2 ∨ j = 3 ∨ j = 4 ∨ j = 5 by omega) with rfl | rfl | rfl | rfl | rfl | rfl
      · exact br_t (by decide) (cl_inAll hB (m10 (br_t (by decide) (mo_inAll (br_t rfl h)))))
      · exact br_f (by decide) (br_t (by decide) (m10 (br_f (by decide) (br_t (by decide) (br_t (by rw [c306, d1, d2]) h)))))
      · exact br_f (by decide) (br_f (by decide) (br_t (by decide) (m10 (br_f (by decide) (br_f (by decide) (br_t (by decide) (br_t (by rw [c307, o1, o2]) h)))))))
      · exact br_f (by decide) (br_f (by decide) (br_f (by decide) (br_t (by decide) (m10 (br_f (by decide) (br_f (by decide) (br_f (by decide) (br_t (by decide) (br_t (by rw [t1, t2]) h)))))))))
      · exact br_f (by decide) (br_f (by decide) (br_f (by decide) (br_f (by decide) (br_t (by decide) (m10 (br_f (by decide) (br_f (by decide) (br_f (by decide) (br_f (by decide) (br_t (by decide) (br_t (by rw [w1, w2]) h)))))))))))
      · rw [f1]
        exact br_f (by decide) (br_f (by decide) (br_f (by decide) (br_f (by decide) (br_f (by decide) (br_t (by decide) (bc_J f0 (m10 (br_f (by decide) (br_f (by decide) (br_f (by decide) (br_f (by decide) (br_f (by decide) (br_t (by decide) (by rw [c308, f2]; exact bc_M f0 (br_t rfl h)))))))))))))))
    · have g : ∀ i, i < 6 → nI j ≠ nI i := fun i hi e => by have := (nI_eq (by omega) (by omega)).mp e; omega
      refine clf _ g ?_
      by_cases h10 : j ≤ 10
      · have q : nI j ≤ (10 : Int32) := nI_le (b := 10) h10 (by decide)
        exact br_t q (br_t q (mo_22 g (br_t rfl h)))
      · have q : ¬ nI j ≤ (10 : Int32) := nI_ge (a := 10) (by omega) (by omega)
        have e : nI j - (10 : Int32) = nI (j - 10) := pk_sub (b := 10) (by omega)
        rw [e, nI_clamp (show j - 10 < 2 ^ 31 by omega)]
        refine br_f q (br_f (nI_ge (b := 7) (by omega) (by decide)) ⟨vp_in_nI (by omega) (by decide), br_f q (br_f (nI_ge (b := 17) (by omega) (by decide)) ⟨vp_in_nI (by omega) (by decide), br_t (hR _ (by omega)) h⟩)⟩)
  · have g : ∀ i, i < 6 → a ≠ nI i := fun i hi => ha i (by omega)
    refine clf _ g ?_
    by_cases q : a ≤ (10 : Int32)
    · exact br_t q (br_t q (mo_22 g (br_t rfl h)))
    · have h0 : ¬ a < 0 := fun c => q (Int32.le_trans (Int32.le_of_lt c) (by decide))
      have h17 : (17 : Int32) ≤ a := lt_of_no (N := 17) (by decide) (by decide) ha h0
      obtain ⟨n, hn, rfl⟩ := nI_of h0
      have n17 : 17 ≤ n := by
        rw [Int32.le_iff_toInt_le, nI_toInt hn, show ((17 : Int32)).toInt = 17 by decide] at h17; omega
      have e : nI n - (10 : Int32) = nI (n - 10) := pk_sub (b := 10) (by omega)
      rw [e]
      exact br_f q (br_t (nI_le (a := 7) (by omega) (by omega)) (br_f q (br_t h17 (mo_22 g (br_t rfl h)))))
theorem op_2 {xs : Nat → Int32} {x3 : Int32} {X : db_St} (h : Sim X) : lc_2 xs x3 Sim X := by
  unfold lc_2
  generalize xs ((x3 + (1 : Int32))).toNatClampNeg = a
  generalize xs ((x3 + (2 : Int32))).toNatClampNeg = b
  generalize xs ((x3 + (3 : Int32))).toNatClampNeg = c
  unfold wp_X10_ruleOf wp_X11_ruleOf
  rcases db_cs a 6 with ⟨j, hj, rfl⟩ | ha
  rotate_left
  · exact bk_no ha (br_t rfl (rf_c1 (mb_no ha (br_t rfl (rf_m1 (br_t rfl (sim_ref h)))))))
  have cj : (nI j).toNatClampNeg = j := nI_clamp (by omega)
  obtain ⟨n, hn, g1, g2, g3⟩ := h.2.2.2.1.1 j hj
  have g1' : X.1 (8 + 1 + 4 * j) 3 = nI n := g1
  have c1 : ((180 : Int32) + nI j).toNatClampNeg = 180 + j := ix_add (by decide) (by omega)
  have v1 : vp_in ((180 : Int32) + nI j) 310 := ix_in (k := 180) (by decide) (by omega) (by decide)
  have vj : vp_in (nI j) 6 := vp_in_nI hj (by decide)
  refine bk_yes hj (br_f (by decide) ?_)
  rw [cj, g1']
  rcases db_cs b n with ⟨r, hr, rfl⟩ | hb
  rotate_left
  · have fin : ∀ P : Int32 → db_St → Prop, P (-1) (db_si (db_si X 1 1 (X.1 1 1 + 1)) 91 1 ((db_si X 1 1 (X.1 1 1 + 1)).1 91 1 + 1)) → wp_X11_isBook (db_si X 1 1 (X.1 1 1 + 1)) (nI j) (fun r1 X1 => ((r1 = 0 → wp_X11_refuse X1 (-1 : Int32) (fun r2 X2 => P r2 X2)) ∧ (¬ (r1 = 0) → (vp_in ((180 : Int32) + nI j) 310 ∧ wp_X11_isIn X1 b (X1.1 92 (((180 : Int32) + nI j)).toNatClampNeg) (fun r4 X4 => ((r4 = 0 → wp_X11_refuse X4 (-1 : Int32) (fun r9 X9 => P r9 X9)) ∧ (¬ r4 = 0 → wp_X11_isIn X4 c (3 : Int32) (fun r5 X5 => ((r5 = 0 → wp_X11_refuse X5 (-2 : Int32) (fun r6 X6 => P r6 X6)) ∧ (¬ (r5 = 0) → wp_X11_get X5 (nI j) b c (fun r7 X7 => P r7 X7))))))))))) := fun P p =>
      mb_yes hj (br_f (by decide) ⟨v1, in_no (N := n) (by omega) (by rw [c1, db_si_na (by omega), g2]) hb (br_t rfl (rf_m1 p))⟩)
    by_cases b0 : b < 0
    · exact br_t b0 (rf_c1 (fin _ (br_t rfl (sim_ref h))))
    · exact br_f b0 ⟨vj, br_f (Int32.not_lt.mpr (lt_of_no (N := n) (by omega) rfl hb b0)) (rf_c1 (fin _ (br_t rfl (sim_ref h))))⟩
  have cr : (nI r).toNatClampNeg = r := nI_clamp (by omega)
  have vr : vp_in (nI r) 10 := vp_in_nI (by omega) (by decide)
  obtain ⟨d, m, y, hd, hm, hy, e1, e2, e3, e4, e5, e6⟩ := g3 r hr
  have e1' : X.1 (8 + 1 + 4 * j + 1) r = nI d := by rw [show 8 + 1 + 4 * j + 1 = 7 + 3 + 4 * j by omega]; exact e1
  have e3' : X.1 (8 + 1 + 4 * j + 2) r = nI m := by rw [show 8 + 1 + 4 * j + 2 = 7 + 4 + 4 * j by omega]; exact e3
  have e5' : X.1 (8 + 1 + 4 * j + 3) r = nI y := by rw [show 8 + 1 + 4 * j + 3 = 7 + 5 + 4 * j by omega]; exact e5
  refine br_f (nI_pos (by omega)) ⟨vj, br_t (nI_lt hr (by omega)) ⟨vj, ?_⟩⟩
  rw [cr, e1', e3', e5']
  have cg : ∀ k : Nat, k < 3 → ((30 : Int32) * nI j + (3 : Int32) * nI r + nI k).toNatClampNeg = 30 * j + 3 * r + k := fun k hk => by
    rw [show (30 : Int32) = nI 30 by decide, show (3 : Int32) = nI 3 by decide, pk_mul, pk_mul, nI_add, nI_add]; exact nI_clamp (by omega)
  have vg : ∀ k : Nat, k < 3 → vp_in ((30 : Int32) * nI j + (3 : Int32) * nI r + nI k) 310 := fun k hk => by
    rw [show (30 : Int32) = nI 30 by decide, show (3 : Int32) = nI 3 by decide, pk_mul, pk_mul, nI_add, nI_add]; exact vp_in_nI (by omega) (by decide)
  have mo : ∀ (r1 : Int32) (k : Nat), k < 3 → r1 = X.1 92 (30 * j + 3 * r + k) → wp_X11_isBook X (nI j) (fun r1_1 X1 => ((r1_1 = 0 → wp_X11_refuse X1 (-1 : Int32) (fun r2 X2 => (r1 = r2 → Sim X2) ∧ (¬ r1 = r2 → False))) ∧ (¬ (r1_1 = 0) → (vp_in ((180 : Int32) + nI j) 310 ∧ wp_X11_isIn X1 (nI r) (X1.1 92 (((180 : Int32) + nI j)).toNatClampNeg) (fun r4 X4 => ((r4 = 0 → wp_X11_refuse X4 (-1 : Int32) (fun r9 X9 => (r1 = r9 → Sim X9) ∧ (¬ r1 = r9 → False))) ∧ (¬ r4 = 0 → wp_X11_isIn X4 (nI k) (3 : Int32) (fun r5 X5 => ((r5 = 0 → wp_X11_refuse X5 (-2 : Int32) (fun r6 X6 => (r1 = r6 → Sim X6) ∧ (¬ r1 = r6 → False))) ∧ (¬ (r5 = 0) → wp_X11_get X5 (nI j) (nI r) (nI k) (fun r7 X7 => (r1 = r7 → Sim X7) ∧ (¬ r1 = r7 → False))))))))))) ) := fun r1 k hk e =>
    mb_yes hj (br_f (by decide) ⟨v1, in_yes (N := n) (by omega) (by rw [c1, g2]) hr (br_f (by decide) (in_yes (N := 3) (by decide) (by decide) hk (br_f (by decide) ⟨vg k hk, br_t (by rw [cg k hk, e]) h⟩)))⟩)
  rcases db_cs c 3 with ⟨k, hk, rfl⟩ | hc
  · rcases (show k = 0 ∨ k = 1 ∨ k = 2 by omega) with rfl | rfl | rfl
    · exact br_t (by decide) ⟨vr, mo _ 0 (by decide) e2.symm⟩
    · exact br_f (by decide) (br_t (by decide) ⟨vr, mo _ 1 (by decide) e4.symm⟩)
    · exact br_f (by decide) (br_f (by decide) (br_t (by decide) ⟨vr, mo _ 2 (by decide) e6.symm⟩))
  · refine br_f (hc 0 (by decide)) (br_f (hc 1 (by decide)) (br_f (hc 2 (by decide)) (rf_c2 ?_)))
    exact mb_yes hj (br_f (by decide) ⟨v1, in_yes (N := n) (by omega) (by rw [c1, db_si_na (by omega), g2]) hr (br_f (by decide) (in_no (N := 3) (by decide) (by decide) hc (br_t rfl (rf_m2 (br_t rfl (sim_ref h))))))⟩)
