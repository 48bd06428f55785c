/-! worth by putting: the class -/
theorem db_sl_na {X : db_St} {k j : Nat} {v : Int64} {a b : Nat} (h : a ≠ k) : (db_sl X k j v).2 a b = X.2 a b := by rw [db_sl_2, if_neg h]
theorem db_sl_hit {X : db_St} {k j : Nat} {v : Int64} : (db_sl X k j v).2 k j = v := by rw [db_sl_2, if_pos rfl, if_pos rfl]
theorem db_sl_nb {X : db_St} {k j : Nat} {v : Int64} {a b : Nat} (h : b ≠ j) : (db_sl X k j v).2 a b = X.2 a b := by
  rw [db_sl_2]
  by_cases ha : a = k
  · rw [if_pos ha, if_neg h, ha]
  · rw [if_neg ha]
def PO (X : db_St) (n : Nat) (p : Nat → Nat → Nat) : Prop := n ≤ 12 ∧ OKP n p ∧ X.1 38 4 = nI n ∧ X.1 92 307 = nI n ∧ ∀ i, i < n → X.1 39 i = nI (p i 0) ∧ X.1 40 i = nI (p i 1) ∧ X.1 41 i = nI (p i 2) ∧ X.1 42 i = nI (p i 3) ∧ X.1 92 (258 + 4 * i) = nI (p i 0) ∧ X.1 92 (259 + 4 * i) = nI (p i 1) ∧ X.1 92 (260 + 4 * i) = nI (p i 2) ∧ X.1 92 (261 + 4 * i) = nI (p i 3)
theorem PO.keep {X Y : db_St} {n : Nat} {p : Nat → Nat → Nat} (h : PO X n p) (e1 : ∀ a j, 38 ≤ a → a ≤ 42 → Y.1 a j = X.1 a j) (e2 : ∀ j, 258 ≤ j → j ≤ 307 → Y.1 92 j = X.1 92 j) : PO Y n p := by
  obtain ⟨h1, h2, h3, h4, h5⟩ := h
  refine ⟨h1, h2, by rw [e1 _ _ (by decide) (by decide)]; exact h3, by rw [e2 _ (by decide) (by decide)]; exact h4, fun i hi => ?_⟩
  rw [e1 39 i (by decide) (by decide), e1 40 i (by decide) (by decide), e1 41 i (by decide) (by decide), e1 42 i (by decide) (by decide), e2 _ (by omega) (by omega), e2 _ (by omega) (by omega), e2 _ (by omega) (by omega), e2 _ (by omega) (by omega)]
  exact h5 i hi
def pov (X : db_St) (i j : Nat) : Nat := (X.1 92 (258 + 4 * i + j)).toNatClampNeg
theorem Sim.po {X : db_St} (h : Sim X) : ∃ n, PO X n (pov X) := by
  obtain ⟨n, h1, h2, h3, h4⟩ := h.2.2.2.1.2.2.2.2.2.2.2
  have e : ∀ i, i < n → ∃ f g u w, f < 6 ∧ g < 6 ∧ f ≠ g ∧ 1 ≤ u ∧ u ≤ 30 ∧ 1 ≤ w ∧ w ≤ 30 ∧ X.1 (38 + 1) i = nI f ∧ X.1 92 (258 + 4 * i) = nI f ∧ X.1 (38 + 2) i = nI u ∧ X.1 92 (259 + 4 * i) = nI u ∧ X.1 (38 + 3) i = nI g ∧ X.1 92 (260 + 4 * i) = nI g ∧ X.1 (38 + 4) i = nI w ∧ X.1 92 (261 + 4 * i) = nI w ∧ pov X i 0 = f ∧ pov X i 1 = u ∧ pov X i 2 = g ∧ pov X i 3 = w := fun i hi => by
    obtain ⟨f, g, u, w, k1, k2, k3, k4, k5, k6, k7, c1, c2, c3, c4, c5, c6, c7, c8⟩ := h4 i hi
    refine ⟨f, g, u, w, k1, k2, k3, k4, k5, k6, k7, c1, c2, c3, c4, c5, c6, c7, c8, ?_, ?_, ?_, ?_⟩
    · unfold pov; rw [show 258 + 4 * i + 0 = 258 + 4 * i by omega, c2]; exact nI_clamp (by omega)
    · unfold pov; rw [show 258 + 4 * i + 1 = 259 + 4 * i by omega, c4]; exact nI_clamp (by omega)
    · unfold pov; rw [show 258 + 4 * i + 2 = 260 + 4 * i by omega, c6]; exact nI_clamp (by omega)
    · unfold pov; rw [show 258 + 4 * i + 3 = 261 + 4 * i by omega, c8]; exact nI_clamp (by omega)
  refine ⟨n, h1, fun i hi => ?_, h2, h3, fun i hi => ?_⟩
  · obtain ⟨f, g, u, w, k1, k2, k3, k4, k5, k6, k7, _, _, _, _, _, _, _, _, e1, e2, e3, e4⟩ := e i hi
    rw [e1, e2, e3, e4]
    exact ⟨k1, k2, k3, k4, k5, k6, k7⟩
  · obtain ⟨f, g, u, w, k1, k2, k3, k4, k5, k6, k7, c1, c2, c3, c4, c5, c6, c7, c8, e1, e2, e3, e4⟩ := e i hi
    rw [e1, e2, e3, e4]
    exact ⟨c1, c3, c5, c7, c2, c4, c6, c8⟩
def OW (X Y : db_St) : Prop := ∀ a j, Y.1 a j = X.1 a j
theorem OW.po {X Y : db_St} {n : Nat} {p : Nat → Nat → Nat} (h : PO X n p) (o : OW X Y) : PO Y n p := h.keep (fun a j _ _ => o a j) (fun j _ _ => o 92 j)
theorem OW.same {X Y : db_St} (o : OW X Y) : Same X Y := ⟨fun c j _ => o c j, fun c j _ _ => o c j, fun c j _ _ => o c j, fun j _ => o 90 j, fun c j _ _ => o c j, fun j => o 100 j⟩
/-- the table of the class holds the least fractions of the families A S k -/
def EN (X : db_St) (A : Nat → Nat → Nat → Nat → Prop) : Prop := ∀ S k, S < 64 → k < 6 → ∃ a b, X.2 51 (S * 6 + k) = lN b ∧ (1 ≤ b → X.2 50 (S * 6 + k) = lN a) ∧ lsF (A S k) a b
theorem lsF_le {A : Nat → Nat → Prop} {a b : Nat} (h : lsF A a b) : b ≤ 24300000 ∧ (1 ≤ b → a ≤ 24300000) := by
  rcases h with ⟨h1, _⟩ | ⟨h1, h2, h3, h4, _⟩ <;> omega
theorem l0_eq {b : Nat} (h : b < 2 ^ 63) : lg_cmp (lN b) (0 : Int64) = 0 ↔ b = 0 := by
  rw [lg_cmp_eq]
  exact pk_lEQ (b := 0) h (by decide)
theorem cl_goOn {X : db_St} {Q : db_St → Prop} {n S j : Nat} {p : Nat → Nat → Nat} (hO : PO X n p) (hS : S < 64) (hj : j < n) (en : EN X (Wp n p S j)) (q : ∀ Z, OW X Z → EN Z (Wp n p S (j + 1)) → Q Z) : wp_X9_goOn X (nI S) (nI j) Q := by
  obtain ⟨n12, ok, _, _, rows⟩ := hO
  obtain ⟨r0, r1, r2, r3, _⟩ := rows j hj
  obtain ⟨o1, o2, o3, o4, o5, o6, o7⟩ := ok j hj
  have vj : vp_in (nI j) 12 := vp_in_nI (by omega) (by decide)
  have mk := msk hS o2
  have b01 := bt_cs S (p j 2)
  unfold wp_X9_goOn
  rw [nI_clamp (show j < 2 ^ 31 by omega), r0, r1, r2, r3, mk.1]
  refine ⟨vj, vj, fun z3 e3 z4 e4 => ?_⟩
  rw [show (6 : Int32) = nI 6 by decide, pk_mul, nI_add] at e3
  rw [e3]
  by_cases c1 : bt S (p j 2) = 1
  · refine br_t (by rw [c1]; rfl) (q X (fun _ _ => rfl) (fun T k hT hk => ?_))
    obtain ⟨a, b, e1, e2, l⟩ := en T k hT hk
    refine ⟨a, b, e1, e2, l.congr (fun m w => ((Wp_step hj).trans ⟨fun z => z.elim id (fun ⟨⟨g1, g2, _⟩, _⟩ => absurd g2 (by rw [← g1]; omega)), fun z => Or.inl z⟩).symm)⟩
  have c0 : bt S (p j 2) = 0 := by omega
  have ad := bt_ad hS o2 c0
  rw [mk.2.1 c0, show (6 : Int32) = nI 6 by decide, pk_mul, nI_add] at e4
  rw [e4]
  have v3 : vp_in (nI (S * 6 + p j 0)) 384 := vp_in_nI (by omega) (by decide)
  have v4 : vp_in (nI ((S + 2 ^ p j 2) * 6 + p j 2)) 384 := vp_in_nI (by omega) (by decide)
  obtain ⟨a, b, e51, e50, l⟩ := en S (p j 0) hS o1
  have l2 : lsF (Wa n p S (p j 0)) a b := l.congr (fun m w => Wp_full (Nat.le_refl _))
  have lb := lsF_le l2
  refine br_f (by rw [c0]; decide) ⟨v3, ?_⟩
  rw [nI_clamp (show S * 6 + p j 0 < 2 ^ 31 by omega), nI_clamp (show (S + 2 ^ p j 2) * 6 + p j 2 < 2 ^ 31 by omega), e51]
  -- no way to go on from
  by_cases b0 : b = 0
  · refine br_t ((l0_eq (by omega)).mpr b0) (q X (fun _ _ => rfl) (fun T k hT hk => ?_))
    obtain ⟨a', b', e1, e2, l'⟩ := en T k hT hk
    refine ⟨a', b', e1, e2, l'.congr (fun m w => ((Wp_step hj).trans ⟨fun z => z.elim id (fun ⟨_, m1, w1, g, _⟩ => ?_), fun z => Or.inl z⟩).symm)⟩
    rcases l2 with ⟨_, no⟩ | ⟨_, h2, _⟩
    · exact absurd g (no m1 w1)
    · omega
  have b1 : 1 ≤ b := by omega
  rw [e50 b1]
  -- the new way
  have wit : ∃ d, Wy n p (d + 1) (S + 2 ^ p j 2) (p j 2) (a * p j 3) (b * p j 1) := by
    rcases l2 with ⟨h1, _⟩ | ⟨h1, h2, h3, h4, ⟨d, h5⟩, h6⟩
    · omega
    · exact ⟨d, S, a, b, j, h5, hj, rfl, c0, rfl, rfl, rfl⟩
  obtain ⟨d, wit⟩ := wit
  have wo := Wy_ok ok wit
  have u1 := b30 wo.2.2.2.2.2.1
  have u2 := b30 wo.2.2.2.2.2.2
  have ln : lsF (fun m w => (p j 2 = p j 2 ∧ bt S (p j 2) = 0 ∧ S + 2 ^ p j 2 = S + 2 ^ p j 2) ∧ ∃ m1 w1, Wa n p S (p j 0) m1 w1 ∧ m = m1 * p j 3 ∧ w = w1 * p j 1) (a * p j 3) (b * p j 1) :=
    (lsF_ext l2 b1 o6 o4 u1 u2).congr (fun m w => ⟨fun z => ⟨⟨rfl, c0, rfl⟩, z⟩, fun z => z.2⟩)
  obtain ⟨a2, b2, f51, f50, lt⟩ := en (S + 2 ^ p j 2) (p j 2) ad.1 o2
  have lb2 := lsF_le lt
  have jn := lsF_join lt ln (by have := wo.2.2.2.2.1; omega)
  have keep : ∀ Z, OW X Z → (∀ i, i ≠ (S + 2 ^ p j 2) * 6 + p j 2 → Z.2 50 i = X.2 50 i ∧ Z.2 51 i = X.2 51 i) → (∃ a b, Z.2 51 ((S + 2 ^ p j 2) * 6 + p j 2) = lN b ∧ (1 ≤ b → Z.2 50 ((S + 2 ^ p j 2) * 6 + p j 2) = lN a) ∧ lsF (fun m w => Wp n p S j (S + 2 ^ p j 2) (p j 2) m w ∨ ((p j 2 = p j 2 ∧ bt S (p j 2) = 0 ∧ S + 2 ^ p j 2 = S + 2 ^ p j 2) ∧ ∃ m1 w1, Wa n p S (p j 0) m1 w1 ∧ m = m1 * p j 3 ∧ w = w1 * p j 1)) a b) → Q Z := by
    intro Z oZ sZ hZ
    refine q Z oZ (fun T k hT hk => ?_)
    by_cases c : T = S + 2 ^ p j 2 ∧ k = p j 2
    · obtain ⟨rfl, rfl⟩ := c
      obtain ⟨a, b, g1, g2, g3⟩ := hZ
      exact ⟨a, b, g1, g2, g3.congr (fun m w => (Wp_step hj).symm)⟩
    · obtain ⟨a, b, g1, g2, g3⟩ := en T k hT hk
      have s := sZ (T * 6 + k) (by omega)
      refine ⟨a, b, by rw [s.2]; exact g1, by rw [s.1]; exact g2, g3.congr (fun m w => ((Wp_step hj).trans ⟨fun z => z.elim id (fun ⟨⟨g1, _, g2⟩, _⟩ => absurd ⟨by rw [g1]; exact g2, g1.symm⟩ c), fun z => Or.inl z⟩).symm)⟩
  have put : lsF (fun m w => Wp n p S j (S + 2 ^ p j 2) (p j 2) m w ∨ ((p j 2 = p j 2 ∧ bt S (p j 2) = 0 ∧ S + 2 ^ p j 2 = S + 2 ^ p j 2) ∧ ∃ m1 w1, Wa n p S (p j 0) m1 w1 ∧ m = m1 * p j 3 ∧ w = w1 * p j 1)) (a * p j 3) (b * p j 1) → ∀ A, A = db_sl X 50 ((S + 2 ^ p j 2) * 6 + p j 2) (lN (a * p j 3)) → ∀ B, B = db_sl A 51 ((S + 2 ^ p j 2) * 6 + p j 2) (lN (b * p j 1)) → Q B := by
    intro lf A eA B eB
    refine keep B (fun c i => by rw [eB, eA]; rfl) (fun i hi => ?_) ⟨_, _, by rw [eB, db_sl_hit], fun _ => by rw [eB, db_sl_na (by decide), eA, db_sl_hit], lf⟩
    exact ⟨by rw [eB, db_sl_na (by decide), eA, db_sl_nb hi], by rw [eB, db_sl_nb hi, eA, db_sl_nb hi]⟩
  have i42 : (nI (p j 3)).toInt64 = lN (p j 3) := nI_l (by omega)
  have i40 : (nI (p j 1)).toInt64 = lN (p j 1) := nI_l (by omega)
  rw [i42, i40, lN_mul, lN_mul, f51]
  refine br_f (fun z => b0 ((l0_eq (by omega)).mp z)) ⟨v3, vj, fun z8 e8 => ⟨v3, vj, fun z11 e11 => ⟨v4, ?_⟩⟩⟩
  rw [e8, e11]
  by_cases c2 : b2 = 0
  · exact br_t ((l0_eq (by omega)).mpr c2) ⟨v4, fun A eA => ⟨v4, fun B eB => put (jn.1 c2) A eA B eB⟩⟩
  refine br_f (fun z => c2 ((l0_eq (by omega)).mp z)) ⟨v4, v4, ?_⟩
  rw [f50 (by omega), lN_mul, lN_mul]
  have m1 : a * p j 3 * b2 ≤ 24300000 * 24300000 := Nat.mul_le_mul u1 lb2.1
  have m2 : a2 * (b * p j 1) ≤ 24300000 * 24300000 := Nat.mul_le_mul (lb2.2 (by omega)) u2
  by_cases c3 : a * p j 3 * b2 < a2 * (b * p j 1)
  · refine br_f (fun z => ?_) ⟨v4, fun A eA => ⟨v4, fun B eB => put (jn.2.1 (by omega) c3) A eA B eB⟩⟩
    rw [lg_cmp_ge, pk_lLE (by omega) (by omega)] at z
    omega
  · refine br_t ?_ (keep X (fun _ _ => rfl) (fun _ _ => ⟨rfl, rfl⟩) ⟨a2, b2, f51, f50, jn.2.2 (by omega) c3⟩)
    rw [lg_cmp_ge, pk_lLE (by omega) (by omega)]
    omega
theorem cl_goAll {X : db_St} {Q : db_St → Prop} {n : Nat} {p : Nat → Nat → Nat} (hO : PO X n p) (q : ∀ Z, OW X Z → EN Z (Wa n p) → Q Z) : wp_X9_goAllWays X Q := by
  have ok := hO.2.1
  have n12 := hO.1
  have sets : ∀ c S, S + c = 64 → ∀ A, OW X A → EN A (Wp n p S 0) → wp_X9_goAllWays_26 Q (c + 1) A (nI S) := by
    intro c
    induction c with
    | zero =>
      intro S e A oA eA
      have : S = 64 := by omega
      subst this
      refine br_t (by decide) (q A oA (fun T k hT hk => ?_))
      obtain ⟨a, b, g1, g2, g3⟩ := eA T k hT hk
      exact ⟨a, b, g1, g2, g3.congr (fun m w => Wp_full (by omega))⟩
    | succ c ih =>
      intro S e A oA eA
      have row : ∀ r j, j + r = n → ∀ B, OW X B → EN B (Wp n p S j) → wp_X9_goAllWays_34 (wp_X9_goAllWays_26 Q (c + 1)) Q (r + 1) B (nI S) (nI j) := by
        intro r
        induction r with
        | zero =>
          intro j ej B oB eB
          have : j = n := by omega
          subst this
          refine br_t (by rw [(OW.po hO oB).2.2.1]; exact nI_le (Nat.le_refl _) (by omega)) ?_
          rw [nI_1]
          refine ih (S + 1) (by omega) B oB (fun T k hT hk => ?_)
          obtain ⟨a, b, g1, g2, g3⟩ := eB T k hT hk
          exact ⟨a, b, g1, g2, g3.congr (fun m w => Wp_next)⟩
        | succ r ih2 =>
          intro j ej B oB eB
          have hB := OW.po hO oB
          refine br_f (by rw [hB.2.2.1]; exact nI_ge (by omega) (by omega)) (cl_goOn hB (by omega) (by omega) eB (fun Z oZ eZ => ?_))
          rw [nI_1]
          exact ih2 (j + 1) (by omega) Z (fun a i => (oZ a i).trans (oB a i)) eZ
      exact br_f (nI_ge (b := 64) (by omega) (by decide)) ⟨_, row n 0 (by omega) A oA eA⟩
  have fill : ∀ c i, i + c = 384 → ∀ A, OW X A → (∀ j, j < i → A.2 51 j = lN 0) → wp_J7_fill_d0a16_6 51 384 (fun X1 => (∀ X2, X2 = (db_sl X1 50 ((6 : Int32)).toNatClampNeg (1 : Int64)) → (∀ X3, X3 = (db_sl X2 51 ((6 : Int32)).toNatClampNeg (1 : Int64)) → (∃ f_, wp_X9_goAllWays_26 Q f_ X3 (1 : Int32))))) (c + 1) A (0 : Int64) (nI i) (nI 384) := by
    intro c
    induction c with
    | zero =>
      intro i e A oA zA
      have : i = 384 := by omega
      subst this
      refine br_t (nI_le (Nat.le_refl _) (by decide)) (fun B eB C eC => ?_)
      rw [show ((6 : Int32)).toNatClampNeg = 6 by decide] at eB eC
      have r := sets 63 1 rfl C (fun a i => by rw [eC, eB]; exact oA a i) (fun T k hT hk => ?_)
      · exact ⟨_, r⟩
      have no : ∀ m w, Wp n p 1 0 T k m w → T = 1 ∧ k = 0 ∧ m = 1 ∧ w = 1 := fun m w z => by
        rcases z with z | ⟨S1, m1, w1, i, ⟨d, h1⟩, h2, _⟩
        · exact z
        · have a := Wy_ok ok h1
          have : S1 = 0 := by omega
          rw [this] at a
          have a3 := a.2.2.1
          unfold bt at a3
          rw [Nat.zero_div] at a3
          omega
      by_cases c : T = 1 ∧ k = 0
      · obtain ⟨rfl, rfl⟩ := c
        refine ⟨1, 1, by rw [eC, db_sl_hit]; rfl, fun _ => by rw [eC, db_sl_na (by decide), eB, db_sl_hit]; rfl, Or.inr ⟨Nat.le_refl _, Nat.le_refl _, by decide, by decide, Or.inl ⟨rfl, rfl, rfl, rfl⟩, fun m w z => ?_⟩⟩
        obtain ⟨_, _, rfl, rfl⟩ := no m w z
        exact Nat.le_refl _
      · refine ⟨0, 0, ?_, fun z => absurd z (by decide), Or.inl ⟨rfl, fun m w z => ?_⟩⟩
        · rw [eC, db_sl_nb (by omega), eB, db_sl_na (by decide)]; exact zA _ (by omega)
        · have := no m w z
          omega
    | succ c ih =>
      intro i e A oA zA
      refine br_f (nI_ge (by omega) (by omega)) ⟨vp_in_nI (by omega) (by decide), fun Z eZ => ?_⟩
      rw [nI_clamp (by omega)] at eZ
      rw [nI_1]
      refine ih (i + 1) (by omega) Z (fun a i => by rw [eZ]; exact oA a i) (fun j hj => ?_)
      rw [eZ]
      by_cases c : j = i
      · rw [c, db_sl_hit]; rfl
      · rw [db_sl_nb c]; exact zA j (by omega)
  exact ⟨_, fill 384 0 rfl X (fun _ _ => rfl) (fun j hj => absurd hj (by omega))⟩
