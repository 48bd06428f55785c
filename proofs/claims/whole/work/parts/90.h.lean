/-! what is owed for all deeds together; the book with the least or most -/
theorem telV_cs {X : db_St} {d m : Int32} {b : Nat} (h : SimB 7 92 X) (hL : SimL 7 92 X) (hb : b < 6) : telV X (tel X d m 6 (b + 1)) = -9 ∨ ∃ y, y < 1000 ∧ telV X (tel X d m 6 (b + 1)) = nI y := by
  cases c : tel X d m 6 (b + 1) with
  | none => exact Or.inl rfl
  | some p =>
    obtain ⟨o, r⟩ := p
    obtain ⟨ho, hr, hf⟩ := tel_lt h hL (by omega) c
    obtain ⟨n0, _, _, n3⟩ := nR_eq h ho
    obtain ⟨y, hy, e⟩ := (n3 r hr).2.2.2
    exact Or.inr ⟨y, hy, e⟩
def oN (X : db_St) (b i : Nat) : Nat := ((X.1 92 (200 + 3 * i)).toNatClampNeg + 1) * (telV X (tel X (X.1 92 (198 + 3 * i)) (X.1 92 (199 + 3 * i)) 6 (b + 1))).toNatClampNeg
def tgS (X : db_St) (b : Nat) : Nat → Nat
  | 0 => 0
  | i + 1 => tgS X b i + oN X b i
def tgM (X : db_St) (b : Nat) : Nat → Nat
  | 0 => 0
  | i + 1 => if tgM X b i < oN X b i then oN X b i else tgM X b i
def tgV (X : db_St) (b : Nat) : Nat :=
  if X.1 92 (192 + b) = nI 0 then tgS X b (X.1 92 306).toNatClampNeg else if X.1 92 (192 + b) = nI 1 then tgM X b (X.1 92 306).toNatClampNeg else tgM X b (X.1 92 306).toNatClampNeg + (tgS X b (X.1 92 306).toNatClampNeg - tgM X b (X.1 92 306).toNatClampNeg) / 2
theorem tgM_le {X : db_St} {b : Nat} : ∀ i, tgM X b i ≤ tgS X b i
  | 0 => Nat.le_refl _
  | i + 1 => by
    rw [tgM, tgS]
    have := tgM_le (X := X) (b := b) i
    by_cases c : tgM X b i < oN X b i
    · rw [if_pos c]; omega
    · rw [if_neg c]; omega
theorem tgS_lt {X : db_St} {b n : Nat} (ho : ∀ i, i < n → oN X b i < 2000) : ∀ i, i ≤ n → tgS X b i ≤ 2000 * i
  | 0, _ => Nat.le_refl _
  | i + 1, h => by
    rw [tgS]
    have := tgS_lt ho i (by omega)
    have := ho i (by omega)
    omega
theorem oN_cs {X : db_St} {b i n : Nat} (h : SimX 7 36 38 92 X) (hb : b < 6) (e : X.1 92 306 = nI n) (hn : n ≤ 12) (hi : i < n) : ∃ t, t < 2 ∧ X.1 33 i = X.1 92 (198 + 3 * i) ∧ X.1 34 i = X.1 92 (199 + 3 * i) ∧ X.1 35 i = nI (t + 1) ∧ X.1 92 (200 + 3 * i) = nI t ∧ oN X b i < 2000 ∧ ((telV X (tel X (X.1 92 (198 + 3 * i)) (X.1 92 (199 + 3 * i)) 6 (b + 1)) = -9 ∧ oN X b i = 0) ∨ ∃ y, y < 1000 ∧ telV X (tel X (X.1 92 (198 + 3 * i)) (X.1 92 (199 + 3 * i)) 6 (b + 1)) = nI y ∧ oN X b i = (t + 1) * y) := by
  obtain ⟨n0, h0, h1, h2, h3⟩ := h.2.2.2.1
  have en : n0 = n := (nI_eq (by omega) (by omega)).mp (h2.symm.trans e)
  subst en
  obtain ⟨d, m, t, hd, hm, ht, e1, e2, e3, e4, e5, e6⟩ := h3 i hi
  have e1' : X.1 33 i = nI d := e1
  have e3' : X.1 34 i = nI m := e3
  have e5' : X.1 35 i = nI (t + 1) := e5
  have ct : (X.1 92 (200 + 3 * i)).toNatClampNeg = t := by rw [e6]; exact nI_clamp (by omega)
  refine ⟨t, ht, e1'.trans e2.symm, e3'.trans e4.symm, e5', e6, ?_, ?_⟩
  · unfold oN
    rw [ct]
    rcases telV_cs (d := X.1 92 (198 + 3 * i)) (m := X.1 92 (199 + 3 * i)) h.1 h.2.1 hb with q | ⟨y, hy, q⟩
    · rw [q, show ((-9 : Int32)).toNatClampNeg = 0 by decide, Nat.mul_zero]; decide
    · rw [q, nI_clamp (by omega)]
      rcases (show t = 0 ∨ t = 1 by omega) with rfl | rfl <;> omega
  · unfold oN
    rw [ct]
    rcases telV_cs (d := X.1 92 (198 + 3 * i)) (m := X.1 92 (199 + 3 * i)) h.1 h.2.1 hb with q | ⟨y, hy, q⟩
    · exact Or.inl ⟨q, by rw [q, show ((-9 : Int32)).toNatClampNeg = 0 by decide, Nat.mul_zero]⟩
    · exact Or.inr ⟨y, hy, q, by rw [q, nI_clamp (by omega)]⟩
theorem tg_bd {X : db_St} {b n : Nat} (h : SimX 7 36 38 92 X) (hb : b < 6) (e : X.1 92 306 = nI n) (hn : n ≤ 12) {i : Nat} (hi : i ≤ n) : tgS X b i ≤ 24000 ∧ tgM X b i ≤ tgS X b i := by
  have := tgS_lt (X := X) (b := b) (n := n) (fun i hi => by obtain ⟨t, _, _, _, _, _, q, _⟩ := oN_cs h hb e hn hi; exact q) i hi
  exact ⟨by omega, tgM_le i⟩
theorem tgV_eq {X : db_St} {b n : Nat} (e : X.1 92 306 = nI n) (hn : n ≤ 12) : (X.1 92 306).toNatClampNeg = n := by rw [e]; exact nI_clamp (by omega)
theorem tgV_lt {X : db_St} {b : Nat} (h : SimX 7 36 38 92 X) (hb : b < 6) : tgV X b ≤ 24000 := by
  obtain ⟨n, h0, h1, h2, h3⟩ := h.2.2.2.1
  have := tg_bd h hb h2 h0 (Nat.le_refl n)
  unfold tgV
  rw [tgV_eq (b := b) h2 h0]
  by_cases c : X.1 92 (192 + b) = nI 0
  · rw [if_pos c]; omega
  · rw [if_neg c]
    by_cases c2 : X.1 92 (192 + b) = nI 1
    · rw [if_pos c2]; omega
    · rw [if_neg c2]; omega
theorem cl_allDone {X : db_St} {Q : Int32 → db_St → Prop} {b : Nat} (h : SimX 7 36 38 92 X) (hb : b < 6) (q : Q (nI (tgV X b)) X) : wp_X8_allDone X (nI b) Q := by
  obtain ⟨n, h0, h1, h2, h3⟩ := h.2.2.2.1
  obtain ⟨o, ho, o1, o2⟩ := h.2.2.1 b hb
  have o2' : X.1 (8 + 1 + 4 * b) 5 = nI o := o2
  have go : ∀ k i, i + k = n → wp_X8_allDone_7 Q (k + 1) X (nI b) (nI (tgS X b i)) (nI (tgM X b i)) (nI i) := by
    intro k
    induction k with
    | zero =>
      intro i e
      have ei : i = n := by omega
      subst ei
      have ⟨t1, t2⟩ := tg_bd h hb h2 h0 (Nat.le_refl i)
      refine br_t (by rw [h1]; exact nI_le (by omega) (by omega)) ⟨vp_in_nI hb (by decide), ?_⟩
      rw [nI_clamp (show b < 2 ^ 31 by omega), o2']
      unfold tgV at q
      rw [tgV_eq (b := b) h2 h0, o1] at q
      rcases (show o = 0 ∨ o = 1 ∨ o = 2 by omega) with rfl | rfl | rfl
      · rw [if_pos rfl] at q
        exact br_f (by decide) (br_f (by decide) q)
      · rw [if_neg (by decide), if_pos rfl] at q
        exact br_t (by decide) q
      · rw [if_neg (by decide), if_neg (by decide)] at q
        refine br_f (by decide) (br_t (by decide) ?_)
        rw [pk_sub t2, show (2 : Int32) = nI 2 by decide, pk_div (by omega) (by decide) (by decide), nI_add]
        exact q
    | succ k ih =>
      intro i e
      obtain ⟨t, ht, f1, f2, f3, f4, f5, f6⟩ := oN_cs h hb h2 h0 (show i < n by omega)
      have vi : vp_in (nI i) 12 := vp_in_nI (by omega) (by decide)
      have ⟨t1, t2⟩ := tg_bd h hb h2 h0 (show i ≤ n by omega)
      refine br_f (by rw [h1]; exact nI_ge (by omega) (by omega)) ⟨vi, vi, ?_⟩
      rw [nI_clamp (show i < 2 ^ 31 by omega), f1, f2]
      refine cl_daysFor h.1 h.2.1 hb (fun z ez => ⟨vi, ?_⟩)
      have ev : nI (t + 1) * z = nI (oN X b i) := by
        rcases f6 with ⟨g1, g2⟩ | ⟨y, hy, g1, g2⟩
        · rw [g1] at ez
          rw [show z = 0 from ez, g2]
          rcases (show t = 0 ∨ t = 1 by omega) with rfl | rfl <;> decide
        · rw [g1] at ez
          have : z = nI y := by
            by_cases c : (0 : Int32) < nI y
            · rw [if_pos c] at ez; exact ez
            · rw [if_neg c] at ez
              have y0 : y = 0 := by
                rcases Nat.eq_zero_or_pos y with y0 | y0
                · exact y0
                · exact absurd (nI_lt (a := 0) y0 (by omega)) c
              rw [ez, y0]; rfl
          rw [this, pk_mul, g2]
      rw [f3, ev]
      intro w ew
      have em : w = nI (tgM X b (i + 1)) := by
        rw [ew, tgM]
        by_cases c : tgM X b i < oN X b i
        · rw [if_pos c, if_pos (nI_lt c (by omega))]
        · rw [if_neg c, if_neg (nI_nlt (by omega) (by omega))]
      rw [em, nI_add, nI_1]
      exact ih (i + 1) (by omega)
  exact ⟨_, go n 0 (by omega)⟩
theorem mo_together {X : db_St} {Q : Int32 → db_St → Prop} {b : Nat} (h : SimX 7 36 38 92 X) (hb : b < 6) (q : Q (nI (tgV X b)) X) : wp_X11_togetherBy X (nI b) Q := by
  obtain ⟨n, h0, h1, h2, h3⟩ := h.2.2.2.1
  obtain ⟨o, ho, o1, o2⟩ := h.2.2.1 b hb
  have c1 : ((192 : Int32) + nI b).toNatClampNeg = 192 + b := ix_add (by decide) (by omega)
  have v1 : vp_in ((192 : Int32) + nI b) 310 := ix_in (k := 192) (by decide) (by omega) (by decide)
  have c306 : ((306 : Int32)).toNatClampNeg = 306 := by decide
  have go : ∀ k i, i + k = n → wp_X11_togetherBy_7 Q (k + 1) X (nI b) (nI (tgS X b i)) (nI (tgM X b i)) (nI i) := by
    intro k
    induction k with
    | zero =>
      intro i e
      have ei : i = n := by omega
      subst ei
      have ⟨t1, t2⟩ := tg_bd h hb h2 h0 (Nat.le_refl i)
      refine br_t (by rw [c306, h2]; exact nI_le (by omega) (by omega)) ⟨v1, ?_⟩
      rw [c1, o1]
      unfold tgV at q
      rw [tgV_eq (b := b) h2 h0, o1] at q
      rcases (show o = 0 ∨ o = 1 ∨ o = 2 by omega) with rfl | rfl | rfl
      · rw [if_pos rfl] at q
        exact br_t (by decide) q
      · rw [if_neg (by decide), if_pos rfl] at q
        exact br_f (by decide) ⟨v1, br_t (by decide) q⟩
      · rw [if_neg (by decide), if_neg (by decide)] at q
        refine br_f (by decide) ⟨v1, br_f (by decide) ?_⟩
        rw [pk_sub t2, show (2 : Int32) = nI 2 by decide, pk_div (by omega) (by decide) (by decide), nI_add]
        exact q
    | succ k ih =>
      intro i e
      obtain ⟨t, ht, f1, f2, f3, f4, f5, f6⟩ := oN_cs h hb h2 h0 (show i < n by omega)
      have ⟨t1, t2⟩ := tg_bd h hb h2 h0 (show i ≤ n by omega)
      have b0 : (198 : Int32) + (3 : Int32) * nI i = nI (198 + 3 * i) := by
        rw [show (198 : Int32) = nI 198 by decide, show (3 : Int32) = nI 3 by decide, pk_mul, nI_add]
      have b1 : (198 : Int32) + (3 : Int32) * nI i + 1 = nI (199 + 3 * i) := by
        rw [b0, nI_1]; exact congrArg nI (by omega)
      have b2 : (198 : Int32) + (3 : Int32) * nI i + 2 = nI (200 + 3 * i) := by
        rw [b0, show (2 : Int32) = nI 2 by decide, nI_add]; exact congrArg nI (by omega)
      refine br_f (by rw [c306, h2]; exact nI_ge (by omega) (by omega)) ?_
      rw [b1, b2, b0]
      refine ⟨vp_in_nI (by omega) (by decide), vp_in_nI (by omega) (by decide), ?_⟩
      rw [nI_clamp (show 198 + 3 * i < 2 ^ 31 by omega), nI_clamp (show 199 + 3 * i < 2 ^ 31 by omega), nI_clamp (show 200 + 3 * i < 2 ^ 31 by omega)]
      refine mo_owesOf h.1 h.2.1 hb ?_
      rw [nI_1]
      have ih2 := ih (i + 1) (by omega)
      rw [tgS, tgM] at ih2
      rcases f6 with ⟨g1, g2⟩ | ⟨y, hy, g1, g2⟩
      · rw [g1]
        rw [g2, Nat.add_zero, if_neg (by omega)] at ih2
        exact br_f (by decide) ih2
      · rw [g1]
        refine br_t (nI_pos' (by omega)) ⟨vp_in_nI (by omega) (by decide), fun z ez => ?_⟩
        rw [f4, show (1 : Int32) = nI 1 by decide, nI_add, pk_mul, show y * (1 + t) = oN X b i by rw [g2, Nat.mul_comm, Nat.add_comm]] at ez
        rw [ez, nI_add]
        by_cases c : tgM X b i < oN X b i
        · rw [if_pos c] at ih2
          exact br_f (nI_ge c (by omega)) ih2
        · rw [if_neg c] at ih2
          exact br_t (nI_le (by omega) (by omega)) ih2
  exact ⟨_, go n 0 (by omega)⟩
theorem op_9 {xs : Nat → Int32} {x3 : Int32} {X : db_St} (h : Sim X) : lc_9 xs x3 Sim X := by
  unfold lc_9
  generalize xs ((x3 + (1 : Int32))).toNatClampNeg = a
  unfold wp_X10_together wp_X11_together
  rcases db_cs a 6 with ⟨j, hj, rfl⟩ | ha
  · exact bk_yes hj (br_f (by decide) (cl_allDone h.2.2.2.1 hj (mb_yes hj (br_f (by decide) (mo_together h.2.2.2.1 hj (br_t rfl h))))))
  · exact bk_no ha (br_t rfl (rf_c1 (mb_no ha (br_t rfl (rf_m1 (br_t rfl (sim_ref h)))))))
def bsX (X : db_St) (f : Int32) : Nat → Nat
  | 0 => 0
  | i + 1 => if f = 0 then (if tgV X (bsX X f i) ≤ tgV X (i + 1) then bsX X f i else i + 1) else (if tgV X (i + 1) ≤ tgV X (bsX X f i) then bsX X f i else i + 1)
theorem bsX_le {X : db_St} {f : Int32} : ∀ i, bsX X f i ≤ i
  | 0 => Nat.le_refl _
  | i + 1 => by
    have := bsX_le (X := X) (f := f) i
    rw [bsX]
    by_cases f0 : f = 0
    · rw [if_pos f0]
      by_cases c : tgV X (bsX X f i) ≤ tgV X (i + 1)
      · rw [if_pos c]; omega
      · rw [if_neg c]; omega
    · rw [if_neg f0]
      by_cases c : tgV X (i + 1) ≤ tgV X (bsX X f i)
      · rw [if_pos c]; omega
      · rw [if_neg c]; omega
theorem op_23 {xs : Nat → Int32} {x3 : Int32} {X : db_St} (h : Sim X) : lc_23 xs x3 Sim X := by
  unfold lc_23 wp_X10_beside wp_X11_beside wp_X8_extreme
  have hX := h.2.2.2.1
  have goC : ∀ (f : Int32) (Q : Int32 → db_St → Prop), Q (nI (bsX X f 5)) X → ∀ k i, i + k = 5 → wp_X8_extreme_11 Q (k + 1) X f (nI (bsX X f i)) (nI (tgV X (bsX X f i))) (nI (i + 1)) := by
    intro f Q q k
    induction k with
    | zero =>
      intro i e
      have : i = 5 := by omega
      subst this
      exact br_t (by decide) q
    | succ k ih =>
      intro i e
      have l0 := bsX_le (X := X) (f := f) i
      have l1 := tgV_lt hX (b := bsX X f i) (by omega)
      have l2 := tgV_lt hX (b := i + 1) (by omega)
      have ih2 := ih (i + 1) (by omega)
      rw [bsX] at ih2
      refine br_f (nI_ge (b := 6) (by omega) (by decide)) (cl_allDone hX (by omega) ?_)
      rw [nI_1]
      by_cases f0 : f = 0
      · rw [if_pos f0] at ih2
        refine br_t f0 ?_
        by_cases c : tgV X (bsX X f i) ≤ tgV X (i + 1)
        · rw [if_pos c] at ih2
          exact br_t (nI_le c (by omega)) ih2
        · rw [if_neg c] at ih2
          exact br_f (nI_ge (by omega) (by omega)) ih2
      · rw [if_neg f0] at ih2
        refine br_f f0 ?_
        by_cases c : tgV X (i + 1) ≤ tgV X (bsX X f i)
        · rw [if_pos c] at ih2
          exact br_t (nI_le c (by omega)) ih2
        · rw [if_neg c] at ih2
          exact br_f (nI_ge (by omega) (by omega)) ih2
  have goM : ∀ (f : Int32) (Q : Int32 → db_St → Prop), Q (nI (bsX X f 5)) X → ∀ k i, i + k = 5 → wp_X11_beside_4 Q (k + 1) X f (nI (bsX X f i)) (nI (i + 1)) := by
    intro f Q q k
    induction k with
    | zero =>
      intro i e
      have : i = 5 := by omega
      subst this
      exact br_t (by decide) q
    | succ k ih =>
      intro i e
      have l0 := bsX_le (X := X) (f := f) i
      have l1 := tgV_lt hX (b := bsX X f i) (by omega)
      have l2 := tgV_lt hX (b := i + 1) (by omega)
      have ih2 := ih (i + 1) (by omega)
      rw [bsX] at ih2
      refine br_f (nI_ge (b := 6) (by omega) (by decide)) (mo_together hX (by omega) (mo_together hX (by omega) ?_))
      rw [nI_1]
      by_cases f0 : f = 0
      · rw [if_pos f0] at ih2
        refine br_t f0 ?_
        by_cases c : tgV X (bsX X f i) ≤ tgV X (i + 1)
        · rw [if_pos c] at ih2
          exact br_t (nI_le c (by omega)) ih2
        · rw [if_neg c] at ih2
          exact br_f (nI_ge (by omega) (by omega)) ih2
      · rw [if_neg f0] at ih2
        refine br_f f0 ?_
        by_cases c : tgV X (i + 1) ≤ tgV X (bsX X f i)
        · rw [if_pos c] at ih2
          exact br_t (nI_le c (by omega)) ih2
        · rw [if_neg c] at ih2
          exact br_f (nI_ge (by omega) (by omega)) ih2
  by_cases c : xs ((x3 + (1 : Int32))).toNatClampNeg = 0
  · refine br_t c (cl_allDone (b := 0) hX (by decide) ⟨_, goC _ _ (br_t c ⟨_, goM _ _ ?_ 5 0 rfl⟩) 5 0 rfl⟩)
    exact br_t rfl h
  · refine br_f c (cl_allDone (b := 0) hX (by decide) ⟨_, goC _ _ (br_f c ⟨_, goM _ _ ?_ 5 0 rfl⟩) 5 0 rfl⟩)
    exact br_t rfl h
