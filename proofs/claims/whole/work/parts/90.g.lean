/-! the first rule that answers, the book that is not silent: owes and why -/
def fstN (p : Nat → Bool) : Nat → Nat → Option Nat
  | 0, _ => none
  | k + 1, r => if p r then some r else fstN p k (r + 1)
theorem fstN_lt {p : Nat → Bool} : ∀ {k r s : Nat}, fstN p k r = some s → r ≤ s ∧ s < r + k ∧ p s = true
  | 0, r, s, h => by rw [fstN] at h; exact absurd h (by simp)
  | k + 1, r, s, h => by
    rw [fstN] at h
    by_cases c : p r = true
    · rw [if_pos c] at h
      have := Option.some.inj h
      subst this
      exact ⟨Nat.le_refl _, by omega, c⟩
    · rw [if_neg c] at h
      have ⟨a, b, d⟩ := fstN_lt h
      exact ⟨by omega, by omega, d⟩
def hitb (X : db_St) (b : Nat) (d m : Int32) (r : Nat) : Bool := decide (X.1 92 (30 * b + 3 * r) = d ∧ X.1 92 (30 * b + 3 * r + 1) &&& (m ^^^ (-1 : Int32)) = 0)
def nR (X : db_St) (b : Nat) : Nat := (X.1 92 (180 + b)).toNatClampNeg
def lnO (X : db_St) (b : Nat) : Nat := (X.1 92 (186 + b)).toNatClampNeg
def ofO : Option Nat → Int32
  | none => -9
  | some r => nI r
def tel (X : db_St) (d m : Int32) : Nat → Nat → Option (Nat × Nat)
  | 0, _ => none
  | _ + 1, 0 => none
  | k + 1, b + 1 => match fstN (hitb X b d m) (nR X b) 0 with
    | some r => some (b, r)
    | none => tel X d m k (lnO X b)
theorem nR_eq {X : db_St} (h : SimB 7 92 X) {b : Nat} (hb : b < 6) : nR X b ≤ 10 ∧ X.1 92 (180 + b) = nI (nR X b) ∧ X.1 (8 + 1 + 4 * b) 3 = nI (nR X b) ∧ ∀ r, r < nR X b → X.1 (8 + 1 + 4 * b + 1) r = X.1 92 (30 * b + 3 * r) ∧ X.1 (8 + 1 + 4 * b + 2) r = X.1 92 (30 * b + 3 * r + 1) ∧ X.1 (8 + 1 + 4 * b + 3) r = X.1 92 (30 * b + 3 * r + 2) ∧ ∃ y, y < 1000 ∧ X.1 92 (30 * b + 3 * r + 2) = nI y := by
  obtain ⟨n, h0, h1, h2, h3⟩ := h b hb
  have e : nR X b = n := by unfold nR; rw [h2]; exact nI_clamp (by omega)
  rw [e]
  refine ⟨h0, h2, h1, fun r hr => ?_⟩
  obtain ⟨d, m, y, hd, hm, hy, e1, e2, e3, e4, e5, e6⟩ := h3 r hr
  refine ⟨?_, ?_, ?_, y, hy, e6⟩
  · rw [show 8 + 1 + 4 * b + 1 = 7 + 3 + 4 * b by omega, e1, e2]
  · rw [show 8 + 1 + 4 * b + 2 = 7 + 4 + 4 * b by omega, e3, e4]
  · rw [show 8 + 1 + 4 * b + 3 = 7 + 5 + 4 * b by omega, e5, e6]
theorem lnO_eq {X : db_St} (h : SimL 7 92 X) {b : Nat} (hb : b < 6) : lnO X b ≤ 6 ∧ X.1 92 (186 + b) = nI (lnO X b) ∧ X.1 (8 + 1 + 4 * b) 4 = nI (lnO X b) - 1 := by
  obtain ⟨o, h0, h1, h2⟩ := h b hb
  have e : lnO X b = o := by unfold lnO; rw [h1]; exact nI_clamp (by omega)
  rw [e]
  exact ⟨h0, h1, h2⟩
theorem tel_lt {X : db_St} {d m : Int32} (h : SimB 7 92 X) (hL : SimL 7 92 X) : ∀ {k o b r : Nat}, o ≤ 6 → tel X d m k o = some (b, r) → b < 6 ∧ r < nR X b ∧ fstN (hitb X b d m) (nR X b) 0 = some r
  | 0, _, _, _, _, e => by rw [tel] at e; exact absurd e (by simp)
  | k + 1, 0, _, _, _, e => by rw [tel] at e; exact absurd e (by simp)
  | k + 1, o + 1, b, r, ho, e => by
    rw [tel] at e
    cases c : fstN (hitb X o d m) (nR X o) 0 with
    | some s =>
      rw [c] at e
      have e2 := Option.some.inj e
      have e3 := (Prod.mk.inj e2).1
      have e4 := (Prod.mk.inj e2).2
      subst e3 e4
      exact ⟨by omega, by have := (fstN_lt c).2.1; omega, c⟩
    | none =>
      rw [c] at e
      exact tel_lt h hL (lnO_eq hL (by omega)).1 e
theorem cl_first {X : db_St} {Q : Int32 → db_St → Prop} {d m : Int32} {b : Nat} (h : SimB 7 92 X) (hb : b < 6) (q : Q (ofO (fstN (hitb X b d m) (nR X b) 0)) X) : wp_X0_firstFor (8 + 1 + 4 * b) X d m Q := by
  obtain ⟨h0, h1, h2, h3⟩ := nR_eq h hb
  have go : ∀ k r, r + k = nR X b → Q (ofO (fstN (hitb X b d m) k r)) X → wp_X0_firstFor_2 (8 + 1 + 4 * b) Q (k + 1) X d m (nI r) := by
    intro k
    induction k with
    | zero =>
      intro r e q
      refine br_t ?_ q
      rw [h2]
      exact nI_le (by omega) (by omega)
    | succ k ih =>
      intro r e q
      obtain ⟨g1, g2, _⟩ := h3 r (by omega)
      have vr : vp_in (nI r) 10 := vp_in_nI (by omega) (by decide)
      refine br_f (by rw [h2]; exact nI_ge (by omega) (by omega)) ⟨vr, ?_⟩
      rw [nI_clamp (show r < 2 ^ 31 by omega), g1, g2, nI_1]
      rw [fstN] at q
      by_cases c1 : X.1 92 (30 * b + 3 * r) = d
      · by_cases c2 : X.1 92 (30 * b + 3 * r + 1) &&& (m ^^^ (-1 : Int32)) = 0
        · rw [if_pos (show hitb X b d m r = true from decide_eq_true ⟨c1, c2⟩)] at q
          exact br_t c1 ⟨vr, br_t c2 q⟩
        · rw [if_neg (show ¬ hitb X b d m r = true from fun z => c2 (of_decide_eq_true z).2)] at q
          exact br_t c1 ⟨vr, br_f c2 (ih _ (by omega) q)⟩
      · rw [if_neg (show ¬ hitb X b d m r = true from fun z => c1 (of_decide_eq_true z).1)] at q
        exact br_f c1 (ih _ (by omega) q)
  exact ⟨_, go (nR X b) 0 (by omega) q⟩
def telB : Option (Nat × Nat) → Int32
  | none => -9
  | some p => nI p.1
def telW : Option (Nat × Nat) → Int32
  | none => -9
  | some p => nI (10 * p.1 + p.2)
def telV (X : db_St) : Option (Nat × Nat) → Int32
  | none => -9
  | some p => X.1 92 (30 * p.1 + 3 * p.2 + 2)
theorem m9_no (j : Nat) (h : j < 6) : (-9 : Int32) ≠ nI j := fun e => by
  have := nI_pos (show j < 2 ^ 31 by omega)
  rw [← e] at this
  exact this (by decide)
theorem m1_no (j : Nat) (h : j < 6) : nI 0 - 1 ≠ nI j := fun e => by
  have := nI_pos (show j < 2 ^ 31 by omega)
  rw [← e] at this
  exact this (by decide)
theorem cl_teller {X : db_St} {Q : Int32 → db_St → Prop} {d m : Int32} {b : Nat} (h : SimB 7 92 X) (hL : SimL 7 92 X) (hb : b < 6) (q : Q (telB (tel X d m 6 (b + 1))) X) : wp_X8_teller X (nI b) d m Q := by
  have go : ∀ k o i, i + k = 6 → o ≤ 6 → Q (telB (tel X d m k o)) X → wp_X8_teller_6 Q (k + 1) X d m (nI o - 1) (nI i) := by
    intro k
    induction k with
    | zero =>
      intro o i e ho q
      exact br_t (nI_le (a := 6) (by omega) (by omega)) q
    | succ k ih =>
      intro o i e ho q
      refine br_f (nI_ge (b := 6) (by omega) (by decide)) ?_
      match o, ho, q with
      | 0, _, q => exact bk_no m1_no (br_t rfl q)
      | o + 1, ho, q =>
        rw [nI_pred]
        have vo : vp_in (nI o) 6 := vp_in_nI (by omega) (by decide)
        refine bk_yes (by omega) (br_f (by decide) ⟨vo, ?_⟩)
        rw [nI_clamp (show o < 2 ^ 31 by omega)]
        refine cl_first h (by omega) ?_
        rw [tel] at q
        obtain ⟨l0, l1, l2⟩ := lnO_eq hL (show o < 6 by omega)
        cases c : fstN (hitb X o d m) (nR X o) 0 with
        | some r =>
          rw [c] at q
          have := (fstN_lt c).2.1
          have := (nR_eq h (show o < 6 by omega)).1
          exact br_f (nI_pos (by omega)) q
        | none =>
          rw [c] at q
          refine br_t (show (-9 : Int32) < 0 by decide) ⟨vo, ?_⟩
          rw [l2, nI_1]
          exact ih _ _ (by omega) l0 q
  have := go 6 (b + 1) 0 (by omega) (by omega) q
  rw [nI_pred] at this
  exact ⟨_, this⟩
theorem mo_whyOf {X : db_St} {Q : Int32 → db_St → Prop} {d m : Int32} {b : Nat} (h : SimB 7 92 X) (hL : SimL 7 92 X) (hb : b < 6) (q : Q (telW (tel X d m 6 (b + 1))) X) : wp_X11_whyOf X (nI b) d m Q := by
  have inner : ∀ (K : db_St → Int32 → Int32 → Int32 → Int32 → Prop) (o i : Nat), o < 6 → i < 7 → ∀ c r, r + c = nR X o → (∀ s, fstN (hitb X o d m) c r = some s → Q (nI (10 * o + s)) X) → (fstN (hitb X o d m) c r = none → K X d m (nI (lnO X o) - 1) (nI (i + 1))) → wp_X11_whyOf_21 K Q (c + 1) X d m (nI o) (nI i) (nI r) := by
    intro K o i ho hi c
    obtain ⟨h0, h1, h2, h3⟩ := nR_eq h ho
    obtain ⟨l0, l1, l2⟩ := lnO_eq hL ho
    have c1 : ((180 : Int32) + nI o).toNatClampNeg = 180 + o := ix_add (by decide) (by omega)
    have v1 : vp_in ((180 : Int32) + nI o) 310 := ix_in (k := 180) (by decide) (by omega) (by decide)
    have c2 : ((186 : Int32) + nI o).toNatClampNeg = 186 + o := ix_add (by decide) (by omega)
    have v2 : vp_in ((186 : Int32) + nI o) 310 := ix_in (k := 186) (by decide) (by omega) (by decide)
    induction c with
    | zero =>
      intro r e q1 q2
      refine ⟨v1, br_t ?_ ⟨v2, fun z ez => ?_⟩⟩
      · rw [c1, h1]; exact nI_le (by omega) (by omega)
      · rw [c2, l1] at ez
        rw [ez, nI_1]
        exact q2 rfl
    | succ c ih =>
      intro r e q1 q2
      refine ⟨v1, br_f ?_ ?_⟩
      · rw [c1, h1]; exact nI_ge (by omega) (by omega)
      have cg : ∀ k : Nat, k < 3 → ((30 : Int32) * nI o + (3 : Int32) * nI r + nI k).toNatClampNeg = 30 * o + 3 * r + k := fun k hk => by
        rw [show (30 : Int32) = nI 30 by decide, show (3 : Int32) = nI 3 by decide, pk_mul, pk_mul, nI_add, nI_add]; exact nI_clamp (by omega)
      have vg : ∀ k : Nat, k < 3 → vp_in ((30 : Int32) * nI o + (3 : Int32) * nI r + nI k) 310 := fun k hk => by
        rw [show (30 : Int32) = nI 30 by decide, show (3 : Int32) = nI 3 by decide, pk_mul, pk_mul, nI_add, nI_add]; exact vp_in_nI (by omega) (by decide)
      have g0 : X.1 92 ((30 : Int32) * nI o + (3 : Int32) * nI r + (0 : Int32)).toNatClampNeg = X.1 92 (30 * o + 3 * r) := congrArg (X.1 92) (cg 0 (by decide))
      have g1 : X.1 92 ((30 : Int32) * nI o + (3 : Int32) * nI r + (1 : Int32)).toNatClampNeg = X.1 92 (30 * o + 3 * r + 1) := congrArg (X.1 92) (cg 1 (by decide))
      refine ⟨vg 0 (by decide), ?_⟩
      rw [g0]
      rw [fstN] at q1 q2
      rw [nI_1]
      by_cases e1 : X.1 92 (30 * o + 3 * r) = d
      · refine br_t e1 ⟨vg 1 (by decide), ?_⟩
        rw [g1]
        by_cases e2 : X.1 92 (30 * o + 3 * r + 1) &&& (m ^^^ (-1 : Int32)) = 0
        · rw [if_pos (show hitb X o d m r = true from decide_eq_true ⟨e1, e2⟩)] at q1
          refine br_t e2 ?_
          rw [show (10 : Int32) = nI 10 by decide, pk_mul, nI_add]
          exact q1 r rfl
        · rw [if_neg (show ¬ hitb X o d m r = true from fun z => e2 (of_decide_eq_true z).2)] at q1 q2
          exact br_f e2 (ih _ (by omega) q1 q2)
      · rw [if_neg (show ¬ hitb X o d m r = true from fun z => e1 (of_decide_eq_true z).1)] at q1 q2
        exact br_f e1 (ih _ (by omega) q1 q2)
  have go : ∀ k o i, i + k = 6 → o ≤ 6 → Q (telW (tel X d m k o)) X → wp_X11_whyOf_6 Q (k + 1) X d m (nI o - 1) (nI i) := by
    intro k
    induction k with
    | zero =>
      intro o i e ho q
      exact br_t (nI_le (a := 6) (by omega) (by omega)) q
    | succ k ih =>
      intro o i e ho q
      refine br_f (nI_ge (b := 6) (by omega) (by decide)) ?_
      match o, ho, q with
      | 0, _, q => exact br_t (by decide) q
      | o + 1, ho, q =>
        rw [nI_pred]
        refine br_f (nI_pos (by omega)) ⟨_, inner _ o i (by omega) (by omega) (nR X o) 0 (by omega) (fun s es => ?_) (fun en => ?_)⟩
        · rw [tel, es] at q; exact q
        · rw [tel, en] at q
          exact ih _ _ (by omega) (lnO_eq hL (by omega)).1 q
  have := go 6 (b + 1) 0 (by omega) (by omega) q
  rw [nI_pred] at this
  exact ⟨_, this⟩
theorem cl_daysFor {X : db_St} {Q : Int32 → db_St → Prop} {d m : Int32} {b : Nat} (h : SimB 7 92 X) (hL : SimL 7 92 X) (hb : b < 6) (q : Q (telV X (tel X d m 6 (b + 1))) X) : wp_X8_daysFor X (nI b) d m Q := by
  refine cl_teller h hL hb ?_
  cases c : tel X d m 6 (b + 1) with
  | none =>
    rw [c] at q
    exact bk_no m9_no (br_t rfl q)
  | some p =>
    obtain ⟨o, r⟩ := p
    rw [c] at q
    obtain ⟨ho, hr, hf⟩ := tel_lt h hL (by omega) c
    obtain ⟨n0, _, _, n3⟩ := nR_eq h ho
    have vo : vp_in (nI o) 6 := vp_in_nI ho (by decide)
    refine bk_yes ho (br_f (by decide) ⟨vo, ?_⟩)
    rw [show telB (some (o, r)) = nI o from rfl, nI_clamp (show o < 2 ^ 31 by omega)]
    refine cl_first h ho ?_
    rw [hf]
    refine br_f (nI_pos (by omega)) (br_f (nI_ge (b := 10) (by omega) (by decide)) ⟨vo, vp_in_nI (by omega) (by decide), ?_⟩)
    show Q (X.1 (8 + 1 + 4 * o + 3) (nI r).toNatClampNeg) X
    rw [nI_clamp (show r < 2 ^ 31 by omega), (n3 r hr).2.2.1]
    exact q
theorem mo_owesOf {X : db_St} {Q : Int32 → db_St → Prop} {d m : Int32} {b : Nat} (h : SimB 7 92 X) (hL : SimL 7 92 X) (hb : b < 6) (q : Q (telV X (tel X d m 6 (b + 1))) X) : wp_X11_owesOf X (nI b) d m Q := by
  refine mo_whyOf h hL hb ?_
  cases c : tel X d m 6 (b + 1) with
  | none =>
    rw [c] at q
    exact br_f (show ¬ (0 : Int32) ≤ -9 by decide) q
  | some p =>
    obtain ⟨o, r⟩ := p
    rw [c] at q
    obtain ⟨ho, hr, hf⟩ := tel_lt h hL (by omega) c
    obtain ⟨n0, _, _, n3⟩ := nR_eq h ho
    show (0 ≤ nI (10 * o + r) → _) ∧ _
    refine br_t (nI_pos' (by omega)) ?_
    show wp_X11_get X (nI (10 * o + r) / (10 : Int32)) (nI (10 * o + r) - nI (10 * o + r) / (10 : Int32) * (10 : Int32)) (2 : Int32) Q
    rw [show (10 : Int32) = nI 10 by decide, pk_rem (by omega) (by decide) (by decide), pk_div (by omega) (by decide) (by decide), show (10 * o + r) / 10 = o by omega, show (10 * o + r) % 10 = r by omega]
    unfold wp_X11_get
    rw [show (30 : Int32) = nI 30 by decide, show (3 : Int32) = nI 3 by decide, show (2 : Int32) = nI 2 by decide, pk_mul, pk_mul, nI_add, nI_add]
    refine ⟨vp_in_nI (by omega) (by decide), ?_⟩
    rw [nI_clamp (by omega)]
    exact q
theorem op_5 {xs : Nat → Int32} {x3 : Int32} {X : db_St} (h : Sim X) : lc_5 xs x3 Sim X := by
  unfold lc_5
  generalize xs ((x3 + (1 : Int32))).toNatClampNeg = a
  generalize xs ((x3 + (2 : Int32))).toNatClampNeg = d
  generalize xs ((x3 + (3 : Int32))).toNatClampNeg = m
  unfold wp_X10_owes wp_X11_owes
  rcases db_cs a 6 with ⟨j, hj, rfl⟩ | ha
  rotate_left
  · exact bk_no ha (br_t rfl (rf_c1 (mb_no ha (br_t rfl (rf_m1 (br_t rfl (sim_ref h)))))))
  refine bk_yes hj (br_f (by decide) ?_)
  rcases dd_cs d m with ⟨i, k, hi, hk, rfl, rfl⟩ | hn
  · exact dd_yes hi hk (br_f (by decide) (cl_daysFor h.2.2.2.1.1 h.2.2.2.1.2.1 hj (mb_yes hj (br_f (by decide) (md_yes hi hk (br_f (by decide) (mo_owesOf h.2.2.2.1.1 h.2.2.2.1.2.1 hj (br_t rfl h))))))))
  · exact dd_no hn (br_t rfl (rf_c1 (mb_yes hj (br_f (by decide) (md_no hn (br_t rfl (rf_m1 (br_t rfl (sim_ref h)))))))))
theorem op_6 {xs : Nat → Int32} {x3 : Int32} {X : db_St} (h : Sim X) : lc_6 xs x3 Sim X := by
  unfold lc_6
  generalize xs ((x3 + (1 : Int32))).toNatClampNeg = a
  generalize xs ((x3 + (2 : Int32))).toNatClampNeg = d
  generalize xs ((x3 + (3 : Int32))).toNatClampNeg = m
  unfold wp_X10_why wp_X11_why
  rcases db_cs a 6 with ⟨j, hj, rfl⟩ | ha
  rotate_left
  · exact bk_no ha (br_t rfl (rf_c1 (mb_no ha (br_t rfl (rf_m1 (br_t rfl (sim_ref h)))))))
  refine bk_yes hj (br_f (by decide) ?_)
  rcases dd_cs d m with ⟨i, k, hi, hk, rfl, rfl⟩ | hn
  rotate_left
  · exact dd_no hn (br_t rfl (rf_c1 (mb_yes hj (br_f (by decide) (md_no hn (br_t rfl (rf_m1 (br_t rfl (sim_ref h)))))))))
  have hB := h.2.2.2.1.1
  have hL := h.2.2.2.1.2.1
  have mo : ∀ r, r = telW (tel X (nI i) (nI k) 6 (j + 1)) → wp_X11_isBook X (nI j) (fun r1 X1 => ((r1 = 0 → wp_X11_refuse X1 (-1 : Int32) (fun r2 X2 => (r = r2 → Sim X2) ∧ (¬ r = r2 → False))) ∧ (¬ (r1 = 0) → wp_X11_isDeed X1 (nI i) (nI k) (fun r3 X3 => ((r3 = 0 → wp_X11_refuse X3 (-1 : Int32) (fun r4 X4 => (r = r4 → Sim X4) ∧ (¬ r = r4 → False))) ∧ (¬ (r3 = 0) → wp_X11_whyOf X3 (nI j) (nI i) (nI k) (fun r5 X5 => (r = r5 → Sim X5) ∧ (¬ r = r5 → False)))))))) := fun r e =>
    mb_yes hj (br_f (by decide) (md_yes hi hk (br_f (by decide) (mo_whyOf hB hL hj (br_t e h)))))
  refine dd_yes hi hk (br_f (by decide) (cl_teller hB hL hj ?_))
  cases c : tel X (nI i) (nI k) 6 (j + 1) with
  | none => exact bk_no m9_no (br_t rfl (mo _ (by rw [c]; rfl)))
  | some p =>
    obtain ⟨o, r⟩ := p
    obtain ⟨ho, hr, hf⟩ := tel_lt hB hL (by omega) c
    refine bk_yes ho (br_f (by decide) ⟨vp_in_nI ho (by decide), ?_⟩)
    rw [show telB (some (o, r)) = nI o from rfl, nI_clamp (show o < 2 ^ 31 by omega)]
    refine cl_first hB ho ?_
    rw [hf]
    refine mo _ ?_
    rw [c]
    show (10 : Int32) * nI o + nI r = nI (10 * o + r)
    rw [show (10 : Int32) = nI 10 by decide, pk_mul, nI_add]
