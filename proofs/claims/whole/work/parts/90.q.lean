/-! the reference's course of days; soonest -/
def O98 (X Y : db_St) : Prop := ∀ a j, a ≠ 98 → Y.1 a j = X.1 a j
theorem O98.rfl {X : db_St} : O98 X X := fun _ _ _ => Eq.refl _
theorem O98.trans {X Y Z : db_St} (h : O98 X Y) (g : O98 Y Z) : O98 X Z := fun a j n => (g a j n).trans (h a j n)
theorem O98.ph {X Y : db_St} {P : Nat → Nat → Nat} {F : Nat → Nat} (h : PH X P F) (o : O98 X Y) : PH Y P F := h.keep (fun j _ _ => o 92 j (by decide)) (fun j => o 37 j (by decide)) (o 36 1 (by decide))
theorem O98.same {X Y : db_St} (o : O98 X Y) : Same X Y := ⟨fun c j _ => o c j (by omega), fun c j _ _ => o c j (by omega), fun c j _ _ => o c j (by omega), fun j _ => o 90 j (by omega), fun c j _ _ => o c j (by omega), fun j => o 100 j (by omega)⟩
theorem O98.si {X Y Z : db_St} {j : Nat} {v : Int32} (o : O98 X Y) (e : Z = db_si Y 98 j v) : O98 X Z := fun a i h => by rw [e, db_si_na h]; exact o a i h
def wkN (w u k : Nat) : Nat := if w = 1 ∨ (0 < u ∧ (k = 3 ∨ k = 5)) then 1 else 0
theorem mo_so122 {k53 : db_St → Int32 → Int32 → Int32 → Int32 → Int32 → Int32 → Prop} {Q : Int32 → db_St → Prop} {X : db_St} {P : Nat → Nat → Nat} {F : Nat → Nat} {x1 x3 x4 : Int32} {k u s pa w : Nat} (h : PH X P F) (hk : k < 6) (hs : X.1 98 k = nI s) (us : u ≤ s) (s9 : s ≤ 999) (hw : w ≤ 1) (q : ∀ Z, Z = db_si X 98 k (nI (s - u)) → k53 Z x1 (nI (pa + u * P k 0)) x3 x4 (nI (wkN w u k)) (nI (k + 1))) : wp_X11_soonestOf_122 k53 Q X x1 (nI pa) x3 x4 (nI w) (nI k) (nI u) := by
  refine ⟨vp_in_nI hk (by decide), vp_in_nI hk (by decide), fun A eA => ?_⟩
  rw [nI_clamp (by omega), hs, pk_sub us] at eA
  have hA : PH A P F := O98.ph h (O98.rfl.si eA)
  refine mo_pay hA.1 hk (i := 0) (by decide) ?_
  rw [hA.2.2.1 k 0 hk (by decide), pk_mul, nI_add, nI_1]
  have qA := q A eA
  by_cases w0 : w = 0
  · subst w0
    refine br_t rfl ?_
    by_cases u0 : u = 0
    · subst u0
      rw [show wkN 0 0 k = 0 by unfold wkN; rw [if_neg (by omega)]] at qA
      exact br_t (by decide) qA
    · refine br_f (nI_nle (by omega) (by omega)) ?_
      by_cases k3 : k = 3
      · rw [show wkN 0 u k = 1 by unfold wkN; rw [if_pos (by omega)]] at qA
        subst k3
        exact br_t rfl qA
      · refine br_f (fun z => k3 ((nI_eq (b := 3) (by omega) (by decide)).mp z)) ?_
        by_cases k5 : k = 5
        · rw [show wkN 0 u k = 1 by unfold wkN; rw [if_pos (by omega)]] at qA
          subst k5
          exact br_t rfl qA
        · rw [show wkN 0 u k = 0 by unfold wkN; rw [if_neg (by omega)]] at qA
          exact br_f (fun z => k5 ((nI_eq (b := 5) (by omega) (by decide)).mp z)) qA
  · have w1 : w = 1 := by omega
    subst w1
    rw [show wkN 1 u k = 1 by unfold wkN; rw [if_pos (by omega)]] at qA
    exact br_f (by decide) qA
theorem mo_so53 {k39 : db_St → Int32 → Int32 → Int32 → Int32 → Prop} {Q : Int32 → db_St → Prop} {n : Nat} {X : db_St} {P : Nat → Nat → Nat} {F : Nat → Nat} {f : Nat} {x1 : Int32} {d nb k pa w s : Nat} (h : PH X P F) (ef : X.1 92 309 = nI f) (hf : f ≤ 99) (hk : k < 6) (hd : d < 1000) (hn : nb ≤ 1) (hs : X.1 98 k = nI s) (s9 : s ≤ 999) (q : wp_X11_soonestOf_122 (wp_X11_soonestOf_53 k39 Q n) Q X x1 (nI pa) (nI nb) (nI d) (nI w) (nI k) (nI (if brd F d nb k then 0 else min (pdP P f k) s))) : wp_X11_soonestOf_53 k39 Q (n + 1) X x1 (nI pa) (nI nb) (nI d) (nI w) (nI k) := by
  have f01 := h.ft01 d
  have fe : ∀ R : Int32 → db_St → Prop, R (nI (F d)) X → wp_X11_isFeast X (nI d) R := fun R r => mo_isFeast h.2.1 hd (by rw [h.2.2.2 d]; exact r)
  have bd := h.bd (f := f) hk hf
  have per : ¬ brd F d nb k → vp_in (nI k) 6 ∧ wp_X11_perDay X (nI k) (fun r X' => wp_X11_lesser X' (X.1 98 (nI k).toNatClampNeg) r (fun r2 X2 => wp_X11_soonestOf_122 (wp_X11_soonestOf_53 k39 Q n) Q X2 x1 (nI pa) (nI nb) (nI d) (nI w) (nI k) r2)) := by
    intro g
    rw [if_neg g, Nat.min_comm] at q
    refine ⟨vp_in_nI hk (by decide), mo_perDay h.1 hk ef ?_⟩
    rw [h.pdq hk, nI_clamp (by omega), hs]
    exact mo_lesser (by omega) (by omega) q
  have no : brd F d nb k → wp_X11_soonestOf_122 (wp_X11_soonestOf_53 k39 Q n) Q X x1 (nI pa) (nI nb) (nI d) (nI w) (nI k) (0 : Int32) := fun g => by
    rw [if_pos g] at q; exact q
  have h80 : (k = 0 ∨ k = 5 → F d = 0) → wp_X11_soonestOf_80 (wp_X11_soonestOf_53 k39 Q n) Q X x1 (nI pa) (nI nb) (nI d) (nI w) (nI k) := by
    intro nf
    by_cases k3 : k = 3
    · refine br_t (by rw [k3]; rfl) ?_
      rcases (show nb = 0 ∨ nb = 1 by omega) with e | e
      · refine br_t (by rw [e]; rfl) (br_t rfl (per (fun z => ?_)))
        rcases of_decide_eq_true z with ⟨_, z⟩ | ⟨z, _⟩ <;> omega
      · exact br_f (by rw [e]; decide) (br_f (by decide) (no (decide_eq_true (Or.inl ⟨k3, e⟩))))
    · refine br_f (fun z => k3 ((nI_eq (b := 3) (by omega) (by decide)).mp z)) (br_t rfl (per (fun z => ?_)))
      rcases of_decide_eq_true z with ⟨z, _⟩ | ⟨z, y⟩
      · omega
      · have := nf z; omega
  refine br_f (nI_ge (b := 6) hk (by decide)) ?_
  by_cases k0 : k = 0
  · refine br_t (by rw [k0]; rfl) (fe _ ?_)
    rcases f01 with e | e
    · rw [e]; exact br_t rfl (h80 (fun _ => e))
    · rw [e]; exact br_f (by decide) (br_f (by decide) (no (decide_eq_true (Or.inr ⟨Or.inl k0, e⟩))))
  refine br_f (fun z => k0 ((nI_eq (b := 0) (by omega) (by decide)).mp z)) ?_
  by_cases k5 : k = 5
  · refine br_t (by rw [k5]; rfl) (fe _ ?_)
    rcases f01 with e | e
    · rw [e]; exact br_t rfl (h80 (fun _ => e))
    · rw [e]; exact br_f (by decide) (br_f (by decide) (no (decide_eq_true (Or.inr ⟨Or.inr k5, e⟩))))
  exact br_f (fun z => k5 ((nI_eq (b := 5) (by omega) (by decide)).mp z)) (h80 (fun z => by omega))
def RS (X : db_St) (P : Nat → Nat → Nat) (sp : Nat → Nat) : Prop := ∀ k, k < 6 → X.1 98 k = nI (P k 3 - sp k)
theorem mo_soDay {k39 : db_St → Int32 → Int32 → Int32 → Int32 → Prop} {Q : Int32 → db_St → Prop} {X : db_St} {P : Nat → Nat → Nat} {F : Nat → Nat} {f D d : Nat} (h : PH X P F) (ef : X.1 92 309 = nI f) (hf : f ≤ 99) (hd : d < 1000) (hD : D ≤ 400) (hs : RS X P (spD P F f d)) (q1 : tnD P F f (d + 1) < 10 * D → ∀ Z, O98 X Z → RS Z P (spD P F f (d + 1)) → k39 Z (nI D) (nI (tnD P F f (d + 1))) (nI (nbD P F f (d + 1))) (nI (d + 1))) (q2 : 10 * D ≤ tnD P F f (d + 1) → ∀ Z, O98 X Z → Q (nI (d + 1)) Z) : ∃ f_, wp_X11_soonestOf_53 k39 Q f_ X (nI D) (nI (tnD P F f d)) (nI (nbD P F f d)) (nI d) (0 : Int32) (0 : Int32) := by
  have go : ∀ n i, i + n = 6 → ∀ A, O98 X A → RS A P (fun j => if j < i then spD P F f d j + uu P F f d j else spD P F f d j) → wp_X11_soonestOf_53 k39 Q (n + 1) A (nI D) (nI (tnD P F f d + tnS (uu P F f d) P i)) (nI (nbD P F f d)) (nI d) (nI (if (3 < i ∧ 0 < uu P F f d 3) ∨ (5 < i ∧ 0 < uu P F f d 5) then 1 else 0)) (nI i) := by
    intro n
    induction n with
    | zero =>
      intro i e A oA rA
      have : i = 6 := by omega
      subst this
      have b := h.tn f (d + 1)
      rw [← tnD_s]
      refine br_t (by decide) ?_
      rw [show (10 : Int32) = nI 10 by decide, pk_mul, nI_1]
      by_cases g : tnD P F f (d + 1) < 10 * D
      · refine br_t (nI_lt g (by omega)) ?_
        have r := q1 g A oA (fun k hk => by rw [rA k hk]; show nI (P k 3 - (if k < 6 then _ else _)) = _; rw [if_pos hk, spD_s])
        rw [nbD_s] at r
        have e2 : (if (3 < 6 ∧ 0 < uu P F f d 3) ∨ (5 < 6 ∧ 0 < uu P F f d 5) then 1 else 0) = nbA (uu P F f d) := by
          unfold nbA
          by_cases c : 0 < uu P F f d 3 ∨ 0 < uu P F f d 5
          · rw [if_pos c, if_pos (by omega)]
          · rw [if_neg c, if_neg (by omega)]
        rw [e2]
        exact r
      · exact br_f (nI_nlt (by omega) (by omega)) (q2 (by omega) A oA)
    | succ n ih =>
      intro i e A oA rA
      have hi : i < 6 := by omega
      have hA := oA.ph h
      have b := h.bd (f := f) hi hf
      have es : A.1 98 i = nI (P i 3 - spD P F f d i) := by
        rw [rA i hi]; show nI (P i 3 - (if i < i then _ else _)) = _; rw [if_neg (Nat.lt_irrefl i)]
      have ul := uu_le P F f d i
      refine mo_so53 hA (by rw [oA 92 309 (by decide)]; exact ef) hf hi hd (nbD_le P F f d) es (by omega) ?_
      have eu : (if brd F d (nbD P F f d) i then 0 else min (pdP P f i) (P i 3 - spD P F f d i)) = uu P F f d i := rfl
      rw [eu]
      refine mo_so122 hA hi es ul.1 (by omega) (by split <;> omega) (fun Z eZ => ?_)
      have e3 : wkN (if (3 < i ∧ 0 < uu P F f d 3) ∨ (5 < i ∧ 0 < uu P F f d 5) then 1 else 0) (uu P F f d i) i = if (3 < i + 1 ∧ 0 < uu P F f d 3) ∨ (5 < i + 1 ∧ 0 < uu P F f d 5) then 1 else 0 := by
        unfold wkN
        by_cases c : (3 < i ∧ 0 < uu P F f d 3) ∨ (5 < i ∧ 0 < uu P F f d 5)
        · rw [if_pos c, if_pos (Or.inl rfl), if_pos (by omega)]
        · rw [if_neg c]
          by_cases c3 : i = 3
          · subst c3
            by_cases c4 : 0 < uu P F f d 3
            · rw [if_pos (Or.inr ⟨c4, Or.inl rfl⟩), if_pos (by omega)]
            · rw [if_neg (by omega), if_neg (by omega)]
          · by_cases c5 : i = 5
            · subst c5
              by_cases c4 : 0 < uu P F f d 5
              · rw [if_pos (Or.inr ⟨c4, Or.inr rfl⟩), if_pos (by omega)]
              · rw [if_neg (by omega), if_neg (by omega)]
            · rw [if_neg (by omega), if_neg (by omega)]
      rw [e3, Nat.add_assoc]
      refine ih (i + 1) (by omega) Z (oA.si eZ) (fun k hk => ?_)
      rw [eZ]
      show _ = nI (P k 3 - (if k < i + 1 then _ else _))
      by_cases e1 : k = i
      · rw [e1, db_si_hit, if_pos (Nat.lt_succ_self i), Nat.sub_sub]
      · rw [db_si_nb e1, rA k hk]
        show nI (P k 3 - (if k < i then _ else _)) = _
        by_cases e2 : k < i
        · rw [if_pos e2, if_pos (by omega)]
        · rw [if_neg e2, if_neg (by omega)]
  have r := go 6 0 rfl X O98.rfl (fun k hk => (hs k hk).trans (congrArg (fun z => nI (P k 3 - z)) (if_neg (Nat.not_lt_zero k)).symm))
  rw [if_neg (show ¬ ((3 < 0 ∧ 0 < uu P F f d 3) ∨ (5 < 0 ∧ 0 < uu P F f d 5)) by omega)] at r
  exact ⟨_, r⟩
theorem mo_soonestOf {Q : Int32 → db_St → Prop} {X : db_St} {P : Nat → Nat → Nat} {F : Nat → Nat} {f D : Nat} (h : PH X P F) (ef : X.1 92 309 = nI f) (hf : f ≤ 99) (hD : D ≤ 400) (q : ∀ Z, O98 X Z → Q (ofO (fstN (fun d => decide (10 * D ≤ tnD P F f d)) 401 0)) Z) : wp_X11_soonestOf X (nI D) Q := by
  by_cases D0 : D = 0
  · subst D0
    have r := q X O98.rfl
    rw [fstN, if_pos (show decide (10 * 0 ≤ tnD P F f 0) = true from decide_eq_true (Nat.zero_le _))] at r
    exact br_t rfl r
  have q' : ∀ Z, O98 X Z → Q (ofO (fstN (fun d => decide (10 * D ≤ tnD P F f d)) 400 1)) Z := by
    rw [fstN, if_neg (show ¬ decide (10 * D ≤ tnD P F f 0) = true from fun z => by have := of_decide_eq_true z; rw [tnD_0] at this; omega)] at q
    exact q
  refine br_f (nI_ne0 (by omega) (by omega)) ?_
  have days : ∀ k d, d + k = 400 → ∀ A, O98 X A → RS A P (spD P F f d) → (∀ Z, O98 X Z → Q (ofO (fstN (fun d => decide (10 * D ≤ tnD P F f d)) k (d + 1))) Z) → wp_X11_soonestOf_39 Q (k + 1) A (nI D) (nI (tnD P F f d)) (nI (nbD P F f d)) (nI d) := by
    intro k
    induction k with
    | zero =>
      intro d e A oA rA q
      have : d = 400 := by omega
      subst this
      exact br_t (by decide) (q A oA)
    | succ k ih =>
      intro d e A oA rA q
      rw [fstN] at q
      refine br_f (nI_ge (b := 400) (by omega) (by decide)) (mo_soDay (oA.ph h) (by rw [oA 92 309 (by decide)]; exact ef) hf (by omega) hD rA (fun g Z oZ rZ => ?_) (fun g Z oZ => ?_))
      · rw [if_neg (show ¬ decide (10 * D ≤ tnD P F f (d + 1)) = true from fun z => absurd (of_decide_eq_true z) (by omega))] at q
        exact ih (d + 1) (by omega) Z (oA.trans oZ) rZ q
      · rw [if_pos (show decide (10 * D ≤ tnD P F f (d + 1)) = true from decide_eq_true g)] at q
        exact q Z (oA.trans oZ)
  have fill : ∀ n i, i + n = 6 → ∀ A, O98 X A → (∀ k, k < i → A.1 98 k = nI (P k 3)) → wp_X11_soonestOf_8 Q (n + 1) A (nI D) (nI i) := by
    intro n
    induction n with
    | zero =>
      intro i e A oA rA
      have : i = 6 := by omega
      subst this
      have r := days 400 0 rfl A oA (fun k hk => rA k hk) q'
      rw [tnD_0] at r
      exact br_t (by decide) ⟨_, r⟩
    | succ n ih =>
      intro i e A oA rA
      have hi : i < 6 := by omega
      have hA := oA.ph h
      refine br_f (nI_ge (b := 6) hi (by decide)) (mo_pay hA.1 hi (i := 3) (by decide) ⟨vp_in_nI hi (by decide), fun Z eZ => ?_⟩)
      rw [nI_clamp (by omega), hA.2.2.1 i 3 hi (by decide)] at eZ
      rw [nI_1]
      refine ih (i + 1) (by omega) Z (oA.si eZ) (fun k hk => ?_)
      rw [eZ]
      by_cases e1 : k = i
      · rw [e1, db_si_hit]
      · rw [db_si_nb e1]; exact rA k (by omega)
  exact ⟨_, fill 6 0 rfl X O98.rfl (fun k hk => absurd hk (by omega))⟩
theorem Sim.ph {X : db_St} (h : Sim X) : PH X (pw X) (ft X) := ⟨h.2.2.2.1.2.2.2.2.1, h.2.2.2.1.2.2.2.2.2.1, fun _ _ _ _ => rfl, fun _ => rfl⟩
theorem op_14 {xs : Nat → Int32} {x3 : Int32} {X : db_St} (h : Sim X) : lc_14 xs x3 Sim X := by
  unfold lc_14
  generalize xs ((x3 + (1 : Int32))).toNatClampNeg = a
  unfold wp_X10_soonest wp_X11_soonest
  by_cases h0 : 0 ≤ a
  · by_cases h9 : a ≤ 400
    · obtain ⟨D, hD, rfl⟩ := nI_of2 (M := 400) (n := 400) (by decide) (Int32.not_lt.mpr h0) h9
      obtain ⟨g, k0, k1, k2⟩ := h.2.2.2.1.2.2.2.2.2.2.1
      refine br_t h0 (br_t h9 ?_)
      rw [show (10 : Int32) = nI 10 by decide, pk_mul, Nat.mul_comm D 10]
      refine cl_daysToPay h.ph k0 k1 (by omega) (fun Z oZ => wi_ok h0 h9 (br_t rfl (mo_soonestOf (oZ.ph h.ph) (by rw [oZ 92 309 (by omega)]; exact k2) k0 hD (fun V oV => br_t rfl (h.same (oZ.same.trans oV.same))))))
    · exact br_t h0 (br_f h9 (rf_c6 (wi_hi h0 h9 (br_f (by decide) (rf_m6 (br_t rfl (sim_ref h)))))))
  · exact br_f h0 (rf_c4 (wi_lo h0 (br_f (by decide) (rf_m4 (br_t rfl (sim_ref h))))))
