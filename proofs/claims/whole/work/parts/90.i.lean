/-! part and kin -/
theorem fstN_app {p : Nat → Bool} : ∀ (c d r : Nat), fstN p (c + d) r = match fstN p c r with
    | some s => some s
    | none => fstN p d (r + c)
  | 0, d, r => by rw [Nat.zero_add]; rfl
  | c + 1, d, r => by
    rw [show c + 1 + d = (c + d) + 1 by omega, fstN, fstN]
    by_cases e : p r = true
    · rw [if_pos e, if_pos e]
    · rw [if_neg e, if_neg e, fstN_app c d (r + 1), show r + 1 + c = r + (c + 1) by omega]
def unl (X : db_St) (a b i : Nat) : Bool := decide (telV X (tel X (nI (i / 16)) (nI (i % 16)) 6 (a + 1)) ≠ telV X (tel X (nI (i / 16)) (nI (i % 16)) 6 (b + 1)))
theorem cl_unlike {X : db_St} {Q : Int32 → db_St → Prop} {a b : Nat} (h : SimX 7 36 38 92 X) (ha : a < 6) (hb : b < 6) (q : Q (ofO (fstN (unl X a b) 128 0)) X) : wp_X8_firstUnlike X (nI a) (nI b) Q := by
  have go : ∀ k i, i + k = 128 → Q (ofO (fstN (unl X a b) k i)) X → wp_X8_firstUnlike_2 Q (k + 1) X (nI a) (nI b) (nI i) := by
    intro k
    induction k with
    | zero =>
      intro i e q
      exact br_t (nI_le (a := 128) (by omega) (by omega)) q
    | succ k ih =>
      intro i e q
      refine br_f (nI_ge (b := 128) (by omega) (by decide)) ?_
      rw [show (16 : Int32) = nI 16 by decide, pk_rem (by omega) (by decide) (by decide), pk_div (by omega) (by decide) (by decide)]
      refine cl_daysFor h.1 h.2.1 ha (cl_daysFor h.1 h.2.1 hb ?_)
      rw [fstN] at q
      rw [nI_1]
      by_cases c : telV X (tel X (nI (i / 16)) (nI (i % 16)) 6 (a + 1)) = telV X (tel X (nI (i / 16)) (nI (i % 16)) 6 (b + 1))
      · rw [if_neg (show ¬ unl X a b i = true from fun z => of_decide_eq_true z c)] at q
        exact br_t c (ih _ (by omega) q)
      · rw [if_pos (show unl X a b i = true from decide_eq_true c)] at q
        exact br_f c q
  exact ⟨_, go 128 0 rfl q⟩
theorem mo_unlike {X : db_St} {Q : Int32 → db_St → Prop} {a b : Nat} (h : SimX 7 36 38 92 X) (ha : a < 6) (hb : b < 6) (q : Q (ofO (fstN (unl X a b) 128 0)) X) : ∃ f_, wp_X11_part_27 Q f_ X (nI a) (nI b) (0 : Int32) := by
  have inner : ∀ (K : db_St → Int32 → Int32 → Int32 → Prop) (d : Nat), d < 8 → ∀ c m, m + c = 16 → (∀ s, fstN (unl X a b) c (16 * d + m) = some s → Q (nI s) X) → (fstN (unl X a b) c (16 * d + m) = none → K X (nI a) (nI b) (nI (d + 1))) → wp_X11_part_36 K Q (c + 1) X (nI a) (nI b) (nI d) (nI m) := by
    intro K d hd c
    induction c with
    | zero =>
      intro m e q1 q2
      refine br_t (nI_le (a := 16) (by omega) (by omega)) ?_
      rw [nI_1]
      exact q2 rfl
    | succ c ih =>
      intro m e q1 q2
      refine br_f (nI_ge (b := 16) (by omega) (by decide)) (mo_owesOf h.1 h.2.1 ha (mo_owesOf h.1 h.2.1 hb ?_))
      have d1 : (16 * d + m) / 16 = d := by omega
      have d2 : (16 * d + m) % 16 = m := by omega
      rw [fstN] at q1 q2
      rw [nI_1]
      by_cases e1 : telV X (tel X (nI d) (nI m) 6 (a + 1)) = telV X (tel X (nI d) (nI m) 6 (b + 1))
      · have un : ¬ unl X a b (16 * d + m) = true := fun z => of_decide_eq_true z (by rw [d1, d2]; exact e1)
        rw [if_neg un] at q1 q2
        exact br_t e1 (ih _ (by omega) q1 q2)
      · have un : unl X a b (16 * d + m) = true := decide_eq_true (by rw [d1, d2]; exact e1)
        rw [if_pos un] at q1
        refine br_f e1 ?_
        rw [show (16 : Int32) = nI 16 by decide, pk_mul, nI_add]
        exact q1 _ rfl
  have go : ∀ k d, d + k = 8 → Q (ofO (fstN (unl X a b) (16 * k) (16 * d))) X → wp_X11_part_27 Q (k + 1) X (nI a) (nI b) (nI d) := by
    intro k
    induction k with
    | zero =>
      intro d e q
      exact br_t (nI_le (a := 8) (by omega) (by omega)) q
    | succ k ih =>
      intro d e q
      rw [show 16 * (k + 1) = 16 + 16 * k by omega, fstN_app] at q
      refine br_f (nI_ge (b := 8) (by omega) (by decide)) ⟨_, inner _ d (by omega) 16 0 rfl (fun s es => ?_) (fun en => ?_)⟩
      · rw [show 16 * d = 16 * d + 0 from rfl, es] at q; exact q
      · rw [show 16 * d = 16 * d + 0 from rfl, en] at q
        exact ih _ (by omega) q
  exact ⟨_, go 8 0 rfl q⟩
theorem op_24 {xs : Nat → Int32} {x3 : Int32} {X : db_St} (h : Sim X) : lc_24 xs x3 Sim X := by
  unfold lc_24
  generalize xs ((x3 + (1 : Int32))).toNatClampNeg = a
  generalize xs ((x3 + (2 : Int32))).toNatClampNeg = b
  unfold wp_X10_part wp_X11_part
  rcases db_cs a 6 with ⟨i, hi, rfl⟩ | ha
  rotate_left
  · exact bk_no ha (br_t rfl (rf_c1 (mb_no ha (br_t rfl (rf_m1 (br_t rfl (sim_ref h)))))))
  rcases db_cs b 6 with ⟨j, hj, rfl⟩ | hb
  rotate_left
  · exact bk_yes hi (br_f (by decide) (bk_no hb (br_t rfl (rf_c1 (mb_yes hi (br_f (by decide) (mb_no hb (br_t rfl (rf_m1 (br_t rfl (sim_ref h)))))))))))
  refine bk_yes hi (br_f (by decide) (bk_yes hj (br_f (by decide) ?_)))
  by_cases e : nI i = nI j
  · exact br_t e (rf_c1 (mb_yes hi (br_f (by decide) (mb_yes hj (br_f (by decide) (br_t e (rf_m1 (br_t rfl (sim_ref h)))))))))
  · exact br_f e (cl_unlike h.2.2.2.1 hi hj (mb_yes hi (br_f (by decide) (mb_yes hj (br_f (by decide) (br_f e (mo_unlike h.2.2.2.1 hi hj (br_t rfl h))))))))
def sameR (X : db_St) (o : Nat) (d m y : Int32) (r : Nat) : Bool := decide (X.1 92 (30 * o + 3 * r) = d ∧ X.1 92 (30 * o + 3 * r + 1) = m ∧ X.1 92 (30 * o + 3 * r + 2) = y)
def hasR (X : db_St) (o b r : Nat) : Option Nat := fstN (sameR X o (X.1 92 (30 * b + 3 * r)) (X.1 92 (30 * b + 3 * r + 1)) (X.1 92 (30 * b + 3 * r + 2))) (nR X o) 0
def isS : Option Nat → Nat
  | none => 0
  | some _ => 1
theorem cl_has {X : db_St} {Q : Int32 → db_St → Prop} {d m y : Int32} {o : Nat} (h : SimB 7 92 X) (ho : o < 6) (q : Q (nI (isS (fstN (sameR X o d m y) (nR X o) 0))) X) : wp_X0_has (8 + 1 + 4 * o) X d m y Q := by
  obtain ⟨h0, h1, h2, h3⟩ := nR_eq h ho
  have go : ∀ k r, r + k = nR X o → Q (nI (isS (fstN (sameR X o d m y) k r))) X → wp_X0_has_3 (8 + 1 + 4 * o) Q (k + 1) X d m y (nI r) := by
    intro k
    induction k with
    | zero =>
      intro r e q
      refine br_t ?_ q
      rw [h2]
      exact nI_le (by omega) (by omega)
    | succ k ih =>
      intro r e q
      obtain ⟨g1, g2, g3, _⟩ := h3 r (by omega)
      have vr : vp_in (nI r) 10 := vp_in_nI (by omega) (by decide)
      refine br_f (by rw [h2]; exact nI_ge (by omega) (by omega)) ⟨vr, ?_⟩
      rw [nI_clamp (show r < 2 ^ 31 by omega), g1, g2, g3, nI_1]
      rw [fstN] at q
      by_cases c1 : X.1 92 (30 * o + 3 * r) = d
      · by_cases c2 : X.1 92 (30 * o + 3 * r + 1) = m
        · by_cases c3 : X.1 92 (30 * o + 3 * r + 2) = y
          · rw [if_pos (show sameR X o d m y r = true from decide_eq_true ⟨c1, c2, c3⟩)] at q
            exact br_t c1 ⟨vr, br_t c2 ⟨vr, br_t c3 q⟩⟩
          · rw [if_neg (show ¬ sameR X o d m y r = true from fun z => c3 (of_decide_eq_true z).2.2)] at q
            exact br_t c1 ⟨vr, br_t c2 ⟨vr, br_f c3 (ih _ (by omega) q)⟩⟩
        · rw [if_neg (show ¬ sameR X o d m y r = true from fun z => c2 (of_decide_eq_true z).2.1)] at q
          exact br_t c1 ⟨vr, br_f c2 (ih _ (by omega) q)⟩
      · rw [if_neg (show ¬ sameR X o d m y r = true from fun z => c1 (of_decide_eq_true z).1)] at q
        exact br_f c1 (ih _ (by omega) q)
  exact ⟨_, go (nR X o) 0 (by omega) q⟩
theorem mo_has {X : db_St} {Q : Int32 → db_St → Prop} {o b r : Nat} (h : SimB 7 92 X) (ho : o < 6) (hb : b < 6) (hr : r < 10) (q : Q (nI (isS (hasR X o b r))) X) : wp_X11_has X (nI o) (nI b) (nI r) Q := by
  obtain ⟨h0, h1, h2, h3⟩ := nR_eq h ho
  have c1 : ((180 : Int32) + nI o).toNatClampNeg = 180 + o := ix_add (by decide) (by omega)
  have v1 : vp_in ((180 : Int32) + nI o) 310 := ix_in (k := 180) (by decide) (by omega) (by decide)
  have get : ∀ (u s k : Nat) (R : Int32 → db_St → Prop), u < 6 → s < 10 → k < 3 → R (X.1 92 (30 * u + 3 * s + k)) X → wp_X11_get X (nI u) (nI s) (nI k) R := by
    intro u s k R hu hs hk p
    unfold wp_X11_get
    rw [show (30 : Int32) = nI 30 by decide, show (3 : Int32) = nI 3 by decide, pk_mul, pk_mul, nI_add, nI_add]
    refine ⟨vp_in_nI (by omega) (by decide), ?_⟩
    rw [nI_clamp (by omega)]
    exact p
  have go : ∀ k s, s + k = nR X o → Q (nI (isS (fstN (sameR X o (X.1 92 (30 * b + 3 * r)) (X.1 92 (30 * b + 3 * r + 1)) (X.1 92 (30 * b + 3 * r + 2))) k s))) X → wp_X11_has_3 Q (k + 1) X (nI o) (nI b) (nI r) (nI s) := by
    intro k
    induction k with
    | zero =>
      intro s e q
      refine ⟨v1, br_t ?_ q⟩
      rw [c1, h1]
      exact nI_le (by omega) (by omega)
    | succ k ih =>
      intro s e q
      refine ⟨v1, br_f ?_ ?_⟩
      · rw [c1, h1]; exact nI_ge (by omega) (by omega)
      rw [fstN] at q
      rw [nI_1]
      refine get o s 0 _ ho (by omega) (by decide) (get b r 0 _ hb hr (by decide) ?_)
      by_cases c1 : X.1 92 (30 * o + 3 * s) = X.1 92 (30 * b + 3 * r)
      · refine br_t c1 (get o s 1 _ ho (by omega) (by decide) (get b r 1 _ hb hr (by decide) ?_))
        by_cases c2 : X.1 92 (30 * o + 3 * s + 1) = X.1 92 (30 * b + 3 * r + 1)
        · refine br_t c2 (get o s 2 _ ho (by omega) (by decide) (get b r 2 _ hb hr (by decide) ?_))
          by_cases c3 : X.1 92 (30 * o + 3 * s + 2) = X.1 92 (30 * b + 3 * r + 2)
          · rw [if_pos (show sameR X o _ _ _ s = true from decide_eq_true ⟨c1, c2, c3⟩)] at q
            exact br_t c3 q
          · rw [if_neg (show ¬ sameR X o _ _ _ s = true from fun z => c3 (of_decide_eq_true z).2.2)] at q
            exact br_f c3 (ih _ (by omega) q)
        · rw [if_neg (show ¬ sameR X o _ _ _ s = true from fun z => c2 (of_decide_eq_true z).2.1)] at q
          exact br_f c2 (ih _ (by omega) q)
      · rw [if_neg (show ¬ sameR X o _ _ _ s = true from fun z => c1 (of_decide_eq_true z).1)] at q
        exact br_f c1 (ih _ (by omega) q)
  exact ⟨_, go (nR X o) 0 (by omega) q⟩
theorem isS_le (o : Option Nat) : isS o ≤ 1 := match o with
  | none => Nat.zero_le _
  | some _ => Nat.le_refl _
def alk (X : db_St) (b o : Nat) : Nat → Nat
  | 0 => 0
  | r + 1 => alk X b o r + isS (hasR X o b r)
theorem alk_le {X : db_St} {b o : Nat} : ∀ r, alk X b o r ≤ r
  | 0 => Nat.le_refl _
  | r + 1 => by rw [alk]; have := alk_le (X := X) (b := b) (o := o) r; have := isS_le (hasR X o b r); omega
theorem cl_alike {X : db_St} {Q : Int32 → db_St → Prop} {b o : Nat} (h : SimB 7 92 X) (hb : b < 6) (ho : o < 6) (q : Q (nI (alk X b o (nR X b))) X) : wp_X0_alikeIn (8 + 1 + 4 * b) (8 + 1 + 4 * o) X Q := by
  obtain ⟨h0, h1, h2, h3⟩ := nR_eq h hb
  have go : ∀ k r, r + k = nR X b → wp_X0_alikeIn_4 (8 + 1 + 4 * b) (8 + 1 + 4 * o) Q (k + 1) X (nI (alk X b o r)) (nI r) := by
    intro k
    induction k with
    | zero =>
      intro r e
      have er : r = nR X b := by omega
      subst er
      refine br_t ?_ q
      rw [h2]
      exact nI_le (by omega) (by omega)
    | succ k ih =>
      intro r e
      obtain ⟨g1, g2, g3, _⟩ := h3 r (by omega)
      have vr : vp_in (nI r) 10 := vp_in_nI (by omega) (by decide)
      refine br_f (by rw [h2]; exact nI_ge (by omega) (by omega)) ⟨vr, vr, vr, ?_⟩
      rw [nI_clamp (show r < 2 ^ 31 by omega), g1, g2, g3]
      have ih2 := ih (r + 1) (by omega)
      rw [alk] at ih2
      refine cl_has h ho ?_
      rw [nI_1, nI_1]
      show (nI (isS (hasR X o b r)) = 0 → _) ∧ (¬ nI (isS (hasR X o b r)) = 0 → _)
      rcases (show isS (hasR X o b r) = 0 ∨ isS (hasR X o b r) = 1 by have := isS_le (hasR X o b r); omega) with e | e
      · rw [e] at ih2 ⊢
        exact br_t rfl ih2
      · rw [e] at ih2 ⊢
        exact br_f (by decide) ih2
  exact ⟨_, go (nR X b) 0 (by omega)⟩
def knX (X : db_St) (b : Nat) : Nat → Int32 × Nat
  | 0 => (-9, 0)
  | o + 1 => if o = b then knX X b o else if alk X b o (nR X b) ≤ (knX X b o).2 then knX X b o else (nI o, alk X b o (nR X b))
theorem knX_le {X : db_St} {b : Nat} (h : SimB 7 92 X) (hb : b < 6) : ∀ o, (knX X b o).2 ≤ 10
  | 0 => Nat.zero_le _
  | o + 1 => by
    have i := knX_le h hb o
    have := alk_le (X := X) (b := b) (o := o) (nR X b)
    have := (nR_eq h hb).1
    rw [knX]
    by_cases e : o = b
    · rw [if_pos e]; exact i
    · rw [if_neg e]
      by_cases c : alk X b o (nR X b) ≤ (knX X b o).2
      · rw [if_pos c]; exact i
      · rw [if_neg c]; show alk X b o (nR X b) ≤ 10; omega
theorem cl_nearest {X : db_St} {Q : Int32 → db_St → Prop} {b : Nat} (h : SimB 7 92 X) (hb : b < 6) (q : Q (knX X b 6).1 X) : wp_X8_nearest X (nI b) Q := by
  have go : ∀ k o, o + k = 6 → wp_X8_nearest_8 Q (k + 1) X (nI b) (knX X b o).1 (nI (knX X b o).2) (nI o) := by
    intro k
    induction k with
    | zero =>
      intro o e
      have : o = 6 := by omega
      subst this
      exact br_t (by decide) q
    | succ k ih =>
      intro o e
      have l0 := knX_le h hb o
      have l1 := alk_le (X := X) (b := b) (o := o) (nR X b)
      have l2 := (nR_eq h hb).1
      have ih2 := ih (o + 1) (by omega)
      rw [knX] at ih2
      refine br_f (nI_ge (b := 6) (by omega) (by decide)) ?_
      rw [nI_1]
      by_cases eo : o = b
      · rw [if_pos eo] at ih2
        exact br_t (by rw [eo]) (br_t (nI_pos' (by omega)) ih2)
      · rw [if_neg eo] at ih2
        refine br_f (fun z => eo ((nI_eq (by omega) (by omega)).mp z)) ⟨vp_in_nI hb (by decide), vp_in_nI (by omega) (by decide), ?_⟩
        rw [nI_clamp (show b < 2 ^ 31 by omega), nI_clamp (show o < 2 ^ 31 by omega)]
        refine cl_alike h hb (by omega) ?_
        by_cases c : alk X b o (nR X b) ≤ (knX X b o).2
        · rw [if_pos c] at ih2
          exact br_t (nI_le c (by omega)) ih2
        · rw [if_neg c] at ih2
          exact br_f (nI_ge (by omega) (by omega)) ih2
  exact ⟨_, go 6 0 rfl⟩
theorem mo_nearest {X : db_St} {Q : Int32 → db_St → Prop} {b : Nat} (h : SimB 7 92 X) (hb : b < 6) (q : Q (knX X b 6).1 X) : ∃ f_, wp_X11_kin_21 Q f_ X (nI b) (-9 : Int32) (0 : Int32) (0 : Int32) := by
  obtain ⟨h0, h1, h2, h3⟩ := nR_eq h hb
  have c1 : ((180 : Int32) + nI b).toNatClampNeg = 180 + b := ix_add (by decide) (by omega)
  have v1 : vp_in ((180 : Int32) + nI b) 310 := ix_in (k := 180) (by decide) (by omega) (by decide)
  have go : ∀ k o, o + k = 6 → wp_X11_kin_21 Q (k + 1) X (nI b) (knX X b o).1 (nI (knX X b o).2) (nI o) := by
    intro k
    induction k with
    | zero =>
      intro o e
      have : o = 6 := by omega
      subst this
      exact br_t (by decide) q
    | succ k ih =>
      intro o e
      have l0 := knX_le h hb o
      have ih2 := ih (o + 1) (by omega)
      rw [knX] at ih2
      refine br_f (nI_ge (b := 6) (by omega) (by decide)) ?_
      by_cases eo : o = b
      · rw [if_pos eo] at ih2
        subst eo
        refine ⟨1, v1, ?_⟩
        rw [nI_1]
        by_cases c : nR X o ≤ 0
        · refine br_t ?_ (br_f (nI_nlt (b := 0) (by omega) (by omega)) ih2)
          rw [c1, h1]; exact nI_le c (by decide)
        · refine br_f ?_ (br_t rfl (br_f (nI_nlt (b := 0) (by omega) (by omega)) ih2))
          rw [c1, h1]; exact nI_ge (a := 0) (by omega) (by omega)
      · rw [if_neg eo] at ih2
        have inn : ∀ c r, r + c = nR X b → wp_X11_kin_34 (wp_X11_kin_21 Q (k + 1)) Q (c + 1) X (nI b) (knX X b o).1 (nI (knX X b o).2) (nI o) (nI (alk X b o r)) (nI r) := by
          intro c
          induction c with
          | zero =>
            intro r e2
            have er : r = nR X b := by omega
            subst er
            have l1 := alk_le (X := X) (b := b) (o := o) (nR X b)
            refine ⟨v1, br_t ?_ ?_⟩
            · rw [c1, h1]; exact nI_le (by omega) (by omega)
            rw [nI_1]
            by_cases c : alk X b o (nR X b) ≤ (knX X b o).2
            · rw [if_pos c] at ih2
              exact br_f (nI_nlt c (by omega)) ih2
            · rw [if_neg c] at ih2
              exact br_t (nI_lt (by omega) (by omega)) ih2
          | succ c ihc =>
            intro r e2
            have i3 := ihc (r + 1) (by omega)
            rw [alk] at i3
            refine ⟨v1, br_f ?_ (br_f (fun z => eo ((nI_eq (by omega) (by omega)).mp z)) (mo_has h (by omega) hb (by omega) ?_))⟩
            · rw [c1, h1]; exact nI_ge (by omega) (by omega)
            rw [nI_1]
            rcases (show isS (hasR X o b r) = 0 ∨ isS (hasR X o b r) = 1 by have := isS_le (hasR X o b r); omega) with e | e
            · rw [e] at i3 ⊢
              refine br_t rfl ?_
              rw [show (0 : Int32) = nI 0 from rfl, nI_add]
              exact i3
            · rw [e] at i3 ⊢
              refine br_f (by decide) ?_
              rw [show (1 : Int32) = nI 1 by decide, nI_add]
              exact i3
        exact ⟨_, inn (nR X b) 0 (by omega)⟩
  exact ⟨_, go 6 0 rfl⟩
theorem op_25 {xs : Nat → Int32} {x3 : Int32} {X : db_St} (h : Sim X) : lc_25 xs x3 Sim X := by
  unfold lc_25
  generalize xs ((x3 + (1 : Int32))).toNatClampNeg = a
  unfold wp_X10_kin wp_X11_kin
  rcases db_cs a 6 with ⟨j, hj, rfl⟩ | ha
  · exact bk_yes hj (br_f (by decide) (cl_nearest h.2.2.2.1.1 hj (mb_yes hj (br_f (by decide) (mo_nearest h.2.2.2.1.1 hj (br_t rfl h))))))
  · exact bk_no ha (br_t rfl (rf_c1 (mb_no ha (br_t rfl (rf_m1 (br_t rfl (sim_ref h)))))))
