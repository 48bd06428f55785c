/-! a day of the course -/
def PH (X : db_St) (P : Nat → Nat → Nat) (F : Nat → Nat) : Prop := SimN 36 92 X ∧ SimF 36 92 X ∧ (∀ k i, k < 6 → i < 4 → pw X k i = P k i) ∧ ∀ d, ft X d = F d
theorem PH.keep {X Y : db_St} {P : Nat → Nat → Nat} {F : Nat → Nat} (h : PH X P F) (e1 : ∀ j, 234 ≤ j → j < 309 → Y.1 92 j = X.1 92 j) (e2 : ∀ j, Y.1 37 j = X.1 37 j) (e3 : Y.1 36 1 = X.1 36 1) : PH Y P F := by
  obtain ⟨hN, hF, hP, hf⟩ := h
  refine ⟨hN.keep e2 (fun j a b => e1 j a (by omega)), hF.keep e3 (e1 308 (by decide) (by decide)), fun k i hk hi => ?_, fun d => ?_⟩
  · rw [← hP k i hk hi]; unfold pw; rw [e1 _ (by omega) (by omega)]
  · rw [← hf d]; unfold ft; rw [e1 308 (by decide) (by decide)]
def pdP (P : Nat → Nat → Nat) (f k : Nat) : Nat := if k = 4 then f * (P 4 2 + 1) else P k 2
theorem PH.pdq {X : db_St} {P : Nat → Nat → Nat} {F : Nat → Nat} (h : PH X P F) {f k : Nat} (hk : k < 6) : pd X f k = pdP P f k := by
  unfold pd pdP
  rw [h.2.2.1 4 2 (by decide) (by decide), h.2.2.1 k 2 hk (by decide)]
theorem PH.bd {X : db_St} {P : Nat → Nat → Nat} {F : Nat → Nat} (h : PH X P F) {f k : Nat} (hk : k < 6) (hf : f ≤ 99) : pdP P f k ≤ 990 ∧ P k 3 ≤ 999 ∧ P k 0 ≤ 99 := by
  refine ⟨?_, ?_, ?_⟩
  · rw [← h.pdq hk]; exact pd_le h.1 hk hf
  · rw [← h.2.2.1 k 3 hk (by decide)]; exact (pw_eq h.1 hk (show 3 < 4 by decide)).2.2.1
  · rw [← h.2.2.1 k 0 hk (by decide)]; exact (pw_eq h.1 hk (show 0 < 4 by decide)).2.2.2.1 rfl
theorem PH.ft01 {X : db_St} {P : Nat → Nat → Nat} {F : Nat → Nat} (h : PH X P F) (d : Nat) : F d = 0 ∨ F d = 1 := by
  rw [← h.2.2.2 d]; exact ft_cs X d
def brd (F : Nat → Nat) (d nb k : Nat) : Bool := decide ((k = 3 ∧ nb = 1) ∨ ((k = 0 ∨ k = 5) ∧ F d = 1))
/-- units that may still be paid -/
def opn (P : Nat → Nat → Nat) (F : Nat → Nat) (f d nb : Nat) (td sp : Nat → Nat) (k : Nat) : Nat := if brd F d nb k then 0 else min (pdP P f k - td k) (P k 3 - sp k)
def CSt (Y : db_St) (td sp : Nat → Nat) (f d nb tn : Nat) : Prop := (∀ k, k < 6 → Y.1 44 k = nI (td k)) ∧ (∀ k, k < 6 → Y.1 45 k = nI (sp k)) ∧ Y.1 43 3 = nI f ∧ Y.1 43 4 = nI d ∧ Y.1 43 5 = nI nb ∧ Y.1 43 6 = nI tn
theorem cl_barred {Y : db_St} {Q : Int32 → db_St → Prop} {P : Nat → Nat → Nat} {F : Nat → Nat} {k d nb : Nat} (h : PH Y P F) (hk : k < 6) (hd : d < 1000) (hn : nb ≤ 1) (e4 : Y.1 43 4 = nI d) (e5 : Y.1 43 5 = nI nb) (q0 : ¬ brd F d nb k → Q 0 Y) (q1 : brd F d nb k → Q 1 Y) : wp_X3_isBarred Y (nI k) Q := by
  have fe : ∀ R : Int32 → db_St → Prop, R (nI (F d)) Y → wp_X4_isFeast Y (Y.1 43 4) R := fun R r => by
    rw [e4]; exact cl_isFeast h.2.1 hd (by rw [h.2.2.2 d]; exact r)
  have f01 := h.ft01 d
  unfold wp_X3_isBarred
  rw [e5]
  by_cases k3 : k = 3
  · subst k3
    refine br_t rfl ⟨?_, ?_⟩
    · rcases (show nb = 0 ∨ nb = 1 by omega) with rfl | rfl <;> rfl
    · rcases (show nb = 0 ∨ nb = 1 by omega) with rfl | rfl
      · exact q0 (fun z => by rcases of_decide_eq_true z with ⟨_, z⟩ | ⟨z, _⟩ <;> omega)
      · exact q1 (decide_eq_true (Or.inl ⟨rfl, rfl⟩))
  refine br_f (fun z => k3 ((nI_eq (b := 3) (by omega) (by decide)).mp z)) ?_
  by_cases k0 : k = 0
  · subst k0
    refine br_t rfl (fe _ ?_)
    rcases f01 with e | e
    · rw [e]; exact br_t rfl (q0 (fun z => by rcases of_decide_eq_true z with ⟨z, _⟩ | ⟨_, z⟩ <;> omega))
    · rw [e]; exact br_f (by decide) (q1 (decide_eq_true (Or.inr ⟨Or.inl rfl, e⟩)))
  refine br_f (fun z => k0 ((nI_eq (b := 0) (by omega) (by decide)).mp z)) ?_
  by_cases k5 : k = 5
  · subst k5
    refine br_t rfl (fe _ ?_)
    rcases f01 with e | e
    · rw [e]; exact br_t rfl (q0 (fun z => by rcases of_decide_eq_true z with ⟨z, _⟩ | ⟨_, z⟩ <;> omega))
    · rw [e]; exact br_f (by decide) (q1 (decide_eq_true (Or.inr ⟨Or.inr rfl, e⟩)))
  refine br_f (fun z => k5 ((nI_eq (b := 5) (by omega) (by decide)).mp z)) (q0 (fun z => ?_))
  rcases of_decide_eq_true z with ⟨z, _⟩ | ⟨z, _⟩ <;> omega
theorem cl_open {Y : db_St} {Q : Int32 → db_St → Prop} {P : Nat → Nat → Nat} {F : Nat → Nat} {k d nb f tn : Nat} {td sp : Nat → Nat} (h : PH Y P F) (c : CSt Y td sp f d nb tn) (hk : k < 6) (hd : d < 1000) (hn : nb ≤ 1) (hf : f ≤ 99) (ht : td k ≤ pdP P f k) (hs : sp k ≤ P k 3) (q : Q (nI (opn P F f d nb td sp k)) Y) : wp_X3_open Y (nI k) Q := by
  obtain ⟨c1, c2, c3, c4, c5, c6⟩ := c
  obtain ⟨b1, b2, b3⟩ := h.bd (f := f) hk hf
  unfold opn at q
  refine kd_yes hk (br_f (by decide) (cl_barred h hk hd hn c4 c5 (fun g => br_t rfl ?_) (fun g => br_f (by decide) ?_)))
  · rw [if_neg g] at q
    rw [c3]
    refine cl_inADay h.1 hk (f := f) ⟨vp_in_nI hk (by decide), cl_number h.1 hk (i := 3) (by decide) ⟨vp_in_nI hk (by decide), ?_⟩⟩
    rw [nI_clamp (show k < 2 ^ 31 by omega), h.pdq hk, h.2.2.1 k 3 hk (by decide), c1 k hk, c2 k hk, pk_sub ht, pk_sub hs]
    intro z ez w ew
    have e1 : z = nI (min (pdP P f k - td k) (P k 3 - sp k)) := by
      rw [ez]
      by_cases g2 : P k 3 - sp k < pdP P f k - td k
      · rw [if_pos (nI_lt g2 (by omega)), Nat.min_eq_right (by omega)]
      · rw [if_neg (nI_nlt (by omega) (by omega)), Nat.min_eq_left (by omega)]
    have e2 : w = z := by
      rw [ew]
      by_cases g2 : (0 : Int32) < z
      · rw [if_pos g2]
      · rw [if_neg g2]
        rw [e1] at g2 ⊢
        have m : min (pdP P f k - td k) (P k 3 - sp k) = 0 := by
          rcases Nat.eq_zero_or_pos (min (pdP P f k - td k) (P k 3 - sp k)) with m | m
          · exact m
          · exact absurd (nI_lt (a := 0) m (by omega)) g2
        rw [m]; rfl
    rw [e2, e1]
    exact q
  · rw [if_pos g] at q
    exact q
