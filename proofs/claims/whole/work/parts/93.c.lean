/-! rings: the class's table and its questions -/
def Hd (n : Nat) (p : Nat → Nat → Nat) (C : Nat) : Prop := ∃ B, isR n p B ∧ sub B C
theorem isR_lt {n : Nat} {p : Nat → Nat → Nat} {C : Nat} (h : isR n p C) : C < 2 ^ n := by
  obtain ⟨s, l, hl, e⟩ := h
  rw [e]; exact mk_lt (Pth_lt hl.2.2.2)
def HT (n : Nat) (p : Nat → Nat → Nat) (X : db_St) (t : Nat) : Prop := (X.1 53 t = nI 1 ∧ Hd n p t) ∨ (X.1 53 t = nI 0 ∧ ¬ Hd n p t)
theorem pow12 {n : Nat} (h : n ≤ 12) : (2 : Nat) ^ n ≤ 4096 := Nat.pow_le_pow_right (n := 2) (by decide) h
theorem clr_less {C i : Nat} (hC : C < 4096) (b : bt C i = 1) : clr C (2 ^ i) < C := by
  have le : clr C (2 ^ i) ≤ C := Nat.and_le_left
  have ne : clr C (2 ^ i) ≠ C := fun z => by
    have a := clr_tb (v := 2 ^ i) (i := i) hC
    rw [z, Nat.testBit_two_pow, decide_eq_true rfl, Bool.not_true, Bool.and_false] at a
    rw [← tb_bt] at b
    rw [a] at b
    exact absurd b (by decide)
  omega
theorem Hd_small {n : Nat} {p : Nat → Nat → Nat} {C : Nat} (hC : C < 4096) (hn : C < 2 ^ n) (r : ¬ isR n p C) (h : Hd n p C) : ∃ i, i < n ∧ bt C i = 1 ∧ Hd n p (clr C (2 ^ i)) := by
  obtain ⟨B, hB, sB⟩ := h
  by_cases all : ∀ i, C.testBit i = true → B.testBit i = true
  · have e : B = C := Nat.eq_of_testBit_eq (fun i => by
      rw [Bool.eq_iff_iff]; exact ⟨sB i, all i⟩)
    rw [e] at hB; exact absurd hB r
  · obtain ⟨i, hi⟩ := Classical.not_forall.mp all
    have hi2 := Classical.not_imp.mp hi
    refine ⟨i, ?_, (tb_bt C i).mp hi2.1, B, hB, fun j hj => ?_⟩
    · by_cases c : i < n
      · exact c
      · have := Nat.testBit_lt_two_pow (Nat.lt_of_lt_of_le hn (Nat.pow_le_pow_right (n := 2) (by decide) (show n ≤ i by omega)))
        rw [this] at hi2
        exact absurd hi2.1 (by decide)
    · rw [clr_tb hC, sB j hj, Nat.testBit_two_pow, Bool.true_and, Bool.not_eq_true', decide_eq_false_iff_not]
      intro e
      rw [e] at hi2
      exact hi2.2 hj
theorem Hd_up {n : Nat} {p : Nat → Nat → Nat} {C i : Nat} (hC : C < 4096) (h : Hd n p (clr C (2 ^ i))) : Hd n p C := by
  obtain ⟨B, hB, sB⟩ := h
  refine ⟨B, hB, fun j hj => ?_⟩
  have := sB j hj
  rw [clr_tb hC, Bool.and_eq_true] at this
  exact this.1
theorem cl_smallerHolds {X : db_St} {Q : Int32 → db_St → Prop} {n C : Nat} {p : Nat → Nat → Nat} (hO : PO X n p) (hC : C < 4096) (ht : ∀ t, t < C → HT n p X t) (q0 : (∀ i, i < n → ¬ (bt C i = 1 ∧ Hd n p (clr C (2 ^ i)))) → Q 0 X) (q1 : ∀ i, i < n → bt C i = 1 → Hd n p (clr C (2 ^ i)) → Q 1 X) : wp_X6_smallerHolds X (nI C) Q := by
  obtain ⟨n12, ok, e38, _, rows⟩ := hO
  have go : ∀ c i, i + c = n → (∀ j, j < i → ¬ (bt C j = 1 ∧ Hd n p (clr C (2 ^ j)))) → wp_X6_smallerHolds_2 Q (c + 1) X (nI C) (nI i) := by
    intro c
    induction c with
    | zero =>
      intro i e no
      have : i = n := by omega
      subst this
      exact br_t (by rw [e38]; exact nI_le (Nat.le_refl _) (by omega)) (q0 no)
    | succ c ih =>
      intro i e no
      have hi : i < n := by omega
      have next : ¬ (bt C i = 1 ∧ Hd n p (clr C (2 ^ i))) → wp_X6_smallerHolds_2 Q (c + 1) X (nI C) (nI i + (1 : Int32)) := fun z => by
        rw [nI_1]
        refine ih (i + 1) (by omega) (fun j hj => ?_)
        by_cases c2 : j = i
        · rw [c2]; exact z
        · exact no j (by omega)
      refine br_f (by rw [e38]; exact nI_ge hi (by omega)) ?_
      rw [ub12 hC (by omega)]
      by_cases b : bt C i = 1
      · have l := clr_less hC b
        rw [sh12' (by omega), nI_clr hC]
        refine br_t (by rw [b]; rfl) ⟨vp_in_nI (by omega) (by decide), ?_⟩
        rw [nI_clamp (by omega)]
        rcases ht _ l with ⟨h1, h2⟩ | ⟨h1, h2⟩
        · rw [h1]
          exact br_f (by decide) (q1 i hi b h2)
        · rw [h1]
          exact br_t (by decide) (next (fun z => h2 z.2))
      · have b0 : bt C i = 0 := by have := bt_cs C i; omega
        exact br_f (by rw [b0]; decide) (next (fun z => b z.1))
  exact ⟨_, go n 0 (by omega) (fun j hj => absurd hj (by omega))⟩
def O53 (X Y : db_St) : Prop := ∀ a j, a ≠ 53 → Y.1 a j = X.1 a j
theorem O53.po {X Y : db_St} {n : Nat} {p : Nat → Nat → Nat} (h : PO X n p) (o : O53 X Y) : PO Y n p := h.keep (fun a j _ _ => o a j (by omega)) (fun j _ _ => o 92 j (by decide))
theorem O53.same {X Y : db_St} (o : O53 X Y) : Same X Y := ⟨fun c j _ => o c j (by omega), fun c j _ _ => o c j (by omega), fun c j _ _ => o c j (by omega), fun j _ => o 90 j (by omega), fun c j _ _ => o c j (by omega), fun j => o 100 j (by omega)⟩
theorem cl_look {X : db_St} {Q : db_St → Prop} {n : Nat} {p : Nat → Nat → Nat} (hO : PO X n p) (q : ∀ Z, O53 X Z → (∀ t, t < 2 ^ n → HT n p Z t) → Q Z) : wp_X6_lookThrough X Q := by
  have n12 := hO.1
  have pn := pow12 n12
  have go : ∀ c C, C + c = 2 ^ n → ∀ A, O53 X A → (∀ t, t < C → HT n p A t) → wp_X6_lookThrough_2 Q (c + 1) A (nI C) := by
    intro c
    induction c with
    | zero =>
      intro C e A oA hA
      have hP := O53.po hO oA
      rw [show C = 2 ^ n by omega] at hA ⊢
      refine br_t (by rw [hP.2.2.1, sh12' (by omega)]; exact nI_le (Nat.le_refl _) (by omega)) (q A oA hA)
    | succ c ih =>
      intro C e A oA hA
      have hP := O53.po hO oA
      have hC : C < 4096 := by omega
      refine br_f (by rw [hP.2.2.1, sh12' (by omega)]; exact nI_ge (by omega) (by omega)) ?_
      have put : ∀ v, (v = nI 1 ∧ Hd n p C) ∨ (v = nI 0 ∧ ¬ Hd n p C) → ∀ Z, Z = db_si A 53 C v → wp_X6_lookThrough_2 Q (c + 1) Z (nI (C + 1)) := fun v hv Z eZ => by
        refine ih (C + 1) (by omega) Z (fun a j ha => by rw [eZ, db_si_na ha]; exact oA a j ha) (fun t ht => ?_)
        unfold HT
        rw [eZ]
        by_cases c2 : t = C
        · rw [c2, db_si_hit]; exact hv
        · rw [db_si_nb c2]; exact hA t (by omega)
      refine cl_smallerHolds hP hC hA (fun no => br_t rfl (cl_isRing hP hC (fun nr => br_t rfl ⟨vp_in_nI hC (by decide), fun Z eZ => ?_⟩) (fun r => br_f (by decide) ⟨vp_in_nI hC (by decide), fun Z eZ => ?_⟩))) (fun i hi b hd => br_f (by decide) ⟨vp_in_nI hC (by decide), fun Z eZ => ?_⟩)
      · rw [nI_clamp (by omega)] at eZ
        rw [nI_1]
        refine put _ (Or.inr ⟨by decide, fun z => ?_⟩) Z eZ
        obtain ⟨i, h1, h2, h3⟩ := Hd_small hC (by omega) nr z
        exact no i h1 ⟨h2, h3⟩
      · rw [nI_clamp (by omega)] at eZ
        rw [nI_1]
        exact put _ (Or.inl ⟨by decide, C, r, fun _ z => z⟩) Z eZ
      · rw [nI_clamp (by omega)] at eZ
        rw [nI_1]
        exact put _ (Or.inl ⟨by decide, Hd_up hC hd⟩) Z eZ
  exact ⟨_, go (2 ^ n) 0 (by omega) X (fun _ _ _ => rfl) (fun t ht => absurd ht (by omega))⟩
/-- the fewest bits of a family; none -/
def fwB (A : Nat → Prop) (r : Int32) : Prop := (r = -9 ∧ ∀ C, ¬ A C) ∨ ∃ b, b ≤ 28 ∧ r = nI b ∧ (∃ C, A C ∧ bcN 28 C = b) ∧ ∀ C, A C → b ≤ bcN 28 C
theorem fwB_one {A : Nat → Prop} {r s : Int32} (h : fwB A r) (g : fwB A s) : r = s := by
  rcases h with ⟨h1, h2⟩ | ⟨b, _, h1, ⟨C, h2, h3⟩, h4⟩
  · rcases g with ⟨g1, g2⟩ | ⟨b, _, g1, ⟨C, g2, g3⟩, g4⟩
    · rw [h1, g1]
    · exact absurd g2 (h2 C)
  · rcases g with ⟨g1, g2⟩ | ⟨b', _, g1, ⟨C', g2, g3⟩, g4⟩
    · exact absurd h2 (g2 C)
    · have a1 := h4 C' g2
      have a2 := g4 C h2
      rw [h1, g1, show b = b' by omega]
theorem fwB.congr {A B : Nat → Prop} {r : Int32} (h : fwB A r) (e : ∀ C, A C ↔ B C) : fwB B r := by
  rcases h with ⟨h1, h2⟩ | ⟨b, h0, h1, ⟨C, h2, h3⟩, h4⟩
  · exact Or.inl ⟨h1, fun C z => h2 C ((e C).mpr z)⟩
  · exact Or.inr ⟨b, h0, h1, ⟨C, (e C).mp h2, h3⟩, fun C z => h4 C ((e C).mpr z)⟩
theorem fwB_Hd {n : Nat} {p : Nat → Nat → Nat} {r : Int32} (h : fwB (fun C => C < 2 ^ n ∧ Hd n p C) r) : fwB (isR n p) r := by
  rcases h with ⟨h1, h2⟩ | ⟨b, h0, h1, ⟨C, h2, h3⟩, h4⟩
  · exact Or.inl ⟨h1, fun C z => h2 C ⟨isR_lt z, C, z, fun _ y => y⟩⟩
  · obtain ⟨hn, B, hB, sB⟩ := h2
    have a := h4 B ⟨isR_lt hB, B, hB, fun _ y => y⟩
    have b2 := bcN_sub 28 B C (fun i _ => sB i)
    exact Or.inr ⟨b, h0, h1, ⟨B, hB, by omega⟩, fun C z => h4 C ⟨isR_lt z, C, z, fun _ y => y⟩⟩
/-- one more of the family -/
theorem fwB_step {A : Nat → Prop} {r : Int32} {C : Nat} (h : fwB A r) : (r = -9 → fwB (fun x => A x ∨ x = C) (nI (bcN 28 C))) ∧ (∀ b, b ≤ 28 → r = nI b → (b ≤ bcN 28 C → fwB (fun x => A x ∨ x = C) r) ∧ (¬ b ≤ bcN 28 C → fwB (fun x => A x ∨ x = C) (nI (bcN 28 C)))) := by
  have l := bcN_le 28 C
  rcases h with ⟨h1, h2⟩ | ⟨b, h0, h1, ⟨D, h2, h3⟩, h4⟩
  · refine ⟨fun _ => Or.inr ⟨_, l, rfl, ⟨C, Or.inr rfl, rfl⟩, fun x z => ?_⟩, fun b hb e => absurd (h1.symm.trans e) (fun z => nI_pos (n := b) (by omega) (by rw [← z]; decide))⟩
    rcases z with z | z
    · exact absurd z (h2 x)
    · rw [z]; exact Nat.le_refl _
  · refine ⟨fun e => absurd (h1.symm.trans e) (fun z => nI_pos (n := b) (by omega) (by rw [z]; decide)), fun b' hb e => ?_⟩
    have eb : b' = b := (nI_eq (by omega) (by omega)).mp (e.symm.trans h1)
    subst eb
    refine ⟨fun c => Or.inr ⟨b', h0, h1, ⟨D, Or.inl h2, h3⟩, fun x z => ?_⟩, fun c => Or.inr ⟨_, l, rfl, ⟨C, Or.inr rfl, rfl⟩, fun x z => ?_⟩⟩
    · rcases z with z | z
      · exact h4 x z
      · rw [z]; exact c
    · rcases z with z | z
      · have := h4 x z; omega
      · rw [z]; exact Nat.le_refl _
theorem fwB_cs {A : Nat → Prop} {r : Int32} (h : fwB A r) : r = -9 ∨ ∃ b, b ≤ 28 ∧ r = nI b := by
  rcases h with ⟨h1, _⟩ | ⟨b, h0, h1, _⟩
  · exact Or.inl h1
  · exact Or.inr ⟨b, h0, h1⟩
theorem cl_shortest {X : db_St} {Q : Int32 → db_St → Prop} {n : Nat} {p : Nat → Nat → Nat} (hO : PO X n p) (q : ∀ Z r, O53 X Z → fwB (isR n p) r → Q r Z) : wp_X6_shortest X Q := by
  have n12 := hO.1
  have pn := pow12 n12
  refine cl_look hO (fun A oA hA => ?_)
  have hP := O53.po hO oA
  have go : ∀ c C, C + c = 2 ^ n → ∀ r, fwB (fun x => x < C ∧ Hd n p x) r → wp_X6_shortest_9 Q (c + 1) A r (nI C) := by
    intro c
    induction c with
    | zero =>
      intro C e r h
      rw [show C = 2 ^ n by omega] at h ⊢
      exact br_t (by rw [hP.2.2.1, sh12' (by omega)]; exact nI_le (Nat.le_refl _) (by omega)) (q A r oA (fwB_Hd h))
    | succ c ih =>
      intro C e r h
      have l := bcN_le 28 C
      have skip : ¬ Hd n p C → wp_X6_shortest_9 Q (c + 1) A r (nI C + (1 : Int32)) := fun nh => by
        rw [nI_1]
        refine ih (C + 1) (by omega) r (h.congr (fun x => ⟨fun z => ⟨by omega, z.2⟩, fun z => ⟨?_, z.2⟩⟩))
        by_cases c2 : x = C
        · rw [c2] at z; exact absurd z.2 nh
        · omega
      have add : Hd n p C → ∀ v, fwB (fun x => (x < C ∧ Hd n p x) ∨ x = C) v → wp_X6_shortest_9 Q (c + 1) A v (nI C + (1 : Int32)) := fun hh v hv => by
        rw [nI_1]
        refine ih (C + 1) (by omega) v (hv.congr (fun x => ⟨fun z => ?_, fun z => ?_⟩))
        · rcases z with z | z
          · exact ⟨by omega, z.2⟩
          · rw [z]; exact ⟨by omega, hh⟩
        · by_cases c2 : x = C
          · exact Or.inr c2
          · exact Or.inl ⟨by omega, z.2⟩
      have st := fwB_step (C := C) h
      refine br_f (by rw [hP.2.2.1, sh12' (by omega)]; exact nI_ge (by omega) (by omega)) (bc_J (by omega) ⟨vp_in_nI (by omega) (by decide), ?_⟩)
      rw [nI_clamp (by omega)]
      rcases hA C (by omega) with ⟨h1, h2⟩ | ⟨h1, h2⟩
      · rw [h1]
        refine br_f (by decide) ?_
        rcases fwB_cs h with e9 | ⟨b, hb, eb⟩
        · exact br_t e9 (add h2 _ (st.1 e9))
        · rw [eb] at st ⊢
          refine br_f (fun z => nI_pos (n := b) (by omega) (by rw [z]; decide)) ?_
          have st2 := st.2 b hb rfl
          by_cases c2 : b ≤ bcN 28 C
          · exact br_t (nI_le c2 (by omega)) (by have r := add h2 _ (st2.1 c2); exact r)
          · exact br_f (nI_ge (by omega) (by omega)) (add h2 _ (st2.2 c2))
      · rw [h1]
        exact br_t (by decide) (skip h2)
  exact ⟨_, go (2 ^ n) 0 (by omega) (-9) (Or.inl ⟨rfl, fun C z => absurd z.1 (by omega)⟩)⟩
/-- the best set so far, of those below i: ok tells which sets stop all rings -/
def stB (ok : Nat → Bool) (all : Nat) : Nat → Nat
  | 0 => all
  | i + 1 => if bcN 28 i < bcN 28 (stB ok all i) ∧ ok i = true then i else stB ok all i
theorem stB_le {ok : Nat → Bool} {all : Nat} : ∀ i, i ≤ all + 1 → stB ok all i ≤ all ∧ bcN 28 (stB ok all i) ≤ bcN 28 all
  | 0, _ => ⟨Nat.le_refl _, Nat.le_refl _⟩
  | i + 1, h => by
    have ih := stB_le (ok := ok) (all := all) i (by omega)
    rw [stB]
    by_cases c : bcN 28 i < bcN 28 (stB ok all i) ∧ ok i = true
    · rw [if_pos c]; omega
    · rw [if_neg c]; exact ih
def okS (n : Nat) (p : Nat → Nat → Nat) (ok : Nat → Bool) : Prop := ∀ C, ok C = true ↔ ∀ B, isR n p B → B &&& C ≠ 0
theorem okS_ex (n : Nat) (p : Nat → Nat → Nat) : ∃ ok, okS n p ok := ⟨fun C => @decide (∀ B, isR n p B → B &&& C ≠ 0) (Classical.propDecidable _), fun C => by simp⟩
theorem okS_Hd {n : Nat} {p : Nat → Nat → Nat} {ok : Nat → Bool} (h : okS n p ok) (hn : n ≤ 12) (C : Nat) : ok C = true ↔ ¬ Hd n p (clr (2 ^ n - 1) C) := by
  have pn := pow12 hn
  have lt : 2 ^ n - 1 < 4096 := by have : 0 < 2 ^ n := Nat.pow_pos (by decide); omega
  rw [h C]
  constructor
  · rintro g ⟨B, hB, sB⟩
    refine g B hB (Nat.eq_of_testBit_eq (fun i => ?_))
    rw [Nat.zero_testBit, Nat.testBit_and, Bool.and_eq_false_iff]
    by_cases c : B.testBit i = true
    · right
      have := sB i c
      rw [clr_tb lt, Bool.and_eq_true, Bool.not_eq_true'] at this
      exact this.2
    · left; exact Bool.eq_false_iff.mpr c
  · intro g B hB z
    refine g ⟨B, hB, fun i hi => ?_⟩
    rw [clr_tb lt, Nat.testBit_two_pow_sub_one, Bool.and_eq_true, Bool.not_eq_true']
    constructor
    · apply decide_eq_true
      by_cases c : i < n
      · exact c
      · have := Nat.testBit_lt_two_pow (Nat.lt_of_lt_of_le (isR_lt hB) (Nat.pow_le_pow_right (n := 2) (by decide) (show n ≤ i by omega)))
        rw [this] at hi; exact absurd hi (by decide)
    · have a : (B &&& C).testBit i = false := by rw [z, Nat.zero_testBit]
      rw [Nat.testBit_and, hi, Bool.true_and] at a
      exact a
theorem cl_stops {X : db_St} {Q : Int32 → db_St → Prop} {n : Nat} {p : Nat → Nat → Nat} {ok : Nat → Bool} (hO : PO X n p) (hk : okS n p ok) (q : ∀ Z, O53 X Z → Q (nI (stB ok (2 ^ n - 1) (2 ^ n - 1))) Z) : wp_X6_fewestStops X Q := by
  have n12 := hO.1
  have pn := pow12 n12
  have p0 : 0 < 2 ^ n := Nat.pow_pos (by decide)
  refine cl_look hO (fun A oA hA z2 e2 => ?_)
  have hP := O53.po hO oA
  rw [hP.2.2.1, sh12' (by omega), show nI (2 ^ n) - (1 : Int32) = nI (2 ^ n - 1) from pk_sub (b := 1) (by omega)] at e2
  rw [e2]
  have go : ∀ c C, C + c = 2 ^ n - 1 → wp_X6_fewestStops_20 Q (c + 1) A (nI (2 ^ n - 1)) (nI (stB ok (2 ^ n - 1) C)) (nI C) := by
    intro c
    induction c with
    | zero =>
      intro C e
      rw [show C = 2 ^ n - 1 by omega]
      exact br_t (nI_le (Nat.le_refl _) (by omega)) (q A oA)
    | succ c ih =>
      intro C e
      have ih2 := ih (C + 1) (by omega)
      rw [stB] at ih2
      have sl := stB_le (ok := ok) (all := 2 ^ n - 1) C (by omega)
      have b1 := bcN_le 28 C
      have b2 := bcN_le 28 (stB ok (2 ^ n - 1) C)
      have lc : clr (2 ^ n - 1) C ≤ 2 ^ n - 1 := Nat.and_le_left
      refine br_f (nI_ge (by omega) (by omega)) ?_
      rw [nI_clr (by omega), nI_1]
      refine ⟨vp_in_nI (by omega) (by decide), ?_⟩
      rw [nI_clamp (by omega)]
      have oh := okS_Hd hk n12 C
      rcases hA (clr (2 ^ n - 1) C) (by omega) with ⟨h1, h2⟩ | ⟨h1, h2⟩
      · rw [h1]
        rw [if_neg (fun z => (oh.mp z.2) h2)] at ih2
        exact br_f (by decide) ih2
      · rw [h1]
        refine br_t (by decide) (bc_J (by omega) (bc_J (by omega) ?_))
        by_cases c2 : bcN 28 C < bcN 28 (stB ok (2 ^ n - 1) C)
        · rw [if_pos ⟨c2, oh.mpr h2⟩] at ih2
          exact br_f (nI_ge (by omega) (by omega)) ih2
        · rw [if_neg (fun z => c2 z.1)] at ih2
          exact br_t (nI_le (by omega) (by omega)) ih2
  have r := go (2 ^ n - 1) 0 (by omega)
  exact ⟨_, r⟩
