/-! rule: what stands on the tape -/
def sg (i : Nat) : Nat := if i = 0 then 98 else if i = 1 then 100 else if i = 2 then 109 else 114
def cm (c : Nat → Nat) : Nat → Nat → Nat → Nat → Nat × Nat
  | 0, _, p, m => (p, m)
  | k + 1, i, p, m => if c p = sg i then cm c k (i + 1) (p + 1) (m + 2 ^ i) else cm c k (i + 1) p m
def cd (c : Nat → Nat) : Nat → Nat → Nat → Nat → Nat × Nat × Nat
  | 0, n, p, y => (n, p, y)
  | k + 1, n, p, y => if 48 ≤ c p ∧ c p ≤ 57 then cd c k (n + 1) (p + 1) (10 * y + c p - 48) else (n, p, y)
def psr (c : Nat → Nat) (t : Nat) : Sum Nat (Nat × Nat × Nat) :=
  if ¬ (97 ≤ c 0 ∧ c 0 ≤ 104) then .inl 0
  else if ¬ c (cm c 4 0 1 0).1 = 58 then .inl (cm c 4 0 1 0).1
  else if (cd c 3 0 ((cm c 4 0 1 0).1 + 1) 0).1 = 0 ∨ ¬ (cd c 3 0 ((cm c 4 0 1 0).1 + 1) 0).2.1 = t then .inl (cd c 3 0 ((cm c 4 0 1 0).1 + 1) 0).2.1
  else .inr (c 0 - 97, (cm c 4 0 1 0).2, (cd c 3 0 ((cm c 4 0 1 0).1 + 1) 0).2.2)
theorem cm_le {c : Nat → Nat} : ∀ (k i p m : Nat), m < 2 ^ i → (cm c k i p m).1 ≤ p + k ∧ p ≤ (cm c k i p m).1 ∧ (cm c k i p m).2 < 2 ^ (i + k)
  | 0, i, p, m, h => ⟨Nat.le_refl _, Nat.le_refl _, h⟩
  | k + 1, i, p, m, h => by
    rw [cm]
    have e : 2 ^ (i + 1) = 2 ^ i + 2 ^ i := by rw [Nat.pow_succ]; omega
    by_cases g : c p = sg i
    · rw [if_pos g]
      have ⟨a, b, d⟩ := cm_le (c := c) k (i + 1) (p + 1) (m + 2 ^ i) (by omega)
      exact ⟨by omega, by omega, by rw [show i + (k + 1) = i + 1 + k by omega]; exact d⟩
    · rw [if_neg g]
      have ⟨a, b, d⟩ := cm_le (c := c) k (i + 1) p m (by omega)
      exact ⟨by omega, by omega, by rw [show i + (k + 1) = i + 1 + k by omega]; exact d⟩
theorem cd_le {c : Nat → Nat} : ∀ (k n p y : Nat), y < 10 ^ n → n + k ≤ 3 → (cd c k n p y).2.1 ≤ p + k ∧ (cd c k n p y).2.2 < 1000
  | 0, n, p, y, h, hn => ⟨Nat.le_refl _, Nat.lt_of_lt_of_le h (Nat.pow_le_pow_right (by decide) (show n ≤ 3 by omega))⟩
  | k + 1, n, p, y, h, hn => by
    rw [cd]
    by_cases g : 48 ≤ c p ∧ c p ≤ 57
    · rw [if_pos g]
      have ⟨a, b⟩ := cd_le (c := c) k (n + 1) (p + 1) (10 * y + c p - 48) (by rw [Nat.pow_succ]; omega) (by omega)
      exact ⟨by omega, b⟩
    · rw [if_neg g]
      exact ⟨by show p ≤ p + (k + 1); omega, Nat.lt_of_lt_of_le h (Nat.pow_le_pow_right (by decide) (show n ≤ 3 by omega))⟩
theorem or_pow : ∀ i : Fin 4, ∀ m : Fin 8, m.val < 2 ^ i.val → nI m.val ||| ((1 : Int32) <<< (nI i.val &&& 31)) = nI (m.val + 2 ^ i.val) := by decide +kernel
theorem or_pw {i m : Nat} (hi : i < 4) (hm : m < 2 ^ i) : nI m ||| ((1 : Int32) <<< (nI i &&& 31)) = nI (m + 2 ^ i) :=
  or_pow ⟨i, hi⟩ ⟨m, Nat.lt_of_lt_of_le hm (Nat.pow_le_pow_right (n := 2) (by decide) (show i ≤ 3 by omega))⟩ hm
def ChC (c : Nat → Nat) (i : Nat) (r : Int32) : Prop := (r = nI (c i) ∧ c i < 128) ∨ (r < 0 ∧ -128 ≤ r.toInt ∧ c i = 999)
def ChM (c : Nat → Nat) (i : Nat) (r : Int32) : Prop := (r = nI (c i) ∧ c i < 128) ∨ (c i = 999 ∧ (r = -1 ∨ ∃ v, 128 ≤ v ∧ v ≤ 255 ∧ r = nI v))
theorem ChC.eq {c : Nat → Nat} {i v : Nat} {r : Int32} (h : ChC c i r) (hv : v < 128) : r = nI v ↔ c i = v := by
  rcases h with ⟨e, h2⟩ | ⟨h1, h2, h3⟩
  · rw [e]; exact nI_eq (by omega) (by omega)
  · exact ⟨fun e => absurd h1 (by rw [e]; exact nI_pos (by omega)), fun e => by omega⟩
theorem ChM.eq {c : Nat → Nat} {i v : Nat} {r : Int32} (h : ChM c i r) (hv : v < 128) : r = nI v ↔ c i = v := by
  rcases h with ⟨e, h2⟩ | ⟨h1, h2⟩
  · rw [e]; exact nI_eq (by omega) (by omega)
  · refine ⟨fun e => ?_, fun e => by omega⟩
    rcases h2 with h2 | ⟨w, w1, w2, w3⟩
    · exact absurd (show ¬ nI v < 0 from nI_pos (by omega)) (by rw [← e, h2]; decide)
    · have := (nI_eq (by omega) (by omega)).mp (e.symm.trans w3); omega
def HC (X : db_St) (c : Nat → Nat) (t : Nat) : Prop := t ≤ 16 ∧ X.1 2 1 = nI t ∧ (∀ i, i < t → ChC c i (X.1 3 i)) ∧ ∀ i, t ≤ i → c i = 999
def HM (X : db_St) (c : Nat → Nat) (t : Nat) : Prop := t ≤ 16 ∧ X.1 90 5 = nI t ∧ (∀ i, i < t → ChM c i (X.1 94 i)) ∧ ∀ i, t ≤ i → c i = 999
theorem cl_at {X : db_St} {Q : Int32 → db_St → Prop} {c : Nat → Nat} {t i : Nat} {x : Int32} (h : HC X c t) (hi : i < 100) (e : x = nI i) (q : ∀ r, ChC c i r → Q r X) : wp_X2_at 2 16 X x Q := by
  obtain ⟨h0, h1, h2, h3⟩ := h
  subst e
  refine br_f (nI_pos (by omega)) ?_
  rw [h1]
  by_cases g : t ≤ i
  · exact br_t (nI_le g (by omega)) (q _ (Or.inr ⟨by decide, by decide, h3 i g⟩))
  · refine br_f (nI_ge (by omega) (by omega)) ⟨vp_in_nI (by omega) (by decide), ?_⟩
    rw [nI_clamp (by omega)]
    exact q _ (h2 i (by omega))
theorem mo_sign {X : db_St} {Q : Int32 → db_St → Prop} {c : Nat → Nat} {t i : Nat} (h : HM X c t) (hi : i < 100) (e : X.1 90 6 = nI i) (q : ∀ r, ChM c i r → Q r X) : wp_X11_sign X Q := by
  obtain ⟨h0, h1, h2, h3⟩ := h
  unfold wp_X11_sign
  rw [e, h1]
  by_cases g : t ≤ i
  · exact br_f (nI_nlt g (by omega)) (q _ (Or.inr ⟨h3 i g, Or.inl rfl⟩))
  · refine br_t (nI_lt (by omega) (by omega)) ⟨vp_in_nI (by omega) (by decide), ?_⟩
    rw [nI_clamp (by omega)]
    exact q _ (h2 i (by omega))
/-- only the cell 6 has changed -/
def O6 (X Y : db_St) : Prop := ∀ a j, a ≠ 6 → Y.1 a j = X.1 a j
theorem HC.o6 {X Y : db_St} {c : Nat → Nat} {t : Nat} (h : HC X c t) (o : O6 X Y) : HC Y c t := by
  obtain ⟨h0, h1, h2, h3⟩ := h
  exact ⟨h0, (o 2 1 (by decide)).trans h1, fun i hi => by rw [o 3 i (by decide)]; exact h2 i hi, h3⟩
theorem O6.si {X Y Z : db_St} {j : Nat} {v : Int32} (o : O6 X Y) (e : Z = db_si Y 6 j v) : O6 X Z := fun a i h => by rw [e, db_si_na h]; exact o a i h
theorem cl_deed {X : db_St} {Q : Int32 → db_St → Prop} {c : Nat → Nat} {t : Nat} (h : HC X c t) (e : X.1 6 1 = nI 0) (q0 : ¬ (97 ≤ c 0 ∧ c 0 ≤ 104) → ∀ Y, O6 X Y → Y.1 6 1 = nI 0 → Q 0 Y) (q1 : 97 ≤ c 0 ∧ c 0 ≤ 104 → ∀ Y, O6 X Y → Y.1 6 1 = nI 1 → Y.1 6 2 = nI (c 0 - 97) → Q 1 Y) : wp_X7_readDeed X Q := by
  refine cl_at h (i := 0) (by decide) e (fun r hr Y eY => ?_)
  have oY : O6 X Y := O6.si (fun _ _ _ => rfl) eY
  have y1 : Y.1 6 1 = nI 0 := by rw [eY, db_si_nb (by decide), e]
  have y2 : Y.1 6 2 = r - 97 := by rw [eY, db_si_hit]
  rw [y2]
  rcases hr with ⟨er, h2⟩ | ⟨h1, h2, h3⟩
  · rw [er]
    by_cases g : 97 ≤ c 0
    · rw [show (97 : Int32) = nI 97 by decide, pk_sub g]
      refine br_f (nI_pos (by omega)) ?_
      by_cases g2 : c 0 ≤ 104
      · refine br_t (nI_lt (b := 8) (by omega) (by decide)) (fun Z eZ => q1 ⟨g, g2⟩ Z (O6.si oY eZ) ?_ ?_)
        · rw [eZ, db_si_hit, y1]; rfl
        · rw [eZ, db_si_nb (by decide), y2, er, show (97 : Int32) = nI 97 by decide, pk_sub g]
      · exact br_f (nI_nlt (b := 8) (by omega) (by omega)) (q0 (fun z => g2 z.2) Y oY y1)
    · exact br_t (pk_sneg (b := 97) (by decide) (by omega)) (q0 (fun z => g z.1) Y oY y1)
  · refine br_t ?_ (q0 (fun z => by omega) Y oY y1)
    rw [Int32.lt_iff_toInt_lt, Int32.toInt_sub, show ((97 : Int32)).toInt = 97 by decide, show ((0 : Int32)).toInt = 0 by decide]
    rw [Int32.lt_iff_toInt_lt, show ((0 : Int32)).toInt = 0 by decide] at h1
    rw [Int.bmod_eq_of_le (by omega) (by omega)]
    omega
theorem sg_gM (i : Nat) (h : i < 4) : db_gM i = nI (sg i) ∧ sg i < 128 := by
  rcases (show i = 0 ∨ i = 1 ∨ i = 2 ∨ i = 3 by omega) with rfl | rfl | rfl | rfl <;> exact ⟨by decide, by decide⟩
theorem cl_marks {X : db_St} {Q : Int32 → db_St → Prop} {c : Nat → Nat} {t : Nat} (h : HC X c t) (e : X.1 6 1 = nI 1) (q0 : ¬ c (cm c 4 0 1 0).1 = 58 → ∀ Y, O6 X Y → Y.1 6 1 = nI (cm c 4 0 1 0).1 → Q 0 Y) (q1 : c (cm c 4 0 1 0).1 = 58 → ∀ Y, O6 X Y → Y.1 6 1 = nI ((cm c 4 0 1 0).1 + 1) → Y.1 6 2 = X.1 6 2 → Y.1 6 3 = nI (cm c 4 0 1 0).2 → Q 1 Y) : wp_X7_readMarks X Q := by
  intro X1 eX1
  have go : ∀ k i p m, i + k = 4 → m < 2 ^ i → p ≤ i + 1 → ∀ Y, O6 X Y → Y.1 6 1 = nI p → Y.1 6 3 = nI m → Y.1 6 2 = X.1 6 2 → cm c k i p m = cm c 4 0 1 0 → wp_X7_readMarks_7 Q (k + 1) Y (nI i) := by
    intro k
    induction k with
    | zero =>
      intro i p m ei hm hp Y oY y1 y3 y2 ec
      refine br_t (nI_le (a := 4) (by omega) (by omega)) (cl_at (h.o6 oY) (i := p) (by omega) y1 (fun r hr => ?_))
      rw [cm] at ec
      rw [← ec] at q0 q1
      by_cases g : r = nI 58
      · refine br_t g (fun Z eZ => q1 ((hr.eq (by decide)).mp g) Z (O6.si oY eZ) ?_ ?_ ?_)
        · rw [eZ, db_si_hit, y1, nI_1]
        · rw [eZ, db_si_nb (by decide), y2]
        · rw [eZ, db_si_nb (by decide), y3]
      · exact br_f g (q0 (fun z => g ((hr.eq (by decide)).mpr z)) Y oY y1)
    | succ k ih =>
      intro i p m ei hm hp Y oY y1 y3 y2 ec
      have pw : 2 ^ (i + 1) = 2 ^ i + 2 ^ i := by rw [Nat.pow_succ]; omega
      obtain ⟨s1, s2⟩ := sg_gM i (by omega)
      refine br_f (nI_ge (b := 4) (by omega) (by decide)) (cl_at (h.o6 oY) (i := p) (by omega) y1 (fun r hr => ⟨vp_in_nI (by omega) (by decide), ?_⟩))
      rw [nI_clamp (show i < 2 ^ 31 by omega), s1, nI_1]
      rw [cm] at ec
      by_cases g : r = nI (sg i)
      · rw [if_pos ((hr.eq s2).mp g)] at ec
        refine br_t g (fun Z eZ W eW => ih (i + 1) (p + 1) (m + 2 ^ i) (by omega) (by omega) (by omega) W (O6.si (O6.si oY eZ) eW) ?_ ?_ ?_ ec)
        · rw [eW, db_si_hit, eZ, db_si_nb (by decide), y1, nI_1]
        · rw [eW, db_si_nb (by decide), eZ, db_si_hit, y3]; exact or_pw (by omega) hm
        · rw [eW, db_si_nb (by decide), eZ, db_si_nb (by decide), y2]
      · rw [if_neg (fun z => g ((hr.eq s2).mpr z))] at ec
        exact br_f g (ih (i + 1) p m (by omega) (by omega) (by omega) Y oY y1 y3 y2 ec)
  refine ⟨_, go 4 0 1 0 rfl (by decide) (by decide) X1 (O6.si (fun _ _ _ => rfl) eX1) ?_ ?_ ?_ rfl⟩
  · rw [eX1, db_si_nb (by decide), e]
  · rw [eX1, db_si_hit]; rfl
  · rw [eX1, db_si_nb (by decide)]
theorem cl_days {X : db_St} {Q : Int32 → db_St → Prop} {c : Nat → Nat} {t p0 : Nat} (h : HC X c t) (hp0 : p0 ≤ 10) (e : X.1 6 1 = nI p0) (q0 : (cd c 3 0 p0 0).1 = 0 → ∀ Y, O6 X Y → Y.1 6 1 = nI (cd c 3 0 p0 0).2.1 → Q 0 Y) (q1 : ¬ (cd c 3 0 p0 0).1 = 0 → ∀ Y, O6 X Y → Y.1 6 1 = nI (cd c 3 0 p0 0).2.1 → Y.1 6 2 = X.1 6 2 → Y.1 6 3 = X.1 6 3 → Y.1 6 4 = nI (cd c 3 0 p0 0).2.2 → Q 1 Y) : wp_X7_readDays X Q := by
  intro X1 eX1
  have fin : ∀ n p y, n ≤ 3 → ∀ Y, O6 X Y → Y.1 6 1 = nI p → Y.1 6 4 = nI y → Y.1 6 2 = X.1 6 2 → Y.1 6 3 = X.1 6 3 → (n, p, y) = cd c 3 0 p0 0 → ((nI n ≤ 0 → Q (0 : Int32) Y) ∧ (¬ (nI n ≤ 0) → Q (1 : Int32) Y)) := by
    intro n p y hn Y oY y1 y4 y2 y3 ec
    rw [← ec] at q0 q1
    by_cases g : n = 0
    · exact br_t (by rw [g]; decide) (q0 g Y oY y1)
    · exact br_f (nI_nle (by omega) (by omega)) (q1 g Y oY y1 y2 y3 y4)
  have go : ∀ k n p y, n + k = 3 → p = p0 + n → ∀ Y, O6 X Y → Y.1 6 1 = nI p → Y.1 6 4 = nI y → Y.1 6 2 = X.1 6 2 → Y.1 6 3 = X.1 6 3 → cd c k n p y = cd c 3 0 p0 0 → wp_X7_readDays_7 Q (k + 1) Y (nI n) := by
    intro k
    induction k with
    | zero =>
      intro n p y en ep Y oY y1 y4 y2 y3 ec
      exact br_t (nI_le (a := 3) (by omega) (by omega)) (fin n p y (by omega) Y oY y1 y4 y2 y3 ec)
    | succ k ih =>
      intro n p y en ep Y oY y1 y4 y2 y3 ec
      refine br_f (nI_ge (b := 3) (by omega) (by decide)) (cl_at (h.o6 oY) (i := p) (by omega) y1 (fun r hr => ?_))
      rw [cd] at ec
      have no : ∀ R : Int32 → db_St → Prop, ¬ (48 ≤ c p ∧ c p ≤ 57) → R 0 Y → wp_X7_isDigit Y r R := by
        intro R g k
        rcases hr with ⟨er, h2⟩ | ⟨h1, _, _⟩
        · rw [er]
          by_cases g1 : 48 ≤ c p
          · exact br_f (nI_nlt (b := 48) g1 (by omega)) (br_t (nI_lt (a := 57) (by omega) (by omega)) k)
          · exact br_t (nI_lt (b := 48) (by omega) (by decide)) k
        · exact br_t (Int32.lt_trans h1 (by decide)) k
      by_cases g : 48 ≤ c p ∧ c p ≤ 57
      · rw [if_pos g] at ec
        have yes : ∀ (r : Int32), ChC c p r → r = nI (c p) := fun r hr => by
          rcases hr with ⟨er, h2⟩ | ⟨_, _, h3⟩
          · exact er
          · omega
        rw [yes r hr]
        refine br_f (nI_nlt (b := 48) g.1 (by omega)) (br_f (nI_nlt (a := 57) g.2 (by decide)) (br_f (by decide) (cl_at (h.o6 oY) (i := p) (by omega) y1 (fun r2 hr2 Z eZ W eW => ?_))))
        rw [yes r2 hr2, y4, show (10 : Int32) = nI 10 by decide, pk_mul, nI_add, show (48 : Int32) = nI 48 by decide, pk_sub (by omega)] at eZ
        rw [nI_1]
        refine ih (n + 1) (p + 1) _ (by omega) (by omega) W (O6.si (O6.si oY eZ) eW) ?_ ?_ ?_ ?_ ec
        · rw [eW, db_si_hit, eZ, db_si_nb (by decide), y1, nI_1]
        · rw [eW, db_si_nb (by decide), eZ, db_si_hit]
        · rw [eW, db_si_nb (by decide), eZ, db_si_nb (by decide), y2]
        · rw [eW, db_si_nb (by decide), eZ, db_si_nb (by decide), y3]
      · rw [if_neg g] at ec
        exact no _ g (br_t rfl (fin n p y (by omega) Y oY y1 y4 y2 y3 ec))
  refine ⟨_, go 3 0 p0 0 rfl rfl X1 (O6.si (fun _ _ _ => rfl) eX1) ?_ ?_ ?_ ?_ rfl⟩
  · rw [eX1, db_si_nb (by decide), e]
  · rw [eX1, db_si_hit]; rfl
  · rw [eX1, db_si_nb (by decide)]
  · rw [eX1, db_si_nb (by decide)]
theorem O6.trans {X Y Z : db_St} (h : O6 X Y) (g : O6 Y Z) : O6 X Z := fun a j n => (g a j n).trans (h a j n)
theorem cl_read {X : db_St} {Q : Int32 → db_St → Prop} {c : Nat → Nat} {t : Nat} (h : HC X c t) (q0 : ∀ p, psr c t = .inl p → ∀ Y, O6 X Y → Y.1 6 1 = nI p → Q 0 Y) (q1 : ∀ d m y, psr c t = .inr (d, m, y) → ∀ Y, O6 X Y → Y.1 6 2 = nI d → Y.1 6 3 = nI m → Y.1 6 4 = nI y → Q 1 Y) : wp_X7_read X Q := by
  intro A eA
  have oA : O6 X A := O6.si (fun _ _ _ => rfl) eA
  have a1 : A.1 6 1 = nI 0 := by rw [eA, db_si_hit]; rfl
  unfold psr at q0 q1
  refine cl_deed (h.o6 oA) a1 (fun g Y oY y1 => br_t rfl ?_) (fun g B oB b1 b2 => br_f (by decide) ?_)
  · rw [if_pos g] at q0
    exact q0 0 rfl Y (oA.trans oY) y1
  rw [if_neg (fun z => z g)] at q0 q1
  refine cl_marks (h.o6 (oA.trans oB)) b1 (fun g2 Y oY y1 => br_t rfl ?_) (fun g2 D oD d1 d2 d3 => br_f (by decide) ?_)
  · rw [if_pos g2] at q0
    exact q0 _ rfl Y ((oA.trans oB).trans oY) y1
  rw [if_neg (fun z => z g2)] at q0 q1
  have ⟨m1, m2, m3⟩ := cm_le (c := c) 4 0 1 0 (by decide)
  have oD2 := (oA.trans oB).trans oD
  refine cl_days (h.o6 oD2) (by omega) d1 (fun g3 Y oY y1 => br_t rfl ?_) (fun g3 F oF f1 f2 f3 f4 => br_f (by decide) ?_)
  · rw [if_pos (Or.inl g3)] at q0
    exact q0 _ rfl Y (oD2.trans oY) y1
  have hF := h.o6 (oD2.trans oF)
  unfold wp_X2_size
  rw [f1, hF.2.1]
  have ⟨c1, c2⟩ := cd_le (c := c) 3 0 ((cm c 4 0 1 0).1 + 1) 0 (by decide) (by decide)
  by_cases g4 : (cd c 3 0 ((cm c 4 0 1 0).1 + 1) 0).2.1 = t
  · rw [if_neg (fun z => z.elim g3 (fun w => w g4))] at q1
    exact br_t (by rw [g4]) (q1 _ _ _ rfl F (oD2.trans oF) (by rw [f2, d2, b2]) (by rw [f3, d3]) f4)
  · rw [if_pos (Or.inr g4)] at q0
    exact br_f (fun z => g4 ((nI_eq (by omega) (by have := hF.1; omega)).mp z)) (q0 _ rfl F (oD2.trans oF) f1)
