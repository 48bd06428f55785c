/-! worth by putting: the best, the reference -/
def Wk (n : Nat) (p : Nat → Nat → Nat) (k m w : Nat) : Prop := ∃ S, S < 64 ∧ Wa n p S k m w
theorem cl_bestFor {X : db_St} {Q : Int32 → db_St → Prop} {n k : Nat} {p : Nat → Nat → Nat} (en : EN X (Wa n p)) (ok : OKP n p) (hk : k < 6) (q : ∀ v a b, v < 64 → X.2 51 (v * 6 + k) = lN b → (1 ≤ b → X.2 50 (v * 6 + k) = lN a) → lsF (Wk n p k) a b → Q (nI (v * 6 + k)) X) : wp_X9_bestFor X (nI k) Q := by
  have go : ∀ c u, u + c = 64 → ∀ v a b, v < 64 → X.2 51 (v * 6 + k) = lN b → (1 ≤ b → X.2 50 (v * 6 + k) = lN a) → lsF (fun m w => ∃ T, T < u ∧ Wa n p T k m w) a b → wp_X9_bestFor_4 Q (c + 1) X (nI (v * 6 + k)) (nI (u * 6 + k)) := by
    intro c
    induction c with
    | zero =>
      intro u e v a b hv e1 e2 l
      have : u = 64 := by omega
      subst this
      exact br_t (nI_le (a := 384) (by omega) (by omega)) (q v a b hv e1 e2 l)
    | succ c ih =>
      intro u e v a b hv e1 e2 l
      have vu : vp_in (nI (u * 6 + k)) 384 := vp_in_nI (by omega) (by decide)
      have vv : vp_in (nI (v * 6 + k)) 384 := vp_in_nI (by omega) (by decide)
      obtain ⟨a2, b2, f1, f2, l2⟩ := en u k (by omega) hk
      have lb := lsF_le l
      have lb2 := lsF_le l2
      have i6 : nI (u * 6 + k) + (6 : Int32) = nI ((u + 1) * 6 + k) := by
        rw [show (6 : Int32) = nI 6 by decide, nI_add]
        exact congrArg nI (by omega)
      have fam : ∀ m w, ((∃ T, T < u ∧ Wa n p T k m w) ∨ Wa n p u k m w) ↔ ∃ T, T < u + 1 ∧ Wa n p T k m w := fun m w => by
        constructor
        · rintro (⟨T, h1, h2⟩ | h)
          · exact ⟨T, by omega, h2⟩
          · exact ⟨u, by omega, h⟩
        · rintro ⟨T, h1, h2⟩
          by_cases c : T = u
          · rw [c] at h2; exact Or.inr h2
          · exact Or.inl ⟨T, by omega, h2⟩
      have keep : lsF (fun m w => ∃ T, T < u + 1 ∧ Wa n p T k m w) a b → wp_X9_bestFor_4 Q (c + 1) X (nI (v * 6 + k)) (nI (u * 6 + k) + (6 : Int32)) := fun z => by
        rw [i6]; exact ih (u + 1) (by omega) v a b hv e1 e2 z
      have take : lsF (fun m w => ∃ T, T < u + 1 ∧ Wa n p T k m w) a2 b2 → wp_X9_bestFor_4 Q (c + 1) X (nI (u * 6 + k)) (nI (u * 6 + k) + (6 : Int32)) := fun z => by
        rw [i6]; exact ih (u + 1) (by omega) u a2 b2 (by omega) f1 f2 z
      -- both tails alike but for the last
      have k0 : b2 = 0 → lsF (fun m w => ∃ T, T < u + 1 ∧ Wa n p T k m w) a b := fun z => by
        refine l.congr (fun m w => ?_)
        rw [← fam m w]
        refine ⟨Or.inl, fun y => y.elim id (fun y => ?_)⟩
        rcases l2 with ⟨_, no⟩ | ⟨_, h2, _⟩
        · exact absurd y (no m w)
        · omega
      have n51 : (nI (u * 6 + k)).toNatClampNeg = u * 6 + k := nI_clamp (by omega)
      have m51 : (nI (v * 6 + k)).toNatClampNeg = v * 6 + k := nI_clamp (by omega)
      refine br_f (nI_ge (b := 384) (by omega) (by decide)) ⟨vu, vv, vv, vu, ?_⟩
      rw [n51, m51, f1, e1]
      by_cases c2 : b2 = 0
      · exact br_c (fun _ => ⟨vu, br_t ((l0_eq (by omega)).mpr c2) (keep (k0 c2))⟩) (fun _ => ⟨vu, br_t ((l0_eq (by omega)).mpr c2) (keep (k0 c2))⟩)
      have jn := lsF_join l l2 (by omega)
      have nz2 : ¬ lg_cmp (lN b2) (0 : Int64) = 0 := fun z => c2 ((l0_eq (by omega)).mp z)
      by_cases c1 : b = 0
      · have z0 : lg_cmp (lN b) (0 : Int64) = 0 := (l0_eq (by omega)).mpr c1
        have t := take ((jn.1 c1).congr fam)
        exact br_c (fun _ => ⟨vu, br_f nz2 ⟨vv, br_t z0 t⟩⟩) (fun _ => ⟨vu, br_f nz2 ⟨vv, br_t z0 t⟩⟩)
      have nz : ¬ lg_cmp (lN b) (0 : Int64) = 0 := fun z => c1 ((l0_eq (by omega)).mp z)
      rw [f2 (by omega), e2 (by omega), lN_mul, lN_mul]
      have m1 : a2 * b ≤ 24300000 * 24300000 := Nat.mul_le_mul (lb2.2 (by omega)) lb.1
      have m2 : a * b2 ≤ 24300000 * 24300000 := Nat.mul_le_mul (lb.2 (by omega)) lb2.1
      by_cases c3 : a2 * b < a * b2
      · refine br_f (fun z => ?_) ⟨vu, br_f nz2 ⟨vv, br_f nz (br_f (by decide) (take ((jn.2.1 (by omega) c3).congr fam)))⟩⟩
        rw [lg_cmp_ge, pk_lLE (by omega) (by omega)] at z
        omega
      · refine br_t ?_ ⟨vu, br_f nz2 ⟨vv, br_f nz (br_t rfl (keep ((jn.2.2 (by omega) c3).congr fam)))⟩⟩
        rw [lg_cmp_ge, pk_lLE (by omega) (by omega)]
        omega
  obtain ⟨a, b, e1, e2, l⟩ := en 0 k (by decide) hk
  have r := go 64 0 rfl 0 a b (by decide) e1 e2 (by
    rcases l with ⟨h1, _⟩ | ⟨_, _, _, _, ⟨d, h5⟩, _⟩
    · exact Or.inl ⟨h1, fun m w ⟨T, z, _⟩ => absurd z (by omega)⟩
    · have a := (Wy_ok ok h5).2.2.1
      unfold bt at a
      rw [Nat.zero_div] at a
      omega)
  rw [show 0 * 6 + k = k by omega] at r
  exact ⟨_, r⟩
theorem cl_common {X : db_St} {Q : Int64 → db_St → Prop} : ∀ (c s a b : Nat), s + c = 100 → a < 2 ^ 63 → b < 2 ^ 63 → Q (lN (gcN c a b).1) X → wp_X9_commonDivisor_9 Q (c + 1) X (lN a) (lN b) (nI s)
  | 0, s, a, b, e, ha, hb, q => by
    have : s = 100 := by omega
    subst this
    exact br_t (by decide) q
  | c + 1, s, a, b, e, ha, hb, q => by
    refine br_f (nI_ge (b := 100) (by omega) (by decide)) ?_
    rw [gcN] at q
    by_cases b0 : b = 0
    · rw [if_pos b0] at q
      exact br_t (by rw [lg_cmp_le, b0]; decide) q
    · rw [if_neg b0] at q
      refine br_f (fun z => ?_) ⟨fun z => ?_, ?_⟩
      · rw [lg_cmp_le] at z
        exact b0 (Nat.le_zero.mp ((pk_lLE (b := 0) hb (by decide)).mp z))
      · exact b0 ((pk_lEQ (b := 0) hb (by decide)).mp z)
      · rw [pk_lRem ha (by omega) hb, nI_1]
        exact cl_common c (s + 1) b (a % b) (by omega) hb (Nat.lt_trans (Nat.mod_lt _ (by omega)) hb) q
theorem cl_leastPart {X : db_St} {Q : Int32 → db_St → Prop} {n k part : Nat} {p : Nat → Nat → Nat} (hO : PO X n p) (hk : k < 6) (hp : part ≤ 1) (q : ∀ Z a b, OW X Z → lsF (Wk n p k) a b → Q (lsA part a b) Z) : wp_X9_leastPart X (nI k) (nI part) Q := by
  refine cl_goAll hO (fun A oA eA => cl_bestFor eA hO.2.1 hk (fun v a b hv e1 e2 l => ?_))
  have lb := lsF_le l
  have vv : vp_in (nI (v * 6 + k)) 384 := vp_in_nI (by omega) (by decide)
  have r := q A a b oA l
  unfold lsA at r
  refine br_f (nI_pos (by omega)) (br_f (nI_ge (b := 384) (by omega) (by decide)) ⟨vv, ?_⟩)
  rw [nI_clamp (show v * 6 + k < 2 ^ 31 by omega), e1]
  by_cases b0 : b = 0
  · rw [if_pos b0] at r
    exact br_t ((l0_eq (by omega)).mpr b0) r
  rw [if_neg b0] at r
  have la := lb.2 (by omega)
  rw [e2 (by omega)]
  have g := gcN_ok 25 100 a b (by omega) (by decide)
  have gp : 0 < Nat.gcd a b := Nat.gcd_pos_of_pos_right a (by omega)
  have gl : Nat.gcd a b ≤ b := Nat.gcd_le_right a (by omega)
  refine br_f (fun z => b0 ((l0_eq (by omega)).mp z)) ⟨vv, vv, ⟨_, cl_common 100 0 a b rfl (by omega) (by omega) ?_⟩⟩
  rw [show (gcN 100 a b).1 = Nat.gcd a b by rw [g]]
  refine br_f (fun z => absurd ((l0_eq (by omega)).mp z) (by omega)) ?_
  have n0 : ¬ lN (Nat.gcd a b) = 0 := fun z => absurd ((pk_lEQ (b := 0) (by omega) (by decide)).mp z) (by omega)
  rw [e1, e2 (by omega), pk_lDiv (by omega) gp (by omega), pk_lDiv (by omega) gp (by omega), lN_i, lN_i]
  by_cases p0 : part = 0
  · rw [if_pos p0] at r
    exact br_t (by rw [p0]; rfl) ⟨vv, n0, r⟩
  · rw [if_neg p0] at r
    exact br_f (nI_ne0 (by omega) (by omega)) ⟨vv, n0, r⟩
def RA (X : db_St) (A : Nat → Nat → Prop) : Prop := ∃ a b, X.2 90 11 = lN a ∧ X.2 90 12 = lN b ∧ lsF A a b
theorem RA.congr {X : db_St} {A B : Nat → Nat → Prop} (h : RA X A) (e : ∀ m w, A m w ↔ B m w) : RA X B := by
  obtain ⟨a, b, e1, e2, l⟩ := h
  exact ⟨a, b, e1, e2, l.congr e⟩
theorem mo_over {X : db_St} {Q : Int32 → db_St → Prop} {n i j : Nat} {p : Nat → Nat → Nat} (hO : PO X n p) (hi : i < n) (hj : j < 4) (q : Q (nI (p i j)) X) : wp_X11_overOf X (nI i) (nI j) Q := by
  obtain ⟨n12, _, _, _, rows⟩ := hO
  obtain ⟨_, _, _, _, r0, r1, r2, r3⟩ := rows i hi
  unfold wp_X11_overOf
  rw [show (4 : Int32) = nI 4 by decide, show (258 : Int32) = nI 258 by decide, pk_mul, nI_add, nI_add]
  refine ⟨vp_in_nI (by omega) (by decide), ?_⟩
  rw [nI_clamp (by omega)]
  rcases (show j = 0 ∨ j = 1 ∨ j = 2 ∨ j = 3 by omega) with rfl | rfl | rfl | rfl
  · rw [show 258 + 4 * i + 0 = 258 + 4 * i by omega, r0]; exact q
  · rw [show 258 + 4 * i + 1 = 259 + 4 * i by omega, r1]; exact q
  · rw [show 258 + 4 * i + 2 = 260 + 4 * i by omega, r2]; exact q
  · rw [show 258 + 4 * i + 3 = 261 + 4 * i by omega, r3]; exact q
def ExI (n : Nat) (p : Nat → Nat → Nat) (g i k S m w x y : Nat) : Prop := ∃ d j, j < i ∧ j < n ∧ p j 0 = k ∧ bt S (p j 2) = 0 ∧ Ex n p g d (p j 2) (S + 2 ^ p j 2) (m * p j 3) (w * p j 1) x y
theorem mo_goes {n g : Nat} {p : Nat → Nat → Nat} (hg : g < 6) : ∀ (f k S m w : Nat) (X : db_St) (A : Nat → Nat → Prop) (Q : db_St → Prop), PO X n p → bcN 6 S + f = 9 → k < 6 → S < 64 → 1 ≤ m → 1 ≤ w → m * 30 ≤ 30 ^ bcN 6 S → w * 30 ≤ 30 ^ bcN 6 S → RA X A → (∀ Z, OW X Z → RA Z (fun x y => A x y ∨ ∃ d, Ex n p g d k S m w x y) → Q Z) → wp_X11_goes f X (nI k) (nI g) (nI S) (lN m) (lN w) Q
  | 0, k, S, m, w, X, A, Q, hO, hf, _, _, _, _, _, _, _, _ => absurd (bcN_le 6 S) (by omega)
  | f + 1, k, S, m, w, X, A, Q, hO, hf, hk, hS, m1, w1, bm, bw, ra, q => by
    have lm := b30 bm
    have lw := b30 bw
    by_cases kg : k = g
    · have fam : lsF (fun x y => ∃ d, Ex n p g d k S m w x y) m w := by
        refine Or.inr ⟨m1, w1, lm, lw, ⟨0, kg, rfl, rfl⟩, fun x y ⟨d, z⟩ => ?_⟩
        cases d with
        | zero => obtain ⟨_, rfl, rfl⟩ := z; exact Nat.le_refl _
        | succ d => exact absurd kg z.1
      obtain ⟨a, b, e1, e2, l⟩ := ra
      have lb := lsF_le l
      have jn := lsF_join l fam w1
      have put : lsF (fun x y => A x y ∨ ∃ d, Ex n p g d k S m w x y) m w → ∀ B, B = db_sl X 90 11 (lN m) → ∀ C, C = db_sl B 90 12 (lN w) → Q C := fun lf B eB C eC => by
        exact q C (fun a j => by rw [eC, eB]; rfl) ⟨m, w, by rw [eC, db_sl_nb (by decide), eB, db_sl_hit], by rw [eC, db_sl_hit], lf⟩
      refine br_t (by rw [kg]) ?_
      rw [e2]
      by_cases b0 : b = 0
      · exact br_t ((l0_eq (by omega)).mpr b0) (put (jn.1 b0))
      refine br_f (fun z => b0 ((l0_eq (by omega)).mp z)) ?_
      rw [e1, lN_mul, lN_mul]
      have u1 : m * b ≤ 24300000 * 24300000 := Nat.mul_le_mul lm lb.1
      have u2 : a * w ≤ 24300000 * 24300000 := Nat.mul_le_mul (lb.2 (by omega)) lw
      by_cases c3 : m * b < a * w
      · refine br_f (fun z => ?_) (put (jn.2.1 (by omega) c3))
        rw [lg_cmp_ge, pk_lLE (by omega) (by omega)] at z
        omega
      · refine br_t ?_ (q X (fun _ _ => rfl) ⟨a, b, e1, e2, jn.2.2 (by omega) c3⟩)
        rw [lg_cmp_ge, pk_lLE (by omega) (by omega)]
        omega
    · have go : ∀ c i, i + c = n → ∀ Y, OW X Y → RA Y (fun x y => A x y ∨ ExI n p g i k S m w x y) → wp_X11_goes_48 (wp_X11_goes f) Q (c + 1) Y (nI k) (nI g) (nI S) (lN m) (lN w) (nI i) := by
        intro c
        induction c with
        | zero =>
          intro i e Y oY rY
          have hY := OW.po hO oY
          have n12 := hO.1
          refine br_t (by rw [show ((307 : Int32)).toNatClampNeg = 307 by decide, hY.2.2.2.1]; exact nI_le (by omega) (by omega)) (q Y oY (rY.congr (fun x y => ?_)))
          refine ⟨fun z => z.imp id (fun ⟨d, j, _, j1, j2, j3, j4⟩ => ⟨d + 1, kg, j, j1, j2, j3, j4⟩), fun z => z.imp id (fun ⟨d, z⟩ => ?_)⟩
          cases d with
          | zero => exact absurd z.1 kg
          | succ d =>
            obtain ⟨_, j, j1, j2, j3, j4⟩ := z
            exact ⟨d, j, by omega, j1, j2, j3, j4⟩
        | succ c ih =>
          intro i e Y oY rY
          have hY := OW.po hO oY
          have n12 := hO.1
          have hi : i < n := by omega
          have o := hO.2.1 i hi
          have skip : (∀ x y, ¬ (p i 0 = k ∧ bt S (p i 2) = 0 ∧ ∃ d, Ex n p g d (p i 2) (S + 2 ^ p i 2) (m * p i 3) (w * p i 1) x y)) → wp_X11_goes_48 (wp_X11_goes f) Q (c + 1) Y (nI k) (nI g) (nI S) (lN m) (lN w) (nI i + (1 : Int32)) := fun no => by
            rw [nI_1]
            refine ih (i + 1) (by omega) Y oY (rY.congr (fun x y => ?_))
            refine ⟨fun z => z.imp id (fun ⟨d, j, j0, j1⟩ => ⟨d, j, by omega, j1⟩), fun z => z.imp id (fun ⟨d, j, j0, j1, j2, j3, j4⟩ => ?_)⟩
            by_cases c2 : j = i
            · subst c2
              exact absurd ⟨j2, j3, d, j4⟩ (no x y)
            · exact ⟨d, j, by omega, j1, j2, j3, j4⟩
          refine br_f (by rw [show ((307 : Int32)).toNatClampNeg = 307 by decide, hY.2.2.2.1]; exact nI_ge (by omega) (by omega)) (mo_over hY hi (j := 0) (by decide) ?_)
          by_cases ck : p i 0 = k
          rotate_left
          · exact br_f (fun z => ck ((nI_eq (by omega) (by omega)).mp z)) (skip (fun x y z => ck z.1))
          refine br_t (by rw [ck]) (mo_over hY hi (j := 2) (by decide) ?_)
          have mk := msk hS o.2.1
          rw [mk.2.2]
          by_cases cb : bt S (p i 2) = 0
          rotate_left
          · have b1 : bt S (p i 2) = 1 := by have := bt_cs S (p i 2); omega
            exact br_f (by rw [b1]; decide) (skip (fun x y z => cb z.2.1))
          have ad := bt_ad hS o.2.1 cb
          refine br_t (by rw [cb]; rfl) (mo_over hY hi (j := 2) (by decide) (mo_over hY hi (j := 2) (by decide) (mo_over hY hi (j := 3) (by decide) (mo_over hY hi (j := 1) (by decide) ?_))))
          rw [mk.2.1 cb, nI_l (by omega), nI_l (by omega), lN_mul, lN_mul]
          refine mo_goes hg f (p i 2) (S + 2 ^ p i 2) (m * p i 3) (w * p i 1) Y _ _ hY (by rw [ad.2.2]; omega) o.2.1 ad.1 (Nat.mul_pos m1 o.2.2.2.2.2.1) (Nat.mul_pos w1 o.2.2.2.1) (by rw [ad.2.2]; exact pw30 bm o.2.2.2.2.2.2) (by rw [ad.2.2]; exact pw30 bw o.2.2.2.2.1) rY (fun Z oZ rZ => ?_)
          rw [nI_1]
          refine ih (i + 1) (by omega) Z (fun a j => (oZ a j).trans (oY a j)) (rZ.congr (fun x y => ?_))
          constructor
          · rintro ((z | ⟨d, j, j0, j1⟩) | ⟨d, z⟩)
            · exact Or.inl z
            · exact Or.inr ⟨d, j, by omega, j1⟩
            · exact Or.inr ⟨d, i, by omega, hi, ck, cb, z⟩
          · rintro (z | ⟨d, j, j0, j1, j2, j3, j4⟩)
            · exact Or.inl (Or.inl z)
            · by_cases c2 : j = i
              · subst c2
                exact Or.inr ⟨d, j4⟩
              · exact Or.inl (Or.inr ⟨d, j, by omega, j1, j2, j3, j4⟩)
      refine br_f (fun z => kg ((nI_eq (by omega) (by omega)).mp z)) ⟨_, go n 0 (by omega) X (fun _ _ => rfl) (ra.congr (fun x y => ?_))⟩
      exact ⟨Or.inl, fun z => z.elim id (fun ⟨d, j, j0, _⟩ => absurd j0 (by omega))⟩
theorem mo_common {X : db_St} {Q : Int32 → db_St → Prop} {part : Nat} {a b : Nat} (hp : part ≤ 1) (e1 : X.2 90 11 = lN a) (e2 : X.2 90 12 = lN b) (la : a < 2 ^ 31) (lb : b < 2 ^ 31) : ∀ (c x y : Nat), x < 2 ^ 31 → y < 2 ^ 31 → (gcN c x y).2 = 0 → 0 < (gcN c x y).1 → Q (if part = 0 then nI (a / (gcN c x y).1) else nI (b / (gcN c x y).1)) X → wp_X11_byPutting_72 Q (c + 1) X (nI part) (lN x) (lN y) := by
  have fin : ∀ x : Nat, x < 2 ^ 31 → 0 < x → Q (if part = 0 then nI (a / x) else nI (b / x)) X → ((nI part = 0 → (¬ lN x = 0 ∧ Q ((((X.2 90 11) / lN x)).toInt32) X)) ∧ (¬ nI part = 0 → (¬ lN x = 0 ∧ Q ((((X.2 90 12) / lN x)).toInt32) X))) := by
    intro x hx x0 q
    have n0 : ¬ lN x = 0 := fun z => absurd ((pk_lEQ (b := 0) (by omega) (by decide)).mp z) (by omega)
    rw [e1, e2, pk_lDiv (by omega) x0 (by omega), pk_lDiv (by omega) x0 (by omega), lN_i, lN_i]
    by_cases p0 : part = 0
    · rw [if_pos p0] at q
      exact br_t (by rw [p0]; rfl) ⟨n0, q⟩
    · rw [if_neg p0] at q
      exact br_f (nI_ne0 (by omega) (by omega)) ⟨n0, q⟩
  intro c
  induction c with
  | zero =>
    intro x y hx hy h0 hp0 q
    have y0 : y = 0 := h0
    exact br_t (by rw [l0_eq (by omega)]; exact y0) (fin x hx hp0 q)
  | succ c ih =>
    intro x y hx hy h0 hp0 q
    rw [gcN] at h0 hp0 q
    by_cases y0 : y = 0
    · rw [if_pos y0] at h0 hp0 q
      exact br_t (by rw [l0_eq (by omega)]; exact y0) (fin x hx hp0 q)
    · rw [if_neg y0] at h0 hp0 q
      refine br_f (fun z => y0 ((l0_eq (by omega)).mp z)) ⟨fun z => y0 ((pk_lEQ (b := 0) (by omega) (by decide)).mp z), ?_⟩
      rw [pk_lRem (by omega) (by omega) (by omega)]
      exact ih y (x % y) hy (Nat.lt_trans (Nat.mod_lt _ (by omega)) hy) h0 hp0 q
theorem op_17 {xs : Nat → Int32} {x3 : Int32} {X : db_St} (h : Sim X) : lc_17 xs x3 Sim X := by
  unfold lc_17
  generalize xs ((x3 + (1 : Int32))).toNatClampNeg = a
  generalize xs ((x3 + (2 : Int32))).toNatClampNeg = b
  unfold wp_X10_byPutting wp_X11_byPutting
  rcases db_cs a 6 with ⟨k, hk, rfl⟩ | ha
  rotate_left
  · exact kd_no ha (br_t rfl (rf_c1 (in_no (N := 6) (by decide) (by decide) ha (br_t rfl (rf_m1 (br_t rfl (sim_ref h)))))))
  refine kd_yes hk (br_f (by decide) ?_)
  have ik : ∀ {Y : db_St} {R : Int32 → db_St → Prop}, R 1 Y → wp_X11_isIn Y (nI k) (6 : Int32) R := fun r => in_yes (N := 6) (by decide) (by decide) hk r
  rcases db_cs b 2 with ⟨part, hp, rfl⟩ | hb
  rotate_left
  · by_cases c0 : b < 0
    · exact br_t c0 (rf_c2 (ik (br_f (by decide) (in_no (N := 2) (by decide) (by decide) hb (br_t rfl (rf_m2 (br_t rfl (sim_ref h))))))))
    · refine br_f c0 (br_f (fun c6 => ?_) (rf_c2 (ik (br_f (by decide) (in_no (N := 2) (by decide) (by decide) hb (br_t rfl (rf_m2 (br_t rfl (sim_ref h)))))))))
      obtain ⟨j, hj, e⟩ := nI_of2 (M := 1) (n := 1) (by decide) c0 c6
      exact hb j (by omega) e
  obtain ⟨n, hO⟩ := h.po
  have ok := hO.2.1
  refine br_f (nI_pos (by omega)) (br_t (nI_le (b := 1) (by omega) (by decide)) ?_)
  have rest : ∀ Z a b, OW X Z → lsF (Wk n (pov X) k) a b → wp_X11_isIn Z (nI k) (6 : Int32) (fun r1 X1 => ((r1 = 0 → wp_X11_refuse X1 (-1 : Int32) (fun r9 X9 => (lsA part a b = r9 → Sim X9) ∧ (¬ lsA part a b = r9 → False))) ∧ (¬ r1 = 0 → wp_X11_isIn X1 (nI part) (2 : Int32) (fun r2 X2 => ((r2 = 0 → wp_X11_refuse X2 (-2 : Int32) (fun r7 X7 => (lsA part a b = r7 → Sim X7) ∧ (¬ lsA part a b = r7 → False))) ∧ (¬ r2 = 0 → (∀ X3, X3 = (db_sl X2 90 11 (0 : Int64)) → (∀ X4, X4 = (db_sl X3 90 12 (0 : Int64)) → wp_X11_goes 8 X4 (0 : Int32) (nI k) (1 : Int32) (1 : Int64) (1 : Int64) (fun X5 => (((lg_cmp (X5.2 90 12) (0 : Int64)) = 0 → (lsA part a b = (-9 : Int32) → Sim X5) ∧ (¬ lsA part a b = (-9 : Int32) → False)) ∧ (¬ (lg_cmp (X5.2 90 12) (0 : Int64)) = 0 → (∃ f_, wp_X11_byPutting_72 (fun r8 X8 => (lsA part a b = r8 → Sim X8) ∧ (¬ lsA part a b = r8 → False)) f_ X5 (nI part) (X5.2 90 11) (X5.2 90 12))))))))))))) := by
    intro Z a b oZ l
    refine ik (br_f (by decide) (in_yes (N := 2) (by decide) (by decide) hp (br_f (by decide) (fun A eA B eB => ?_))))
    have oB : OW X B := fun a j => by rw [eB, eA]; exact oZ a j
    refine mo_goes (n := n) (p := pov X) hk 8 0 1 1 1 B (fun _ _ => False) _ (OW.po hO oB) (by decide) (by decide) (by decide) (by decide) (by decide) (by decide) (by decide) ⟨0, 0, by rw [eB, db_sl_nb (by decide), eA, db_sl_hit]; rfl, by rw [eB, db_sl_hit]; rfl, Or.inl ⟨rfl, fun _ _ z => z⟩⟩ (fun C oC rC => ?_)
    obtain ⟨a2, b2, e1, e2, l2⟩ := rC
    have l3 : lsF (Wk n (pov X) k) a2 b2 := l2.congr (fun x y => by
      constructor
      · rintro (z | ⟨d, z⟩)
        · exact z.elim
        · obtain ⟨T, d2, w⟩ := Ex_Wa (S := 1) (m := 1) (w := 1) (k := 0) ⟨0, rfl, rfl, rfl, rfl⟩ z
          exact ⟨T, (Wy_ok ok w).1, d2, w⟩
      · rintro ⟨T, _, d, z⟩
        exact Or.inr (Wy_Ex ok hk (e := 0) z ⟨rfl, rfl, rfl⟩))
    have ans := lsF_ans (part := part) l l3
    have sC : Sim C := h.same (OW.same (fun a j => (oC a j).trans (oB a j)))
    have lb := lsF_le l3
    rw [ans, e2]
    unfold lsA
    by_cases b0 : b2 = 0
    · rw [if_pos b0]
      exact br_t ((l0_eq (by omega)).mpr b0) (br_t rfl sC)
    · rw [if_neg b0]
      have la := lb.2 (by omega)
      have g := gcN_ok 25 100 a2 b2 (by omega) (by decide)
      have gp : 0 < Nat.gcd a2 b2 := Nat.gcd_pos_of_pos_right a2 (by omega)
      refine br_f (fun z => b0 ((l0_eq (by omega)).mp z)) ⟨101, ?_⟩
      rw [e1]
      exact mo_common (by omega) e1 e2 (by omega) (by omega) 100 a2 b2 (by omega) (by omega) (by rw [g]) (by rw [g]; exact gp) (by rw [g]; exact br_t rfl sC)
  by_cases p1 : part = 1
  · exact br_t (by rw [p1]; rfl) (cl_leastPart (part := 1) hO hk (by decide) (fun Z a b oZ l => by rw [← p1]; exact rest Z a b oZ l))
  · exact br_f (fun z => p1 ((nI_eq (b := 1) (by omega) (by decide)).mp z)) (cl_leastPart (part := 0) hO hk (by decide) (fun Z a b oZ l => by rw [show 0 = part by omega]; exact rest Z a b oZ l))
