/-! rings: the reference; how many it can find -/
def cnt (p : Nat → Nat → Nat) (k : Nat) : Nat → Nat
  | 0 => 0
  | i + 1 => cnt p k i + (if p i 0 = k then 1 else 0)
theorem cnt_mono {p : Nat → Nat → Nat} {k i : Nat} : ∀ c, cnt p k i ≤ cnt p k (i + c)
  | 0 => Nat.le_refl _
  | c + 1 => Nat.le_trans (cnt_mono c) (Nat.le_add_right _ _)
theorem cnt_le {p : Nat → Nat → Nat} {k : Nat} : ∀ i, cnt p k i ≤ i
  | 0 => Nat.le_refl _
  | i + 1 => by
    have := cnt_le (p := p) (k := k) i
    show cnt p k i + (if p i 0 = k then 1 else 0) ≤ i + 1
    split <;> omega
def smU (f : Nat → Nat) : Nat → Nat
  | 0 => 0
  | i + 1 => smU f i + f i
def prU (f : Nat → Nat) : Nat → Nat
  | 0 => 1
  | i + 1 => prU f i * f i
theorem smU_one {f g : Nat → Nat} {j : Nat} (e : ∀ k, k ≠ j → f k = g k) (h : f j = g j + 1) : ∀ i, smU f i = smU g i + (if j < i then 1 else 0)
  | 0 => by simp [smU]
  | i + 1 => by
    show smU f i + f i = smU g i + g i + _
    rw [smU_one e h i]
    by_cases c : i = j
    · subst c
      rw [if_neg (Nat.lt_irrefl i), if_pos (Nat.lt_succ_self i), h]; omega
    · rw [e i c]
      by_cases d : j < i
      · rw [if_pos d, if_pos (by omega)]; omega
      · rw [if_neg d, if_neg (by omega)]; omega
theorem cnt_sum {p : Nat → Nat → Nat} : ∀ n, (∀ i, i < n → p i 0 < 6) → smU (fun k => cnt p k n) 6 = n
  | 0, _ => rfl
  | n + 1, h => by
    have ih := cnt_sum n (fun i hi => h i (by omega))
    have e1 : ∀ k, k ≠ p n 0 → cnt p k (n + 1) = cnt p k n := fun k hk => by
      show cnt p k n + (if p n 0 = k then 1 else 0) = cnt p k n
      rw [if_neg (fun z => hk z.symm)]; rfl
    have e2 : cnt p (p n 0) (n + 1) = cnt p (p n 0) n + 1 := by
      show cnt p (p n 0) n + (if p n 0 = p n 0 then 1 else 0) = _
      rw [if_pos rfl]
    have e3 := smU_one (f := fun k => cnt p k (n + 1)) (g := fun k => cnt p k n) (j := p n 0) e1 e2 6
    rw [e3, ih, if_pos (h n (by omega))]
theorem prU_cube {f e : Nat → Nat} : ∀ i, (∀ k, k < i → f k * f k * f k ≤ 3 ^ e k) → prU f i * prU f i * prU f i ≤ 3 ^ smU e i
  | 0, _ => Nat.le_refl _
  | i + 1, h => by
    have a := prU_cube (e := e) i (fun k hk => h k (by omega))
    have b := h i (by omega)
    show (prU f i * f i) * (prU f i * f i) * (prU f i * f i) ≤ 3 ^ (smU e i + e i)
    rw [Nat.pow_add, Nat.mul_mul_mul_comm (prU f i) (f i) (prU f i) (f i), Nat.mul_mul_mul_comm (prU f i * prU f i) (f i * f i) (prU f i) (f i)]
    exact Nat.mul_le_mul a b
theorem prU_at {f g : Nat → Nat} {j : Nat} (e : ∀ k, k ≠ j → f k = g k) (h : g j = 1) : ∀ i, prU f i = prU g i * (if j < i then f j else 1)
  | 0 => rfl
  | i + 1 => by
    show prU f i * f i = prU g i * g i * _
    rw [prU_at e h i]
    by_cases c : i = j
    · subst c
      rw [if_neg (Nat.lt_irrefl i), if_pos (Nat.lt_succ_self i), h, Nat.mul_one]
    · rw [e i c]
      by_cases d : j < i
      · rw [if_pos d, if_pos (show j < i + 1 by omega), Nat.mul_right_comm]
      · rw [if_neg d, if_neg (show ¬ j < i + 1 by omega), Nat.mul_one, Nat.mul_one]
theorem prU_pos {f : Nat → Nat} (h : ∀ k, 1 ≤ f k) : ∀ i, 1 ≤ prU f i
  | 0 => Nat.le_refl _
  | i + 1 => Nat.mul_pos (prU_pos h i) (h i)
def mx1 (d : Nat) : Nat := if d = 0 then 1 else d
theorem mx1_le (d : Nat) : d ≤ mx1 d ∧ 1 ≤ mx1 d := by unfold mx1; split <;> omega
theorem mx1_cube : ∀ d : Fin 13, mx1 d.val * mx1 d.val * mx1 d.val ≤ 3 ^ d.val := by decide +kernel
def wt (n : Nat) (p : Nat → Nat → Nat) (S : Nat) : Nat := prU (fun j => if bt S j = 0 then mx1 (cnt p j n) else 1) 6
theorem wt_pos (n : Nat) (p : Nat → Nat → Nat) (S : Nat) : 1 ≤ wt n p S := prU_pos (fun k => by
  show 1 ≤ if bt S k = 0 then mx1 (cnt p k n) else 1
  split
  · exact (mx1_le _).2
  · exact Nat.le_refl _) 6
theorem prU_congr {f g : Nat → Nat} : ∀ i, (∀ k, k < i → f k = g k) → prU f i = prU g i
  | 0, _ => rfl
  | i + 1, h => by
    show prU f i * f i = prU g i * g i
    rw [prU_congr i (fun k hk => h k (by omega)), h i (by omega)]
theorem wt_add {n : Nat} {p : Nat → Nat → Nat} {S j : Nat} (hS : S < 64) (hj : j < 6) (b : bt S j = 0) : cnt p j n * wt n p (S + 2 ^ j) ≤ wt n p S := by
  have ad := bt_ad hS hj b
  have e1 : wt n p (S + 2 ^ j) = prU (fun k => if k = j then 1 else if bt S k = 0 then mx1 (cnt p k n) else 1) 6 := prU_congr 6 (fun k hk => by
    show (if bt (S + 2 ^ j) k = 0 then mx1 (cnt p k n) else 1) = if k = j then 1 else if bt S k = 0 then mx1 (cnt p k n) else 1
    rw [ad.2.1 k hk]
    by_cases c : k = j
    · rw [if_pos c, if_pos c, if_neg (by decide)]
    · rw [if_neg c, if_neg c])
  have e2 := prU_at (f := fun k => if bt S k = 0 then mx1 (cnt p k n) else 1) (g := fun k => if k = j then 1 else if bt S k = 0 then mx1 (cnt p k n) else 1) (j := j) (fun k hk => (if_neg hk).symm) (if_pos rfl) 6
  rw [if_pos hj, ← e1, if_pos b] at e2
  have e : wt n p S = wt n p (S + 2 ^ j) * mx1 (cnt p j n) := e2
  rw [e, Nat.mul_comm]
  exact Nat.mul_le_mul_left _ (mx1_le _).1
theorem wt_81 {n : Nat} {p : Nat → Nat → Nat} (ok : OKP n p) (hn : n ≤ 12) : wt n p 0 ≤ 81 := by
  have s := cnt_sum (p := p) n (fun i hi => (ok i hi).1)
  have c := prU_cube (f := fun j => if bt 0 j = 0 then mx1 (cnt p j n) else 1) (e := fun k => cnt p k n) 6 (fun k _ => by
    show (if bt 0 k = 0 then mx1 (cnt p k n) else 1) * (if bt 0 k = 0 then mx1 (cnt p k n) else 1) * (if bt 0 k = 0 then mx1 (cnt p k n) else 1) ≤ 3 ^ cnt p k n
    rw [if_pos (show bt 0 k = 0 by unfold bt; rw [Nat.zero_div])]
    have l := cnt_le (p := p) (k := k) n
    exact mx1_cube ⟨cnt p k n, by omega⟩)
  rw [s] at c
  have c2 : wt n p 0 * wt n p 0 * wt n p 0 ≤ 3 ^ 12 := Nat.le_trans c (Nat.pow_le_pow_right (by decide) hn)
  by_cases g : wt n p 0 ≤ 81
  · exact g
  · have h : 82 ≤ wt n p 0 := by omega
    have h2 : 82 * 82 * 82 ≤ wt n p 0 * wt n p 0 * wt n p 0 := Nat.mul_le_mul (Nat.mul_le_mul h h) h
    have k : (3 : Nat) ^ 12 = 531441 := by decide
    omega
/-- the list of the reference holds just the family, and is not longer than M -/
def rLi (X : db_St) (A : Nat → Prop) (M : Nat) : Prop := ∃ r, X.1 90 14 = nI r ∧ r ≤ M ∧ (∀ i, i < r → ∃ C, C < 4096 ∧ X.1 99 i = nI C ∧ A C) ∧ ∀ C, A C → ∃ i, i < r ∧ X.1 99 i = nI C
theorem rLi.congr {X : db_St} {A B : Nat → Prop} {M N : Nat} (h : rLi X A M) (e : ∀ C, A C ↔ B C) (l : M ≤ N) : rLi X B N := by
  obtain ⟨r, h1, h2, h3, h4⟩ := h
  refine ⟨r, h1, by omega, fun i hi => ?_, fun C z => h4 C ((e C).mpr z)⟩
  obtain ⟨C, c1, c2, c3⟩ := h3 i hi
  exact ⟨C, c1, c2, (e C).mp c3⟩
def OR (X Y : db_St) : Prop := ∀ a j, a ≠ 99 → ¬ (a = 90 ∧ j = 14) → Y.1 a j = X.1 a j
theorem OR.trans {X Y Z : db_St} (h : OR X Y) (g : OR Y Z) : OR X Z := fun a j n m => (g a j n m).trans (h a j n m)
theorem OR.po {X Y : db_St} {n : Nat} {p : Nat → Nat → Nat} (h : PO X n p) (o : OR X Y) : PO Y n p := h.keep (fun a j _ _ => o a j (by omega) (by omega)) (fun j _ _ => o 92 j (by decide) (by omega))
theorem OR.same {X Y : db_St} (o : OR X Y) : Same X Y := ⟨fun c j _ => o c j (by omega) (by omega), fun c j _ _ => o c j (by omega) (by omega), fun c j _ _ => o c j (by omega) (by omega), fun j _ => o 90 j (by omega) (by omega), fun c j _ _ => o c j (by omega) (by omega), fun j => o 100 j (by omega) (by omega)⟩
def CxI (n : Nat) (p : Nat → Nat → Nat) (s i k S B m w C : Nat) : Prop := ∃ j, j < i ∧ j < n ∧ p j 0 = k ∧ ((p j 2 = s ∧ m * p j 3 < w * p j 1 ∧ C = B ||| 2 ^ j) ∨ (s < p j 2 ∧ bt S (p j 2) = 0 ∧ ∃ d, Cx n p s d (p j 2) (S + 2 ^ p j 2) (B ||| 2 ^ j) (m * p j 3) (w * p j 1) C))
theorem CxI_Cx {n : Nat} {p : Nat → Nat → Nat} {s k S B m w C : Nat} : CxI n p s n k S B m w C ↔ ∃ d, Cx n p s d k S B m w C := by
  constructor
  · rintro ⟨j, _, h1, h2, h3⟩
    rcases h3 with ⟨a, b, c⟩ | ⟨a, b, d, c⟩
    · exact ⟨0, j, h1, h2, a, b, c⟩
    · exact ⟨d + 1, j, h1, h2, a, b, c⟩
  · rintro ⟨d, h⟩
    cases d with
    | zero =>
      obtain ⟨j, h1, h2, a, b, c⟩ := h
      exact ⟨j, h1, h1, h2, Or.inl ⟨a, b, c⟩⟩
    | succ d =>
      obtain ⟨j, h1, h2, a, b, c⟩ := h
      exact ⟨j, h1, h1, h2, Or.inr ⟨a, b, d, c⟩⟩
theorem CxI_s {n : Nat} {p : Nat → Nat → Nat} {s i k S B m w C : Nat} (hi : i < n) : CxI n p s (i + 1) k S B m w C ↔ (CxI n p s i k S B m w C ∨ (p i 0 = k ∧ ((p i 2 = s ∧ m * p i 3 < w * p i 1 ∧ C = B ||| 2 ^ i) ∨ (s < p i 2 ∧ bt S (p i 2) = 0 ∧ ∃ d, Cx n p s d (p i 2) (S + 2 ^ p i 2) (B ||| 2 ^ i) (m * p i 3) (w * p i 1) C)))) := by
  constructor
  · rintro ⟨j, h0, h1, h2⟩
    by_cases c : j = i
    · subst c; exact Or.inr h2
    · exact Or.inl ⟨j, by omega, h1, h2⟩
  · rintro (⟨j, h0, h1, h2⟩ | h)
    · exact ⟨j, by omega, h1, h2⟩
    · exact ⟨i, by omega, hi, h⟩
theorem mo_rounds {n s : Nat} {p : Nat → Nat → Nat} (hs : s < 6) : ∀ (f k S B m w : Nat) (X : db_St) (A : Nat → Prop) (M : Nat) (Q : db_St → Prop), PO X n p → bcN 6 S + f = 9 → k < 6 → S < 64 → B < 4096 → 1 ≤ m → 1 ≤ w → m * 30 ≤ 30 ^ bcN 6 S → w * 30 ≤ 30 ^ bcN 6 S → rLi X A M → M + cnt p k n * wt n p S ≤ 4096 → (∀ Z, OR X Z → rLi Z (fun C => A C ∨ ∃ d, Cx n p s d k S B m w C) (M + cnt p k n * wt n p S) → Q Z) → wp_X11_rounds f X (nI k) (nI s) (nI S) (nI B) (lN m) (lN w) Q
  | 0, k, S, B, m, w, X, A, M, Q, hO, hf, _, _, _, _, _, _, _, _, _, _ => absurd (bcN_le 6 S) (by omega)
  | f + 1, k, S, B, m, w, X, A, M, Q, hO, hf, hk, hS, hB, m1, w1, bm, bw, ra, hM, q => by
    have n12 := hO.1
    have ok := hO.2.1
    have wp := wt_pos n p S
    have go : ∀ c i, i + c = n → ∀ Y, OR X Y → rLi Y (fun C => A C ∨ CxI n p s i k S B m w C) (M + cnt p k i * wt n p S) → wp_X11_rounds_3 (wp_X11_rounds f) Q (c + 1) Y (nI k) (nI s) (nI S) (nI B) (lN m) (lN w) (nI i) := by
      intro c
      induction c with
      | zero =>
        intro i e Y oY rY
        have hY := OR.po hO oY
        have : i = n := by omega
        subst this
        refine br_t (by rw [show ((307 : Int32)).toNatClampNeg = 307 by decide, hY.2.2.2.1]; exact nI_le (Nat.le_refl _) (by omega)) (q Y oY (rY.congr (fun C => ?_) (Nat.le_refl _)))
        rw [CxI_Cx]
      | succ c ih =>
        intro i e Y oY rY
        have hY := OR.po hO oY
        have hi : i < n := by omega
        have o := ok i hi
        have cm : cnt p k (i + 1) ≤ cnt p k n := by
          have := cnt_mono (p := p) (k := k) (i := i + 1) (n - (i + 1))
          rw [show i + 1 + (n - (i + 1)) = n by omega] at this
          exact this
        have cs : cnt p k (i + 1) = cnt p k i + (if p i 0 = k then 1 else 0) := rfl
        have next : ∀ Z, OR X Z → rLi Z (fun C => (A C ∨ CxI n p s i k S B m w C) ∨ (p i 0 = k ∧ ((p i 2 = s ∧ m * p i 3 < w * p i 1 ∧ C = B ||| 2 ^ i) ∨ (s < p i 2 ∧ bt S (p i 2) = 0 ∧ ∃ d, Cx n p s d (p i 2) (S + 2 ^ p i 2) (B ||| 2 ^ i) (m * p i 3) (w * p i 1) C)))) (M + cnt p k (i + 1) * wt n p S) → wp_X11_rounds_3 (wp_X11_rounds f) Q (c + 1) Z (nI k) (nI s) (nI S) (nI B) (lN m) (lN w) (nI i + (1 : Int32)) := fun Z oZ rZ => by
          rw [nI_1]
          refine ih (i + 1) (by omega) Z oZ (rZ.congr (fun C => ?_) (Nat.le_refl _))
          rw [CxI_s hi, or_assoc]
        refine br_f (by rw [show ((307 : Int32)).toNatClampNeg = 307 by decide, hY.2.2.2.1]; exact nI_ge hi (by omega)) (mo_over hY hi (j := 0) (by decide) ?_)
        by_cases ck : p i 0 = k
        rotate_left
        · refine br_f (fun z => ck ((nI_eq (by omega) (by omega)).mp z)) (next Y oY (rY.congr (fun C => ⟨Or.inl, fun z => z.elim id (fun z => absurd z.1 ck)⟩) ?_))
          rw [cs, if_neg ck]; exact Nat.le_refl _
        rw [if_pos ck] at cs
        have cw : cnt p k (i + 1) * wt n p S ≤ cnt p k n * wt n p S := Nat.mul_le_mul_right _ cm
        have cw2 : cnt p k (i + 1) * wt n p S = cnt p k i * wt n p S + wt n p S := by rw [cs, Nat.add_mul, Nat.one_mul]
        have or1 : nI B ||| ((1 : Int32) <<< (nI i &&& 31)) = nI (B ||| 2 ^ i) := by rw [sh12' (by omega), nI_lor]
        have hB2 : B ||| 2 ^ i < 4096 := Nat.or_lt_two_pow (n := 12) hB (Nat.pow_lt_pow_right (by decide) (by omega))
        have mkk := msk hS o.2.1
        have lm := pw30 bm o.2.2.2.2.2.2
        have lw := pw30 bw o.2.2.2.2.1
        have l7 : (30 : Nat) ^ (bcN 6 S + 1) ≤ 30 ^ 7 := Nat.pow_le_pow_right (by decide) (by have := bcN_le 6 S; omega)
        have k7 : (30 : Nat) ^ 7 = 21870000000 := by decide
        refine br_t (by rw [ck]) (mo_over hY hi (j := 2) (by decide) (mo_over hY hi (j := 3) (by decide) (mo_over hY hi (j := 1) (by decide) ?_)))
        rw [nI_l (by omega), nI_l (by omega), lN_mul, lN_mul]
        -- what follows the closing
        have tail : ∀ Z, OR X Z → (p i 2 ≤ s → rLi Z (fun C => (A C ∨ CxI n p s i k S B m w C) ∨ (p i 0 = k ∧ ((p i 2 = s ∧ m * p i 3 < w * p i 1 ∧ C = B ||| 2 ^ i) ∨ (s < p i 2 ∧ bt S (p i 2) = 0 ∧ ∃ d, Cx n p s d (p i 2) (S + 2 ^ p i 2) (B ||| 2 ^ i) (m * p i 3) (w * p i 1) C)))) (M + cnt p k (i + 1) * wt n p S)) → (s < p i 2 → rLi Z (fun C => A C ∨ CxI n p s i k S B m w C) (M + cnt p k i * wt n p S)) → wp_X11_rounds_115 (wp_X11_rounds f) (wp_X11_rounds_3 (wp_X11_rounds f) Q (c + 1)) Q Z (nI k) (nI s) (nI S) (nI B) (lN m) (lN w) (nI i) (nI (p i 2)) (lN (m * p i 3)) (lN (w * p i 1)) := by
          intro Z oZ r1 r2
          have hZ := OR.po hO oZ
          by_cases le : p i 2 ≤ s
          · exact br_t (nI_le le (by omega)) (next Z oZ (r1 le))
          have lt : s < p i 2 := by omega
          refine br_f (nI_ge lt (by omega)) ?_
          rw [mkk.2.2]
          by_cases cb : bt S (p i 2) = 0
          rotate_left
          · have b1 : bt S (p i 2) = 1 := by have := bt_cs S (p i 2); omega
            refine br_f (by rw [b1]; decide) (next Z oZ ((r2 lt).congr (fun C => ⟨Or.inl, fun z => z.elim id (fun z => ?_)⟩) (by omega)))
            rcases z.2 with z | z
            · omega
            · exact absurd z.2.1 cb
          have ad := bt_ad hS o.2.1 cb
          have wa := wt_add (n := n) (p := p) hS o.2.1 cb
          rw [mkk.2.1 cb, or1]
          refine br_t (by rw [cb]; rfl) (mo_rounds hs f (p i 2) (S + 2 ^ p i 2) (B ||| 2 ^ i) (m * p i 3) (w * p i 1) Z _ _ _ hZ (by rw [ad.2.2]; omega) o.2.1 ad.1 hB2 (Nat.mul_pos m1 o.2.2.2.2.2.1) (Nat.mul_pos w1 o.2.2.2.1) (by rw [ad.2.2]; exact lm) (by rw [ad.2.2]; exact lw) (r2 lt) (by omega) (fun V oV rV => next V (oZ.trans oV) (rV.congr (fun C => ?_) (by omega))))
          constructor
          · rintro (z | z)
            · exact Or.inl z
            · exact Or.inr ⟨ck, Or.inr ⟨lt, cb, z⟩⟩
          · rintro (z | ⟨_, z | z⟩)
            · exact Or.inl z
            · omega
            · exact Or.inr z.2.2
        have same : (p i 2 ≤ s → ¬ (p i 2 = s ∧ m * p i 3 < w * p i 1)) → wp_X11_rounds_115 (wp_X11_rounds f) (wp_X11_rounds_3 (wp_X11_rounds f) Q (c + 1)) Q Y (nI k) (nI s) (nI S) (nI B) (lN m) (lN w) (nI i) (nI (p i 2)) (lN (m * p i 3)) (lN (w * p i 1)) := fun no =>
          tail Y oY (fun le => rY.congr (fun C => ⟨Or.inl, fun z => z.elim id (fun z => by
            rcases z.2 with z | z
            · exact absurd ⟨z.1, z.2.1⟩ (no le)
            · omega)⟩) (by omega)) (fun _ => rY)
        by_cases cl : p i 2 = s
        rotate_left
        · exact br_f (fun z => cl ((nI_eq (by omega) (by omega)).mp z)) (same (fun _ z => cl z.1))
        refine br_t (by rw [cl]) ?_
        by_cases cp : m * p i 3 < w * p i 1
        rotate_left
        · exact br_t (by rw [lg_cmp_ge, pk_lLE (by omega) (by omega)]; omega) (same (fun _ z => cp z.2))
        refine br_f (fun z => by rw [lg_cmp_ge, pk_lLE (by omega) (by omega)] at z; omega) ?_
        obtain ⟨r, e1, e2, e3, e4⟩ := rY
        have r4 : r < 4096 := by omega
        rw [e1, or1]
        refine br_f (nI_ge (b := 4096) r4 (by decide)) ⟨vp_in_nI r4 (by decide), fun Z eZ V eV => ?_⟩
        rw [nI_clamp (by omega)] at eZ
        have z14 : Z.1 90 14 = nI r := by rw [eZ, db_si_na (by decide)]; exact e1
        rw [z14, nI_1] at eV
        have oV : OR Y V := fun a j h1 h2 => by
          rw [eV]
          by_cases c2 : a = 90
          · rw [db_si_nb (fun z => h2 ⟨c2, z⟩), eZ, db_si_na h1]
          · rw [db_si_na c2, eZ, db_si_na h1]
        have v99 : ∀ j, V.1 99 j = if j = r then nI (B ||| 2 ^ i) else Y.1 99 j := fun j => by
          rw [eV, db_si_na (by decide), eZ]
          by_cases c2 : j = r
          · rw [if_pos c2, c2, db_si_hit]
          · rw [if_neg c2, db_si_nb c2]
        refine tail V (oY.trans oV) (fun le => ⟨r + 1, by rw [eV, db_si_hit], by omega, fun j hj => ?_, fun C z => ?_⟩) (fun lt => by omega)
        · rw [v99]
          by_cases c2 : j = r
          · rw [if_pos c2]
            exact ⟨_, hB2, rfl, Or.inr ⟨ck, Or.inl ⟨cl, cp, rfl⟩⟩⟩
          · rw [if_neg c2]
            obtain ⟨C, c3, c4, c5⟩ := e3 j (by omega)
            exact ⟨C, c3, c4, Or.inl c5⟩
        · rcases z with z | ⟨_, z | z⟩
          · obtain ⟨j, c3, c4⟩ := e4 C z
            exact ⟨j, by omega, by rw [v99, if_neg (by omega)]; exact c4⟩
          · exact ⟨r, by omega, by rw [v99, if_pos rfl, z.2.2]⟩
          · omega
    refine ⟨_, go n 0 (by omega) X (fun _ _ _ _ => rfl) (ra.congr (fun C => ?_) (Nat.le_add_right _ _))⟩
    exact ⟨Or.inl, fun z => z.elim id (fun ⟨j, j0, _⟩ => absurd j0 (by omega))⟩
theorem mo_findRings {X : db_St} {Q : db_St → Prop} {n : Nat} {p : Nat → Nat → Nat} (hO : PO X n p) (q : ∀ Z, OR X Z → rLi Z (isR n p) 4096 → Q Z) : wp_X11_findRings X Q := by
  have n12 := hO.1
  have ok := hO.2.1
  have w81 := wt_81 ok n12
  intro A eA
  have go : ∀ c k, k + c = 6 → ∀ B, OR X B → rLi B (fun C => ∃ s, s < k ∧ ∃ d, Cx n p s d s (2 ^ s) 0 1 1 C) (k * 81) → wp_X11_findRings_7 Q (c + 1) B (nI k) := by
    intro c
    induction c with
    | zero =>
      intro k e B oB rB
      have : k = 6 := by omega
      subst this
      exact br_t (by decide) (q B oB (rB.congr (fun C => Cx_isR ok C) (by decide)))
    | succ c ih =>
      intro k e B oB rB
      have hk : k < 6 := by omega
      have hP := OR.po hO oB
      have b1 := bt_1 ⟨k, hk⟩
      have wa := wt_add (n := n) (p := p) (S := 0) (j := k) (by decide) hk (by unfold bt; rw [Nat.zero_div])
      rw [Nat.zero_add] at wa
      refine br_f (nI_ge (b := 6) hk (by decide)) ?_
      rw [sh12' (by omega)]
      refine mo_rounds hk 8 k (2 ^ k) 0 1 1 B _ (k * 81) _ hP (by rw [b1.2.2]) hk b1.1 (by decide) (by decide) (by decide) (by rw [b1.2.2]; decide) (by rw [b1.2.2]; decide) rB (by omega) (fun Z oZ rZ => ?_)
      rw [nI_1]
      refine ih (k + 1) (by omega) Z (oB.trans oZ) (rZ.congr (fun C => ?_) (by omega))
      constructor
      · rintro (⟨s, h1, h2⟩ | h)
        · exact ⟨s, by omega, h2⟩
        · exact ⟨k, by omega, h⟩
      · rintro ⟨s, h1, h2⟩
        by_cases c2 : s = k
        · rw [c2] at h2; exact Or.inr h2
        · exact Or.inl ⟨s, by omega, h2⟩
  refine ⟨_, go 6 0 rfl A (fun a j h1 h2 => ?_) ⟨0, by rw [eA, db_si_hit]; rfl, Nat.zero_le _, fun i hi => absurd hi (by omega), fun C ⟨s, hs, _⟩ => absurd hs (by omega)⟩⟩
  rw [eA]
  by_cases c : a = 90
  · rw [db_si_nb (fun z => h2 ⟨c, z⟩)]
  · rw [db_si_na c]
theorem mo_ring {X : db_St} {Q : Int32 → db_St → Prop} {n : Nat} {p : Nat → Nat → Nat} (hO : PO X n p) (q : ∀ Z r, OR X Z → fwB (isR n p) r → Q r Z) : wp_X11_ring X Q := by
  refine mo_findRings hO (fun A oA ⟨r, e1, e2, e3, e4⟩ => ?_)
  have go : ∀ c i, i + c = r → ∀ v, fwB (fun C => ∃ j, j < i ∧ A.1 99 j = nI C ∧ C < 4096) v → wp_X11_ring_9 Q (c + 1) A v (nI i) := by
    intro c
    induction c with
    | zero =>
      intro i e v h
      rw [show i = r by omega] at h ⊢
      refine br_t (by rw [e1]; exact nI_le (Nat.le_refl _) (by omega)) (q A v oA (h.congr (fun C => ⟨fun ⟨j, h1, h2, h3⟩ => ?_, fun z => ?_⟩)))
      · obtain ⟨D, d1, d2, d3⟩ := e3 j h1
        rw [show C = D from (nI_eq (by omega) (by omega)).mp (h2.symm.trans d2)]
        exact d3
      · obtain ⟨j, h1, h2⟩ := e4 C z
        obtain ⟨D, d1, d2, d3⟩ := e3 j h1
        exact ⟨j, h1, h2, Nat.lt_of_lt_of_le (isR_lt z) (pow12 hO.1)⟩
    | succ c ih =>
      intro i e v h
      obtain ⟨C, c1, c2, c3⟩ := e3 i (by omega)
      have l := bcN_le 28 C
      have st := fwB_step (C := C) h
      have next : ∀ v, fwB (fun x => (∃ j, j < i ∧ A.1 99 j = nI x ∧ x < 4096) ∨ x = C) v → wp_X11_ring_9 Q (c + 1) A v (nI i + (1 : Int32)) := fun v hv => by
        rw [nI_1]
        refine ih (i + 1) (by omega) v (hv.congr (fun x => ⟨fun z => ?_, fun z => ?_⟩))
        · rcases z with ⟨j, z⟩ | z
          · exact ⟨j, by omega, z.2⟩
          · rw [z]; exact ⟨i, by omega, c2, c1⟩
        · obtain ⟨j, h1, h2, h3⟩ := z
          by_cases d : j = i
          · rw [d, c2] at h2
            exact Or.inr ((nI_eq (by omega) (by omega)).mp h2).symm
          · exact Or.inl ⟨j, by omega, h2, h3⟩
      refine br_f (by rw [e1]; exact nI_ge (by omega) (by omega)) ?_
      have vi : vp_in (nI i) 4096 := vp_in_nI (by omega) (by decide)
      have ei : A.1 99 (nI i).toNatClampNeg = nI C := by rw [nI_clamp (by omega)]; exact c2
      rw [ei]
      rcases fwB_cs h with e9 | ⟨b, hb, eb⟩
      · refine br_t (by rw [e9]; decide) ⟨vi, bc_M (by omega) (next _ (st.1 e9))⟩
      · rw [eb] at st ⊢
        refine br_f (nI_pos (by omega)) ⟨vi, bc_M (by omega) ?_⟩
        have st2 := st.2 b hb rfl
        by_cases d : b ≤ bcN 28 C
        · exact br_t (nI_le d (by omega)) (next _ (st2.1 d))
        · refine br_f (nI_ge (by omega) (by omega)) ⟨vi, ?_⟩
          rw [ei]
          exact bc_M (by omega) (next _ (st2.2 d))
  exact ⟨_, go r 0 (by omega) (-9) (Or.inl ⟨rfl, fun C ⟨j, h, _⟩ => absurd h (by omega)⟩)⟩
theorem mo_isStopped {X : db_St} {Q : Int32 → db_St → Prop} {n S : Nat} {p : Nat → Nat → Nat} {ok : Nat → Bool} (n12 : n ≤ 12) (hR : rLi X (isR n p) 4096) (hk : okS n p ok) (hS : S < 4096) (q0 : ¬ ok S = true → Q 0 X) (q1 : ok S = true → Q 1 X) : wp_X11_isStopped X (nI S) Q := by
  obtain ⟨r, e1, e2, e3, e4⟩ := hR
  have go : ∀ c i, i + c = r → (∀ j C, j < i → X.1 99 j = nI C → C < 4096 → C &&& S ≠ 0) → wp_X11_isStopped_2 Q (c + 1) X (nI S) (nI i) := by
    intro c
    induction c with
    | zero =>
      intro i e h
      rw [show i = r by omega] at h ⊢
      refine br_t (by rw [e1]; exact nI_le (Nat.le_refl _) (by omega)) (q1 ((hk S).mpr (fun B hB => ?_)))
      obtain ⟨j, h1, h2⟩ := e4 B hB
      exact h j B h1 h2 (Nat.lt_of_lt_of_le (isR_lt hB) (pow12 n12))
    | succ c ih =>
      intro i e h
      obtain ⟨C, c1, c2, c3⟩ := e3 i (by omega)
      refine br_f (by rw [e1]; exact nI_ge (by omega) (by omega)) ⟨vp_in_nI (by omega) (by decide), ?_⟩
      rw [nI_clamp (by omega), c2, nI_and (by omega) (by omega)]
      have la : C &&& S ≤ C := Nat.and_le_left
      by_cases z : C &&& S = 0
      · exact br_t (by rw [z]; rfl) (q0 (fun y => (hk S).mp y C c3 z))
      · refine br_f (nI_ne0 (by omega) (by omega)) ?_
        rw [nI_1]
        refine ih (i + 1) (by omega) (fun j D hj eD lD => ?_)
        by_cases d : j = i
        · rw [d, c2] at eD
          rw [← (nI_eq (by omega) (by omega)).mp eD]; exact z
        · exact h j D (by omega) eD lD
  exact ⟨_, go r 0 (by omega) (fun j C hj => absurd hj (by omega))⟩
theorem mo_stops {X : db_St} {Q : Int32 → db_St → Prop} {n : Nat} {p : Nat → Nat → Nat} {ok : Nat → Bool} (hO : PO X n p) (hk : okS n p ok) (q : ∀ Z, OR X Z → Q (nI (stB ok (2 ^ n - 1) (2 ^ n - 1))) Z) : wp_X11_stops X Q := by
  have n12 := hO.1
  have pn := pow12 n12
  have p0 : 0 < 2 ^ n := Nat.pow_pos (by decide)
  refine mo_findRings hO (fun A oA rA z2 e2 => ?_)
  have hP := OR.po hO oA
  have e307 : ((307 : Int32)).toNatClampNeg = 307 := by decide
  rw [e307, hP.2.2.2.1, sh12' (by omega), show nI (2 ^ n) - (1 : Int32) = nI (2 ^ n - 1) from pk_sub (b := 1) (by omega)] at e2
  rw [e2]
  have go : ∀ c C, C + c = 2 ^ n → wp_X11_stops_19 Q (c + 1) A (nI (stB ok (2 ^ n - 1) C)) (nI C) := by
    intro c
    induction c with
    | zero =>
      intro C e
      have sl := stB_le (ok := ok) (all := 2 ^ n - 1) (2 ^ n - 1) (by omega)
      rw [show C = (2 ^ n - 1) + 1 by omega, stB, if_neg (fun z => by omega), show 2 ^ n - 1 + 1 = 2 ^ n by omega]
      exact br_t (by rw [e307, hP.2.2.2.1, sh12' (by omega)]; exact nI_le (Nat.le_refl _) (by omega)) (q A oA)
    | succ c ih =>
      intro C e
      have ih2 := ih (C + 1) (by omega)
      rw [stB] at ih2
      have sl := stB_le (ok := ok) (all := 2 ^ n - 1) C (by omega)
      have b1 := bcN_le 28 C
      have b2 := bcN_le 28 (stB ok (2 ^ n - 1) C)
      refine br_f (by rw [e307, hP.2.2.2.1, sh12' (by omega)]; exact nI_ge (by omega) (by omega)) (bc_M (by omega) (bc_M (by omega) ?_))
      rw [nI_1]
      by_cases c2 : bcN 28 C < bcN 28 (stB ok (2 ^ n - 1) C)
      · refine br_f (nI_ge (by omega) (by omega)) (mo_isStopped n12 rA hk (by omega) (fun z => ?_) (fun z => ?_))
        · rw [if_neg (fun y => z y.2)] at ih2
          exact br_t rfl ih2
        · rw [if_pos ⟨c2, z⟩] at ih2
          exact br_f (by decide) ih2
      · rw [if_neg (fun z => c2 z.1)] at ih2
        exact br_t (nI_le (by omega) (by omega)) ih2
  have r := go (2 ^ n) 0 (by omega)
  exact ⟨_, r⟩
theorem op_18 {xs : Nat → Int32} {x3 : Int32} {X : db_St} (h : Sim X) : lc_18 xs x3 Sim X := by
  unfold lc_18 wp_X10_ring
  obtain ⟨n, hO⟩ := h.po
  exact cl_shortest hO (fun Z r oZ f => mo_ring (O53.po hO oZ) (fun V s oV g => br_t (fwB_one f g) (h.same (oZ.same.trans oV.same))))
theorem op_19 {xs : Nat → Int32} {x3 : Int32} {X : db_St} (h : Sim X) : lc_19 xs x3 Sim X := by
  unfold lc_19 wp_X10_stops
  obtain ⟨n, hO⟩ := h.po
  obtain ⟨ok, hk⟩ := okS_ex n (pov X)
  exact cl_stops hO hk (fun Z oZ => mo_stops (O53.po hO oZ) hk (fun V oV => br_t rfl (h.same (oZ.same.trans oV.same))))
