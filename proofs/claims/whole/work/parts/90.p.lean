/-! the course of days: what is spent at the start of each -/
def uD (P : Nat → Nat → Nat) (F : Nat → Nat) (f d nb : Nat) (sp : Nat → Nat) (k : Nat) : Nat := if brd F d nb k then 0 else min (pdP P f k) (P k 3 - sp k)
def cD (P : Nat → Nat → Nat) (F : Nat → Nat) (f : Nat) : Nat → (Nat → Nat) × Nat
  | 0 => (fun _ => 0, 0)
  | d + 1 => (fun k => (cD P F f d).1 k + uD P F f d (cD P F f d).2 (cD P F f d).1 k, nbA (uD P F f d (cD P F f d).2 (cD P F f d).1))
def spD (P : Nat → Nat → Nat) (F : Nat → Nat) (f d k : Nat) : Nat := (cD P F f d).1 k
def nbD (P : Nat → Nat → Nat) (F : Nat → Nat) (f d : Nat) : Nat := (cD P F f d).2
def uu (P : Nat → Nat → Nat) (F : Nat → Nat) (f d k : Nat) : Nat := uD P F f d (nbD P F f d) (spD P F f d) k
theorem spD_s (P : Nat → Nat → Nat) (F : Nat → Nat) (f d k : Nat) : spD P F f (d + 1) k = spD P F f d k + uu P F f d k := rfl
theorem nbD_s (P : Nat → Nat → Nat) (F : Nat → Nat) (f d : Nat) : nbD P F f (d + 1) = nbA (uu P F f d) := rfl
theorem nbA_le (g : Nat → Nat) : nbA g ≤ 1 := by unfold nbA; split <;> omega
theorem nbD_le (P : Nat → Nat → Nat) (F : Nat → Nat) (f : Nat) : ∀ d, nbD P F f d ≤ 1
  | 0 => Nat.zero_le _
  | d + 1 => by rw [nbD_s]; exact nbA_le _
theorem uu_le (P : Nat → Nat → Nat) (F : Nat → Nat) (f d k : Nat) : uu P F f d k ≤ P k 3 - spD P F f d k ∧ uu P F f d k ≤ pdP P f k := by
  unfold uu uD
  split
  · exact ⟨Nat.zero_le _, Nat.zero_le _⟩
  · exact ⟨Nat.min_le_right _ _, Nat.min_le_left _ _⟩
theorem spD_le (P : Nat → Nat → Nat) (F : Nat → Nat) (f k : Nat) : ∀ d, spD P F f d k ≤ P k 3
  | 0 => Nat.zero_le _
  | d + 1 => by
    have a := (uu_le P F f d k).1
    have b := spD_le P F f k d
    rw [spD_s]; omega
def tnS (g : Nat → Nat) (P : Nat → Nat → Nat) : Nat → Nat
  | 0 => 0
  | k + 1 => tnS g P k + g k * P k 0
def tnD (P : Nat → Nat → Nat) (F : Nat → Nat) (f d : Nat) : Nat := tnS (spD P F f d) P 6
theorem tnS_add (a b : Nat → Nat) (P : Nat → Nat → Nat) : ∀ i, tnS (fun k => a k + b k) P i = tnS a P i + tnS b P i
  | 0 => rfl
  | i + 1 => by
    show tnS (fun k => a k + b k) P i + (a i + b i) * P i 0 = (tnS a P i + a i * P i 0) + (tnS b P i + b i * P i 0)
    rw [tnS_add a b P i, Nat.add_mul]
    generalize tnS a P i = x; generalize tnS b P i = y; generalize a i * P i 0 = z; generalize b i * P i 0 = w
    omega
theorem tnS_zero (P : Nat → Nat → Nat) : ∀ i, tnS (fun _ => 0) P i = 0
  | 0 => rfl
  | i + 1 => by
    show tnS (fun _ => 0) P i + 0 * P i 0 = 0
    rw [tnS_zero P i, Nat.zero_mul]
theorem tnS_le {g : Nat → Nat} {P : Nat → Nat → Nat} (h : ∀ k, k < 6 → g k ≤ 999 ∧ P k 0 ≤ 99) : ∀ i, i ≤ 6 → tnS g P i ≤ i * 98901
  | 0, _ => Nat.zero_le _
  | i + 1, hi => by
    have a := tnS_le h i (by omega)
    have b := h i (by omega)
    have c : g i * P i 0 ≤ 999 * 99 := Nat.mul_le_mul b.1 b.2
    show tnS g P i + g i * P i 0 ≤ _
    generalize g i * P i 0 = z at c ⊢
    omega
theorem tnD_0 (P : Nat → Nat → Nat) (F : Nat → Nat) (f : Nat) : tnD P F f 0 = 0 := tnS_zero P 6
theorem tnD_s (P : Nat → Nat → Nat) (F : Nat → Nat) (f d : Nat) : tnD P F f (d + 1) = tnD P F f d + tnS (uu P F f d) P 6 := tnS_add (spD P F f d) (uu P F f d) P 6
theorem PH.tn {X : db_St} {P : Nat → Nat → Nat} {F : Nat → Nat} (h : PH X P F) (f d : Nat) : tnD P F f d ≤ 593406 :=
  tnS_le (fun k hk => by
    have b := h.bd (f := 0) hk (by decide)
    exact ⟨Nat.le_trans (spD_le P F f k d) b.2.1, b.2.2⟩) 6 (by decide)
theorem CSt.congr {Y : db_St} {td td2 sp sp2 : Nat → Nat} {f d nb tn nb2 tn2 : Nat} (c : CSt Y td sp f d nb tn) (h1 : ∀ k, k < 6 → td k = td2 k) (h2 : ∀ k, k < 6 → sp k = sp2 k) (h3 : nb = nb2) (h4 : tn = tn2) : CSt Y td2 sp2 f d nb2 tn2 := by
  obtain ⟨c1, c2, c3, c4, c5, c6⟩ := c
  exact ⟨fun k hk => by rw [← h1 k hk]; exact c1 k hk, fun k hk => by rw [← h2 k hk]; exact c2 k hk, c3, c4, by rw [← h3]; exact c5, by rw [← h4]; exact c6⟩
theorem cl_spendDay {Y : db_St} {Q : db_St → Prop} {P : Nat → Nat → Nat} {F : Nat → Nat} {f d : Nat} (h : PH Y P F) (hd : d < 1000) (hf : f ≤ 99) (c : CSt Y (fun _ => 0) (spD P F f d) f d (nbD P F f d) (tnD P F f d)) (q : ∀ Z, O43 Y Z → CSt Z (fun _ => 0) (spD P F f (d + 1)) f (d + 1) (nbD P F f (d + 1)) (tnD P F f (d + 1)) → Q Z) : wp_X3_spendDay Y Q := by
  have go : ∀ n i, i + n = 6 → ∀ A, O43 Y A → CSt A (fun j => if j < i then uu P F f d j else 0) (fun j => if j < i then spD P F f d j + uu P F f d j else spD P F f d j) f d (nbD P F f d) (tnD P F f d + tnS (uu P F f d) P i) → wp_X3_spendDay_2 Q (n + 1) A (nI i) := by
    intro n
    induction n with
    | zero =>
      intro i e A oA cA
      have : i = 6 := by omega
      subst this
      have u3 := (h.bd (f := f) (show 3 < 6 by decide) hf).1
      have u5 := (h.bd (f := f) (show 5 < 6 by decide) hf).1
      have v3 := (uu_le P F f d 3).2
      have v5 := (uu_le P F f d 5).2
      refine br_t (by decide) (cl_endDay cA (by show uu P F f d 3 < _; omega) (by show uu P F f d 5 < _; omega) (fun Z oZ cZ => q Z (oA.trans oZ) (cZ.congr (fun k _ => rfl) (fun k hk => ?_) ?_ (tnD_s P F f d).symm)))
      · show (if k < 6 then _ else _) = _
        rw [if_pos hk, spD_s]
      · rw [nbD_s]; rfl
    | succ n ih =>
      intro i e A oA cA
      have hi : i < 6 := by omega
      have hA := oA.ph h
      refine br_f (nI_ge (b := 6) hi (by decide)) (cl_open hA cA hi hd (nbD_le P F f d) hf (by show (if i < i then _ else 0) ≤ _; rw [if_neg (Nat.lt_irrefl i)]; exact Nat.zero_le _) (by show (if i < i then _ else _) ≤ _; rw [if_neg (Nat.lt_irrefl i)]; exact spD_le P F f i d) ?_)
      have eu : opn P F f d (nbD P F f d) (fun j => if j < i then uu P F f d j else 0) (fun j => if j < i then spD P F f d j + uu P F f d j else spD P F f d j) i = uu P F f d i := by
        unfold opn uu uD
        simp only [Nat.lt_irrefl, if_false, Nat.sub_zero]
      rw [eu]
      refine cl_spend hA cA hi (fun Z oZ cZ => ?_)
      rw [nI_1]
      refine ih (i + 1) (by omega) Z (oA.trans oZ) (cZ.congr (fun k hk => ?_) (fun k hk => ?_) rfl (Nat.add_assoc _ _ _))
      · show (if k = i then (if i < i then uu P F f d i else 0) + uu P F f d i else if k < i then uu P F f d k else 0) = if k < i + 1 then uu P F f d k else 0
        by_cases e1 : k = i
        · subst e1
          rw [if_pos rfl, if_neg (Nat.lt_irrefl k), if_pos (Nat.lt_succ_self k), Nat.zero_add]
        · rw [if_neg e1]
          by_cases e2 : k < i
          · rw [if_pos e2, if_pos (by omega)]
          · rw [if_neg e2, if_neg (by omega)]
      · show (if k = i then (if i < i then spD P F f d i + uu P F f d i else spD P F f d i) + uu P F f d i else if k < i then spD P F f d k + uu P F f d k else spD P F f d k) = if k < i + 1 then spD P F f d k + uu P F f d k else spD P F f d k
        by_cases e1 : k = i
        · subst e1
          rw [if_pos rfl, if_neg (Nat.lt_irrefl k), if_pos (Nat.lt_succ_self k)]
        · rw [if_neg e1]
          by_cases e2 : k < i
          · rw [if_pos e2, if_pos (by omega)]
          · rw [if_neg e2, if_neg (by omega)]
  exact ⟨_, go 6 0 rfl Y O43.rfl (c.congr (fun k _ => (if_neg (Nat.not_lt_zero k)).symm) (fun k _ => (if_neg (Nat.not_lt_zero k)).symm) rfl rfl)⟩
theorem cl_daysToPay {X : db_St} {Q : Int32 → db_St → Prop} {P : Nat → Nat → Nat} {F : Nat → Nat} {f o : Nat} (h : PH X P F) (hf : f ≤ 99) (e : X.1 36 2 = nI f) (ho : o ≤ 4000) (q : ∀ Z, O43 X Z → Q (ofO (fstN (fun d => decide (o ≤ tnD P F f d)) 401 0)) Z) : wp_X3_daysToPay X (nI o) Q := by
  refine cl_begin e (fun A oA cA => ?_)
  have go : ∀ k d, d + k = 401 → ∀ B, O43 X B → CSt B (fun _ => 0) (spD P F f d) f d (nbD P F f d) (tnD P F f d) → (∀ Z, O43 X Z → Q (ofO (fstN (fun d => decide (o ≤ tnD P F f d)) k d)) Z) → wp_X3_daysToPay_13 Q (k + 1) B (nI o) (nI d) := by
    intro k
    induction k with
    | zero =>
      intro d e B oB cB q
      have : d = 401 := by omega
      subst this
      exact br_t (by decide) (q B oB)
    | succ k ih =>
      intro d e B oB cB q
      have b := h.tn f d
      refine br_f (nI_nlt (a := 400) (b := d) (by omega) (by decide)) ?_
      rw [fstN] at q
      by_cases g : tnD P F f d < o
      · rw [if_neg (show ¬ decide (o ≤ tnD P F f d) = true from fun z => absurd (of_decide_eq_true z) (by omega))] at q
        refine br_t (by rw [cB.2.2.2.2.2]; exact nI_lt g (by omega)) (cl_spendDay (oB.ph h) (by omega) hf cB (fun Z oZ cZ => ?_))
        rw [nI_1]
        exact ih (d + 1) (by omega) Z (oB.trans oZ) cZ q
      · rw [if_pos (show decide (o ≤ tnD P F f d) = true from decide_eq_true (by omega))] at q
        exact br_f (by rw [cB.2.2.2.2.2]; exact nI_nlt (by omega) (by omega)) (q B oB)
  exact ⟨_, go 401 0 rfl A oA (cA.congr (fun _ _ => rfl) (fun _ _ => rfl) rfl (tnD_0 P F f).symm) q⟩
