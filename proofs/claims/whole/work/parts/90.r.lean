/-! units at most within days; friends needed -/
theorem fstN_ex {p : Nat → Bool} : ∀ {k r j : Nat}, r ≤ j → j < r + k → p j = true → ∃ s, fstN p k r = some s ∧ s ≤ j
  | 0, r, j, h1, h2, _ => absurd h2 (by omega)
  | k + 1, r, j, h1, h2, h3 => by
    rw [fstN]
    by_cases c : p r = true
    · exact ⟨r, by rw [if_pos c], h1⟩
    · rw [if_neg c]
      have : r ≠ j := fun e => c (by rw [e]; exact h3)
      exact fstN_ex (by omega) (by omega) h3
def nF (F : Nat → Nat) : Nat → Nat
  | 0 => 0
  | w + 1 => nF F w + (1 - F w)
theorem nF_le (F : Nat → Nat) : ∀ w, nF F w ≤ w
  | 0 => Nat.le_refl _
  | w + 1 => by
    have := nF_le F w
    show nF F w + (1 - F w) ≤ w + 1
    omega
def opD (F : Nat → Nat) (k w : Nat) : Nat := if k = 3 then (w + 1) / 2 else if k = 0 ∨ k = 5 then nF F w else w
theorem opD_le (F : Nat → Nat) (k w : Nat) : opD F k w ≤ w + 1 := by
  unfold opD
  have := nF_le F w
  split
  · omega
  · split <;> omega
theorem cl_noFeast {X : db_St} {Q : Int32 → db_St → Prop} {P : Nat → Nat → Nat} {F : Nat → Nat} {w : Nat} (h : PH X P F) (hw : w ≤ 400) (q : Q (nI (nF F w)) X) : wp_X4_daysWithoutFeast X (nI w) Q := by
  have go : ∀ k d, d + k = w → wp_X4_daysWithoutFeast_4 Q (k + 1) X (nI w) (nI (nF F d)) (nI d) := by
    intro k
    induction k with
    | zero =>
      intro d e
      have : d = w := by omega
      subst this
      exact br_t (nI_le (Nat.le_refl _) (by omega)) q
    | succ k ih =>
      intro d e
      refine br_f (nI_ge (by omega) (by omega)) (cl_isFeast h.2.1 (by omega) ?_)
      rw [h.2.2.2 d]
      have ih2 := ih (d + 1) (by omega)
      rw [nF] at ih2
      rcases h.ft01 d with e1 | e1
      · rw [e1] at ih2 ⊢
        refine br_t rfl ?_
        rw [nI_1, nI_1]; exact ih2
      · rw [e1] at ih2 ⊢
        refine br_f (by decide) ?_
        rw [nI_1]; exact ih2
  exact ⟨_, go w 0 (by omega)⟩
theorem cl_openDays {X : db_St} {Q : Int32 → db_St → Prop} {P : Nat → Nat → Nat} {F : Nat → Nat} {k w : Nat} (h : PH X P F) (hk : k < 6) (hw : w ≤ 400) (q : Q (nI (opD F k w)) X) : wp_X4_openDays X (nI k) (nI w) Q := by
  unfold opD at q
  by_cases k3 : k = 3
  · rw [if_pos k3] at q
    refine br_t (by rw [k3]; rfl) ?_
    rw [nI_1, show (2 : Int32) = nI 2 by decide, pk_div (by omega) (by decide) (by decide)]
    exact q
  rw [if_neg k3] at q
  refine br_f (fun z => k3 ((nI_eq (b := 3) (by omega) (by decide)).mp z)) ?_
  by_cases k0 : k = 0
  · rw [if_pos (Or.inl k0)] at q
    exact br_t (by rw [k0]; rfl) (cl_noFeast h hw q)
  refine br_f (fun z => k0 ((nI_eq (b := 0) (by omega) (by decide)).mp z)) ?_
  by_cases k5 : k = 5
  · rw [if_pos (Or.inr k5)] at q
    exact br_t (by rw [k5]; rfl) (cl_noFeast h hw q)
  rw [if_neg (by omega)] at q
  exact br_f (fun z => k5 ((nI_eq (b := 5) (by omega) (by decide)).mp z)) q
theorem cl_unitsAtMost {X : db_St} {Q : Int32 → db_St → Prop} {P : Nat → Nat → Nat} {F : Nat → Nat} {k w n : Nat} (h : PH X P F) (hk : k < 6) (hw : w ≤ 400) (hn : n ≤ 99) (q : Q (nI (min (P k 3) (pdP P n k * opD F k w))) X) : wp_X4_unitsAtMost X (nI k) (nI w) (nI n) Q := by
  have b := h.bd (f := n) hk hn
  have o := opD_le F k w
  have m : pdP P n k * opD F k w ≤ 990 * 401 := Nat.mul_le_mul b.1 (by omega)
  refine cl_inADay h.1 hk (cl_openDays h hk hw (cl_number h.1 hk (i := 3) (by decide) (fun z ez => ?_)))
  rw [h.pdq hk, h.2.2.1 k 3 hk (by decide), pk_mul] at ez
  have e : z = nI (min (P k 3) (pdP P n k * opD F k w)) := by
    rw [ez]
    generalize pdP P n k * opD F k w = v at m ⊢
    by_cases c : v < P k 3
    · rw [if_pos (nI_lt c (by omega)), Nat.min_eq_right (by omega)]
    · rw [if_neg (nI_nlt (by omega) (by omega)), Nat.min_eq_left (by omega)]
  rw [e]; exact q
theorem uD_fr {P : Nat → Nat → Nat} {F : Nat → Nat} {f d nb k : Nat} {sp sp2 : Nat → Nat} (hk : k ≠ 4) (e : sp k = sp2 k) : uD P F f d nb sp k = uD P F 0 d nb sp2 k := by
  unfold uD
  rw [show pdP P f k = pdP P 0 k by unfold pdP; rw [if_neg hk, if_neg hk], e]
theorem spD_fr (P : Nat → Nat → Nat) (F : Nat → Nat) (f : Nat) : ∀ d, (∀ k, k ≠ 4 → spD P F f d k = spD P F 0 d k) ∧ nbD P F f d = nbD P F 0 d ∧ spD P F f d 4 = min (P 4 3) (pdP P f 4 * d)
  | 0 => ⟨fun _ _ => rfl, rfl, by rw [Nat.mul_zero]; show 0 = min _ 0; omega⟩
  | d + 1 => by
    obtain ⟨h1, h2, h3⟩ := spD_fr P F f d
    have hu : ∀ k, k ≠ 4 → uu P F f d k = uu P F 0 d k := fun k hk => by
      unfold uu
      rw [h2]
      exact uD_fr hk (h1 k hk)
    refine ⟨fun k hk => by rw [spD_s, spD_s, h1 k hk, hu k hk], ?_, ?_⟩
    · rw [nbD_s, nbD_s]
      unfold nbA
      rw [hu 3 (by decide), hu 5 (by decide)]
    · have u4 : uu P F f d 4 = min (pdP P f 4) (P 4 3 - spD P F f d 4) := by
        unfold uu uD
        rw [if_neg (fun z => by rcases of_decide_eq_true z with ⟨z, _⟩ | ⟨z, _⟩ <;> omega)]
      rw [spD_s, u4, h3, Nat.mul_succ]
      generalize pdP P f 4 * d = a
      generalize pdP P f 4 = b
      omega
theorem tnS_6 (g : Nat → Nat) (P : Nat → Nat → Nat) : tnS g P 6 = 0 + g 0 * P 0 0 + g 1 * P 1 0 + g 2 * P 2 0 + g 3 * P 3 0 + g 4 * P 4 0 + g 5 * P 5 0 := rfl
theorem tnD_fr (P : Nat → Nat → Nat) (F : Nat → Nat) (f d : Nat) : tnD P F f d = tnD P F 0 d + P 4 0 * min (P 4 3) (pdP P f 4 * d) := by
  obtain ⟨h1, h2, h3⟩ := spD_fr P F f d
  have h4 := (spD_fr P F 0 d).2.2
  have z : spD P F 0 d 4 = 0 := by
    rw [h4, show pdP P 0 4 = 0 by unfold pdP; rw [if_pos rfl, Nat.zero_mul], Nat.zero_mul, Nat.min_zero]
  unfold tnD
  rw [tnS_6, tnS_6, h1 0 (by decide), h1 1 (by decide), h1 2 (by decide), h1 3 (by decide), h1 5 (by decide), h3, z, Nat.zero_mul, Nat.mul_comm (P 4 0)]
  generalize min (P 4 3) (pdP P f 4 * d) * P 4 0 = m
  generalize spD P F 0 d 0 * P 0 0 = a0
  generalize spD P F 0 d 1 * P 1 0 = a1
  generalize spD P F 0 d 2 * P 2 0 = a2
  generalize spD P F 0 d 3 * P 3 0 = a3
  generalize spD P F 0 d 5 * P 5 0 = a5
  omega
theorem tnD_mono (P : Nat → Nat → Nat) (F : Nat → Nat) (f a : Nat) : ∀ n, tnD P F f a ≤ tnD P F f (a + n)
  | 0 => Nat.le_refl _
  | n + 1 => by
    have := tnD_mono P F f a n
    rw [← Nat.add_assoc, tnD_s]
    omega
theorem cl_friendsToPay {X : db_St} {Q : Int32 → db_St → Prop} {P : Nat → Nat → Nat} {F : Nat → Nat} {o w : Nat} (h : PH X P F) (hw : w ≤ 400) (ho : o ≤ 4000) (q : ∀ Z, O43 X Z → Q (ofO (fstN (fun n => decide (o ≤ tnD P F n w)) 100 0)) Z) : wp_X3_friendsToPay X (nI o) (nI w) Q := by
  refine cl_begin (f := 0) rfl (fun A oA cA => ?_)
  have fr : ∀ k n, n + k = 100 → ∀ B, O43 X B → B.1 43 6 = nI (tnD P F 0 w) → (∀ Z, O43 X Z → Q (ofO (fstN (fun n => decide (o ≤ tnD P F n w)) k n)) Z) → wp_X3_friendsToPay_35 Q (k + 1) B (nI o) (nI w) (nI (P 4 0)) (nI n) := by
    intro k
    induction k with
    | zero =>
      intro n e B oB cB q
      have : n = 100 := by omega
      subst this
      exact br_t (by decide) (q B oB)
    | succ k ih =>
      intro n e B oB cB q
      rw [fstN] at q
      have b := h.tn n w
      refine br_f (nI_nlt (a := 99) (b := n) (by omega) (by decide)) (cl_unitsAtMost (k := 4) (oB.ph h) (by decide) hw (by omega) ?_)
      rw [cB, pk_mul, nI_add]
      have eo : opD F 4 w = w := by unfold opD; rw [if_neg (by decide), if_neg (by decide)]
      rw [eo, ← tnD_fr, nI_1]
      by_cases g : tnD P F n w < o
      · rw [if_neg (show ¬ decide (o ≤ tnD P F n w) = true from fun z => absurd (of_decide_eq_true z) (by omega))] at q
        exact br_t (nI_lt g (by omega)) (ih (n + 1) (by omega) B oB cB q)
      · rw [if_pos (show decide (o ≤ tnD P F n w) = true from decide_eq_true (by omega))] at q
        exact br_f (nI_nlt (by omega) (by omega)) (q B oB)
  have days : ∀ k d, d + k = w → ∀ B, O43 X B → CSt B (fun _ => 0) (spD P F 0 d) 0 d (nbD P F 0 d) (tnD P F 0 d) → wp_X3_friendsToPay_7 Q (k + 1) B (nI o) (nI w) (nI d) := by
    intro k
    induction k with
    | zero =>
      intro d e B oB cB
      have : d = w := by omega
      subst this
      refine br_t (nI_le (Nat.le_refl _) (by omega)) (cl_number (k := 4) (i := 0) (oB.ph h).1 (by decide) (by decide) ⟨101, ?_⟩)
      rw [(oB.ph h).2.2.1 4 0 (by decide) (by decide)]
      exact fr 100 0 rfl B oB cB.2.2.2.2.2 q
    | succ k ih =>
      intro d e B oB cB
      refine br_f (nI_ge (by omega) (by omega)) (cl_spendDay (oB.ph h) (by omega) (by decide) cB (fun Z oZ cZ => ?_))
      rw [nI_1]
      exact ih (d + 1) (by omega) Z (oB.trans oZ) cZ
  exact ⟨_, days w 0 (by omega) A oA (cA.congr (fun _ _ => rfl) (fun _ _ => rfl) rfl (tnD_0 P F 0).symm)⟩
theorem mo_needed {X : db_St} {Q : Int32 → db_St → Prop} {P : Nat → Nat → Nat} {F : Nat → Nat} {D w : Nat} (h : PH X P F) (hw : w ≤ 400) (hD : D ≤ 400) (q : ∀ Z, O98 X Z → Q (ofO (fstN (fun n => decide (10 * D ≤ tnD P F n w)) 100 0)) Z) : ∃ f_, wp_X11_needed_53 Q f_ X (nI D) (nI w) (X.1 92 ((309 : Int32)).toNatClampNeg) (-9 : Int32) (0 : Int32) := by
  rw [show ((309 : Int32)).toNatClampNeg = 309 by decide]
  have back : ∀ A, (∀ a j, a ≠ 98 → ¬ (a = 92 ∧ j = 309) → A.1 a j = X.1 a j) → ∀ Z, Z = db_si A 92 ((309 : Int32)).toNatClampNeg (X.1 92 309) → O98 X Z := fun A oA Z eZ a j ha => by
    rw [eZ, show ((309 : Int32)).toNatClampNeg = 309 by decide]
    by_cases c : a = 92
    · by_cases c2 : j = 309
      · rw [db_si_at c c2, c, c2]
      · rw [db_si_nb c2]; exact oA a j ha (fun z => c2 z.2)
    · rw [db_si_na c]; exact oA a j ha (fun z => c z.1)
  have go : ∀ k n, n + k = 100 → ∀ A, (∀ a j, a ≠ 98 → ¬ (a = 92 ∧ j = 309) → A.1 a j = X.1 a j) → (∀ Z, O98 X Z → Q (ofO (fstN (fun n => decide (10 * D ≤ tnD P F n w)) k n)) Z) → wp_X11_needed_53 Q (k + 1) A (nI D) (nI w) (X.1 92 309) (-9 : Int32) (nI n) := by
    intro k
    induction k with
    | zero =>
      intro n e A oA q
      have : n = 100 := by omega
      subst this
      exact br_t (by decide) (fun Z eZ => q Z (back A oA Z eZ))
    | succ k ih =>
      intro n e A oA q
      rw [fstN] at q
      refine br_f (nI_ge (b := 100) (by omega) (by decide)) (br_f (by decide) (fun B eB => ?_))
      rw [show ((309 : Int32)).toNatClampNeg = 309 by decide] at eB
      have oB : ∀ a j, a ≠ 98 → ¬ (a = 92 ∧ j = 309) → B.1 a j = X.1 a j := fun a j ha hb => by
        rw [eB]
        by_cases c : a = 92
        · rw [db_si_nb (fun z => hb ⟨c, z⟩)]; exact oA a j ha hb
        · rw [db_si_na c]; exact oA a j ha hb
      have hB : PH B P F := h.keep (fun j _ _ => oB 92 j (by decide) (by omega)) (fun j => oB 37 j (by decide) (by omega)) (oB 36 1 (by decide) (by omega))
      refine mo_soonestOf hB (by rw [eB, db_si_hit]) (by omega) hD (fun V oV => ?_)
      have oV2 : ∀ a j, a ≠ 98 → ¬ (a = 92 ∧ j = 309) → V.1 a j = X.1 a j := fun a j ha hb => (oV a j ha).trans (oB a j ha hb)
      rw [nI_1]
      cases c : fstN (fun d => decide (10 * D ≤ tnD P F n d)) 401 0 with
      | none =>
        have g : ¬ decide (10 * D ≤ tnD P F n w) = true := fun z => by
          obtain ⟨s, e1, _⟩ := fstN_ex (p := fun d => decide (10 * D ≤ tnD P F n d)) (k := 401) (r := 0) (j := w) (by omega) (by omega) z
          rw [e1] at c; exact absurd c (by simp)
        rw [if_neg g] at q
        exact br_t (by decide) (ih (n + 1) (by omega) V oV2 q)
      | some d =>
        obtain ⟨_, d1, d2⟩ := fstN_lt c
        refine br_f (nI_pos (by omega)) ?_
        by_cases g : w < d
        · have g2 : ¬ decide (10 * D ≤ tnD P F n w) = true := fun z => by
            obtain ⟨s, e1, e2⟩ := fstN_ex (p := fun d => decide (10 * D ≤ tnD P F n d)) (k := 401) (r := 0) (j := w) (by omega) (by omega) z
            rw [e1] at c
            have := Option.some.inj c
            omega
          rw [if_neg g2] at q
          exact br_t (nI_lt g (by omega)) (ih (n + 1) (by omega) V oV2 q)
        · have g2 : decide (10 * D ≤ tnD P F n w) = true := decide_eq_true (by
            have a := of_decide_eq_true d2
            have b := tnD_mono P F n d (w - d)
            rw [show d + (w - d) = w by omega] at b
            omega)
          rw [if_pos g2] at q
          refine br_f (nI_nlt (by omega) (by omega)) ?_
          by_cases c9 : n + 1 = 100
          · rw [c9]
            exact br_t (by decide) (fun Z eZ => q Z (back V oV2 Z eZ))
          · exact br_f (nI_ge (b := 100) (by omega) (by decide)) (br_t (nI_pos' (by omega)) (fun Z eZ => q Z (back V oV2 Z eZ)))
  exact ⟨_, go 100 0 rfl X (fun _ _ _ _ => rfl) q⟩
theorem op_15 {xs : Nat → Int32} {x3 : Int32} {X : db_St} (h : Sim X) : lc_15 xs x3 Sim X := by
  unfold lc_15
  generalize xs ((x3 + (1 : Int32))).toNatClampNeg = a
  generalize xs ((x3 + (2 : Int32))).toNatClampNeg = b
  unfold wp_X10_needed wp_X11_needed
  by_cases h0 : a < 0
  · exact br_t h0 (rf_c4 (br_t h0 (rf_m4 (br_t rfl (sim_ref h)))))
  by_cases h1 : (1 : Int32) ≤ b
  rotate_left
  · exact br_f h0 (br_f h1 (rf_c4 (br_f h0 (br_f h1 (rf_m4 (br_t rfl (sim_ref h)))))))
  by_cases h2 : (400 : Int32) < a
  · exact br_f h0 (br_t h1 (br_t h2 (rf_c6 (br_f h0 (br_t h1 (br_t h2 (rf_m6 (br_t rfl (sim_ref h)))))))))
  by_cases h3 : b ≤ (400 : Int32)
  rotate_left
  · exact br_f h0 (br_t h1 (br_f h2 (br_f h3 (rf_c6 (br_f h0 (br_t h1 (br_f h2 (br_f h3 (rf_m6 (br_t rfl (sim_ref h)))))))))))
  obtain ⟨D, hD, rfl⟩ := nI_of2 (M := 400) (n := 400) (by decide) h0 (Int32.not_lt.mp h2)
  obtain ⟨w, hw, rfl⟩ := nI_of2 (x := b) (M := 400) (n := 400) (by decide) (fun z => by
    rw [Int32.lt_iff_toInt_lt] at z
    rw [Int32.le_iff_toInt_le] at h1
    rw [show ((0 : Int32)).toInt = 0 by decide] at z
    rw [show ((1 : Int32)).toInt = 1 by decide] at h1
    omega) h3
  obtain ⟨g, k0, k1, k2⟩ := h.2.2.2.1.2.2.2.2.2.2.1
  refine br_f h0 (br_t h1 (br_f h2 (br_t h3 ?_)))
  rw [show (10 : Int32) = nI 10 by decide, pk_mul, Nat.mul_comm D 10]
  exact cl_friendsToPay h.ph hw (by omega) (fun Z oZ => br_f h0 (br_t h1 (br_f h2 (br_t h3 (mo_needed (oZ.ph h.ph) hw hD (fun V oV => br_t rfl (h.same (oZ.same.trans oV.same))))))))
