/-! the reference's least hard way; least -/
theorem mo_mostOf {X : db_St} {Q : Int32 → db_St → Prop} {P : Nat → Nat → Nat} {F : Nat → Nat} {f k w : Nat} (h : PH X P F) (ef : X.1 92 309 = nI f) (hf : f ≤ 99) (hk : k < 6) (hw : w ≤ 400) (q : Q (nI (if P k 0 = 0 then 0 else mU P F f w k)) X) : wp_X11_mostOf X (nI k) (nI w) Q := by
  have b := h.bd (f := f) hk hf
  refine mo_pay h.1 hk (i := 0) (by decide) ?_
  rw [h.2.2.1 k 0 hk (by decide)]
  by_cases c0 : P k 0 = 0
  · rw [if_pos c0] at q
    exact br_t (by rw [c0]; rfl) q
  rw [if_neg c0] at q
  refine br_f (nI_ne0 (by omega) (by omega)) ?_
  have ends : ∀ (R : Int32 → db_St → Prop) (D : Nat), D ≤ 401 → R (nI (min (P k 3) (pdP P f k * D))) X → wp_X11_pay X (nI k) (3 : Int32) (fun r1 X1 => wp_X11_perDay X1 (nI k) (fun r2 X2 => wp_X11_lesser X2 r1 (nI D * r2) (fun r3 X3 => R r3 X3))) := fun R D hD r => by
    refine mo_pay h.1 hk (i := 3) (by decide) (mo_perDay h.1 hk ef ?_)
    have m : D * pdP P f k ≤ 401 * 990 := Nat.mul_le_mul hD b.1
    rw [h.pdq hk, h.2.2.1 k 3 hk (by decide), pk_mul]
    exact mo_lesser (by omega) (by omega) (by rw [Nat.mul_comm D]; exact r)
  have fe : ∀ (d : Nat) (R : Int32 → db_St → Prop), d < 1000 → R (nI (F d)) X → wp_X11_isFeast X (nI d) R := fun d R hd r => mo_isFeast h.2.1 hd (by rw [h.2.2.2 d]; exact r)
  by_cases k3 : k = 3
  · have e : mU P F f w k = min (P k 3) (pdP P f k * ((w + 1) / 2)) := by unfold mU opD; rw [if_pos k3]
    rw [e] at q
    refine br_t (by rw [k3]; rfl) ⟨w + 1, ?_⟩
    rw [nI_1, show (2 : Int32) = nI 2 by decide, pk_div (by omega) (by decide) (by decide)]
    by_cases w0 : w ≤ 0
    · exact br_t (nI_le (b := 0) w0 (by decide)) (ends Q _ (by omega) q)
    · refine br_f (nI_nle (by omega) (by omega)) (br_f (fun z => absurd ((nI_eq (b := 0) (by omega) (by decide)).mp z) (by omega)) (br_f (fun z => absurd ((nI_eq (b := 5) (by omega) (by decide)).mp z) (by omega)) (ends Q _ (by omega) q)))
  refine br_f (fun z => k3 ((nI_eq (b := 3) (by omega) (by decide)).mp z)) ?_
  by_cases kf : k = 0 ∨ k = 5
  · have e : mU P F f w k = min (P k 3) (pdP P f k * nF F w) := by unfold mU opD; rw [if_neg k3, if_pos kf]
    rw [e] at q
    have go : ∀ c d, d + c = w → wp_X11_mostOf_29 Q (c + 1) X (nI k) (nI w) (nI (w - d + nF F d)) (nI d) := by
      intro c
      induction c with
      | zero =>
        intro d ed
        have : d = w := by omega
        subst this
        have l := nF_le F d
        refine br_t (nI_le (Nat.le_refl _) (by omega)) ?_
        rw [show d - d + nF F d = nF F d by omega]
        exact ends Q _ (by omega) q
      | succ c ih =>
        intro d ed
        have l := nF_le F d
        have ih2 := ih (d + 1) (by omega)
        rw [nF] at ih2
        have step : wp_X11_isFeast X (nI d) (fun r4 X4 => ((r4 = 0 → wp_X11_mostOf_29 Q (c + 1) X4 (nI k) (nI w) (nI (w - d + nF F d) - (0 : Int32)) (nI d + (1 : Int32))) ∧ (¬ (r4 = 0) → wp_X11_mostOf_29 Q (c + 1) X4 (nI k) (nI w) (nI (w - d + nF F d) - (1 : Int32)) (nI d + (1 : Int32))))) := by
          refine fe d _ (by omega) ?_
          rw [nI_1]
          rcases h.ft01 d with e1 | e1
          · rw [e1] at ih2 ⊢
            refine br_t rfl ?_
            rw [show nI (w - d + nF F d) - (0 : Int32) = nI (w - (d + 1) + (nF F d + (1 - 0))) by
              rw [show (0 : Int32) = nI 0 by decide, pk_sub (Nat.zero_le _)]; congr 1; omega]
            exact ih2
          · rw [e1] at ih2 ⊢
            refine br_f (by decide) ?_
            rw [show nI (w - d + nF F d) - (1 : Int32) = nI (w - (d + 1) + (nF F d + (1 - 1))) by
              rw [show (1 : Int32) = nI 1 by decide, pk_sub (by omega)]; congr 1; omega]
            exact ih2
        refine br_f (nI_ge (by omega) (by omega)) ?_
        by_cases k0 : k = 0
        · exact br_t (by rw [k0]; rfl) step
        · exact br_f (fun z => k0 ((nI_eq (b := 0) (by omega) (by decide)).mp z)) (br_t (by rw [show k = 5 by omega]; rfl) step)
    have r := go w 0 (by omega)
    rw [show w - 0 + nF F 0 = w from rfl] at r
    exact ⟨_, r⟩
  · have e : mU P F f w k = min (P k 3) (pdP P f k * w) := by unfold mU opD; rw [if_neg k3, if_neg kf]
    rw [e] at q
    refine ⟨w + 1, ?_⟩
    by_cases w0 : w ≤ 0
    · exact br_t (nI_le (b := 0) w0 (by decide)) (ends Q _ (by omega) q)
    · refine br_f (nI_nle (by omega) (by omega)) (br_f (fun z => absurd ((nI_eq (b := 0) (by omega) (by decide)).mp z) (by omega)) (br_f (fun z => absurd ((nI_eq (b := 5) (by omega) (by decide)).mp z) (by omega)) (ends Q _ (by omega) q)))
/-- none, where there is no way -/
def hv (v : Nat) : Int32 := if v < 100000000 then nI v else -9
def BH (X : db_St) (k T : Nat) (g : Nat → Nat) : Prop := ∀ n, n ≤ T → X.1 95 (1001 * k + n) = hv (g n)
theorem hv_lt {v : Nat} (h : v < 100000000) : hv v = nI v := by unfold hv; rw [if_pos h]
theorem hv_ge {v : Nat} (h : ¬ v < 100000000) : hv v = -9 := by unfold hv; rw [if_neg h]
/-- where the search of the units stands: the first of the least so far -/
def UB (g : Nat → Nat) (u : Nat) (x3 x4 : Int32) : Prop := (x3 = -9 ∧ ∀ v, v < u → 100000000 ≤ g v) ∨ ∃ b, b < u ∧ x3 = nI b ∧ x4 = nI (g b) ∧ g b < 100000000 ∧ (∀ v, v < u → g b ≤ g v) ∧ ∀ v, v < b → g b < g v
theorem mo_so78 {k9 : db_St → Int32 → Int32 → Int32 → Int32 → Int32 → Prop} {Q : Int32 → db_St → Prop} {X : db_St} {g : Nat → Nat} {x1 x2 x3 x4 x6 x7 : Int32} {u : Nat} (hu : u ≤ 1000) (h : UB g u x3 x4) (h7 : (x7 < 0 ∧ 100000000 ≤ g u) ∨ (x7 = nI (g u) ∧ g u < 100000000)) (q : ∀ y3 y4, UB g (u + 1) y3 y4 → (0 < x6 → k9 X x1 x2 y3 y4 (nI (u + 1))) ∧ (¬ 0 < x6 → Q y3 X)) : wp_X11_unitsFor_78 k9 Q X x1 x2 x3 x4 (nI u) x6 x7 := by
  unfold wp_X11_unitsFor_78
  rw [nI_1]
  rcases h7 with ⟨a, b⟩ | ⟨a, b⟩
  · refine br_t a (q x3 x4 ?_)
    rcases h with ⟨h1, h2⟩ | ⟨c, h1, h2, h3, h4, h5, h6⟩
    · exact Or.inl ⟨h1, fun v hv => by
        by_cases e : v = u
        · rw [e]; exact b
        · exact h2 v (by omega)⟩
    · exact Or.inr ⟨c, by omega, h2, h3, h4, fun v hv => by
        by_cases e : v = u
        · rw [e]; omega
        · exact h5 v (by omega), h6⟩
  · rw [a]
    refine br_f (nI_pos (by omega)) ?_
    rcases h with ⟨h1, h2⟩ | ⟨c, h1, h2, h3, h4, h5, h6⟩
    · refine br_t (by rw [h1]; decide) (q (nI u) (nI (g u)) (Or.inr ⟨u, by omega, rfl, rfl, b, fun v hv => ?_, fun v hv => ?_⟩))
      · by_cases e : v = u
        · rw [e]; exact Nat.le_refl _
        · have := h2 v (by omega); omega
      · have := h2 v hv; omega
    · rw [h2, h3]
      refine br_f (nI_pos (by omega)) ?_
      by_cases l : g c ≤ g u
      · refine br_t (nI_le l (by omega)) (q _ _ (Or.inr ⟨c, by omega, rfl, rfl, h4, fun v hv => ?_, h6⟩))
        by_cases e : v = u
        · rw [e]; exact l
        · exact h5 v (by omega)
      · refine br_f (nI_ge (by omega) (by omega)) (q _ _ (Or.inr ⟨u, by omega, rfl, rfl, b, fun v hv => ?_, fun v hv => ?_⟩))
        · by_cases e : v = u
          · rw [e]; exact Nat.le_refl _
          · have := h5 v (by omega); omega
        · have := h5 v hv; omega
theorem mo_unitsFor {X : db_St} {Q : Int32 → db_St → Prop} {P : Nat → Nat → Nat} {F : Nat → Nat} {m m2 : Nat → Nat} {k n T : Nat} (h : PH X P F) (hk : k < 6) (hT : T ≤ 1000) (hn : n ≤ T) (hm : ∀ j, j < 6 → m2 j ≤ 999) (e2 : ∀ j, m2 j = if P j 0 = 0 then 0 else m j) (em : X.1 97 k = nI (m2 k)) (bt : BH X (k + 1) T (lhC (fun j => P j 0) (fun j => P j 1) m (5 - k))) (q : Q (if lhC (fun j => P j 0) (fun j => P j 1) m (6 - k) n < 100000000 then nI (fwN (fun j => P j 0) (fun j => P j 1) m k n) else -9) X) : wp_X11_unitsFor X (nI k) (nI n) Q := by
  have b := h.bd (f := 0) hk (by decide)
  have hk1 := (pw_eq h.1 hk (show 1 < 4 by decide)).2.2.2.2.1 rfl
  rw [h.2.2.1 k 1 hk (by decide)] at hk1
  have hmk := hm k hk
  have ml : m2 k ≤ m k := by rw [e2 k]; split <;> omega
  have mn : mnU (gU (fun j => P j 0) (fun j => P j 1) m k n) (m2 k) = lhC (fun j => P j 0) (fun j => P j 1) m (6 - k) n := by
    have a := lhC_s (w := fun j => P j 0) (h := fun j => P j 1) (m := m2) (n := n) hk
    rw [lhC_mm (w := fun j => P j 0) (h := fun j => P j 1) (m := m) (m2 := m2) e2] at a
    rw [a]
    refine mnU_congr (fun u _ => ?_)
    unfold gU
    rw [lhC_mm (w := fun j => P j 0) (h := fun j => P j 1) (m := m) (m2 := m2) e2]
  -- the end, after the last unit that counts
  have fin : ∀ u y3 y4, 0 < u → u ≤ m2 k + 1 → (∀ v, u ≤ v → v ≤ m2 k → gU (fun j => P j 0) (fun j => P j 1) m k n (u - 1) ≤ gU (fun j => P j 0) (fun j => P j 1) m k n v) → UB (gU (fun j => P j 0) (fun j => P j 1) m k n) u y3 y4 → Q y3 X := by
    intro u y3 y4 u0 hu hv ub
    rcases ub with ⟨h1, h2⟩ | ⟨c, h1, h2, h3, h4, h5, h6⟩
    · have big : ¬ lhC (fun j => P j 0) (fun j => P j 1) m (6 - k) n < 100000000 := by
        rw [← mn]
        obtain ⟨v, hv1, ev⟩ := mnU_ex (gU (fun j => P j 0) (fun j => P j 1) m k n) (m2 k)
        rw [ev]
        by_cases c : v < u
        · have := h2 v c; omega
        · have := hv v (by omega) hv1
          have := h2 (u - 1) (by omega)
          omega
      rw [if_neg big] at q
      rw [h1]; exact q
    · have em2 : gU (fun j => P j 0) (fun j => P j 1) m k n c = lhC (fun j => P j 0) (fun j => P j 1) m (6 - k) n := by
        rw [← mn]
        refine (mnU_eq (fun v hv1 => ?_) ⟨c, by omega, rfl⟩).symm
        by_cases c2 : v < u
        · exact h5 v c2
        · exact Nat.le_trans (h5 (u - 1) (by omega)) (hv v (by omega) hv1)
      rw [if_pos (by rw [← em2]; exact h4), fwN_eq hk em2 (fun v hv1 => by have := h6 v hv1; omega)] at q
      rw [h2]; exact q
  have go : ∀ c u, u + c = m2 k + 1 → ∀ y3 y4, (0 < u → (u - 1) * P k 0 < n) → UB (gU (fun j => P j 0) (fun j => P j 1) m k n) u y3 y4 → wp_X11_unitsFor_9 Q (c + 1) X (nI k) (nI n) y3 y4 (nI u) := by
    intro c
    induction c with
    | zero =>
      intro u e y3 y4 _ ub
      have : u = m2 k + 1 := by omega
      subst this
      exact ⟨vp_in_nI hk (by decide), br_t (by rw [nI_clamp (by omega), em]; exact nI_lt (by omega) (by omega)) (fin _ y3 y4 (by omega) (Nat.le_refl _) (fun v h1 h2 => absurd h1 (by omega)) ub)⟩
    | succ c ih =>
      intro u e y3 y4 _ ub
      have m0 : u * P k 0 ≤ 999 * 99 := Nat.mul_le_mul (by omega) b.2.2
      have m1 : u * P k 1 ≤ 999 * 99 := Nat.mul_le_mul (by omega) hk1
      refine ⟨vp_in_nI hk (by decide), br_f (by rw [nI_clamp (by omega), em]; exact nI_nlt (by omega) (by omega)) (mo_pay h.1 hk (i := 0) (by decide) ?_)⟩
      rw [h.2.2.1 k 0 hk (by decide), pk_mul]
      have ge : gU (fun j => P j 0) (fun j => P j 1) m k n u = u * P k 1 + lhC (fun j => P j 0) (fun j => P j 1) m (5 - k) (n - u * P k 0) := rfl
      have r1 := bt (n - u * P k 0) (by omega)
      have tail : ∀ (x6 : Int32), (0 < x6 ↔ u * P k 0 < n) → ∀ z, z = X.1 95 (1001 * (k + 1) + (n - u * P k 0)) → ((z < 0 → wp_X11_unitsFor_78 (wp_X11_unitsFor_9 Q (c + 1)) Q X (nI k) (nI n) y3 y4 (nI u) x6 z) ∧ (¬ (z < 0) → wp_X11_pay X (nI k) (1 : Int32) (fun r5 X5 => wp_X11_unitsFor_78 (wp_X11_unitsFor_9 Q (c + 1)) Q X5 (nI k) (nI n) y3 y4 (nI u) x6 (z + (nI u * r5))))) := by
        intro x6 h6 z ez
        rw [r1] at ez
        have next : ∀ y3 y4, UB (gU (fun j => P j 0) (fun j => P j 1) m k n) (u + 1) y3 y4 → (0 < x6 → wp_X11_unitsFor_9 Q (c + 1) X (nI k) (nI n) y3 y4 (nI (u + 1))) ∧ (¬ 0 < x6 → Q y3 X) := by
          intro y3 y4 ub2
          refine ⟨fun a => ih (u + 1) (by omega) y3 y4 (fun _ => h6.mp a) ub2, fun a => fin (u + 1) y3 y4 (by omega) (by omega) (fun v h1 h2 => ?_) ub2⟩
          have l : ¬ u * P k 0 < n := fun z => a (h6.mpr z)
          have l2 : u * P k 0 ≤ v * P k 0 := Nat.mul_le_mul_right _ (by omega)
          have l3 : u * P k 1 ≤ v * P k 1 := Nat.mul_le_mul_right _ (by omega)
          show gU (fun j => P j 0) (fun j => P j 1) m k n u ≤ v * P k 1 + lhC (fun j => P j 0) (fun j => P j 1) m (5 - k) (n - v * P k 0)
          rw [ge, show n - u * P k 0 = 0 by omega, show n - v * P k 0 = 0 by omega]
          omega
        by_cases fin2 : lhC (fun j => P j 0) (fun j => P j 1) m (5 - k) (n - u * P k 0) < 100000000
        · rw [hv_lt fin2] at ez
          rw [ez]
          have lf : lhC (fun j => P j 0) (fun j => P j 1) m (5 - k) (n - u * P k 0) ≤ 5 * 98901 := by
            have := lhC_fin (w := fun j => P j 0) (h := fun j => P j 1) (m := m2) (fun j hj => ⟨hm j hj, by
              have := (pw_eq h.1 hj (show 1 < 4 by decide)).2.2.2.2.1 rfl
              rw [h.2.2.1 j 1 hj (by decide)] at this
              exact this⟩) (5 - k) (n - u * P k 0) (by omega)
            rw [lhC_mm (w := fun j => P j 0) (h := fun j => P j 1) (m := m) (m2 := m2) e2] at this
            exact Nat.le_trans (this fin2) (Nat.mul_le_mul_right _ (Nat.sub_le 5 k))
          refine br_f (nI_pos (by omega)) (mo_pay h.1 hk (i := 1) (by decide) ?_)
          rw [h.2.2.1 k 1 hk (by decide), pk_mul, nI_add, Nat.add_comm (lhC (fun j => P j 0) (fun j => P j 1) m (5 - k) (n - u * P k 0)) (u * P k 1), ← ge]
          exact mo_so78 (by omega) ub (Or.inr ⟨rfl, by rw [ge]; omega⟩) next
        · rw [hv_ge fin2] at ez
          rw [ez]
          exact br_t (by decide) (mo_so78 (by omega) ub (Or.inl ⟨by decide, by rw [ge]; omega⟩) next)
      by_cases l : u * P k 0 ≤ n
      · have es : nI n - nI (u * P k 0) = nI (n - u * P k 0) := pk_sub l
        have ix : (1001 : Int32) * (nI k + 1) + nI (n - u * P k 0) = nI (1001 * (k + 1) + (n - u * P k 0)) := by
          rw [nI_1, show (1001 : Int32) = nI 1001 by decide, pk_mul, nI_add]
        rw [es]
        refine br_t (nI_pos' (by omega)) ?_
        rw [ix]
        refine ⟨vp_in_nI (by omega) (by decide), fun z ez => tail _ ⟨fun a => ?_, fun a => nI_lt (a := 0) (by omega) (by omega)⟩ z (by rw [ez, nI_clamp (by omega)])⟩
        have := (nI_ltI (a := 0) (by decide) (by omega)).mp a
        omega
      · have neg : nI n - nI (u * P k 0) < 0 := pk_sneg (by omega) (by omega)
        refine br_f (fun z => absurd neg (Int32.not_lt.mpr z)) ?_
        have ix : (1001 : Int32) * (nI k + 1) + (0 : Int32) = nI (1001 * (k + 1) + (n - u * P k 0)) := by
          rw [nI_1, show (1001 : Int32) = nI 1001 by decide, pk_mul, show (0 : Int32) = nI 0 by decide, nI_add, show n - u * P k 0 = 0 by omega]
        rw [ix]
        refine ⟨vp_in_nI (by omega) (by decide), fun z ez => tail _ ⟨fun a => (Int32.lt_irrefl (Int32.lt_trans a neg)).elim, fun a => absurd a (by omega)⟩ z (by rw [ez, nI_clamp (by omega)])⟩
  exact ⟨_, go (m2 k + 1) 0 (by omega) (-9) 0 (fun z => absurd z (by omega)) (Or.inl ⟨rfl, fun v hv => absurd hv (by omega)⟩)⟩
