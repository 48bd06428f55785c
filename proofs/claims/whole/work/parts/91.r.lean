/-! the class's least hard way -/
def BT (X : db_St) (k T : Nat) (g : Nat → Nat) : Prop := ∀ n, n ≤ T → X.1 47 (k * 1001 + n) = nI (g n)
theorem cl_offerPart {X : db_St} {Q : db_St → Prop} {P : Nat → Nat → Nat} {F : Nat → Nat} {k p T : Nat} {g : Nat → Nat} (h : PH X P F) (hk : k < 6) (hT : T ≤ 1000) (hg : ∀ n, n ≤ T → g n ≤ 100000000) (hp : p ≤ 999) (bt : BT X k T g) (q : ∀ Z, (∀ a j, (a ≠ 47 ∨ j < k * 1001 ∨ k * 1001 + T < j) → Z.1 a j = X.1 a j) → BT Z k T (fun n => if n = 0 then g 0 else min (p * P k 1 + g (n - p * P k 0)) (g n)) → Q Z) : wp_X1_offerPart X (nI k) (nI p) (nI T) Q := by
  have b := h.bd (f := 0) hk (by decide)
  have hk1 := (pw_eq h.1 hk (show 1 < 4 by decide)).2.2.2.2.1 rfl
  rw [h.2.2.1 k 1 hk (by decide)] at hk1
  refine cl_number h.1 hk (i := 0) (by decide) (cl_number h.1 hk (i := 1) (by decide) ?_)
  rw [h.2.2.1 k 0 hk (by decide), h.2.2.1 k 1 hk (by decide), show (1001 : Int32) = nI 1001 by decide, pk_mul, pk_mul, pk_mul]
  have b1 : p * P k 0 ≤ 999 * 99 := Nat.mul_le_mul hp b.2.2
  have b2 : p * P k 1 ≤ 999 * 99 := Nat.mul_le_mul hp hk1
  generalize p * P k 0 = w at b1 q ⊢
  generalize p * P k 1 = v at b2 q ⊢
  have go : ∀ o, o ≤ T → ∀ A, (∀ a j, (a ≠ 47 ∨ j < k * 1001 ∨ k * 1001 + T < j) → A.1 a j = X.1 a j) → (∀ n, n ≤ T → A.1 47 (k * 1001 + n) = nI (if n ≤ o then g n else min (v + g (n - w)) (g n))) → wp_X1_offerPart_36 Q (o + 1) A (nI (k * 1001)) (nI w) (nI v) (nI o) := by
    intro o
    induction o with
    | zero =>
      intro _ A oA rA
      refine br_t (by decide) (q A oA (fun n hn => ?_))
      rw [rA n hn]
      show _ = nI (if n = 0 then g 0 else _)
      by_cases c : n = 0
      · rw [if_pos (by omega), if_pos c, c]
      · rw [if_neg (by omega), if_neg c]
    | succ o ih =>
      intro ho A oA rA
      have g1 := hg (o + 1 - w) (by omega)
      have g2 := hg (o + 1) ho
      have e1 : A.1 47 (k * 1001 + (o + 1 - w)) = nI (g (o + 1 - w)) := by rw [rA _ (by omega), if_pos (by omega)]
      have e2 : A.1 47 (k * 1001 + (o + 1)) = nI (g (o + 1)) := by rw [rA _ (by omega), if_pos (by omega)]
      refine br_f (nI_nle (by omega) (by omega)) (fun z1 ez1 => ?_)
      rw [mx0 (by omega) (by omega)] at ez1
      rw [ez1, nI_add, nI_add]
      refine ⟨vp_in_nI (by omega) (by decide), vp_in_nI (by omega) (by decide), fun z4 ez4 => ⟨vp_in_nI (by omega) (by decide), fun Z eZ => ?_⟩⟩
      rw [nI_clamp (by omega), nI_clamp (by omega), e1, e2, nI_add, mn2 (by omega) (by omega), Nat.add_comm (g (o + 1 - w)) v] at ez4
      rw [nI_clamp (by omega), ez4] at eZ
      rw [pk_m1]
      refine ih (by omega) Z (fun a j hj => ?_) (fun n hn => ?_)
      · rw [eZ]
        by_cases c : a = 47
        · rw [db_si_nb (by omega)]; exact oA a j hj
        · rw [db_si_na c]; exact oA a j hj
      · rw [eZ]
        by_cases c : n = o + 1
        · rw [c, db_si_hit, if_neg (by omega)]
        · rw [db_si_nb (by omega), rA n hn]
          by_cases c2 : n ≤ o
          · rw [if_pos (by omega), if_pos c2]
          · rw [if_neg (by omega), if_neg c2]
  refine ⟨_, go T (Nat.le_refl _) X (fun _ _ _ => rfl) (fun n hn => ?_)⟩
  rw [if_pos hn]; exact bt n hn
theorem sh_1 : ∀ b : Fin 10, (1 : Int32) <<< (nI b.val &&& 31) = nI (2 ^ b.val) := by decide +kernel
theorem db_sa_hit {X : db_St} {k : Nat} {f : Nat → Int32} {b : Nat} : (db_sa X k f).1 k b = f b := by rw [db_sa_1, if_pos rfl]
theorem cl_fillLevel {X : db_St} {Q : db_St → Prop} {P : Nat → Nat → Nat} {F : Nat → Nat} {k m T : Nat} {g : Nat → Nat} (h : PH X P F) (hk : k < 6) (hT : T ≤ 1000) (hg : ∀ n, g n ≤ 100000000) (hg0 : g 0 = 0) (hm : m ≤ 999) (em : X.1 48 k = nI m) (bt : BT X (k + 1) T g) (q : ∀ Z, (∀ a j, (a ≠ 47 ∨ j < k * 1001 ∨ k * 1001 + 1000 < j) → Z.1 a j = X.1 a j) → BT Z k T (fun n => mnU (fun u => u * P k 1 + g (n - u * P k 0)) m) → Q Z) : wp_X1_fillLevel X (nI k) (nI T) Q := by
  unfold wp_X1_fillLevel
  rw [show (1001 : Int32) = nI 1001 by decide, pk_mul, nI_add]
  refine ⟨⟨⟨nI_pos (by omega), nI_pos (by omega), nI_pos (by omega)⟩, ?_, ?_⟩, fun A eA => ⟨vp_in_nI hk (by decide), ?_⟩⟩
  · rw [nI_clamp (by omega), nI_clamp (by omega)]; omega
  · rw [nI_clamp (by omega), nI_clamp (by omega)]; omega
  rw [nI_clamp (by omega), nI_clamp (by omega), nI_clamp (by omega)] at eA
  have oA : ∀ a j, (a ≠ 47 ∨ j < k * 1001 ∨ k * 1001 + 1000 < j) → A.1 a j = X.1 a j := fun a j hj => by
    rw [eA]
    by_cases c : a = 47
    · rw [c, db_sa_hit, pk_cpy_out (by omega)]
    · rw [db_sa_na c]
  have bA : BT A k T (fun n => mnU (fun u => u * P k 1 + g (n - u * P k 0)) 0) := fun n hn => by
    rw [eA, db_sa_hit, pk_cpy_in (by omega) (by omega)]
    have := bt n hn
    rw [show k * 1001 + 1001 + (k * 1001 + n - k * 1001) = (k + 1) * 1001 + n by omega, this]
    show _ = nI (0 * P k 1 + g (n - 0 * P k 0))
    rw [Nat.zero_mul, Nat.zero_mul, Nat.zero_add, Nat.sub_zero]
  have em2 : A.1 48 (nI k).toNatClampNeg = nI m := by rw [nI_clamp (by omega), oA 48 k (by omega)]; exact em
  rw [em2]
  have le : ∀ s n, mnU (fun u => u * P k 1 + g (n - u * P k 0)) s ≤ 100000000 := fun s n => by
    refine Nat.le_trans (mnU_le (u := 0) (Nat.zero_le _)) ?_
    show 0 * P k 1 + g (n - 0 * P k 0) ≤ _
    rw [Nat.zero_mul, Nat.zero_add]; exact hg _
  have at0 : ∀ s, mnU (fun u => u * P k 1 + g (0 - u * P k 0)) s = 0 := fun s => by
    refine mnU_eq (fun _ _ => Nat.zero_le _) ⟨0, Nat.zero_le _, ?_⟩
    show 0 * P k 1 + g (0 - _) = 0
    rw [Nat.zero_mul, Nat.zero_sub, hg0]
  have go : ∀ c b, b + c = 10 → ∀ B s, s = min m (2 ^ b - 1) → (∀ a j, (a ≠ 47 ∨ j < k * 1001 ∨ k * 1001 + 1000 < j) → B.1 a j = X.1 a j) → BT B k T (fun n => mnU (fun u => u * P k 1 + g (n - u * P k 0)) s) → wp_X1_fillLevel_37 Q (c + 1) B (nI k) (nI T) (nI (m - s)) (nI b) := by
    intro c
    induction c with
    | zero =>
      intro b e B s es oB bB
      have : b = 10 := by omega
      subst this
      have : s = m := by rw [es]; show min m 1023 = m; omega
      rw [this] at bB
      exact br_t (by decide) (q B oB bB)
    | succ c ih =>
      intro b e B s es oB bB
      have hb : b < 10 := by omega
      refine br_f (nI_ge (b := 10) hb (by decide)) ?_
      by_cases g0 : m - s = 0
      · have : s = m := by omega
        rw [this] at bB
        exact br_t (by rw [g0]; decide) (q B oB bB)
      have s1 : s = 2 ^ b - 1 := by omega
      have pp : 1 ≤ 2 ^ b := Nat.one_le_two_pow
      refine br_f (nI_nle (by omega) (by omega)) (fun z ez => ?_)
      have hp2 : (2 : Nat) ^ b ≤ 512 := Nat.pow_le_pow_right (n := 2) (by decide) (show b ≤ 9 by omega)
      rw [show (1 : Int32) <<< (nI b &&& 31) = nI (2 ^ b) from sh_1 ⟨b, hb⟩, mn2 (by omega) (by omega)] at ez
      rw [ez]
      have hB : PH B P F := h.keep (fun j _ _ => oB 92 j (by omega)) (fun j => oB 37 j (by omega)) (oB 36 1 (by omega))
      refine cl_offerPart hB hk hT (fun n _ => le s n) (by omega) bB (fun Z oZ bZ => ?_)
      rw [pk_sub (by omega), nI_1, Nat.sub_sub]
      refine ih (b + 1) (by omega) Z (s + min (m - s) (2 ^ b)) ?_ (fun a j hj => (oZ a j (by omega)).trans (oB a j hj)) (fun n hn => ?_)
      · rw [Nat.pow_succ]; omega
      · rw [bZ n hn]
        show nI (if n = 0 then mnU (fun u => u * P k 1 + g (0 - u * P k 0)) s else min (min (m - s) (2 ^ b) * P k 1 + mnU (fun u => u * P k 1 + g (n - min (m - s) (2 ^ b) * P k 0 - u * P k 0)) s) (mnU (fun u => u * P k 1 + g (n - u * P k 0)) s)) = nI (mnU (fun u => u * P k 1 + g (n - u * P k 0)) (s + min (m - s) (2 ^ b)))
        by_cases n0 : n = 0
        · rw [if_pos n0, n0, at0, at0]
        · rw [if_neg n0, lh_part (w := P k 0) (h := P k 1) (T := g) (n := n) (show min (m - s) (2 ^ b) ≤ s + 1 by omega), Nat.min_comm]
  have r := go 10 0 rfl A 0 (by show 0 = min m 0; omega) oA bA
  rw [Nat.sub_zero] at r
  exact ⟨_, r⟩
theorem cl_fewest {X : db_St} {Q : Int32 → db_St → Prop} {P : Nat → Nat → Nat} {F : Nat → Nat} {m : Nat → Nat} {k n T : Nat} (h : PH X P F) (hk : k < 6) (hT : T ≤ 1000) (hn : n ≤ T) (hm : ∀ j, j < 6 → m j ≤ 999) (em : X.1 48 k = nI (m k)) (b1 : BT X (k + 1) T (lhC (fun j => P j 0) (fun j => P j 1) m (5 - k))) (b0 : BT X k T (lhC (fun j => P j 0) (fun j => P j 1) m (6 - k))) (q : Q (nI (fwN (fun j => P j 0) (fun j => P j 1) m k n)) X) : wp_X1_fewest X (nI k) (nI n) Q := by
  have b := h.bd (f := 0) hk (by decide)
  have hk1 := (pw_eq h.1 hk (show 1 < 4 by decide)).2.2.2.2.1 rfl
  rw [h.2.2.1 k 1 hk (by decide)] at hk1
  refine cl_number h.1 hk (i := 0) (by decide) (cl_number h.1 hk (i := 1) (by decide) ?_)
  rw [h.2.2.1 k 0 hk (by decide), h.2.2.1 k 1 hk (by decide), show (1001 : Int32) = nI 1001 by decide, pk_mul]
  have go : ∀ c u, u + c = m k → (∀ v, v < u → gU (fun j => P j 0) (fun j => P j 1) m k n v ≠ lhC (fun j => P j 0) (fun j => P j 1) m (6 - k) n) → wp_X1_fewest_31 Q (c + 1) X (nI k) (nI n) (nI (P k 0)) (nI (P k 1)) (nI (k * 1001)) (nI u) := by
    intro c
    induction c with
    | zero =>
      intro u e hu
      have : u = m k := by omega
      subst this
      have hmk := hm k hk
      refine ⟨vp_in_nI hk (by decide), br_t (by rw [nI_clamp (by omega), em]; exact nI_le (Nat.le_refl _) (by omega)) ⟨vp_in_nI hk (by decide), ?_⟩⟩
      rw [nI_clamp (by omega), em]
      have o := fwN_ok (w := fun j => P j 0) (h := fun j => P j 1) (m := m) n hk
      have : fwN (fun j => P j 0) (fun j => P j 1) m k n = m k := by
        by_cases c : fwN (fun j => P j 0) (fun j => P j 1) m k n < m k
        · exact absurd o.2.1 (hu _ c)
        · omega
      rw [this] at q; exact q
    | succ c ih =>
      intro u e hu
      have hmk := hm k hk
      have m0 : u * P k 0 ≤ 999 * 99 := Nat.mul_le_mul (by omega) b.2.2
      have m1 : u * P k 1 ≤ 999 * 99 := Nat.mul_le_mul (by omega) hk1
      refine ⟨vp_in_nI hk (by decide), br_f (by rw [nI_clamp (by omega), em]; exact nI_ge (by omega) (by omega)) (fun z ez => ?_)⟩
      rw [pk_mul, mx0 (by omega) (by omega)] at ez
      have r1 := b1 (n - u * P k 0) (by omega)
      have r0 := b0 n hn
      have l1 := lhC_le (fun j => P j 0) (fun j => P j 1) m (5 - k) (n - u * P k 0)
      have l0 := lhC_le (fun j => P j 0) (fun j => P j 1) m (6 - k) n
      have i1 : nI (k * 1001) + (1001 : Int32) = nI ((k + 1) * 1001) := by
        rw [show (1001 : Int32) = nI 1001 by decide, nI_add, Nat.add_mul, Nat.one_mul]
      rw [ez, i1, nI_add, nI_add, pk_mul]
      refine ⟨vp_in_nI (by omega) (by decide), vp_in_nI (by omega) (by decide), ?_⟩
      rw [nI_clamp (by omega), nI_clamp (by omega), r1, r0, nI_add]
      have ge : gU (fun j => P j 0) (fun j => P j 1) m k n u = lhC (fun j => P j 0) (fun j => P j 1) m (5 - k) (n - u * P k 0) + u * P k 1 := Nat.add_comm _ _
      by_cases c2 : gU (fun j => P j 0) (fun j => P j 1) m k n u = lhC (fun j => P j 0) (fun j => P j 1) m (6 - k) n
      · rw [fwN_eq hk c2 hu] at q
        exact br_t (by rw [← ge, c2]) q
      · refine br_f (fun z => c2 (ge.trans ((nI_eq (by omega) (by omega)).mp z))) ?_
        rw [nI_1]
        refine ih (u + 1) (by omega) (fun v hv => ?_)
        by_cases e2 : v = u
        · rw [e2]; exact c2
        · exact hu v (by omega)
  exact ⟨_, go (m k) 0 (by omega) (fun v hv => absurd hv (by omega))⟩
theorem cl_unitsOf {X : db_St} {Q : Int32 → db_St → Prop} {P : Nat → Nat → Nat} {F : Nat → Nat} {m : Nat → Nat} {what T : Nat} (h : PH X P F) (hw : what < 6) (hT : T ≤ 1000) (hm : ∀ j, j < 6 → m j ≤ 999) (em : ∀ k, k < 6 → X.1 48 k = nI (m k)) (bt : ∀ k, k ≤ 6 → BT X k T (lhC (fun j => P j 0) (fun j => P j 1) m (6 - k))) (q : Q (nI (fwN (fun j => P j 0) (fun j => P j 1) m what (owN (fun j => P j 0) (fun j => P j 1) m T what))) X) : wp_X1_unitsOf X (nI what) (nI T) Q := by
  have go : ∀ c k, k + c = what + 1 → ∀ v, (k = what + 1 → v = nI (fwN (fun j => P j 0) (fun j => P j 1) m what (owN (fun j => P j 0) (fun j => P j 1) m T what))) → wp_X1_unitsOf_8 Q (c + 1) X (nI what) (nI (owN (fun j => P j 0) (fun j => P j 1) m T k)) v (nI k) := by
    intro c
    induction c with
    | zero =>
      intro k e v hv
      have : k = what + 1 := by omega
      subst this
      rw [hv rfl]
      exact br_t (nI_lt (by omega) (by omega)) q
    | succ c ih =>
      intro k e v hv
      have hk : k < 6 := by omega
      have ol := owN_le (w := fun j => P j 0) (h := fun j => P j 1) (m := m) (T := T) k
      have b1 := bt (k + 1) (by omega)
      rw [show 6 - (k + 1) = 5 - k by omega] at b1
      refine br_f (nI_nlt (by omega) (by omega)) (br_f (nI_ge (b := 6) hk (by decide)) (cl_fewest h hk hT ol hm (em k hk) b1 (bt k (by omega)) (cl_number h.1 hk (i := 0) (by decide) (fun z ez => ?_))))
      have b := h.bd (f := 0) hk (by decide)
      have o := (fwN_ok (w := fun j => P j 0) (h := fun j => P j 1) (m := m) (owN (fun j => P j 0) (fun j => P j 1) m T k) hk).1
      have hmk := hm k hk
      have m0 : fwN (fun j => P j 0) (fun j => P j 1) m k (owN (fun j => P j 0) (fun j => P j 1) m T k) * P k 0 ≤ 999 * 99 := Nat.mul_le_mul (by omega) b.2.2
      rw [h.2.2.1 k 0 hk (by decide), pk_mul, mx0 (by omega) (by omega)] at ez
      rw [ez, nI_1]
      exact ih (k + 1) (by omega) _ (fun z => by rw [show k = what by omega])
  exact ⟨_, go (what + 1) 0 (by omega) _ (fun z => absurd z (by omega))⟩
def mU (P : Nat → Nat → Nat) (F : Nat → Nat) (f W k : Nat) : Nat := min (P k 3) (pdP P f k * opD F k W)
theorem cl_leastHard {X : db_St} {Q : Int32 → db_St → Prop} {P : Nat → Nat → Nat} {F : Nat → Nat} {f W T what : Nat} (h : PH X P F) (hf : f ≤ 99) (ef : X.1 36 2 = nI f) (hW : W ≤ 400) (hT : T ≤ 1000) (hw : what ≤ 6) (q : ∀ Z, (∀ a j, a ≠ 47 → a ≠ 48 → Z.1 a j = X.1 a j) → Q (lhA (fun j => P j 0) (fun j => P j 1) (mU P F f W) T what) Z) : wp_X1_leastHard X (nI T) (nI W) (nI what) Q := by
  have hm : ∀ j, j < 6 → mU P F f W j ≤ 999 := fun j hj => by
    have b := h.bd (f := f) hj hf
    exact Nat.le_trans (Nat.min_le_left _ _) b.2.1
  refine br_f (nI_pos (by omega)) (br_t (nI_lt (b := 1001) (by omega) (by decide)) ?_)
  have fill : ∀ c i, i + c = 7007 → 6006 ≤ i → ∀ A, (∀ a j, a ≠ 47 → A.1 a j = X.1 a j) → (∀ j, 6006 ≤ j → j < i → A.1 47 j = nI 100000000) → wp_J7_fill_fda19_10 47 7007 (fun X1 => (∀ X2, X2 = (db_si X1 47 ((6006 : Int32)).toNatClampNeg (0 : Int32)) → (∃ f_, wp_X1_leastHard_43 Q f_ X2 (nI T) (nI W) (nI what) (5 : Int32)))) (c + 1) A (nI 7007) (nI 100000000) (nI i) := by
    intro c
    induction c with
    | zero =>
      intro i e _ A oA rA
      have : i = 7007 := by omega
      subst this
      refine br_t (nI_le (Nat.le_refl _) (by decide)) (fun B eB => ?_)
      rw [show ((6006 : Int32)).toNatClampNeg = 6006 by decide] at eB
      have oB : ∀ a j, a ≠ 47 → B.1 a j = X.1 a j := fun a j ha => by rw [eB, db_si_na ha]; exact oA a j ha
      have bB : BT B 6 T (lhC (fun j => P j 0) (fun j => P j 1) (mU P F f W) 0) := fun n hn => by
        rw [eB]
        show _ = nI (if n = 0 then 0 else 100000000)
        by_cases c : n = 0
        · rw [if_pos c, c, db_si_hit]; rfl
        · rw [if_neg c, db_si_nb (by omega)]; exact rA _ (by omega) (by omega)
      have lev : ∀ k, k ≤ 6 → ∀ A, (∀ a j, a ≠ 47 → a ≠ 48 → A.1 a j = X.1 a j) → (∀ j, k ≤ j → j < 6 → A.1 48 j = nI (mU P F f W j)) → (∀ j, k ≤ j → j ≤ 6 → BT A j T (lhC (fun j => P j 0) (fun j => P j 1) (mU P F f W) (6 - j))) → wp_X1_leastHard_43 Q (k + 1) A (nI T) (nI W) (nI what) (nI k + (-1)) := by
        intro k
        induction k with
        | zero =>
          intro _ A oA mA bA
          have e0 := bA 0 (Nat.le_refl _) (by decide) T (Nat.le_refl _)
          rw [show 0 * 1001 + T = T by omega, show 6 - 0 = 6 from rfl] at e0
          have hA : PH A P F := h.keep (fun j _ _ => oA 92 j (by decide) (by decide)) (fun j => oA 37 j (by decide) (by decide)) (oA 36 1 (by decide) (by decide))
          have qA := q A oA
          unfold lhA at qA
          have ll := lhC_le (fun j => P j 0) (fun j => P j 1) (mU P F f W) 6 T
          refine br_t (by decide) ⟨vp_in_nI (by omega) (by decide), ?_⟩
          rw [nI_clamp (by omega), e0]
          by_cases c : lhC (fun j => P j 0) (fun j => P j 1) (mU P F f W) 6 T < 100000000
          · rw [if_pos c] at qA
            refine br_t (nI_lt (b := 100000000) c (by decide)) ?_
            by_cases c6 : what = 6
            · rw [if_pos c6] at qA
              exact br_t (by rw [c6]; decide) ⟨vp_in_nI (by omega) (by decide), qA⟩
            · rw [if_neg c6] at qA
              exact br_f (fun z => c6 ((nI_eq (b := 6) (by omega) (by decide)).mp z)) (cl_unitsOf hA (by omega) hT hm (fun k hk => mA k (Nat.zero_le _) hk) (fun k hk => bA k (Nat.zero_le _) hk) qA)
          · rw [if_neg c] at qA
            exact br_f (nI_nlt (a := lhC (fun j => P j 0) (fun j => P j 1) (mU P F f W) 6 T) (b := 100000000) (by omega) (by omega)) qA
        | succ k ih =>
          intro hk A oA mA bA
          have hk6 : k < 6 := by omega
          have hA : PH A P F := h.keep (fun j _ _ => oA 92 j (by decide) (by decide)) (fun j => oA 37 j (by decide) (by decide)) (oA 36 1 (by decide) (by decide))
          rw [pk_m1]
          have e2 : A.1 36 2 = nI f := by rw [oA 36 2 (by decide) (by decide)]; exact ef
          refine br_f (nI_pos (by omega)) ?_
          rw [e2]
          refine cl_unitsAtMost hA hk6 hW hf ⟨vp_in_nI hk6 (by decide), fun B eB => ?_⟩
          rw [nI_clamp (by omega)] at eB
          have oB : ∀ a j, a ≠ 48 → B.1 a j = A.1 a j := fun a j ha => by rw [eB, db_si_na ha]
          have hB : PH B P F := hA.keep (fun j _ _ => oB 92 j (by decide)) (fun j => oB 37 j (by decide)) (oB 36 1 (by decide))
          have b1 := bA (k + 1) (Nat.le_refl _) hk
          rw [show 6 - (k + 1) = 5 - k by omega] at b1
          refine cl_fillLevel (m := mU P F f W k) hB hk6 hT (fun n => lhC_le _ _ _ _ n) (lhC_0 _ _ _ _) (hm k hk6) (by rw [eB, db_si_hit]; rfl) (fun n hn => by rw [oB 47 _ (by decide)]; exact b1 n hn) (fun Z oZ bZ => ?_)
          refine ih (by omega) Z (fun a j h1 h2 => (oZ a j (Or.inl h1)).trans ((oB a j h2).trans (oA a j h1 h2))) (fun j h1 h2 => ?_) (fun j h1 h2 => ?_)
          · rw [oZ 48 j (by omega), eB]
            by_cases c : j = k
            · rw [c, db_si_hit]; rfl
            · rw [db_si_nb c]; exact mA j (by omega) h2
          · by_cases c : j = k
            · intro n hn
              rw [c, bZ n hn, lhC_s hk6]
              rfl
            · intro n hn
              rw [oZ 47 _ (by omega), oB 47 _ (by decide)]
              exact bA j (by omega) h2 n hn
      have r := lev 6 (Nat.le_refl _) B (fun a j h1 _ => oB a j h1) (fun j h1 h2 => absurd h1 (by omega)) (fun j h1 h2 => by
        rw [show j = 6 by omega]; exact bB)
      rw [show nI 6 + (-1) = (5 : Int32) by decide] at r
      exact ⟨_, r⟩
    | succ c ih =>
      intro i e hi A oA rA
      refine br_f (nI_ge (by omega) (by omega)) ⟨vp_in_nI (by omega) (by decide), fun Z eZ => ?_⟩
      rw [nI_clamp (by omega)] at eZ
      rw [nI_1]
      refine ih (i + 1) (by omega) (by omega) Z (fun a j ha => by rw [eZ, db_si_na ha]; exact oA a j ha) (fun j h1 h2 => ?_)
      rw [eZ]
      by_cases c : j = i
      · rw [c, db_si_hit]
      · rw [db_si_nb c]; exact rA j h1 (by omega)
  have r := fill 1001 6006 rfl (Nat.le_refl _) X (fun _ _ _ => rfl) (fun j h1 h2 => absurd h1 (by omega))
  exact br_t (by decide) (br_t (by decide) (br_t (by decide) ⟨_, r⟩))
