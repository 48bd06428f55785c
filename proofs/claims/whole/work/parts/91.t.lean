/-! the reference's table; least -/
def O9 (X Y : db_St) : Prop := ∀ a j, (a < 95 ∨ 97 < a) → Y.1 a j = X.1 a j
theorem O9.ph {X Y : db_St} {P : Nat → Nat → Nat} {F : Nat → Nat} (h : PH X P F) (o : O9 X Y) : PH Y P F := h.keep (fun j _ _ => o 92 j (by omega)) (fun j => o 37 j (by omega)) (o 36 1 (by omega))
theorem O9.same {X Y : db_St} (o : O9 X Y) : Same X Y := ⟨fun c j _ => o c j (by omega), fun c j _ _ => o c j (by omega), fun c j _ _ => o c j (by omega), fun j _ => o 90 j (by omega), fun c j _ _ => o c j (by omega), fun j => o 100 j (by omega)⟩
theorem O9.si {X Y Z : db_St} {c j : Nat} {v : Int32} (o : O9 X Y) (hc : 95 ≤ c ∧ c ≤ 97) (e : Z = db_si Y c j v) : O9 X Z := fun a i h => by rw [e, db_si_na (by omega)]; exact o a i h
theorem mo_findLeast {X : db_St} {Q : Int32 → db_St → Prop} {P : Nat → Nat → Nat} {F : Nat → Nat} {f W D : Nat} (h : PH X P F) (hf : f ≤ 99) (ef : X.1 92 309 = nI f) (hW : W ≤ 400) (hD : D ≤ 100) (q0 : ¬ lhC (fun j => P j 0) (fun j => P j 1) (mU P F f W) 6 (10 * D) < 100000000 → ∀ Z, O9 X Z → Q (-9) Z) (q1 : lhC (fun j => P j 0) (fun j => P j 1) (mU P F f W) 6 (10 * D) < 100000000 → ∀ Z, O9 X Z → (∀ k, k < 6 → Z.1 96 k = nI (fwN (fun j => P j 0) (fun j => P j 1) (mU P F f W) k (owN (fun j => P j 0) (fun j => P j 1) (mU P F f W) (10 * D) k))) → Q (nI (lhC (fun j => P j 0) (fun j => P j 1) (mU P F f W) 6 (10 * D))) Z) : wp_X11_findLeast X (nI D) (nI W) Q := by
  have hm : ∀ j, j < 6 → mU P F f W j ≤ 999 := fun j hj => by
    have b := h.bd (f := f) hj hf
    exact Nat.le_trans (Nat.min_le_left _ _) b.2.1
  have hm2 : ∀ j, j < 6 → (if P j 0 = 0 then 0 else mU P F f W j) ≤ 999 := fun j hj => by
    have := hm j hj
    split <;> omega
  have eT : (10 : Int32) * nI D = nI (10 * D) := by rw [show (10 : Int32) = nI 10 by decide, pk_mul]
  have hT : 10 * D ≤ 1000 := by omega
  generalize hTT : 10 * D = T at eT hT q0 q1
  -- the units
  have units : lhC (fun j => P j 0) (fun j => P j 1) (mU P F f W) 6 T < 100000000 → ∀ c k, k + c = 6 → ∀ A, O9 X A → (∀ j, j < 6 → A.1 97 j = nI (if P j 0 = 0 then 0 else mU P F f W j)) → (∀ j, j ≤ 6 → BH A j T (lhC (fun j => P j 0) (fun j => P j 1) (mU P F f W) (6 - j))) → (∀ j, j < k → A.1 96 j = nI (fwN (fun j => P j 0) (fun j => P j 1) (mU P F f W) j (owN (fun j => P j 0) (fun j => P j 1) (mU P F f W) T j))) → wp_X11_findLeast_191 Q (c + 1) A (nI D) (nI (owN (fun j => P j 0) (fun j => P j 1) (mU P F f W) T k)) (nI k) := by
    intro ff c
    induction c with
    | zero =>
      intro k e A oA mA bA uA
      have : k = 6 := by omega
      subst this
      refine br_t (by decide) ?_
      rw [eT]
      refine ⟨vp_in_nI (by omega) (by decide), ?_⟩
      have e0 := bA 0 (Nat.zero_le _) T (Nat.le_refl _)
      rw [show 1001 * 0 + T = T by omega, show 6 - 0 = 6 from rfl, hv_lt ff] at e0
      rw [nI_clamp (by omega), e0]
      exact q1 ff A oA uA
    | succ c ih =>
      intro k e A oA mA bA uA
      have hk : k < 6 := by omega
      have hA := O9.ph h oA
      have ol := owN_le (w := fun j => P j 0) (h := fun j => P j 1) (m := mU P F f W) (T := T) k
      have b1 := bA (k + 1) (by omega)
      rw [show 6 - (k + 1) = 5 - k by omega] at b1
      have fk := owN_fin (w := fun j => P j 0) (h := fun j => P j 1) (m := mU P F f W) ff k (by omega)
      have b := h.bd (f := 0) hk (by decide)
      have o := (fwN_ok (w := fun j => P j 0) (h := fun j => P j 1) (m := mU P F f W) (owN (fun j => P j 0) (fun j => P j 1) (mU P F f W) T k) hk).1
      have hmk := hm k hk
      have m0 : fwN (fun j => P j 0) (fun j => P j 1) (mU P F f W) k (owN (fun j => P j 0) (fun j => P j 1) (mU P F f W) T k) * P k 0 ≤ 999 * 99 := Nat.mul_le_mul (by omega) b.2.2
      refine br_f (nI_ge (b := 6) hk (by decide)) (mo_unitsFor hA hk hT ol hm2 (fun _ => rfl) (mA k hk) b1 ?_)
      rw [if_pos fk]
      refine ⟨vp_in_nI hk (by decide), fun B eB => ⟨vp_in_nI hk (by decide), ?_⟩⟩
      rw [nI_clamp (by omega)] at eB
      have oB : O9 X B := oA.si ⟨by decide, by decide⟩ eB
      have hB := O9.ph h oB
      have e96 : B.1 96 (nI k).toNatClampNeg = nI (fwN (fun j => P j 0) (fun j => P j 1) (mU P F f W) k (owN (fun j => P j 0) (fun j => P j 1) (mU P F f W) T k)) := by rw [nI_clamp (by omega), eB, db_si_hit]
      have next := ih (k + 1) (by omega) B oB (fun j hj => by rw [eB, db_si_na (by decide)]; exact mA j hj) (fun j hj n hn => by rw [eB, db_si_na (by decide)]; exact bA j hj n hn) (fun j hj => by
        rw [eB]
        by_cases c2 : j = k
        · rw [c2, db_si_hit]
        · rw [db_si_nb c2]; exact uA j (by omega))
      have eo : owN (fun j => P j 0) (fun j => P j 1) (mU P F f W) T (k + 1) = owN (fun j => P j 0) (fun j => P j 1) (mU P F f W) T k - fwN (fun j => P j 0) (fun j => P j 1) (mU P F f W) k (owN (fun j => P j 0) (fun j => P j 1) (mU P F f W) T k) * P k 0 := rfl
      rw [eo] at next
      refine mo_pay hB.1 hk (i := 0) (by decide) ?_
      rw [e96, hB.2.2.1 k 0 hk (by decide), pk_mul, nI_1]
      generalize hx : fwN (fun j => P j 0) (fun j => P j 1) (mU P F f W) k (owN (fun j => P j 0) (fun j => P j 1) (mU P F f W) T k) * P k 0 = v at m0 next ⊢
      by_cases c2 : owN (fun j => P j 0) (fun j => P j 1) (mU P F f W) T k ≤ v
      · rw [show owN (fun j => P j 0) (fun j => P j 1) (mU P F f W) T k - v = 0 by omega] at next
        exact br_t (nI_le c2 (by omega)) next
      · refine br_f (nI_ge (by omega) (by omega)) ⟨vp_in_nI hk (by decide), mo_pay hB.1 hk (i := 0) (by decide) ?_⟩
        rw [hB.2.2.1 k 0 hk (by decide), pk_mul, hx, pk_sub (by omega)]
        exact next
  -- the levels
  have lev : ∀ k, k ≤ 6 → ∀ A, O9 X A → (∀ j, j < 6 → A.1 97 j = nI (if P j 0 = 0 then 0 else mU P F f W j)) → (∀ j, k ≤ j → j ≤ 6 → BH A j T (lhC (fun j => P j 0) (fun j => P j 1) (mU P F f W) (6 - j))) → wp_X11_findLeast_63 Q (k + 1) A (nI D) (nI k + (-1)) := by
    intro k
    induction k with
    | zero =>
      intro _ A oA mA bA
      have e0 := bA 0 (Nat.zero_le _) (by decide) T (Nat.le_refl _)
      rw [show 1001 * 0 + T = T by omega, show 6 - 0 = 6 from rfl] at e0
      refine br_t (by decide) ?_
      rw [eT]
      refine ⟨vp_in_nI (by omega) (by decide), ?_⟩
      rw [nI_clamp (by omega), e0]
      by_cases ff : lhC (fun j => P j 0) (fun j => P j 1) (mU P F f W) 6 T < 100000000
      · rw [hv_lt ff]
        exact br_t (nI_pos' (by omega)) ⟨_, units ff 6 0 rfl A oA mA (fun j hj => bA j (Nat.zero_le _) hj) (fun j hj => absurd hj (by omega))⟩
      · rw [hv_ge ff]
        exact br_f (by decide) (q0 ff A oA)
    | succ k ih =>
      intro hk6 A oA mA bA
      have hk : k < 6 := by omega
      rw [pk_m1]
      refine br_f (nI_pos (by omega)) ?_
      have b := h.bd (f := 0) hk (by decide)
      have hmk := hm k hk
      have row : ∀ c n, n + c = T + 1 → ∀ B, O9 X B → (∀ a j, (a ≠ 95 ∨ j < 1001 * k ∨ 1001 * k + T < j) → B.1 a j = A.1 a j) → (∀ v, v < n → B.1 95 (1001 * k + v) = hv (lhC (fun j => P j 0) (fun j => P j 1) (mU P F f W) (6 - k) v)) → wp_X11_findLeast_70 (wp_X11_findLeast_63 Q (k + 1)) Q (c + 1) B (nI D) (nI k) (nI n) := by
        intro c
        induction c with
        | zero =>
          intro n e B oB aB rB
          have : n = T + 1 := by omega
          subst this
          refine br_t (by rw [eT]; exact nI_lt (by omega) (by omega)) ?_
          refine ih (by omega) B oB (fun j hj => by rw [aB 97 j (by omega)]; exact mA j hj) (fun j h1 h2 n hn => ?_)
          by_cases c2 : j = k
          · rw [c2]; exact rB n (by omega)
          · rw [aB 95 _ (by omega)]; exact bA j (by omega) h2 n hn
        | succ c ih2 =>
          intro n e B oB aB rB
          have hB := O9.ph h oB
          have b1 : BH B (k + 1) T (lhC (fun j => P j 0) (fun j => P j 1) (mU P F f W) (5 - k)) := fun v hv2 => by
            rw [aB 95 _ (by omega)]
            have r := bA (k + 1) (Nat.le_refl _) hk6 v hv2
            rw [show 6 - (k + 1) = 5 - k by omega] at r
            exact r
          have m97 : B.1 97 k = nI (if P k 0 = 0 then 0 else mU P F f W k) := by rw [aB 97 k (by omega)]; exact mA k hk
          have o := fwN_ok (w := fun j => P j 0) (h := fun j => P j 1) (m := mU P F f W) n hk
          have m0 : fwN (fun j => P j 0) (fun j => P j 1) (mU P F f W) k n * P k 0 ≤ 999 * 99 := Nat.mul_le_mul (by omega) b.2.2
          have i2 : (1001 : Int32) * nI k + nI n = nI (1001 * k + n) := by rw [show (1001 : Int32) = nI 1001 by decide, pk_mul, nI_add]
          have put : ∀ v, v = hv (lhC (fun j => P j 0) (fun j => P j 1) (mU P F f W) (6 - k) n) → ∀ Z, Z = db_si B 95 (1001 * k + n) v → wp_X11_findLeast_70 (wp_X11_findLeast_63 Q (k + 1)) Q (c + 1) Z (nI D) (nI k) (nI n + (1 : Int32)) := fun v ev Z eZ => by
            rw [nI_1]
            refine ih2 (n + 1) (by omega) Z (oB.si ⟨by decide, by decide⟩ eZ) (fun a j hj => ?_) (fun u hu => ?_)
            · rw [eZ]
              by_cases c2 : a = 95
              · rw [db_si_nb (by omega)]; exact aB a j hj
              · rw [db_si_na c2]; exact aB a j hj
            · rw [eZ]
              by_cases c2 : u = n
              · rw [c2, db_si_hit, ev]
              · rw [db_si_nb (by omega)]; exact rB u (by omega)
          refine br_f (by rw [eT]; exact nI_nlt (by omega) (by omega)) (mo_unitsFor hB hk hT (by omega) hm2 (fun _ => rfl) m97 b1 (mo_pay hB.1 hk (i := 0) (by decide) ?_))
          rw [hB.2.2.1 k 0 hk (by decide), i2, nI_1]
          by_cases ff : lhC (fun j => P j 0) (fun j => P j 1) (mU P F f W) (6 - k) n < 100000000
          · rw [if_pos ff]
            have eg : fwN (fun j => P j 0) (fun j => P j 1) (mU P F f W) k n * P k 1 + lhC (fun j => P j 0) (fun j => P j 1) (mU P F f W) (5 - k) (n - fwN (fun j => P j 0) (fun j => P j 1) (mU P F f W) k n * P k 0) = lhC (fun j => P j 0) (fun j => P j 1) (mU P F f W) (6 - k) n := o.2.1
            have e95 := b1 (n - fwN (fun j => P j 0) (fun j => P j 1) (mU P F f W) k n * P k 0) (by omega)
            rw [hv_lt (by omega)] at e95
            have ev : nI (fwN (fun j => P j 0) (fun j => P j 1) (mU P F f W) k n) * nI (P k 1) + B.1 95 (1001 * (k + 1) + (n - fwN (fun j => P j 0) (fun j => P j 1) (mU P F f W) k n * P k 0)) = hv (lhC (fun j => P j 0) (fun j => P j 1) (mU P F f W) (6 - k) n) := by
              rw [e95, pk_mul, nI_add, eg, hv_lt ff]
            refine br_t (nI_pos' (by omega)) (mo_pay hB.1 hk (i := 1) (by decide) ?_)
            rw [hB.2.2.1 k 1 hk (by decide), pk_mul]
            generalize hx : fwN (fun j => P j 0) (fun j => P j 1) (mU P F f W) k n * P k 0 = x at m0 ev ⊢
            by_cases l : x ≤ n
            · rw [pk_sub l]
              refine br_t (nI_pos' (by omega)) ?_
              rw [show (1001 : Int32) * nI (k + 1) + nI (n - x) = nI (1001 * (k + 1) + (n - x)) by rw [show (1001 : Int32) = nI 1001 by decide, pk_mul, nI_add]]
              refine ⟨vp_in_nI (by omega) (by decide), vp_in_nI (by omega) (by decide), fun Z eZ => ?_⟩
              rw [nI_clamp (by omega), nI_clamp (by omega), ev] at eZ
              exact put _ rfl Z eZ
            · have neg : nI n - nI x < 0 := pk_sneg (by omega) (by omega)
              refine br_f (fun z => absurd neg (Int32.not_lt.mpr z)) ?_
              rw [show (1001 : Int32) * nI (k + 1) + (0 : Int32) = nI (1001 * (k + 1) + (n - x)) by rw [show (1001 : Int32) = nI 1001 by decide, pk_mul, show (0 : Int32) = nI 0 by decide, nI_add, show n - x = 0 by omega]]
              refine ⟨vp_in_nI (by omega) (by decide), vp_in_nI (by omega) (by decide), fun Z eZ => ?_⟩
              rw [nI_clamp (by omega), nI_clamp (by omega), ev] at eZ
              exact put _ rfl Z eZ
          · rw [if_neg ff]
            refine br_f (by decide) ⟨vp_in_nI (by omega) (by decide), fun Z eZ => ?_⟩
            rw [nI_clamp (by omega)] at eZ
            exact put _ (hv_ge ff).symm Z eZ
      exact ⟨_, row (T + 1) 0 (by omega) A oA (fun _ _ _ => rfl) (fun v hv2 => absurd hv2 (by omega))⟩
  -- the mosts
  have most : ∀ c k, k + c = 6 → ∀ A, O9 X A → BH A 6 T (lhC (fun j => P j 0) (fun j => P j 1) (mU P F f W) 0) → (∀ j, j < k → A.1 97 j = nI (if P j 0 = 0 then 0 else mU P F f W j)) → wp_X11_findLeast_37 Q (c + 1) A (nI D) (nI W) (nI k) := by
    intro c
    induction c with
    | zero =>
      intro k e A oA bA mA
      have : k = 6 := by omega
      subst this
      have r := lev 6 (Nat.le_refl _) A oA mA (fun j h1 h2 => by rw [show j = 6 by omega]; exact bA)
      rw [show nI 6 + (-1) = (5 : Int32) by decide] at r
      exact br_t (by decide) ⟨_, r⟩
    | succ c ih =>
      intro k e A oA bA mA
      have hk : k < 6 := by omega
      refine br_f (nI_ge (b := 6) hk (by decide)) (mo_mostOf (O9.ph h oA) (by rw [oA 92 309 (by omega)]; exact ef) hf hk hW ⟨vp_in_nI hk (by decide), fun Z eZ => ?_⟩)
      rw [nI_clamp (by omega)] at eZ
      rw [nI_1]
      refine ih (k + 1) (by omega) Z (oA.si ⟨by decide, by decide⟩ eZ) (fun n hn => by rw [eZ, db_si_na (by decide)]; exact bA n hn) (fun j hj => ?_)
      rw [eZ]
      by_cases c2 : j = k
      · rw [c2, db_si_hit]
      · rw [db_si_nb c2]; exact mA j (by omega)
  -- the last level
  have last : ∀ c i, i + c = 1001 → ∀ A, O9 X A → (∀ j, j < i → A.1 95 (1001 * 6 + j) = hv (if j = 0 then 0 else 100000000)) → wp_X11_findLeast_2 Q (c + 1) A (nI D) (nI W) (nI i) := by
    intro c
    induction c with
    | zero =>
      intro i e A oA rA
      have : i = 1001 := by omega
      subst this
      exact br_t (by decide) ⟨_, most 6 0 rfl A oA (fun n hn => rA n (by omega)) (fun j hj => absurd hj (by omega))⟩
    | succ c ih =>
      intro i e A oA rA
      have i6 : (6006 : Int32) + nI i = nI (1001 * 6 + i) := by rw [show (6006 : Int32) = nI (1001 * 6) by decide, nI_add]
      have put : ∀ v, v = hv (if i = 0 then 0 else 100000000) → ∀ Z, Z = db_si A 95 (1001 * 6 + i) v → wp_X11_findLeast_2 Q (c + 1) Z (nI D) (nI W) (nI (i + 1)) := fun v ev Z eZ => by
        refine ih (i + 1) (by omega) Z (oA.si ⟨by decide, by decide⟩ eZ) (fun j hj => ?_)
        rw [eZ]
        by_cases c2 : j = i
        · rw [c2, db_si_hit, ev]
        · rw [db_si_nb (by omega)]; exact rA j (by omega)
      refine br_f (nI_ge (b := 1001) (by omega) (by decide)) ?_
      rw [i6, nI_1]
      by_cases i0 : i = 0
      · refine br_t (by rw [i0]; rfl) ⟨vp_in_nI (by omega) (by decide), fun Z eZ => put 0 ?_ Z (by rw [eZ, nI_clamp (by omega)])⟩
        rw [if_pos i0]; decide
      · refine br_f (nI_ne0 (by omega) (by omega)) ⟨vp_in_nI (by omega) (by decide), fun Z eZ => put (-9) ?_ Z (by rw [eZ, nI_clamp (by omega)])⟩
        rw [if_neg i0]; decide
  exact ⟨_, last 1001 0 rfl X (fun _ _ _ => rfl) (fun j hj => absurd hj (by omega))⟩
theorem op_13 {xs : Nat → Int32} {x3 : Int32} {X : db_St} (h : Sim X) : lc_13 xs x3 Sim X := by
  unfold lc_13
  generalize xs ((x3 + (1 : Int32))).toNatClampNeg = a
  generalize xs ((x3 + (2 : Int32))).toNatClampNeg = b
  generalize xs ((x3 + (3 : Int32))).toNatClampNeg = c
  unfold wp_X10_least wp_X11_least
  rcases db_cs c 7 with ⟨w, hw, rfl⟩ | hc
  rotate_left
  · by_cases c0 : c < 0
    · exact br_t c0 (rf_c2 (in_no (N := 7) (by decide) (by decide) hc (br_t rfl (rf_m2 (br_t rfl (sim_ref h))))))
    · refine br_f c0 (br_f (fun c6 => ?_) (rf_c2 (in_no (N := 7) (by decide) (by decide) hc (br_t rfl (rf_m2 (br_t rfl (sim_ref h)))))))
      obtain ⟨j, hj, e⟩ := nI_of2 (M := 6) (n := 6) (by decide) c0 c6
      exact hc j (by omega) e
  have cw0 : ¬ nI w < 0 := nI_pos (by omega)
  have cw6 : nI w ≤ (6 : Int32) := nI_le (b := 6) (by omega) (by decide)
  have iw : ∀ {Y : db_St} {R : Int32 → db_St → Prop}, R 1 Y → wp_X11_isIn Y (nI w) (7 : Int32) R := fun r => in_yes (N := 7) (by decide) (by decide) hw r
  by_cases h0 : a < 0
  · exact br_f cw0 (br_t cw6 (br_t h0 (rf_c4 (iw (br_f (by decide) (br_t h0 (rf_m4 (br_t rfl (sim_ref h)))))))))
  by_cases h1 : (1 : Int32) ≤ b
  rotate_left
  · exact br_f cw0 (br_t cw6 (br_f h0 (br_f h1 (rf_c4 (iw (br_f (by decide) (br_f h0 (br_f h1 (rf_m4 (br_t rfl (sim_ref h)))))))))))
  by_cases h2 : (100 : Int32) < a
  · exact br_f cw0 (br_t cw6 (br_f h0 (br_t h1 (br_t h2 (rf_c6 (iw (br_f (by decide) (br_f h0 (br_t h1 (br_t h2 (rf_m6 (br_t rfl (sim_ref h)))))))))))))
  by_cases h3 : b ≤ (400 : Int32)
  rotate_left
  · exact br_f cw0 (br_t cw6 (br_f h0 (br_t h1 (br_f h2 (br_f h3 (rf_c6 (iw (br_f (by decide) (br_f h0 (br_t h1 (br_f h2 (br_f h3 (rf_m6 (br_t rfl (sim_ref h)))))))))))))))
  obtain ⟨D, hD, rfl⟩ := nI_of2 (M := 100) (n := 100) (by decide) h0 (Int32.not_lt.mp h2)
  obtain ⟨W, hW, rfl⟩ := nI_of2 (x := b) (M := 400) (n := 400) (by decide) (fun z => by
    rw [Int32.lt_iff_toInt_lt] at z
    rw [Int32.le_iff_toInt_le] at h1
    rw [show ((0 : Int32)).toInt = 0 by decide] at z
    rw [show ((1 : Int32)).toInt = 1 by decide] at h1
    omega) h3
  obtain ⟨g, k0, k1, k2⟩ := h.2.2.2.1.2.2.2.2.2.2.1
  refine br_f cw0 (br_t cw6 (br_f h0 (br_t h1 (br_f h2 (br_t h3 ?_)))))
  rw [show (10 : Int32) = nI 10 by decide, pk_mul, Nat.mul_comm D 10]
  refine cl_leastHard h.ph k0 k1 hW (by omega) (by omega) (fun Z oZ => ?_)
  have hZ : PH Z (pw X) (ft X) := h.ph.keep (fun j _ _ => oZ 92 j (by decide) (by decide)) (fun j => oZ 37 j (by decide) (by decide)) (oZ 36 1 (by decide) (by decide))
  have sZ : Same X Z := ⟨fun c j _ => oZ c j (by omega) (by omega), fun c j _ _ => oZ c j (by omega) (by omega), fun c j _ _ => oZ c j (by omega) (by omega), fun j _ => oZ 90 j (by omega) (by omega), fun c j _ _ => oZ c j (by omega) (by omega), fun j => oZ 100 j (by omega) (by omega)⟩
  refine iw (br_f (by decide) (br_f h0 (br_t h1 (br_f h2 (br_t h3 ?_)))))
  refine mo_findLeast hZ k0 (by rw [oZ 92 309 (by decide) (by decide)]; exact k2) hW hD (fun nf V oV => ?_) (fun ff V oV uV => ?_)
  · refine br_f (by decide) (br_t ?_ (h.same (sZ.trans oV.same)))
    unfold lhA
    rw [if_neg nf]
  · refine br_t (nI_pos' (by omega)) ?_
    have sV : Sim V := h.same (sZ.trans oV.same)
    unfold lhA
    rw [if_pos ff]
    by_cases c6 : w = 6
    · rw [if_pos c6]
      exact br_t (by rw [c6]; decide) (br_t rfl sV)
    · rw [if_neg c6]
      refine br_f (fun z => c6 ((nI_eq (b := 6) (by omega) (by decide)).mp z)) ⟨vp_in_nI (by omega) (by decide), br_t ?_ sV⟩
      rw [nI_clamp (by omega), uV w (by omega)]
