/-! rings: the class -/
theorem cl_firstKind {X : db_St} {Q : Int32 → db_St → Prop} {n C : Nat} {p : Nat → Nat → Nat} (hO : PO X n p) (hC : C < 4096) (q0 : (∀ i, i < n → ¬ bt C i = 1) → Q 0 X) (q1 : ∀ i, i < n → bt C i = 1 → Q (nI (p i 0)) X) : wp_X6_firstKind X (nI C) Q := by
  obtain ⟨n12, ok, e38, _, rows⟩ := hO
  have go : ∀ c i, i + c = n → (∀ j, j < i → ¬ bt C j = 1) → wp_X6_firstKind_2 Q (c + 1) X (nI C) (nI i) := by
    intro c
    induction c with
    | zero =>
      intro i e no
      have : i = n := by omega
      subst this
      exact br_t (by rw [e38]; exact nI_le (Nat.le_refl _) (by omega)) (q0 no)
    | succ c ih =>
      intro i e no
      have hi : i < n := by omega
      refine br_f (by rw [e38]; exact nI_ge hi (by omega)) ?_
      rw [ub12 hC (by omega)]
      by_cases b : bt C i = 1
      · refine br_t (by rw [b]; rfl) ⟨vp_in_nI (by omega) (by decide), ?_⟩
        rw [nI_clamp (by omega), (rows i hi).1]
        exact q1 i hi b
      · have b0 : bt C i = 0 := by have := bt_cs C i; omega
        refine br_f (by rw [b0]; decide) ?_
        rw [nI_1]
        refine ih (i + 1) (by omega) (fun j hj => ?_)
        by_cases c2 : j = i
        · rw [c2]; exact b
        · exact no j (by omega)
  exact ⟨_, go n 0 (by omega) (fun j hj => absurd hj (by omega))⟩
theorem cl_puttingFrom {X : db_St} {Q : Int32 → db_St → Prop} {n C k : Nat} {p : Nat → Nat → Nat} (hO : PO X n p) (hC : C < 4096) (hk : k < 6) (q0 : (∀ i, i < n → ¬ (bt C i = 1 ∧ p i 0 = k)) → Q (-9) X) (q1 : ∀ i, i < n → bt C i = 1 → p i 0 = k → Q (nI i) X) : wp_X6_puttingFrom X (nI k) (nI C) Q := by
  obtain ⟨n12, ok, e38, _, rows⟩ := hO
  have go : ∀ c i, i + c = n → (∀ j, j < i → ¬ (bt C j = 1 ∧ p j 0 = k)) → wp_X6_puttingFrom_2 Q (c + 1) X (nI k) (nI C) (nI i) := by
    intro c
    induction c with
    | zero =>
      intro i e no
      have : i = n := by omega
      subst this
      exact br_t (by rw [e38]; exact nI_le (Nat.le_refl _) (by omega)) (q0 no)
    | succ c ih =>
      intro i e no
      have hi : i < n := by omega
      have next : ¬ (bt C i = 1 ∧ p i 0 = k) → wp_X6_puttingFrom_2 Q (c + 1) X (nI k) (nI C) (nI i + (1 : Int32)) := fun z => by
        rw [nI_1]
        refine ih (i + 1) (by omega) (fun j hj => ?_)
        by_cases c2 : j = i
        · rw [c2]; exact z
        · exact no j (by omega)
      have o := ok i hi
      refine br_f (by rw [e38]; exact nI_ge hi (by omega)) ?_
      rw [ub12 hC (by omega)]
      by_cases b : bt C i = 1
      · refine br_t (by rw [b]; rfl) ⟨vp_in_nI (by omega) (by decide), ?_⟩
        rw [nI_clamp (by omega), (rows i hi).1]
        by_cases f : p i 0 = k
        · exact br_t (by rw [f]) (q1 i hi b f)
        · exact br_f (fun z => f ((nI_eq (by omega) (by omega)).mp z)) (next (fun z => f z.2))
      · have b0 : bt C i = 0 := by have := bt_cs C i; omega
        exact br_f (by rw [b0]; decide) (next (fun z => b z.1))
  exact ⟨_, go n 0 (by omega) (fun j hj => absurd hj (by omega))⟩
set_option maxRecDepth 100000 in
theorem bc_full : ∀ S : Fin 64, bcN 6 S.val = 6 → ∀ k : Fin 6, bt S.val k.val = 1 := by decide +kernel
theorem pM_30 {n : Nat} {p : Nat → Nat → Nat} (ok : OKP n p) {c : Nat} (hc : c = 1 ∨ c = 3) : ∀ {l : List Nat}, (∀ x, x ∈ l → x < n) → pM p c l ≤ 30 ^ l.length
  | [], _ => Nat.le_refl _
  | i :: t, h => by
    have o := ok i (h i (List.mem_cons.mpr (Or.inl rfl)))
    have ih := pM_30 ok hc (l := t) (fun x hx => h x (List.mem_cons.mpr (Or.inr hx)))
    show p i c * pM p c t ≤ 30 ^ (t.length + 1)
    rw [Nat.pow_succ, Nat.mul_comm]
    refine Nat.mul_le_mul ih ?_
    rcases hc with rfl | rfl <;> omega
theorem Pth_det0 {n : Nat} {p : Nat → Nat → Nat} : ∀ (l : List Nat) (k x y : Nat), Pth n p k l x → Pth n p k l y → x = y
  | [], k, x, y, h1, h2 => by
    have h1 : k = x := h1
    have h2 : k = y := h2
    omega
  | _ :: t, _, x, y, h1, h2 => Pth_det0 t _ x y h1.2.2 h2.2.2
theorem Pth_det {n : Nat} {p : Nat → Nat → Nat} {l : List Nat} (k x y : Nat) (h1 : Pth n p k l x) (h2 : Pth n p k l y) : x = y := Pth_det0 l k x y h1 h2
/-- where the walk over the puttings of C stands: l is behind it -/
def WR (n : Nat) (p : Nat → Nat → Nat) (C s at_ left seen : Nat) (l : List Nat) : Prop := Pth n p s l at_ ∧ nd p l ∧ at_ < 6 ∧ left < 4096 ∧ (∀ i, left.testBit i = true ↔ (C.testBit i = true ∧ ¬ i ∈ l)) ∧ (∀ i, i ∈ l → C.testBit i = true) ∧ seen < 64 ∧ (∀ k, k < 6 → (bt seen k = 1 ↔ ∃ x, x ∈ l ∧ p x 0 = k)) ∧ bcN 6 seen = l.length ∧ (isR n p C → ∃ r, Rg n p s (l ++ r) ∧ mk (l ++ r) = C)
theorem cl_isRing {X : db_St} {Q : Int32 → db_St → Prop} {n C : Nat} {p : Nat → Nat → Nat} (hO : PO X n p) (hC : C < 4096) (q0 : ¬ isR n p C → Q 0 X) (q1 : isR n p C → Q 1 X) : wp_X6_isRing X (nI C) Q := by
  have ok := hO.2.1
  have n12 := hO.1
  have rows := hO.2.2.2.2
  have main : ∀ s, s < 6 → (isR n p C → ∃ r, Rg n p s r ∧ mk r = C) → ∃ f_, wp_X6_isRing_23 Q f_ X (nI s) (nI s) (nI C) (0 : Int32) (1 : Int64) (1 : Int64) (0 : Int32) := by
    intro s hs hr
    have go : ∀ c st, st + c = 6 → ∀ a left seen l, st = l.length → WR n p C s a left seen l → wp_X6_isRing_23 Q (c + 1) X (nI s) (nI a) (nI left) (nI seen) (lN (pM p 3 l)) (lN (pM p 1 l)) (nI st) := by
      intro c
      induction c with
      | zero =>
        intro st e a left seen l el ⟨w1, w2, w3, w4, w5, w6, w7, w8, w9, w10⟩
        have hl : l.length = 6 := by omega
        have b3 := pM_30 ok (Or.inr rfl) (Pth_lt w1)
        have b1 := pM_30 ok (Or.inl rfl) (Pth_lt w1)
        rw [hl] at b3 b1
        have k6 : (30 : Nat) ^ 6 = 729000000 := by decide
        rw [k6] at b3 b1
        have full := bc_full ⟨seen, w7⟩ (w9.trans hl)
        have rest : ∀ r, Rg n p s (l ++ r) → r = [] := fun r hr => by
          cases r with
          | nil => rfl
          | cons j t =>
            obtain ⟨g1, g2, g3⟩ := nd_app.mp hr.2.1
            have jn := Pth_lt hr.2.2.2 j (by simp)
            obtain ⟨x, hx, ex⟩ := (w8 _ (ok j jn).1).mp (full ⟨p j 0, (ok j jn).1⟩)
            exact absurd ex.symm (g3 x hx j (by simp))
        refine br_t (by rw [show st = 6 by omega]; decide) ?_
        by_cases ca : a = s
        · refine br_t (by rw [ca]) ?_
          by_cases cl : left = 0
          · refine br_t (by rw [cl]; rfl) ?_
            by_cases cm : pM p 3 l < pM p 1 l
            · refine br_f (fun z => ?_) (q1 ⟨s, l, ⟨fun z => by rw [z] at hl; simp at hl, w2, cm, by rw [ca] at w1; exact w1⟩, ?_⟩)
              · rw [lg_cmp_ge, pk_lLE (by omega) (by omega)] at z; omega
              · apply Nat.eq_of_testBit_eq
                intro i
                rw [Bool.eq_iff_iff, mk_tb]
                refine ⟨fun z => ?_, fun z => w6 i z⟩
                by_cases m : i ∈ l
                · exact m
                · have := (w5 i).mpr ⟨z, m⟩
                  rw [cl, Nat.zero_testBit] at this
                  exact absurd this (by decide)
            · refine br_t (by rw [lg_cmp_ge, pk_lLE (by omega) (by omega)]; omega) (q0 (fun z => ?_))
              obtain ⟨r, g1, g2⟩ := w10 z
              have := rest r g1
              subst this
              rw [List.append_nil] at g1
              exact cm g1.2.2.1
          · refine br_f (nI_ne0 (by omega) (by omega)) (q0 (fun z => ?_))
            obtain ⟨r, g1, g2⟩ := w10 z
            have := rest r g1
            subst this
            rw [List.append_nil] at g2
            apply cl
            apply Nat.eq_of_testBit_eq
            intro i
            rw [Nat.zero_testBit, Bool.eq_false_iff]
            intro y
            have := (w5 i).mp y
            rw [← g2, mk_tb] at this
            exact this.2 this.1
        · refine br_f (fun z => ca ((nI_eq (by omega) (by omega)).mp z)) (q0 (fun z => ?_))
          obtain ⟨r, g1, g2⟩ := w10 z
          have := rest r g1
          subst this
          rw [List.append_nil] at g1
          exact ca (Pth_det s a s w1 g1.2.2.2)
      | succ c ih =>
        intro st e a left seen l el ⟨w1, w2, w3, w4, w5, w6, w7, w8, w9, w10⟩
        have b3 := pM_30 ok (Or.inr rfl) (Pth_lt w1)
        have b1 := pM_30 ok (Or.inl rfl) (Pth_lt w1)
        have k6 : (30 : Nat) ^ l.length ≤ 30 ^ 6 := Nat.pow_le_pow_right (by decide) (by omega)
        have k7 : (30 : Nat) ^ 6 = 729000000 := by decide
        refine br_f (nI_ge (b := 6) (by omega) (by decide)) ?_
        have mkk := msk w7 w3
        rw [mkk.1]
        by_cases cs : bt seen a = 0
        · refine br_t (by rw [cs]; rfl) (cl_puttingFrom hO w4 w3 (fun no => ?_) (fun i hi bi ei => ?_))
          · refine br_t (by decide) (q0 (fun z => ?_))
            obtain ⟨r, g1, g2⟩ := w10 z
            obtain ⟨j, h1, h2⟩ := Pth_app.mp g1.2.2.2
            cases r with
            | nil =>
              rw [List.append_nil] at g1
              cases l with
              | nil => exact g1.1 rfl
              | cons x t =>
                -- back at s, which has been seen
                have h2 : j = s := h2
                have ea : a = s := Pth_det s a s w1 g1.2.2.2
                have := (w8 a w3).mpr ⟨x, by simp, by rw [ea]; exact w1.2.1⟩
                omega
            | cons y t =>
              have ea : j = a := Pth_det s j a h1 w1
              refine no y h2.1 ⟨?_, by rw [← ea]; exact h2.2.1⟩
              rw [← tb_bt, w5]
              refine ⟨by rw [← g2, mk_tb]; simp, fun hm => ?_⟩
              exact (nd_app.mp g1.2.1).2.2 y hm y (by simp) rfl
          · have o := ok i hi
            have it : left.testBit i = true := (tb_bt left i).mpr bi
            have iC := (w5 i).mp it
            refine br_f (nI_pos (by omega)) (br_t (nI_lt (b := 12) (by omega) (by decide)) (fun z8 e8 => ⟨vp_in_nI (by omega) (by decide), fun z10 e10 => ⟨vp_in_nI (by omega) (by decide), fun z12 e12 => ⟨vp_in_nI (by omega) (by decide), ?_⟩⟩⟩))
            obtain ⟨r0, r1, r2, r3, _⟩ := rows i hi
            rw [nI_clamp (by omega)] at e10 e12 ⊢
            rw [r3, nI_l (by omega), lN_mul] at e10
            rw [r1, nI_l (by omega), lN_mul] at e12
            rw [sh12' (by omega), nI_clr w4] at e8
            rw [e8, e10, e12, r2, mkk.2.1 cs, nI_1]
            have ad := bt_ad w7 w3 cs
            have r := ih (st + 1) (by omega) (p i 2) (clr left (2 ^ i)) (seen + 2 ^ a) (l ++ [i]) (by simp; omega) ⟨Pth_app.mpr ⟨a, w1, hi, ei, rfl⟩, nd_app.mpr ⟨w2, ⟨fun j hj => by simp at hj, trivial⟩, fun x hx y hy z => ?_⟩, o.2.1, clr_lt w4, fun j => ?_, fun j hj => ?_, ad.1, fun k hk => ?_, by rw [ad.2.2, w9]; simp, fun z => ?_⟩
            · rw [pM_app, pM_app] at r
              rw [show pM p 3 [i] = p i 3 from Nat.mul_one _, show pM p 1 [i] = p i 1 from Nat.mul_one _] at r
              exact r
            · rw [List.mem_singleton.mp hy, ei] at z
              have := (w8 a w3).mpr ⟨x, hx, z.symm⟩
              omega
            · rw [clr_tb w4, Bool.and_eq_true, w5, Nat.testBit_two_pow, Bool.not_eq_true', decide_eq_false_iff_not, List.mem_append, List.mem_singleton]
              constructor
              · rintro ⟨⟨h1, h2⟩, h3⟩
                exact ⟨h1, fun h4 => h4.elim h2 (fun h5 => h3 h5.symm)⟩
              · rintro ⟨h1, h2⟩
                exact ⟨⟨h1, fun h4 => h2 (Or.inl h4)⟩, fun h4 => h2 (Or.inr h4.symm)⟩
            · rcases List.mem_append.mp hj with hj | hj
              · exact w6 j hj
              · rw [List.mem_singleton.mp hj]; exact iC.1
            · rw [ad.2.1 k hk]
              by_cases c2 : k = a
              · rw [if_pos c2]
                exact ⟨fun _ => ⟨i, by simp, by rw [c2]; exact ei⟩, fun _ => rfl⟩
              · rw [if_neg c2, w8 k hk]
                constructor
                · rintro ⟨x, h1, h2⟩
                  exact ⟨x, List.mem_append.mpr (Or.inl h1), h2⟩
                · rintro ⟨x, h1, h2⟩
                  rcases List.mem_append.mp h1 with h1 | h1
                  · exact ⟨x, h1, h2⟩
                  · rw [List.mem_singleton.mp h1, ei] at h2
                    exact absurd h2.symm c2
            · obtain ⟨r, g1, g2⟩ := w10 z
              obtain ⟨j, h1, h2⟩ := Pth_app.mp g1.2.2.2
              have ea : j = a := Pth_det s j a h1 w1
              have ir : i ∈ r := by
                have := iC.1
                rw [← g2, mk_tb] at this
                rcases List.mem_append.mp this with h | h
                · exact absurd h iC.2
                · exact h
              cases r with
              | nil => simp at ir
              | cons y t =>
                have ey : y = i := by
                  rcases List.mem_cons.mp ir with h | h
                  · exact h.symm
                  · exact absurd (by rw [ei, h2.2.1, ea]) ((nd_app.mp g1.2.1).2.1.1 i h)
                subst ey
                refine ⟨t, ?_, ?_⟩
                · rw [List.append_assoc]; exact g1
                · rw [List.append_assoc]; exact g2
        · have c1 : bt seen a = 1 := by have := bt_cs seen a; omega
          have ax := (w8 a w3).mp c1
          have rest : ∀ r, Rg n p s (l ++ r) → r = [] := fun r hr => by
            cases r with
            | nil => rfl
            | cons j t =>
              obtain ⟨g1, g2, g3⟩ := nd_app.mp hr.2.1
              obtain ⟨b, h1, h2⟩ := Pth_app.mp hr.2.2.2
              have ea : b = a := Pth_det s b a h1 w1
              obtain ⟨x, hx, ex⟩ := ax
              exact absurd (by rw [h2.2.1, ea, ex]) (g3 x hx j (by simp))
          refine br_f (by rw [c1]; decide) ?_
          by_cases ca : a = s
          · refine br_t (by rw [ca]) ?_
            by_cases cl : left = 0
            · refine br_t (by rw [cl]; rfl) ?_
              by_cases cm : pM p 3 l < pM p 1 l
              · refine br_f (fun z => ?_) (q1 ⟨s, l, ⟨fun z => by obtain ⟨x, hx, _⟩ := ax; rw [z] at hx; simp at hx, w2, cm, by rw [ca] at w1; exact w1⟩, ?_⟩)
                · rw [lg_cmp_ge, pk_lLE (by omega) (by omega)] at z; omega
                · apply Nat.eq_of_testBit_eq
                  intro i
                  rw [Bool.eq_iff_iff, mk_tb]
                  refine ⟨fun z => ?_, fun z => w6 i z⟩
                  by_cases m : i ∈ l
                  · exact m
                  · have := (w5 i).mpr ⟨z, m⟩
                    rw [cl, Nat.zero_testBit] at this
                    exact absurd this (by decide)
              · refine br_t (by rw [lg_cmp_ge, pk_lLE (by omega) (by omega)]; omega) (q0 (fun z => ?_))
                obtain ⟨r, g1, g2⟩ := w10 z
                have := rest r g1
                subst this
                rw [List.append_nil] at g1
                exact cm g1.2.2.1
            · refine br_f (nI_ne0 (by omega) (by omega)) (q0 (fun z => ?_))
              obtain ⟨r, g1, g2⟩ := w10 z
              have := rest r g1
              subst this
              rw [List.append_nil] at g2
              apply cl
              apply Nat.eq_of_testBit_eq
              intro i
              rw [Nat.zero_testBit, Bool.eq_false_iff]
              intro y
              have := (w5 i).mp y
              rw [← g2, mk_tb] at this
              exact this.2 this.1
          · refine br_f (fun z => ca ((nI_eq (by omega) (by omega)).mp z)) (q0 (fun z => ?_))
            obtain ⟨r, g1, g2⟩ := w10 z
            have := rest r g1
            subst this
            rw [List.append_nil] at g1
            exact ca (Pth_det s a s w1 g1.2.2.2)
    exact ⟨_, go 6 0 rfl s C 0 [] rfl ⟨rfl, trivial, hs, hC, fun i => ⟨fun z => ⟨z, by simp⟩, fun z => z.1⟩, fun i hi => by simp at hi, by decide, fun k hk => ⟨fun z => by unfold bt at z; rw [Nat.zero_div] at z; omega, fun ⟨x, hx, _⟩ => by simp at hx⟩, by decide, fun z => hr z⟩⟩
  refine cl_firstKind hO hC (fun no => main 0 (by decide) (fun ⟨s, l, hl, e⟩ => ?_)) (fun i hi bi => main (p i 0) (ok i hi).1 (fun ⟨s, l, hl, e⟩ => ?_))
  · obtain ⟨hne, _, _, hp⟩ := hl
    cases l with
    | nil => exact absurd rfl hne
    | cons i t =>
      refine absurd ?_ (no i hp.1)
      rw [← tb_bt, e, mk_tb]; simp
  · have im : i ∈ l := by rw [← mk_tb, ← e, tb_bt]; exact bi
    obtain ⟨t, g1, g2⟩ := Rg_at hl im
    exact ⟨i :: t, g1, by rw [g2, e]⟩
