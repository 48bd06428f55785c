/-! image and on -/
theorem db_sa_na {X : db_St} {k : Nat} {f : Nat → Int32} {a b : Nat} (h : a ≠ k) : (db_sa X k f).1 a b = X.1 a b := by rw [db_sa_1, if_neg h]
theorem db_sa_at {X : db_St} {k : Nat} {f : Nat → Int32} {a b : Nat} (h : a = k) : (db_sa X k f).1 a b = f b := by rw [db_sa_1, if_pos h]
def CpB (o q : Nat) (X Y : db_St) : Prop := Y.1 q 3 = X.1 o 3 ∧ Y.1 q 4 = X.1 o 4 ∧ Y.1 q 5 = X.1 o 5 ∧ ∀ j, j < 10 → Y.1 (q + 1) j = X.1 (o + 1) j ∧ Y.1 (q + 2) j = X.1 (o + 2) j ∧ Y.1 (q + 3) j = X.1 (o + 3) j
def CpS (o q : Nat) (X Y : db_St) : Prop := (∀ b, b < 6 → CpB (o + 2 + 4 * b) (q + 2 + 4 * b) X Y) ∧ Y.1 q 4 = X.1 o 4 ∧ ∀ j, j < 12 → Y.1 (q + 26) j = X.1 (o + 26) j ∧ Y.1 (q + 27) j = X.1 (o + 27) j ∧ Y.1 (q + 28) j = X.1 (o + 28) j
def CpP (o q : Nat) (X Y : db_St) : Prop := Y.1 q 1 = X.1 o 1 ∧ Y.1 q 2 = X.1 o 2 ∧ ∀ j, j < 24 → Y.1 (q + 1) j = X.1 (o + 1) j
def CpO (o q : Nat) (X Y : db_St) : Prop := Y.1 q 4 = X.1 o 4 ∧ ∀ j, j < 12 → Y.1 (q + 1) j = X.1 (o + 1) j ∧ Y.1 (q + 2) j = X.1 (o + 2) j ∧ Y.1 (q + 3) j = X.1 (o + 3) j ∧ Y.1 (q + 4) j = X.1 (o + 4) j
/-- nothing but the cells from q on, m of them, has changed -/
def Only (q m : Nat) (X Y : db_St) : Prop := ∀ c j, (c < q ∨ q + m ≤ c) → Y.1 c j = X.1 c j
theorem cp_v {n : Nat} (h : n < 2 ^ 31) : (¬ (0 : Int32) < 0 ∧ ¬ (0 : Int32) < 0 ∧ ¬ nI n < 0) ∧ ((0 : Int32)).toNatClampNeg + (nI n).toNatClampNeg ≤ n ∧ ((0 : Int32)).toNatClampNeg + (nI n).toNatClampNeg ≤ n := by
  refine ⟨⟨by decide, by decide, nI_pos h⟩, ?_, ?_⟩ <;> rw [show ((0 : Int32)).toNatClampNeg = 0 by decide, nI_clamp h] <;> omega
theorem cp_at {f g : Nat → Int32} {n j : Nat} (hn : n < 2 ^ 31) (h : j < n) : va_cpy f g ((0 : Int32)).toNatClampNeg ((0 : Int32)).toNatClampNeg (nI n).toNatClampNeg j = f j := by
  rw [show ((0 : Int32)).toNatClampNeg = 0 by decide, nI_clamp hn, pk_cpy_in (by omega) (by omega)]
  exact congrArg f (by omega)
theorem cl_cpB {o q : Nat} {X : db_St} {Q : db_St → Prop} (ho : o + 3 < q ∨ q + 3 < o) (k : ∀ Y, Only q 4 X Y → CpB o q X Y → Q Y) : wp_X0_copyFrom q o X Q := by
  refine ⟨cp_v (n := 10) (by decide), fun A eA => ⟨cp_v (n := 10) (by decide), fun B eB => ⟨cp_v (n := 10) (by decide), fun C eC D eD E eE F eF => ?_⟩⟩⟩
  have p10 : ∀ {f g : Nat → Int32} {j : Nat}, j < 10 → va_cpy f g ((0 : Int32)).toNatClampNeg ((0 : Int32)).toNatClampNeg ((10 : Int32)).toNatClampNeg j = f j := fun hj => cp_at (n := 10) (by decide) hj
  refine k F (fun c j hc => ?_) ⟨?_, ?_, ?_, fun j hj => ⟨?_, ?_, ?_⟩⟩
  · rw [eF, eE, eD, eC, eB, eA]; simp (disch := omega) only [db_si_na, db_sa_na]
  · rw [eF, eE, eD, eC, eB, eA]; simp (disch := omega) only [db_si_na, db_si_nb, db_si_hit, db_sa_na]
  · rw [eF, eE, eD, eC, eB, eA]; simp (disch := omega) only [db_si_na, db_si_nb, db_si_hit, db_sa_na]
  · rw [eF, eE, eD, eC, eB, eA]; simp (disch := omega) only [db_si_na, db_si_nb, db_si_hit, db_sa_na]
  · rw [eF, eE, eD, eC, eB, db_si_na (by omega), db_si_na (by omega), db_si_na (by omega), db_sa_na (by omega), db_sa_na (by omega), eA, db_sa_at rfl, p10 hj]
  · rw [eF, eE, eD, eC, db_si_na (by omega), db_si_na (by omega), db_si_na (by omega), db_sa_na (by omega), eB, db_sa_at rfl, p10 hj, eA, db_sa_na (by omega)]
  · rw [eF, eE, eD, db_si_na (by omega), db_si_na (by omega), db_si_na (by omega), eC, db_sa_at rfl, p10 hj, eB, eA, db_sa_na (by omega), db_sa_na (by omega)]
theorem cl_cpP {o q : Nat} {X : db_St} {Q : db_St → Prop} (ho : o + 1 < q ∨ q + 1 < o) (k : ∀ Y, Only q 2 X Y → CpP o q X Y → Q Y) : wp_X4_copyFrom q o X Q := by
  refine ⟨cp_v (n := 24) (by decide), fun A eA B eB C eC => ?_⟩
  have p24 : ∀ {f g : Nat → Int32} {j : Nat}, j < 24 → va_cpy f g ((0 : Int32)).toNatClampNeg ((0 : Int32)).toNatClampNeg ((24 : Int32)).toNatClampNeg j = f j := fun hj => cp_at (n := 24) (by decide) hj
  refine k C (fun c j hc => ?_) ⟨?_, ?_, fun j hj => ?_⟩
  · rw [eC, eB, eA]; simp (disch := omega) only [db_si_na, db_sa_na]
  · rw [eC, eB, eA]; simp (disch := omega) only [db_si_na, db_si_nb, db_si_hit, db_sa_na]
  · rw [eC, eB, eA]; simp (disch := omega) only [db_si_na, db_si_nb, db_si_hit, db_sa_na]
  · rw [eC, eB, db_si_na (by omega), db_si_na (by omega), eA, db_sa_at rfl, p24 hj]
theorem cl_cpO {o q : Nat} {X : db_St} {Q : db_St → Prop} (ho : o + 4 < q ∨ q + 4 < o) (k : ∀ Y, Only q 5 X Y → CpO o q X Y → Q Y) : wp_X5_copyFrom q o X Q := by
  refine ⟨cp_v (n := 12) (by decide), fun A eA => ⟨cp_v (n := 12) (by decide), fun B eB => ⟨cp_v (n := 12) (by decide), fun C eC => ⟨cp_v (n := 12) (by decide), fun D eD E eE => ?_⟩⟩⟩⟩
  have p12 : ∀ {f g : Nat → Int32} {j : Nat}, j < 12 → va_cpy f g ((0 : Int32)).toNatClampNeg ((0 : Int32)).toNatClampNeg ((12 : Int32)).toNatClampNeg j = f j := fun hj => cp_at (n := 12) (by decide) hj
  refine k E (fun c j hc => ?_) ⟨?_, fun j hj => ⟨?_, ?_, ?_, ?_⟩⟩
  · rw [eE, eD, eC, eB, eA]; simp (disch := omega) only [db_si_na, db_sa_na]
  · rw [eE, eD, eC, eB, eA]; simp (disch := omega) only [db_si_na, db_si_nb, db_si_hit, db_sa_na]
  · rw [eE, eD, eC, eB, db_si_na (by omega), db_sa_na (by omega), db_sa_na (by omega), db_sa_na (by omega), eA, db_sa_at rfl, p12 hj]
  · rw [eE, eD, eC, db_si_na (by omega), db_sa_na (by omega), db_sa_na (by omega), eB, db_sa_at rfl, p12 hj, eA, db_sa_na (by omega)]
  · rw [eE, eD, db_si_na (by omega), db_sa_na (by omega), eC, db_sa_at rfl, p12 hj, eB, eA, db_sa_na (by omega), db_sa_na (by omega)]
  · rw [eE, db_si_na (by omega), eD, db_sa_at rfl, p12 hj, eC, eB, eA, db_sa_na (by omega), db_sa_na (by omega), db_sa_na (by omega)]
theorem cl_cpS {o q : Nat} {X : db_St} {Q : db_St → Prop} (ho : o + 29 ≤ q ∨ q + 29 ≤ o) (k : ∀ Y, Only q 29 X Y → CpS o q X Y → Q Y) : wp_X8_copyFrom q o X Q := by
  unfold wp_X8_copyFrom
  refine pk_loop (fun n i Y => wp_X8_copyFrom_2 q o Q n Y (nI i)) (fun i Y => Only q 29 X Y ∧ ∀ b, b < i → CpB (o + 2 + 4 * b) (q + 2 + 4 * b) X Y) 6 0 X (by decide) ⟨fun _ _ _ => rfl, fun _ h => absurd h (by omega)⟩ ?_ ?_
  · intro n Y ⟨h1, h2⟩
    have p12 : ∀ {f g : Nat → Int32} {j : Nat}, j < 12 → va_cpy f g ((0 : Int32)).toNatClampNeg ((0 : Int32)).toNatClampNeg ((12 : Int32)).toNatClampNeg j = f j := fun hj => cp_at (n := 12) (by decide) hj
    refine br_t (by decide) ⟨cp_v (n := 12) (by decide), fun A eA => ⟨cp_v (n := 12) (by decide), fun B eB => ⟨cp_v (n := 12) (by decide), fun C eC D eD => ?_⟩⟩⟩
    have K : ∀ c j, c ≠ q + 26 → c ≠ q + 27 → c ≠ q + 28 → c ≠ q → D.1 c j = Y.1 c j := fun c j g1 g2 g3 g4 => by
      rw [eD, eC, eB, eA, db_si_na g4, db_sa_na g3, db_sa_na g2, db_sa_na g1]
    refine k D (fun c j hc => (K c j (by omega) (by omega) (by omega) (by omega)).trans (h1 c j hc)) ⟨fun b hb => ?_, ?_, fun j hj => ⟨?_, ?_, ?_⟩⟩
    · obtain ⟨g1, g2, g3, g4⟩ := h2 b hb
      refine ⟨(K _ _ (by omega) (by omega) (by omega) (by omega)).trans g1, (K _ _ (by omega) (by omega) (by omega) (by omega)).trans g2, (K _ _ (by omega) (by omega) (by omega) (by omega)).trans g3, fun j hj => ?_⟩
      obtain ⟨f1, f2, f3⟩ := g4 j hj
      exact ⟨(K _ _ (by omega) (by omega) (by omega) (by omega)).trans f1, (K _ _ (by omega) (by omega) (by omega) (by omega)).trans f2, (K _ _ (by omega) (by omega) (by omega) (by omega)).trans f3⟩
    · rw [eD, db_si_hit, eC, eB, eA, db_sa_na (by omega), db_sa_na (by omega), db_sa_na (by omega), h1 _ _ (by omega)]
    · rw [eD, eC, eB, db_si_na (by omega), db_sa_na (by omega), db_sa_na (by omega), eA, db_sa_at rfl, p12 hj, h1 _ _ (by omega)]
    · rw [eD, eC, db_si_na (by omega), db_sa_na (by omega), eB, db_sa_at rfl, p12 hj, eA, db_sa_na (by omega), h1 _ _ (by omega)]
    · rw [eD, db_si_na (by omega), eC, db_sa_at rfl, p12 hj, eB, eA, db_sa_na (by omega), db_sa_na (by omega), h1 _ _ (by omega)]
  · intro n i Y hi ⟨h1, h2⟩ go
    refine br_f (nI_ge (b := 6) hi (by decide)) ⟨vp_in_nI hi (by decide), vp_in_nI hi (by decide), ?_⟩
    rw [nI_clamp (show i < 2 ^ 31 by omega), nI_1]
    refine cl_cpB (by omega) (fun Z z1 z2 => go Z ⟨fun c j hc => (z1 c j (by omega)).trans (h1 c j hc), fun b hb => ?_⟩)
    by_cases e : b = i
    · subst e
      rw [show q + 1 + 1 + 4 * b = q + 2 + 4 * b by omega, show o + 1 + 1 + 4 * b = o + 2 + 4 * b by omega] at z2
      obtain ⟨g1, g2, g3, g4⟩ := z2
      refine ⟨g1.trans (h1 _ _ (by omega)), g2.trans (h1 _ _ (by omega)), g3.trans (h1 _ _ (by omega)), fun j hj => ?_⟩
      obtain ⟨f1, f2, f3⟩ := g4 j hj
      exact ⟨f1.trans (h1 _ _ (by omega)), f2.trans (h1 _ _ (by omega)), f3.trans (h1 _ _ (by omega))⟩
    · obtain ⟨g1, g2, g3, g4⟩ := h2 b (by omega)
      refine ⟨(z1 _ _ (by omega)).trans g1, (z1 _ _ (by omega)).trans g2, (z1 _ _ (by omega)).trans g3, fun j hj => ?_⟩
      obtain ⟨f1, f2, f3⟩ := g4 j hj
      exact ⟨(z1 _ _ (by omega)).trans f1, (z1 _ _ (by omega)).trans f2, (z1 _ _ (by omega)).trans f3⟩
theorem SimX.copy {ks kp ko a qs qp qo z : Nat} {X Y : db_St} (h : SimX ks kp ko a X) (cS : CpS ks qs X Y) (cP : CpP kp qp X Y) (cO : CpO ko qo X Y) (cA : ∀ j, j < 310 → Y.1 z j = X.1 a j) : SimX qs qp qo z Y := by
  obtain ⟨hB, hL, hM, hD, hN, hF, hG, hO⟩ := h
  obtain ⟨s1, s2, s3⟩ := cS
  obtain ⟨p1, p2, p3⟩ := cP
  obtain ⟨o1, o2⟩ := cO
  refine ⟨fun b hb => ?_, fun b hb => ?_, fun b hb => ?_, ?_, fun i hi => ?_, ?_, ?_, ?_⟩
  · obtain ⟨n, h0, h1, h2, h3⟩ := hB b hb
    refine ⟨n, h0, (s1 b hb).1.trans h1, (cA _ (by omega)).trans h2, fun r hr => ?_⟩
    obtain ⟨g1, g2, g3⟩ := (s1 b hb).2.2.2 r (by omega)
    rw [show qs + 2 + 4 * b + 1 = qs + 3 + 4 * b by omega, show ks + 2 + 4 * b + 1 = ks + 3 + 4 * b by omega] at g1
    rw [show qs + 2 + 4 * b + 2 = qs + 4 + 4 * b by omega, show ks + 2 + 4 * b + 2 = ks + 4 + 4 * b by omega] at g2
    rw [show qs + 2 + 4 * b + 3 = qs + 5 + 4 * b by omega, show ks + 2 + 4 * b + 3 = ks + 5 + 4 * b by omega] at g3
    rw [g1, g2, g3, cA _ (by omega), cA _ (by omega), cA _ (by omega)]
    exact h3 r hr
  · rw [(s1 b hb).2.1, cA _ (by omega)]; exact hL b hb
  · rw [(s1 b hb).2.2.1, cA _ (by omega)]; exact hM b hb
  · obtain ⟨n, h0, h1, h2, h3⟩ := hD
    refine ⟨n, h0, s2.trans h1, (cA _ (by omega)).trans h2, fun i hi => ?_⟩
    obtain ⟨g1, g2, g3⟩ := s3 i (by omega)
    rw [g1, g2, g3, cA _ (by omega), cA _ (by omega), cA _ (by omega)]
    exact h3 i hi
  · rw [p3 i hi, cA _ (by omega)]; exact hN i hi
  · unfold SimF; rw [p1, cA _ (by omega)]; exact hF
  · unfold SimG; rw [p2, cA _ (by omega)]; exact hG
  · obtain ⟨n, h0, h1, h2, h3⟩ := hO
    refine ⟨n, h0, o1.trans h1, (cA _ (by omega)).trans h2, fun i hi => ?_⟩
    obtain ⟨g1, g2, g3, g4⟩ := o2 i (by omega)
    rw [g1, g2, g3, g4, cA _ (by omega), cA _ (by omega), cA _ (by omega), cA _ (by omega)]
    exact h3 i hi
theorem mo_image {X : db_St} {Q : Int32 → db_St → Prop} (q : ∀ Y, (∀ c j, c ≠ 93 → c ≠ 90 → Y.1 c j = X.1 c j) → (∀ j, j ≠ 3 → Y.1 90 j = X.1 90 j) → Y.1 90 3 = 1 → (∀ j, j < 310 → Y.1 93 j = X.1 92 j) → Q (X.1 92 306) Y) : wp_X11_image X Q := by
  unfold wp_X11_image
  refine pk_loop (fun n i Y => wp_X11_image_2 Q n Y (nI i)) (fun i Y => (∀ c j, c ≠ 93 → Y.1 c j = X.1 c j) ∧ ∀ j, j < i → Y.1 93 j = X.1 92 j) 310 0 X (by decide) ⟨fun _ _ _ => rfl, fun _ h => absurd h (by omega)⟩ ?_ ?_
  · intro n Y ⟨h1, h2⟩
    refine br_t (by decide) (fun Z eZ => ?_)
    have e : Z.1 92 ((306 : Int32)).toNatClampNeg = X.1 92 306 := by
      rw [show ((306 : Int32)).toNatClampNeg = 306 by decide, eZ, db_si_na (by decide), h1 _ _ (by decide)]
    rw [e]
    refine q Z (fun c j g1 g2 => ?_) (fun j g => ?_) ?_ (fun j g => ?_)
    · rw [eZ, db_si_na g2, h1 c j g1]
    · rw [eZ, db_si_nb g, h1 90 j (by decide)]
    · rw [eZ, db_si_hit]
    · rw [eZ, db_si_na (by decide), h2 j g]
  · intro n i Y hi ⟨h1, h2⟩ go
    refine br_f (nI_ge (b := 310) hi (by decide)) ⟨vp_in_nI hi (by decide), vp_in_nI hi (by decide), fun Z eZ => ?_⟩
    rw [nI_clamp (show i < 2 ^ 31 by omega)] at eZ
    rw [nI_1]
    refine go Z ⟨fun c j g => ?_, fun j hj => ?_⟩
    · rw [eZ, db_si_na g, h1 c j g]
    · by_cases e : j = i
      · rw [eZ, e, db_si_hit, h1 _ _ (by decide)]
      · rw [eZ, db_si_nb e, h2 j (by omega)]
theorem mo_on {X : db_St} {Q : Int32 → db_St → Prop} (q : ∀ Y, (∀ c j, c ≠ 92 → Y.1 c j = X.1 c j) → (∀ j, j < 310 → Y.1 92 j = X.1 93 j) → Q (X.1 93 306) Y) : ∃ f_, wp_X11_on_16 Q f_ X (0 : Int32) := by
  refine pk_loop (fun n i Y => wp_X11_on_16 Q n Y (nI i)) (fun i Y => (∀ c j, c ≠ 92 → Y.1 c j = X.1 c j) ∧ ∀ j, j < i → Y.1 92 j = X.1 93 j) 310 0 X (by decide) ⟨fun _ _ _ => rfl, fun _ h => absurd h (by omega)⟩ ?_ ?_
  · intro n Y ⟨h1, h2⟩
    refine br_t (by decide) ?_
    rw [show ((306 : Int32)).toNatClampNeg = 306 by decide, h2 306 (by decide)]
    exact q Y h1 h2
  · intro n i Y hi ⟨h1, h2⟩ go
    refine br_f (nI_ge (b := 310) hi (by decide)) ⟨vp_in_nI hi (by decide), vp_in_nI hi (by decide), fun Z eZ => ?_⟩
    rw [nI_clamp (show i < 2 ^ 31 by omega)] at eZ
    rw [nI_1]
    refine go Z ⟨fun c j g => ?_, fun j hj => ?_⟩
    · rw [eZ, db_si_na g, h1 c j g]
    · by_cases e : j = i
      · rw [eZ, e, db_si_hit, h1 _ _ (by decide)]
      · rw [eZ, db_si_nb e, h2 j (by omega)]
theorem CpS.mono {o q : Nat} {X Y Z W : db_St} (h : CpS o q X Y) (e : ∀ c j, o ≤ c → c < o + 29 → W.1 c j = X.1 c j) (e2 : ∀ c j, q ≤ c → c < q + 29 → Z.1 c j = Y.1 c j) : CpS o q W Z := by
  obtain ⟨s1, s2, s3⟩ := h
  refine ⟨fun b hb => ?_, ?_, fun j hj => ?_⟩
  · obtain ⟨g1, g2, g3, g4⟩ := s1 b hb
    refine ⟨?_, ?_, ?_, fun j hj => ?_⟩
    · rw [e _ _ (by omega) (by omega), e2 _ _ (by omega) (by omega)]; exact g1
    · rw [e _ _ (by omega) (by omega), e2 _ _ (by omega) (by omega)]; exact g2
    · rw [e _ _ (by omega) (by omega), e2 _ _ (by omega) (by omega)]; exact g3
    · rw [e _ _ (by omega) (by omega), e _ _ (by omega) (by omega), e _ _ (by omega) (by omega), e2 _ _ (by omega) (by omega), e2 _ _ (by omega) (by omega), e2 _ _ (by omega) (by omega)]; exact g4 j hj
  · rw [e _ _ (by omega) (by omega), e2 _ _ (by omega) (by omega)]; exact s2
  · rw [e _ _ (by omega) (by omega), e _ _ (by omega) (by omega), e _ _ (by omega) (by omega), e2 _ _ (by omega) (by omega), e2 _ _ (by omega) (by omega), e2 _ _ (by omega) (by omega)]; exact s3 j hj
theorem CpP.mono {o q : Nat} {X Y Z W : db_St} (h : CpP o q X Y) (e : ∀ c j, o ≤ c → c < o + 2 → W.1 c j = X.1 c j) (e2 : ∀ c j, q ≤ c → c < q + 2 → Z.1 c j = Y.1 c j) : CpP o q W Z := by
  obtain ⟨s1, s2, s3⟩ := h
  refine ⟨?_, ?_, fun j hj => ?_⟩
  · rw [e _ _ (by omega) (by omega), e2 _ _ (by omega) (by omega)]; exact s1
  · rw [e _ _ (by omega) (by omega), e2 _ _ (by omega) (by omega)]; exact s2
  · rw [e _ _ (by omega) (by omega), e2 _ _ (by omega) (by omega)]; exact s3 j hj
theorem CpO.mono {o q : Nat} {X Y Z W : db_St} (h : CpO o q X Y) (e : ∀ c j, o ≤ c → c < o + 5 → W.1 c j = X.1 c j) (e2 : ∀ c j, q ≤ c → c < q + 5 → Z.1 c j = Y.1 c j) : CpO o q W Z := by
  obtain ⟨s1, s2⟩ := h
  refine ⟨?_, fun j hj => ?_⟩
  · rw [e _ _ (by omega) (by omega), e2 _ _ (by omega) (by omega)]; exact s1
  · rw [e _ _ (by omega) (by omega), e _ _ (by omega) (by omega), e _ _ (by omega) (by omega), e _ _ (by omega) (by omega), e2 _ _ (by omega) (by omega), e2 _ _ (by omega) (by omega), e2 _ _ (by omega) (by omega), e2 _ _ (by omega) (by omega)]; exact s2 j hj
/-- the class's three copies -/
theorem cl_cp3 {os op oo qs qp qo : Nat} {X : db_St} {Q : db_St → Prop} (w : (os = 7 ∧ op = 36 ∧ oo = 38 ∧ qs = 54 ∧ qp = 83 ∧ qo = 85) ∨ (os = 54 ∧ op = 83 ∧ oo = 85 ∧ qs = 7 ∧ qp = 36 ∧ qo = 38)) (k : ∀ Y, Only qs 36 X Y → CpS os qs X Y → CpP op qp X Y → CpO oo qo X Y → Q Y) : wp_X8_copyFrom qs os X (fun X1 => wp_X4_copyFrom qp op X1 (fun X2 => wp_X5_copyFrom qo oo X2 Q)) := by
  refine cl_cpS (by omega) (fun A a1 a2 => cl_cpP (by omega) (fun B b1 b2 => cl_cpO (by omega) (fun C c1 c2 => ?_)))
  refine k C (fun c j hc => ((c1 c j (by omega)).trans (b1 c j (by omega))).trans (a1 c j (by omega))) ?_ ?_ ?_
  · exact a2.mono (fun _ _ _ _ => rfl) (fun c j h1 h2 => (c1 c j (by omega)).trans (b1 c j (by omega)))
  · exact b2.mono (fun c j h1 h2 => (a1 c j (by omega)).symm) (fun c j h1 h2 => c1 c j (by omega))
  · exact c2.mono (fun c j h1 h2 => ((b1 c j (by omega)).trans (a1 c j (by omega))).symm) (fun _ _ _ _ => rfl)
theorem op_26 {xs : Nat → Int32} {x3 : Int32} {X : db_St} (h : Sim X) : lc_26 xs x3 Sim X := by
  unfold lc_26 wp_X10_image
  refine cl_cp3 (Or.inl ⟨rfl, rfl, rfl, rfl, rfl, rfl⟩) (fun Y yo yS yP yO Z eZ => mo_image (fun W w1 w2 w3 w4 => ?_))
  obtain ⟨hR, hT, hW, hX, hI⟩ := h
  have z1 : ∀ c j, c ≠ 0 → (c < 54 ∨ 90 ≤ c) → Z.1 c j = X.1 c j := fun c j h1 h2 => by rw [eZ, db_si_na h1, yo c j h2]
  have K : ∀ c j, c ≠ 0 ∧ (c < 54 ∨ 90 ≤ c) ∧ c ≠ 93 ∧ c ≠ 90 → W.1 c j = X.1 c j := fun c j g => (w1 c j g.2.2.1 g.2.2.2).trans (z1 c j g.1 g.2.1)
  have K9 : ∀ j, j ≠ 3 → W.1 90 j = X.1 90 j := fun j hj => (w2 j hj).trans (z1 90 j (by decide) (by decide))
  have zy : ∀ c j, c ≠ 0 ∧ c ≠ 93 ∧ c ≠ 90 → W.1 c j = Y.1 c j := fun c j g => (w1 c j g.2.1 g.2.2).trans (by rw [eZ, db_si_na g.1])
  refine br_t ?_ ⟨hR.keep (fun j => K _ _ (by omega)) (fun j => K _ _ (by omega)), hT.keep (K _ _ (by omega)) (K9 _ (by omega)) (fun j => K _ _ (by omega)) (fun j => K _ _ (by omega)), hW.keep (K _ _ (by omega)) (K9 _ (by omega)) (fun j => K _ _ (by omega)) (fun j => K _ _ (by omega)), hX.keep (fun c j _ _ => K _ _ (by omega)) (fun c j _ _ => K _ _ (by omega)) (fun c j _ _ => K _ _ (by omega)) (fun j => K _ _ (by omega)), Or.inr ⟨?_, w3, ?_⟩⟩
  · obtain ⟨n, _, d1, d2, _⟩ := hX.2.2.2.1
    rw [z1 7 4 (by decide) (by decide), z1 92 306 (by decide) (by decide), d1, d2]
  · rw [w1 0 14 (by decide) (by decide), eZ, db_si_hit]
  · exact hX.copy (yS.mono (fun _ _ _ _ => rfl) (fun c j _ _ => zy c j (by omega))) (yP.mono (fun _ _ _ _ => rfl) (fun c j _ _ => zy c j (by omega))) (yO.mono (fun _ _ _ _ => rfl) (fun c j _ _ => zy c j (by omega))) (fun j hj => (w4 j hj).trans (z1 92 j (by decide) (by decide)))
theorem op_27 {xs : Nat → Int32} {x3 : Int32} {X : db_St} (h : Sim X) : lc_27 xs x3 Sim X := by
  unfold lc_27 wp_X10_on wp_X11_on
  rcases h.2.2.2.2 with ⟨i1, i2⟩ | ⟨i1, i2, hY⟩
  · refine br_t i1 (rf_c3 (br_t ?_ (rf_m3 (br_t rfl (sim_ref h)))))
    rw [db_si_na (by decide), i2]
  · refine br_f (by rw [i1]; decide) (cl_cp3 (Or.inr ⟨rfl, rfl, rfl, rfl, rfl, rfl⟩) (fun Y yo yS yP yO => br_f ?_ (mo_on (fun W w1 w2 => ?_))))
    · rw [yo 90 3 (by decide), i2]; decide
    obtain ⟨hR, hT, hW, hX, hI⟩ := h
    have K : ∀ c j, (c < 7 ∨ 43 ≤ c) ∧ c ≠ 92 → W.1 c j = X.1 c j := fun c j g => (w1 c j g.2).trans (yo c j g.1)
    refine br_t ?_ ⟨hR.keep (fun j => K _ _ (by omega)) (fun j => K _ _ (by omega)), hT.keep (K _ _ (by omega)) (K _ _ (by omega)) (fun j => K _ _ (by omega)) (fun j => K _ _ (by omega)), hW.keep (K _ _ (by omega)) (K _ _ (by omega)) (fun j => K _ _ (by omega)) (fun j => K _ _ (by omega)), ?_, hI.keep (K _ _ (by omega)) (K _ _ (by omega)) (fun c j _ _ => K _ _ (by omega)) (fun j => K _ _ (by omega))⟩
    · obtain ⟨n, _, d1, d2, _⟩ := hY.2.2.2.1
      rw [yS.2.1, yo 93 306 (by decide), d1, d2]
    · exact hY.copy (yS.mono (fun _ _ _ _ => rfl) (fun c j _ _ => w1 c j (by omega))) (yP.mono (fun _ _ _ _ => rfl) (fun c j _ _ => w1 c j (by omega))) (yO.mono (fun _ _ _ _ => rfl) (fun c j _ _ => w1 c j (by omega))) (fun j hj => (w2 j hj).trans (yo 93 j (by decide)))
