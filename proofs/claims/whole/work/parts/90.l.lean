/-! rule: both sides -/
theorem mo_reads {X : db_St} {Q : Int32 → db_St → Prop} {c : Nat → Nat} {t to : Nat} (h : HM X c t) (hto : to + 3 ≤ 310) (q0 : ∀ p, psr c t = .inl p → ∀ Y, OM to X Y → Y.1 90 6 = nI p → Q 0 Y) (q1 : ∀ d m y, psr c t = .inr (d, m, y) → ∀ Y, OM to X Y → Y.1 92 to = nI d → Y.1 92 (to + 1) = nI m → Y.1 92 (to + 2) = nI y → Q 1 Y) : wp_X11_reads X (nI to) Q := by
  intro A eA
  have oA : OM to X A := OM.rfl.at eA
  have a1 : A.1 90 6 = nI 0 := by rw [eA, db_si_hit]; rfl
  have hA := h.om oA
  unfold psr at q0 q1
  have c0 : (nI to).toNatClampNeg = to := nI_clamp (by omega)
  have c1 : (nI to + (1 : Int32)).toNatClampNeg = to + 1 := by rw [nI_1]; exact nI_clamp (by omega)
  have c2 : (nI to + (2 : Int32)).toNatClampNeg = to + 2 := by rw [show (2 : Int32) = nI 2 by decide, nI_add]; exact nI_clamp (by omega)
  have v0 : vp_in (nI to) 310 := vp_in_nI (by omega) (by decide)
  have v1 : vp_in (nI to + (1 : Int32)) 310 := by rw [nI_1]; exact vp_in_nI (by omega) (by decide)
  have v2 : vp_in (nI to + (2 : Int32)) 310 := by rw [show (2 : Int32) = nI 2 by decide, nI_add]; exact vp_in_nI (by omega) (by decide)
  by_cases g : 97 ≤ c 0 ∧ c 0 ≤ 104
  rotate_left
  · rw [if_pos g] at q0
    have z0 := q0 0 rfl A oA a1
    refine mo_sgn hA (i := 0) (by decide) a1 (fun hr => ?_)
    generalize er : sgn A t 0 = r at hr ⊢
    by_cases g1 : r < (97 : Int32)
    · exact br_t g1 z0
    · refine br_f g1 (mo_sgn hA (i := 0) (by decide) a1 (fun _ => ?_))
      rw [er]
      refine br_f (fun g2 => ?_) z0
      rcases hr with ⟨e, h2⟩ | ⟨h1, h2 | ⟨v, w1, w2, w3⟩⟩
      · rw [e] at g1 g2
        have n1 : ¬ c 0 < 97 := fun z => g1 (nI_lt (b := 97) z (by decide))
        have n2 : c 0 ≤ 104 := (nI_leI (b := 104) (by omega) (by decide)).mp g2
        exact g ⟨by omega, n2⟩
      · exact g1 (by rw [h2]; decide)
      · rw [w3] at g2
        have n2 : v ≤ 104 := (nI_leI (b := 104) (by omega) (by decide)).mp g2
        omega
  rw [if_neg (fun z => z g)] at q0 q1
  have yes : ∀ (r : Int32), ChM c 0 r → r = nI (c 0) := fun r hr => by
    rcases hr with ⟨er, h2⟩ | ⟨h3, _⟩
    · exact er
    · omega
  refine mo_sign hA (i := 0) (by decide) a1 (fun r hr => ?_)
  rw [yes r hr]
  refine br_f (nI_nlt (b := 97) g.1 (by omega)) (mo_sign hA (i := 0) (by decide) a1 (fun r2 hr2 => ?_))
  rw [yes r2 hr2]
  refine br_t (nI_le (b := 104) g.2 (by decide)) (mo_sign hA (i := 0) (by decide) a1 (fun r3 hr3 => ⟨v0, fun B eB => ⟨v1, fun C eC => ⟨v2, fun D eD E eE => ?_⟩⟩⟩))
  rw [yes r3 hr3, c0, show (97 : Int32) = nI 97 by decide, pk_sub g.1] at eB
  rw [c1] at eC
  rw [c2] at eD
  have oB : OM to X B := oA.to (k := 0) (by decide) eB
  have oC : OM to X C := oB.to (k := 1) (by decide) eC
  have oD : OM to X D := oC.to (k := 2) (by decide) eD
  have oE : OM to X E := oD.at eE
  have e6 : E.1 90 6 = nI 1 := by
    rw [eE, db_si_hit, eD, db_si_na (by decide), eC, db_si_na (by decide), eB, db_si_na (by decide), a1]; rfl
  have f0 : E.1 92 to = nI (c 0 - 97) := by
    rw [eE, db_si_na (by decide), eD, db_si_nb (by omega), eC, db_si_nb (by omega), eB, db_si_hit]
  have f1 : E.1 92 (to + 1) = nI 0 := by
    rw [eE, db_si_na (by decide), eD, db_si_nb (by omega), eC, db_si_hit]; rfl
  have f2 : E.1 92 (to + 2) = nI 0 := by
    rw [eE, db_si_na (by decide), eD, db_si_hit]; rfl
  have hE := h.om oE
  have ⟨m1, m2, m3⟩ := cm_le (c := c) 4 0 1 0 (by decide)
  refine mo_marks hE hto e6 f1 f2 (fun g2 Y oY y1 => ?_) (fun g2 Y oY y1 y2 y3 y4 => ?_)
  · rw [if_pos g2] at q0
    exact q0 _ rfl Y (oE.trans oY) y1
  rw [if_neg (fun z => z g2)] at q0 q1
  refine mo_days (hE.om oY) hto (by omega) y1 y4 (fun g3 Z oZ z1 => ?_) (fun g3 Z oZ z1 z2 z3 => ?_)
  · rw [if_pos g3] at q0
    exact q0 _ rfl Z ((oE.trans oY).trans oZ) z1
  · rw [if_neg g3] at q1
    exact q1 _ _ _ rfl Z ((oE.trans oY).trans oZ) (by rw [z1, y2, f0]) (by rw [z2, y3]) z3
/-- what stands on the tape, as far as it counts -/
def chX (X : db_St) (t i : Nat) : Nat := if i < t then (if X.1 3 i < 0 then 999 else (X.1 3 i).toNatClampNeg) else 999
theorem chX_C {X : db_St} {t : Nat} (ht : t ≤ 16) (e : X.1 2 1 = nI t) (e2 : X.1 90 5 = nI t) (h : ∀ j, j < t → X.1 94 j = X.1 3 j &&& 255 ∧ (X.1 3 j).toInt8.toInt32 = X.1 3 j) : HC X (chX X t) t ∧ HM X (chX X t) t := by
  have out : ∀ i, t ≤ i → chX X t i = 999 := fun i hi => by unfold chX; rw [if_neg (by omega)]
  refine ⟨⟨ht, e, fun i hi => ?_, out⟩, ⟨ht, e2, fun i hi => ?_, out⟩⟩
  · obtain ⟨h1, h2⟩ := h i hi
    have r1 : -128 ≤ (X.1 3 i).toInt ∧ (X.1 3 i).toInt < 128 := by
      rw [← h2, Int8.toInt_toInt32]
      have a := (X.1 3 i).toInt8.le_toInt
      have b := (X.1 3 i).toInt8.toInt_lt
      omega
    unfold ChC chX
    rw [if_pos hi]
    by_cases g : X.1 3 i < 0
    · rw [if_pos g]; exact Or.inr ⟨g, r1.1, rfl⟩
    · rw [if_neg g]
      obtain ⟨v, hv, ev⟩ := nI_of g
      rw [ev, nI_clamp hv]
      rw [ev, nI_toInt hv] at r1
      exact Or.inl ⟨rfl, by omega⟩
  · obtain ⟨h1, h2⟩ := h i hi
    have r1 : -128 ≤ (X.1 3 i).toInt ∧ (X.1 3 i).toInt < 128 := by
      rw [← h2, Int8.toInt_toInt32]
      have a := (X.1 3 i).toInt8.le_toInt
      have b := (X.1 3 i).toInt8.toInt_lt
      omega
    unfold ChM chX
    rw [if_pos hi, h1]
    by_cases g : X.1 3 i < 0
    · rw [if_pos g]
      refine Or.inr ⟨rfl, Or.inr ⟨(X.1 3 i).toBitVec.toNat % 2 ^ 8, ?_, ?_, pk_and _ 8 (by decide)⟩⟩
      · rw [Int32.lt_iff_toInt_lt, show ((0 : Int32)).toInt = 0 by decide] at g
        have q : (X.1 3 i).toInt = (X.1 3 i).toBitVec.toInt := rfl
        rw [q, BitVec.toInt_eq_toNat_cond] at r1 g
        have w := (X.1 3 i).toBitVec.isLt
        by_cases k : 2 * (X.1 3 i).toBitVec.toNat < 2 ^ 32
        · rw [if_pos k] at g; omega
        · rw [if_neg k] at r1; omega
      · have := Nat.mod_lt (X.1 3 i).toBitVec.toNat (show 0 < 2 ^ 8 by decide); omega
    · rw [if_neg g]
      obtain ⟨v, hv, ev⟩ := nI_of g
      rw [ev, nI_clamp hv]
      rw [ev, nI_toInt hv] at r1
      refine Or.inl ⟨?_, by omega⟩
      rw [pk_andN (by omega) 8 (by decide)]
      exact congrArg nI (Nat.mod_eq_of_lt (by omega))
theorem sim_rule {X Z : db_St} {j n : Nat} (hj : j < 6) (hn : n < 10) (h : Sim X) (k1 : ∀ a i, a ≠ 6 → a ≠ 2 → a ≠ 8 + 1 + 4 * j → a ≠ 8 + 1 + 4 * j + 1 → a ≠ 8 + 1 + 4 * j + 2 → a ≠ 8 + 1 + 4 * j + 3 → a ≠ 90 → a ≠ 92 → Z.1 a i = X.1 a i) (k2 : Z.1 2 1 = nI 0) (k3 : ∀ i, i ≠ 5 → i ≠ 6 → Z.1 90 i = X.1 90 i) (k4 : Z.1 90 5 = nI 0) (k5 : ∀ i, (i < 30 * j + 3 * n ∨ 30 * j + 3 * n + 3 ≤ i) → i ≠ 180 + j → Z.1 92 i = X.1 92 i) (k6 : Z.1 (8 + 1 + 4 * j) 4 = X.1 (8 + 1 + 4 * j) 4) (k7 : Z.1 (8 + 1 + 4 * j) 5 = X.1 (8 + 1 + 4 * j) 5) (kB : ∃ n, n ≤ 10 ∧ Z.1 (7 + 2 + 4 * j) 3 = nI n ∧ Z.1 92 (180 + j) = nI n ∧ ∀ r, r < n → ∃ d m y, d < 8 ∧ m < 16 ∧ y < 1000 ∧ Z.1 (7 + 3 + 4 * j) r = nI d ∧ Z.1 92 (30 * j + 3 * r) = nI d ∧ Z.1 (7 + 4 + 4 * j) r = nI m ∧ Z.1 92 (30 * j + 3 * r + 1) = nI m ∧ Z.1 (7 + 5 + 4 * j) r = nI y ∧ Z.1 92 (30 * j + 3 * r + 2) = nI y) : Sim Z := by
  obtain ⟨hR, hT, hW, ⟨hB, hL, hM, hD, hN, hF, hG, hO⟩, hI⟩ := h
  have K : ∀ a i, (a < 2 ∨ (2 < a ∧ a < 6) ∨ a = 7 ∨ (33 ≤ a ∧ a < 90) ∨ a = 91 ∨ 93 ≤ a) → Z.1 a i = X.1 a i := fun a i g => k1 a i (by omega) (by omega) (by omega) (by omega) (by omega) (by omega) (by omega) (by omega)
  have S : ∀ i, 186 ≤ i → Z.1 92 i = X.1 92 i := fun i g => k5 i (by omega) (by omega)
  refine ⟨hR.keep (fun i => K _ _ (by omega)) (fun i => K _ _ (by omega)), ⟨0, by omega, k2, k4, fun i hi => absurd hi (by omega)⟩, hW.keep (K _ _ (by omega)) (k3 _ (by decide) (by decide)) (fun i => K _ _ (by omega)) (fun i => K _ _ (by omega)), ⟨fun b hb => ?_, fun b hb => ?_, fun b hb => ?_, hD.keep (K _ _ (by omega)) (fun i => ⟨K _ _ (by omega), K _ _ (by omega), K _ _ (by omega)⟩) (fun i hi => S _ (by omega)), hN.keep (fun i => K _ _ (by omega)) (fun i _ _ => S _ (by omega)), hF.keep (K _ _ (by omega)) (S _ (by omega)), hG.keep (K _ _ (by omega)) (S _ (by omega)), hO.keep (K _ _ (by omega)) (fun i => ⟨K _ _ (by omega), K _ _ (by omega), K _ _ (by omega), K _ _ (by omega)⟩) (fun i hi => S _ (by omega))⟩, hI.keep (K _ _ (by omega)) (k3 _ (by decide) (by decide)) (fun a i _ _ => K _ _ (by omega)) (fun i => K _ _ (by omega))⟩
  · by_cases e : b = j
    · subst e; exact kB
    · obtain ⟨n2, h0, h1, h2, h3⟩ := hB b hb
      refine ⟨n2, h0, (k1 _ _ (by omega) (by omega) (by omega) (by omega) (by omega) (by omega) (by omega) (by omega)).trans h1, (k5 _ (by omega) (by omega)).trans h2, fun r hr => ?_⟩
      rw [k1 (7 + 3 + 4 * b) r (by omega) (by omega) (by omega) (by omega) (by omega) (by omega) (by omega) (by omega), k1 (7 + 4 + 4 * b) r (by omega) (by omega) (by omega) (by omega) (by omega) (by omega) (by omega) (by omega), k1 (7 + 5 + 4 * b) r (by omega) (by omega) (by omega) (by omega) (by omega) (by omega) (by omega) (by omega), k5 (30 * b + 3 * r) (by omega) (by omega), k5 (30 * b + 3 * r + 1) (by omega) (by omega), k5 (30 * b + 3 * r + 2) (by omega) (by omega)]
      exact h3 r hr
  · rw [S _ (by omega)]
    by_cases e : b = j
    · subst e
      have k6' : Z.1 (7 + 2 + 4 * b) 4 = X.1 (7 + 2 + 4 * b) 4 := k6
      rw [k6']; exact hL b hb
    · rw [k1 (7 + 2 + 4 * b) 4 (by omega) (by omega) (by omega) (by omega) (by omega) (by omega) (by omega) (by omega)]; exact hL b hb
  · rw [S _ (by omega)]
    by_cases e : b = j
    · subst e
      have k7' : Z.1 (7 + 2 + 4 * b) 5 = X.1 (7 + 2 + 4 * b) 5 := k7
      rw [k7']; exact hM b hb
    · rw [k1 (7 + 2 + 4 * b) 5 (by omega) (by omega) (by omega) (by omega) (by omega) (by omega) (by omega) (by omega)]; exact hM b hb
theorem psr_ok {c : Nat → Nat} {t d m y : Nat} (h : psr c t = .inr (d, m, y)) : d < 8 ∧ m < 16 ∧ y < 1000 := by
  unfold psr at h
  by_cases g : 97 ≤ c 0 ∧ c 0 ≤ 104
  · rw [if_neg (fun z => z g)] at h
    by_cases g2 : c (cm c 4 0 1 0).1 = 58
    · rw [if_neg (fun z => z g2)] at h
      by_cases g3 : (cd c 3 0 ((cm c 4 0 1 0).1 + 1) 0).1 = 0 ∨ ¬ (cd c 3 0 ((cm c 4 0 1 0).1 + 1) 0).2.1 = t
      · rw [if_pos g3] at h; exact absurd h (by simp)
      · rw [if_neg g3] at h
        have e := Sum.inr.inj h
        have e1 := (Prod.mk.inj e).1
        have e2 := (Prod.mk.inj (Prod.mk.inj e).2).1
        have e3 := (Prod.mk.inj (Prod.mk.inj e).2).2
        have ⟨m1, m2, m3⟩ := cm_le (c := c) 4 0 1 0 (by decide)
        have ⟨c1, c2⟩ := cd_le (c := c) 3 0 ((cm c 4 0 1 0).1 + 1) 0 (by decide) (by decide)
        exact ⟨by omega, by rw [← e2]; exact m3, by omega⟩
    · rw [if_pos g2] at h; exact absurd h (by simp)
  · rw [if_pos g] at h; exact absurd h (by simp)
theorem op_1 {xs : Nat → Int32} {x3 : Int32} {X : db_St} (h : Sim X) : lc_1 xs x3 Sim X := by
  unfold lc_1
  generalize xs ((x3 + (1 : Int32))).toNatClampNeg = a
  unfold wp_X10_rule wp_X11_rule
  rcases db_cs a 6 with ⟨j, hj, rfl⟩ | ha
  rotate_left
  · exact bk_no ha (br_t rfl (rf_c1 (mb_no ha (br_t rfl (rf_m1 (br_t rfl (sim_ref h)))))))
  have cj : (nI j).toNatClampNeg = j := nI_clamp (by omega)
  obtain ⟨n, hn, g1, g2, g3⟩ := h.2.2.2.1.1 j hj
  have g1' : X.1 (8 + 1 + 4 * j) 3 = nI n := g1
  have c1 : ((180 : Int32) + nI j).toNatClampNeg = 180 + j := ix_add (by decide) (by omega)
  have v1 : vp_in ((180 : Int32) + nI j) 310 := ix_in (k := 180) (by decide) (by omega) (by decide)
  have vj : vp_in (nI j) 6 := vp_in_nI hj (by decide)
  refine bk_yes hj (br_f (by decide) ⟨vj, ?_⟩)
  rw [cj, g1']
  by_cases n10 : n = 10
  · refine br_f (nI_nlt (b := 10) (by omega) (by omega)) (rf_c6 (mb_yes hj (br_f (by decide) ⟨v1, br_t ?_ (rf_m6 (br_t rfl (sim_ref h)))⟩)))
    rw [c1, db_si_na (by omega), g2, n10]; rfl
  have nl : n < 10 := by omega
  refine br_t (nI_lt (b := 10) nl (by decide)) ?_
  obtain ⟨t, ht, t1, t2, t3⟩ := h.2.1
  obtain ⟨hC, hM⟩ := chX_C ht t1 t2 t3
  have hz : 30 * j + 3 * n + 3 ≤ 310 := by omega
  -- the reference, from a state in which its own rows are as they were
  have mo : ∀ (Y : db_St) (Q : Int32 → db_St → Prop), (∀ i, Y.1 90 i = X.1 90 i) → (∀ i, Y.1 92 i = X.1 92 i) → (∀ i, Y.1 94 i = X.1 94 i) → (∀ p, psr (chX X t) t = .inl p → ∀ W, OM (30 * j + 3 * n) Y W → W.1 90 6 = nI p → Q (-20 - nI p) (db_si W 90 5 0)) → (∀ d m y, psr (chX X t) t = .inr (d, m, y) → ∀ W, OM (30 * j + 3 * n) Y W → W.1 92 (30 * j + 3 * n) = nI d → W.1 92 (30 * j + 3 * n + 1) = nI m → W.1 92 (30 * j + 3 * n + 2) = nI y → Q (nI n) (db_si (db_si W 90 5 0) 92 (180 + j) (nI (n + 1)))) → wp_X11_rule Y (nI j) Q := by
    intro Y Q e90 e92 e94 q0 q1
    have hY : HM Y (chX X t) t := ⟨hM.1, (e90 5).trans hM.2.1, fun i hi => by rw [e94]; exact hM.2.2.1 i hi, hM.2.2.2⟩
    unfold wp_X11_rule
    refine mb_yes hj (br_f (by decide) ⟨v1, br_f ?_ ⟨v1, ?_⟩⟩)
    · rw [c1, e92, g2]; exact fun z => n10 ((nI_eq (b := 10) (by omega) (by decide)).mp z)
    rw [c1, e92, g2, show (30 : Int32) = nI 30 by decide, show (3 : Int32) = nI 3 by decide, pk_mul, pk_mul, nI_add]
    refine mo_reads hY hz (fun p ep W oW w6 U eU => br_t rfl ?_) (fun d m y ep W oW w0 w1 w2 U eU => br_f (by decide) ⟨v1, v1, fun V eV => ⟨v1, ?_⟩⟩)
    · rw [eU, db_si_nb (by decide), w6]
      exact q0 p ep W oW w6
    · have w180 : W.1 92 (180 + j) = nI n := by rw [oW.2.2 _ (by omega), e92, g2]
      have u180 : U.1 92 (180 + j) = nI n := by rw [eU, db_si_na (by decide), w180]
      rw [u180, nI_1, eU] at eV
      rw [eV, db_si_hit, nI_pred]
      exact q1 d m y ep W oW w0 w1 w2
  refine cl_read hC (fun p ep Y oY y1 => ?_) (fun d m y ep Y oY y2 y3 y4 => ?_)
  · intro Z eZ
    refine br_t rfl ?_
    have zo : ∀ a i, a ≠ 6 → a ≠ 2 → Z.1 a i = X.1 a i := fun a i h1 h2 => by rw [eZ, db_si_na h2, oY a i h1]
    rw [eZ, db_si_na (by decide), y1, ← eZ]
    refine mo Z _ (fun i => zo 90 i (by decide) (by decide)) (fun i => zo 92 i (by decide) (by decide)) (fun i => zo 94 i (by decide) (by decide)) (fun p2 ep2 W oW w6 => ?_) (fun d m y ep2 => ?_)
    rotate_left
    · rw [ep] at ep2; exact absurd ep2 (by simp)
    have epp : p = p2 := by rw [ep] at ep2; exact Sum.inl.inj ep2
    rw [epp]
    have wo : ∀ a i, a ≠ 6 → a ≠ 2 → a ≠ 90 → a ≠ 92 → (db_si W 90 5 0).1 a i = X.1 a i := fun a i h1 h2 h3 h4 => by rw [db_si_na h3, oW.1 a i h3 h4, zo a i h1 h2]
    have w92 : ∀ i, (i < 30 * j + 3 * n ∨ 30 * j + 3 * n + 3 ≤ i) → (db_si W 90 5 0).1 92 i = X.1 92 i := fun i hi => by rw [db_si_na (by decide), oW.2.2 i hi, zo 92 i (by decide) (by decide)]
    refine br_t rfl (sim_rule hj nl h (fun a i h1 h2 _ _ _ _ h3 h4 => wo a i h1 h2 h3 h4) ?_ (fun i h5 h6 => ?_) ?_ (fun i hi _ => w92 i hi) (wo _ _ (by omega) (by omega) (by omega) (by omega)) (wo _ _ (by omega) (by omega) (by omega) (by omega)) ⟨n, hn, (wo _ _ (by omega) (by omega) (by omega) (by omega)).trans g1, (w92 _ (by omega)).trans g2, fun r hr => ?_⟩)
    · rw [db_si_na (by decide), oW.1 2 1 (by decide) (by decide), eZ, db_si_hit]; rfl
    · rw [db_si_nb h5, oW.2.1 i h6, zo 90 i (by decide) (by decide)]
    · rw [db_si_hit]; rfl
    · rw [wo (7 + 3 + 4 * j) r (by omega) (by omega) (by omega) (by omega), wo (7 + 4 + 4 * j) r (by omega) (by omega) (by omega) (by omega), wo (7 + 5 + 4 * j) r (by omega) (by omega) (by omega) (by omega), w92 (30 * j + 3 * r) (by omega), w92 (30 * j + 3 * r + 1) (by omega), w92 (30 * j + 3 * r + 2) (by omega)]
      exact g3 r hr
  · intro Z eZ
    refine br_f (by decide) ?_
    have zo : ∀ a i, a ≠ 6 → a ≠ 2 → Z.1 a i = X.1 a i := fun a i h1 h2 => by rw [eZ, db_si_na h2, oY a i h1]
    have z6 : ∀ i, Z.1 6 i = Y.1 6 i := fun i => by rw [eZ, db_si_na (by decide)]
    have zn : Z.1 (8 + 1 + 4 * j) 3 = nI n := (zo _ _ (by omega) (by omega)).trans g1'
    have vn : vp_in (nI n) 10 := vp_in_nI nl (by decide)
    have cn : (nI n).toNatClampNeg = n := nI_clamp (by omega)
    rw [z6, z6, z6, y2, y3, y4]
    unfold wp_X0_add
    rw [zn, cn]
    refine br_t (nI_lt (b := 10) nl (by decide)) ⟨vn, fun A eA => ?_⟩
    have an : A.1 (8 + 1 + 4 * j) 3 = nI n := by rw [eA, db_si_na (by omega), zn]
    rw [an, cn]
    refine ⟨vn, fun B eB => ?_⟩
    have bn : B.1 (8 + 1 + 4 * j) 3 = nI n := by rw [eB, db_si_na (by omega), an]
    rw [bn, cn]
    refine ⟨vn, fun C eC D eD => ?_⟩
    have gn : C.1 (8 + 1 + 4 * j) 3 = nI n := by rw [eC, db_si_na (by omega), bn]
    rw [gn, nI_1] at eD
    rw [show D.1 (8 + 1 + 4 * j) 3 = nI (n + 1) by rw [eD, db_si_hit], nI_pred]
    have dO : ∀ a i, a ≠ 6 → a ≠ 2 → a ≠ 8 + 1 + 4 * j → a ≠ 8 + 1 + 4 * j + 1 → a ≠ 8 + 1 + 4 * j + 2 → a ≠ 8 + 1 + 4 * j + 3 → D.1 a i = X.1 a i := fun a i h1 h2 h3 h4 h5 h6 => by
      rw [eD, db_si_na h3, eC, db_si_na h6, eB, db_si_na h5, eA, db_si_na h4, zo a i h1 h2]
    refine mo D _ (fun i => dO 90 i (by omega) (by omega) (by omega) (by omega) (by omega) (by omega)) (fun i => dO 92 i (by omega) (by omega) (by omega) (by omega) (by omega) (by omega)) (fun i => dO 94 i (by omega) (by omega) (by omega) (by omega) (by omega) (by omega)) (fun p2 ep2 => ?_) (fun d2 m2 y2' ep2 W oW w0 w1 w2 => ?_)
    · rw [ep] at ep2; exact absurd ep2 (by simp)
    have epp : (d, m, y) = (d2, m2, y2') := by rw [ep] at ep2; exact Sum.inr.inj ep2
    have ed := (Prod.mk.inj epp).1
    have em := (Prod.mk.inj (Prod.mk.inj epp).2).1
    have ey := (Prod.mk.inj (Prod.mk.inj epp).2).2
    subst ed em ey
    obtain ⟨p1, p2, p3⟩ := psr_ok ep
    have F1 : ∀ a i, a ≠ 90 → a ≠ 92 → (db_si (db_si W 90 5 0) 92 (180 + j) (nI (n + 1))).1 a i = D.1 a i := fun a i h1 h2 => by rw [db_si_na h2, db_si_na h1, oW.1 a i h1 h2]
    have F2 : ∀ i, i ≠ 180 + j → (db_si (db_si W 90 5 0) 92 (180 + j) (nI (n + 1))).1 92 i = W.1 92 i := fun i h1 => by rw [db_si_nb h1, db_si_na (by decide)]
    have D92 : ∀ i, D.1 92 i = X.1 92 i := fun i => dO 92 i (by omega) (by omega) (by omega) (by omega) (by omega) (by omega)
    refine br_t rfl (sim_rule hj nl h (fun a i h1 h2 h3 h4 h5 h6 h7 h8 => (F1 a i h7 h8).trans (dO a i h1 h2 h3 h4 h5 h6)) ?_ (fun i h5 h6 => ?_) ?_ (fun i hi h1 => ?_) ?_ ?_ ⟨n + 1, by omega, ?_, ?_, fun r hr => ?_⟩)
    · rw [F1 2 1 (by decide) (by decide), eD, db_si_na (by omega), eC, db_si_na (by omega), eB, db_si_na (by omega), eA, db_si_na (by omega), eZ, db_si_hit]; rfl
    · rw [db_si_na (by decide), db_si_nb h5, oW.2.1 i h6]
      exact dO 90 i (by omega) (by omega) (by omega) (by omega) (by omega) (by omega)
    · rw [db_si_na (by decide), db_si_hit]; rfl
    · rw [F2 i h1, oW.2.2 i hi, D92]
    · rw [F1 _ _ (by omega) (by omega), eD, db_si_nb (by decide), eC, db_si_na (by omega), eB, db_si_na (by omega), eA, db_si_na (by omega), zo _ _ (by omega) (by omega)]
    · rw [F1 _ _ (by omega) (by omega), eD, db_si_nb (by decide), eC, db_si_na (by omega), eB, db_si_na (by omega), eA, db_si_na (by omega), zo _ _ (by omega) (by omega)]
    · rw [F1 _ _ (by omega) (by omega), eD, db_si_at (by omega) (Eq.refl 3)]
    · rw [db_si_hit]
    · by_cases er : r = n
      · subst er
        refine ⟨d, m, y, p1, p2, p3, ?_, (F2 _ (by omega)).trans w0, ?_, (F2 _ (by omega)).trans w1, ?_, (F2 _ (by omega)).trans w2⟩
        · rw [F1 _ _ (by omega) (by omega), eD, db_si_na (by omega), eC, db_si_na (by omega), eB, db_si_na (by omega), eA, db_si_at (by omega) (Eq.refl _)]
        · rw [F1 _ _ (by omega) (by omega), eD, db_si_na (by omega), eC, db_si_na (by omega), eB, db_si_at (by omega) (Eq.refl _)]
        · rw [F1 _ _ (by omega) (by omega), eD, db_si_na (by omega), eC, db_si_at (by omega) (Eq.refl _)]
      · have q := g3 r (by omega)
        have e3 : D.1 (7 + 3 + 4 * j) r = X.1 (7 + 3 + 4 * j) r := by
          rw [eD, db_si_na (by omega), eC, db_si_na (by omega), eB, db_si_na (by omega), eA, db_si_nb er]
          exact zo _ _ (by omega) (by omega)
        have e4 : D.1 (7 + 4 + 4 * j) r = X.1 (7 + 4 + 4 * j) r := by
          rw [eD, db_si_na (by omega), eC, db_si_na (by omega), eB, db_si_nb er, eA, db_si_na (by omega)]
          exact zo _ _ (by omega) (by omega)
        have e5 : D.1 (7 + 5 + 4 * j) r = X.1 (7 + 5 + 4 * j) r := by
          rw [eD, db_si_na (by omega), eC, db_si_nb er, eB, db_si_na (by omega), eA, db_si_na (by omega)]
          exact zo _ _ (by omega) (by omega)
        rw [F1 (7 + 3 + 4 * j) r (by omega) (by omega), F1 (7 + 4 + 4 * j) r (by omega) (by omega), F1 (7 + 5 + 4 * j) r (by omega) (by omega), e3, e4, e5, F2 (30 * j + 3 * r) (by omega), F2 (30 * j + 3 * r + 1) (by omega), F2 (30 * j + 3 * r + 2) (by omega), oW.2.2 (30 * j + 3 * r) (by omega), oW.2.2 (30 * j + 3 * r + 1) (by omega), oW.2.2 (30 * j + 3 * r + 2) (by omega), D92, D92, D92]
        exact q
