theorem dd_no {X : db_St} {Q : Int32 → db_St → Prop} {a b : Int32} (h : (∀ j, j < 8 → a ≠ nI j) ∨ ∀ j, j < 16 → b ≠ nI j) (q : Q 0 X) : wp_X10_isDeed X a b Q := by
  refine ⟨fun _ => q, fun c => ⟨fun _ => q, fun c2 => ⟨fun _ => q, fun c3 => ⟨fun _ => q, fun c4 => ?_⟩⟩⟩⟩
  rcases h with h | h
  · exact absurd (lt_of_no (N := 8) (by decide) (by decide) h c) c2
  · exact absurd (lt_of_no (N := 16) (by decide) (by decide) h c3) c4
theorem dd_yes {X : db_St} {Q : Int32 → db_St → Prop} {i j : Nat} (h : i < 8) (h2 : j < 16) (q : Q 1 X) : wp_X10_isDeed X (nI i) (nI j) Q :=
  br_f (nI_pos (by omega)) (br_f (by rw [show (8 : Int32) = nI 8 by decide]; exact nI_ge h (by decide)) (br_f (nI_pos (by omega)) (br_f (by rw [show (16 : Int32) = nI 16 by decide]; exact nI_ge h2 (by decide)) q)))
theorem md_no {X : db_St} {Q : Int32 → db_St → Prop} {a b : Int32} (h : (∀ j, j < 8 → a ≠ nI j) ∨ ∀ j, j < 16 → b ≠ nI j) (q : Q 0 X) : wp_X11_isDeed X a b Q := by
  rcases db_cs a 8 with ⟨i, hi, rfl⟩ | ha
  · rcases h with h | h
    · exact absurd rfl (h i hi)
    · exact in_yes (N := 8) (by decide) (by decide) hi (br_f (by decide) (in_no (N := 16) (by decide) (by decide) h (br_t rfl q)))
  · exact in_no (N := 8) (by decide) (by decide) ha (br_t rfl q)
theorem md_yes {X : db_St} {Q : Int32 → db_St → Prop} {i j : Nat} (h : i < 8) (h2 : j < 16) (q : Q 1 X) : wp_X11_isDeed X (nI i) (nI j) Q :=
  in_yes (N := 8) (by decide) (by decide) h (br_f (by decide) (in_yes (N := 16) (by decide) (by decide) h2 (br_f (by decide) q)))
theorem dd_cs (a b : Int32) : (∃ i j, i < 8 ∧ j < 16 ∧ a = nI i ∧ b = nI j) ∨ ((∀ j, j < 8 → a ≠ nI j) ∨ ∀ j, j < 16 → b ≠ nI j) := by
  rcases db_cs a 8 with ⟨i, hi, e⟩ | ha
  · rcases db_cs b 16 with ⟨j, hj, e2⟩ | hb
    · exact Or.inl ⟨i, j, hi, hj, e, e2⟩
    · exact Or.inr (Or.inr hb)
  · exact Or.inr (Or.inl ha)
theorem sim_done {X : db_St} {n d m t : Nat} {v w : Int32} (hn : n < 12) (e : X.1 7 4 = nI n) (hd : d < 8) (hm : m < 16) (ht : t < 2) (hv : v = nI (t + 1)) (hw : w = nI t) (h : Sim X) : Sim (db_si (db_si (db_si (db_si (db_si (db_si (db_si (db_si X 33 n (nI d)) 34 n (nI m)) 35 n v) 7 4 (nI (n + 1))) 92 (198 + 3 * n) (nI d)) 92 (198 + 3 * n + 1) (nI m)) 92 (198 + 3 * n + 2) w) 92 306 (nI (n + 1))) := by
  obtain ⟨hR, hT, hW, ⟨hB, hL, hM, hD, hN, hF, hG, hO⟩, hI⟩ := h
  refine ⟨hR.keep (fun j => (by simp (disch := omega) only [db_si_nb, db_si_na])) (fun j => (by simp (disch := omega) only [db_si_nb, db_si_na])), hT.keep (by simp (disch := omega) only [db_si_nb, db_si_na]) (by simp (disch := omega) only [db_si_nb, db_si_na]) (fun j => (by simp (disch := omega) only [db_si_nb, db_si_na])) (fun j => (by simp (disch := omega) only [db_si_nb, db_si_na])), hW.keep (by simp (disch := omega) only [db_si_nb, db_si_na]) (by simp (disch := omega) only [db_si_nb, db_si_na]) (fun j => (by simp (disch := omega) only [db_si_nb, db_si_na])) (fun j => (by simp (disch := omega) only [db_si_nb, db_si_na])), ⟨hB.keep (fun b _ => (by simp (disch := omega) only [db_si_nb, db_si_na])) (fun b _ j => ⟨(by simp (disch := omega) only [db_si_nb, db_si_na]), (by simp (disch := omega) only [db_si_nb, db_si_na]), (by simp (disch := omega) only [db_si_nb, db_si_na])⟩) (fun j _ => (by simp (disch := omega) only [db_si_nb, db_si_na])), hL.keep (fun b _ => (by simp (disch := omega) only [db_si_nb, db_si_na])) (fun j _ _ => (by simp (disch := omega) only [db_si_nb, db_si_na])), hM.keep (fun b _ => (by simp (disch := omega) only [db_si_nb, db_si_na])) (fun j _ _ => (by simp (disch := omega) only [db_si_nb, db_si_na])), ?_, hN.keep (fun j => (by simp (disch := omega) only [db_si_nb, db_si_na])) (fun j _ _ => (by simp (disch := omega) only [db_si_nb, db_si_na])), hF.keep (by simp (disch := omega) only [db_si_nb, db_si_na]) (by simp (disch := omega) only [db_si_nb, db_si_na]), hG.keep (by simp (disch := omega) only [db_si_nb, db_si_na]) (by simp (disch := omega) only [db_si_nb, db_si_na]), hO.keep (by simp (disch := omega) only [db_si_nb, db_si_na]) (fun j => ⟨(by simp (disch := omega) only [db_si_nb, db_si_na]), (by simp (disch := omega) only [db_si_nb, db_si_na]), (by simp (disch := omega) only [db_si_nb, db_si_na]), (by simp (disch := omega) only [db_si_nb, db_si_na])⟩) (fun j _ => (by simp (disch := omega) only [db_si_nb, db_si_na]))⟩, hI.keep (by simp (disch := omega) only [db_si_nb, db_si_na]) (by simp (disch := omega) only [db_si_nb, db_si_na]) (fun c j _ _ => (by simp (disch := omega) only [db_si_nb, db_si_na])) (fun j => (by simp (disch := omega) only [db_si_nb, db_si_na]))⟩
  · obtain ⟨n0, h0, h1, h2, h3⟩ := hD
    have et : n0 = n := (nI_eq (by omega) (by omega)).mp (h1.symm.trans e)
    subst et
    refine ⟨n0 + 1, by omega, by simp (disch := omega) only [db_si_na, db_si_hit], by rw [db_si_hit], fun i hi => ?_⟩
    by_cases ei : i = n0
    · subst ei
      refine ⟨d, m, t, hd, hm, ht, ?_, ?_, ?_, ?_, ?_, ?_⟩
      · simp (disch := omega) only [db_si_na, db_si_nb, db_si_at]
      · simp (disch := omega) only [db_si_na, db_si_nb, db_si_at]
      · simp (disch := omega) only [db_si_na, db_si_nb, db_si_at]
      · simp (disch := omega) only [db_si_na, db_si_nb, db_si_at]
      · rw [← hv]; simp (disch := omega) only [db_si_na, db_si_nb, db_si_at]
      · rw [← hw]; simp (disch := omega) only [db_si_na, db_si_nb, db_si_at]
    · have := h3 i (by omega)
      simp (disch := omega) only [db_si_nb, db_si_na]
      exact this
/-- done: what the class does -/
theorem cl_done {X : db_St} {Q : Int32 → db_St → Prop} {a b x : Int32} (h : Sim X) (q1 : ((∀ j, j < 8 → a ≠ nI j) ∨ ∀ j, j < 16 → b ≠ nI j) → Q (-1) (db_si X 1 1 (X.1 1 1 + 1))) (q2 : ∀ d m, d < 8 → m < 16 → a = nI d → b = nI m → X.1 7 4 = nI 12 → Q (-6) (db_si X 1 6 (X.1 1 6 + 1)))
    (q3 : ∀ d m n, d < 8 → m < 16 → n < 12 → a = nI d → b = nI m → X.1 7 4 = nI n → Q (nI (n + 1)) (db_si (db_si (db_si (db_si X 33 n (nI d)) 34 n (nI m)) 35 n (if x = 0 then 1 else 2)) 7 4 (nI (n + 1)))) : wp_X10_done X a b x Q := by
  unfold wp_X10_done
  rcases dd_cs a b with ⟨d, m, hd, hm, rfl, rfl⟩ | hno
  rotate_left
  · exact dd_no hno (br_t rfl (rf_c1 (q1 hno)))
  obtain ⟨n, h0, h1, h2, h3⟩ := h.2.2.2.1.2.2.2.1
  refine dd_yes hd hm (br_f (by decide) ?_)
  by_cases hn : n = 12
  · exact br_f (by rw [h1, hn]; decide) (rf_c6 (q2 d m hd hm rfl rfl (by rw [h1, hn])))
  have hn2 : n < 12 := by omega
  have e12 : (12 : Int32) = nI 12 := by decide
  refine br_t (by rw [h1, e12]; exact nI_lt hn2 (by decide)) ?_
  unfold wp_X8_addDone
  have vn : vp_in (nI n) 12 := vp_in_nI hn2 (by decide)
  have cn : (nI n).toNatClampNeg = n := nI_clamp (by omega)
  rw [h1, cn]
  refine br_f (by rw [e12]; exact nI_ge hn2 (by decide)) ⟨vn, fun A eA => ?_⟩
  have a1 : A.1 7 4 = nI n := by rw [eA, db_si_na (by omega), h1]
  rw [a1, cn]
  refine ⟨vn, fun B eB => ?_⟩
  have b1 : B.1 7 4 = nI n := by rw [eB, db_si_na (by omega), a1]
  rw [b1, cn]
  have go : ∀ (y : Int32), y = (if x = 0 then 1 else 2) → ∀ Y : db_St, Y = db_si B 35 n y → ∀ Z : db_St, Z = db_si Y 7 4 (Y.1 7 4 + 1) → Q (Z.1 7 4) Z := by
    intro y ey Y eY Z eZ
    have y1 : Y.1 7 4 = nI n := by rw [eY, db_si_na (by omega), b1]
    rw [y1, nI_1] at eZ
    rw [eZ, db_si_hit, eY, eB, eA, ey]
    exact q3 d m n hd hm hn2 rfl rfl h1
  by_cases hx : x = 0
  · exact br_t hx ⟨vn, go 1 (by rw [if_pos hx])⟩
  · exact br_f hx ⟨vn, go 2 (by rw [if_neg hx])⟩
/-- done: what the reference does -/
theorem mo_done {X : db_St} {Q : Int32 → db_St → Prop} {a b x : Int32} (q1 : ((∀ j, j < 8 → a ≠ nI j) ∨ ∀ j, j < 16 → b ≠ nI j) → Q (-1) (db_si X 91 1 (X.1 91 1 + 1))) (q2 : ∀ d m, d < 8 → m < 16 → a = nI d → b = nI m → X.1 92 306 = nI 12 → Q (-6) (db_si X 91 6 (X.1 91 6 + 1)))
    (q3 : ∀ d m, d < 8 → m < 16 → a = nI d → b = nI m → ∃ n, n < 12 ∧ X.1 92 306 = nI n ∧ Q (nI (n + 1)) (db_si (db_si (db_si (db_si X 92 (198 + 3 * n) (nI d)) 92 (198 + 3 * n + 1) (nI m)) 92 (198 + 3 * n + 2) (if x = 0 then 0 else 1)) 92 306 (nI (n + 1))) ∨ X.1 92 306 = nI 12) : wp_X11_done X a b x Q := by
  unfold wp_X11_done
  have c306 : ((306 : Int32)).toNatClampNeg = 306 := by decide
  rcases dd_cs a b with ⟨d, m, hd, hm, rfl, rfl⟩ | hno
  rotate_left
  · exact md_no hno (br_t rfl (rf_m1 (q1 hno)))
  refine md_yes hd hm (br_f (by decide) ?_)
  rw [c306]
  obtain ⟨n, hq⟩ := q3 d m hd hm rfl rfl
  rcases hq with ⟨hn2, h1, q⟩ | hq
  rotate_left
  · exact br_t (by rw [hq]; decide) (rf_m6 (q2 d m hd hm rfl rfl hq))
  have e12 : (12 : Int32) = nI 12 := by decide
  refine br_f (by rw [h1, e12]; intro e; have := (nI_eq (by omega) (by omega)).mp e; omega) (fun z ez => ?_)
  rw [h1, show (3 : Int32) = nI 3 by decide, pk_mul, show (198 : Int32) = nI 198 by decide, nI_add] at ez
  have cz : ∀ k : Nat, k < 4 → (nI (198 + 3 * n + k)).toNatClampNeg = 198 + 3 * n + k := fun k hk => nI_clamp (by omega)
  have vz : ∀ k : Nat, k < 4 → vp_in (nI (198 + 3 * n + k)) 310 := fun k hk => vp_in_nI (by omega) (by decide)
  rw [ez, show (1 : Int32) = nI 1 by decide, show (2 : Int32) = nI 2 by decide, nI_add, nI_add]
  refine ⟨vz 0 (by omega), fun A eA => ⟨vz 1 (by omega), fun B eB => ?_⟩⟩
  rw [show nI (198 + 3 * n) = nI (198 + 3 * n + 0) from rfl, cz 0 (by omega)] at eA
  rw [cz 1 (by omega)] at eB
  rw [cz 2 (by omega)]
  have go : ∀ (y : Int32), y = (if x = 0 then 0 else 1) → ∀ Y : db_St, Y = db_si B 92 (198 + 3 * n + 2) y → ∀ Z : db_St, Z = db_si Y 92 306 (Y.1 92 306 + nI 1) → Q (Z.1 92 306) Z := by
    intro y ey Y eY Z eZ
    have y1 : Y.1 92 306 = nI n := by rw [eY, eB, eA]; simp (disch := omega) only [db_si_nb]; exact h1
    rw [y1, nI_add] at eZ
    rw [eZ, db_si_hit, eY, eB, eA, ey]
    exact q
  by_cases hx : x = 0
  · exact br_t hx ⟨vz 2 (by omega), go 0 (by rw [if_pos hx])⟩
  · exact br_f hx ⟨vz 2 (by omega), go (nI 1) (by rw [if_neg hx]; decide)⟩
theorem do_done {X : db_St} {a b x : Int32} (h : Sim X) {P : Int32 → db_St → Prop} (hP : ∀ r Z, wp_X11_done Z a b x (fun r2 X2 => (r = r2 → Sim X2) ∧ (¬ r = r2 → False)) → P r Z) : wp_X10_done X a b x P := by
  refine cl_done h (fun hno => hP _ _ (mo_done (fun _ => br_t rfl (sim_ref h)) (fun d m hd hm e1 e2 _ => absurd hno (fun z => z.elim (fun g => g d hd e1) (fun g => g m hm e2))) (fun d m hd hm e1 e2 => absurd hno (fun z => z.elim (fun g => g d hd e1) (fun g => g m hm e2))))) (fun d m hd hm e1 e2 h1 => hP _ _ (mo_done (fun hno => ?_) (fun _ _ _ _ _ _ _ => br_t rfl (sim_ref h)) (fun _ _ _ _ _ _ => ⟨0, Or.inr ?_⟩))) (fun d m n hd hm hn e1 e2 h1 => hP _ _ (mo_done (fun hno => ?_) (fun _ _ _ _ _ _ hq => ?_) (fun d2 m2 hd2 hm2 f1 f2 => ⟨n, Or.inl ⟨hn, ?_, ?_⟩⟩)))
  · rcases hno with g | g
    · exact absurd e1 (g d hd)
    · exact absurd e2 (g m hm)
  · obtain ⟨n, k0, k1, k2, k3⟩ := h.2.2.2.1.2.2.2.1
    rw [db_si_na (by omega), k2, ← k1, h1]
  · rcases hno with g | g
    · exact absurd e1 (g d hd)
    · exact absurd e2 (g m hm)
  · obtain ⟨n0, k0, k1, k2, k3⟩ := h.2.2.2.1.2.2.2.1
    simp (disch := omega) only [db_si_na] at hq
    rw [k2, ← k1, h1] at hq
    have := (nI_eq (by omega) (by omega)).mp hq
    omega
  · obtain ⟨n0, k0, k1, k2, k3⟩ := h.2.2.2.1.2.2.2.1
    simp (disch := omega) only [db_si_na]
    rw [k2, ← k1, h1]
  · have i1 : d2 = d := (nI_eq (by omega) (by omega)).mp (f1.symm.trans e1)
    have i2 : m2 = m := (nI_eq (by omega) (by omega)).mp (f2.symm.trans e2)
    subst i1 i2
    refine br_t rfl ?_
    by_cases hx : x = 0
    · rw [if_pos hx, if_pos hx]
      exact sim_done (t := 0) hn h1 hd hm (by decide) (by decide) (by decide) h
    · rw [if_neg hx, if_neg hx]
      exact sim_done (t := 1) hn h1 hd hm (by decide) (by decide) (by decide) h
theorem op_7 {xs : Nat → Int32} {x3 : Int32} {X : db_St} (h : Sim X) : lc_7 xs x3 Sim X := by
  unfold lc_7
  by_cases c : xs ((x3 + (3 : Int32))).toNatClampNeg = 0
  · exact br_t c (do_done h (fun r Z q => br_t c q))
  · exact br_f c (do_done h (fun r Z q => br_f c q))
theorem sim_pay {X : db_St} {i v : Nat} (hi : i < 24) (hv : v ≤ 999 ∧ (i % 4 = 0 → v ≤ 99) ∧ (i % 4 = 1 → v ≤ 99) ∧ (i % 4 = 2 → v ≤ 9)) (h : Sim X) : Sim (db_si (db_si X 37 i (nI v)) 92 (234 + i) (nI v)) := by
  obtain ⟨hR, hT, hW, ⟨hB, hL, hM, hD, hN, hF, hG, hO⟩, hI⟩ := h
  refine ⟨hR.keep (fun j => (by simp (disch := omega) only [db_si_nb, db_si_na])) (fun j => (by simp (disch := omega) only [db_si_nb, db_si_na])), hT.keep (by simp (disch := omega) only [db_si_nb, db_si_na]) (by simp (disch := omega) only [db_si_nb, db_si_na]) (fun j => (by simp (disch := omega) only [db_si_nb, db_si_na])) (fun j => (by simp (disch := omega) only [db_si_nb, db_si_na])), hW.keep (by simp (disch := omega) only [db_si_nb, db_si_na]) (by simp (disch := omega) only [db_si_nb, db_si_na]) (fun j => (by simp (disch := omega) only [db_si_nb, db_si_na])) (fun j => (by simp (disch := omega) only [db_si_nb, db_si_na])), ⟨hB.keep (fun b _ => (by simp (disch := omega) only [db_si_nb, db_si_na])) (fun b _ j => ⟨(by simp (disch := omega) only [db_si_nb, db_si_na]), (by simp (disch := omega) only [db_si_nb, db_si_na]), (by simp (disch := omega) only [db_si_nb, db_si_na])⟩) (fun j _ => (by simp (disch := omega) only [db_si_nb, db_si_na])), hL.keep (fun b _ => (by simp (disch := omega) only [db_si_nb, db_si_na])) (fun j _ _ => (by simp (disch := omega) only [db_si_nb, db_si_na])), hM.keep (fun b _ => (by simp (disch := omega) only [db_si_nb, db_si_na])) (fun j _ _ => (by simp (disch := omega) only [db_si_nb, db_si_na])), hD.keep (by simp (disch := omega) only [db_si_nb, db_si_na]) (fun j => ⟨(by simp (disch := omega) only [db_si_nb, db_si_na]), (by simp (disch := omega) only [db_si_nb, db_si_na]), (by simp (disch := omega) only [db_si_nb, db_si_na])⟩) (fun j _ => (by simp (disch := omega) only [db_si_nb, db_si_na])), ?_, hF.keep (by simp (disch := omega) only [db_si_nb, db_si_na]) (by simp (disch := omega) only [db_si_nb, db_si_na]), hG.keep (by simp (disch := omega) only [db_si_nb, db_si_na]) (by simp (disch := omega) only [db_si_nb, db_si_na]), hO.keep (by simp (disch := omega) only [db_si_nb, db_si_na]) (fun j => ⟨(by simp (disch := omega) only [db_si_nb, db_si_na]), (by simp (disch := omega) only [db_si_nb, db_si_na]), (by simp (disch := omega) only [db_si_nb, db_si_na]), (by simp (disch := omega) only [db_si_nb, db_si_na])⟩) (fun j _ => (by simp (disch := omega) only [db_si_nb, db_si_na]))⟩, hI.keep (by simp (disch := omega) only [db_si_nb, db_si_na]) (by simp (disch := omega) only [db_si_nb, db_si_na]) (fun c j _ _ => (by simp (disch := omega) only [db_si_nb, db_si_na])) (fun j => (by simp (disch := omega) only [db_si_nb, db_si_na]))⟩
  · intro j hj
    by_cases e : j = i
    · subst e
      exact ⟨v, hv.1, hv.2.1, hv.2.2.1, hv.2.2.2, by simp (disch := omega) only [db_si_na, db_si_at], by rw [db_si_hit]⟩
    · have := hN j hj
      simp (disch := omega) only [db_si_nb, db_si_na]
      exact this
theorem op_10 {xs : Nat → Int32} {x3 : Int32} {X : db_St} (h : Sim X) : lc_10 xs x3 Sim X := by
  unfold lc_10
  generalize xs ((x3 + (1 : Int32))).toNatClampNeg = a
  generalize xs ((x3 + (2 : Int32))).toNatClampNeg = b
  generalize xs ((x3 + (3 : Int32))).toNatClampNeg = c
  unfold wp_X10_paying wp_X11_paying
  rcases db_cs a 6 with ⟨k, hk, rfl⟩ | ha
  rotate_left
  · exact kd_no ha (br_t rfl (rf_c1 (in_no (N := 6) (by decide) (by decide) ha (br_t rfl (rf_m1 (br_t rfl (sim_ref h)))))))
  refine kd_yes hk (br_f (by decide) ?_)
  rcases db_cs b 4 with ⟨w, hw, rfl⟩ | hb
  rotate_left
  · by_cases c0 : b < 0
    · exact br_t c0 (rf_c2 (in_yes (N := 6) (by decide) (by decide) hk (br_f (by decide) (in_no (N := 4) (by decide) (by decide) hb (br_t rfl (rf_m2 (br_t rfl (sim_ref h))))))))
    · have c4 : ¬ b < (4 : Int32) := Int32.not_lt.mpr (lt_of_no (N := 4) (by decide) (by decide) hb c0)
      exact br_f c0 (br_f c4 (rf_c2 (in_yes (N := 6) (by decide) (by decide) hk (br_f (by decide) (in_no (N := 4) (by decide) (by decide) hb (br_t rfl (rf_m2 (br_t rfl (sim_ref h)))))))))
  refine br_f (nI_pos (by omega)) (br_t (by rw [show (4 : Int32) = nI 4 by decide]; exact nI_lt hw (by decide)) ?_)
  have cw : (nI w).toNatClampNeg = w := nI_clamp (by omega)
  have hg : ∃ g, db_gG w = nI g ∧ g ≤ 999 ∧ (w = 0 → g = 99) ∧ (w = 1 → g = 99) ∧ (w = 2 → g = 9) ∧ (w = 3 → g = 999) := by
    rcases (show w = 0 ∨ w = 1 ∨ w = 2 ∨ w = 3 by omega) with rfl | rfl | rfl | rfl
    · exact ⟨99, by decide, by omega, by omega, by omega, by omega, by omega⟩
    · exact ⟨99, by decide, by omega, by omega, by omega, by omega, by omega⟩
    · exact ⟨9, by decide, by omega, by omega, by omega, by omega, by omega⟩
    · exact ⟨999, by decide, by omega, by omega, by omega, by omega, by omega⟩
  obtain ⟨g, eg, g9, g0, g1, g2, g3⟩ := hg
  -- the reference's bound
  have mbound : ∀ (Z : db_St) (r : Int32), wp_X11_paying_55 (fun r2 X2 => (r = r2 → Sim X2) ∧ (¬ r = r2 → False)) Z (nI k) (nI w) c c 0 (nI g) → (((2 : Int32) ≤ nI w → ((nI w = (2 : Int32) → wp_X11_paying_55 (fun r2 X2 => (r = r2 → Sim X2) ∧ (¬ r = r2 → False)) Z (nI k) (nI w) c c (0 : Int32) (9 : Int32)) ∧ (¬ nI w = (2 : Int32) → wp_X11_paying_55 (fun r2 X2 => (r = r2 → Sim X2) ∧ (¬ r = r2 → False)) Z (nI k) (nI w) c c (0 : Int32) (999 : Int32)))) ∧ (¬ ((2 : Int32) ≤ nI w) → wp_X11_paying_55 (fun r2 X2 => (r = r2 → Sim X2) ∧ (¬ r = r2 → False)) Z (nI k) (nI w) c c (0 : Int32) (99 : Int32))) := by
    intro Z r q
    rcases (show w = 0 ∨ w = 1 ∨ w = 2 ∨ w = 3 by omega) with rfl | rfl | rfl | rfl
    · rw [g0 rfl] at q; exact br_f (by decide) q
    · rw [g1 rfl] at q; exact br_f (by decide) q
    · rw [g2 rfl] at q; exact br_t (by decide) (br_t (by decide) q)
    · rw [g3 rfl] at q; exact br_t (by decide) (br_f (by decide) q)
  have mm : ∀ (Z : db_St) (r : Int32), wp_X11_paying_55 (fun r2 X2 => (r = r2 → Sim X2) ∧ (¬ r = r2 → False)) Z (nI k) (nI w) c c 0 (nI g) → wp_X11_isIn Z (nI k) (6 : Int32) (fun r1 X1 => ((r1 = 0 → wp_X11_refuse X1 (-1 : Int32) (fun r7 X7 => (r = r7 → Sim X7) ∧ (¬ r = r7 → False))) ∧ (¬ r1 = 0 → wp_X11_isIn X1 (nI w) (4 : Int32) (fun r2 X2 => ((r2 = 0 → wp_X11_refuse X2 (-2 : Int32) (fun r5 X5 => (r = r5 → Sim X5) ∧ (¬ r = r5 → False))) ∧ (¬ r2 = 0 → (((2 : Int32) ≤ nI w → ((nI w = (2 : Int32) → wp_X11_paying_55 (fun r2 X2 => (r = r2 → Sim X2) ∧ (¬ r = r2 → False)) X2 (nI k) (nI w) c c (0 : Int32) (9 : Int32)) ∧ (¬ nI w = (2 : Int32) → wp_X11_paying_55 (fun r2 X2 => (r = r2 → Sim X2) ∧ (¬ r = r2 → False)) X2 (nI k) (nI w) c c (0 : Int32) (999 : Int32)))) ∧ (¬ ((2 : Int32) ≤ nI w) → wp_X11_paying_55 (fun r2 X2 => (r = r2 → Sim X2) ∧ (¬ r = r2 → False)) X2 (nI k) (nI w) c c (0 : Int32) (99 : Int32))))))))) := fun Z r q =>
    in_yes (N := 6) (by decide) (by decide) hk (br_f (by decide) (in_yes (N := 4) (by decide) (by decide) hw (br_f (by decide) (mbound Z r q))))
  by_cases c0 : 0 ≤ c
  rotate_left
  · exact br_f c0 (rf_c4 (mm _ _ (wi_lo c0 (br_f (by decide) (rf_m4 (br_t rfl (sim_ref h)))))))
  refine br_t c0 ⟨vp_in_nI hw (by decide), ?_⟩
  rw [cw, eg]
  by_cases c9 : c ≤ nI g
  rotate_left
  · exact br_f c9 (rf_c6 (mm _ _ (wi_hi c0 c9 (br_f (by decide) (rf_m6 (br_t rfl (sim_ref h)))))))
  obtain ⟨v, hv, rfl⟩ := nI_of2 (M := nI g) (n := g) (nI_toInt (by omega)) (Int32.not_lt.mpr c0) c9
  refine br_t c9 ?_
  unfold wp_X4_change
  have e24 : (24 : Int32) = nI 24 := by decide
  rw [show (4 : Int32) = nI 4 by decide, pk_mul, nI_add, nI_clamp (show k * 4 + w < 2 ^ 31 by omega), e24]
  obtain ⟨v0, p0, p1, p2, p3, p4, p5⟩ := h.2.2.2.1.2.2.2.2.1 (k * 4 + w) (by omega)
  refine br_f (nI_pos (by omega)) (br_t (nI_lt (by omega) (by decide)) ⟨vp_in_nI (by omega) (by decide), fun z ez => ⟨vp_in_nI (by omega) (by decide), fun Y eY => ?_⟩⟩)
  rw [ez, show X.1 37 (k * 4 + w) = nI v0 from p4]
  refine mm _ _ (wi_ok c0 c9 (br_t rfl ?_))
  unfold wp_X11_pay
  rw [show (4 : Int32) = nI 4 by decide, pk_mul, show (234 : Int32) = nI 234 by decide, nI_add, nI_add, nI_clamp (show 234 + 4 * k + w < 2 ^ 31 by omega)]
  refine ⟨vp_in_nI (by omega) (by decide), vp_in_nI (by omega) (by decide), fun U eU => ?_⟩
  have ei : 234 + 4 * k + w = 234 + (k * 4 + w) := by omega
  rw [ei] at eU ⊢
  rw [eU, eY, db_si_na (show (92 : Nat) ≠ 37 by decide), p5]
  refine br_t rfl (sim_pay (by omega) ⟨by omega, fun e => ?_, fun e => ?_, fun e => ?_⟩ h)
  · have := g0 (by omega); omega
  · have := g1 (by omega); omega
  · have := g2 (by omega); omega
