theorem db_byte {x : Int32} (h1 : -128 ≤ x.toInt) (h2 : x.toInt < 128) : x.toInt8.toInt32 = x := by
  apply Int32.toInt_inj.1
  rw [Int8.toInt_toInt32, Int32.toInt_toInt8, Int.bmod_eq_of_le (by omega) (by omega)]
theorem sim_put {X : db_St} {t : Nat} {v : Int32} (ht : t < 100) (e : X.1 4 1 = nI t) (h : Sim X) : Sim (db_si (db_si (db_si (db_si X 5 t v) 4 1 (nI (t + 1))) 100 t v) 90 17 (nI (t + 1))) := by
  obtain ⟨hR, hT, hW, ⟨hB, hL, hM, hD, hN, hF, hG, hO⟩, hI⟩ := h
  refine ⟨hR.keep (fun j => (by simp (disch := omega) only [db_si_nb, db_si_na])) (fun j => (by simp (disch := omega) only [db_si_nb, db_si_na])), hT.keep (by simp (disch := omega) only [db_si_nb, db_si_na]) (by simp (disch := omega) only [db_si_nb, db_si_na]) (fun j => (by simp (disch := omega) only [db_si_nb, db_si_na])) (fun j => (by simp (disch := omega) only [db_si_nb, db_si_na])), ?_, ⟨hB.keep (fun b _ => (by simp (disch := omega) only [db_si_nb, db_si_na])) (fun b _ j => ⟨(by simp (disch := omega) only [db_si_nb, db_si_na]), (by simp (disch := omega) only [db_si_nb, db_si_na]), (by simp (disch := omega) only [db_si_nb, db_si_na])⟩) (fun j _ => (by simp (disch := omega) only [db_si_nb, db_si_na])), hL.keep (fun b _ => (by simp (disch := omega) only [db_si_nb, db_si_na])) (fun j _ _ => (by simp (disch := omega) only [db_si_nb, db_si_na])), hM.keep (fun b _ => (by simp (disch := omega) only [db_si_nb, db_si_na])) (fun j _ _ => (by simp (disch := omega) only [db_si_nb, db_si_na])), hD.keep (by simp (disch := omega) only [db_si_nb, db_si_na]) (fun j => ⟨(by simp (disch := omega) only [db_si_nb, db_si_na]), (by simp (disch := omega) only [db_si_nb, db_si_na]), (by simp (disch := omega) only [db_si_nb, db_si_na])⟩) (fun j _ => (by simp (disch := omega) only [db_si_nb, db_si_na])), hN.keep (fun j => (by simp (disch := omega) only [db_si_nb, db_si_na])) (fun j _ _ => (by simp (disch := omega) only [db_si_nb, db_si_na])), hF.keep (by simp (disch := omega) only [db_si_nb, db_si_na]) (by simp (disch := omega) only [db_si_nb, db_si_na]), hG.keep (by simp (disch := omega) only [db_si_nb, db_si_na]) (by simp (disch := omega) only [db_si_nb, db_si_na]), hO.keep (by simp (disch := omega) only [db_si_nb, db_si_na]) (fun j => ⟨(by simp (disch := omega) only [db_si_nb, db_si_na]), (by simp (disch := omega) only [db_si_nb, db_si_na]), (by simp (disch := omega) only [db_si_nb, db_si_na]), (by simp (disch := omega) only [db_si_nb, db_si_na])⟩) (fun j _ => (by simp (disch := omega) only [db_si_nb, db_si_na]))⟩, hI.keep (by simp (disch := omega) only [db_si_nb, db_si_na]) (by simp (disch := omega) only [db_si_nb, db_si_na]) (fun c j _ _ => (by simp (disch := omega) only [db_si_nb, db_si_na])) (fun j => (by simp (disch := omega) only [db_si_nb, db_si_na]))⟩
  · obtain ⟨t0, h0, h1, h2, h3⟩ := hW
    have et : t0 = t := (nI_eq (by omega) (by omega)).mp (h1.symm.trans e)
    subst et
    refine ⟨t0 + 1, by omega, by simp (disch := omega) only [db_si_na, db_si_hit], by rw [db_si_hit], fun j hj => ?_⟩
    by_cases ej : j = t0
    · subst ej
      rw [db_si_na (by omega), db_si_hit, db_si_na (by omega), db_si_na (by omega), db_si_na (by omega), db_si_hit]
    · simp (disch := omega) only [db_si_nb, db_si_na]
      exact h3 j (by omega)
theorem op_20 {xs : Nat → Int32} {x3 : Int32} {X : db_St} (h : Sim X) : lc_20 xs x3 Sim X := by
  unfold lc_20
  generalize xs ((x3 + (1 : Int32))).toNatClampNeg = a
  unfold wp_X10_put wp_X11_put
  obtain ⟨t, h0, h1, h2, h3⟩ := h.2.2.1
  have e100 : (100 : Int32) = nI 100 := by decide
  by_cases hlo : (-128 : Int32) ≤ a
  · by_cases hhi : (127 : Int32) < a
    · have h9 : ¬ a ≤ (127 : Int32) := by rw [Int32.le_iff_toInt_le]; rw [Int32.lt_iff_toInt_lt] at hhi; omega
      exact br_t hlo (br_t hhi (rf_c6 (wi_hi hlo h9 (br_f (by decide) (br_f (by decide) (rf_m6 (br_t rfl (sim_ref h))))))))
    · have h9 : a ≤ (127 : Int32) := by rw [Int32.le_iff_toInt_le]; rw [Int32.lt_iff_toInt_lt] at hhi; omega
      have hb : a.toInt8.toInt32 = a := db_byte (by rw [Int32.le_iff_toInt_le] at hlo; rw [show ((-128 : Int32)).toInt = -128 by decide] at hlo; exact hlo) (by rw [Int32.le_iff_toInt_le] at h9; rw [show ((127 : Int32)).toInt = 127 by decide] at h9; omega)
      refine br_t hlo (br_f hhi ?_)
      unfold wp_X2_room
      rw [h1, show Int32.ofNat 100 - nI t = nI (100 - t) from pk_sub h0]
      by_cases hf : t = 100
      · subst hf
        refine br_f (by decide) (rf_c6 (wi_ok hlo h9 (br_t rfl (br_t ?_ (br_f (by decide) (rf_m6 (br_t rfl (sim_ref h))))))))
        rw [db_si_na (by omega), h2]; decide
      · have ht : t < 100 := by omega
        refine br_t (by rw [show (1 : Int32) = nI 1 by decide]; exact nI_le (by omega) (by omega)) ?_
        unfold wp_X2_add wp_X2_size
        rw [h1]
        refine br_f (nI_ge ht (by decide)) ⟨vp_in_nI ht (by decide), fun Y eY Z eZ => ?_⟩
        rw [nI_clamp (by omega), vp_nar_byte, hb, hb] at eY
        have eY1 : Y.1 4 1 = nI t := by rw [eY, db_si_na (by omega), h1]
        rw [eY1, nI_1] at eZ
        rw [eY] at eZ
        have z1 : Z.1 4 1 = nI (t + 1) := by rw [eZ, db_si_hit]
        have z2 : Z.1 90 17 = nI t := by rw [eZ, db_si_na (by omega), db_si_na (by omega), h2]
        refine wi_ok hlo h9 (br_t rfl (br_f ?_ (br_t rfl ⟨?_, fun U eU V eV => ?_⟩)))
        · rw [z2, e100]; intro e; exact hf ((nI_eq (by omega) (by omega)).mp e)
        · rw [z2]; exact vp_in_nI ht (by decide)
        · rw [z2, nI_clamp (by omega)] at eU
          have u2 : U.1 90 17 = nI t := by rw [eU, db_si_na (by omega), z2]
          rw [u2, nI_1, eU, eZ] at eV
          rw [z1, eV, db_si_hit]
          exact br_t rfl (sim_put ht h1 h)
  · exact br_f hlo (rf_c4 (wi_lo hlo (br_f (by decide) (br_f (by decide) (rf_m4 (br_t rfl (sim_ref h)))))))
theorem sim_over {X : db_St} {n f g u w : Nat} (hn : n < 12) (e : X.1 38 4 = nI n) (hf : f < 6) (hg : g < 6) (hfg : f ≠ g) (hu : 1 ≤ u ∧ u ≤ 30) (hw : 1 ≤ w ∧ w ≤ 30) (h : Sim X) : Sim (db_si (db_si (db_si (db_si (db_si (db_si (db_si (db_si (db_si (db_si X 39 n (nI f)) 40 n (nI u)) 41 n (nI g)) 42 n (nI w)) 38 4 (nI (n + 1))) 92 (258 + 4 * n) (nI f)) 92 (258 + 4 * n + 1) (nI u)) 92 (258 + 4 * n + 2) (nI g)) 92 (258 + 4 * n + 3) (nI w)) 92 307 (nI (n + 1))) := by
  obtain ⟨hR, hT, hW, ⟨hB, hL, hM, hD, hN, hF, hG, hO⟩, hI⟩ := h
  refine ⟨hR.keep (fun j => (by simp (disch := omega) only [db_si_nb, db_si_na])) (fun j => (by simp (disch := omega) only [db_si_nb, db_si_na])), hT.keep (by simp (disch := omega) only [db_si_nb, db_si_na]) (by simp (disch := omega) only [db_si_nb, db_si_na]) (fun j => (by simp (disch := omega) only [db_si_nb, db_si_na])) (fun j => (by simp (disch := omega) only [db_si_nb, db_si_na])), hW.keep (by simp (disch := omega) only [db_si_nb, db_si_na]) (by simp (disch := omega) only [db_si_nb, db_si_na]) (fun j => (by simp (disch := omega) only [db_si_nb, db_si_na])) (fun j => (by simp (disch := omega) only [db_si_nb, db_si_na])), ⟨hB.keep (fun b _ => (by simp (disch := omega) only [db_si_nb, db_si_na])) (fun b _ j => ⟨(by simp (disch := omega) only [db_si_nb, db_si_na]), (by simp (disch := omega) only [db_si_nb, db_si_na]), (by simp (disch := omega) only [db_si_nb, db_si_na])⟩) (fun j _ => (by simp (disch := omega) only [db_si_nb, db_si_na])), hL.keep (fun b _ => (by simp (disch := omega) only [db_si_nb, db_si_na])) (fun j _ _ => (by simp (disch := omega) only [db_si_nb, db_si_na])), hM.keep (fun b _ => (by simp (disch := omega) only [db_si_nb, db_si_na])) (fun j _ _ => (by simp (disch := omega) only [db_si_nb, db_si_na])), hD.keep (by simp (disch := omega) only [db_si_nb, db_si_na]) (fun j => ⟨(by simp (disch := omega) only [db_si_nb, db_si_na]), (by simp (disch := omega) only [db_si_nb, db_si_na]), (by simp (disch := omega) only [db_si_nb, db_si_na])⟩) (fun j _ => (by simp (disch := omega) only [db_si_nb, db_si_na])), hN.keep (fun j => (by simp (disch := omega) only [db_si_nb, db_si_na])) (fun j _ _ => (by simp (disch := omega) only [db_si_nb, db_si_na])), hF.keep (by simp (disch := omega) only [db_si_nb, db_si_na]) (by simp (disch := omega) only [db_si_nb, db_si_na]), hG.keep (by simp (disch := omega) only [db_si_nb, db_si_na]) (by simp (disch := omega) only [db_si_nb, db_si_na]), ?_⟩, hI.keep (by simp (disch := omega) only [db_si_nb, db_si_na]) (by simp (disch := omega) only [db_si_nb, db_si_na]) (fun c j _ _ => (by simp (disch := omega) only [db_si_nb, db_si_na])) (fun j => (by simp (disch := omega) only [db_si_nb, db_si_na]))⟩
  · obtain ⟨n0, h0, h1, h2, h3⟩ := hO
    have et : n0 = n := (nI_eq (by omega) (by omega)).mp (h1.symm.trans e)
    subst et
    refine ⟨n0 + 1, by omega, by simp (disch := omega) only [db_si_na, db_si_hit], by rw [db_si_hit], fun i hi => ?_⟩
    by_cases ei : i = n0
    · subst ei
      refine ⟨f, g, u, w, hf, hg, hfg, hu.1, hu.2, hw.1, hw.2, ?_, ?_, ?_, ?_, ?_, ?_, ?_, ?_⟩
      · simp (disch := omega) only [db_si_na, db_si_nb, db_si_at]
      · simp (disch := omega) only [db_si_na, db_si_nb, db_si_at]
      · simp (disch := omega) only [db_si_na, db_si_nb, db_si_at]
      · simp (disch := omega) only [db_si_na, db_si_nb, db_si_at]
      · simp (disch := omega) only [db_si_na, db_si_nb, db_si_at]
      · simp (disch := omega) only [db_si_na, db_si_nb, db_si_at]
      · simp (disch := omega) only [db_si_na, db_si_nb, db_si_at]
      · simp (disch := omega) only [db_si_na, db_si_nb, db_si_at]
    · have := h3 i (by omega)
      simp (disch := omega) only [db_si_nb, db_si_na]
      exact this
theorem op_16 {xs : Nat → Int32} {x3 : Int32} {X : db_St} (h : Sim X) : lc_16 xs x3 Sim X := by
  unfold lc_16
  generalize xs ((x3 + (1 : Int32))).toNatClampNeg = a
  generalize xs ((x3 + (2 : Int32))).toNatClampNeg = b
  generalize xs ((x3 + (3 : Int32))).toNatClampNeg = c
  generalize xs ((x3 + (4 : Int32))).toNatClampNeg = d
  unfold wp_X10_over wp_X11_over
  have c307 : ((307 : Int32)).toNatClampNeg = 307 := by decide
  rcases db_cs a 6 with ⟨f, hf, rfl⟩ | ha
  rotate_left
  · exact kd_no ha (br_t rfl (rf_c1 (in_no (N := 6) (by decide) (by decide) ha (br_t rfl (rf_m1 (br_t rfl (sim_ref h)))))))
  rcases db_cs c 6 with ⟨g, hg, rfl⟩ | hc
  rotate_left
  · exact kd_yes hf (br_f (by decide) (kd_no hc (br_t rfl (rf_c1 (in_yes (N := 6) (by decide) (by decide) hf (br_f (by decide) (in_no (N := 6) (by decide) (by decide) hc (br_t rfl (rf_m1 (br_t rfl (sim_ref h)))))))))))
  refine kd_yes hf (br_f (by decide) (kd_yes hg (br_f (by decide) ?_)))
  by_cases hfg : nI f = nI g
  · exact br_t hfg (rf_c1 (in_yes (N := 6) (by decide) (by decide) hf (br_f (by decide) (in_yes (N := 6) (by decide) (by decide) hg (br_f (by decide) (br_t hfg (rf_m1 (br_t rfl (sim_ref h)))))))))
  refine br_f hfg ?_
  by_cases h1 : b < (1 : Int32)
  · exact br_t h1 (rf_c4 (in_yes (N := 6) (by decide) (by decide) hf (br_f (by decide) (in_yes (N := 6) (by decide) (by decide) hg (br_f (by decide) (br_f hfg (br_t h1 (rf_m4 (br_t rfl (sim_ref h))))))))))
  refine br_f h1 ?_
  by_cases h2 : (1 : Int32) ≤ d
  rotate_left
  · exact br_f h2 (rf_c4 (in_yes (N := 6) (by decide) (by decide) hf (br_f (by decide) (in_yes (N := 6) (by decide) (by decide) hg (br_f (by decide) (br_f hfg (br_f h1 (br_f h2 (rf_m4 (br_t rfl (sim_ref h)))))))))))
  refine br_t h2 ?_
  by_cases h3 : (30 : Int32) < b
  · exact br_t h3 (rf_c6 (in_yes (N := 6) (by decide) (by decide) hf (br_f (by decide) (in_yes (N := 6) (by decide) (by decide) hg (br_f (by decide) (br_f hfg (br_f h1 (br_t h2 (br_t h3 (rf_m6 (br_t rfl (sim_ref h))))))))))))
  refine br_f h3 ?_
  by_cases h4 : (30 : Int32) < d
  · exact br_t h4 (rf_c6 (in_yes (N := 6) (by decide) (by decide) hf (br_f (by decide) (in_yes (N := 6) (by decide) (by decide) hg (br_f (by decide) (br_f hfg (br_f h1 (br_t h2 (br_f h3 (br_t h4 (rf_m6 (br_t rfl (sim_ref h)))))))))))))
  refine br_f h4 ?_
  have rg : ∀ x : Int32, (1 : Int32) ≤ x → ¬ (30 : Int32) < x → ∃ u : Nat, (1 ≤ u ∧ u ≤ 30) ∧ x = nI u := by
    intro x k1 k2
    obtain ⟨u, hu, e⟩ := nI_of2 (x := x) (M := 30) (n := 30) (by decide) (by
      rw [Int32.le_iff_toInt_le] at k1; rw [Int32.lt_iff_toInt_lt]; rw [show ((1 : Int32)).toInt = 1 by decide] at k1; rw [show ((0 : Int32)).toInt = 0 by decide]; omega) (Int32.not_lt.mp k2)
    refine ⟨u, ⟨?_, hu⟩, e⟩
    rw [e, Int32.le_iff_toInt_le, nI_toInt (by omega), show ((1 : Int32)).toInt = 1 by decide] at k1
    omega
  obtain ⟨u, hu, rfl⟩ := rg b (Int32.not_lt.mp h1) h3
  obtain ⟨w, hw, rfl⟩ := rg d h2 h4
  obtain ⟨n, k0, k1, k2, k3⟩ := h.2.2.2.1.2.2.2.2.2.2.2
  have e12 : (12 : Int32) = nI 12 := by decide
  by_cases hn : n = 12
  · refine br_f (by rw [k1, hn]; decide) (rf_c6 (in_yes (N := 6) (by decide) (by decide) hf (br_f (by decide) (in_yes (N := 6) (by decide) (by decide) hg (br_f (by decide) (br_f hfg (br_f h1 (br_t h2 (br_f h3 (br_f h4 (br_t ?_ (rf_m6 (br_t rfl (sim_ref h))))))))))))))
    rw [c307, db_si_na (by omega), k2, hn]; decide
  have hn2 : n < 12 := by omega
  refine br_t (by rw [k1, e12]; exact nI_lt hn2 (by decide)) ?_
  unfold wp_X5_add
  have vn : vp_in (nI n) 12 := vp_in_nI hn2 (by decide)
  have cn : (nI n).toNatClampNeg = n := nI_clamp (by omega)
  rw [k1, cn]
  refine br_f (by rw [e12]; exact nI_ge hn2 (by decide)) ⟨vn, fun A eA => ?_⟩
  have a1 : A.1 38 4 = nI n := by rw [eA, db_si_na (by omega), k1]
  rw [a1, cn]
  refine ⟨vn, fun B eB => ?_⟩
  have b1 : B.1 38 4 = nI n := by rw [eB, db_si_na (by omega), a1]
  rw [b1, cn]
  refine ⟨vn, fun C eC => ?_⟩
  have g1 : C.1 38 4 = nI n := by rw [eC, db_si_na (by omega), b1]
  rw [g1, cn]
  refine ⟨vn, fun D eD F eF => ?_⟩
  have d1 : D.1 38 4 = nI n := by rw [eD, db_si_na (by omega), g1]
  rw [d1, nI_1] at eF
  have f1 : F.1 38 4 = nI (n + 1) := by rw [eF, db_si_hit]
  have f2 : F.1 92 307 = nI n := by rw [eF, eD, eC, eB, eA]; simp (disch := omega) only [db_si_na]; exact k2
  rw [f1]
  refine in_yes (N := 6) (by decide) (by decide) hf (br_f (by decide) (in_yes (N := 6) (by decide) (by decide) hg (br_f (by decide) (br_f hfg (br_f h1 (br_t h2 (br_f h3 (br_f h4 (br_f ?_ (fun z ez => ?_))))))))))
  · rw [c307, f2, e12]; intro e; exact hn ((nI_eq (by omega) (by omega)).mp e)
  rw [c307, f2, show (4 : Int32) = nI 4 by decide, pk_mul, show (258 : Int32) = nI 258 by decide, nI_add] at ez
  have cz : ∀ k : Nat, k < 4 → (nI (258 + 4 * n + k)).toNatClampNeg = 258 + 4 * n + k := fun k hk => nI_clamp (by omega)
  have vz : ∀ k : Nat, k < 4 → vp_in (nI (258 + 4 * n + k)) 310 := fun k hk => vp_in_nI (by omega) (by decide)
  rw [ez, show (1 : Int32) = nI 1 by decide, show (2 : Int32) = nI 2 by decide, show (3 : Int32) = nI 3 by decide, nI_add, nI_add, nI_add]
  refine ⟨vz 0 (by omega), fun G eG => ⟨vz 1 (by omega), fun I eI => ⟨vz 2 (by omega), fun J eJ => ⟨vz 3 (by omega), fun K eK L eL => ?_⟩⟩⟩⟩
  rw [show nI (258 + 4 * n) = nI (258 + 4 * n + 0) from rfl, cz 0 (by omega)] at eG
  rw [cz 1 (by omega)] at eI
  rw [cz 2 (by omega)] at eJ
  rw [cz 3 (by omega)] at eK
  have kk : K.1 92 307 = nI n := by rw [eK, eJ, eI, eG]; simp (disch := omega) only [db_si_nb]; exact f2
  rw [c307, kk, nI_add] at eL
  have l1 : L.1 92 307 = nI (n + 1) := by rw [eL, db_si_hit]
  rw [c307, l1]
  refine br_t rfl ?_
  rw [eL, eK, eJ, eI, eG, eF, eD, eC, eB, eA]
  exact sim_over hn2 k1 hf hg (fun e => hfg (by rw [e])) hu hw h
