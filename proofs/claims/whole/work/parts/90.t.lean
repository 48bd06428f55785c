theorem sim_row0 {X : db_St} (h : Sim X) : Sim (db_si (db_si X 4 1 0) 90 17 0) := by
  obtain ⟨hR, hT, hW, ⟨hB, hL, hM, hD, hN, hF, hG, hO⟩, hI⟩ := h
  refine ⟨hR.keep (fun j => (by simp (disch := omega) only [db_si_nb, db_si_na])) (fun j => (by simp (disch := omega) only [db_si_nb, db_si_na])), hT.keep (by simp (disch := omega) only [db_si_nb, db_si_na]) (by simp (disch := omega) only [db_si_nb, db_si_na]) (fun j => (by simp (disch := omega) only [db_si_nb, db_si_na])) (fun j => (by simp (disch := omega) only [db_si_nb, db_si_na])), ?_, ⟨hB.keep (fun b _ => (by simp (disch := omega) only [db_si_nb, db_si_na])) (fun b _ j => ⟨(by simp (disch := omega) only [db_si_nb, db_si_na]), (by simp (disch := omega) only [db_si_nb, db_si_na]), (by simp (disch := omega) only [db_si_nb, db_si_na])⟩) (fun j _ => (by simp (disch := omega) only [db_si_nb, db_si_na])), hL.keep (fun b _ => (by simp (disch := omega) only [db_si_nb, db_si_na])) (fun j _ _ => (by simp (disch := omega) only [db_si_nb, db_si_na])), hM.keep (fun b _ => (by simp (disch := omega) only [db_si_nb, db_si_na])) (fun j _ _ => (by simp (disch := omega) only [db_si_nb, db_si_na])), hD.keep (by simp (disch := omega) only [db_si_nb, db_si_na]) (fun j => ⟨(by simp (disch := omega) only [db_si_nb, db_si_na]), (by simp (disch := omega) only [db_si_nb, db_si_na]), (by simp (disch := omega) only [db_si_nb, db_si_na])⟩) (fun j _ => (by simp (disch := omega) only [db_si_nb, db_si_na])), hN.keep (fun j => (by simp (disch := omega) only [db_si_nb, db_si_na])) (fun j _ _ => (by simp (disch := omega) only [db_si_nb, db_si_na])), hF.keep (by simp (disch := omega) only [db_si_nb, db_si_na]) (by simp (disch := omega) only [db_si_nb, db_si_na]), hG.keep (by simp (disch := omega) only [db_si_nb, db_si_na]) (by simp (disch := omega) only [db_si_nb, db_si_na]), hO.keep (by simp (disch := omega) only [db_si_nb, db_si_na]) (fun j => ⟨(by simp (disch := omega) only [db_si_nb, db_si_na]), (by simp (disch := omega) only [db_si_nb, db_si_na]), (by simp (disch := omega) only [db_si_nb, db_si_na]), (by simp (disch := omega) only [db_si_nb, db_si_na])⟩) (fun j _ => (by simp (disch := omega) only [db_si_nb, db_si_na]))⟩, hI.keep (by simp (disch := omega) only [db_si_nb, db_si_na]) (by simp (disch := omega) only [db_si_nb, db_si_na]) (fun c j _ _ => (by simp (disch := omega) only [db_si_nb, db_si_na])) (fun j => (by simp (disch := omega) only [db_si_nb, db_si_na]))⟩
  · exact ⟨0, by omega, by rw [db_si_na (by omega), db_si_hit]; rfl, by rw [db_si_hit]; rfl, fun i hi => absurd hi (by omega)⟩
theorem op_22 {xs : Nat → Int32} {x3 : Int32} {X : db_St} (h : Sim X) : lc_22 xs x3 Sim X := by
  unfold lc_22 wp_X10_paid wp_X11_paid
  obtain ⟨g, k0, k1, k2⟩ := h.2.2.2.1.2.2.2.2.2.2.1
  obtain ⟨t, t0, t1, t2, t3⟩ := h.2.2.1
  have cs := jw_cs (row := X.1 5) (P := pw X) (F := ft X) (f := g) t 0 (fun _ => 0) (fun _ => 0) 0 0 0
  refine cl_firstBarred h.ph k0 k1 t0 t1 (fun Z oZ eZ => ?_)
  have ref : ∀ r : Int32, (r = if (jw (X.1 5) (pw X) (ft X) g t 0 (fun _ => 0) (fun _ => 0) 0 0 0).1 = -9 then nI (jw (X.1 5) (pw X) (ft X) g t 0 (fun _ => 0) (fun _ => 0) 0 0 0).2 else -9) → wp_X11_wrongAt Z (fun r1 X1 => ((r1 < 0 → (fun r2 X2 => ((r = r2 → Sim X2) ∧ (¬ (r = r2) → False))) (X1.1 90 18) X1) ∧ (¬ (r1 < 0) → (fun r2 X2 => ((r = r2 → Sim X2) ∧ (¬ (r = r2) → False))) (-9 : Int32) X1))) := by
    intro r er
    refine mo_wrongAt (row := X.1 5) (oZ.ph h.ph) k0 (by rw [oZ 92 309 (by omega)]; exact k2) t0 (by rw [oZ 90 17 (by omega)]; exact t2) (fun j hj => by rw [oZ 100 j (by omega)]; exact t3 j hj) (fun V oV eV => ?_)
    have sV : Sim V := h.same (oZ.same.trans oV.same)
    rcases cs with e | ⟨j, hj, e⟩
    · rw [if_pos e] at er
      rw [e]
      exact br_t (by decide) (br_t (by rw [er, eV]) sV)
    · have n9 : ¬ nI j = (-9 : Int32) := fun z => nI_pos (n := j) (by omega) (by rw [z]; decide)
      rw [e, if_neg n9] at er
      rw [e]
      exact br_f (nI_pos (by omega)) (br_t er sV)
  by_cases e : (jw (X.1 5) (pw X) (ft X) g t 0 (fun _ => 0) (fun _ => 0) 0 0 0).1 = -9
  · exact br_t e (ref _ (by rw [if_pos e, eZ]))
  · exact br_f e (ref _ (by rw [if_neg e]))
theorem op_21 {xs : Nat → Int32} {x3 : Int32} {X : db_St} (h : Sim X) : lc_21 xs x3 Sim X := by
  unfold lc_21 wp_X10_judge wp_X11_judge
  obtain ⟨g, k0, k1, k2⟩ := h.2.2.2.1.2.2.2.2.2.2.1
  obtain ⟨t, t0, t1, t2, t3⟩ := h.2.2.1
  refine cl_firstBarred h.ph k0 k1 t0 t1 (fun Z oZ eZ U eU => ?_)
  have oU : ∀ a j, (a < 43 ∨ 45 < a) → ¬ (a = 4 ∧ j = 1) → U.1 a j = X.1 a j := fun a j ha hb => by
    rw [eU]
    by_cases c : a = 4
    · rw [db_si_nb (fun z => hb ⟨c, z⟩)]; exact oZ a j ha
    · rw [db_si_na c]; exact oZ a j ha
  have hU : PH U (pw X) (ft X) := h.ph.keep (fun j _ _ => oU 92 j (by omega) (by omega)) (fun j => oU 37 j (by omega) (by omega)) (oU 36 1 (by omega) (by omega))
  refine mo_wrongAt (row := X.1 5) hU k0 (by rw [oU 92 309 (by omega) (by omega)]; exact k2) t0 (by rw [oU 90 17 (by omega) (by omega)]; exact t2) (fun j hj => by rw [oU 100 j (by omega) (by omega)]; exact t3 j hj) (fun V oV eV W eW => br_t rfl ?_)
  have eq : ∀ a j, a ≠ 98 → a ≠ 101 → ¬ (a = 90 ∧ j = 18) → (a < 43 ∨ 45 < a) → W.1 a j = (db_si (db_si X 4 1 0) 90 17 0).1 a j := fun a j h1 h2 h3 h4 => by
    rw [eW]
    by_cases c : a = 90
    · subst c
      by_cases d : j = 17
      · rw [d, db_si_hit, db_si_hit]
      · rw [db_si_nb d, db_si_nb d, db_si_na (by omega), oV 90 j h1 h2 h3, oU 90 j h4 (by omega)]
    · rw [db_si_na c, db_si_na c, oV a j h1 h2 h3]
      by_cases d : a = 4
      · subst d
        by_cases d2 : j = 1
        · rw [d2, eU, db_si_hit, db_si_hit]
        · rw [db_si_nb d2, oU 4 j h4 (by omega)]
      · rw [db_si_na d, oU a j h4 (by omega)]
  exact (sim_row0 h).same ⟨fun c j _ => eq c j (by omega) (by omega) (by omega) (by omega), fun c j _ _ => eq c j (by omega) (by omega) (by omega) (by omega), fun c j _ _ => eq c j (by omega) (by omega) (by omega) (by omega), fun j _ => eq 90 j (by omega) (by omega) (by omega) (by omega), fun c j _ _ => eq c j (by omega) (by omega) (by omega) (by omega), fun j => eq 100 j (by omega) (by omega) (by omega) (by omega)⟩
