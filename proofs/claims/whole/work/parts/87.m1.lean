theorem sim_mode {X : db_St} {j o : Nat} {v : Int32} (hj : j < 6) (ho : o ≤ 2) (hv : v = nI o) (h : Sim X) : Sim (db_si (db_si X (8 + 1 + 4 * j) 5 v) 92 (192 + j) v) := by
  obtain ⟨hR, hT, hW, ⟨hB, hL, hM, hD, hN, hF, hG, hO⟩, hI⟩ := h
  refine ⟨hR.keep (fun j => (by simp (disch := omega) only [db_si_nb, db_si_na])) (fun j => (by simp (disch := omega) only [db_si_nb, db_si_na])), hT.keep (by simp (disch := omega) only [db_si_nb, db_si_na]) (by simp (disch := omega) only [db_si_nb, db_si_na]) (fun j => (by simp (disch := omega) only [db_si_nb, db_si_na])) (fun j => (by simp (disch := omega) only [db_si_nb, db_si_na])), hW.keep (by simp (disch := omega) only [db_si_nb, db_si_na]) (by simp (disch := omega) only [db_si_nb, db_si_na]) (fun j => (by simp (disch := omega) only [db_si_nb, db_si_na])) (fun j => (by simp (disch := omega) only [db_si_nb, db_si_na])), ⟨hB.keep (fun b _ => (by simp (disch := omega) only [db_si_nb, db_si_na])) (fun b _ j => ⟨(by simp (disch := omega) only [db_si_nb, db_si_na]), (by simp (disch := omega) only [db_si_nb, db_si_na]), (by simp (disch := omega) only [db_si_nb, db_si_na])⟩) (fun j _ => (by simp (disch := omega) only [db_si_nb, db_si_na])), hL.keep (fun b _ => (by simp (disch := omega) only [db_si_nb, db_si_na])) (fun j _ _ => (by simp (disch := omega) only [db_si_nb, db_si_na])), ?_, hD.keep (by simp (disch := omega) only [db_si_nb, db_si_na]) (fun j => ⟨(by simp (disch := omega) only [db_si_nb, db_si_na]), (by simp (disch := omega) only [db_si_nb, db_si_na]), (by simp (disch := omega) only [db_si_nb, db_si_na])⟩) (fun j _ => (by simp (disch := omega) only [db_si_nb, db_si_na])), hN.keep (fun j => (by simp (disch := omega) only [db_si_nb, db_si_na])) (fun j _ _ => (by simp (disch := omega) only [db_si_nb, db_si_na])), hF.keep (by simp (disch := omega) only [db_si_nb, db_si_na]) (by simp (disch := omega) only [db_si_nb, db_si_na]), hG.keep (by simp (disch := omega) only [db_si_nb, db_si_na]) (by simp (disch := omega) only [db_si_nb, db_si_na]), hO.keep (by simp (disch := omega) only [db_si_nb, db_si_na]) (fun j => ⟨(by simp (disch := omega) only [db_si_nb, db_si_na]), (by simp (disch := omega) only [db_si_nb, db_si_na]), (by simp (disch := omega) only [db_si_nb, db_si_na]), (by simp (disch := omega) only [db_si_nb, db_si_na])⟩) (fun j _ => (by simp (disch := omega) only [db_si_nb, db_si_na]))⟩, hI.keep (by simp (disch := omega) only [db_si_nb, db_si_na]) (by simp (disch := omega) only [db_si_nb, db_si_na]) (fun c j _ _ => (by simp (disch := omega) only [db_si_nb, db_si_na])) (fun j => (by simp (disch := omega) only [db_si_nb, db_si_na]))⟩
  · intro b hb
    by_cases e : b = j
    · subst e
      exact ⟨o, ho, by rw [db_si_hit, hv], by rw [db_si_na (by omega), db_si_at (by omega) (Eq.refl 5), hv]⟩
    · obtain ⟨o2, g1, g2, g3⟩ := hM b hb
      refine ⟨o2, g1, ?_, ?_⟩
      · rw [db_si_nb (by omega), db_si_na (by omega)]; exact g2
      · rw [db_si_na (by omega), db_si_na (by omega)]; exact g3
theorem op_4 {xs : Nat → Int32} {x3 : Int32} {X : db_St} (h : Sim X) : lc_4 xs x3 Sim X := by
  unfold lc_4
  generalize xs ((x3 + (1 : Int32))).toNatClampNeg = a
  generalize xs ((x3 + (2 : Int32))).toNatClampNeg = b
  unfold wp_X10_mode wp_X11_mode
  rcases db_cs a 6 with ⟨j, hj, rfl⟩ | ha
  · have cj : (nI j).toNatClampNeg = j := nI_clamp (by omega)
    have c1 : ((192 : Int32) + nI j).toNatClampNeg = 192 + j := ix_add (by decide) (by omega)
    have v1 : vp_in ((192 : Int32) + nI j) 310 := ix_in (k := 192) (by decide) (by omega) (by decide)
    have vj : vp_in (nI j) 6 := vp_in_nI hj (by decide)
    obtain ⟨o, ho, g1, g2⟩ := h.2.2.2.1.2.2.1 j hj
    have g2' : X.1 (8 + 1 + 4 * j) 5 = nI o := g2
    refine bk_yes hj (br_f (by decide) ?_)
    rcases db_cs b 3 with ⟨o2, ho2, rfl⟩ | hb
    · refine br_f (nI_pos (by omega)) (br_t (by rw [show (2 : Int32) = nI 2 by decide]; exact nI_le (by omega) (by decide)) ⟨vj, vj, fun Z eZ => ?_⟩)
      rw [cj] at eZ ⊢
      refine mb_yes hj (br_f (by decide) (in_yes (N := 3) (by decide) (by decide) ho2 (br_f (by decide) ⟨v1, fun z ez => ⟨v1, fun Y eY => ?_⟩⟩)))
      rw [c1] at ez eY
      rw [eZ] at ez eY
      rw [eY, ez, db_si_na (show (92 : Nat) ≠ 8 + 1 + 4 * j by omega), g1, g2']
      exact br_t rfl (sim_mode hj (by omega) rfl h)
    · by_cases c : b < 0
      · exact br_t c (rf_c2 (mb_yes hj (br_f (by decide) (in_no (N := 3) (by decide) (by decide) hb (br_t rfl (rf_m2 (br_t rfl (sim_ref h))))))))
      · exact br_f c (br_f (by
          have := lt_of_no (N := 3) (y := 3) (by decide) (by decide) hb c
          intro c2
          rw [Int32.le_iff_toInt_le] at this c2
          rw [show ((3 : Int32)).toInt = 3 by decide] at this
          rw [show ((2 : Int32)).toInt = 2 by decide] at c2
          omega) (rf_c2 (mb_yes hj (br_f (by decide) (in_no (N := 3) (by decide) (by decide) hb (br_t rfl (rf_m2 (br_t rfl (sim_ref h)))))))))
  · exact bk_no ha (br_t rfl (rf_c1 (mb_no ha (br_t rfl (rf_m1 (br_t rfl (sim_ref h)))))))
theorem sim_undone {X : db_St}  (h : Sim X) : Sim (db_si (db_si X 7 4 0) 92 306 0) := by
  obtain ⟨hR, hT, hW, ⟨hB, hL, hM, hD, hN, hF, hG, hO⟩, hI⟩ := h
  refine ⟨hR.keep (fun j => (by simp (disch := omega) only [db_si_nb, db_si_na])) (fun j => (by simp (disch := omega) only [db_si_nb, db_si_na])), hT.keep (by simp (disch := omega) only [db_si_nb, db_si_na]) (by simp (disch := omega) only [db_si_nb, db_si_na]) (fun j => (by simp (disch := omega) only [db_si_nb, db_si_na])) (fun j => (by simp (disch := omega) only [db_si_nb, db_si_na])), hW.keep (by simp (disch := omega) only [db_si_nb, db_si_na]) (by simp (disch := omega) only [db_si_nb, db_si_na]) (fun j => (by simp (disch := omega) only [db_si_nb, db_si_na])) (fun j => (by simp (disch := omega) only [db_si_nb, db_si_na])), ⟨hB.keep (fun b _ => (by simp (disch := omega) only [db_si_nb, db_si_na])) (fun b _ j => ⟨(by simp (disch := omega) only [db_si_nb, db_si_na]), (by simp (disch := omega) only [db_si_nb, db_si_na]), (by simp (disch := omega) only [db_si_nb, db_si_na])⟩) (fun j _ => (by simp (disch := omega) only [db_si_nb, db_si_na])), hL.keep (fun b _ => (by simp (disch := omega) only [db_si_nb, db_si_na])) (fun j _ _ => (by simp (disch := omega) only [db_si_nb, db_si_na])), hM.keep (fun b _ => (by simp (disch := omega) only [db_si_nb, db_si_na])) (fun j _ _ => (by simp (disch := omega) only [db_si_nb, db_si_na])), ?_, hN.keep (fun j => (by simp (disch := omega) only [db_si_nb, db_si_na])) (fun j _ _ => (by simp (disch := omega) only [db_si_nb, db_si_na])), hF.keep (by simp (disch := omega) only [db_si_nb, db_si_na]) (by simp (disch := omega) only [db_si_nb, db_si_na]), hG.keep (by simp (disch := omega) only [db_si_nb, db_si_na]) (by simp (disch := omega) only [db_si_nb, db_si_na]), hO.keep (by simp (disch := omega) only [db_si_nb, db_si_na]) (fun j => ⟨(by simp (disch := omega) only [db_si_nb, db_si_na]), (by simp (disch := omega) only [db_si_nb, db_si_na]), (by simp (disch := omega) only [db_si_nb, db_si_na]), (by simp (disch := omega) only [db_si_nb, db_si_na])⟩) (fun j _ => (by simp (disch := omega) only [db_si_nb, db_si_na]))⟩, hI.keep (by simp (disch := omega) only [db_si_nb, db_si_na]) (by simp (disch := omega) only [db_si_nb, db_si_na]) (fun c j _ _ => (by simp (disch := omega) only [db_si_nb, db_si_na])) (fun j => (by simp (disch := omega) only [db_si_nb, db_si_na]))⟩
  · exact ⟨0, by omega, by rw [db_si_na (by omega), db_si_hit]; rfl, by rw [db_si_hit]; rfl, fun i hi => absurd hi (by omega)⟩
theorem op_8 {xs : Nat → Int32} {x3 : Int32} {X : db_St} (h : Sim X) : lc_8 xs x3 Sim X := by
  unfold lc_8 wp_X10_undone wp_X11_undone
  intro Z eZ Y eY
  have c1 : ((306 : Int32)).toNatClampNeg = 306 := by decide
  obtain ⟨n, h0, h1, h2, h3⟩ := h.2.2.2.1.2.2.2.1
  rw [c1] at eY ⊢
  rw [eY, eZ, db_si_na (show (92 : Nat) ≠ 7 by decide), h1, h2]
  exact br_t rfl (sim_undone h)
theorem sim_friends {X : db_St} {f : Nat} (hf : f ≤ 99) (h : Sim X) : Sim (db_si (db_si X 36 2 (nI f)) 92 309 (nI f)) := by
  obtain ⟨hR, hT, hW, ⟨hB, hL, hM, hD, hN, hF, hG, hO⟩, hI⟩ := h
  refine ⟨hR.keep (fun j => (by simp (disch := omega) only [db_si_nb, db_si_na])) (fun j => (by simp (disch := omega) only [db_si_nb, db_si_na])), hT.keep (by simp (disch := omega) only [db_si_nb, db_si_na]) (by simp (disch := omega) only [db_si_nb, db_si_na]) (fun j => (by simp (disch := omega) only [db_si_nb, db_si_na])) (fun j => (by simp (disch := omega) only [db_si_nb, db_si_na])), hW.keep (by simp (disch := omega) only [db_si_nb, db_si_na]) (by simp (disch := omega) only [db_si_nb, db_si_na]) (fun j => (by simp (disch := omega) only [db_si_nb, db_si_na])) (fun j => (by simp (disch := omega) only [db_si_nb, db_si_na])), ⟨hB.keep (fun b _ => (by simp (disch := omega) only [db_si_nb, db_si_na])) (fun b _ j => ⟨(by simp (disch := omega) only [db_si_nb, db_si_na]), (by simp (disch := omega) only [db_si_nb, db_si_na]), (by simp (disch := omega) only [db_si_nb, db_si_na])⟩) (fun j _ => (by simp (disch := omega) only [db_si_nb, db_si_na])), hL.keep (fun b _ => (by simp (disch := omega) only [db_si_nb, db_si_na])) (fun j _ _ => (by simp (disch := omega) only [db_si_nb, db_si_na])), hM.keep (fun b _ => (by simp (disch := omega) only [db_si_nb, db_si_na])) (fun j _ _ => (by simp (disch := omega) only [db_si_nb, db_si_na])), hD.keep (by simp (disch := omega) only [db_si_nb, db_si_na]) (fun j => ⟨(by simp (disch := omega) only [db_si_nb, db_si_na]), (by simp (disch := omega) only [db_si_nb, db_si_na]), (by simp (disch := omega) only [db_si_nb, db_si_na])⟩) (fun j _ => (by simp (disch := omega) only [db_si_nb, db_si_na])), hN.keep (fun j => (by simp (disch := omega) only [db_si_nb, db_si_na])) (fun j _ _ => (by simp (disch := omega) only [db_si_nb, db_si_na])), hF.keep (by simp (disch := omega) only [db_si_nb, db_si_na]) (by simp (disch := omega) only [db_si_nb, db_si_na]), ?_, hO.keep (by simp (disch := omega) only [db_si_nb, db_si_na]) (fun j => ⟨(by simp (disch := omega) only [db_si_nb, db_si_na]), (by simp (disch := omega) only [db_si_nb, db_si_na]), (by simp (disch := omega) only [db_si_nb, db_si_na]), (by simp (disch := omega) only [db_si_nb, db_si_na])⟩) (fun j _ => (by simp (disch := omega) only [db_si_nb, db_si_na]))⟩, hI.keep (by simp (disch := omega) only [db_si_nb, db_si_na]) (by simp (disch := omega) only [db_si_nb, db_si_na]) (fun c j _ _ => (by simp (disch := omega) only [db_si_nb, db_si_na])) (fun j => (by simp (disch := omega) only [db_si_nb, db_si_na]))⟩
  · exact ⟨f, hf, by rw [db_si_na (by omega), db_si_hit], by rw [db_si_hit]⟩
theorem op_12 {xs : Nat → Int32} {x3 : Int32} {X : db_St} (h : Sim X) : lc_12 xs x3 Sim X := by
  unfold lc_12
  generalize xs ((x3 + (1 : Int32))).toNatClampNeg = a
  unfold wp_X10_friends wp_X11_friends
  by_cases h0 : 0 ≤ a
  · by_cases h9 : a ≤ 99
    · obtain ⟨f, hf, rfl⟩ := nI_of2 (M := 99) (n := 99) (by decide) (Int32.not_lt.mpr h0) h9
      refine br_t h0 (br_t h9 ?_)
      intro Z eZ
      refine wi_ok h0 h9 (br_t rfl ?_)
      intro Y eY
      have c1 : ((309 : Int32)).toNatClampNeg = 309 := by decide
      obtain ⟨g, k0, k1, k2⟩ := h.2.2.2.1.2.2.2.2.2.2.1
      rw [c1] at eY ⊢
      rw [eY, eZ, db_si_na (show (92 : Nat) ≠ 36 by decide), k1, k2]
      exact br_t rfl (sim_friends hf h)
    · exact br_t h0 (br_f h9 (rf_c6 (wi_hi h0 h9 (br_f (by decide) (rf_m6 (br_t rfl (sim_ref h)))))))
  · exact br_f h0 (rf_c4 (wi_lo h0 (br_f (by decide) (rf_m4 (br_t rfl (sim_ref h))))))
