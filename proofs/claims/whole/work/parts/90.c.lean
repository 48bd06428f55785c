/-! the bits one by one -/
theorem bc_B {Q : Int32 → db_St → Prop} {X : db_St} : ∀ (k n a : Nat), n < 2 ^ k → n < 268435456 → a + k ≤ 100 → Q (nI (a + bcN k n)) X → wp_X11_bits_4 Q (k + 1) X (nI a) (nI n)
  | 0, n, a, h, _, _, q => by
    have e : n = 0 := by have : (2 : Nat) ^ 0 = 1 := rfl; omega
    subst e
    exact br_t (by decide) q
  | k + 1, n, a, h, h2, h3, q => by
    rw [wp_X11_bits_4]
    by_cases e : n = 0
    · subst e
      rw [bcN_0] at q
      exact br_t (by decide) q
    · refine br_f (nI_nle (by omega) (by omega)) ?_
      rw [pk_andN (by omega) 1 (by decide), pk_shrN (by omega) ((1 : Int32) &&& 31) 1 (by decide), nI_add, show (2 : Nat) ^ 1 = 2 from rfl]
      have h4 : n / 2 < 2 ^ k := by rw [Nat.pow_succ] at h; omega
      refine bc_B k (n / 2) (a + n % 2) h4 (by omega) (by omega) ?_
      rw [Nat.add_assoc]
      exact q
theorem bc_M {X : db_St} {Q : Int32 → db_St → Prop} {n : Nat} (h : n < 268435456) (q : Q (nI (bcN 28 n)) X) : wp_X11_bits X (nI n) Q :=
  ⟨29, bc_B 28 n 0 h h (by decide) (by rw [Nat.zero_add]; exact q)⟩
theorem sim_feasts {X : db_St} {f : Nat} (hf : f < 268435456) (h : Sim X) : Sim (db_si (db_si X 36 1 (nI f)) 92 308 (nI f)) := by
  obtain ⟨hR, hT, hW, ⟨hB, hL, hM, hD, hN, hF, hG, hO⟩, hI⟩ := h
  refine ⟨hR.keep (fun j => (by simp (disch := omega) only [db_si_nb, db_si_na])) (fun j => (by simp (disch := omega) only [db_si_nb, db_si_na])), hT.keep (by simp (disch := omega) only [db_si_nb, db_si_na]) (by simp (disch := omega) only [db_si_nb, db_si_na]) (fun j => (by simp (disch := omega) only [db_si_nb, db_si_na])) (fun j => (by simp (disch := omega) only [db_si_nb, db_si_na])), hW.keep (by simp (disch := omega) only [db_si_nb, db_si_na]) (by simp (disch := omega) only [db_si_nb, db_si_na]) (fun j => (by simp (disch := omega) only [db_si_nb, db_si_na])) (fun j => (by simp (disch := omega) only [db_si_nb, db_si_na])), ⟨hB.keep (fun b _ => (by simp (disch := omega) only [db_si_nb, db_si_na])) (fun b _ j => ⟨(by simp (disch := omega) only [db_si_nb, db_si_na]), (by simp (disch := omega) only [db_si_nb, db_si_na]), (by simp (disch := omega) only [db_si_nb, db_si_na])⟩) (fun j _ => (by simp (disch := omega) only [db_si_nb, db_si_na])), hL.keep (fun b _ => (by simp (disch := omega) only [db_si_nb, db_si_na])) (fun j _ _ => (by simp (disch := omega) only [db_si_nb, db_si_na])), hM.keep (fun b _ => (by simp (disch := omega) only [db_si_nb, db_si_na])) (fun j _ _ => (by simp (disch := omega) only [db_si_nb, db_si_na])), hD.keep (by simp (disch := omega) only [db_si_nb, db_si_na]) (fun j => ⟨(by simp (disch := omega) only [db_si_nb, db_si_na]), (by simp (disch := omega) only [db_si_nb, db_si_na]), (by simp (disch := omega) only [db_si_nb, db_si_na])⟩) (fun j _ => (by simp (disch := omega) only [db_si_nb, db_si_na])), hN.keep (fun j => (by simp (disch := omega) only [db_si_nb, db_si_na])) (fun j _ _ => (by simp (disch := omega) only [db_si_nb, db_si_na])), ?_, hG.keep (by simp (disch := omega) only [db_si_nb, db_si_na]) (by simp (disch := omega) only [db_si_nb, db_si_na]), hO.keep (by simp (disch := omega) only [db_si_nb, db_si_na]) (fun j => ⟨(by simp (disch := omega) only [db_si_nb, db_si_na]), (by simp (disch := omega) only [db_si_nb, db_si_na]), (by simp (disch := omega) only [db_si_nb, db_si_na]), (by simp (disch := omega) only [db_si_nb, db_si_na])⟩) (fun j _ => (by simp (disch := omega) only [db_si_nb, db_si_na]))⟩, hI.keep (by simp (disch := omega) only [db_si_nb, db_si_na]) (by simp (disch := omega) only [db_si_nb, db_si_na]) (fun c j _ _ => (by simp (disch := omega) only [db_si_nb, db_si_na])) (fun j => (by simp (disch := omega) only [db_si_nb, db_si_na]))⟩
  · exact ⟨f, hf, by rw [db_si_na (by omega), db_si_hit], by rw [db_si_hit]⟩
theorem op_11 {xs : Nat → Int32} {x3 : Int32} {X : db_St} (h : Sim X) : lc_11 xs x3 Sim X := by
  unfold lc_11
  generalize xs ((x3 + (1 : Int32))).toNatClampNeg = a
  unfold wp_X10_feasts wp_X11_feasts
  rcases pk_ix a (n := 268435456) (by decide) with h1 | h1 | ⟨n, hn, rfl⟩
  · exact br_f (Int32.not_le.mpr h1) (rf_c4 (wi_lo (Int32.not_le.mpr h1) (br_f (by decide) (rf_m4 (br_t rfl (sim_ref h))))))
  · have h1' : (268435456 : Int32) ≤ a := h1
    have g : 0 ≤ a := Int32.le_trans (by decide) h1'
    have g2 : ¬ a ≤ 268435455 := by
      intro c
      rw [Int32.le_iff_toInt_le] at h1' c
      rw [show ((268435456 : Int32)).toInt = 268435456 by decide] at h1'
      rw [show ((268435455 : Int32)).toInt = 268435455 by decide] at c
      omega
    exact br_t g (br_f (Int32.not_lt.mpr h1') (rf_c6 (wi_hi g g2 (br_f (by decide) (rf_m6 (br_t rfl (sim_ref h)))))))
  · refine br_t (nI_pos' (by omega)) (br_t (nI_lt hn (by decide)) (fun Y eY => bc_J hn ?_))
    refine wi_ok (nI_pos' (by omega)) (nI_le (a := n) (b := 268435455) (by omega) (by decide)) (br_t rfl (fun Z eZ => bc_M hn (br_t rfl ?_)))
    rw [eZ, eY]
    exact sim_feasts hn h
