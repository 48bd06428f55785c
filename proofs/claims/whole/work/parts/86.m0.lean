/-! What class and reference have in common: the relation Sim of their cells; single reads behind writes; the small methods. -/
theorem db_si_nb {X : db_St} {k j : Nat} {v : Int32} {a b : Nat} (h : b ≠ j) : (db_si X k j v).1 a b = X.1 a b := by
  rw [db_si_1]
  by_cases ha : a = k
  · rw [if_pos ha, if_neg h, ha]
  · rw [if_neg ha]
theorem db_si_na {X : db_St} {k j : Nat} {v : Int32} {a b : Nat} (h : a ≠ k) : (db_si X k j v).1 a b = X.1 a b := by
  rw [db_si_1, if_neg h]
theorem db_si_hit {X : db_St} {k j : Nat} {v : Int32} : (db_si X k j v).1 k j = v := by
  rw [db_si_1, if_pos rfl, if_pos rfl]
theorem db_si_at {X : db_St} {k j : Nat} {v : Int32} {a b : Nat} (h : a = k) (h2 : b = j) : (db_si X k j v).1 a b = v := by
  rw [h, h2, db_si_hit]
theorem db_si_l {X : db_St} {k j : Nat} {v : Int32} : (db_si X k j v).2 = X.2 := rfl
def SimR (X : db_St) : Prop := ∀ i, i < 7 → X.1 1 i = X.1 91 i
def SimT (X : db_St) : Prop := ∃ t, t ≤ 16 ∧ X.1 2 1 = nI t ∧ X.1 90 5 = nI t ∧ ∀ j, j < t → X.1 94 j = X.1 3 j &&& 255 ∧ (X.1 3 j).toInt8.toInt32 = X.1 3 j
def SimW (X : db_St) : Prop := ∃ t, t ≤ 100 ∧ X.1 4 1 = nI t ∧ X.1 90 17 = nI t ∧ ∀ j, j < t → X.1 100 j = X.1 5 j
def SimB (k a : Nat) (X : db_St) : Prop := ∀ b, b < 6 → ∃ n, n ≤ 10 ∧ X.1 (k + 2 + 4 * b) 3 = nI n ∧ X.1 a (180 + b) = nI n ∧ ∀ r, r < n → ∃ d m y, d < 8 ∧ m < 16 ∧ y < 1000 ∧ X.1 (k + 3 + 4 * b) r = nI d ∧ X.1 a (30 * b + 3 * r) = nI d ∧ X.1 (k + 4 + 4 * b) r = nI m ∧ X.1 a (30 * b + 3 * r + 1) = nI m ∧ X.1 (k + 5 + 4 * b) r = nI y ∧ X.1 a (30 * b + 3 * r + 2) = nI y
def SimL (k a : Nat) (X : db_St) : Prop := ∀ b, b < 6 → ∃ o, o ≤ 6 ∧ X.1 a (186 + b) = nI o ∧ X.1 (k + 2 + 4 * b) 4 = nI o - 1
def SimM (k a : Nat) (X : db_St) : Prop := ∀ b, b < 6 → ∃ o, o ≤ 2 ∧ X.1 a (192 + b) = nI o ∧ X.1 (k + 2 + 4 * b) 5 = nI o
def SimD (k a : Nat) (X : db_St) : Prop := ∃ n, n ≤ 12 ∧ X.1 k 4 = nI n ∧ X.1 a 306 = nI n ∧ ∀ i, i < n → ∃ d m t, d < 8 ∧ m < 16 ∧ t < 2 ∧ X.1 (k + 26) i = nI d ∧ X.1 a (198 + 3 * i) = nI d ∧ X.1 (k + 27) i = nI m ∧ X.1 a (199 + 3 * i) = nI m ∧ X.1 (k + 28) i = nI (t + 1) ∧ X.1 a (200 + 3 * i) = nI t
def SimN (k a : Nat) (X : db_St) : Prop := ∀ i, i < 24 → ∃ v, v ≤ 999 ∧ (i % 4 = 0 → v ≤ 99) ∧ (i % 4 = 1 → v ≤ 99) ∧ (i % 4 = 2 → v ≤ 9) ∧ X.1 (k + 1) i = nI v ∧ X.1 a (234 + i) = nI v
def SimF (k a : Nat) (X : db_St) : Prop := ∃ f, f < 268435456 ∧ X.1 k 1 = nI f ∧ X.1 a 308 = nI f
def SimG (k a : Nat) (X : db_St) : Prop := ∃ f, f ≤ 99 ∧ X.1 k 2 = nI f ∧ X.1 a 309 = nI f
def SimO (k a : Nat) (X : db_St) : Prop := ∃ n, n ≤ 12 ∧ X.1 k 4 = nI n ∧ X.1 a 307 = nI n ∧ ∀ i, i < n → ∃ f g u w, f < 6 ∧ g < 6 ∧ f ≠ g ∧ 1 ≤ u ∧ u ≤ 30 ∧ 1 ≤ w ∧ w ≤ 30 ∧ X.1 (k + 1) i = nI f ∧ X.1 a (258 + 4 * i) = nI f ∧ X.1 (k + 2) i = nI u ∧ X.1 a (259 + 4 * i) = nI u ∧ X.1 (k + 3) i = nI g ∧ X.1 a (260 + 4 * i) = nI g ∧ X.1 (k + 4) i = nI w ∧ X.1 a (261 + 4 * i) = nI w
/-- shelf at ks, payings at kp, puttings at ko, the reference's row at a -/
def SimX (ks kp ko a : Nat) (X : db_St) : Prop := SimB ks a X ∧ SimL ks a X ∧ SimM ks a X ∧ SimD ks a X ∧ SimN kp a X ∧ SimF kp a X ∧ SimG kp a X ∧ SimO ko a X
def SimI (X : db_St) : Prop := (X.1 0 14 = 0 ∧ X.1 90 3 = 0) ∨ (X.1 0 14 = 1 ∧ X.1 90 3 = 1 ∧ SimX 54 83 85 93 X)
def Sim (X : db_St) : Prop := SimR X ∧ SimT X ∧ SimW X ∧ SimX 7 36 38 92 X ∧ SimI X
-- what is not touched stays
theorem SimR.keep {X Y : db_St} (h : SimR X) (e : ∀ j, Y.1 1 j = X.1 1 j) (e2 : ∀ j, Y.1 91 j = X.1 91 j) : SimR Y := fun i hi => by rw [e, e2]; exact h i hi
theorem SimT.keep {X Y : db_St} (h : SimT X) (e1 : Y.1 2 1 = X.1 2 1) (e2 : Y.1 90 5 = X.1 90 5) (e3 : ∀ j, Y.1 94 j = X.1 94 j) (e4 : ∀ j, Y.1 3 j = X.1 3 j) : SimT Y := by
  obtain ⟨t, h0, h1, h2, h3⟩ := h
  exact ⟨t, h0, by rw [e1]; exact h1, by rw [e2]; exact h2, fun j hj => by rw [e3, e4]; exact h3 j hj⟩
theorem SimW.keep {X Y : db_St} (h : SimW X) (e1 : Y.1 4 1 = X.1 4 1) (e2 : Y.1 90 17 = X.1 90 17) (e3 : ∀ j, Y.1 100 j = X.1 100 j) (e4 : ∀ j, Y.1 5 j = X.1 5 j) : SimW Y := by
  obtain ⟨t, h0, h1, h2, h3⟩ := h
  exact ⟨t, h0, by rw [e1]; exact h1, by rw [e2]; exact h2, fun j hj => by rw [e3, e4]; exact h3 j hj⟩
theorem SimB.keep {k a : Nat} {X Y : db_St} (h : SimB k a X) (e1 : ∀ b, b < 6 → Y.1 (k + 2 + 4 * b) 3 = X.1 (k + 2 + 4 * b) 3) (e2 : ∀ b, b < 6 → ∀ j, Y.1 (k + 3 + 4 * b) j = X.1 (k + 3 + 4 * b) j ∧ Y.1 (k + 4 + 4 * b) j = X.1 (k + 4 + 4 * b) j ∧ Y.1 (k + 5 + 4 * b) j = X.1 (k + 5 + 4 * b) j) (e3 : ∀ j, j < 186 → Y.1 a j = X.1 a j) : SimB k a Y := by
  intro b hb
  obtain ⟨n, h0, h1, h2, h3⟩ := h b hb
  refine ⟨n, h0, by rw [e1 b hb]; exact h1, by rw [e3 _ (by omega)]; exact h2, fun r hr => ?_⟩
  rw [(e2 b hb r).1, (e2 b hb r).2.1, (e2 b hb r).2.2, e3 _ (by omega), e3 _ (by omega), e3 _ (by omega)]
  exact h3 r hr
theorem SimL.keep {k a : Nat} {X Y : db_St} (h : SimL k a X) (e1 : ∀ b, b < 6 → Y.1 (k + 2 + 4 * b) 4 = X.1 (k + 2 + 4 * b) 4) (e3 : ∀ j, 186 ≤ j → j < 192 → Y.1 a j = X.1 a j) : SimL k a Y := by
  intro b hb
  rw [e1 b hb, e3 _ (by omega) (by omega)]
  exact h b hb
theorem SimM.keep {k a : Nat} {X Y : db_St} (h : SimM k a X) (e1 : ∀ b, b < 6 → Y.1 (k + 2 + 4 * b) 5 = X.1 (k + 2 + 4 * b) 5) (e3 : ∀ j, 192 ≤ j → j < 198 → Y.1 a j = X.1 a j) : SimM k a Y := by
  intro b hb
  rw [e1 b hb, e3 _ (by omega) (by omega)]
  exact h b hb
theorem SimD.keep {k a : Nat} {X Y : db_St} (h : SimD k a X) (e1 : Y.1 k 4 = X.1 k 4) (e2 : ∀ j, Y.1 (k + 26) j = X.1 (k + 26) j ∧ Y.1 (k + 27) j = X.1 (k + 27) j ∧ Y.1 (k + 28) j = X.1 (k + 28) j) (e3 : ∀ j, (198 ≤ j ∧ j < 234) ∨ j = 306 → Y.1 a j = X.1 a j) : SimD k a Y := by
  obtain ⟨n, h0, h1, h2, h3⟩ := h
  refine ⟨n, h0, by rw [e1]; exact h1, by rw [e3 _ (by omega)]; exact h2, fun i hi => ?_⟩
  rw [(e2 i).1, (e2 i).2.1, (e2 i).2.2, e3 _ (by omega), e3 _ (by omega), e3 _ (by omega)]
  exact h3 i hi
theorem SimN.keep {k a : Nat} {X Y : db_St} (h : SimN k a X) (e1 : ∀ j, Y.1 (k + 1) j = X.1 (k + 1) j) (e3 : ∀ j, 234 ≤ j → j < 258 → Y.1 a j = X.1 a j) : SimN k a Y := by
  intro i hi
  rw [e1, e3 _ (by omega) (by omega)]
  exact h i hi
theorem SimF.keep {k a : Nat} {X Y : db_St} (h : SimF k a X) (e1 : Y.1 k 1 = X.1 k 1) (e3 : Y.1 a 308 = X.1 a 308) : SimF k a Y := by
  unfold SimF; rw [e1, e3]; exact h
theorem SimG.keep {k a : Nat} {X Y : db_St} (h : SimG k a X) (e1 : Y.1 k 2 = X.1 k 2) (e3 : Y.1 a 309 = X.1 a 309) : SimG k a Y := by
  unfold SimG; rw [e1, e3]; exact h
theorem SimO.keep {k a : Nat} {X Y : db_St} (h : SimO k a X) (e1 : Y.1 k 4 = X.1 k 4) (e2 : ∀ j, Y.1 (k + 1) j = X.1 (k + 1) j ∧ Y.1 (k + 2) j = X.1 (k + 2) j ∧ Y.1 (k + 3) j = X.1 (k + 3) j ∧ Y.1 (k + 4) j = X.1 (k + 4) j) (e3 : ∀ j, (258 ≤ j ∧ j < 306) ∨ j = 307 → Y.1 a j = X.1 a j) : SimO k a Y := by
  obtain ⟨n, h0, h1, h2, h3⟩ := h
  refine ⟨n, h0, by rw [e1]; exact h1, by rw [e3 _ (by omega)]; exact h2, fun i hi => ?_⟩
  rw [(e2 i).1, (e2 i).2.1, (e2 i).2.2.1, (e2 i).2.2.2, e3 _ (by omega), e3 _ (by omega), e3 _ (by omega), e3 _ (by omega)]
  exact h3 i hi
theorem SimX.keep {ks kp ko a : Nat} {X Y : db_St} (h : SimX ks kp ko a X) (e1 : ∀ c j, ks ≤ c → c < ks + 29 → Y.1 c j = X.1 c j) (e2 : ∀ c j, kp ≤ c → c < kp + 2 → Y.1 c j = X.1 c j) (e3 : ∀ c j, ko ≤ c → c < ko + 5 → Y.1 c j = X.1 c j) (e4 : ∀ j, Y.1 a j = X.1 a j) : SimX ks kp ko a Y := by
  obtain ⟨hB, hL, hM, hD, hN, hF, hG, hO⟩ := h
  exact ⟨hB.keep (fun b hb => e1 _ _ (by omega) (by omega)) (fun b hb j => ⟨e1 _ _ (by omega) (by omega), e1 _ _ (by omega) (by omega), e1 _ _ (by omega) (by omega)⟩) (fun j _ => e4 j), hL.keep (fun b hb => e1 _ _ (by omega) (by omega)) (fun j _ _ => e4 j), hM.keep (fun b hb => e1 _ _ (by omega) (by omega)) (fun j _ _ => e4 j), hD.keep (e1 _ _ (by omega) (by omega)) (fun j => ⟨e1 _ _ (by omega) (by omega), e1 _ _ (by omega) (by omega), e1 _ _ (by omega) (by omega)⟩) (fun j _ => e4 j), hN.keep (fun j => e2 _ _ (by omega) (by omega)) (fun j _ _ => e4 j), hF.keep (e2 _ _ (by omega) (by omega)) (e4 _), hG.keep (e2 _ _ (by omega) (by omega)) (e4 _), hO.keep (e3 _ _ (by omega) (by omega)) (fun j => ⟨e3 _ _ (by omega) (by omega), e3 _ _ (by omega) (by omega), e3 _ _ (by omega) (by omega), e3 _ _ (by omega) (by omega)⟩) (fun j _ => e4 j)⟩
theorem SimI.keep {X Y : db_St} (h : SimI X) (e0 : Y.1 0 14 = X.1 0 14) (e1 : Y.1 90 3 = X.1 90 3) (e2 : ∀ c j, 54 ≤ c → c < 90 → Y.1 c j = X.1 c j) (e4 : ∀ j, Y.1 93 j = X.1 93 j) : SimI Y := by
  rcases h with h | h
  · exact Or.inl ⟨by rw [e0]; exact h.1, by rw [e1]; exact h.2⟩
  · exact Or.inr ⟨by rw [e0]; exact h.1, by rw [e1]; exact h.2.1, h.2.2.keep (fun c j h1 h2 => e2 c j (by omega) (by omega)) (fun c j h1 h2 => e2 c j (by omega) (by omega)) (fun c j h1 h2 => e2 c j (by omega) (by omega)) e4⟩
/-- nothing but the rows at which a search works, and numbers that nobody asks for, has changed -/
def Same (X Y : db_St) : Prop := (∀ c j, c ≤ 5 → Y.1 c j = X.1 c j) ∧ (∀ c j, 7 ≤ c → c ≤ 42 → Y.1 c j = X.1 c j) ∧ (∀ c j, 54 ≤ c → c ≤ 89 → Y.1 c j = X.1 c j) ∧ (∀ j, j = 3 ∨ j = 5 ∨ j = 17 → Y.1 90 j = X.1 90 j) ∧ (∀ c j, 91 ≤ c → c ≤ 94 → Y.1 c j = X.1 c j) ∧ ∀ j, Y.1 100 j = X.1 100 j
theorem Same.rfl {X : db_St} : Same X X := ⟨fun _ _ _ => Eq.refl _, fun _ _ _ _ => Eq.refl _, fun _ _ _ _ => Eq.refl _, fun _ _ => Eq.refl _, fun _ _ _ _ => Eq.refl _, fun _ => Eq.refl _⟩
theorem Same.trans {X Y Z : db_St} (h : Same X Y) (g : Same Y Z) : Same X Z :=
  ⟨fun c j a => (g.1 c j a).trans (h.1 c j a), fun c j a b => (g.2.1 c j a b).trans (h.2.1 c j a b), fun c j a b => (g.2.2.1 c j a b).trans (h.2.2.1 c j a b), fun j a => (g.2.2.2.1 j a).trans (h.2.2.2.1 j a), fun c j a b => (g.2.2.2.2.1 c j a b).trans (h.2.2.2.2.1 c j a b), fun j => (g.2.2.2.2.2 j).trans (h.2.2.2.2.2 j)⟩
theorem Sim.same {X Y : db_St} (h : Sim X) (g : Same X Y) : Sim Y := by
  obtain ⟨g1, g2, g3, g4, g5, g6⟩ := g
  obtain ⟨hR, hT, hW, hX, hI⟩ := h
  exact ⟨hR.keep (fun j => g1 _ _ (by omega)) (fun j => g5 _ _ (by omega) (by omega)), hT.keep (g1 _ _ (by omega)) (g4 _ (by omega)) (fun j => g5 _ _ (by omega) (by omega)) (fun j => g1 _ _ (by omega)), hW.keep (g1 _ _ (by omega)) (g4 _ (by omega)) g6 (fun j => g1 _ _ (by omega)), hX.keep (fun c j _ _ => g2 _ _ (by omega) (by omega)) (fun c j _ _ => g2 _ _ (by omega) (by omega)) (fun c j _ _ => g2 _ _ (by omega) (by omega)) (fun j => g5 _ _ (by omega) (by omega)), hI.keep (g1 _ _ (by omega)) (g4 _ (by omega)) (fun c j _ _ => g3 _ _ (by omega) (by omega)) (fun j => g5 _ _ (by omega) (by omega))⟩

-- numbers
theorem ix_add {a : Int32} {k j : Nat} (e : a = nI k) (h : k + j < 2 ^ 31) : (a + nI j).toNatClampNeg = k + j := by rw [e, nI_add]; exact nI_clamp h
theorem ix_in {a : Int32} {k j N : Nat} (e : a = nI k) (h : k + j < N) (hN : N < 2 ^ 31) : vp_in (a + nI j) N := by rw [e, nI_add]; exact vp_in_nI h hN
theorem ix_mul {a : Int32} {k j : Nat} (e : a = nI k) : a * nI j = nI (k * j) := by rw [e, pk_mul]
theorem db_cs (x : Int32) (N : Nat) : (∃ j, j < N ∧ x = nI j) ∨ ∀ j, j < N → x ≠ nI j := by
  by_cases h : ∃ j, j < N ∧ x = nI j
  · exact Or.inl h
  · exact Or.inr fun j hj e => h ⟨j, hj, e⟩
theorem lt_of_no {x y : Int32} {N : Nat} (hN : N < 2 ^ 31) (e : y = nI N) (h : ∀ j, j < N → x ≠ nI j) (c : ¬ x < 0) : y ≤ x := by
  rcases pk_ix x hN with h1 | h1 | ⟨j, hj, e2⟩
  · exact absurd h1 c
  · rw [e]; exact h1
  · exact absurd e2 (h j hj)
theorem bk_no {X : db_St} {Q : Int32 → db_St → Prop} {x : Int32} (h : ∀ j, j < 6 → x ≠ nI j) (q : Q 0 X) : wp_X10_isBook X x Q :=
  ⟨fun _ => q, fun c => ⟨fun _ => q, fun c2 => absurd (lt_of_no (N := 6) (by decide) (by decide) h c) c2⟩⟩
theorem bk_yes {X : db_St} {Q : Int32 → db_St → Prop} {j : Nat} (h : j < 6) (q : Q 1 X) : wp_X10_isBook X (nI j) Q :=
  ⟨fun c => absurd c (nI_pos (by omega)), fun _ => ⟨fun c => absurd c (by rw [show (6 : Int32) = nI 6 by decide]; exact nI_ge h (by decide)), fun _ => q⟩⟩
theorem kd_no {X : db_St} {Q : Int32 → db_St → Prop} {x : Int32} (h : ∀ j, j < 6 → x ≠ nI j) (q : Q 0 X) : wp_X10_isKind X x Q :=
  ⟨fun _ => q, fun c => ⟨fun _ => q, fun c2 => absurd (lt_of_no (N := 6) (by decide) (by decide) h c) c2⟩⟩
theorem kd_yes {X : db_St} {Q : Int32 → db_St → Prop} {j : Nat} (h : j < 6) (q : Q 1 X) : wp_X10_isKind X (nI j) Q :=
  ⟨fun c => absurd c (nI_pos (by omega)), fun _ => ⟨fun c => absurd c (by rw [show (6 : Int32) = nI 6 by decide]; exact nI_ge h (by decide)), fun _ => q⟩⟩
theorem in_no {X : db_St} {Q : Int32 → db_St → Prop} {x y : Int32} {N : Nat} (hN : N < 2 ^ 31) (e : y = nI N) (h : ∀ j, j < N → x ≠ nI j) (q : Q 0 X) : wp_X11_isIn X x y Q :=
  ⟨fun _ => q, fun c => ⟨fun _ => q, fun c2 => absurd (lt_of_no hN e h c) c2⟩⟩
theorem in_yes {X : db_St} {Q : Int32 → db_St → Prop} {y : Int32} {j N : Nat} (hN : N < 2 ^ 31) (e : y = nI N) (h : j < N) (q : Q 1 X) : wp_X11_isIn X (nI j) y Q :=
  ⟨fun c => absurd c (nI_pos (by omega)), fun _ => ⟨fun c => absurd c (by rw [e]; exact nI_ge h hN), fun _ => q⟩⟩
theorem mb_no {X : db_St} {Q : Int32 → db_St → Prop} {x : Int32} (h : ∀ j, j < 6 → x ≠ nI j) (q : Q 0 X) : wp_X11_isBook X x Q := in_no (N := 6) (by decide) (by decide) h ⟨rfl, q⟩
theorem mb_yes {X : db_St} {Q : Int32 → db_St → Prop} {j : Nat} (h : j < 6) (q : Q 1 X) : wp_X11_isBook X (nI j) Q := in_yes (N := 6) (by decide) (by decide) h ⟨rfl, q⟩
theorem wi_lo {X : db_St} {Q : Int32 → db_St → Prop} {x a b : Int32} (h : ¬ a ≤ x) (q : Q (-4) X) : wp_X11_within X x a b Q := ⟨fun c => absurd c h, fun _ => q⟩
theorem wi_hi {X : db_St} {Q : Int32 → db_St → Prop} {x a b : Int32} (h : a ≤ x) (h2 : ¬ x ≤ b) (q : Q (-6) X) : wp_X11_within X x a b Q := ⟨fun _ => ⟨fun c => absurd c h2, fun _ => q⟩, fun c => absurd h c⟩
theorem wi_ok {X : db_St} {Q : Int32 → db_St → Prop} {x a b : Int32} (h : a ≤ x) (h2 : x ≤ b) (q : Q 0 X) : wp_X11_within X x a b Q := ⟨fun _ => ⟨fun _ => q, fun c => absurd h2 c⟩, fun c => absurd h c⟩
-- refusals
theorem rf_c1 {X : db_St} {Q : Int32 → db_St → Prop} (q : Q (-1) (db_si X 1 1 (X.1 1 1 + 1))) : wp_X10_refuse X (-1) Q := by
  have e : (-(-1 : Int32)).toNatClampNeg = 1 := by decide
  have v : vp_in (-(-1 : Int32)) 7 := by unfold vp_in; decide
  refine ⟨fun c => absurd c (by decide), fun _ => ⟨fun c => absurd c (by decide), fun _ => ⟨v, v, fun Z eZ => ?_⟩⟩⟩
  rw [eZ, e]; exact q
theorem rf_m1 {X : db_St} {Q : Int32 → db_St → Prop} (q : Q (-1) (db_si X 91 1 (X.1 91 1 + 1))) : wp_X11_refuse X (-1) Q := by
  have e : (-(-1 : Int32)).toNatClampNeg = 1 := by decide
  have v : vp_in (-(-1 : Int32)) 7 := by unfold vp_in; decide
  refine ⟨v, v, fun Z eZ => ?_⟩
  rw [eZ, e]; exact q
theorem rf_c2 {X : db_St} {Q : Int32 → db_St → Prop} (q : Q (-2) (db_si X 1 2 (X.1 1 2 + 1))) : wp_X10_refuse X (-2) Q := by
  have e : (-(-2 : Int32)).toNatClampNeg = 2 := by decide
  have v : vp_in (-(-2 : Int32)) 7 := by unfold vp_in; decide
  refine ⟨fun c => absurd c (by decide), fun _ => ⟨fun c => absurd c (by decide), fun _ => ⟨v, v, fun Z eZ => ?_⟩⟩⟩
  rw [eZ, e]; exact q
theorem rf_m2 {X : db_St} {Q : Int32 → db_St → Prop} (q : Q (-2) (db_si X 91 2 (X.1 91 2 + 1))) : wp_X11_refuse X (-2) Q := by
  have e : (-(-2 : Int32)).toNatClampNeg = 2 := by decide
  have v : vp_in (-(-2 : Int32)) 7 := by unfold vp_in; decide
  refine ⟨v, v, fun Z eZ => ?_⟩
  rw [eZ, e]; exact q
theorem rf_c3 {X : db_St} {Q : Int32 → db_St → Prop} (q : Q (-3) (db_si X 1 3 (X.1 1 3 + 1))) : wp_X10_refuse X (-3) Q := by
  have e : (-(-3 : Int32)).toNatClampNeg = 3 := by decide
  have v : vp_in (-(-3 : Int32)) 7 := by unfold vp_in; decide
  refine ⟨fun c => absurd c (by decide), fun _ => ⟨fun c => absurd c (by decide), fun _ => ⟨v, v, fun Z eZ => ?_⟩⟩⟩
  rw [eZ, e]; exact q
theorem rf_m3 {X : db_St} {Q : Int32 → db_St → Prop} (q : Q (-3) (db_si X 91 3 (X.1 91 3 + 1))) : wp_X11_refuse X (-3) Q := by
  have e : (-(-3 : Int32)).toNatClampNeg = 3 := by decide
  have v : vp_in (-(-3 : Int32)) 7 := by unfold vp_in; decide
  refine ⟨v, v, fun Z eZ => ?_⟩
  rw [eZ, e]; exact q
theorem rf_c4 {X : db_St} {Q : Int32 → db_St → Prop} (q : Q (-4) (db_si X 1 4 (X.1 1 4 + 1))) : wp_X10_refuse X (-4) Q := by
  have e : (-(-4 : Int32)).toNatClampNeg = 4 := by decide
  have v : vp_in (-(-4 : Int32)) 7 := by unfold vp_in; decide
  refine ⟨fun c => absurd c (by decide), fun _ => ⟨fun c => absurd c (by decide), fun _ => ⟨v, v, fun Z eZ => ?_⟩⟩⟩
  rw [eZ, e]; exact q
theorem rf_m4 {X : db_St} {Q : Int32 → db_St → Prop} (q : Q (-4) (db_si X 91 4 (X.1 91 4 + 1))) : wp_X11_refuse X (-4) Q := by
  have e : (-(-4 : Int32)).toNatClampNeg = 4 := by decide
  have v : vp_in (-(-4 : Int32)) 7 := by unfold vp_in; decide
  refine ⟨v, v, fun Z eZ => ?_⟩
  rw [eZ, e]; exact q
theorem rf_c6 {X : db_St} {Q : Int32 → db_St → Prop} (q : Q (-6) (db_si X 1 6 (X.1 1 6 + 1))) : wp_X10_refuse X (-6) Q := by
  have e : (-(-6 : Int32)).toNatClampNeg = 6 := by decide
  have v : vp_in (-(-6 : Int32)) 7 := by unfold vp_in; decide
  refine ⟨fun c => absurd c (by decide), fun _ => ⟨fun c => absurd c (by decide), fun _ => ⟨v, v, fun Z eZ => ?_⟩⟩⟩
  rw [eZ, e]; exact q
theorem rf_m6 {X : db_St} {Q : Int32 → db_St → Prop} (q : Q (-6) (db_si X 91 6 (X.1 91 6 + 1))) : wp_X11_refuse X (-6) Q := by
  have e : (-(-6 : Int32)).toNatClampNeg = 6 := by decide
  have v : vp_in (-(-6 : Int32)) 7 := by unfold vp_in; decide
  refine ⟨v, v, fun Z eZ => ?_⟩
  rw [eZ, e]; exact q
theorem sim_ref {X : db_St} {i : Nat} (h : Sim X) : Sim (db_si (db_si X 1 i (X.1 1 i + 1)) 91 i ((db_si X 1 i (X.1 1 i + 1)).1 91 i + 1)) := by
  obtain ⟨hR, hT, hW, hX, hI⟩ := h
  refine ⟨fun k hk => ?_, hT.keep (by simp (disch := omega) only [db_si_nb, db_si_na]) (by simp (disch := omega) only [db_si_nb, db_si_na]) (fun j => (by simp (disch := omega) only [db_si_nb, db_si_na])) (fun j => (by simp (disch := omega) only [db_si_nb, db_si_na])), hW.keep (by simp (disch := omega) only [db_si_nb, db_si_na]) (by simp (disch := omega) only [db_si_nb, db_si_na]) (fun j => (by simp (disch := omega) only [db_si_nb, db_si_na])) (fun j => (by simp (disch := omega) only [db_si_nb, db_si_na])), hX.keep (fun c j _ _ => (by simp (disch := omega) only [db_si_nb, db_si_na])) (fun c j _ _ => (by simp (disch := omega) only [db_si_nb, db_si_na])) (fun c j _ _ => (by simp (disch := omega) only [db_si_nb, db_si_na])) (fun j => (by simp (disch := omega) only [db_si_nb, db_si_na])), hI.keep (by simp (disch := omega) only [db_si_nb, db_si_na]) (by simp (disch := omega) only [db_si_nb, db_si_na]) (fun c j _ _ => (by simp (disch := omega) only [db_si_nb, db_si_na])) (fun j => (by simp (disch := omega) only [db_si_nb, db_si_na]))⟩
  by_cases e : k = i
  · subst e
    rw [db_si_hit, db_si_na (show (91 : Nat) ≠ 1 by decide), db_si_na (show (1 : Nat) ≠ 91 by decide), db_si_hit, hR k hk]
  · rw [db_si_nb e, db_si_nb e, db_si_nb e, db_si_nb e]
    exact hR k hk
theorem sim_lean {X : db_St} {j o : Nat} {v w : Int32} (h : Sim X) (hj : j < 6) (ho : o ≤ 6) (hv : v = nI o - 1) (hw : w = nI o) : Sim (db_si (db_si X (8 + 1 + 4 * j) 4 v) 92 (186 + j) w) := by
  obtain ⟨hR, hT, hW, ⟨hB, hL, hM, hD, hN, hF, hG, hO⟩, hI⟩ := h
  refine ⟨hR.keep (fun j => (by simp (disch := omega) only [db_si_nb, db_si_na])) (fun j => (by simp (disch := omega) only [db_si_nb, db_si_na])), hT.keep (by simp (disch := omega) only [db_si_nb, db_si_na]) (by simp (disch := omega) only [db_si_nb, db_si_na]) (fun j => (by simp (disch := omega) only [db_si_nb, db_si_na])) (fun j => (by simp (disch := omega) only [db_si_nb, db_si_na])), hW.keep (by simp (disch := omega) only [db_si_nb, db_si_na]) (by simp (disch := omega) only [db_si_nb, db_si_na]) (fun j => (by simp (disch := omega) only [db_si_nb, db_si_na])) (fun j => (by simp (disch := omega) only [db_si_nb, db_si_na])), ⟨hB.keep (fun b _ => (by simp (disch := omega) only [db_si_nb, db_si_na])) (fun b _ j => ⟨(by simp (disch := omega) only [db_si_nb, db_si_na]), (by simp (disch := omega) only [db_si_nb, db_si_na]), (by simp (disch := omega) only [db_si_nb, db_si_na])⟩) (fun j _ => (by simp (disch := omega) only [db_si_nb, db_si_na])), fun b hb => ?_, hM.keep (fun b _ => (by simp (disch := omega) only [db_si_nb, db_si_na])) (fun j _ _ => (by simp (disch := omega) only [db_si_nb, db_si_na])), hD.keep (by simp (disch := omega) only [db_si_nb, db_si_na]) (fun j => ⟨(by simp (disch := omega) only [db_si_nb, db_si_na]), (by simp (disch := omega) only [db_si_nb, db_si_na]), (by simp (disch := omega) only [db_si_nb, db_si_na])⟩) (fun j _ => (by simp (disch := omega) only [db_si_nb, db_si_na])), hN.keep (fun j => (by simp (disch := omega) only [db_si_nb, db_si_na])) (fun j _ _ => (by simp (disch := omega) only [db_si_nb, db_si_na])), hF.keep (by simp (disch := omega) only [db_si_nb, db_si_na]) (by simp (disch := omega) only [db_si_nb, db_si_na]), hG.keep (by simp (disch := omega) only [db_si_nb, db_si_na]) (by simp (disch := omega) only [db_si_nb, db_si_na]), hO.keep (by simp (disch := omega) only [db_si_nb, db_si_na]) (fun j => ⟨(by simp (disch := omega) only [db_si_nb, db_si_na]), (by simp (disch := omega) only [db_si_nb, db_si_na]), (by simp (disch := omega) only [db_si_nb, db_si_na]), (by simp (disch := omega) only [db_si_nb, db_si_na])⟩) (fun j _ => (by simp (disch := omega) only [db_si_nb, db_si_na]))⟩, hI.keep (by simp (disch := omega) only [db_si_nb, db_si_na]) (by simp (disch := omega) only [db_si_nb, db_si_na]) (fun c j _ _ => (by simp (disch := omega) only [db_si_nb, db_si_na])) (fun j => (by simp (disch := omega) only [db_si_nb, db_si_na]))⟩
  by_cases e : b = j
  · subst e
    exact ⟨o, ho, by rw [db_si_hit, hw], by rw [db_si_na (by omega), db_si_at (by omega) (Eq.refl 4), hv]⟩
  · obtain ⟨o2, g1, g2, g3⟩ := hL b hb
    refine ⟨o2, g1, ?_, ?_⟩
    · rw [db_si_nb (by omega), db_si_na (by omega)]; exact g2
    · rw [db_si_na (by omega), db_si_na (by omega)]; exact g3
theorem op_3 {xs : Nat → Int32} {x3 : Int32} {X : db_St} (h : Sim X) : lc_3 xs x3 Sim X := by
  unfold lc_3
  generalize xs ((x3 + (1 : Int32))).toNatClampNeg = a
  generalize xs ((x3 + (2 : Int32))).toNatClampNeg = b
  unfold wp_X10_lean wp_X11_lean
  rcases db_cs a 6 with ⟨j, hj, rfl⟩ | ha
  · have cj : (nI j).toNatClampNeg = j := nI_clamp (by omega)
    have c1 : ((186 : Int32) + nI j).toNatClampNeg = 186 + j := ix_add (by decide) (by omega)
    have v1 : vp_in ((186 : Int32) + nI j) 310 := ix_in (k := 186) (by decide) (by omega) (by decide)
    have vj : vp_in (nI j) 6 := vp_in_nI hj (by decide)
    obtain ⟨o, ho, g1, g2⟩ := h.2.2.2.1.2.1 j hj
    have g2' : X.1 (8 + 1 + 4 * j) 4 = nI o - 1 := g2
    refine bk_yes hj ⟨fun c => absurd c (by decide), fun _ => ?_⟩
    have write : ∀ o2 : Nat, o2 ≤ 6 → b = nI o2 - 1 → b + 1 = nI o2 → ∀ (Z : db_St) (r : Int32), Z = db_si (db_si X (8 + 1 + 4 * j) 4 b) 92 (186 + j) (b + 1) → r = nI o - 1 → ((X.1 (8 + 1 + 4 * j) 4 = r → Sim Z) ∧ (¬ X.1 (8 + 1 + 4 * j) 4 = r → False)) := by
      intro o2 h1 h2 h3 Z r eZ er
      rw [eZ, er, g2']
      exact ⟨fun _ => sim_lean h hj h1 h2 h3, fun c => absurd rfl c⟩
    have gz : (db_si X (8 + 1 + 4 * j) 4 b).1 92 (186 + j) - 1 = nI o - 1 := by rw [db_si_na (by omega), g1]
    by_cases b1 : b = -1
    · have nj : ¬ b = nI j := by
        rw [b1]; intro e
        have := congrArg Int32.toInt e
        rw [nI_toInt (by omega)] at this
        rw [show ((-1 : Int32)).toInt = -1 by decide] at this
        omega
      refine ⟨fun c => absurd c (by rw [b1]; decide), fun _ => ⟨fun c => absurd c (by rw [b1]; decide), fun _ => ⟨fun c => absurd c nj, fun _ => ⟨vj, vj, fun Z eZ => ?_⟩⟩⟩⟩
      rw [cj] at eZ ⊢
      refine mb_yes hj ⟨fun c => absurd c (by decide), fun _ => ⟨fun _ => ⟨fun c => absurd c.symm nj, fun _ => ⟨v1, fun z ez => ⟨v1, fun Y eY => ?_⟩⟩⟩, fun c => absurd b1 c⟩⟩
      rw [c1] at ez eY
      rw [eZ] at ez eY
      exact write 0 (by omega) (by rw [b1]; decide) (by rw [b1]; decide) Y z eY (ez.trans gz)
    · rcases db_cs b 6 with ⟨o2, ho2, e2⟩ | hb
      · by_cases e3 : o2 = j
        · have e4 : b = nI j := by rw [e2, e3]
          refine ⟨fun c => absurd c (by rw [e4, Int32.lt_iff_toInt_lt, nI_toInt (by omega), show ((-1 : Int32)).toInt = -1 by decide]; omega), fun _ => ⟨fun c => absurd c (by rw [e4, show (6 : Int32) = nI 6 by decide]; exact nI_ge hj (by decide)), fun _ => ⟨fun _ => rf_c1 ?_, fun c => absurd e4 c⟩⟩⟩
          refine mb_yes hj ⟨fun c => absurd c (by decide), fun _ => ⟨fun c => absurd c b1, fun _ => ?_⟩⟩
          rw [e4]
          refine mb_yes hj ⟨fun c => absurd c (by decide), fun _ => ⟨fun _ => rf_m1 ?_, fun c => absurd rfl c⟩⟩
          exact ⟨fun _ => sim_ref h, fun c => absurd rfl c⟩
        · have nj : ¬ b = nI j := by rw [e2]; intro e; exact e3 ((nI_eq (by omega) (by omega)).mp e)
          refine ⟨fun c => absurd c (by rw [e2, Int32.lt_iff_toInt_lt, nI_toInt (by omega), show ((-1 : Int32)).toInt = -1 by decide]; omega), fun _ => ⟨fun c => absurd c (by rw [e2, show (6 : Int32) = nI 6 by decide]; exact nI_ge ho2 (by decide)), fun _ => ⟨fun c => absurd c nj, fun _ => ⟨vj, vj, fun Z eZ => ?_⟩⟩⟩⟩
          rw [cj] at eZ ⊢
          refine mb_yes hj ⟨fun c => absurd c (by decide), fun _ => ⟨fun c => absurd c b1, fun _ => ?_⟩⟩
          have mk : ∀ Q : Int32 → db_St → Prop, Q 1 Z → wp_X11_isBook Z b Q := fun Q q => by rw [e2]; exact mb_yes ho2 q
          refine mk _ ⟨fun c => absurd c (by decide), fun _ => ⟨fun c => absurd c.symm nj, fun _ => ⟨v1, fun z ez => ⟨v1, fun Y eY => ?_⟩⟩⟩⟩
          rw [c1] at ez eY
          rw [eZ] at ez eY
          exact write (o2 + 1) (by omega) (by rw [e2, nI_pred]) (by rw [e2, nI_1]) Y z eY (ez.trans gz)
      · have lo : b < -1 ∨ 6 ≤ b := by
          by_cases c : b < 0
          · left
            rw [Int32.lt_iff_toInt_lt] at c ⊢
            rw [show ((0 : Int32)).toInt = 0 by decide] at c
            rw [show ((-1 : Int32)).toInt = -1 by decide]
            by_cases q : b.toInt < -1
            · exact q
            · exact absurd (Int32.toInt_inj.mp (by rw [show ((-1 : Int32)).toInt = -1 by decide]; omega)) b1
          · exact Or.inr (lt_of_no (N := 6) (by decide) (by decide) hb c)
        have fin : ∀ Q : Int32 → db_St → Prop, Q (-1) (db_si X 1 1 (X.1 1 1 + 1)) → ((b < (-1 : Int32) → wp_X10_refuse X (-1 : Int32) Q) ∧ (¬ (b < (-1 : Int32)) → (((6 : Int32) ≤ b → wp_X10_refuse X (-1 : Int32) Q) ∧ (¬ ((6 : Int32) ≤ b) → ∀ R : Prop, R)))) := fun Q q => ⟨fun _ => rf_c1 q, fun c => ⟨fun _ => rf_c1 q, fun c2 => absurd lo (fun z => z.elim c c2)⟩⟩
        refine ⟨fun c => (fin _ ?_).1 c, fun c => ⟨fun c2 => ((fin _ ?_).2 c).1 c2, fun c2 => absurd lo (fun z => z.elim c c2)⟩⟩
        all_goals
          refine mb_yes hj ⟨fun c => absurd c (by decide), fun _ => ⟨fun c => absurd c b1, fun _ => ?_⟩⟩
          refine mb_no hb ⟨fun _ => rf_m1 ?_, fun c => absurd rfl c⟩
          exact ⟨fun _ => sim_ref h, fun c => absurd rfl c⟩
  · refine bk_no ha ⟨fun _ => rf_c1 ?_, fun c => absurd rfl c⟩
    refine mb_no ha ⟨fun _ => rf_m1 ?_, fun c => absurd rfl c⟩
    exact ⟨fun _ => sim_ref h, fun c => absurd rfl c⟩
