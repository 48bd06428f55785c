/-! rows of payings judged -/
def jw (row : Nat → Int32) (P : Nat → Nat → Nat) (F : Nat → Nat) (f : Nat) : Nat → Nat → (Nat → Nat) → (Nat → Nat) → Nat → Nat → Nat → Int32 × Nat
  | 0, _, _, _, _, _, tn => (-9, tn)
  | n + 1, i, td, sp, d, nb, tn =>
    if row i = 9 then jw row P F f n (i + 1) (fun _ => 0) sp (d + 1) (nbA td) tn
    else if row i = nI (row i).toNatClampNeg ∧ (row i).toNatClampNeg < 6 then
      (if opn P F f d nb td sp (row i).toNatClampNeg = 0 then (nI i, tn)
       else jw row P F f n (i + 1) (fun j => if j = (row i).toNatClampNeg then td (row i).toNatClampNeg + 1 else td j) (fun j => if j = (row i).toNatClampNeg then sp (row i).toNatClampNeg + 1 else sp j) d nb (tn + 1 * P (row i).toNatClampNeg 0))
    else (nI i, tn)
theorem jw_9 {row : Nat → Int32} {P : Nat → Nat → Nat} {F : Nat → Nat} {f n i d nb tn : Nat} {td sp : Nat → Nat} (c : row i = 9) : jw row P F f (n + 1) i td sp d nb tn = jw row P F f n (i + 1) (fun _ => 0) sp (d + 1) (nbA td) tn := by
  rw [jw, if_pos c]
theorem jw_k {row : Nat → Int32} {P : Nat → Nat → Nat} {F : Nat → Nat} {f n i d nb tn k : Nat} {td sp : Nat → Nat} (hk : k < 6) (c : row i = nI k) : jw row P F f (n + 1) i td sp d nb tn = if opn P F f d nb td sp k = 0 then (nI i, tn) else jw row P F f n (i + 1) (fun j => if j = k then td k + 1 else td j) (fun j => if j = k then sp k + 1 else sp j) d nb (tn + 1 * P k 0) := by
  have c2 : (row i).toNatClampNeg = k := by rw [c]; exact nI_clamp (by omega)
  rw [jw, c2, if_neg (by rw [c]; exact fun z => absurd ((nI_eq (b := 9) (by omega) (by decide)).mp z) (by omega)), if_pos ⟨c, hk⟩]
theorem jw_no {row : Nat → Int32} {P : Nat → Nat → Nat} {F : Nat → Nat} {f n i d nb tn : Nat} {td sp : Nat → Nat} (c9 : ¬ row i = 9) (c : ∀ j, j < 6 → row i ≠ nI j) : jw row P F f (n + 1) i td sp d nb tn = (nI i, tn) := by
  rw [jw, if_neg c9, if_neg (fun z => c _ z.2 z.1)]
theorem jw_cs {row : Nat → Int32} {P : Nat → Nat → Nat} {F : Nat → Nat} {f : Nat} : ∀ (n i : Nat) (td sp : Nat → Nat) (d nb tn : Nat), (jw row P F f n i td sp d nb tn).1 = -9 ∨ ∃ j, j < i + n ∧ (jw row P F f n i td sp d nb tn).1 = nI j
  | 0, _, _, _, _, _, _ => Or.inl rfl
  | n + 1, i, td, sp, d, nb, tn => by
    by_cases c9 : row i = 9
    · rw [jw_9 c9]
      rcases jw_cs (row := row) (P := P) (F := F) (f := f) n (i + 1) (fun _ => 0) sp (d + 1) (nbA td) tn with e | ⟨j, h, e⟩
      · exact Or.inl e
      · exact Or.inr ⟨j, by omega, e⟩
    rcases db_cs (row i) 6 with ⟨k, hk, ek⟩ | no
    · rw [jw_k hk ek]
      by_cases o : opn P F f d nb td sp k = 0
      · rw [if_pos o]; exact Or.inr ⟨i, by omega, rfl⟩
      · rw [if_neg o]
        rcases jw_cs (row := row) (P := P) (F := F) (f := f) n (i + 1) (fun j => if j = k then td k + 1 else td j) (fun j => if j = k then sp k + 1 else sp j) d nb (tn + 1 * P k 0) with e | ⟨j, h, e⟩
        · exact Or.inl e
        · exact Or.inr ⟨j, by omega, e⟩
    · rw [jw_no c9 no]; exact Or.inr ⟨i, by omega, rfl⟩
def JI (P : Nat → Nat → Nat) (f : Nat) (td sp : Nat → Nat) : Prop := ∀ k, k < 6 → td k ≤ pdP P f k ∧ sp k ≤ P k 3
theorem JI.step {P : Nat → Nat → Nat} {F : Nat → Nat} {f d nb k : Nat} {td sp : Nat → Nat} (h : JI P f td sp) (o : ¬ opn P F f d nb td sp k = 0) : JI P f (fun j => if j = k then td k + 1 else td j) (fun j => if j = k then sp k + 1 else sp j) := by
  intro j hj
  have b := h j hj
  show (if j = k then td k + 1 else td j) ≤ _ ∧ (if j = k then sp k + 1 else sp j) ≤ _
  by_cases e : j = k
  · subst e
    rw [if_pos rfl, if_pos rfl]
    unfold opn at o
    by_cases g : brd F d nb j
    · rw [if_pos g] at o; exact absurd rfl o
    · rw [if_neg g] at o
      omega
  · rw [if_neg e, if_neg e]; exact b
theorem cl_firstBarred {X : db_St} {Q : Int32 → db_St → Prop} {P : Nat → Nat → Nat} {F : Nat → Nat} {f t : Nat} (h : PH X P F) (hf : f ≤ 99) (e : X.1 36 2 = nI f) (ht : t ≤ 100) (e4 : X.1 4 1 = nI t) (q : ∀ Z, O43 X Z → Z.1 43 6 = nI (jw (X.1 5) P F f t 0 (fun _ => 0) (fun _ => 0) 0 0 0).2 → Q (jw (X.1 5) P F f t 0 (fun _ => 0) (fun _ => 0) 0 0 0).1 Z) : wp_X3_firstBarred X Q := by
  refine cl_begin e (fun A oA cA => ?_)
  have go : ∀ n i, i + n = t → ∀ (B : db_St) (td sp : Nat → Nat) (d nb tn : Nat), O43 X B → CSt B td sp f d nb tn → d ≤ i → nb ≤ 1 → JI P f td sp → (∀ Z, O43 X Z → Z.1 43 6 = nI (jw (X.1 5) P F f n i td sp d nb tn).2 → Q (jw (X.1 5) P F f n i td sp d nb tn).1 Z) → wp_X3_firstBarred_13 Q (n + 1) B (nI i) := by
    intro n
    induction n with
    | zero =>
      intro i ei B td sp d nb tn oB cB _ _ _ q2
      have e41 : B.1 4 1 = nI t := by rw [oB 4 1 (by omega)]; exact e4
      exact br_t (by rw [e41]; exact nI_le (by omega) (by omega)) (q2 B oB cB.2.2.2.2.2)
    | succ n ih =>
      intro i ei B td sp d nb tn oB cB hd hn hJ q
      have e41 : B.1 4 1 = nI t := by rw [oB 4 1 (by omega)]; exact e4
      have e5 : B.1 (4 + 1) (nI i).toNatClampNeg = X.1 5 i := by rw [nI_clamp (by omega)]; exact oB 5 i (by omega)
      have hB := oB.ph h
      refine br_f (by rw [e41]; exact nI_ge (by omega) (by omega)) (br_f (nI_pos (by omega)) (br_f (by rw [e41]; exact nI_ge (by omega) (by omega)) ⟨vp_in_nI (by omega) (by decide), ?_⟩))
      rw [e5]
      by_cases c9 : X.1 5 i = 9
      · rw [jw_9 c9] at q
        have b3 := (h.bd (f := f) (show 3 < 6 by decide) hf).1
        have b5 := (h.bd (f := f) (show 5 < 6 by decide) hf).1
        have j3 := (hJ 3 (by decide)).1
        have j5 := (hJ 5 (by decide)).1
        refine br_t c9 (cl_endDay cB (by omega) (by omega) (fun Z oZ cZ => ?_))
        rw [nI_1]
        exact ih (i + 1) (by omega) Z _ _ _ _ _ (oB.trans oZ) cZ (by omega) (nbA_le _) (fun k hk => ⟨Nat.zero_le _, (hJ k hk).2⟩) q
      · refine br_f c9 ?_
        rcases db_cs (X.1 5 i) 6 with ⟨k, hk, ek⟩ | no
        · rw [jw_k hk ek] at q
          rw [ek]
          have b := h.bd (f := f) hk hf
          refine cl_open hB cB hk (by omega) hn hf (hJ k hk).1 (hJ k hk).2 ?_
          have ob : opn P F f d nb td sp k ≤ 999 := by
            unfold opn
            split
            · omega
            · omega
          by_cases o : opn P F f d nb td sp k = 0
          · rw [if_pos o] at q
            rw [o]
            exact br_f (by decide) (q B oB cB.2.2.2.2.2)
          · rw [if_neg o] at q
            refine br_t (nI_le (a := 1) (by omega) (by omega)) (cl_spend (u := 1) hB cB hk (fun Z oZ cZ => ?_))
            rw [nI_1]
            exact ih (i + 1) (by omega) Z _ _ _ _ _ (oB.trans oZ) cZ (by omega) hn (hJ.step o) q
        · rw [jw_no c9 no] at q
          exact kd_no no (br_t rfl (br_f (by decide) (q B oB cB.2.2.2.2.2)))
  exact ⟨_, go t 0 (by omega) A _ _ _ _ _ oA cA (Nat.le_refl _) (by omega) (fun _ _ => ⟨Nat.zero_le _, Nat.zero_le _⟩) q⟩
def OJ (X Y : db_St) : Prop := ∀ a j, a ≠ 98 → a ≠ 101 → ¬ (a = 90 ∧ j = 18) → Y.1 a j = X.1 a j
theorem OJ.rfl {X : db_St} : OJ X X := fun _ _ _ _ _ => Eq.refl _
theorem OJ.trans {X Y Z : db_St} (h : OJ X Y) (g : OJ Y Z) : OJ X Z := fun a j n m p => (g a j n m p).trans (h a j n m p)
theorem OJ.ph {X Y : db_St} {P : Nat → Nat → Nat} {F : Nat → Nat} (h : PH X P F) (o : OJ X Y) : PH Y P F := h.keep (fun j _ _ => o 92 j (by decide) (by decide) (by omega)) (fun j => o 37 j (by decide) (by decide) (by omega)) (o 36 1 (by decide) (by decide) (by omega))
theorem OJ.same {X Y : db_St} (o : OJ X Y) : Same X Y := ⟨fun c j _ => o c j (by omega) (by omega) (by omega), fun c j _ _ => o c j (by omega) (by omega) (by omega), fun c j _ _ => o c j (by omega) (by omega) (by omega), fun j _ => o 90 j (by omega) (by omega) (by omega), fun c j _ _ => o c j (by omega) (by omega) (by omega), fun j => o 100 j (by omega) (by omega) (by omega)⟩
theorem OJ.si8 {X Y Z : db_St} {j : Nat} {v : Int32} (o : OJ X Y) (e : Z = db_si Y 98 j v) : OJ X Z := fun a i h g p => by rw [e, db_si_na h]; exact o a i h g p
theorem OJ.si1 {X Y Z : db_St} {j : Nat} {v : Int32} (o : OJ X Y) (e : Z = db_si Y 101 j v) : OJ X Z := fun a i h g p => by rw [e, db_si_na g]; exact o a i h g p
theorem OJ.si0 {X Y Z : db_St} {v : Int32} (o : OJ X Y) (e : Z = db_si Y 90 18 v) : OJ X Z := fun a i h g p => by
  rw [e]
  by_cases c : a = 90
  · rw [db_si_nb (fun z => p ⟨c, z⟩)]; exact o a i h g p
  · rw [db_si_na c]; exact o a i h g p
def RJ (P : Nat → Nat → Nat) (Y : db_St) (td sp : Nat → Nat) (tn : Nat) : Prop := (∀ k, k < 6 → Y.1 101 k = nI (td k)) ∧ (∀ k, k < 6 → Y.1 98 k = nI (P k 3 - sp k)) ∧ Y.1 90 18 = nI tn
theorem mo_wrongAt {X : db_St} {Q : Int32 → db_St → Prop} {P : Nat → Nat → Nat} {F : Nat → Nat} {f t : Nat} {row : Nat → Int32} (h : PH X P F) (hf : f ≤ 99) (ef : X.1 92 309 = nI f) (ht : t ≤ 100) (e4 : X.1 90 17 = nI t) (er : ∀ j, j < t → X.1 100 j = row j) (q : ∀ Z, OJ X Z → Z.1 90 18 = nI (jw row P F f t 0 (fun _ => 0) (fun _ => 0) 0 0 0).2 → Q (jw row P F f t 0 (fun _ => 0) (fun _ => 0) 0 0 0).1 Z) : wp_X11_wrongAt X Q := by
  have go : ∀ n i, i + n = t → ∀ (B : db_St) (td sp : Nat → Nat) (d nb tn : Nat), OJ X B → RJ P B td sp tn → d ≤ i → nb ≤ 1 → JI P f td sp → (∀ Z, OJ X Z → Z.1 90 18 = nI (jw row P F f n i td sp d nb tn).2 → Q (jw row P F f n i td sp d nb tn).1 Z) → wp_X11_wrongAt_44 Q (n + 1) B (nI d) (nI nb) (nI i) := by
    intro n
    induction n with
    | zero =>
      intro i ei B td sp d nb tn oB cB _ _ _ q2
      have e41 : B.1 90 17 = nI t := by rw [oB 90 17 (by omega) (by omega) (by omega)]; exact e4
      exact br_t (by rw [e41]; exact nI_le (by omega) (by omega)) (q2 B oB cB.2.2)
    | succ n ih =>
      intro i ei B td sp d nb tn oB cB hd hn hJ q
      have e41 : B.1 90 17 = nI t := by rw [oB 90 17 (by omega) (by omega) (by omega)]; exact e4
      have e5 : B.1 100 (nI i).toNatClampNeg = row i := by rw [nI_clamp (by omega), oB 100 i (by omega) (by omega) (by omega)]; exact er i (by omega)
      have hB := OJ.ph h oB
      refine br_f (by rw [e41]; exact nI_ge (by omega) (by omega)) ⟨vp_in_nI (by omega) (by decide), ?_⟩
      rw [e5]
      by_cases c9 : row i = 9
      · rw [jw_9 c9] at q
        have clr : ∀ nb2, nb2 = nbA td → ∃ f_, wp_X11_wrongAt_97 (wp_X11_wrongAt_44 Q (n + 1)) Q f_ B (nI (d + 1)) (nI nb2) (nI i) (0 : Int32) := by
          intro nb2 e2
          have cl : ∀ m k, k + m = 6 → ∀ C, OJ X C → RJ P C (fun j => if j < k then 0 else td j) sp tn → wp_X11_wrongAt_97 (wp_X11_wrongAt_44 Q (n + 1)) Q (m + 1) C (nI (d + 1)) (nI nb2) (nI i) (nI k) := by
            intro m
            induction m with
            | zero =>
              intro k ek C oC rC
              have : k = 6 := by omega
              subst this
              refine br_t (by decide) ?_
              rw [nI_1, e2]
              exact ih (i + 1) (by omega) C (fun _ => 0) sp _ _ _ oC ⟨fun j hj => by rw [rC.1 j hj]; show nI (if j < 6 then 0 else td j) = _; rw [if_pos hj], rC.2.1, rC.2.2⟩ (by omega) (nbA_le _) (fun j hj => ⟨Nat.zero_le _, (hJ j hj).2⟩) q
            | succ m ih2 =>
              intro k ek C oC rC
              refine br_f (nI_ge (b := 6) (by omega) (by decide)) ⟨vp_in_nI (by omega) (by decide), fun D eD => ?_⟩
              rw [nI_clamp (by omega)] at eD
              rw [nI_1]
              refine ih2 (k + 1) (by omega) D (oC.si1 eD) ⟨fun j hj => ?_, fun j hj => by rw [eD, db_si_na (by decide)]; exact rC.2.1 j hj, by rw [eD, db_si_na (by decide)]; exact rC.2.2⟩
              rw [eD]
              show _ = nI (if j < k + 1 then 0 else td j)
              by_cases e1 : j = k
              · rw [e1, db_si_hit, if_pos (Nat.lt_succ_self k)]; rfl
              · rw [db_si_nb e1, rC.1 j hj]
                show nI (if j < k then 0 else td j) = _
                by_cases e3 : j < k
                · rw [if_pos e3, if_pos (by omega)]
                · rw [if_neg e3, if_neg (by omega)]
          exact ⟨_, cl 6 0 rfl B oB cB⟩
        have b3 := (h.bd (f := f) (show 3 < 6 by decide) hf).1
        have b5 := (h.bd (f := f) (show 5 < 6 by decide) hf).1
        have j3 := (hJ 3 (by decide)).1
        have j5 := (hJ 5 (by decide)).1
        refine br_t c9 ?_
        rw [show ((3 : Int32)).toNatClampNeg = 3 by decide, show ((5 : Int32)).toNatClampNeg = 5 by decide, cB.1 3 (by decide), cB.1 5 (by decide), nI_1]
        by_cases g3 : 0 < td 3
        · exact br_t (nI_lt (a := 0) g3 (by omega)) (clr 1 (by unfold nbA; rw [if_pos (Or.inl g3)]))
        · refine br_f (nI_nlt (a := 0) (b := td 3) (by omega) (by decide)) ?_
          by_cases g5 : 0 < td 5
          · exact br_f (nI_nle g5 (by omega)) (clr 1 (by unfold nbA; rw [if_pos (Or.inr g5)]))
          · exact br_t (nI_le (b := 0) (by omega) (by decide)) (clr 0 (by unfold nbA; rw [if_neg (fun z => z.elim g3 g5)]))
      · refine br_f c9 ?_
        rcases db_cs (row i) 6 with ⟨k, hk, ek⟩ | no
        rotate_left
        · rw [jw_no c9 no] at q
          exact in_no (N := 6) (by decide) (by decide) no (br_t rfl (q B oB cB.2.2))
        rw [jw_k hk ek] at q
        rw [ek]
        have b := h.bd (f := f) hk hf
        have ej := hJ k hk
        have vk : vp_in (nI k) 6 := vp_in_nI hk (by decide)
        have f01 := h.ft01 d
        have fe : ∀ R : Int32 → db_St → Prop, R (nI (F d)) B → wp_X11_isFeast B (nI d) R := fun R r => mo_isFeast hB.2.1 (by omega) (by rw [hB.2.2.2 d]; exact r)
        have stop : opn P F f d nb td sp k = 0 → Q (nI i) B := fun o => by
          rw [if_pos o] at q; exact q B oB cB.2.2
        refine in_yes (N := 6) (by decide) (by decide) hk (br_f (by decide) ⟨vk, mo_perDay hB.1 hk (f := f) (by rw [oB 92 309 (by decide) (by decide) (by omega)]; exact ef) ?_⟩)
        rw [hB.pdq hk, nI_clamp (show k < 2 ^ 31 by omega), cB.1 k hk, cB.2.1 k hk]
        by_cases g1 : td k = pdP P f k
        · exact br_t (by rw [g1]) (stop (by unfold opn; split <;> omega))
        refine br_f (fun z => g1 ((nI_eq (by omega) (by omega)).mp z)) ⟨vk, ?_⟩
        by_cases g2 : P k 3 - sp k = 0
        · exact br_t (by rw [g2]; rfl) (stop (by unfold opn; split <;> omega))
        refine br_f (nI_ne0 (by omega) (by omega)) ?_
        have spend : ¬ brd F d nb k → (vp_in (nI k) 6 ∧ (vp_in (nI k) 6 ∧ (∀ X3, X3 = (db_si B 101 (nI k).toNatClampNeg ((B.1 101 (nI k).toNatClampNeg) + (1 : Int32))) → (vp_in (nI k) 6 ∧ (vp_in (nI k) 6 ∧ (∀ X6, X6 = (db_si X3 98 (nI k).toNatClampNeg ((X3.1 98 (nI k).toNatClampNeg) - (1 : Int32))) → wp_X11_pay X6 (nI k) (0 : Int32) (fun r7 X7 => (∀ X8, X8 = (db_si X7 90 18 ((X6.1 90 18) + r7)) → wp_X11_wrongAt_44 Q (n + 1) X8 (nI d) (nI nb) (nI i + (1 : Int32))))))))))  := by
          intro g
          have o : ¬ opn P F f d nb td sp k = 0 := by
            unfold opn; rw [if_neg g]; omega
          rw [if_neg o] at q
          refine ⟨vk, vk, fun C eC => ⟨vk, vk, fun D eD => ?_⟩⟩
          rw [nI_clamp (show k < 2 ^ 31 by omega)] at eC eD
          rw [cB.1 k hk, nI_1] at eC
          have c98 : C.1 98 k = nI (P k 3 - sp k) := by rw [eC, db_si_na (by decide)]; exact cB.2.1 k hk
          rw [c98, show nI (P k 3 - sp k) - 1 = nI (P k 3 - sp k - 1) from pk_sub (b := 1) (by omega)] at eD
          have oD : OJ X D := (oB.si1 eC).si8 eD
          have hD := OJ.ph h oD
          have d90 : D.1 90 18 = nI tn := by rw [eD, db_si_na (by decide), eC, db_si_na (by decide)]; exact cB.2.2
          refine mo_pay hD.1 hk (i := 0) (by decide) (fun G eG => ?_)
          rw [hD.2.2.1 k 0 hk (by decide), d90, nI_add] at eG
          rw [nI_1]
          refine ih (i + 1) (by omega) G _ _ _ _ _ (oD.si0 eG) ⟨fun j hj => ?_, fun j hj => ?_, ?_⟩ (by omega) hn (hJ.step o) q
          · rw [eG, db_si_na (by decide), eD, db_si_na (by decide), eC]
            show _ = nI (if j = k then td k + 1 else td j)
            by_cases e1 : j = k
            · rw [e1, db_si_hit, if_pos rfl]
            · rw [db_si_nb e1, if_neg e1]; exact cB.1 j hj
          · rw [eG, db_si_na (by decide), eD]
            show _ = nI (P j 3 - (if j = k then sp k + 1 else sp j))
            by_cases e1 : j = k
            · rw [e1, db_si_hit, if_pos rfl, Nat.sub_sub]
            · rw [db_si_nb e1, if_neg e1, eC, db_si_na (by decide)]; exact cB.2.1 j hj
          · rw [eG, db_si_hit, Nat.one_mul]
        have bar : brd F d nb k → Q (nI i) B := fun g => stop (by unfold opn; rw [if_pos g])
        have h176 : (k = 0 ∨ k = 5 → F d = 0) → wp_X11_wrongAt_176 (wp_X11_wrongAt_44 Q (n + 1)) Q B (nI d) (nI nb) (nI i) (nI k) := by
          intro nf
          by_cases k3 : k = 3
          · refine br_t (by rw [k3]; rfl) ?_
            rcases (show nb = 0 ∨ nb = 1 by omega) with e | e
            · refine br_t (by rw [e]; rfl) (spend (fun z => ?_))
              rcases of_decide_eq_true z with ⟨_, z⟩ | ⟨z, _⟩ <;> omega
            · exact br_f (by rw [e]; decide) (bar (decide_eq_true (Or.inl ⟨k3, e⟩)))
          · refine br_f (fun z => k3 ((nI_eq (b := 3) (by omega) (by decide)).mp z)) (spend (fun z => ?_))
            rcases of_decide_eq_true z with ⟨z, _⟩ | ⟨z, y⟩
            · omega
            · have := nf z; omega
        by_cases k0 : k = 0
        · refine br_t (by rw [k0]; rfl) (fe _ ?_)
          rcases f01 with e | e
          · rw [e]; exact br_t rfl (h176 (fun _ => e))
          · rw [e]; exact br_f (by decide) (bar (decide_eq_true (Or.inr ⟨Or.inl k0, e⟩)))
        refine br_f (fun z => k0 ((nI_eq (b := 0) (by omega) (by decide)).mp z)) ?_
        by_cases k5 : k = 5
        · refine br_t (by rw [k5]; rfl) (fe _ ?_)
          rcases f01 with e | e
          · rw [e]; exact br_t rfl (h176 (fun _ => e))
          · rw [e]; exact br_f (by decide) (bar (decide_eq_true (Or.inr ⟨Or.inr k5, e⟩)))
        exact br_f (fun z => k5 ((nI_eq (b := 5) (by omega) (by decide)).mp z)) (h176 (fun z => by omega))
  have fill : ∀ n i, i + n = 6 → ∀ A, OJ X A → (∀ k, k < i → A.1 98 k = nI (P k 3) ∧ A.1 101 k = nI 0) → wp_X11_wrongAt_2 Q (n + 1) A (nI i) := by
    intro n
    induction n with
    | zero =>
      intro i e A oA rA
      have : i = 6 := by omega
      subst this
      refine br_t (by decide) (fun Z eZ => ⟨_, go t 0 (by omega) Z (fun _ => 0) (fun _ => 0) 0 0 0 (oA.si0 eZ) ⟨fun k hk => ?_, fun k hk => ?_, ?_⟩ (Nat.le_refl _) (by omega) (fun _ _ => ⟨Nat.zero_le _, Nat.zero_le _⟩) q⟩)
      · rw [eZ, db_si_na (by decide)]; exact (rA k hk).2
      · rw [eZ, db_si_na (by decide)]; exact (rA k hk).1
      · rw [eZ, db_si_hit]; rfl
    | succ n ih =>
      intro i e A oA rA
      have hi : i < 6 := by omega
      have hA := OJ.ph h oA
      refine br_f (nI_ge (b := 6) hi (by decide)) (mo_pay hA.1 hi (i := 3) (by decide) ⟨vp_in_nI hi (by decide), fun Z eZ => ⟨vp_in_nI hi (by decide), fun V eV => ?_⟩⟩)
      rw [nI_clamp (by omega), hA.2.2.1 i 3 hi (by decide)] at eZ
      rw [nI_clamp (by omega)] at eV
      rw [nI_1]
      refine ih (i + 1) (by omega) V ((oA.si8 eZ).si1 eV) (fun k hk => ?_)
      by_cases e1 : k = i
      · rw [e1]
        exact ⟨by rw [eV, db_si_na (by decide), eZ, db_si_hit], by rw [eV, db_si_hit]; rfl⟩
      · have r := rA k (by omega)
        exact ⟨by rw [eV, db_si_na (by decide), eZ, db_si_nb e1]; exact r.1, by rw [eV, db_si_nb e1, eZ, db_si_na (by decide)]; exact r.2⟩
  exact ⟨_, fill 6 0 rfl X OJ.rfl (fun k hk => absurd hk (by omega))⟩
