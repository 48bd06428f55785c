/-! a day of the course: spending, the day's end, the start -/
def O43 (X Y : db_St) : Prop := ∀ a j, (a < 43 ∨ 45 < a) → Y.1 a j = X.1 a j
theorem O43.rfl {X : db_St} : O43 X X := fun _ _ _ => Eq.refl _
theorem O43.trans {X Y Z : db_St} (h : O43 X Y) (g : O43 Y Z) : O43 X Z := fun a j n => (g a j n).trans (h a j n)
theorem O43.ph {X Y : db_St} {P : Nat → Nat → Nat} {F : Nat → Nat} (h : PH X P F) (o : O43 X Y) : PH Y P F := h.keep (fun j _ _ => o 92 j (by omega)) (fun j => o 37 j (by omega)) (o 36 1 (by omega))
theorem O43.same {X Y : db_St} (o : O43 X Y) : Same X Y := ⟨fun c j _ => o c j (by omega), fun c j _ _ => o c j (by omega), fun c j _ _ => o c j (by omega), fun j _ => o 90 j (by omega), fun c j _ _ => o c j (by omega), fun j => o 100 j (by omega)⟩
theorem cl_spend {Y : db_St} {Q : db_St → Prop} {P : Nat → Nat → Nat} {F : Nat → Nat} {k d nb f tn u : Nat} {td sp : Nat → Nat} (h : PH Y P F) (c : CSt Y td sp f d nb tn) (hk : k < 6) (q : ∀ Z, O43 Y Z → CSt Z (fun j => if j = k then td k + u else td j) (fun j => if j = k then sp k + u else sp j) f d nb (tn + u * P k 0) → Q Z) : wp_X3_spend Y (nI k) (nI u) Q := by
  obtain ⟨c1, c2, c3, c4, c5, c6⟩ := c
  have vk : vp_in (nI k) 6 := vp_in_nI hk (by decide)
  refine kd_yes hk (br_f (by decide) ⟨vk, vk, fun A eA => ⟨vk, vk, fun B eB => ?_⟩⟩)
  rw [nI_clamp (show k < 2 ^ 31 by omega)] at eA eB
  rw [c1 k hk, nI_add] at eA
  have a45 : A.1 45 k = nI (sp k) := by rw [eA, db_si_na (by decide), c2 k hk]
  rw [a45, nI_add] at eB
  have oA : O43 Y A := fun a j g => by rw [eA, db_si_na (by omega)]
  have oB : O43 Y B := fun a j g => by rw [eB, db_si_na (by omega)]; exact oA a j g
  have hB := O43.ph h oB
  refine cl_number hB.1 hk (i := 0) (by decide) (fun D eD => ?_)
  have b43 : ∀ j, B.1 43 j = Y.1 43 j := fun j => by rw [eB, db_si_na (by decide), eA, db_si_na (by decide)]
  rw [hB.2.2.1 k 0 hk (by decide), b43, c6, pk_mul, nI_add] at eD
  refine q D (fun a j g => by rw [eD, db_si_na (by omega)]; exact oB a j g) ⟨fun j hj => ?_, fun j hj => ?_, ?_, ?_, ?_, ?_⟩
  · rw [eD, db_si_na (by decide), eB, db_si_na (by decide), eA]
    show _ = nI (if j = k then td k + u else td j)
    by_cases e : j = k
    · rw [if_pos e, e, db_si_hit]
    · rw [if_neg e, db_si_nb e, c1 j hj]
  · rw [eD, db_si_na (by decide), eB]
    show _ = nI (if j = k then sp k + u else sp j)
    by_cases e : j = k
    · rw [if_pos e, e, db_si_hit]
    · rw [if_neg e, db_si_nb e, eA, db_si_na (by decide), c2 j hj]
  · rw [eD, db_si_nb (by decide), b43, c3]
  · rw [eD, db_si_nb (by decide), b43, c4]
  · rw [eD, db_si_nb (by decide), b43, c5]
  · rw [eD, db_si_hit]
def nbA (td : Nat → Nat) : Nat := if 0 < td 3 ∨ 0 < td 5 then 1 else 0
theorem cl_endDay {Y : db_St} {Q : db_St → Prop} {d nb f tn : Nat} {td sp : Nat → Nat} (c : CSt Y td sp f d nb tn) (h3 : td 3 < 2 ^ 31) (h5 : td 5 < 2 ^ 31) (q : ∀ Z, O43 Y Z → CSt Z (fun _ => 0) sp f (d + 1) (nbA td) tn → Q Z) : wp_X3_endDay Y Q := by
  obtain ⟨c1, c2, c3, c4, c5, c6⟩ := c
  have go : ∀ v, v = nbA td → ∀ A, A = db_si Y 43 5 (nI v) → wp_J7_fill_53178 44 6 A (0 : Int32) (fun X2 => (∀ X3, X3 = (db_si X2 43 4 ((X2.1 43 4) + (1 : Int32))) → Q X3)) := by
    intro v ev A eA
    refine cl_fill (by decide) (fun B b1 b2 D eD => ?_)
    have b4 : B.1 43 4 = nI d := by rw [b1 43 4 (by decide), eA, db_si_nb (by decide), c4]
    rw [b4, nI_1] at eD
    refine q D (fun a j g => by rw [eD, db_si_na (by omega), b1 a j (by omega), eA, db_si_na (by omega)]) ⟨fun j hj => ?_, fun j hj => ?_, ?_, ?_, ?_, ?_⟩
    · rw [eD, db_si_na (by decide), b2 j hj]; rfl
    · rw [eD, db_si_na (by decide), b1 45 j (by decide), eA, db_si_na (by decide), c2 j hj]
    · rw [eD, db_si_nb (by decide), b1 43 3 (by decide), eA, db_si_nb (by decide), c3]
    · rw [eD, db_si_hit]
    · rw [eD, db_si_nb (by decide), b1 43 5 (by decide), eA, db_si_hit, ev]
    · rw [eD, db_si_nb (by decide), b1 43 6 (by decide), eA, db_si_nb (by decide), c6]
  unfold wp_X3_endDay
  rw [show ((3 : Int32)).toNatClampNeg = 3 by decide, show ((5 : Int32)).toNatClampNeg = 5 by decide, c1 3 (by decide), c1 5 (by decide)]
  by_cases g3 : 0 < td 3
  · exact br_t (nI_lt (a := 0) g3 h3) (go 1 (by unfold nbA; rw [if_pos (Or.inl g3)]))
  · refine br_f (nI_nlt (a := 0) (b := td 3) (by omega) (by decide)) ?_
    by_cases g5 : 0 < td 5
    · exact br_f (nI_nle g5 h5) (go 1 (by unfold nbA; rw [if_pos (Or.inr g5)]))
    · exact br_t (nI_le (b := 0) (by omega) (by decide)) (go 0 (by unfold nbA; rw [if_neg (fun z => z.elim g3 g5)]))
theorem cl_begin {Y : db_St} {Q : db_St → Prop} {f : Nat} {x : Int32} (e : x = nI f) (q : ∀ Z, O43 Y Z → CSt Z (fun _ => 0) (fun _ => 0) f 0 0 0 → Q Z) : wp_X3_begin Y x Q := by
  unfold wp_X3_begin
  refine cl_fill (by decide) (fun A a1 a2 => cl_fill (by decide) (fun B b1 b2 C eC D eD E eE G eG => ?_))
  refine q G (fun a j g => by rw [eG, db_si_na (by omega), eE, db_si_na (by omega), eD, db_si_na (by omega), eC, db_si_na (by omega), b1 a j (by omega), a1 a j (by omega)]) ⟨fun j hj => ?_, fun j hj => ?_, ?_, ?_, ?_, ?_⟩
  · rw [eG, db_si_na (by decide), eE, db_si_na (by decide), eD, db_si_na (by decide), eC, db_si_na (by decide), b1 44 j (by decide), a2 j hj]; rfl
  · rw [eG, db_si_na (by decide), eE, db_si_na (by decide), eD, db_si_na (by decide), eC, db_si_na (by decide), b2 j hj]; rfl
  · rw [eG, db_si_nb (by decide), eE, db_si_nb (by decide), eD, db_si_nb (by decide), eC, db_si_hit, e]
  · rw [eG, db_si_nb (by decide), eE, db_si_nb (by decide), eD, db_si_hit]; rfl
  · rw [eG, db_si_nb (by decide), eE, db_si_hit]; rfl
  · rw [eG, db_si_hit]; rfl
