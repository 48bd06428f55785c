/-! rule: the reference's reading, and both -/
def OM (to : Nat) (X Y : db_St) : Prop := (∀ a j, a ≠ 90 → a ≠ 92 → Y.1 a j = X.1 a j) ∧ (∀ j, j ≠ 6 → Y.1 90 j = X.1 90 j) ∧ ∀ j, (j < to ∨ to + 3 ≤ j) → Y.1 92 j = X.1 92 j
theorem OM.rfl {to : Nat} {X : db_St} : OM to X X := ⟨fun _ _ _ _ => Eq.refl _, fun _ _ => Eq.refl _, fun _ _ => Eq.refl _⟩
theorem OM.trans {to : Nat} {X Y Z : db_St} (h : OM to X Y) (g : OM to Y Z) : OM to X Z := ⟨fun a j n m => (g.1 a j n m).trans (h.1 a j n m), fun j n => (g.2.1 j n).trans (h.2.1 j n), fun j n => (g.2.2 j n).trans (h.2.2 j n)⟩
theorem OM.at {to : Nat} {X Y Z : db_St} {v : Int32} (o : OM to X Y) (e : Z = db_si Y 90 6 v) : OM to X Z :=
  ⟨fun a i h h2 => by rw [e, db_si_na h]; exact o.1 a i h h2, fun j h => by rw [e, db_si_nb h]; exact o.2.1 j h, fun j h => by rw [e, db_si_na (by decide)]; exact o.2.2 j h⟩
theorem OM.to {to k : Nat} {X Y Z : db_St} {v : Int32} (o : OM to X Y) (hk : k < 3) (e : Z = db_si Y 92 (to + k) v) : OM to X Z :=
  ⟨fun a i h h2 => by rw [e, db_si_na h2]; exact o.1 a i h h2, fun j h => by rw [e, db_si_na (by decide)]; exact o.2.1 j h, fun j h => by rw [e, db_si_nb (by omega)]; exact o.2.2 j h⟩
theorem HM.om {to : Nat} {X Y : db_St} {c : Nat → Nat} {t : Nat} (h : HM X c t) (o : OM to X Y) : HM Y c t := by
  obtain ⟨h0, h1, h2, h3⟩ := h
  exact ⟨h0, (o.2.1 5 (by decide)).trans h1, fun i hi => by rw [o.1 94 i (by decide) (by decide)]; exact h2 i hi, h3⟩
theorem sign_mono {X : db_St} {Q R : Int32 → db_St → Prop} {c : Nat → Nat} {t i : Nat} (h : HM X c t) (hi : i < 100) (e : X.1 90 6 = nI i) (k : ∀ r, ChM c i r → Q r X → R r X) (q : wp_X11_sign X Q) : wp_X11_sign X R := by
  obtain ⟨h0, h1, h2, h3⟩ := h
  unfold wp_X11_sign at q ⊢
  rw [e, h1] at q ⊢
  by_cases g : t ≤ i
  · have g2 : ¬ nI i < nI t := nI_nlt g (by omega)
    exact br_f g2 (k _ (Or.inr ⟨h3 i g, Or.inl rfl⟩) (q.2 g2))
  · have g2 : nI i < nI t := nI_lt (by omega) (by omega)
    have q2 := q.1 g2
    refine br_t g2 ⟨q2.1, ?_⟩
    rw [nI_clamp (by omega)] at q2 ⊢
    exact k _ (h2 i (by omega)) q2.2
theorem mark_mono {X : db_St} {Q R : Int32 → db_St → Prop} {c : Nat → Nat} {i : Nat} {r : Int32} (h : ChM c i r) (k : ∀ v, (v = -9 ∨ ∃ j, j < 4 ∧ c i = sg j ∧ v = nI j) → Q v X → R v X) (q : wp_X11_markOf X r Q) : wp_X11_markOf X r R := by
  refine ⟨fun e => k _ (Or.inr ⟨0, by decide, (h.eq (v := 98) (by decide)).mp e, rfl⟩) (q.1 e), fun n0 => ⟨fun e => k _ (Or.inr ⟨1, by decide, (h.eq (v := 100) (by decide)).mp e, rfl⟩) ((q.2 n0).1 e), fun n1 => ⟨fun e => k _ (Or.inr ⟨2, by decide, (h.eq (v := 109) (by decide)).mp e, rfl⟩) (((q.2 n0).2 n1).1 e), fun n2 => ⟨fun e => k _ (Or.inr ⟨3, by decide, (h.eq (v := 114) (by decide)).mp e, rfl⟩) ((((q.2 n0).2 n1).2 n2).1 e), fun n3 => k _ (Or.inl rfl) ((((q.2 n0).2 n1).2 n2).2 n3)⟩⟩⟩⟩
theorem sg_inj {i j : Nat} (hi : i < 4) (hj : j < 4) (e : sg i = sg j) : i = j := by
  rcases (show i = 0 ∨ i = 1 ∨ i = 2 ∨ i = 3 by omega) with rfl | rfl | rfl | rfl <;> rcases (show j = 0 ∨ j = 1 ∨ j = 2 ∨ j = 3 by omega) with rfl | rfl | rfl | rfl <;> first | rfl | exact absurd e (by decide)
theorem mo_mark {X : db_St} {R : Int32 → db_St → Prop} {c : Nat → Nat} {i : Nat} {r : Int32} (h : ChM c i r) (k : ∀ v, (v = -9 ∨ ∃ j, j < 4 ∧ c i = sg j ∧ v = nI j) → R v X) : wp_X11_markOf X r R := by
  refine ⟨fun e => k _ (Or.inr ⟨0, by decide, (h.eq (v := 98) (by decide)).mp e, rfl⟩), fun n0 => ⟨fun e => k _ (Or.inr ⟨1, by decide, (h.eq (v := 100) (by decide)).mp e, rfl⟩), fun n1 => ⟨fun e => k _ (Or.inr ⟨2, by decide, (h.eq (v := 109) (by decide)).mp e, rfl⟩), fun n2 => ⟨fun e => k _ (Or.inr ⟨3, by decide, (h.eq (v := 114) (by decide)).mp e, rfl⟩), fun n3 => k _ (Or.inl rfl)⟩⟩⟩⟩
theorem mo_mark_at {X : db_St} {R : Int32 → db_St → Prop} {c : Nat → Nat} {i j : Nat} {r : Int32} (h : ChM c i r) (hj : j < 4) (e : c i = sg j) (k : R (nI j) X) : wp_X11_markOf X r R := by
  have er : r = nI (sg j) := (h.eq (sg_gM j hj).2).mpr e
  rw [er]
  rcases (show j = 0 ∨ j = 1 ∨ j = 2 ∨ j = 3 by omega) with rfl | rfl | rfl | rfl
  · exact br_t (by decide) k
  · exact br_f (by decide) (br_t (by decide) k)
  · exact br_f (by decide) (br_f (by decide) (br_t (by decide) k))
  · exact br_f (by decide) (br_f (by decide) (br_f (by decide) (br_t (by decide) k)))
def sgn (X : db_St) (t i : Nat) : Int32 := if i < t then X.1 94 i else -1
theorem mo_sgn {X : db_St} {Q : Int32 → db_St → Prop} {c : Nat → Nat} {t i : Nat} (h : HM X c t) (hi : i < 100) (e : X.1 90 6 = nI i) (q : ChM c i (sgn X t i) → Q (sgn X t i) X) : wp_X11_sign X Q := by
  obtain ⟨h0, h1, h2, h3⟩ := h
  unfold wp_X11_sign
  unfold sgn at q
  rw [e, h1]
  by_cases g : i < t
  · rw [if_pos g] at q
    refine br_t (nI_lt (by omega) (by omega)) ⟨vp_in_nI (by omega) (by decide), ?_⟩
    rw [nI_clamp (by omega)]
    exact q (h2 i (by omega))
  · rw [if_neg g] at q
    exact br_f (nI_nlt (by omega) (by omega)) (q (Or.inr ⟨h3 i (by omega), Or.inl rfl⟩))
theorem mo_days {X : db_St} {Q : Int32 → db_St → Prop} {c : Nat → Nat} {t to p0 : Nat} (h : HM X c t) (hto : to + 3 ≤ 310) (hp0 : p0 ≤ 10) (e : X.1 90 6 = nI p0) (e2 : X.1 92 (to + 2) = nI 0) (q0 : ((cd c 3 0 p0 0).1 = 0 ∨ ¬ (cd c 3 0 p0 0).2.1 = t) → ∀ Y, OM to X Y → Y.1 90 6 = nI (cd c 3 0 p0 0).2.1 → Q 0 Y) (q1 : ¬ ((cd c 3 0 p0 0).1 = 0 ∨ ¬ (cd c 3 0 p0 0).2.1 = t) → ∀ Y, OM to X Y → Y.1 92 to = X.1 92 to → Y.1 92 (to + 1) = X.1 92 (to + 1) → Y.1 92 (to + 2) = nI (cd c 3 0 p0 0).2.2 → Q 1 Y) : ∃ f_, wp_X11_reads_141 Q f_ X (nI to) (0 : Int32) := by
  have fin : ∀ n p y, n ≤ 3 → p ≤ 100 → ∀ Y, OM to X Y → Y.1 90 6 = nI p → Y.1 92 to = X.1 92 to → Y.1 92 (to + 1) = X.1 92 (to + 1) → Y.1 92 (to + 2) = nI y → (n, p, y) = cd c 3 0 p0 0 → ((nI n ≤ 0 → Q (0 : Int32) Y) ∧ (¬ (nI n ≤ 0) → (((Y.1 90 6) = (Y.1 90 5) → Q (1 : Int32) Y) ∧ (¬ (Y.1 90 6) = (Y.1 90 5) → Q (0 : Int32) Y)))) := by
    intro n p y hn hp Y oY y1 y2 y3 y4 ec
    rw [← ec] at q0 q1
    have y5 := (h.om oY).2.1
    have ht := h.1
    by_cases g : n = 0
    · exact br_t (by rw [g]; decide) (q0 (Or.inl g) Y oY y1)
    · refine br_f (nI_nle (by omega) (by omega)) ?_
      rw [y1, y5]
      by_cases g2 : p = t
      · exact br_t (by rw [g2]) (q1 (fun z => z.elim g (fun w => w g2)) Y oY y2 y3 y4)
      · exact br_f (fun z => g2 ((nI_eq (by omega) (by omega)).mp z)) (q0 (Or.inr g2) Y oY y1)
  have go : ∀ k n p y, n + k = 3 → p = p0 + n → ∀ Y, OM to X Y → Y.1 90 6 = nI p → Y.1 92 to = X.1 92 to → Y.1 92 (to + 1) = X.1 92 (to + 1) → Y.1 92 (to + 2) = nI y → cd c k n p y = cd c 3 0 p0 0 → wp_X11_reads_141 Q (k + 1) Y (nI to) (nI n) := by
    intro k
    induction k with
    | zero =>
      intro n p y en ep Y oY y1 y2 y3 y4 ec
      exact br_t (nI_le (a := 3) (by omega) (by omega)) (fin n p y (by omega) (by omega) Y oY y1 y2 y3 y4 ec)
    | succ k ih =>
      intro n p y en ep Y oY y1 y2 y3 y4 ec
      have hY := h.om oY
      rw [cd] at ec
      refine br_f (nI_ge (b := 3) (by omega) (by decide)) (mo_sgn hY (i := p) (by omega) y1 (fun hr => ?_))
      generalize er : sgn Y t p = r at hr ⊢
      by_cases g : 48 ≤ c p ∧ c p ≤ 57
      · rw [if_pos g] at ec
        have yes : ∀ (r : Int32), ChM c p r → r = nI (c p) := fun r hr => by
          rcases hr with ⟨er, h2⟩ | ⟨h3, _⟩
          · exact er
          · omega
        rw [yes r hr]
        refine br_f (nI_nlt (b := 48) g.1 (by omega)) (mo_sign hY (i := p) (by omega) y1 (fun r2 hr2 => ?_))
        rw [yes r2 hr2]
        have vt : vp_in (nI to + (2 : Int32)) 310 := by rw [show (2 : Int32) = nI 2 by decide, nI_add]; exact vp_in_nI (by omega) (by decide)
        have ct : (nI to + (2 : Int32)).toNatClampNeg = to + 2 := by rw [show (2 : Int32) = nI 2 by decide, nI_add]; exact nI_clamp (by omega)
        refine br_f (nI_nlt (a := 57) g.2 (by decide)) ⟨vt, mo_sign hY (i := p) (by omega) y1 (fun r3 hr3 => ⟨vt, fun Z eZ W eW => ?_⟩)⟩
        rw [ct, y4, yes r3 hr3, show (10 : Int32) = nI 10 by decide, pk_mul, nI_add, show (48 : Int32) = nI 48 by decide, pk_sub (by omega)] at eZ
        rw [nI_1]
        have oZ : OM to X Z := oY.to (k := 2) (by decide) eZ
        refine ih (n + 1) (p + 1) _ (by omega) (by omega) W (oZ.at eW) ?_ ?_ ?_ ?_ ec
        · rw [eW, db_si_hit, eZ, db_si_na (by decide), y1, nI_1]
        · rw [eW, db_si_na (by decide), eZ, db_si_nb (by omega), y2]
        · rw [eW, db_si_na (by decide), eZ, db_si_nb (by omega), y3]
        · rw [eW, db_si_na (by decide), eZ, db_si_hit]
      · rw [if_neg g] at ec
        have f := fin n p y (by omega) (by omega) Y oY y1 y2 y3 y4 ec
        have lo : r < (48 : Int32) ∨ (57 : Int32) < r := by
          rcases hr with ⟨er, h2⟩ | ⟨h1, h2 | ⟨v, v1, v2, v3⟩⟩
          · rw [er]
            by_cases g1 : 48 ≤ c p
            · exact Or.inr (nI_lt (a := 57) (by omega) (by omega))
            · exact Or.inl (nI_lt (b := 48) (by omega) (by decide))
          · rw [h2]; exact Or.inl (by decide)
          · rw [v3]; exact Or.inr (nI_lt (a := 57) (by omega) (by omega))
        by_cases g1 : r < (48 : Int32)
        · exact br_t g1 f
        · exact br_f g1 (mo_sgn hY (i := p) (by omega) y1 (fun _ => by rw [er]; exact br_t (lo.resolve_left g1) f))
  exact ⟨_, go 3 0 p0 0 rfl rfl X OM.rfl e rfl rfl e2 rfl⟩
theorem mo_marks {X : db_St} {Q : Int32 → db_St → Prop} {c : Nat → Nat} {t to : Nat} (h : HM X c t) (hto : to + 3 ≤ 310) (e : X.1 90 6 = nI 1) (e1 : X.1 92 (to + 1) = nI 0) (e2 : X.1 92 (to + 2) = nI 0) (q0 : ¬ c (cm c 4 0 1 0).1 = 58 → ∀ Y, OM to X Y → Y.1 90 6 = nI (cm c 4 0 1 0).1 → Q 0 Y) (q1 : c (cm c 4 0 1 0).1 = 58 → ∀ Y, OM to X Y → Y.1 90 6 = nI ((cm c 4 0 1 0).1 + 1) → Y.1 92 to = X.1 92 to → Y.1 92 (to + 1) = nI (cm c 4 0 1 0).2 → Y.1 92 (to + 2) = nI 0 → ∃ f_, wp_X11_reads_141 Q f_ Y (nI to) (0 : Int32)) : ∃ f_, wp_X11_reads_68 Q f_ X (nI to) (0 : Int32) := by
  have c1 : (nI to + (1 : Int32)).toNatClampNeg = to + 1 := by rw [nI_1]; exact nI_clamp (by omega)
  have v1 : vp_in (nI to + (1 : Int32)) 310 := by rw [nI_1]; exact vp_in_nI (by omega) (by decide)
  have go : ∀ k i p m, i + k = 4 → m < 2 ^ i → p ≤ i + 1 → ∀ Y, OM to X Y → Y.1 90 6 = nI p → Y.1 92 to = X.1 92 to → Y.1 92 (to + 1) = nI m → Y.1 92 (to + 2) = nI 0 → cm c k i p m = cm c 4 0 1 0 → ∃ f, wp_X11_reads_68 Q f Y (nI to) (nI i) := by
    intro k
    induction k with
    | zero =>
      intro i p m ei hm hp Y oY y1 y2 y3 y4 ec
      have hY := h.om oY
      rw [cm] at ec
      rw [← ec] at q0 q1
      refine ⟨1, mo_sign hY (i := p) (by omega) y1 (fun r hr => mo_mark hr (fun v hv => ?_))⟩
      refine br_t ?_ (mo_sign hY (i := p) (by omega) y1 (fun r2 hr2 => ?_))
      · rcases hv with hv | ⟨j, hj, _, hv⟩
        · rw [hv, show i = 4 by omega]; decide
        · rw [hv]; exact nI_lt (by omega) (by omega)
      · by_cases g : r2 = nI 58
        · refine br_t g (fun Z eZ => q1 ((hr2.eq (by decide)).mp g) Z (oY.at eZ) ?_ ?_ ?_ ?_)
          · rw [eZ, db_si_hit, y1, nI_1]
          · rw [eZ, db_si_na (by decide), y2]
          · rw [eZ, db_si_na (by decide), y3]
          · rw [eZ, db_si_na (by decide), y4]
        · exact br_f g (q0 (fun z => g ((hr2.eq (by decide)).mpr z)) Y oY y1)
    | succ k ih =>
      intro i p m ei hm hp Y oY y1 y2 y3 y4 ec
      have hY := h.om oY
      have pw : 2 ^ (i + 1) = 2 ^ i + 2 ^ i := by rw [Nat.pow_succ]; omega
      rw [cm] at ec
      by_cases g : c p = sg i
      · rw [if_pos g] at ec
        have nx : ∀ Z W : db_St, Z = db_si Y 92 (to + 1) (nI (m + 2 ^ i)) → W = db_si Z 90 6 (Z.1 90 6 + 1) → ∃ f, wp_X11_reads_68 Q f W (nI to) (nI (i + 1)) := by
          intro Z W eZ eW
          have oZ : OM to X Z := oY.to (k := 1) (by decide) eZ
          refine ih (i + 1) (p + 1) (m + 2 ^ i) (by omega) (by omega) (by omega) W (oZ.at eW) ?_ ?_ ?_ ?_ ec
          · rw [eW, db_si_hit, eZ, db_si_na (by decide), y1, nI_1]
          · rw [eW, db_si_na (by decide), eZ, db_si_nb (by omega), y2]
          · rw [eW, db_si_na (by decide), eZ, db_si_hit]
          · rw [eW, db_si_na (by decide), eZ, db_si_nb (by omega), y4]
        obtain ⟨f, hf⟩ := nx _ _ rfl rfl
        refine ⟨f + 1, mo_sign hY (i := p) (by omega) y1 (fun r hr => mo_mark_at hr (by omega) g ?_)⟩
        refine br_f (nI_nlt (Nat.le_refl _) (by omega)) (mo_sign hY (i := p) (by omega) y1 (fun r2 hr2 => mo_mark_at hr2 (by omega) g ⟨v1, v1, fun Z eZ W eW => ?_⟩))
        rw [c1, y3, nI_1, nI_pred, or_pw (by omega) hm] at eZ
        rw [nI_1]
        rw [eW, eZ]
        exact hf
      · rw [if_neg g] at ec
        obtain ⟨f, hf⟩ := ih (i + 1) p m (by omega) (by omega) (by omega) Y oY y1 y2 y3 y4 ec
        cases f with
        | zero => exact hf.elim
        | succ f =>
          refine ⟨f + 1, sign_mono hY (i := p) (by omega) y1 (fun r hr q => mark_mono hr (fun v hv q => ?_) q) hf⟩
          by_cases g2 : v < nI i
          · refine br_t g2 (q.1 ?_)
            rcases hv with hv | ⟨j, hj, _, hv⟩
            · rw [hv]; exact Int32.lt_of_lt_of_le (show (-9 : Int32) < nI 0 by decide) (nI_le (by omega) (by omega))
            · rw [hv] at g2 ⊢
              have := (nI_ltI (by omega) (by omega)).mp g2
              exact nI_lt (by omega) (by omega)
          · refine br_f g2 (q.2 ?_)
            rcases hv with hv | ⟨j, hj, hc, hv⟩
            · exact absurd (by rw [hv]; exact Int32.lt_of_lt_of_le (show (-9 : Int32) < nI 0 by decide) (nI_le (by omega) (by omega))) g2
            · rw [hv] at g2 ⊢
              have n1 : ¬ j < i := fun z => g2 (nI_lt z (by omega))
              have n2 : j ≠ i := fun z => g (by rw [hc, z])
              exact nI_nlt (by omega) (by omega)
  exact go 4 0 1 0 rfl (by decide) (by decide) X OM.rfl e rfl e1 e2 rfl
