/-! the numbers of the payings, feasts -/
def pw (X : db_St) (k i : Nat) : Nat := (X.1 92 (234 + 4 * k + i)).toNatClampNeg
theorem pw_eq {X : db_St} (h : SimN 36 92 X) {k i : Nat} (hk : k < 6) (hi : i < 4) : X.1 92 (234 + 4 * k + i) = nI (pw X k i) ∧ X.1 37 (4 * k + i) = nI (pw X k i) ∧ pw X k i ≤ 999 ∧ (i = 0 → pw X k i ≤ 99) ∧ (i = 1 → pw X k i ≤ 99) ∧ (i = 2 → pw X k i ≤ 9) := by
  obtain ⟨v, h0, h1, h2, h3, h4, h5⟩ := h (4 * k + i) (by omega)
  have e : X.1 92 (234 + 4 * k + i) = nI v := by rw [show 234 + 4 * k + i = 234 + (4 * k + i) by omega]; exact h5
  have ev : pw X k i = v := by unfold pw; rw [e]; exact nI_clamp (by omega)
  rw [ev]
  exact ⟨e, h4, h0, fun z => h1 (by omega), fun z => h2 (by omega), fun z => h3 (by omega)⟩
theorem cl_number {X : db_St} {Q : Int32 → db_St → Prop} {k i : Nat} (h : SimN 36 92 X) (hk : k < 6) (hi : i < 4) (q : Q (nI (pw X k i)) X) : wp_X4_number X (nI k) (nI i) Q := by
  obtain ⟨h1, h2, _⟩ := pw_eq h hk hi
  unfold wp_X4_number
  rw [show (4 : Int32) = nI 4 by decide, pk_mul, nI_add]
  refine br_f (nI_pos (by omega)) (br_f (nI_ge (b := 24) (by omega) (by decide)) ⟨vp_in_nI (by omega) (by decide), ?_⟩)
  rw [nI_clamp (by omega), Nat.mul_comm k 4, h2]
  exact q
theorem mo_pay {X : db_St} {Q : Int32 → db_St → Prop} {k i : Nat} (h : SimN 36 92 X) (hk : k < 6) (hi : i < 4) (q : Q (nI (pw X k i)) X) : wp_X11_pay X (nI k) (nI i) Q := by
  obtain ⟨h1, h2, _⟩ := pw_eq h hk hi
  unfold wp_X11_pay
  rw [show (4 : Int32) = nI 4 by decide, show (234 : Int32) = nI 234 by decide, pk_mul, nI_add, nI_add]
  refine ⟨vp_in_nI (by omega) (by decide), ?_⟩
  rw [nI_clamp (by omega), h1]
  exact q
theorem sh_u : ∀ s : Fin 28, (((nI s.val).toUInt32 &&& Int32.toUInt32 31).toBitVec % 32).toNat = s.val := by decide +kernel
theorem sh_s : ∀ s : Fin 28, ((nI s.val &&& 31).toBitVec.smod 32).toNat = s.val := by decide +kernel
/-- whether a day is a feast -/
def ft (X : db_St) (d : Nat) : Nat := (X.1 92 308).toNatClampNeg / 2 ^ (d % 28) % 2
theorem ft_cs (X : db_St) (d : Nat) : ft X d = 0 ∨ ft X d = 1 := by
  unfold ft
  have := Nat.mod_lt ((X.1 92 308).toNatClampNeg / 2 ^ (d % 28)) (show 0 < 2 by decide)
  omega
theorem cl_isFeast {X : db_St} {Q : Int32 → db_St → Prop} {d : Nat} (h : SimF 36 92 X) (hd : d < 1000) (q : Q (nI (ft X d)) X) : wp_X4_isFeast X (nI d) Q := by
  obtain ⟨f, f0, f1, f2⟩ := h
  have hs : d % 28 < 28 := Nat.mod_lt _ (by decide)
  have ef : ft X d = f / 2 ^ (d % 28) % 2 := by unfold ft; rw [f2, nI_clamp (by omega)]
  have le : f / 2 ^ (d % 28) ≤ f := Nat.div_le_self _ _
  unfold wp_X4_isFeast
  rw [f1, show (28 : Int32) = nI 28 by decide, pk_rem (by omega) (by decide) (by decide), db_ushrN (by omega) _ (d % 28) (sh_u ⟨d % 28, hs⟩), pk_andN (by omega) 1 (by decide), show (2 : Nat) ^ 1 = 2 from rfl, ← ef]
  rcases ft_cs X d with e | e
  · rw [e] at q ⊢
    exact br_f (by decide) q
  · rw [e] at q ⊢
    exact br_t (by decide) q
theorem mo_isFeast {X : db_St} {Q : Int32 → db_St → Prop} {d : Nat} (h : SimF 36 92 X) (hd : d < 1000) (q : Q (nI (ft X d)) X) : wp_X11_isFeast X (nI d) Q := by
  obtain ⟨f, f0, f1, f2⟩ := h
  have hs : d % 28 < 28 := Nat.mod_lt _ (by decide)
  have ef : ft X d = f / 2 ^ (d % 28) % 2 := by unfold ft; rw [f2, nI_clamp (by omega)]
  have le : f / 2 ^ (d % 28) ≤ f := Nat.div_le_self _ _
  unfold wp_X11_isFeast
  rw [show ((308 : Int32)).toNatClampNeg = 308 by decide, f2, show (28 : Int32) = nI 28 by decide, pk_rem (by omega) (by decide) (by decide), pk_shrN (by omega) _ (d % 28) (sh_s ⟨d % 28, hs⟩), pk_andN (by omega) 1 (by decide), show (2 : Nat) ^ 1 = 2 from rfl, ← ef]
  rcases ft_cs X d with e | e
  · rw [e] at q ⊢
    exact br_f (by decide) q
  · rw [e] at q ⊢
    exact br_t (by decide) q
/-- units that may be paid of a kind in a day, with so many friends -/
def pd (X : db_St) (f k : Nat) : Nat := if k = 4 then f * (pw X 4 2 + 1) else pw X k 2
theorem pd_le {X : db_St} (h : SimN 36 92 X) {f k : Nat} (hk : k < 6) (hf : f ≤ 99) : pd X f k ≤ 990 := by
  unfold pd
  by_cases e : k = 4
  · rw [if_pos e]
    have := (pw_eq h (show 4 < 6 by decide) (show 2 < 4 by decide)).2.2.2.2.2 rfl
    exact Nat.le_trans (Nat.mul_le_mul hf (Nat.succ_le_succ this)) (by decide)
  · rw [if_neg e]
    have := (pw_eq h hk (show 2 < 4 by decide)).2.2.2.2.2 rfl
    omega
theorem cl_inADay {X : db_St} {Q : Int32 → db_St → Prop} {k f : Nat} (h : SimN 36 92 X) (hk : k < 6) (q : Q (nI (pd X f k)) X) : wp_X4_inADay X (nI k) (nI f) Q := by
  refine cl_number h hk (i := 2) (by decide) ?_
  unfold pd at q
  by_cases e : k = 4
  · rw [if_pos e] at q
    subst e
    refine br_t rfl ?_
    rw [nI_1, pk_mul]
    exact q
  · rw [if_neg e] at q
    exact br_f (fun z => e ((nI_eq (b := 4) (by omega) (by decide)).mp z)) q
theorem mo_perDay {X : db_St} {Q : Int32 → db_St → Prop} {k f : Nat} (h : SimN 36 92 X) (hk : k < 6) (ef : X.1 92 309 = nI f) (q : Q (nI (pd X f k)) X) : wp_X11_perDay X (nI k) Q := by
  unfold pd at q
  by_cases e : k = 4
  · rw [if_pos e] at q
    subst e
    refine br_t rfl (mo_pay h hk (i := 2) (by decide) ?_)
    rw [show ((309 : Int32)).toNatClampNeg = 309 by decide, ef, nI_1, pk_mul]
    exact q
  · rw [if_neg e] at q
    exact br_f (fun z => e ((nI_eq (b := 4) (by omega) (by decide)).mp z)) (mo_pay h hk (i := 2) (by decide) q)
theorem mo_lesser {X : db_St} {Q : Int32 → db_St → Prop} {a b : Nat} (ha : a < 2 ^ 31) (hb : b < 2 ^ 31) (q : Q (nI (min a b)) X) : wp_X11_lesser X (nI a) (nI b) Q := by
  by_cases c : b ≤ a
  · rw [Nat.min_eq_right c] at q
    exact br_t (nI_le c ha) q
  · rw [Nat.min_eq_left (by omega)] at q
    exact br_f (nI_ge (by omega) hb) q
/-- an array filled with one value -/
theorem cl_fill {X : db_St} {Q : db_St → Prop} {v : Int32} {q n : Nat} (hn : n < 2 ^ 31) (k : ∀ Y, (∀ c j, c ≠ q → Y.1 c j = X.1 c j) → (∀ j, j < n → Y.1 q j = v) → Q Y) : wp_J7_fill_53178 q n X v Q := by
  unfold wp_J7_fill_53178
  refine pk_loop (fun m i Y => wp_J7_fill_53178_5 q n Q m Y v (nI i) (Int32.ofNat n)) (fun i Y => (∀ c j, c ≠ q → Y.1 c j = X.1 c j) ∧ ∀ j, j < i → Y.1 q j = v) n 0 X (Nat.zero_le _) ⟨fun _ _ _ => rfl, fun _ h => absurd h (by omega)⟩ ?_ ?_
  · intro m Y ⟨h1, h2⟩
    exact br_t (nI_le (a := n) (Nat.le_refl _) hn) (k Y h1 h2)
  · intro m i Y hi ⟨h1, h2⟩ go
    refine br_f (nI_ge (b := n) hi hn) ⟨vp_in_nI hi hn, fun Z eZ => ?_⟩
    rw [nI_clamp (by omega)] at eZ
    rw [nI_1]
    refine go Z ⟨fun c j hc => ?_, fun j hj => ?_⟩
    · rw [eZ, db_si_na hc, h1 c j hc]
    · by_cases e : j = i
      · rw [eZ, e, db_si_hit]
      · rw [eZ, db_si_nb e, h2 j (by omega)]
