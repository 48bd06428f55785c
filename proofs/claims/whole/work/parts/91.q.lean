/-! Pure: the least hard way, its units -/
theorem fstN_min {p : Nat → Bool} : ∀ {k r s : Nat}, fstN p k r = some s → ∀ u, r ≤ u → u < s → ¬ p u = true
  | 0, r, s, h, _, _, _ => by rw [fstN] at h; exact absurd h (by simp)
  | k + 1, r, s, h, u, h1, h2 => by
    rw [fstN] at h
    by_cases c : p r = true
    · rw [if_pos c] at h
      have := Option.some.inj h
      omega
    · rw [if_neg c] at h
      by_cases e : u = r
      · rw [e]; exact c
      · exact fstN_min h u (by omega) h2
def gU (w h m : Nat → Nat) (k n u : Nat) : Nat := u * h k + lhC w h m (5 - k) (n - u * w k)
theorem lhC_s {w h m : Nat → Nat} {k n : Nat} (hk : k < 6) : lhC w h m (6 - k) n = mnU (gU w h m k n) (m k) := by
  rw [show 6 - k = (5 - k) + 1 by omega]
  show mnU (fun u => u * h (5 - (5 - k)) + lhC w h m (5 - k) (n - u * w (5 - (5 - k)))) (m (5 - (5 - k))) = _
  rw [show 5 - (5 - k) = k by omega]
  rfl
theorem lhC_fin {w h m : Nat → Nat} (b : ∀ j, j < 6 → m j ≤ 999 ∧ h j ≤ 99) : ∀ k n, k ≤ 6 → lhC w h m k n < 100000000 → lhC w h m k n ≤ k * 98901
  | 0, n, _, l => by
    have e : lhC w h m 0 n = if n = 0 then 0 else 100000000 := rfl
    rw [e] at l ⊢
    by_cases c : n = 0
    · rw [if_pos c]; omega
    · rw [if_neg c] at l; omega
  | k + 1, n, hk, l => by
    obtain ⟨u, hu, e⟩ := mnU_ex (fun u => u * h (5 - k) + lhC w h m k (n - u * w (5 - k))) (m (5 - k))
    have e2 : lhC w h m (k + 1) n = u * h (5 - k) + lhC w h m k (n - u * w (5 - k)) := e
    rw [e2] at l ⊢
    have b1 := b (5 - k) (by omega)
    have m1 : u * h (5 - k) ≤ 999 * 99 := Nat.mul_le_mul (by omega) b1.2
    have ih := lhC_fin (w := w) b k (n - u * w (5 - k)) (by omega)
    generalize u * h (5 - k) = a at l m1 ⊢
    generalize lhC w h m k (n - u * w (5 - k)) = c at l ih ⊢
    have := ih (by omega)
    omega
theorem mnU_0 {f : Nat → Nat} {s : Nat} (h : ∀ u, u ≤ s → f 0 ≤ f u) : mnU f s = f 0 := mnU_eq h ⟨0, Nat.zero_le _, rfl⟩
theorem lhC_mm {w h m m2 : Nat → Nat} (b : ∀ j, m2 j = if w j = 0 then 0 else m j) : ∀ k n, lhC w h m2 k n = lhC w h m k n
  | 0, _ => rfl
  | k + 1, n => by
    show mnU (fun u => u * h (5 - k) + lhC w h m2 k (n - u * w (5 - k))) (m2 (5 - k)) = mnU (fun u => u * h (5 - k) + lhC w h m k (n - u * w (5 - k))) (m (5 - k))
    rw [b (5 - k)]
    by_cases c : w (5 - k) = 0
    · rw [if_pos c, c]
      rw [mnU_0 (fun u _ => ?_), mnU_0 (fun u _ => ?_)]
      · show 0 * _ + lhC w h m2 k (n - 0 * 0) = 0 * _ + lhC w h m k (n - 0 * 0)
        rw [lhC_mm b k]
      · show 0 * _ + lhC w h m k (n - 0 * 0) ≤ u * _ + lhC w h m k (n - u * 0)
        rw [Nat.mul_zero, Nat.mul_zero, Nat.zero_mul]
        omega
      · show 0 * _ + lhC w h m2 k (n - 0 * 0) ≤ u * _ + lhC w h m2 k (n - u * 0)
        rw [Nat.mul_zero, Nat.mul_zero, Nat.zero_mul]
        omega
    · rw [if_neg c]
      refine mnU_congr (fun u _ => ?_)
      show _ + lhC w h m2 k _ = _ + lhC w h m k _
      rw [lhC_mm b k]
def fwN (w h m : Nat → Nat) (k n : Nat) : Nat := match fstN (fun u => decide (gU w h m k n u = lhC w h m (6 - k) n)) (m k + 1) 0 with
  | some u => u
  | none => 0
theorem fwN_ok {w h m : Nat → Nat} {k : Nat} (n : Nat) (hk : k < 6) : fwN w h m k n ≤ m k ∧ gU w h m k n (fwN w h m k n) = lhC w h m (6 - k) n ∧ ∀ u, u < fwN w h m k n → gU w h m k n u ≠ lhC w h m (6 - k) n := by
  obtain ⟨u, hu, e⟩ := mnU_ex (gU w h m k n) (m k)
  rw [← lhC_s hk] at e
  obtain ⟨s, es, _⟩ := fstN_ex (p := fun u => decide (gU w h m k n u = lhC w h m (6 - k) n)) (k := m k + 1) (r := 0) (j := u) (Nat.zero_le _) (by omega) (decide_eq_true e.symm)
  have ef : fwN w h m k n = s := by unfold fwN; rw [es]
  rw [ef]
  have l := fstN_lt es
  exact ⟨by omega, of_decide_eq_true l.2.2, fun v hv z => fstN_min es v (Nat.zero_le _) hv (decide_eq_true z)⟩
theorem fwN_eq {w h m : Nat → Nat} {k n b : Nat} (hk : k < 6) (h1 : gU w h m k n b = lhC w h m (6 - k) n) (h2 : ∀ u, u < b → gU w h m k n u ≠ lhC w h m (6 - k) n) : fwN w h m k n = b := by
  obtain ⟨f1, f2, f3⟩ := fwN_ok (w := w) (h := h) (m := m) n hk
  by_cases c : fwN w h m k n < b
  · exact absurd f2 (h2 _ c)
  · by_cases c2 : b < fwN w h m k n
    · exact absurd h1 (f3 _ c2)
    · omega
def owN (w h m : Nat → Nat) (T : Nat) : Nat → Nat
  | 0 => T
  | k + 1 => owN w h m T k - fwN w h m k (owN w h m T k) * w k
theorem owN_le {w h m : Nat → Nat} {T : Nat} : ∀ k, owN w h m T k ≤ T
  | 0 => Nat.le_refl _
  | k + 1 => Nat.le_trans (Nat.sub_le _ _) (owN_le k)
theorem owN_fin {w h m : Nat → Nat} {T : Nat} (f : lhC w h m 6 T < 100000000) : ∀ k, k ≤ 6 → lhC w h m (6 - k) (owN w h m T k) < 100000000
  | 0, _ => f
  | k + 1, hk => by
    have ih := owN_fin f k (by omega)
    have o := (fwN_ok (w := w) (h := h) (m := m) (owN w h m T k) (show k < 6 by omega)).2.1
    rw [← o] at ih
    unfold gU at ih
    rw [show 6 - (k + 1) = 5 - k by omega]
    show lhC w h m (5 - k) (owN w h m T k - fwN w h m k (owN w h m T k) * w k) < _
    omega
/-- the answer of least -/
def lhA (w h m : Nat → Nat) (T what : Nat) : Int32 := if lhC w h m 6 T < 100000000 then (if what = 6 then nI (lhC w h m 6 T) else nI (fwN w h m what (owN w h m T what))) else -9
theorem mx0 {a b : Nat} (ha : a < 2 ^ 30) (hb : b < 2 ^ 30) : (if (0 : Int32) < nI a - nI b then nI a - nI b else 0) = nI (a - b) := by
  by_cases c : b < a
  · rw [pk_sub (by omega), if_pos (show (0 : Int32) < nI (a - b) from nI_lt (a := 0) (b := a - b) (by omega) (by omega))]
  · rw [if_neg, show a - b = 0 by omega]
    · rfl
    · rw [Int32.lt_iff_toInt_lt, pk_sub_toInt ha hb, show ((0 : Int32)).toInt = 0 by decide]
      omega
theorem mn2 {a b : Nat} (ha : a < 2 ^ 31) (hb : b < 2 ^ 31) : (if nI a < nI b then nI a else nI b) = nI (min a b) := by
  by_cases c : a < b
  · rw [if_pos (nI_lt c hb), Nat.min_eq_left (by omega)]
  · rw [if_neg (nI_nlt (by omega) (by omega)), Nat.min_eq_right (by omega)]
