/-! Pure: least sums (a part of the least hard way), fractions in least terms. -/
def mnU (f : Nat → Nat) : Nat → Nat
  | 0 => f 0
  | s + 1 => min (mnU f s) (f (s + 1))
theorem mnU_le {f : Nat → Nat} {s u : Nat} (h : u ≤ s) : mnU f s ≤ f u := by
  induction s with
  | zero => rw [show u = 0 by omega]; exact Nat.le_refl _
  | succ s ih =>
    by_cases hu : u = s + 1
    · rw [hu]; exact Nat.min_le_right _ _
    · exact Nat.le_trans (Nat.min_le_left _ _) (ih (by omega))
theorem mnU_ex (f : Nat → Nat) (s : Nat) : ∃ u, u ≤ s ∧ mnU f s = f u := by
  induction s with
  | zero => exact ⟨0, Nat.le_refl _, rfl⟩
  | succ s ih =>
    obtain ⟨u, hu, e⟩ := ih
    by_cases h : mnU f s ≤ f (s + 1)
    · exact ⟨u, by omega, by show min _ _ = _; rw [Nat.min_eq_left h, e]⟩
    · exact ⟨s + 1, Nat.le_refl _, by show min _ _ = _; rw [Nat.min_eq_right (by omega)]⟩
theorem mnU_eq {f : Nat → Nat} {s v : Nat} (h1 : ∀ u, u ≤ s → v ≤ f u) (h2 : ∃ u, u ≤ s ∧ f u = v) : mnU f s = v := by
  obtain ⟨u, hu, e⟩ := h2
  obtain ⟨w, hw, e2⟩ := mnU_ex f s
  have a := mnU_le (f := f) hu
  have b := h1 w hw
  omega
theorem mnU_congr {f g : Nat → Nat} {s : Nat} (h : ∀ u, u ≤ s → f u = g u) : mnU f s = mnU g s := by
  induction s with
  | zero => exact h 0 (Nat.le_refl _)
  | succ s ih => show min _ _ = min _ _; rw [ih (fun u hu => h u (by omega)), h (s + 1) (Nat.le_refl _)]
/-- the sums up to s, and those p more: all up to s + p, where p isn't beyond s + 1 -/
theorem mnU_split {f : Nat → Nat} {s p : Nat} (h : p ≤ s + 1) : mnU f (s + p) = min (mnU f s) (mnU (fun u => f (p + u)) s) := by
  refine mnU_eq (fun u hu => ?_) ?_
  · by_cases hs : u ≤ s
    · exact Nat.le_trans (Nat.min_le_left _ _) (mnU_le hs)
    · have := mnU_le (f := fun u => f (p + u)) (s := s) (u := u - p) (by omega)
      refine Nat.le_trans (Nat.min_le_right _ _) (Nat.le_trans this ?_)
      show f (p + (u - p)) ≤ f u
      rw [show p + (u - p) = u by omega]
      exact Nat.le_refl _
  · by_cases c : mnU f s ≤ mnU (fun u => f (p + u)) s
    · rw [Nat.min_eq_left c]
      obtain ⟨u, hu, e⟩ := mnU_ex f s
      exact ⟨u, by omega, e.symm⟩
    · rw [Nat.min_eq_right (by omega)]
      obtain ⟨u, hu, e⟩ := mnU_ex (fun u => f (p + u)) s
      exact ⟨p + u, by omega, e.symm⟩
theorem mnU_add {f : Nat → Nat} (c s : Nat) : mnU (fun u => c + f u) s = c + mnU f s := by
  induction s with
  | zero => rfl
  | succ s ih =>
    show min (mnU (fun u => c + f u) s) (c + f (s + 1)) = c + min (mnU f s) (f (s + 1))
    rw [ih]; omega
/-- the least hardness at level k: w, h, m the worth, the hardness, the most units of each kind; 6 kinds -/
def lhC (w h m : Nat → Nat) : Nat → Nat → Nat
  | 0, n => if n = 0 then 0 else 100000000
  | k + 1, n => mnU (fun u => u * h (5 - k) + lhC w h m k (n - u * w (5 - k))) (m (5 - k))
theorem lhC_0 (w h m : Nat → Nat) : ∀ k, lhC w h m k 0 = 0
  | 0 => rfl
  | k + 1 => by
    refine mnU_eq (fun u _ => Nat.zero_le _) ⟨0, Nat.zero_le _, ?_⟩
    show 0 * _ + lhC w h m k (0 - _) = 0
    rw [Nat.zero_sub, lhC_0 w h m k]
    omega
theorem lhC_le (w h m : Nat → Nat) : ∀ k n, lhC w h m k n ≤ 100000000
  | 0, n => by show (if n = 0 then 0 else 100000000) ≤ _; split <;> omega
  | k + 1, n => by
    refine Nat.le_trans (mnU_le (u := 0) (Nat.zero_le _)) ?_
    show 0 * _ + lhC w h m k (n - 0 * _) ≤ _
    rw [Nat.zero_mul, Nat.zero_mul, Nat.zero_add, Nat.sub_zero]
    exact lhC_le w h m k n
theorem lhC_mono (w h m : Nat → Nat) : ∀ k a b, a ≤ b → lhC w h m k a ≤ lhC w h m k b
  | 0, a, b, hab => by
    show (if a = 0 then 0 else 100000000) ≤ (if b = 0 then 0 else 100000000)
    split <;> split <;> omega
  | k + 1, a, b, hab => by
    obtain ⟨u, hu, e⟩ := mnU_ex (fun u => u * h (5 - k) + lhC w h m k (b - u * w (5 - k))) (m (5 - k))
    show mnU _ _ ≤ mnU _ _
    rw [e]
    refine Nat.le_trans (mnU_le hu) ?_
    have := lhC_mono w h m k (a - u * w (5 - k)) (b - u * w (5 - k)) (by omega)
    show u * h (5 - k) + lhC w h m k (a - u * w (5 - k)) ≤ u * h (5 - k) + lhC w h m k (b - u * w (5 - k))
    omega
/-- one part more -/
theorem lh_part (w h : Nat) (T : Nat → Nat) {s p n : Nat} (hp : p ≤ s + 1) : mnU (fun u => u * h + T (n - u * w)) (s + p) = min (mnU (fun u => u * h + T (n - u * w)) s) (p * h + mnU (fun u => u * h + T ((n - p * w) - u * w)) s) := by
  rw [mnU_split hp, ← mnU_add]
  congr 1
  refine mnU_congr (fun u _ => ?_)
  show (p + u) * h + T (n - (p + u) * w) = p * h + (u * h + T (n - p * w - u * w))
  rw [Nat.add_mul, Nat.add_mul, Nat.sub_add_eq]
  omega
-- fractions
theorem fr_eq {a b c d : Nat} (hb : 0 < b) (hd : 0 < d) (h : a * d = c * b) : a / Nat.gcd a b = c / Nat.gcd c d ∧ b / Nat.gcd a b = d / Nat.gcd c d := by
  have k1 : ∀ x y z : Nat, 0 < z → (x * z) / Nat.gcd (x * z) (y * z) = x / Nat.gcd x y := fun x y z hz => by
    rw [Nat.gcd_mul_right, Nat.mul_div_mul_right _ _ hz]
  constructor
  · rw [← k1 a b d hd, ← k1 c d b hb, h, Nat.mul_comm d b]
  · rw [Nat.gcd_comm a b, Nat.gcd_comm c d, ← k1 b a d hd, ← k1 d c b hb, h, Nat.mul_comm b d]
/-- how many steps the greatest common divisor takes -/
def gcN : Nat → Nat → Nat → Nat × Nat
  | 0, a, b => (a, b)
  | n + 1, a, b => if b = 0 then (a, b) else gcN n b (a % b)
theorem gcN_ok : ∀ (k n a b : Nat), b < 2 ^ k → 2 * k ≤ n → gcN n a b = (Nat.gcd a b, 0)
  | 0, n, a, b, hb, hn => by
    have e : b = 0 := by simp at hb; exact hb
    subst e
    cases n with
    | zero => simp [gcN]
    | succ n => simp [gcN]
  | k + 1, n, a, b, hb, hn => by
    match n, hn with
    | n + 2, hn =>
      by_cases h0 : b = 0
      · subst h0; simp [gcN]
      · by_cases h1 : a % b = 0
        · have : Nat.gcd a b = b := by rw [Nat.gcd_comm, Nat.gcd_rec, h1, Nat.gcd_zero_left]
          rw [this]
          simp [gcN, h0, h1]
        · have hlt : a % b < b := Nat.mod_lt _ (by omega)
          have h2 : b % (a % b) < 2 ^ k := by
            have hp : 2 ^ (k + 1) = 2 * 2 ^ k := by rw [Nat.pow_succ]; omega
            have h3 : b % (a % b) < a % b := Nat.mod_lt _ (by omega)
            have h4 : b % (a % b) + (a % b) ≤ b := by
              have h5 := Nat.div_add_mod b (a % b)
              have h6 : 1 ≤ b / (a % b) := (Nat.one_le_div_iff (by omega)).mpr (by omega)
              have h7 : a % b ≤ (a % b) * (b / (a % b)) := Nat.le_mul_of_pos_right _ h6
              omega
            omega
          have ih := gcN_ok k n (a % b) (b % (a % b)) h2 (by omega)
          have e : gcN (n + 2) a b = gcN n (a % b) (b % (a % b)) := by
            rw [gcN, if_neg h0, gcN, if_neg h1]
          rw [e, ih]
          congr 1
          rw [Nat.gcd_comm (a % b) (b % (a % b)), ← Nat.gcd_rec (a % b) b, ← Nat.gcd_rec b a, Nat.gcd_comm b a]
