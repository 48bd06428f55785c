/-! Pure: ways of puttings, the least fraction -/
def bt (S k : Nat) : Nat := S / 2 ^ k % 2
set_option maxRecDepth 100000 in
theorem bt_ad0 : ∀ S : Fin 64, ∀ j : Fin 6, bt S.val j.val = 0 → S.val + 2 ^ j.val < 64 ∧ (∀ k : Fin 6, bt (S.val + 2 ^ j.val) k.val = if k.val = j.val then 1 else bt S.val k.val) ∧ bcN 6 (S.val + 2 ^ j.val) = bcN 6 S.val + 1 := by decide +kernel
theorem bt_ad {S j : Nat} (hS : S < 64) (hj : j < 6) (h : bt S j = 0) : S + 2 ^ j < 64 ∧ (∀ k, k < 6 → bt (S + 2 ^ j) k = if k = j then 1 else bt S k) ∧ bcN 6 (S + 2 ^ j) = bcN 6 S + 1 := by
  obtain ⟨a, b, c⟩ := bt_ad0 ⟨S, hS⟩ ⟨j, hj⟩ h
  exact ⟨a, fun k hk => b ⟨k, hk⟩, c⟩
theorem bt_cs (S k : Nat) : bt S k = 0 ∨ bt S k = 1 := by
  unfold bt
  have := Nat.mod_lt (S / 2 ^ k) (show 0 < 2 by decide)
  omega
set_option maxRecDepth 100000 in
theorem msk0 : ∀ S : Fin 64, ∀ t : Fin 6, (db_ushr (nI S.val) (nI t.val)) &&& (1 : Int32) = nI (bt S.val t.val) ∧ (bt S.val t.val = 0 → nI S.val ||| ((1 : Int32) <<< (nI t.val &&& 31)) = nI (S.val + 2 ^ t.val)) ∧ (nI S.val >>> (nI t.val &&& 31)) &&& (1 : Int32) = nI (bt S.val t.val) := by decide +kernel
theorem msk {S t : Nat} (hS : S < 64) (ht : t < 6) : (db_ushr (nI S) (nI t)) &&& (1 : Int32) = nI (bt S t) ∧ (bt S t = 0 → nI S ||| ((1 : Int32) <<< (nI t &&& 31)) = nI (S + 2 ^ t)) ∧ (nI S >>> (nI t &&& 31)) &&& (1 : Int32) = nI (bt S t) := msk0 ⟨S, hS⟩ ⟨t, ht⟩
/-- a least fraction of a family; b = 0: the family is empty -/
def lsF (A : Nat → Nat → Prop) (a b : Nat) : Prop := (b = 0 ∧ ∀ m w, ¬ A m w) ∨ (1 ≤ a ∧ 1 ≤ b ∧ a ≤ 24300000 ∧ b ≤ 24300000 ∧ A a b ∧ ∀ m w, A m w → a * w ≤ m * b)
theorem lsF.congr {A B : Nat → Nat → Prop} {a b : Nat} (h : lsF A a b) (e : ∀ m w, A m w ↔ B m w) : lsF B a b := by
  rcases h with ⟨h1, h2⟩ | ⟨h1, h2, h3, h4, h5, h6⟩
  · exact Or.inl ⟨h1, fun m w z => h2 m w ((e m w).mpr z)⟩
  · exact Or.inr ⟨h1, h2, h3, h4, (e a b).mp h5, fun m w z => h6 m w ((e m w).mpr z)⟩
theorem fr_tr {a b m w m2 w2 : Nat} (hb : 0 < b) (h1 : m * b ≤ a * w) (h2 : a * w2 ≤ m2 * b) : m * w2 ≤ m2 * w := by
  have e1 : b * (m * w2) = (m * b) * w2 := by rw [← Nat.mul_assoc, Nat.mul_comm b m]
  have e2 : (a * w) * w2 = (a * w2) * w := by rw [Nat.mul_assoc, Nat.mul_comm w w2, ← Nat.mul_assoc]
  have e3 : b * (m2 * w) = (m2 * b) * w := by rw [← Nat.mul_assoc, Nat.mul_comm b m2]
  refine Nat.le_of_mul_le_mul_left (c := b) ?_ hb
  rw [e1, e3]
  refine Nat.le_trans (Nat.mul_le_mul_right w2 h1) ?_
  rw [e2]
  exact Nat.mul_le_mul_right w h2
theorem lsF_join {A B : Nat → Nat → Prop} {a b m w : Nat} (hA : lsF A a b) (hB : lsF B m w) (hw : 1 ≤ w) : (b = 0 → lsF (fun x y => A x y ∨ B x y) m w) ∧ (1 ≤ b → m * b < a * w → lsF (fun x y => A x y ∨ B x y) m w) ∧ (1 ≤ b → ¬ m * b < a * w → lsF (fun x y => A x y ∨ B x y) a b) := by
  rcases hB with ⟨h1, _⟩ | ⟨b1, b2, b3, b4, b5, b6⟩
  · omega
  refine ⟨fun b0 => ?_, fun b1' l => ?_, fun b1' l => ?_⟩
  · rcases hA with ⟨_, a2⟩ | ⟨_, a2, _⟩
    · exact Or.inr ⟨b1, b2, b3, b4, Or.inr b5, fun x y z => z.elim (fun z => absurd z (a2 x y)) (b6 x y)⟩
    · omega
  · rcases hA with ⟨a1, _⟩ | ⟨a1, a2, a3, a4, a5, a6⟩
    · omega
    · exact Or.inr ⟨b1, b2, b3, b4, Or.inr b5, fun x y z => z.elim (fun z => fr_tr a2 (Nat.le_of_lt l) (a6 x y z)) (b6 x y)⟩
  · rcases hA with ⟨a1, _⟩ | ⟨a1, a2, a3, a4, a5, a6⟩
    · omega
    · exact Or.inr ⟨a1, a2, a3, a4, Or.inl a5, fun x y z => z.elim (a6 x y) (fun z => fr_tr b2 (Nat.le_of_not_lt l) (b6 x y z))⟩
theorem lsF_ext {A : Nat → Nat → Prop} {a b p q : Nat} (h : lsF A a b) (hb : 1 ≤ b) (hp : 1 ≤ p) (hq : 1 ≤ q) (la : a * p ≤ 24300000) (lb : b * q ≤ 24300000) : lsF (fun x y => ∃ m w, A m w ∧ x = m * p ∧ y = w * q) (a * p) (b * q) := by
  rcases h with ⟨h1, _⟩ | ⟨h1, h2, h3, h4, h5, h6⟩
  · omega
  refine Or.inr ⟨Nat.mul_pos h1 hp, Nat.mul_pos h2 hq, la, lb, ⟨a, b, h5, rfl, rfl⟩, fun x y ⟨m, w, z, ex, ey⟩ => ?_⟩
  rw [ex, ey, Nat.mul_mul_mul_comm a p w q, Nat.mul_mul_mul_comm m p b q]
  exact Nat.mul_le_mul_right _ (h6 m w z)
def lsA (part a b : Nat) : Int32 := if b = 0 then -9 else if part = 0 then nI (a / Nat.gcd a b) else nI (b / Nat.gcd a b)
theorem lsF_ans {A : Nat → Nat → Prop} {a b c d part : Nat} (h : lsF A a b) (g : lsF A c d) : lsA part a b = lsA part c d := by
  unfold lsA
  rcases h with ⟨h1, h0⟩ | ⟨h1, h2, h3, h4, h5, h6⟩
  · rcases g with ⟨g1, _⟩ | ⟨g1, g2, g3, g4, g5, g6⟩
    · rw [if_pos h1, if_pos g1]
    · exact absurd g5 (h0 _ _)
  · rcases g with ⟨g1, g0⟩ | ⟨g1, g2, g3, g4, g5, g6⟩
    · exact absurd h5 (g0 _ _)
    · have e := fr_eq h2 g2 (Nat.le_antisymm (h6 c d g5) (g6 a b h5))
      rw [if_neg (show ¬ b = 0 by omega), if_neg (show ¬ d = 0 by omega), e.1, e.2]
/-- n puttings p: 0 from, 1 owed, 2 to, 3 instead -/
def OKP (n : Nat) (p : Nat → Nat → Nat) : Prop := ∀ i, i < n → p i 0 < 6 ∧ p i 2 < 6 ∧ p i 0 ≠ p i 2 ∧ 1 ≤ p i 1 ∧ p i 1 ≤ 30 ∧ 1 ≤ p i 3 ∧ p i 3 ≤ 30
/-- ways of d puttings from FAST, through the set S, to k -/
def Wy (n : Nat) (p : Nat → Nat → Nat) : Nat → Nat → Nat → Nat → Nat → Prop
  | 0, S, k, m, w => S = 1 ∧ k = 0 ∧ m = 1 ∧ w = 1
  | d + 1, S, k, m, w => ∃ S1 m1 w1 i, Wy n p d S1 (p i 0) m1 w1 ∧ i < n ∧ p i 2 = k ∧ bt S1 k = 0 ∧ S = S1 + 2 ^ k ∧ m = m1 * p i 3 ∧ w = w1 * p i 1
theorem pw30 {m p c : Nat} (h : m * 30 ≤ 30 ^ c) (hp : p ≤ 30) : m * p * 30 ≤ 30 ^ (c + 1) := by
  rw [Nat.pow_succ]
  exact Nat.mul_le_mul_right 30 (Nat.le_trans (Nat.mul_le_mul_left m hp) h)
theorem Wy_ok {n : Nat} {p : Nat → Nat → Nat} (ok : OKP n p) : ∀ {d S k m w : Nat}, Wy n p d S k m w → S < 64 ∧ k < 6 ∧ bt S k = 1 ∧ 1 ≤ m ∧ 1 ≤ w ∧ m * 30 ≤ 30 ^ bcN 6 S ∧ w * 30 ≤ 30 ^ bcN 6 S
  | 0, S, k, m, w, h => by
    obtain ⟨rfl, rfl, rfl, rfl⟩ := h
    decide
  | d + 1, S, k, m, w, h => by
    obtain ⟨S1, m1, w1, i, h1, h2, h3, h4, h5, h6, h7⟩ := h
    obtain ⟨a1, a2, a3, a4, a5, a6, a7⟩ := Wy_ok ok h1
    obtain ⟨o1, o2, o3, o4, o5, o6, o7⟩ := ok i h2
    rw [h3] at o2
    obtain ⟨b1, b2, b3⟩ := bt_ad a1 o2 h4
    rw [h5, h6, h7, b3]
    refine ⟨b1, o2, ?_, Nat.mul_pos a4 o6, Nat.mul_pos a5 o4, pw30 a6 o7, pw30 a7 o5⟩
    rw [b2 k o2, if_pos rfl]
theorem b30 {m S : Nat} (h : m * 30 ≤ 30 ^ bcN 6 S) : m ≤ 24300000 := by
  have a : (30 : Nat) ^ bcN 6 S ≤ 30 ^ 6 := Nat.pow_le_pow_right (by decide) (bcN_le 6 S)
  have b : (30 : Nat) ^ 6 = 729000000 := by decide
  omega
def Wa (n : Nat) (p : Nat → Nat → Nat) (S k m w : Nat) : Prop := ∃ d, Wy n p d S k m w
/-- the ways known behind the sets below S and the first j puttings at S -/
def Wp (n : Nat) (p : Nat → Nat → Nat) (S j T k m w : Nat) : Prop := (T = 1 ∧ k = 0 ∧ m = 1 ∧ w = 1) ∨ ∃ S1 m1 w1 i, Wa n p S1 (p i 0) m1 w1 ∧ (S1 < S ∨ (S1 = S ∧ i < j)) ∧ i < n ∧ p i 2 = k ∧ bt S1 k = 0 ∧ T = S1 + 2 ^ k ∧ m = m1 * p i 3 ∧ w = w1 * p i 1
theorem Wp_Wa {n : Nat} {p : Nat → Nat → Nat} {S j T k m w : Nat} (h : Wp n p S j T k m w) : Wa n p T k m w := by
  rcases h with h | ⟨S1, m1, w1, i, ⟨d, h1⟩, h2, h3, h4, h5, h6, h7, h8⟩
  · exact ⟨0, h⟩
  · exact ⟨d + 1, S1, m1, w1, i, h1, h3, h4, h5, h6, h7, h8⟩
theorem Wp_full {n : Nat} {p : Nat → Nat → Nat} {S j T k m w : Nat} (hT : T ≤ S) : Wp n p S j T k m w ↔ Wa n p T k m w := by
  refine ⟨Wp_Wa, fun ⟨d, h⟩ => ?_⟩
  cases d with
  | zero => exact Or.inl h
  | succ d =>
    obtain ⟨S1, m1, w1, i, h1, h2, h3, h4, h5, h6, h7⟩ := h
    have : 0 < 2 ^ k := Nat.pow_pos (by decide)
    exact Or.inr ⟨S1, m1, w1, i, ⟨d, h1⟩, Or.inl (by omega), h2, h3, h4, h5, h6, h7⟩
theorem Wp_step {n : Nat} {p : Nat → Nat → Nat} {S j T k m w : Nat} (hj : j < n) : Wp n p S (j + 1) T k m w ↔ (Wp n p S j T k m w ∨ ((p j 2 = k ∧ bt S k = 0 ∧ T = S + 2 ^ k) ∧ ∃ m1 w1, Wa n p S (p j 0) m1 w1 ∧ m = m1 * p j 3 ∧ w = w1 * p j 1)) := by
  constructor
  · intro h
    rcases h with h | ⟨S1, m1, w1, i, h1, h2, h3, h4, h5, h6, h7, h8⟩
    · exact Or.inl (Or.inl h)
    · by_cases c : S1 = S ∧ i = j
      · obtain ⟨rfl, rfl⟩ := c
        exact Or.inr ⟨⟨h4, h5, h6⟩, m1, w1, h1, h7, h8⟩
      · exact Or.inl (Or.inr ⟨S1, m1, w1, i, h1, by omega, h3, h4, h5, h6, h7, h8⟩)
  · intro h
    rcases h with (h | ⟨S1, m1, w1, i, h1, h2, h3, h4, h5, h6, h7, h8⟩) | ⟨⟨h4, h5, h6⟩, m1, w1, h1, h7, h8⟩
    · exact Or.inl h
    · exact Or.inr ⟨S1, m1, w1, i, h1, by omega, h3, h4, h5, h6, h7, h8⟩
    · exact Or.inr ⟨S, m1, w1, j, h1, Or.inr ⟨rfl, by omega⟩, hj, h4, h5, h6, h7, h8⟩
theorem Wp_next {n : Nat} {p : Nat → Nat → Nat} {S T k m w : Nat} : Wp n p S n T k m w ↔ Wp n p (S + 1) 0 T k m w := by
  constructor
  · intro h
    rcases h with h | ⟨S1, m1, w1, i, h1, h2, h3, h4⟩
    · exact Or.inl h
    · exact Or.inr ⟨S1, m1, w1, i, h1, by omega, h3, h4⟩
  · intro h
    rcases h with h | ⟨S1, m1, w1, i, h1, h2, h3, h4⟩
    · exact Or.inl h
    · exact Or.inr ⟨S1, m1, w1, i, h1, by omega, h3, h4⟩
/-- ways on from a kind to the goal -/
def Ex (n : Nat) (p : Nat → Nat → Nat) (g : Nat) : Nat → Nat → Nat → Nat → Nat → Nat → Nat → Prop
  | 0, k, _, m, w, x, y => k = g ∧ x = m ∧ y = w
  | d + 1, k, S, m, w, x, y => k ≠ g ∧ ∃ i, i < n ∧ p i 0 = k ∧ bt S (p i 2) = 0 ∧ Ex n p g d (p i 2) (S + 2 ^ p i 2) (m * p i 3) (w * p i 1) x y
theorem Ex_Wa {n : Nat} {p : Nat → Nat → Nat} {g : Nat} : ∀ {d k S m w x y : Nat}, Wa n p S k m w → Ex n p g d k S m w x y → ∃ T, Wa n p T g x y
  | 0, k, S, m, w, x, y, h, e => by
    obtain ⟨e1, e2, e3⟩ := e
    rw [e1] at h
    rw [e2, e3]
    exact ⟨S, h⟩
  | d + 1, k, S, m, w, x, y, ⟨d1, h⟩, e => by
    obtain ⟨_, i, e1, e2, e3, e4⟩ := e
    rw [← e2] at h
    exact Ex_Wa (d := d) ⟨d1 + 1, S, m, w, i, h, e1, rfl, e3, rfl, rfl, rfl⟩ e4
theorem Ex_bt {n : Nat} {p : Nat → Nat → Nat} {g : Nat} (ok : OKP n p) (hg : g < 6) : ∀ {d k S m w x y : Nat}, S < 64 → Ex n p g (d + 1) k S m w x y → bt S g = 0
  | 0, k, S, m, w, x, y, _, e => by
    obtain ⟨_, i, e1, e2, e3, e4⟩ := e
    obtain ⟨e5, _⟩ := e4
    rw [e5] at e3; exact e3
  | d + 1, k, S, m, w, x, y, hS, e => by
    obtain ⟨_, i, e1, e2, e3, e4⟩ := e
    have b := bt_ad hS (ok i e1).2.1 e3
    have r := Ex_bt ok hg (d := d) b.1 e4
    rw [b.2.1 g hg] at r
    by_cases c : g = p i 2
    · rw [if_pos c] at r; omega
    · rw [if_neg c] at r; exact r
theorem Wy_Ex {n : Nat} {p : Nat → Nat → Nat} {g : Nat} (ok : OKP n p) (hg : g < 6) : ∀ {d S k m w e x y : Nat}, Wy n p d S k m w → Ex n p g e k S m w x y → ∃ e2, Ex n p g e2 0 1 1 1 x y
  | 0, S, k, m, w, e, x, y, h, q => by
    obtain ⟨rfl, rfl, rfl, rfl⟩ := h
    exact ⟨e, q⟩
  | d + 1, S, k, m, w, e, x, y, h, q => by
    obtain ⟨S1, m1, w1, i, h1, h2, h3, h4, h5, h6, h7⟩ := h
    have a := Wy_ok ok h1
    have o := ok i h2
    rw [h3] at o
    have b := bt_ad a.1 o.2.1 h4
    have ng : p i 0 ≠ g := fun z => by
      have a3 := a.2.2.1
      rw [z] at a3
      cases e with
      | zero =>
        obtain ⟨q1, _⟩ := q
        rw [q1] at h4; omega
      | succ e =>
        have r := Ex_bt ok hg (d := e) (by rw [h5]; exact b.1) q
        rw [h5, b.2.1 g hg] at r
        by_cases c : g = k
        · rw [if_pos c] at r; omega
        · rw [if_neg c] at r; omega
    refine Wy_Ex ok hg (d := d) (e := e + 1) h1 ⟨ng, i, h2, rfl, ?_, ?_⟩
    · rw [h3]; exact h4
    · rw [h3, ← h5, ← h6, ← h7]; exact q
