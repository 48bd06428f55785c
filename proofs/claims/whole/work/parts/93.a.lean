/-! Pure: masks, lists of puttings, rings -/
def clr (C v : Nat) : Nat := C &&& (4095 ^^^ v)
theorem tb_bt (C i : Nat) : C.testBit i = true ↔ bt C i = 1 := by
  rw [Nat.testBit_eq_decide_div_mod_eq]
  exact ⟨fun z => of_decide_eq_true z, fun z => decide_eq_true z⟩
theorem tb_hi {C i : Nat} (hC : C < 4096) (hi : ¬ i < 12) : C.testBit i = false := Nat.testBit_lt_two_pow (Nat.lt_of_lt_of_le hC (Nat.pow_le_pow_right (n := 2) (by decide) (show 12 ≤ i by omega)))
theorem clr_tb {C v i : Nat} (hC : C < 4096) : (clr C v).testBit i = (C.testBit i && !v.testBit i) := by
  unfold clr
  rw [Nat.testBit_and, Nat.testBit_xor, show (4095 : Nat) = 2 ^ 12 - 1 by decide, Nat.testBit_two_pow_sub_one]
  by_cases c : i < 12
  · simp [c]
  · rw [tb_hi hC c]; simp
theorem clr_lt {C v : Nat} (hC : C < 4096) : clr C v < 4096 := Nat.lt_of_le_of_lt Nat.and_le_left hC
theorem nI_lor (a b : Nat) : nI a ||| nI b = nI (a ||| b) := by
  apply Int32.toBitVec_inj.mp
  exact (BitVec.ofNat_or (w := 32) (x := a) (y := b)).symm
theorem nI_clr {C v : Nat} (hC : C < 4096) : nI C &&& (nI v ^^^ (-1)) = nI (clr C v) := by
  have e : C &&& (v ^^^ 4294967295) = clr C v := by
    apply Nat.eq_of_testBit_eq
    intro i
    rw [clr_tb hC, Nat.testBit_and, Nat.testBit_xor, show (4294967295 : Nat) = 2 ^ 32 - 1 by decide, Nat.testBit_two_pow_sub_one]
    by_cases c : i < 12
    · simp [show i < 32 by omega]
    · rw [tb_hi hC c]; simp
  rw [show (-1 : Int32) = nI 4294967295 by decide, ← e]
  apply Int32.toBitVec_inj.mp
  show BitVec.ofNat 32 C &&& (BitVec.ofNat 32 v ^^^ BitVec.ofNat 32 4294967295) = BitVec.ofNat 32 (C &&& (v ^^^ 4294967295))
  rw [BitVec.ofNat_and, BitVec.ofNat_xor]
theorem sh12 : ∀ i : Fin 13, (1 : Int32) <<< (nI i.val &&& 31) = nI (2 ^ i.val) := by decide +kernel
theorem sh12' {i : Nat} (h : i < 13) : (1 : Int32) <<< (nI i &&& 31) = nI (2 ^ i) := sh12 ⟨i, h⟩
theorem ub12 {C i : Nat} (hC : C < 4096) (hi : i < 12) : (db_ushr (nI C) (nI i)) &&& (1 : Int32) = nI (bt C i) := by
  rw [db_ushrN (by omega) _ i (sh_u ⟨i, by omega⟩), pk_andN (Nat.lt_of_le_of_lt (Nat.div_le_self _ _) (by omega)) 1 (by decide)]
  rfl
def Pth (n : Nat) (p : Nat → Nat → Nat) : Nat → List Nat → Nat → Prop
  | k, [], e => k = e
  | k, i :: t, e => i < n ∧ p i 0 = k ∧ Pth n p (p i 2) t e
def nd (p : Nat → Nat → Nat) : List Nat → Prop
  | [] => True
  | i :: t => (∀ j, j ∈ t → p j 0 ≠ p i 0) ∧ nd p t
def mk : List Nat → Nat
  | [] => 0
  | i :: t => 2 ^ i ||| mk t
def pM (p : Nat → Nat → Nat) (c : Nat) : List Nat → Nat
  | [] => 1
  | i :: t => p i c * pM p c t
theorem Pth_app {n : Nat} {p : Nat → Nat → Nat} : ∀ {a b : List Nat} {k e : Nat}, Pth n p k (a ++ b) e ↔ ∃ j, Pth n p k a j ∧ Pth n p j b e
  | [], b, k, e => ⟨fun h => ⟨k, rfl, h⟩, fun ⟨j, h1, h2⟩ => by
    have h1 : k = j := h1
    rw [h1]; exact h2⟩
  | i :: a, b, k, e => by
    constructor
    · rintro ⟨h1, h2, h3⟩
      obtain ⟨j, g1, g2⟩ := Pth_app.mp h3
      exact ⟨j, ⟨h1, h2, g1⟩, g2⟩
    · rintro ⟨j, ⟨h1, h2, g1⟩, g2⟩
      exact ⟨h1, h2, Pth_app.mpr ⟨j, g1, g2⟩⟩
theorem nd_app {p : Nat → Nat → Nat} : ∀ {a b : List Nat}, nd p (a ++ b) ↔ nd p a ∧ nd p b ∧ ∀ x, x ∈ a → ∀ y, y ∈ b → p y 0 ≠ p x 0
  | [], b => ⟨fun h => ⟨trivial, h, fun x hx => by simp at hx⟩, fun h => h.2.1⟩
  | i :: a, b => by
    constructor
    · rintro ⟨h1, h2⟩
      obtain ⟨g1, g2, g3⟩ := nd_app.mp h2
      refine ⟨⟨fun j hj => h1 j (List.mem_append.mpr (Or.inl hj)), g1⟩, g2, fun x hx y hy => ?_⟩
      rcases List.mem_cons.mp hx with e | hx
      · rw [e]; exact h1 y (List.mem_append.mpr (Or.inr hy))
      · exact g3 x hx y hy
    · rintro ⟨⟨h1, g1⟩, g2, g3⟩
      refine ⟨fun j hj => ?_, nd_app.mpr ⟨g1, g2, fun x hx y hy => g3 x (List.mem_cons.mpr (Or.inr hx)) y hy⟩⟩
      rcases List.mem_append.mp hj with hj | hj
      · exact h1 j hj
      · exact g3 i (List.mem_cons.mpr (Or.inl rfl)) j hj
theorem mk_app : ∀ {a b : List Nat}, mk (a ++ b) = mk a ||| mk b
  | [], b => (Nat.zero_or _).symm
  | i :: a, b => by
    show 2 ^ i ||| mk (a ++ b) = (2 ^ i ||| mk a) ||| mk b
    rw [mk_app, Nat.or_assoc]
theorem pM_app {p : Nat → Nat → Nat} {c : Nat} : ∀ {a b : List Nat}, pM p c (a ++ b) = pM p c a * pM p c b
  | [], b => (Nat.one_mul _).symm
  | i :: a, b => by
    show p i c * pM p c (a ++ b) = (p i c * pM p c a) * pM p c b
    rw [pM_app, Nat.mul_assoc]
theorem mk_tb : ∀ {l : List Nat} {x : Nat}, (mk l).testBit x = true ↔ x ∈ l
  | [], x => by simp [mk]
  | i :: t, x => by
    show (2 ^ i ||| mk t).testBit x = true ↔ _
    rw [Nat.testBit_or, Nat.testBit_two_pow, Bool.or_eq_true, mk_tb, List.mem_cons]
    constructor
    · rintro (h | h)
      · exact Or.inl (of_decide_eq_true h).symm
      · exact Or.inr h
    · rintro (h | h)
      · exact Or.inl (decide_eq_true h.symm)
      · exact Or.inr h
theorem Pth_lt {n : Nat} {p : Nat → Nat → Nat} : ∀ {l : List Nat} {k e : Nat}, Pth n p k l e → ∀ x, x ∈ l → x < n
  | [], k, e, _, x, hx => by simp at hx
  | i :: t, k, e, h, x, hx => by
    rcases List.mem_cons.mp hx with c | c
    · rw [c]; exact h.1
    · exact Pth_lt h.2.2 x c
theorem mk_lt : ∀ {l : List Nat} {n : Nat}, (∀ x, x ∈ l → x < n) → mk l < 2 ^ n
  | [], n, _ => Nat.pow_pos (by decide)
  | i :: t, n, h => Nat.or_lt_two_pow (Nat.pow_lt_pow_right (by decide) (h i (List.mem_cons.mpr (Or.inl rfl)))) (mk_lt (fun x hx => h x (List.mem_cons.mpr (Or.inr hx))))
/-- a ring from s -/
def Rg (n : Nat) (p : Nat → Nat → Nat) (s : Nat) (l : List Nat) : Prop := l ≠ [] ∧ nd p l ∧ pM p 3 l < pM p 1 l ∧ Pth n p s l s
def isR (n : Nat) (p : Nat → Nat → Nat) (C : Nat) : Prop := ∃ s l, Rg n p s l ∧ C = mk l
theorem Rg_rot {n : Nat} {p : Nat → Nat → Nat} {s : Nat} {a t : List Nat} {i : Nat} (h : Rg n p s (a ++ i :: t)) : Rg n p (p i 0) (i :: t ++ a) ∧ mk (i :: t ++ a) = mk (a ++ i :: t) := by
  obtain ⟨_, h2, h3, h4⟩ := h
  obtain ⟨j, g1, g2⟩ := Pth_app.mp h4
  obtain ⟨n1, n2, n3⟩ := nd_app.mp h2
  have ej : p i 0 = j := g2.2.1
  refine ⟨⟨by simp, nd_app.mpr ⟨n2, n1, fun x hx y hy z => n3 y hy x hx z.symm⟩, ?_, ?_⟩, ?_⟩
  · rw [pM_app, pM_app] at h3 ⊢
    rw [Nat.mul_comm (pM p 3 (i :: t)), Nat.mul_comm (pM p 1 (i :: t))]
    exact h3
  · rw [ej]
    exact Pth_app.mpr ⟨s, g2, g1⟩
  · rw [mk_app, mk_app, Nat.or_comm]
theorem Rg_at {n : Nat} {p : Nat → Nat → Nat} {s i : Nat} {l : List Nat} (h : Rg n p s l) (hi : i ∈ l) : ∃ t, Rg n p (p i 0) (i :: t) ∧ mk (i :: t) = mk l := by
  obtain ⟨a, t, e⟩ := List.append_of_mem hi
  rw [e] at h ⊢
  exact ⟨t ++ a, Rg_rot h⟩
theorem min_from {p : Nat → Nat → Nat} : ∀ {l : List Nat}, l ≠ [] → ∃ i, i ∈ l ∧ ∀ j, j ∈ l → p i 0 ≤ p j 0
  | [], h => absurd rfl h
  | [i], _ => ⟨i, by simp, fun j hj => by rw [List.mem_singleton.mp hj]; exact Nat.le_refl _⟩
  | i :: j :: t, _ => by
    obtain ⟨x, h1, h2⟩ := min_from (p := p) (l := j :: t) (by simp)
    by_cases c : p i 0 ≤ p x 0
    · refine ⟨i, by simp, fun y hy => ?_⟩
      rcases List.mem_cons.mp hy with e | hy
      · rw [e]; exact Nat.le_refl _
      · exact Nat.le_trans c (h2 y hy)
    · refine ⟨x, List.mem_cons.mpr (Or.inr h1), fun y hy => ?_⟩
      rcases List.mem_cons.mp hy with e | hy
      · rw [e]; omega
      · exact h2 y hy
/-- what the search of rings finds from here -/
def Cx (n : Nat) (p : Nat → Nat → Nat) (s : Nat) : Nat → Nat → Nat → Nat → Nat → Nat → Nat → Prop
  | 0, k, _, B, m, w, C => ∃ i, i < n ∧ p i 0 = k ∧ p i 2 = s ∧ m * p i 3 < w * p i 1 ∧ C = B ||| 2 ^ i
  | d + 1, k, S, B, m, w, C => ∃ i, i < n ∧ p i 0 = k ∧ s < p i 2 ∧ bt S (p i 2) = 0 ∧ Cx n p s d (p i 2) (S + 2 ^ p i 2) (B ||| 2 ^ i) (m * p i 3) (w * p i 1) C
theorem Cx_to {n : Nat} {p : Nat → Nat → Nat} {s : Nat} (ok : OKP n p) : ∀ {d k S B m w C : Nat}, S < 64 → bt S k = 1 → Cx n p s d k S B m w C → ∃ i t, Pth n p k (i :: t) s ∧ nd p (i :: t) ∧ (∀ j, j ∈ t → bt S (p j 0) = 0) ∧ m * pM p 3 (i :: t) < w * pM p 1 (i :: t) ∧ C = B ||| mk (i :: t)
  | 0, k, S, B, m, w, C, hS, hk, h => by
    obtain ⟨i, h1, h2, h3, h4, h5⟩ := h
    refine ⟨i, [], ⟨h1, h2, h3⟩, ⟨fun j hj => by simp at hj, trivial⟩, fun j hj => by simp at hj, ?_, ?_⟩
    · show m * (p i 3 * 1) < w * (p i 1 * 1)
      rw [Nat.mul_one, Nat.mul_one]; exact h4
    · show C = B ||| (2 ^ i ||| 0)
      rw [Nat.or_zero]; exact h5
  | d + 1, k, S, B, m, w, C, hS, hk, h => by
    obtain ⟨i, h1, h2, h3, h4, h5⟩ := h
    have o := ok i h1
    have ad := bt_ad hS o.2.1 h4
    have b1 : bt (S + 2 ^ p i 2) (p i 2) = 1 := by rw [ad.2.1 _ o.2.1, if_pos rfl]
    obtain ⟨i2, t, g1, g2, g3, g4, g5⟩ := Cx_to ok (d := d) ad.1 b1 h5
    have all : ∀ j, j ∈ i2 :: t → bt S (p j 0) = 0 := fun j hj => by
      rcases List.mem_cons.mp hj with e | hj
      · rw [e, g1.2.1]; exact h4
      · have a := g3 j hj
        have jn := Pth_lt g1 j (List.mem_cons.mpr (Or.inr hj))
        rw [ad.2.1 _ (ok j jn).1] at a
        by_cases c : p j 0 = p i 2
        · rw [if_pos c] at a; omega
        · rw [if_neg c] at a; exact a
    refine ⟨i, i2 :: t, ⟨h1, h2, g1⟩, ⟨fun j hj z => ?_, g2⟩, all, ?_, ?_⟩
    · have a := all j hj
      rw [z, h2] at a; omega
    · show m * (p i 3 * pM p 3 (i2 :: t)) < w * (p i 1 * pM p 1 (i2 :: t))
      rw [← Nat.mul_assoc, ← Nat.mul_assoc]; exact g4
    · show C = B ||| (2 ^ i ||| mk (i2 :: t))
      rw [← Nat.or_assoc]; exact g5
theorem Cx_of {n : Nat} {p : Nat → Nat → Nat} {s : Nat} (ok : OKP n p) : ∀ {t : List Nat} {i k S B m w : Nat}, S < 64 → Pth n p k (i :: t) s → nd p (i :: t) → (∀ j, j ∈ t → s < p j 0 ∧ bt S (p j 0) = 0) → m * pM p 3 (i :: t) < w * pM p 1 (i :: t) → ∃ d, Cx n p s d k S B m w (B ||| mk (i :: t))
  | [], i, k, S, B, m, w, hS, h1, h2, h3, h4 => by
    have h4 : m * (p i 3 * 1) < w * (p i 1 * 1) := h4
    rw [Nat.mul_one, Nat.mul_one] at h4
    refine ⟨0, i, h1.1, h1.2.1, h1.2.2, h4, ?_⟩
    show B ||| (2 ^ i ||| 0) = _
    rw [Nat.or_zero]
  | j :: t, i, k, S, B, m, w, hS, h1, h2, h3, h4 => by
    have h4 : m * (p i 3 * pM p 3 (j :: t)) < w * (p i 1 * pM p 1 (j :: t)) := h4
    rw [← Nat.mul_assoc, ← Nat.mul_assoc] at h4
    have ej : p j 0 = p i 2 := h1.2.2.2.1
    have hj := h3 j (List.mem_cons.mpr (Or.inl rfl))
    rw [ej] at hj
    have o := ok i h1.1
    have ad := bt_ad hS o.2.1 hj.2
    obtain ⟨d, hd⟩ := Cx_of ok (t := t) (i := j) (k := p i 2) (S := S + 2 ^ p i 2) (B := B ||| 2 ^ i) (m := m * p i 3) (w := w * p i 1) ad.1 h1.2.2 h2.2 (fun x hx => by
      have a := h3 x (List.mem_cons.mpr (Or.inr hx))
      have xn := Pth_lt h1 x (List.mem_cons.mpr (Or.inr (List.mem_cons.mpr (Or.inr hx))))
      refine ⟨a.1, ?_⟩
      rw [ad.2.1 _ (ok x xn).1, if_neg (by rw [← ej]; exact h2.2.1 x hx)]
      exact a.2) h4
    refine ⟨d + 1, i, h1.1, h1.2.1, hj.1, hj.2, ?_⟩
    rw [show B ||| mk (i :: j :: t) = (B ||| 2 ^ i) ||| mk (j :: t) by rw [Nat.or_assoc]; rfl]
    exact hd
set_option maxRecDepth 100000 in
theorem bt_1 : ∀ s : Fin 6, (2 ^ s.val < 64) ∧ (∀ k : Fin 6, bt (2 ^ s.val) k.val = if k.val = s.val then 1 else 0) ∧ bcN 6 (2 ^ s.val) = 1 := by decide +kernel
/-- the reference's rings -/
theorem Cx_isR {n : Nat} {p : Nat → Nat → Nat} (ok : OKP n p) (C : Nat) : (∃ s, s < 6 ∧ ∃ d, Cx n p s d s (2 ^ s) 0 1 1 C) ↔ isR n p C := by
  constructor
  · rintro ⟨s, hs, d, h⟩
    have b := bt_1 ⟨s, hs⟩
    obtain ⟨i, t, g1, g2, g3, g4, g5⟩ := Cx_to ok b.1 (by rw [b.2.1 ⟨s, hs⟩, if_pos rfl]) h
    rw [Nat.one_mul, Nat.one_mul] at g4
    rw [Nat.zero_or] at g5
    exact ⟨s, i :: t, ⟨by simp, g2, g4, g1⟩, g5⟩
  · rintro ⟨s, l, h, e⟩
    obtain ⟨i, hi, mn⟩ := min_from (p := p) h.1
    obtain ⟨t, ⟨r1, r2, r3, r4⟩, et⟩ := Rg_at h hi
    have hn := Pth_lt r4
    have o := ok i (hn i (by simp))
    have b := bt_1 ⟨p i 0, o.1⟩
    have mem : ∀ j, j ∈ t → j ∈ l := fun j hj => by
      rw [← mk_tb, ← et, mk_tb]; exact List.mem_cons.mpr (Or.inr hj)
    obtain ⟨d, hd⟩ := Cx_of ok (S := 2 ^ p i 0) (B := 0) (m := 1) (w := 1) b.1 r4 r2 (fun j hj => by
      have ne := r2.1 j hj
      have le := mn j (mem j hj)
      refine ⟨by omega, ?_⟩
      rw [b.2.1 ⟨p j 0, (ok j (hn j (List.mem_cons.mpr (Or.inr hj)))).1⟩, if_neg ne]) (by rw [Nat.one_mul, Nat.one_mul]; exact r3)
    rw [Nat.zero_or, et, ← e] at hd
    exact ⟨p i 0, o.1, d, hd⟩
def sub (B C : Nat) : Prop := ∀ i, B.testBit i = true → C.testBit i = true
theorem bcN_sub : ∀ (k B C : Nat), (∀ i, i < k → B.testBit i = true → C.testBit i = true) → bcN k B ≤ bcN k C
  | 0, _, _, _ => Nat.le_refl _
  | k + 1, B, C, h => by
    rw [bcN, bcN]
    have ih := bcN_sub k (B / 2) (C / 2) (fun i hi hb => by
      rw [← Nat.testBit_succ] at hb ⊢
      exact h (i + 1) (by omega) hb)
    have h0 := h 0 (by omega)
    rw [Nat.testBit_zero, Nat.testBit_zero] at h0
    have h1 : B % 2 = 1 → C % 2 = 1 := fun z => of_decide_eq_true (h0 (decide_eq_true z))
    omega
