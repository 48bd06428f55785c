/-! The cells one by one, and the kinds of objects that come more than once. -/
def db_ushr (x y : Int32) : Int32 := (x.toUInt32 >>> (y.toUInt32 &&& Int32.toUInt32 31)).toInt32
def db_lushr (x : Int64) (y : Int32) : Int64 := (x.toUInt64 >>> (y.toInt64.toUInt64 &&& Int64.toUInt64 63)).toInt64
def db_lshl (x : Int64) (y : Int32) : Int64 := x <<< (y.toInt64 &&& 63)
def db_lshr (x : Int64) (y : Int32) : Int64 := x >>> (y.toInt64 &&& 63)
theorem db_s0 : db_sh 0 = .inr (10, [3, 4, 6, 8, 9, 38, 40, 45, 48, 51, 54, 56, 85, 87, 0]) := by decide +kernel
theorem db_s1 : db_sh 1 = .inl (0, 7) := by decide +kernel
theorem db_s2 : db_sh 2 = .inr (2, [5, 0]) := by decide +kernel
theorem db_s3 : db_sh 3 = .inl (1, 16) := by decide +kernel
theorem db_s4 : db_sh 4 = .inr (2, [7, 0]) := by decide +kernel
theorem db_s5 : db_sh 5 = .inl (1, 100) := by decide +kernel
theorem db_s6 : db_sh 6 = .inr (7, [4, 0, 0, 0, 0]) := by decide +kernel
theorem db_s7 : db_sh 7 = .inr (8, [10, 35, 36, 37, 0]) := by decide +kernel
theorem db_s8 : db_sh 8 = .inl (4, 6) := by decide +kernel
theorem db_s9 : db_sh 9 = .inr (0, [12, 13, 14, 0, 0, 0]) := by decide +kernel
theorem db_s10 : db_sh 10 = .inl (0, 10) := by decide +kernel
theorem db_s11 : db_sh 11 = .inl (0, 10) := by decide +kernel
theorem db_s12 : db_sh 12 = .inl (0, 10) := by decide +kernel
theorem db_s13 : db_sh 13 = .inr (0, [16, 17, 18, 0, 0, 0]) := by decide +kernel
theorem db_s14 : db_sh 14 = .inl (0, 10) := by decide +kernel
theorem db_s15 : db_sh 15 = .inl (0, 10) := by decide +kernel
theorem db_s16 : db_sh 16 = .inl (0, 10) := by decide +kernel
theorem db_s17 : db_sh 17 = .inr (0, [20, 21, 22, 0, 0, 0]) := by decide +kernel
theorem db_s18 : db_sh 18 = .inl (0, 10) := by decide +kernel
theorem db_s19 : db_sh 19 = .inl (0, 10) := by decide +kernel
theorem db_s20 : db_sh 20 = .inl (0, 10) := by decide +kernel
theorem db_s21 : db_sh 21 = .inr (0, [24, 25, 26, 0, 0, 0]) := by decide +kernel
theorem db_s22 : db_sh 22 = .inl (0, 10) := by decide +kernel
theorem db_s23 : db_sh 23 = .inl (0, 10) := by decide +kernel
theorem db_s24 : db_sh 24 = .inl (0, 10) := by decide +kernel
theorem db_s25 : db_sh 25 = .inr (0, [28, 29, 30, 0, 0, 0]) := by decide +kernel
theorem db_s26 : db_sh 26 = .inl (0, 10) := by decide +kernel
theorem db_s27 : db_sh 27 = .inl (0, 10) := by decide +kernel
theorem db_s28 : db_sh 28 = .inl (0, 10) := by decide +kernel
theorem db_s29 : db_sh 29 = .inr (0, [32, 33, 34, 0, 0, 0]) := by decide +kernel
theorem db_s30 : db_sh 30 = .inl (0, 10) := by decide +kernel
theorem db_s31 : db_sh 31 = .inl (0, 10) := by decide +kernel
theorem db_s32 : db_sh 32 = .inl (0, 10) := by decide +kernel
theorem db_s33 : db_sh 33 = .inl (0, 12) := by decide +kernel
theorem db_s34 : db_sh 34 = .inl (0, 12) := by decide +kernel
theorem db_s35 : db_sh 35 = .inl (0, 12) := by decide +kernel
theorem db_s36 : db_sh 36 = .inr (4, [39, 0, 0]) := by decide +kernel
theorem db_s37 : db_sh 37 = .inl (0, 24) := by decide +kernel
theorem db_s38 : db_sh 38 = .inr (5, [41, 42, 43, 44, 0]) := by decide +kernel
theorem db_s39 : db_sh 39 = .inl (0, 12) := by decide +kernel
theorem db_s40 : db_sh 40 = .inl (0, 12) := by decide +kernel
theorem db_s41 : db_sh 41 = .inl (0, 12) := by decide +kernel
theorem db_s42 : db_sh 42 = .inl (0, 12) := by decide +kernel
theorem db_s43 : db_sh 43 = .inr (3, [38, 46, 47, 0, 0, 0, 0]) := by decide +kernel
theorem db_s44 : db_sh 44 = .inl (0, 6) := by decide +kernel
theorem db_s45 : db_sh 45 = .inl (0, 6) := by decide +kernel
theorem db_s46 : db_sh 46 = .inr (1, [38, 49, 50]) := by decide +kernel
theorem db_s47 : db_sh 47 = .inl (0, 7007) := by decide +kernel
theorem db_s48 : db_sh 48 = .inl (0, 6) := by decide +kernel
theorem db_s49 : db_sh 49 = .inr (9, [40, 52, 53]) := by decide +kernel
theorem db_s50 : db_sh 50 = .inl (2, 384) := by decide +kernel
theorem db_s51 : db_sh 51 = .inl (2, 384) := by decide +kernel
theorem db_s52 : db_sh 52 = .inr (6, [40, 55]) := by decide +kernel
theorem db_s53 : db_sh 53 = .inl (3, 4096) := by decide +kernel
theorem db_s54 : db_sh 54 = .inr (8, [57, 82, 83, 84, 0]) := by decide +kernel
theorem db_s55 : db_sh 55 = .inl (4, 6) := by decide +kernel
theorem db_s56 : db_sh 56 = .inr (0, [59, 60, 61, 0, 0, 0]) := by decide +kernel
theorem db_s57 : db_sh 57 = .inl (0, 10) := by decide +kernel
theorem db_s58 : db_sh 58 = .inl (0, 10) := by decide +kernel
theorem db_s59 : db_sh 59 = .inl (0, 10) := by decide +kernel
theorem db_s60 : db_sh 60 = .inr (0, [63, 64, 65, 0, 0, 0]) := by decide +kernel
theorem db_s61 : db_sh 61 = .inl (0, 10) := by decide +kernel
theorem db_s62 : db_sh 62 = .inl (0, 10) := by decide +kernel
theorem db_s63 : db_sh 63 = .inl (0, 10) := by decide +kernel
theorem db_s64 : db_sh 64 = .inr (0, [67, 68, 69, 0, 0, 0]) := by decide +kernel
theorem db_s65 : db_sh 65 = .inl (0, 10) := by decide +kernel
theorem db_s66 : db_sh 66 = .inl (0, 10) := by decide +kernel
theorem db_s67 : db_sh 67 = .inl (0, 10) := by decide +kernel
theorem db_s68 : db_sh 68 = .inr (0, [71, 72, 73, 0, 0, 0]) := by decide +kernel
theorem db_s69 : db_sh 69 = .inl (0, 10) := by decide +kernel
theorem db_s70 : db_sh 70 = .inl (0, 10) := by decide +kernel
theorem db_s71 : db_sh 71 = .inl (0, 10) := by decide +kernel
theorem db_s72 : db_sh 72 = .inr (0, [75, 76, 77, 0, 0, 0]) := by decide +kernel
theorem db_s73 : db_sh 73 = .inl (0, 10) := by decide +kernel
theorem db_s74 : db_sh 74 = .inl (0, 10) := by decide +kernel
theorem db_s75 : db_sh 75 = .inl (0, 10) := by decide +kernel
theorem db_s76 : db_sh 76 = .inr (0, [79, 80, 81, 0, 0, 0]) := by decide +kernel
theorem db_s77 : db_sh 77 = .inl (0, 10) := by decide +kernel
theorem db_s78 : db_sh 78 = .inl (0, 10) := by decide +kernel
theorem db_s79 : db_sh 79 = .inl (0, 10) := by decide +kernel
theorem db_s80 : db_sh 80 = .inl (0, 12) := by decide +kernel
theorem db_s81 : db_sh 81 = .inl (0, 12) := by decide +kernel
theorem db_s82 : db_sh 82 = .inl (0, 12) := by decide +kernel
theorem db_s83 : db_sh 83 = .inr (4, [86, 0, 0]) := by decide +kernel
theorem db_s84 : db_sh 84 = .inl (0, 24) := by decide +kernel
theorem db_s85 : db_sh 85 = .inr (5, [88, 89, 90, 91, 0]) := by decide +kernel
theorem db_s86 : db_sh 86 = .inl (0, 12) := by decide +kernel
theorem db_s87 : db_sh 87 = .inl (0, 12) := by decide +kernel
theorem db_s88 : db_sh 88 = .inl (0, 12) := by decide +kernel
theorem db_s89 : db_sh 89 = .inl (0, 12) := by decide +kernel
theorem db_s90 : db_sh 90 = .inr (11, [93, 94, 95, 0, 96, 0, 0, 97, 98, 99, 100, 1, 1, 101, 0, 102, 103, 0, 0]) := by decide +kernel
theorem db_s91 : db_sh 91 = .inl (0, 7) := by decide +kernel
theorem db_s92 : db_sh 92 = .inl (0, 310) := by decide +kernel
theorem db_s93 : db_sh 93 = .inl (0, 310) := by decide +kernel
theorem db_s94 : db_sh 94 = .inl (0, 16) := by decide +kernel
theorem db_s95 : db_sh 95 = .inl (0, 7007) := by decide +kernel
theorem db_s96 : db_sh 96 = .inl (0, 6) := by decide +kernel
theorem db_s97 : db_sh 97 = .inl (0, 6) := by decide +kernel
theorem db_s98 : db_sh 98 = .inl (0, 6) := by decide +kernel
theorem db_s99 : db_sh 99 = .inl (0, 4096) := by decide +kernel
theorem db_s100 : db_sh 100 = .inl (0, 100) := by decide +kernel
theorem db_s101 : db_sh 101 = .inl (0, 6) := by decide +kernel
def db_kBook (q : Nat) : Prop := q + 3 < 102 ∧ db_sh q = .inr (0, [q + 3, q + 4, q + 5, 0, 0, 0]) ∧ db_sh (q + 1) = .inl (0, 10) ∧ db_sh (q + 2) = .inl (0, 10) ∧ db_sh (q + 3) = .inl (0, 10)
theorem db_kBook_s0 {q : Nat} (h : db_kBook q) : db_sh q = .inr (0, [q + 3, q + 4, q + 5, 0, 0, 0]) := h.2.1
theorem db_kBook_l0 {q : Nat} (h : db_kBook q) : q < 102 := by have := h.1; omega
theorem db_kBook_s1 {q : Nat} (h : db_kBook q) : db_sh (q + 1) = .inl (0, 10) := h.2.2.1
theorem db_kBook_l1 {q : Nat} (h : db_kBook q) : q + 1 < 102 := by have := h.1; omega
theorem db_kBook_s2 {q : Nat} (h : db_kBook q) : db_sh (q + 2) = .inl (0, 10) := h.2.2.2.1
theorem db_kBook_l2 {q : Nat} (h : db_kBook q) : q + 2 < 102 := by have := h.1; omega
theorem db_kBook_s3 {q : Nat} (h : db_kBook q) : db_sh (q + 3) = .inl (0, 10) := h.2.2.2.2
theorem db_kBook_l3 {q : Nat} (h : db_kBook q) : q + 3 < 102 := by have := h.1; omega
def db_kBytes (q n : Nat) : Prop := q + 1 < 102 ∧ db_sh q = .inr (2, [q + 3, 0]) ∧ db_sh (q + 1) = .inl (1, n)
theorem db_kBytes_s0 {q n : Nat} (h : db_kBytes q n) : db_sh q = .inr (2, [q + 3, 0]) := h.2.1
theorem db_kBytes_l0 {q n : Nat} (h : db_kBytes q n) : q < 102 := by have := h.1; omega
theorem db_kBytes_s1 {q n : Nat} (h : db_kBytes q n) : db_sh (q + 1) = .inl (1, n) := h.2.2
theorem db_kBytes_l1 {q n : Nat} (h : db_kBytes q n) : q + 1 < 102 := by have := h.1; omega
def db_kPay (q : Nat) : Prop := q + 1 < 102 ∧ db_sh q = .inr (4, [q + 3, 0, 0]) ∧ db_sh (q + 1) = .inl (0, 24)
theorem db_kPay_s0 {q : Nat} (h : db_kPay q) : db_sh q = .inr (4, [q + 3, 0, 0]) := h.2.1
theorem db_kPay_l0 {q : Nat} (h : db_kPay q) : q < 102 := by have := h.1; omega
theorem db_kPay_s1 {q : Nat} (h : db_kPay q) : db_sh (q + 1) = .inl (0, 24) := h.2.2
theorem db_kPay_l1 {q : Nat} (h : db_kPay q) : q + 1 < 102 := by have := h.1; omega
def db_kPut (q : Nat) : Prop := q + 4 < 102 ∧ db_sh q = .inr (5, [q + 3, q + 4, q + 5, q + 6, 0]) ∧ db_sh (q + 1) = .inl (0, 12) ∧ db_sh (q + 2) = .inl (0, 12) ∧ db_sh (q + 3) = .inl (0, 12) ∧ db_sh (q + 4) = .inl (0, 12)
theorem db_kPut_s0 {q : Nat} (h : db_kPut q) : db_sh q = .inr (5, [q + 3, q + 4, q + 5, q + 6, 0]) := h.2.1
theorem db_kPut_l0 {q : Nat} (h : db_kPut q) : q < 102 := by have := h.1; omega
theorem db_kPut_s1 {q : Nat} (h : db_kPut q) : db_sh (q + 1) = .inl (0, 12) := h.2.2.1
theorem db_kPut_l1 {q : Nat} (h : db_kPut q) : q + 1 < 102 := by have := h.1; omega
theorem db_kPut_s2 {q : Nat} (h : db_kPut q) : db_sh (q + 2) = .inl (0, 12) := h.2.2.2.1
theorem db_kPut_l2 {q : Nat} (h : db_kPut q) : q + 2 < 102 := by have := h.1; omega
theorem db_kPut_s3 {q : Nat} (h : db_kPut q) : db_sh (q + 3) = .inl (0, 12) := h.2.2.2.2.1
theorem db_kPut_l3 {q : Nat} (h : db_kPut q) : q + 3 < 102 := by have := h.1; omega
theorem db_kPut_s4 {q : Nat} (h : db_kPut q) : db_sh (q + 4) = .inl (0, 12) := h.2.2.2.2.2
theorem db_kPut_l4 {q : Nat} (h : db_kPut q) : q + 4 < 102 := by have := h.1; omega
def db_kShelf (q : Nat) : Prop := q + 28 < 102 ∧ db_sh q = .inr (8, [q + 3, q + 28, q + 29, q + 30, 0]) ∧ db_sh (q + 1) = .inl (4, 6) ∧ db_sh (q + 26) = .inl (0, 12) ∧ db_sh (q + 27) = .inl (0, 12) ∧ db_sh (q + 28) = .inl (0, 12) ∧ ∀ j, j < 6 → db_kBook (q + 1 + 1 + 4 * j)
theorem db_kShelf_s0 {q : Nat} (h : db_kShelf q) : db_sh q = .inr (8, [q + 3, q + 28, q + 29, q + 30, 0]) := h.2.1
theorem db_kShelf_l0 {q : Nat} (h : db_kShelf q) : q < 102 := by have := h.1; omega
theorem db_kShelf_s1 {q : Nat} (h : db_kShelf q) : db_sh (q + 1) = .inl (4, 6) := h.2.2.1
theorem db_kShelf_l1 {q : Nat} (h : db_kShelf q) : q + 1 < 102 := by have := h.1; omega
theorem db_kShelf_s26 {q : Nat} (h : db_kShelf q) : db_sh (q + 26) = .inl (0, 12) := h.2.2.2.1
theorem db_kShelf_l26 {q : Nat} (h : db_kShelf q) : q + 26 < 102 := by have := h.1; omega
theorem db_kShelf_s27 {q : Nat} (h : db_kShelf q) : db_sh (q + 27) = .inl (0, 12) := h.2.2.2.2.1
theorem db_kShelf_l27 {q : Nat} (h : db_kShelf q) : q + 27 < 102 := by have := h.1; omega
theorem db_kShelf_s28 {q : Nat} (h : db_kShelf q) : db_sh (q + 28) = .inl (0, 12) := h.2.2.2.2.2.1
theorem db_kShelf_l28 {q : Nat} (h : db_kShelf q) : q + 28 < 102 := by have := h.1; omega
theorem db_bk_of {q : Nat} (h : db_kShelf q) {i : Int32} (hi : vp_in i 6) : db_kBook (q + 1 + 1 + 4 * i.toNatClampNeg) := h.2.2.2.2.2.2 _ (Nat.not_le.mp fun z => hi (Or.inr z))
theorem db_kk9 : db_kBook 9 := ⟨by decide, db_s9, db_s10, db_s11, db_s12⟩
theorem db_kk13 : db_kBook 13 := ⟨by decide, db_s13, db_s14, db_s15, db_s16⟩
theorem db_kk17 : db_kBook 17 := ⟨by decide, db_s17, db_s18, db_s19, db_s20⟩
theorem db_kk21 : db_kBook 21 := ⟨by decide, db_s21, db_s22, db_s23, db_s24⟩
theorem db_kk25 : db_kBook 25 := ⟨by decide, db_s25, db_s26, db_s27, db_s28⟩
theorem db_kk29 : db_kBook 29 := ⟨by decide, db_s29, db_s30, db_s31, db_s32⟩
theorem db_kk56 : db_kBook 56 := ⟨by decide, db_s56, db_s57, db_s58, db_s59⟩
theorem db_kk60 : db_kBook 60 := ⟨by decide, db_s60, db_s61, db_s62, db_s63⟩
theorem db_kk64 : db_kBook 64 := ⟨by decide, db_s64, db_s65, db_s66, db_s67⟩
theorem db_kk68 : db_kBook 68 := ⟨by decide, db_s68, db_s69, db_s70, db_s71⟩
theorem db_kk72 : db_kBook 72 := ⟨by decide, db_s72, db_s73, db_s74, db_s75⟩
theorem db_kk76 : db_kBook 76 := ⟨by decide, db_s76, db_s77, db_s78, db_s79⟩
theorem db_k7 : db_kShelf 7 := ⟨by decide, db_s7, db_s8, db_s33, db_s34, db_s35, fun j hj => by
  rcases (show j = 0 ∨ j = 1 ∨ j = 2 ∨ j = 3 ∨ j = 4 ∨ j = 5 by omega) with rfl | rfl | rfl | rfl | rfl | rfl
  · exact db_kk9
  · exact db_kk13
  · exact db_kk17
  · exact db_kk21
  · exact db_kk25
  · exact db_kk29⟩
theorem db_k54 : db_kShelf 54 := ⟨by decide, db_s54, db_s55, db_s80, db_s81, db_s82, fun j hj => by
  rcases (show j = 0 ∨ j = 1 ∨ j = 2 ∨ j = 3 ∨ j = 4 ∨ j = 5 by omega) with rfl | rfl | rfl | rfl | rfl | rfl
  · exact db_kk56
  · exact db_kk60
  · exact db_kk64
  · exact db_kk68
  · exact db_kk72
  · exact db_kk76⟩
theorem db_kb2 : db_kBytes 2 16 := ⟨by decide, db_s2, db_s3⟩
theorem db_kb4 : db_kBytes 4 100 := ⟨by decide, db_s4, db_s5⟩
theorem db_k36 : db_kPay 36 := ⟨by decide, db_s36, db_s37⟩
theorem db_k83 : db_kPay 83 := ⟨by decide, db_s83, db_s84⟩
theorem db_k38 : db_kPut 38 := ⟨by decide, db_s38, db_s39, db_s40, db_s41, db_s42⟩
theorem db_k85 : db_kPut 85 := ⟨by decide, db_s85, db_s86, db_s87, db_s88, db_s89⟩
