/-! The bits of a number: one by one, and by halves. -/
def bcN : Nat → Nat → Nat
  | 0, _ => 0
  | k + 1, n => n % 2 + bcN k (n / 2)
theorem bcN_0 : ∀ k : Nat, bcN k 0 = 0
  | 0 => rfl
  | k + 1 => by rw [bcN, bcN_0 k]
theorem bcN_le : ∀ (k n : Nat), bcN k n ≤ k
  | 0, _ => Nat.le_refl _
  | k + 1, n => by rw [bcN]; have := bcN_le k (n / 2); omega
theorem bc_q {q : Nat} (k m : Nat) (h : q < 4) : bcN (k + 2) (q + 4 * m) = (q - q / 2) + bcN k m := by
  rw [bcN, bcN, show (q + 4 * m) / 2 / 2 = m by omega]
  omega
theorem bc_and (w : Nat) {a b c M : Nat} (ha : a < 2 ^ w) (hc : c < 2 ^ w) : (a + 2 ^ w * b) &&& (c + 2 ^ w * M) = (a &&& c) + 2 ^ w * (b &&& M) := by
  have h := (Nat.mod_add_div ((a + 2 ^ w * b) &&& (c + 2 ^ w * M)) (2 ^ w)).symm
  rw [Nat.and_mod_two_pow, Nat.and_div_two_pow, Nat.add_mul_mod_self_left, Nat.add_mul_mod_self_left, Nat.mod_eq_of_lt ha, Nat.mod_eq_of_lt hc, Nat.add_mul_div_left _ _ (Nat.two_pow_pos w), Nat.add_mul_div_left _ _ (Nat.two_pow_pos w), Nat.div_eq_of_lt ha, Nat.div_eq_of_lt hc, Nat.zero_add, Nat.zero_add] at h
  exact h
theorem bc_s1 {q n m : Nat} (M : Nat) (h : q < 4) (hm : m = 1 + 4 * M) : ((q + 4 * n) / 2) &&& m = q / 2 + 4 * ((n / 2) &&& M) := by
  have e : (q + 4 * n) / 2 = (q / 2 + 2 * (n % 2)) + 2 ^ 2 * (n / 2) := by omega
  have e2 : m = 1 + 2 ^ 2 * M := by omega
  rw [e, e2, bc_and 2 (by omega) (by decide)]
  have : (q / 2 + 2 * (n % 2)) &&& 1 = q / 2 := by
    rw [Nat.and_one_is_mod]; omega
  rw [this]
theorem bc_s1e {q m : Nat} (h : q < 4) (hm : m % 2 = 1) : (q / 2) &&& m = q / 2 := by
  rcases (show q / 2 = 0 ∨ q / 2 = 1 by omega) with e | e
  · rw [e, Nat.zero_and]
  · rw [e, Nat.and_comm, Nat.and_one_is_mod, hm]
theorem bc_s2 {a b n m : Nat} (M : Nat) (ha : a < 4) (hb : b < 4) (hm : m = 3 + 16 * M) : (a + 4 * (b + 4 * n)) &&& m = a + 16 * (n &&& M) := by
  have e : a + 4 * (b + 4 * n) = (a + 4 * b) + 2 ^ 4 * n := by omega
  have e2 : m = 3 + 2 ^ 4 * M := by omega
  rw [e, e2, bc_and 4 (by omega) (by decide), show (a + 4 * b) &&& 3 = (a + 4 * b) % 2 ^ 2 from Nat.and_two_pow_sub_one_eq_mod (a + 4 * b) 2]
  omega
theorem bc_s3 {a b n m : Nat} (M : Nat) (ha : a < 16) (hb : b < 16) (hm : m = 15 + 256 * M) : (a + 16 * (b + 16 * n)) &&& m = a + 256 * (n &&& M) := by
  have e : a + 16 * (b + 16 * n) = (a + 16 * b) + 2 ^ 8 * n := by omega
  have e2 : m = 15 + 2 ^ 8 * M := by omega
  rw [e, e2, bc_and 8 (by omega) (by decide), show (a + 16 * b) &&& 15 = (a + 16 * b) % 2 ^ 4 from Nat.and_two_pow_sub_one_eq_mod (a + 16 * b) 4]
  omega
theorem nI_and {a b : Nat} (ha : a < 2 ^ 31) (hb : b < 2 ^ 31) : nI a &&& nI b = nI (a &&& b) := by
  apply Int32.toBitVec_inj.mp
  apply BitVec.eq_of_toNat_eq
  have hc : a &&& b < 2 ^ 31 := Nat.and_lt_two_pow a hb
  rw [pk_tn (Nat.lt_trans hc (by decide)), Int32.toBitVec_and, BitVec.toNat_and, pk_tn (Nat.lt_trans ha (by decide)), pk_tn (Nat.lt_trans hb (by decide))]
theorem db_ushrN {n : Nat} (hn : n < 2 ^ 31) (s : Int32) (k : Nat) (hs : ((s.toUInt32 &&& Int32.toUInt32 31).toBitVec % 32).toNat = k) : db_ushr (nI n) s = nI (n / 2 ^ k) := pk_ushrN (Nat.lt_trans hn (by decide)) s k hs
theorem bc_n {n : Nat} (h : n < 268435456) : ∃ q0 q1 q2 q3 q4 q5 q6 q7 q8 q9 q10 q11 q12 q13 : Nat, q0 < 4 ∧ q1 < 4 ∧ q2 < 4 ∧ q3 < 4 ∧ q4 < 4 ∧ q5 < 4 ∧ q6 < 4 ∧ q7 < 4 ∧ q8 < 4 ∧ q9 < 4 ∧ q10 < 4 ∧ q11 < 4 ∧ q12 < 4 ∧ q13 < 4 ∧ n = q0 + 4 * (q1 + 4 * (q2 + 4 * (q3 + 4 * (q4 + 4 * (q5 + 4 * (q6 + 4 * (q7 + 4 * (q8 + 4 * (q9 + 4 * (q10 + 4 * (q11 + 4 * (q12 + 4 * (q13))))))))))))) :=
  ⟨n / 1 % 4, n / 4 % 4, n / 16 % 4, n / 64 % 4, n / 256 % 4, n / 1024 % 4, n / 4096 % 4, n / 16384 % 4, n / 65536 % 4, n / 262144 % 4, n / 1048576 % 4, n / 4194304 % 4, n / 16777216 % 4, n / 67108864 % 4, by omega, by omega, by omega, by omega, by omega, by omega, by omega, by omega, by omega, by omega, by omega, by omega, by omega, by omega, by omega⟩
theorem bc_1 {q0 q1 q2 q3 q4 q5 q6 q7 q8 q9 q10 q11 q12 q13 : Nat} (h0 : q0 < 4) (h1 : q1 < 4) (h2 : q2 < 4) (h3 : q3 < 4) (h4 : q4 < 4) (h5 : q5 < 4) (h6 : q6 < 4) (h7 : q7 < 4) (h8 : q8 < 4) (h9 : q9 < 4) (h10 : q10 < 4) (h11 : q11 < 4) (h12 : q12 < 4) (h13 : q13 < 4) : ((q0 + 4 * (q1 + 4 * (q2 + 4 * (q3 + 4 * (q4 + 4 * (q5 + 4 * (q6 + 4 * (q7 + 4 * (q8 + 4 * (q9 + 4 * (q10 + 4 * (q11 + 4 * (q12 + 4 * (q13)))))))))))))) / 2) &&& 1431655765 = q0 / 2 + 4 * (q1 / 2 + 4 * (q2 / 2 + 4 * (q3 / 2 + 4 * (q4 / 2 + 4 * (q5 / 2 + 4 * (q6 / 2 + 4 * (q7 / 2 + 4 * (q8 / 2 + 4 * (q9 / 2 + 4 * (q10 / 2 + 4 * (q11 / 2 + 4 * (q12 / 2 + 4 * (q13 / 2))))))))))))) := by
  rw [bc_s1 357913941 h0 (show 1431655765 = 1 + 4 * 357913941 by decide), bc_s1 89478485 h1 (show 357913941 = 1 + 4 * 89478485 by decide), bc_s1 22369621 h2 (show 89478485 = 1 + 4 * 22369621 by decide), bc_s1 5592405 h3 (show 22369621 = 1 + 4 * 5592405 by decide), bc_s1 1398101 h4 (show 5592405 = 1 + 4 * 1398101 by decide), bc_s1 349525 h5 (show 1398101 = 1 + 4 * 349525 by decide), bc_s1 87381 h6 (show 349525 = 1 + 4 * 87381 by decide), bc_s1 21845 h7 (show 87381 = 1 + 4 * 21845 by decide), bc_s1 5461 h8 (show 21845 = 1 + 4 * 5461 by decide), bc_s1 1365 h9 (show 5461 = 1 + 4 * 1365 by decide), bc_s1 341 h10 (show 1365 = 1 + 4 * 341 by decide), bc_s1 85 h11 (show 341 = 1 + 4 * 85 by decide), bc_s1 21 h12 (show 85 = 1 + 4 * 21 by decide), bc_s1e h13 (show 21 % 2 = 1 by decide)]
theorem bc_sum {q0 q1 q2 q3 q4 q5 q6 q7 q8 q9 q10 q11 q12 q13 : Nat} (h0 : q0 < 4) (h1 : q1 < 4) (h2 : q2 < 4) (h3 : q3 < 4) (h4 : q4 < 4) (h5 : q5 < 4) (h6 : q6 < 4) (h7 : q7 < 4) (h8 : q8 < 4) (h9 : q9 < 4) (h10 : q10 < 4) (h11 : q11 < 4) (h12 : q12 < 4) (h13 : q13 < 4) : bcN 28 (q0 + 4 * (q1 + 4 * (q2 + 4 * (q3 + 4 * (q4 + 4 * (q5 + 4 * (q6 + 4 * (q7 + 4 * (q8 + 4 * (q9 + 4 * (q10 + 4 * (q11 + 4 * (q12 + 4 * (q13)))))))))))))) = (q0 - q0 / 2) + (q1 - q1 / 2) + (q2 - q2 / 2) + (q3 - q3 / 2) + (q4 - q4 / 2) + (q5 - q5 / 2) + (q6 - q6 / 2) + (q7 - q7 / 2) + (q8 - q8 / 2) + (q9 - q9 / 2) + (q10 - q10 / 2) + (q11 - q11 / 2) + (q12 - q12 / 2) + (q13 - q13 / 2) := by
  rw [bc_q 26 _ h0, bc_q 24 _ h1, bc_q 22 _ h2, bc_q 20 _ h3, bc_q 18 _ h4, bc_q 16 _ h5, bc_q 14 _ h6, bc_q 12 _ h7, bc_q 10 _ h8, bc_q 8 _ h9, bc_q 6 _ h10, bc_q 4 _ h11, bc_q 2 _ h12, show q13 = q13 + 4 * 0 from rfl, bc_q 0 0 h13, bcN]
  omega
theorem bc_2a {e0 e1 e2 e3 e4 e5 e6 e7 e8 e9 e10 e11 e12 e13 : Nat} (h0 : e0 ≤ 2) (h1 : e1 ≤ 2) (h2 : e2 ≤ 2) (h3 : e3 ≤ 2) (h4 : e4 ≤ 2) (h5 : e5 ≤ 2) (h6 : e6 ≤ 2) (h7 : e7 ≤ 2) (h8 : e8 ≤ 2) (h9 : e9 ≤ 2) (h10 : e10 ≤ 2) (h11 : e11 ≤ 2) (h12 : e12 ≤ 2) (h13 : e13 ≤ 2) : (e0 + 4 * (e1 + 4 * (e2 + 4 * (e3 + 4 * (e4 + 4 * (e5 + 4 * (e6 + 4 * (e7 + 4 * (e8 + 4 * (e9 + 4 * (e10 + 4 * (e11 + 4 * (e12 + 4 * (e13)))))))))))))) &&& 858993459 = e0 + 16 * (e2 + 16 * (e4 + 16 * (e6 + 16 * (e8 + 16 * (e10 + 16 * (e12)))))) := by
  have hz : (e12 + 4 * (e13)) &&& 51 = e12 := by rw [show e13 = e13 + 4 * 0 from rfl, bc_s2 3 (show e12 < 4 by omega) (show e13 < 4 by omega) (show 51 = 3 + 16 * 3 by decide), Nat.zero_and]; omega
  rw [bc_s2 53687091 (Nat.lt_of_le_of_lt h0 (by decide)) (Nat.lt_of_le_of_lt h1 (by decide)) (show 858993459 = 3 + 16 * 53687091 by decide), bc_s2 3355443 (Nat.lt_of_le_of_lt h2 (by decide)) (Nat.lt_of_le_of_lt h3 (by decide)) (show 53687091 = 3 + 16 * 3355443 by decide), bc_s2 209715 (Nat.lt_of_le_of_lt h4 (by decide)) (Nat.lt_of_le_of_lt h5 (by decide)) (show 3355443 = 3 + 16 * 209715 by decide), bc_s2 13107 (Nat.lt_of_le_of_lt h6 (by decide)) (Nat.lt_of_le_of_lt h7 (by decide)) (show 209715 = 3 + 16 * 13107 by decide), bc_s2 819 (Nat.lt_of_le_of_lt h8 (by decide)) (Nat.lt_of_le_of_lt h9 (by decide)) (show 13107 = 3 + 16 * 819 by decide), bc_s2 51 (Nat.lt_of_le_of_lt h10 (by decide)) (Nat.lt_of_le_of_lt h11 (by decide)) (show 819 = 3 + 16 * 51 by decide), hz]
theorem bc_2b {e0 e1 e2 e3 e4 e5 e6 e7 e8 e9 e10 e11 e12 e13 : Nat} (h0 : e0 ≤ 2) (h1 : e1 ≤ 2) (h2 : e2 ≤ 2) (h3 : e3 ≤ 2) (h4 : e4 ≤ 2) (h5 : e5 ≤ 2) (h6 : e6 ≤ 2) (h7 : e7 ≤ 2) (h8 : e8 ≤ 2) (h9 : e9 ≤ 2) (h10 : e10 ≤ 2) (h11 : e11 ≤ 2) (h12 : e12 ≤ 2) (h13 : e13 ≤ 2) : (e1 + 4 * (e2 + 4 * (e3 + 4 * (e4 + 4 * (e5 + 4 * (e6 + 4 * (e7 + 4 * (e8 + 4 * (e9 + 4 * (e10 + 4 * (e11 + 4 * (e12 + 4 * (e13))))))))))))) &&& 858993459 = e1 + 16 * (e3 + 16 * (e5 + 16 * (e7 + 16 * (e9 + 16 * (e11 + 16 * (e13)))))) := by
  have hz : e13 &&& 51 = e13 := by rw [show e13 = e13 + 4 * (0 + 4 * 0) from rfl, bc_s2 3 (show e13 < 4 by omega) (show 0 < 4 by omega) (show 51 = 3 + 16 * 3 by decide), Nat.zero_and]
  rw [bc_s2 53687091 (Nat.lt_of_le_of_lt h1 (by decide)) (Nat.lt_of_le_of_lt h2 (by decide)) (show 858993459 = 3 + 16 * 53687091 by decide), bc_s2 3355443 (Nat.lt_of_le_of_lt h3 (by decide)) (Nat.lt_of_le_of_lt h4 (by decide)) (show 53687091 = 3 + 16 * 3355443 by decide), bc_s2 209715 (Nat.lt_of_le_of_lt h5 (by decide)) (Nat.lt_of_le_of_lt h6 (by decide)) (show 3355443 = 3 + 16 * 209715 by decide), bc_s2 13107 (Nat.lt_of_le_of_lt h7 (by decide)) (Nat.lt_of_le_of_lt h8 (by decide)) (show 209715 = 3 + 16 * 13107 by decide), bc_s2 819 (Nat.lt_of_le_of_lt h9 (by decide)) (Nat.lt_of_le_of_lt h10 (by decide)) (show 13107 = 3 + 16 * 819 by decide), bc_s2 51 (Nat.lt_of_le_of_lt h11 (by decide)) (Nat.lt_of_le_of_lt h12 (by decide)) (show 819 = 3 + 16 * 51 by decide), hz]
theorem bc_3 {f0 f1 f2 f3 f4 f5 f6 : Nat} (h0 : f0 ≤ 4) (h1 : f1 ≤ 4) (h2 : f2 ≤ 4) (h3 : f3 ≤ 4) (h4 : f4 ≤ 4) (h5 : f5 ≤ 4) (h6 : f6 ≤ 4) : ((f0 + f1) + 16 * ((f1 + f2) + 16 * ((f2 + f3) + 16 * ((f3 + f4) + 16 * ((f4 + f5) + 16 * ((f5 + f6) + 16 * (f6))))))) &&& 252645135 = (f0 + f1) + 256 * ((f2 + f3) + 256 * ((f4 + f5) + 256 * (f6))) := by
  have hz : f6 &&& 15 = f6 := by rw [show f6 = f6 + 16 * (0 + 16 * 0) from rfl, bc_s3 0 (show f6 < 16 by omega) (show 0 < 16 by omega) (show 15 = 15 + 256 * 0 by decide), Nat.zero_and]
  rw [bc_s3 986895 (show (f0 + f1) < 16 by omega) (show (f1 + f2) < 16 by omega) (show 252645135 = 15 + 256 * 986895 by decide), bc_s3 3855 (show (f2 + f3) < 16 by omega) (show (f3 + f4) < 16 by omega) (show 986895 = 15 + 256 * 3855 by decide), bc_s3 15 (show (f4 + f5) < 16 by omega) (show (f5 + f6) < 16 by omega) (show 3855 = 15 + 256 * 15 by decide), hz]
theorem bc_h (q : Nat) : q = (q - q / 2) + q / 2 := (Nat.sub_add_cancel (Nat.div_le_self q 2)).symm
theorem bc_k {q : Nat} (h : q < 4) : q - q / 2 ≤ 2 := by omega
theorem bc_st {b q e d n E D : Nat} (h : q = e + d) (g : n = E + D) : q + b * n = (e + b * E) + (d + b * D) := by
  rw [h, g, Nat.mul_add]; omega
theorem bc_dv {q n : Nat} (k : Nat) (h : q < 2 ^ k) : (q + 2 ^ k * n) / 2 ^ k = n := by
  rw [Nat.add_mul_div_left _ _ (Nat.two_pow_pos k), Nat.div_eq_of_lt h, Nat.zero_add]
theorem bc_lt {b q m n B : Nat} (h : q ≤ m) (g : n ≤ B) : q + b * n ≤ m + b * B := Nat.add_le_add h (Nat.mul_le_mul_left b g)
