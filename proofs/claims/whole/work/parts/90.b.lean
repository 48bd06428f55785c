/-! the library's count of bits -/
set_option maxHeartbeats 400000 in
theorem bc_J {X : db_St} {Q : Int32 → db_St → Prop} {n : Nat} (h : n < 268435456) (q : Q (nI (bcN 28 n)) X) : wp_J6_bitCount_0f7a4 X (nI n) Q := by
  obtain ⟨q0, q1, q2, q3, q4, q5, q6, q7, q8, q9, q10, q11, q12, q13, h0, h1, h2, h3, h4, h5, h6, h7, h8, h9, h10, h11, h12, h13, en⟩ := bc_n h
  intro z1 y1 z2 y2 z3 y3 z4 y4
  rw [db_ushrN (Nat.lt_trans h (by decide)) 1 1 (by decide), show (1431655765 : Int32) = nI 1431655765 by decide, nI_and (Nat.lt_of_le_of_lt (Nat.div_le_self _ _) (Nat.lt_trans h (by decide))) (by decide), show (2 : Nat) ^ 1 = 2 from rfl] at y1
  have b1 := bc_1 h0 h1 h2 h3 h4 h5 h6 h7 h8 h9 h10 h11 h12 h13
  have bs := bc_sum h0 h1 h2 h3 h4 h5 h6 h7 h8 h9 h10 h11 h12 h13
  rw [← en] at b1 bs
  have r1 : z1 = nI ((q0 - q0 / 2) + 4 * ((q1 - q1 / 2) + 4 * ((q2 - q2 / 2) + 4 * ((q3 - q3 / 2) + 4 * ((q4 - q4 / 2) + 4 * ((q5 - q5 / 2) + 4 * ((q6 - q6 / 2) + 4 * ((q7 - q7 / 2) + 4 * ((q8 - q8 / 2) + 4 * ((q9 - q9 / 2) + 4 * ((q10 - q10 / 2) + 4 * ((q11 - q11 / 2) + 4 * ((q12 - q12 / 2) + 4 * ((q13 - q13 / 2))))))))))))))) := by
    have eq : n = (q0 - q0 / 2) + 4 * ((q1 - q1 / 2) + 4 * ((q2 - q2 / 2) + 4 * ((q3 - q3 / 2) + 4 * ((q4 - q4 / 2) + 4 * ((q5 - q5 / 2) + 4 * ((q6 - q6 / 2) + 4 * ((q7 - q7 / 2) + 4 * ((q8 - q8 / 2) + 4 * ((q9 - q9 / 2) + 4 * ((q10 - q10 / 2) + 4 * ((q11 - q11 / 2) + 4 * ((q12 - q12 / 2) + 4 * ((q13 - q13 / 2)))))))))))))) + (q0 / 2 + 4 * (q1 / 2 + 4 * (q2 / 2 + 4 * (q3 / 2 + 4 * (q4 / 2 + 4 * (q5 / 2 + 4 * (q6 / 2 + 4 * (q7 / 2 + 4 * (q8 / 2 + 4 * (q9 / 2 + 4 * (q10 / 2 + 4 * (q11 / 2 + 4 * (q12 / 2 + 4 * (q13 / 2)))))))))))))) := by
      rw [en]
      exact bc_st (bc_h _) (bc_st (bc_h _) (bc_st (bc_h _) (bc_st (bc_h _) (bc_st (bc_h _) (bc_st (bc_h _) (bc_st (bc_h _) (bc_st (bc_h _) (bc_st (bc_h _) (bc_st (bc_h _) (bc_st (bc_h _) (bc_st (bc_h _) (bc_st (bc_h _) (bc_h _)))))))))))))
    rw [y1, b1, eq, pk_sub (Nat.le_add_left _ _), Nat.add_sub_cancel]
  have k0 : q0 - q0 / 2 ≤ 2 := bc_k h0
  have k1 : q1 - q1 / 2 ≤ 2 := bc_k h1
  have k2 : q2 - q2 / 2 ≤ 2 := bc_k h2
  have k3 : q3 - q3 / 2 ≤ 2 := bc_k h3
  have k4 : q4 - q4 / 2 ≤ 2 := bc_k h4
  have k5 : q5 - q5 / 2 ≤ 2 := bc_k h5
  have k6 : q6 - q6 / 2 ≤ 2 := bc_k h6
  have k7 : q7 - q7 / 2 ≤ 2 := bc_k h7
  have k8 : q8 - q8 / 2 ≤ 2 := bc_k h8
  have k9 : q9 - q9 / 2 ≤ 2 := bc_k h9
  have k10 : q10 - q10 / 2 ≤ 2 := bc_k h10
  have k11 : q11 - q11 / 2 ≤ 2 := bc_k h11
  have k12 : q12 - q12 / 2 ≤ 2 := bc_k h12
  have k13 : q13 - q13 / 2 ≤ 2 := bc_k h13
  generalize q0 - q0 / 2 = e0 at r1 bs k0
  generalize q1 - q1 / 2 = e1 at r1 bs k1
  generalize q2 - q2 / 2 = e2 at r1 bs k2
  generalize q3 - q3 / 2 = e3 at r1 bs k3
  generalize q4 - q4 / 2 = e4 at r1 bs k4
  generalize q5 - q5 / 2 = e5 at r1 bs k5
  generalize q6 - q6 / 2 = e6 at r1 bs k6
  generalize q7 - q7 / 2 = e7 at r1 bs k7
  generalize q8 - q8 / 2 = e8 at r1 bs k8
  generalize q9 - q9 / 2 = e9 at r1 bs k9
  generalize q10 - q10 / 2 = e10 at r1 bs k10
  generalize q11 - q11 / 2 = e11 at r1 bs k11
  generalize q12 - q12 / 2 = e12 at r1 bs k12
  generalize q13 - q13 / 2 = e13 at r1 bs k13
  clear b1 y1 en h0 h1 h2 h3 h4 h5 h6 h7 h8 h9 h10 h11 h12 h13
  have l1 : e0 + 4 * (e1 + 4 * (e2 + 4 * (e3 + 4 * (e4 + 4 * (e5 + 4 * (e6 + 4 * (e7 + 4 * (e8 + 4 * (e9 + 4 * (e10 + 4 * (e11 + 4 * (e12 + 4 * (e13))))))))))))) < 2 ^ 31 := Nat.lt_of_le_of_lt (bc_lt k0 (bc_lt k1 (bc_lt k2 (bc_lt k3 (bc_lt k4 (bc_lt k5 (bc_lt k6 (bc_lt k7 (bc_lt k8 (bc_lt k9 (bc_lt k10 (bc_lt k11 (bc_lt k12 (k13)))))))))))))) (show 2 + 4 * (2 + 4 * (2 + 4 * (2 + 4 * (2 + 4 * (2 + 4 * (2 + 4 * (2 + 4 * (2 + 4 * (2 + 4 * (2 + 4 * (2 + 4 * (2 + 4 * (2))))))))))))) < 2 ^ 31 by decide)
  rw [r1, db_ushrN l1 2 2 (by decide), show (858993459 : Int32) = nI 858993459 by decide, nI_and l1 (by decide), nI_and (Nat.lt_of_le_of_lt (Nat.div_le_self _ _) l1) (by decide), bc_2a k0 k1 k2 k3 k4 k5 k6 k7 k8 k9 k10 k11 k12 k13, show (e0 + 4 * (e1 + 4 * (e2 + 4 * (e3 + 4 * (e4 + 4 * (e5 + 4 * (e6 + 4 * (e7 + 4 * (e8 + 4 * (e9 + 4 * (e10 + 4 * (e11 + 4 * (e12 + 4 * (e13)))))))))))))) / 2 ^ 2 = e1 + 4 * (e2 + 4 * (e3 + 4 * (e4 + 4 * (e5 + 4 * (e6 + 4 * (e7 + 4 * (e8 + 4 * (e9 + 4 * (e10 + 4 * (e11 + 4 * (e12 + 4 * (e13)))))))))))) from bc_dv 2 (Nat.lt_of_le_of_lt k0 (by decide)), bc_2b k0 k1 k2 k3 k4 k5 k6 k7 k8 k9 k10 k11 k12 k13, nI_add] at y2
  have r2 : z2 = nI ((e0 + e1) + 16 * ((e2 + e3) + 16 * ((e4 + e5) + 16 * ((e6 + e7) + 16 * ((e8 + e9) + 16 * ((e10 + e11) + 16 * ((e12 + e13)))))))) := by
    rw [y2]
    exact congrArg nI (bc_st rfl (bc_st rfl (bc_st rfl (bc_st rfl (bc_st rfl (bc_st rfl (rfl))))))).symm
  have j0 : e0 + e1 ≤ 4 := Nat.add_le_add k0 k1
  have j1 : e2 + e3 ≤ 4 := Nat.add_le_add k2 k3
  have j2 : e4 + e5 ≤ 4 := Nat.add_le_add k4 k5
  have j3 : e6 + e7 ≤ 4 := Nat.add_le_add k6 k7
  have j4 : e8 + e9 ≤ 4 := Nat.add_le_add k8 k9
  have j5 : e10 + e11 ≤ 4 := Nat.add_le_add k10 k11
  have j6 : e12 + e13 ≤ 4 := Nat.add_le_add k12 k13
  have bs2 : bcN 28 n = (e0 + e1) + (e2 + e3) + (e4 + e5) + (e6 + e7) + (e8 + e9) + (e10 + e11) + (e12 + e13) := by rw [bs]; simp only [Nat.add_assoc]
  clear bs y2 l1 r1 k0 k1 k2 k3 k4 k5 k6 k7 k8 k9 k10 k11 k12 k13
  generalize e0 + e1 = f0 at r2 bs2 j0
  generalize e2 + e3 = f1 at r2 bs2 j1
  generalize e4 + e5 = f2 at r2 bs2 j2
  generalize e6 + e7 = f3 at r2 bs2 j3
  generalize e8 + e9 = f4 at r2 bs2 j4
  generalize e10 + e11 = f5 at r2 bs2 j5
  generalize e12 + e13 = f6 at r2 bs2 j6
  have l2 : f0 + 16 * (f1 + 16 * (f2 + 16 * (f3 + 16 * (f4 + 16 * (f5 + 16 * (f6)))))) < 2 ^ 31 := Nat.lt_of_le_of_lt (bc_lt j0 (bc_lt j1 (bc_lt j2 (bc_lt j3 (bc_lt j4 (bc_lt j5 (j6))))))) (show 4 + 16 * (4 + 16 * (4 + 16 * (4 + 16 * (4 + 16 * (4 + 16 * (4)))))) < 2 ^ 31 by decide)
  rw [r2, db_ushrN l2 4 4 (by decide), show (252645135 : Int32) = nI 252645135 by decide, show (f0 + 16 * (f1 + 16 * (f2 + 16 * (f3 + 16 * (f4 + 16 * (f5 + 16 * (f6))))))) / 2 ^ 4 = f1 + 16 * (f2 + 16 * (f3 + 16 * (f4 + 16 * (f5 + 16 * (f6))))) from bc_dv 4 (Nat.lt_of_le_of_lt j0 (by decide)), nI_add, show (f0 + 16 * (f1 + 16 * (f2 + 16 * (f3 + 16 * (f4 + 16 * (f5 + 16 * (f6))))))) + (f1 + 16 * (f2 + 16 * (f3 + 16 * (f4 + 16 * (f5 + 16 * (f6)))))) = (f0 + f1) + 16 * ((f1 + f2) + 16 * ((f2 + f3) + 16 * ((f3 + f4) + 16 * ((f4 + f5) + 16 * ((f5 + f6) + 16 * (f6)))))) from (bc_st rfl (bc_st rfl (bc_st rfl (bc_st rfl (bc_st rfl ((Nat.add_right_comm f5 f6 (16 * f6)))))))).symm, nI_and (Nat.lt_of_le_of_lt (bc_lt (Nat.add_le_add j0 j1) (bc_lt (Nat.add_le_add j1 j2) (bc_lt (Nat.add_le_add j2 j3) (bc_lt (Nat.add_le_add j3 j4) (bc_lt (Nat.add_le_add j4 j5) (bc_lt (Nat.add_le_add j5 j6) ((Nat.le_trans j6 (by decide))))))))) (show 8 + 16 * (8 + 16 * (8 + 16 * (8 + 16 * (8 + 16 * (8 + 16 * (8)))))) < 2 ^ 31 by decide)) (by decide), bc_3 j0 j1 j2 j3 j4 j5 j6] at y3
  have l3 : (f0 + f1) + 256 * ((f2 + f3) + 256 * ((f4 + f5) + 256 * (f6))) < 2 ^ 31 := by omega
  rw [y3, db_ushrN l3 8 8 (by decide), nI_add, db_ushrN (Nat.lt_of_le_of_lt (Nat.add_le_add_left (Nat.div_le_self _ _) _) (by omega)) 16 16 (by decide), nI_add] at y4
  rw [y4, pk_andN ?_ 6 (by decide)]
  rotate_left
  · exact Nat.lt_of_le_of_lt (Nat.add_le_add (Nat.add_le_add_left (Nat.div_le_self _ _) _) (Nat.le_trans (Nat.div_le_self _ _) (Nat.add_le_add_left (Nat.div_le_self _ _) _))) (by omega)
  have bs3 : bcN 28 n = (f0 + f1) + (f2 + f3) + (f4 + f5) + f6 := by rw [bs2]; simp only [Nat.add_assoc]
  clear bs2 r2 y3 l2
  have i0 : f0 + f1 ≤ 8 := Nat.add_le_add j0 j1
  have i1 : f2 + f3 ≤ 8 := Nat.add_le_add j2 j3
  have i2 : f4 + f5 ≤ 8 := Nat.add_le_add j4 j5
  generalize f0 + f1 = a0 at bs3 i0 ⊢
  generalize f2 + f3 = a1 at bs3 i1 ⊢
  generalize f4 + f5 = a2 at bs3 i2 ⊢
  clear j0 j1 j2 j3 j4 j5 l3
  rw [show (a0 + 256 * (a1 + 256 * (a2 + 256 * f6))) / 2 ^ 8 = a1 + 256 * (a2 + 256 * f6) from bc_dv 8 (by omega), show (a0 + 256 * (a1 + 256 * (a2 + 256 * f6))) + (a1 + 256 * (a2 + 256 * f6)) = ((a0 + a1) + 256 * (a1 + a2)) + 2 ^ 16 * ((a2 + f6) + 256 * f6) by omega, bc_dv 16 (by omega), show ((a0 + a1) + 256 * (a1 + a2)) + 2 ^ 16 * ((a2 + f6) + 256 * f6) + ((a2 + f6) + 256 * f6) = (a0 + a1 + a2 + f6) + 2 ^ 6 * (4 * (a1 + a2) + 2 ^ 10 * ((a2 + f6) + 256 * f6) + 4 * f6) by omega, Nat.add_mul_mod_self_left, Nat.mod_eq_of_lt (by omega), ← bs3]
  exact q
