theorem dX0_firstFor_34 : decode cX0_firstFor 34 = .ok (.ireturn, 1) := by decide +kernel
theorem dX0_firstFor_35 : decode cX0_firstFor 35 = .ok (.iinc 3 1, 3) := by decide +kernel
theorem dX0_firstFor_38 : decode cX0_firstFor 38 = .ok (.goto (-36), 3) := by decide +kernel
theorem dX0_firstFor_41 : decode cX0_firstFor 41 = .ok (.bipush (-9), 2) := by decide +kernel
theorem dX0_firstFor_43 : decode cX0_firstFor 43 = .ok (.ireturn, 1) := by decide +kernel
set_option maxRecDepth 20000 in
theorem ggX0_alikeIn_X0_has : GoodIn wsX0_alikeIn wsX0_has := goodIn_r _ [9, 1, 2, 3, 4, 10, 11, 12, 13, 14, 15] (by decide +kernel) (by decide +kernel)
set_option maxRecDepth 20000 in
theorem gX0_alikeIn_X0_has : GoodIn wsX0_alikeIn (wsV RX0 28 RX0 yX0_has wsX0_has) := goodIn_app (goodIn_of _ (by decide +kernel)) ggX0_alikeIn_X0_has
theorem dX0_alikeIn_0 : decode cX0_alikeIn 0 = .ok (.iconst 0, 1) := by decide +kernel
theorem dX0_alikeIn_1 : decode cX0_alikeIn 1 = .ok (.istore_n 2, 1) := by decide +kernel
theorem dX0_alikeIn_2 : decode cX0_alikeIn 2 = .ok (.iconst 0, 1) := by decide +kernel
theorem dX0_alikeIn_3 : decode cX0_alikeIn 3 = .ok (.istore_n 3, 1) := by decide +kernel
theorem dX0_alikeIn_4 : decode cX0_alikeIn 4 = .ok (.iload_n 3, 1) := by decide +kernel
theorem dX0_alikeIn_5 : decode cX0_alikeIn 5 = .ok (.aload_n 0, 1) := by decide +kernel
theorem dX0_alikeIn_6 : decode cX0_alikeIn 6 = .ok (.getfield 25, 3) := by decide +kernel
theorem dX0_alikeIn_9 : decode cX0_alikeIn 9 = .ok (.if_icmp .ge 37, 3) := by decide +kernel
theorem dX0_alikeIn_12 : decode cX0_alikeIn 12 = .ok (.aload_n 1, 1) := by decide +kernel
theorem dX0_alikeIn_13 : decode cX0_alikeIn 13 = .ok (.aload_n 0, 1) := by decide +kernel
theorem dX0_alikeIn_14 : decode cX0_alikeIn 14 = .ok (.getfield 9, 3) := by decide +kernel
theorem dX0_alikeIn_17 : decode cX0_alikeIn 17 = .ok (.iload_n 3, 1) := by decide +kernel
theorem dX0_alikeIn_18 : decode cX0_alikeIn 18 = .ok (.iaload, 1) := by decide +kernel
theorem dX0_alikeIn_19 : decode cX0_alikeIn 19 = .ok (.aload_n 0, 1) := by decide +kernel
theorem dX0_alikeIn_20 : decode cX0_alikeIn 20 = .ok (.getfield 15, 3) := by decide +kernel
theorem dX0_alikeIn_23 : decode cX0_alikeIn 23 = .ok (.iload_n 3, 1) := by decide +kernel
theorem dX0_alikeIn_24 : decode cX0_alikeIn 24 = .ok (.iaload, 1) := by decide +kernel
theorem dX0_alikeIn_25 : decode cX0_alikeIn 25 = .ok (.aload_n 0, 1) := by decide +kernel
theorem dX0_alikeIn_26 : decode cX0_alikeIn 26 = .ok (.getfield 18, 3) := by decide +kernel
theorem dX0_alikeIn_29 : decode cX0_alikeIn 29 = .ok (.iload_n 3, 1) := by decide +kernel
theorem dX0_alikeIn_30 : decode cX0_alikeIn 30 = .ok (.iaload, 1) := by decide +kernel
theorem dX0_alikeIn_31 : decode cX0_alikeIn 31 = .ok (.invokevirtual 28, 3) := by decide +kernel
theorem dX0_alikeIn_34 : decode cX0_alikeIn 34 = .ok (.ifCond .eq 6, 3) := by decide +kernel
theorem dX0_alikeIn_37 : decode cX0_alikeIn 37 = .ok (.iinc 2 1, 3) := by decide +kernel
theorem dX0_alikeIn_40 : decode cX0_alikeIn 40 = .ok (.iinc 3 1, 3) := by decide +kernel
theorem dX0_alikeIn_43 : decode cX0_alikeIn 43 = .ok (.goto (-39), 3) := by decide +kernel
theorem dX0_alikeIn_46 : decode cX0_alikeIn 46 = .ok (.iload_n 2, 1) := by decide +kernel
theorem dX0_alikeIn_47 : decode cX0_alikeIn 47 = .ok (.ireturn, 1) := by decide +kernel
theorem dX0_has_0 : decode cX0_has 0 = .ok (.iconst 0, 1) := by decide +kernel
theorem dX0_has_1 : decode cX0_has 1 = .ok (.istore 4, 2) := by decide +kernel
theorem dX0_has_3 : decode cX0_has 3 = .ok (.iload 4, 2) := by decide +kernel
theorem dX0_has_5 : decode cX0_has 5 = .ok (.aload_n 0, 1) := by decide +kernel
theorem dX0_has_6 : decode cX0_has 6 = .ok (.getfield 25, 3) := by decide +kernel
theorem dX0_has_9 : decode cX0_has 9 = .ok (.if_icmp .ge 44, 3) := by decide +kernel
theorem dX0_has_12 : decode cX0_has 12 = .ok (.aload_n 0, 1) := by decide +kernel
theorem dX0_has_13 : decode cX0_has 13 = .ok (.getfield 9, 3) := by decide +kernel
theorem dX0_has_16 : decode cX0_has 16 = .ok (.iload 4, 2) := by decide +kernel
theorem dX0_has_18 : decode cX0_has 18 = .ok (.iaload, 1) := by decide +kernel
theorem dX0_has_19 : decode cX0_has 19 = .ok (.iload_n 1, 1) := by decide +kernel
theorem dX0_has_20 : decode cX0_has 20 = .ok (.if_icmp .ne 27, 3) := by decide +kernel
theorem dX0_has_23 : decode cX0_has 23 = .ok (.aload_n 0, 1) := by decide +kernel
theorem dX0_has_24 : decode cX0_has 24 = .ok (.getfield 15, 3) := by decide +kernel
theorem dX0_has_27 : decode cX0_has 27 = .ok (.iload 4, 2) := by decide +kernel
theorem dX0_has_29 : decode cX0_has 29 = .ok (.iaload, 1) := by decide +kernel
theorem dX0_has_30 : decode cX0_has 30 = .ok (.iload_n 2, 1) := by decide +kernel
theorem dX0_has_31 : decode cX0_has 31 = .ok (.if_icmp .ne 16, 3) := by decide +kernel
theorem dX0_has_34 : decode cX0_has 34 = .ok (.aload_n 0, 1) := by decide +kernel
theorem dX0_has_35 : decode cX0_has 35 = .ok (.getfield 18, 3) := by decide +kernel
theorem dX0_has_38 : decode cX0_has 38 = .ok (.iload 4, 2) := by decide +kernel
theorem dX0_has_40 : decode cX0_has 40 = .ok (.iaload, 1) := by decide +kernel
theorem dX0_has_41 : decode cX0_has 41 = .ok (.iload_n 3, 1) := by decide +kernel
theorem dX0_has_42 : decode cX0_has 42 = .ok (.if_icmp .ne 5, 3) := by decide +kernel
theorem dX0_has_45 : decode cX0_has 45 = .ok (.iconst 1, 1) := by decide +kernel
theorem dX0_has_46 : decode cX0_has 46 = .ok (.ireturn, 1) := by decide +kernel
theorem dX0_has_47 : decode cX0_has 47 = .ok (.iinc 4 1, 3) := by decide +kernel
theorem dX0_has_50 : decode cX0_has 50 = .ok (.goto (-47), 3) := by decide +kernel
theorem dX0_has_53 : decode cX0_has 53 = .ok (.iconst 0, 1) := by decide +kernel
theorem dX0_has_54 : decode cX0_has 54 = .ok (.ireturn, 1) := by decide +kernel
theorem dX0_copyFrom_0 : decode cX0_copyFrom 0 = .ok (.aload_n 1, 1) := by decide +kernel
theorem dX0_copyFrom_1 : decode cX0_copyFrom 1 = .ok (.getfield 9, 3) := by decide +kernel
theorem dX0_copyFrom_4 : decode cX0_copyFrom 4 = .ok (.iconst 0, 1) := by decide +kernel
theorem dX0_copyFrom_5 : decode cX0_copyFrom 5 = .ok (.aload_n 0, 1) := by decide +kernel
theorem dX0_copyFrom_6 : decode cX0_copyFrom 6 = .ok (.getfield 9, 3) := by decide +kernel
theorem dX0_copyFrom_9 : decode cX0_copyFrom 9 = .ok (.iconst 0, 1) := by decide +kernel
theorem dX0_copyFrom_10 : decode cX0_copyFrom 10 = .ok (.bipush 10, 2) := by decide +kernel
theorem dX0_copyFrom_12 : decode cX0_copyFrom 12 = .ok (.invokestatic 32, 3) := by decide +kernel
theorem dX0_copyFrom_15 : decode cX0_copyFrom 15 = .ok (.aload_n 1, 1) := by decide +kernel
theorem dX0_copyFrom_16 : decode cX0_copyFrom 16 = .ok (.getfield 15, 3) := by decide +kernel
theorem dX0_copyFrom_19 : decode cX0_copyFrom 19 = .ok (.iconst 0, 1) := by decide +kernel
theorem dX0_copyFrom_20 : decode cX0_copyFrom 20 = .ok (.aload_n 0, 1) := by decide +kernel
theorem dX0_copyFrom_21 : decode cX0_copyFrom 21 = .ok (.getfield 15, 3) := by decide +kernel
theorem dX0_copyFrom_24 : decode cX0_copyFrom 24 = .ok (.iconst 0, 1) := by decide +kernel
theorem dX0_copyFrom_25 : decode cX0_copyFrom 25 = .ok (.bipush 10, 2) := by decide +kernel
theorem dX0_copyFrom_27 : decode cX0_copyFrom 27 = .ok (.invokestatic 32, 3) := by decide +kernel
theorem dX0_copyFrom_30 : decode cX0_copyFrom 30 = .ok (.aload_n 1, 1) := by decide +kernel
theorem dX0_copyFrom_31 : decode cX0_copyFrom 31 = .ok (.getfield 18, 3) := by decide +kernel
theorem dX0_copyFrom_34 : decode cX0_copyFrom 34 = .ok (.iconst 0, 1) := by decide +kernel
theorem dX0_copyFrom_35 : decode cX0_copyFrom 35 = .ok (.aload_n 0, 1) := by decide +kernel
theorem dX0_copyFrom_36 : decode cX0_copyFrom 36 = .ok (.getfield 18, 3) := by decide +kernel
theorem dX0_copyFrom_39 : decode cX0_copyFrom 39 = .ok (.iconst 0, 1) := by decide +kernel
theorem dX0_copyFrom_40 : decode cX0_copyFrom 40 = .ok (.bipush 10, 2) := by decide +kernel
theorem dX0_copyFrom_42 : decode cX0_copyFrom 42 = .ok (.invokestatic 32, 3) := by decide +kernel
theorem dX0_copyFrom_45 : decode cX0_copyFrom 45 = .ok (.aload_n 0, 1) := by decide +kernel
theorem dX0_copyFrom_46 : decode cX0_copyFrom 46 = .ok (.aload_n 1, 1) := by decide +kernel
theorem dX0_copyFrom_47 : decode cX0_copyFrom 47 = .ok (.getfield 25, 3) := by decide +kernel
theorem dX0_copyFrom_50 : decode cX0_copyFrom 50 = .ok (.putfield 25, 3) := by decide +kernel
theorem dX0_copyFrom_53 : decode cX0_copyFrom 53 = .ok (.aload_n 0, 1) := by decide +kernel
theorem dX0_copyFrom_54 : decode cX0_copyFrom 54 = .ok (.aload_n 1, 1) := by decide +kernel
theorem dX0_copyFrom_55 : decode cX0_copyFrom 55 = .ok (.getfield 21, 3) := by decide +kernel
theorem dX0_copyFrom_58 : decode cX0_copyFrom 58 = .ok (.putfield 21, 3) := by decide +kernel
theorem dX0_copyFrom_61 : decode cX0_copyFrom 61 = .ok (.aload_n 0, 1) := by decide +kernel
theorem dX0_copyFrom_62 : decode cX0_copyFrom 62 = .ok (.aload_n 1, 1) := by decide +kernel
theorem dX0_copyFrom_63 : decode cX0_copyFrom 63 = .ok (.getfield 38, 3) := by decide +kernel
theorem dX0_copyFrom_66 : decode cX0_copyFrom 66 = .ok (.putfield 38, 3) := by decide +kernel
theorem dX0_copyFrom_69 : decode cX0_copyFrom 69 = .ok (.return_, 1) := by decide +kernel
theorem dX1_init_0 : decode cX1_init 0 = .ok (.aload_n 0, 1) := by decide +kernel
theorem dX1_init_1 : decode cX1_init 1 = .ok (.invokespecial 3, 3) := by decide +kernel
theorem dX1_init_4 : decode cX1_init 4 = .ok (.aload_n 0, 1) := by decide +kernel
theorem dX1_init_5 : decode cX1_init 5 = .ok (.sipush 7007, 3) := by decide +kernel
theorem dX1_init_8 : decode cX1_init 8 = .ok (.newarray .int, 2) := by decide +kernel
theorem dX1_init_10 : decode cX1_init 10 = .ok (.putfield 11, 3) := by decide +kernel
theorem dX1_init_13 : decode cX1_init 13 = .ok (.aload_n 0, 1) := by decide +kernel
theorem dX1_init_14 : decode cX1_init 14 = .ok (.bipush 6, 2) := by decide +kernel
theorem dX1_init_16 : decode cX1_init 16 = .ok (.newarray .int, 2) := by decide +kernel
theorem dX1_init_18 : decode cX1_init 18 = .ok (.putfield 15, 3) := by decide +kernel
theorem dX1_init_21 : decode cX1_init 21 = .ok (.aload_n 0, 1) := by decide +kernel
theorem dX1_init_22 : decode cX1_init 22 = .ok (.aload_n 1, 1) := by decide +kernel
theorem dX1_init_23 : decode cX1_init 23 = .ok (.putfield 18, 3) := by decide +kernel
theorem dX1_init_26 : decode cX1_init 26 = .ok (.return_, 1) := by decide +kernel
set_option maxRecDepth 20000 in
theorem ggX1_leastHard_J7_fill_fda19 : GoodIn wsX1_leastHard wsJ7_fill_fda19 := goodIn_r _ [8, 9, 10, 7, 11] (by decide +kernel) (by decide +kernel)
set_option maxRecDepth 20000 in
theorem gX1_leastHard_J7_fill_fda19 : GoodIn wsX1_leastHard (va_wsS RX1 23 yJ7_fill_fda19 wsJ7_fill_fda19) := goodIn_app (goodIn_of _ (by decide +kernel)) ggX1_leastHard_J7_fill_fda19
set_option maxRecDepth 20000 in
theorem ggX1_leastHard_X4_unitsAtMost : GoodIn wsX1_leastHard wsX4_unitsAtMost := goodIn_r _ [16, 17, 18, 19, 20, 21, 22, 23, 15, 24, 25, 26, 27, 28, 29, 30, 31, 32, 33, 34, 35, 36, 37, 38, 39, 40, 41, 42, 72, 73, 74] (by decide +kernel) (by decide +kernel)
set_option maxRecDepth 20000 in
theorem gX1_leastHard_X4_unitsAtMost : GoodIn wsX1_leastHard (wsV RX1 35 RX4 yX4_unitsAtMost wsX4_unitsAtMost) := goodIn_app (goodIn_of _ (by decide +kernel)) ggX1_leastHard_X4_unitsAtMost
set_option maxRecDepth 20000 in
theorem ggX1_leastHard_X1_fillLevel : GoodIn wsX1_leastHard wsX1_fillLevel := goodIn_r _ [47, 1, 48, 49, 50, 51, 3, 52, 18, 19, 20, 53, 54, 55, 46, 56, 4, 57, 58, 59, 60, 26, 27, 15, 28, 29, 69, 70, 71, 72, 73, 74] (by decide +kernel) (by decide +kernel)
set_option maxRecDepth 20000 in
theorem gX1_leastHard_X1_fillLevel : GoodIn wsX1_leastHard (wsV RX1 39 RX1 yX1_fillLevel wsX1_fillLevel) := goodIn_app (goodIn_of _ (by decide +kernel)) ggX1_leastHard_X1_fillLevel
set_option maxRecDepth 20000 in
theorem ggX1_leastHard_X1_unitsOf : GoodIn wsX1_leastHard wsX1_unitsOf := goodIn_r _ [64, 4, 57, 58, 19, 59, 65, 66, 67, 46, 68, 3, 1, 60, 26, 27, 15, 28, 29, 69, 70, 71, 72, 73, 74] (by decide +kernel) (by decide +kernel)
set_option maxRecDepth 20000 in
theorem gX1_leastHard_X1_unitsOf : GoodIn wsX1_leastHard (wsV RX1 43 RX1 yX1_unitsOf wsX1_unitsOf) := goodIn_app (goodIn_of _ (by decide +kernel)) ggX1_leastHard_X1_unitsOf
theorem dX1_leastHard_0 : decode cX1_leastHard 0 = .ok (.iload_n 1, 1) := by decide +kernel
theorem dX1_leastHard_1 : decode cX1_leastHard 1 = .ok (.ifCond .lt 10, 3) := by decide +kernel
theorem dX1_leastHard_4 : decode cX1_leastHard 4 = .ok (.iload_n 1, 1) := by decide +kernel
theorem dX1_leastHard_5 : decode cX1_leastHard 5 = .ok (.sipush 1001, 3) := by decide +kernel
theorem dX1_leastHard_8 : decode cX1_leastHard 8 = .ok (.if_icmp .lt 6, 3) := by decide +kernel
theorem dX1_leastHard_11 : decode cX1_leastHard 11 = .ok (.bipush (-9), 2) := by decide +kernel
theorem dX1_leastHard_13 : decode cX1_leastHard 13 = .ok (.ireturn, 1) := by decide +kernel
theorem dX1_leastHard_14 : decode cX1_leastHard 14 = .ok (.aload_n 0, 1) := by decide +kernel
theorem dX1_leastHard_15 : decode cX1_leastHard 15 = .ok (.getfield 11, 3) := by decide +kernel
theorem dX1_leastHard_18 : decode cX1_leastHard 18 = .ok (.sipush 6006, 3) := by decide +kernel
theorem dX1_leastHard_21 : decode cX1_leastHard 21 = .ok (.aload_n 0, 1) := by decide +kernel
theorem dX1_leastHard_22 : decode cX1_leastHard 22 = .ok (.getfield 11, 3) := by decide +kernel
theorem dX1_leastHard_25 : decode cX1_leastHard 25 = .ok (.arraylength, 1) := by decide +kernel
theorem dX1_leastHard_26 : decode cX1_leastHard 26 = .ok (.ldc 22, 2) := by decide +kernel
theorem dX1_leastHard_28 : decode cX1_leastHard 28 = .ok (.invokestatic 23, 3) := by decide +kernel
theorem dX1_leastHard_31 : decode cX1_leastHard 31 = .ok (.aload_n 0, 1) := by decide +kernel
theorem dX1_leastHard_32 : decode cX1_leastHard 32 = .ok (.getfield 11, 3) := by decide +kernel
theorem dX1_leastHard_35 : decode cX1_leastHard 35 = .ok (.sipush 6006, 3) := by decide +kernel
theorem dX1_leastHard_38 : decode cX1_leastHard 38 = .ok (.iconst 0, 1) := by decide +kernel
theorem dX1_leastHard_39 : decode cX1_leastHard 39 = .ok (.iastore, 1) := by decide +kernel
theorem dX1_leastHard_40 : decode cX1_leastHard 40 = .ok (.iconst 5, 1) := by decide +kernel
theorem dX1_leastHard_41 : decode cX1_leastHard 41 = .ok (.istore 4, 2) := by decide +kernel
theorem dX1_leastHard_43 : decode cX1_leastHard 43 = .ok (.iload 4, 2) := by decide +kernel
theorem dX1_leastHard_45 : decode cX1_leastHard 45 = .ok (.ifCond .lt 40, 3) := by decide +kernel
theorem dX1_leastHard_48 : decode cX1_leastHard 48 = .ok (.aload_n 0, 1) := by decide +kernel
theorem dX1_leastHard_49 : decode cX1_leastHard 49 = .ok (.getfield 15, 3) := by decide +kernel
theorem dX1_leastHard_52 : decode cX1_leastHard 52 = .ok (.iload 4, 2) := by decide +kernel
theorem dX1_leastHard_54 : decode cX1_leastHard 54 = .ok (.aload_n 0, 1) := by decide +kernel
theorem dX1_leastHard_55 : decode cX1_leastHard 55 = .ok (.getfield 18, 3) := by decide +kernel
theorem dX1_leastHard_58 : decode cX1_leastHard 58 = .ok (.iload 4, 2) := by decide +kernel
theorem dX1_leastHard_60 : decode cX1_leastHard 60 = .ok (.iload_n 2, 1) := by decide +kernel
theorem dX1_leastHard_61 : decode cX1_leastHard 61 = .ok (.aload_n 0, 1) := by decide +kernel
theorem dX1_leastHard_62 : decode cX1_leastHard 62 = .ok (.getfield 18, 3) := by decide +kernel
theorem dX1_leastHard_65 : decode cX1_leastHard 65 = .ok (.getfield 29, 3) := by decide +kernel
theorem dX1_leastHard_68 : decode cX1_leastHard 68 = .ok (.invokevirtual 35, 3) := by decide +kernel
theorem dX1_leastHard_71 : decode cX1_leastHard 71 = .ok (.iastore, 1) := by decide +kernel
theorem dX1_leastHard_72 : decode cX1_leastHard 72 = .ok (.aload_n 0, 1) := by decide +kernel
theorem dX1_leastHard_73 : decode cX1_leastHard 73 = .ok (.iload 4, 2) := by decide +kernel
theorem dX1_leastHard_75 : decode cX1_leastHard 75 = .ok (.iload_n 1, 1) := by decide +kernel
theorem dX1_leastHard_76 : decode cX1_leastHard 76 = .ok (.invokevirtual 39, 3) := by decide +kernel
theorem dX1_leastHard_79 : decode cX1_leastHard 79 = .ok (.iinc 4 (-1), 3) := by decide +kernel
theorem dX1_leastHard_82 : decode cX1_leastHard 82 = .ok (.goto (-39), 3) := by decide +kernel
theorem dX1_leastHard_85 : decode cX1_leastHard 85 = .ok (.aload_n 0, 1) := by decide +kernel
theorem dX1_leastHard_86 : decode cX1_leastHard 86 = .ok (.getfield 11, 3) := by decide +kernel
theorem dX1_leastHard_89 : decode cX1_leastHard 89 = .ok (.iload_n 1, 1) := by decide +kernel
theorem dX1_leastHard_90 : decode cX1_leastHard 90 = .ok (.iaload, 1) := by decide +kernel
theorem dX1_leastHard_91 : decode cX1_leastHard 91 = .ok (.ldc 22, 2) := by decide +kernel
theorem dX1_leastHard_93 : decode cX1_leastHard 93 = .ok (.if_icmp .lt 6, 3) := by decide +kernel
theorem dX1_leastHard_96 : decode cX1_leastHard 96 = .ok (.bipush (-9), 2) := by decide +kernel
theorem dX1_leastHard_98 : decode cX1_leastHard 98 = .ok (.ireturn, 1) := by decide +kernel
theorem dX1_leastHard_99 : decode cX1_leastHard 99 = .ok (.iload_n 3, 1) := by decide +kernel
theorem dX1_leastHard_100 : decode cX1_leastHard 100 = .ok (.bipush 6, 2) := by decide +kernel
theorem dX1_leastHard_102 : decode cX1_leastHard 102 = .ok (.if_icmp .ne 12, 3) := by decide +kernel
theorem dX1_leastHard_105 : decode cX1_leastHard 105 = .ok (.aload_n 0, 1) := by decide +kernel
theorem dX1_leastHard_106 : decode cX1_leastHard 106 = .ok (.getfield 11, 3) := by decide +kernel
theorem dX1_leastHard_109 : decode cX1_leastHard 109 = .ok (.iload_n 1, 1) := by decide +kernel
theorem dX1_leastHard_110 : decode cX1_leastHard 110 = .ok (.iaload, 1) := by decide +kernel
theorem dX1_leastHard_111 : decode cX1_leastHard 111 = .ok (.goto 9, 3) := by decide +kernel
theorem dX1_leastHard_114 : decode cX1_leastHard 114 = .ok (.aload_n 0, 1) := by decide +kernel
theorem dX1_leastHard_115 : decode cX1_leastHard 115 = .ok (.iload_n 3, 1) := by decide +kernel
theorem dX1_leastHard_116 : decode cX1_leastHard 116 = .ok (.iload_n 1, 1) := by decide +kernel
theorem dX1_leastHard_117 : decode cX1_leastHard 117 = .ok (.invokevirtual 43, 3) := by decide +kernel
theorem dX1_leastHard_120 : decode cX1_leastHard 120 = .ok (.ireturn, 1) := by decide +kernel
set_option maxRecDepth 20000 in
theorem ggX1_fillLevel_X1_offerPart : GoodIn wsX1_fillLevel wsX1_offerPart := goodIn_r _ [15, 16, 17, 18, 9, 19, 1, 7, 8, 10, 20, 21, 22, 23, 24, 25, 26, 27, 28, 29, 30, 31] (by decide +kernel) (by decide +kernel)
set_option maxRecDepth 20000 in
theorem gX1_fillLevel_X1_offerPart : GoodIn wsX1_fillLevel (wsV RX1 58 RX1 yX1_offerPart wsX1_offerPart) := goodIn_app (goodIn_of _ (by decide +kernel)) ggX1_fillLevel_X1_offerPart
theorem dX1_fillLevel_0 : decode cX1_fillLevel 0 = .ok (.iload_n 1, 1) := by decide +kernel
theorem dX1_fillLevel_1 : decode cX1_fillLevel 1 = .ok (.sipush 1001, 3) := by decide +kernel
theorem dX1_fillLevel_4 : decode cX1_fillLevel 4 = .ok (.imul, 1) := by decide +kernel
theorem dX1_fillLevel_5 : decode cX1_fillLevel 5 = .ok (.istore_n 3, 1) := by decide +kernel
theorem dX1_fillLevel_6 : decode cX1_fillLevel 6 = .ok (.aload_n 0, 1) := by decide +kernel
theorem dX1_fillLevel_7 : decode cX1_fillLevel 7 = .ok (.getfield 11, 3) := by decide +kernel
theorem dX1_fillLevel_10 : decode cX1_fillLevel 10 = .ok (.iload_n 3, 1) := by decide +kernel
theorem dX1_fillLevel_11 : decode cX1_fillLevel 11 = .ok (.sipush 1001, 3) := by decide +kernel
theorem dX1_fillLevel_14 : decode cX1_fillLevel 14 = .ok (.iadd, 1) := by decide +kernel
theorem dX1_fillLevel_15 : decode cX1_fillLevel 15 = .ok (.aload_n 0, 1) := by decide +kernel
theorem dX1_fillLevel_16 : decode cX1_fillLevel 16 = .ok (.getfield 11, 3) := by decide +kernel
theorem dX1_fillLevel_19 : decode cX1_fillLevel 19 = .ok (.iload_n 3, 1) := by decide +kernel
theorem dX1_fillLevel_20 : decode cX1_fillLevel 20 = .ok (.sipush 1001, 3) := by decide +kernel
theorem dX1_fillLevel_23 : decode cX1_fillLevel 23 = .ok (.invokestatic 47, 3) := by decide +kernel
theorem dX1_fillLevel_26 : decode cX1_fillLevel 26 = .ok (.aload_n 0, 1) := by decide +kernel
theorem dX1_fillLevel_27 : decode cX1_fillLevel 27 = .ok (.getfield 15, 3) := by decide +kernel
theorem dX1_fillLevel_30 : decode cX1_fillLevel 30 = .ok (.iload_n 1, 1) := by decide +kernel
theorem dX1_fillLevel_31 : decode cX1_fillLevel 31 = .ok (.iaload, 1) := by decide +kernel
theorem dX1_fillLevel_32 : decode cX1_fillLevel 32 = .ok (.istore 4, 2) := by decide +kernel
theorem dX1_fillLevel_34 : decode cX1_fillLevel 34 = .ok (.iconst 0, 1) := by decide +kernel
theorem dX1_fillLevel_35 : decode cX1_fillLevel 35 = .ok (.istore 5, 2) := by decide +kernel
theorem dX1_fillLevel_37 : decode cX1_fillLevel 37 = .ok (.iload 5, 2) := by decide +kernel
theorem dX1_fillLevel_39 : decode cX1_fillLevel 39 = .ok (.bipush 10, 2) := by decide +kernel
theorem dX1_fillLevel_41 : decode cX1_fillLevel 41 = .ok (.if_icmp .ge 40, 3) := by decide +kernel
theorem dX1_fillLevel_44 : decode cX1_fillLevel 44 = .ok (.iload 4, 2) := by decide +kernel
theorem dX1_fillLevel_46 : decode cX1_fillLevel 46 = .ok (.ifCond .le 35, 3) := by decide +kernel
theorem dX1_fillLevel_49 : decode cX1_fillLevel 49 = .ok (.iconst 1, 1) := by decide +kernel
theorem dX1_fillLevel_50 : decode cX1_fillLevel 50 = .ok (.iload 5, 2) := by decide +kernel
theorem dX1_fillLevel_52 : decode cX1_fillLevel 52 = .ok (.ishl, 1) := by decide +kernel
theorem dX1_fillLevel_53 : decode cX1_fillLevel 53 = .ok (.iload 4, 2) := by decide +kernel
theorem dX1_fillLevel_55 : decode cX1_fillLevel 55 = .ok (.invokestatic 53, 3) := by decide +kernel
theorem dX1_fillLevel_58 : decode cX1_fillLevel 58 = .ok (.istore 6, 2) := by decide +kernel
theorem dX1_fillLevel_60 : decode cX1_fillLevel 60 = .ok (.aload_n 0, 1) := by decide +kernel
theorem dX1_fillLevel_61 : decode cX1_fillLevel 61 = .ok (.iload_n 1, 1) := by decide +kernel
theorem dX1_fillLevel_62 : decode cX1_fillLevel 62 = .ok (.iload 6, 2) := by decide +kernel
theorem dX1_fillLevel_64 : decode cX1_fillLevel 64 = .ok (.iload_n 2, 1) := by decide +kernel
theorem dX1_fillLevel_65 : decode cX1_fillLevel 65 = .ok (.invokevirtual 58, 3) := by decide +kernel
theorem dX1_fillLevel_68 : decode cX1_fillLevel 68 = .ok (.iload 4, 2) := by decide +kernel
theorem dX1_fillLevel_70 : decode cX1_fillLevel 70 = .ok (.iload 6, 2) := by decide +kernel
theorem dX1_fillLevel_72 : decode cX1_fillLevel 72 = .ok (.isub, 1) := by decide +kernel
theorem dX1_fillLevel_73 : decode cX1_fillLevel 73 = .ok (.istore 4, 2) := by decide +kernel
theorem dX1_fillLevel_75 : decode cX1_fillLevel 75 = .ok (.iinc 5 1, 3) := by decide +kernel
theorem dX1_fillLevel_78 : decode cX1_fillLevel 78 = .ok (.goto (-41), 3) := by decide +kernel
theorem dX1_fillLevel_81 : decode cX1_fillLevel 81 = .ok (.return_, 1) := by decide +kernel
set_option maxRecDepth 20000 in
theorem ggX1_offerPart_X4_number : GoodIn wsX1_offerPart wsX4_number := goodIn_r _ [14, 15, 19, 20, 21] (by decide +kernel) (by decide +kernel)
set_option maxRecDepth 20000 in
theorem gX1_offerPart_X4_number : GoodIn wsX1_offerPart (wsV RX1 62 RX4 yX4_number wsX4_number) := goodIn_app (goodIn_of _ (by decide +kernel)) ggX1_offerPart_X4_number
theorem dX1_offerPart_0 : decode cX1_offerPart 0 = .ok (.iload_n 1, 1) := by decide +kernel
theorem dX1_offerPart_1 : decode cX1_offerPart 1 = .ok (.sipush 1001, 3) := by decide +kernel
theorem dX1_offerPart_4 : decode cX1_offerPart 4 = .ok (.imul, 1) := by decide +kernel
theorem dX1_offerPart_5 : decode cX1_offerPart 5 = .ok (.istore 4, 2) := by decide +kernel
theorem dX1_offerPart_7 : decode cX1_offerPart 7 = .ok (.iload_n 2, 1) := by decide +kernel
theorem dX1_offerPart_8 : decode cX1_offerPart 8 = .ok (.aload_n 0, 1) := by decide +kernel
theorem dX1_offerPart_9 : decode cX1_offerPart 9 = .ok (.getfield 18, 3) := by decide +kernel
theorem dX1_offerPart_12 : decode cX1_offerPart 12 = .ok (.iload_n 1, 1) := by decide +kernel
theorem dX1_offerPart_13 : decode cX1_offerPart 13 = .ok (.iconst 0, 1) := by decide +kernel
theorem dX1_offerPart_14 : decode cX1_offerPart 14 = .ok (.invokevirtual 62, 3) := by decide +kernel
theorem dX1_offerPart_17 : decode cX1_offerPart 17 = .ok (.imul, 1) := by decide +kernel
theorem dX1_offerPart_18 : decode cX1_offerPart 18 = .ok (.istore 5, 2) := by decide +kernel
theorem dX1_offerPart_20 : decode cX1_offerPart 20 = .ok (.iload_n 2, 1) := by decide +kernel
theorem dX1_offerPart_21 : decode cX1_offerPart 21 = .ok (.aload_n 0, 1) := by decide +kernel
theorem dX1_offerPart_22 : decode cX1_offerPart 22 = .ok (.getfield 18, 3) := by decide +kernel
theorem dX1_offerPart_25 : decode cX1_offerPart 25 = .ok (.iload_n 1, 1) := by decide +kernel
theorem dX1_offerPart_26 : decode cX1_offerPart 26 = .ok (.iconst 1, 1) := by decide +kernel
theorem dX1_offerPart_27 : decode cX1_offerPart 27 = .ok (.invokevirtual 62, 3) := by decide +kernel
theorem dX1_offerPart_30 : decode cX1_offerPart 30 = .ok (.imul, 1) := by decide +kernel
theorem dX1_offerPart_31 : decode cX1_offerPart 31 = .ok (.istore 6, 2) := by decide +kernel
theorem dX1_offerPart_33 : decode cX1_offerPart 33 = .ok (.iload_n 3, 1) := by decide +kernel
theorem dX1_offerPart_34 : decode cX1_offerPart 34 = .ok (.istore 7, 2) := by decide +kernel
theorem dX1_offerPart_36 : decode cX1_offerPart 36 = .ok (.iload 7, 2) := by decide +kernel
theorem dX1_offerPart_38 : decode cX1_offerPart 38 = .ok (.ifCond .le 60, 3) := by decide +kernel
theorem dX1_offerPart_41 : decode cX1_offerPart 41 = .ok (.iconst 0, 1) := by decide +kernel
theorem dX1_offerPart_42 : decode cX1_offerPart 42 = .ok (.iload 7, 2) := by decide +kernel
theorem dX1_offerPart_44 : decode cX1_offerPart 44 = .ok (.iload 5, 2) := by decide +kernel
theorem dX1_offerPart_46 : decode cX1_offerPart 46 = .ok (.isub, 1) := by decide +kernel
theorem dX1_offerPart_47 : decode cX1_offerPart 47 = .ok (.invokestatic 65, 3) := by decide +kernel
theorem dX1_offerPart_50 : decode cX1_offerPart 50 = .ok (.istore 8, 2) := by decide +kernel
theorem dX1_offerPart_52 : decode cX1_offerPart 52 = .ok (.aload_n 0, 1) := by decide +kernel
theorem dX1_offerPart_53 : decode cX1_offerPart 53 = .ok (.getfield 11, 3) := by decide +kernel
theorem dX1_offerPart_56 : decode cX1_offerPart 56 = .ok (.iload 4, 2) := by decide +kernel
theorem dX1_offerPart_58 : decode cX1_offerPart 58 = .ok (.iload 8, 2) := by decide +kernel
theorem dX1_offerPart_60 : decode cX1_offerPart 60 = .ok (.iadd, 1) := by decide +kernel
theorem dX1_offerPart_61 : decode cX1_offerPart 61 = .ok (.iaload, 1) := by decide +kernel
theorem dX1_offerPart_62 : decode cX1_offerPart 62 = .ok (.iload 6, 2) := by decide +kernel
theorem dX1_offerPart_64 : decode cX1_offerPart 64 = .ok (.iadd, 1) := by decide +kernel
theorem dX1_offerPart_65 : decode cX1_offerPart 65 = .ok (.istore 9, 2) := by decide +kernel
theorem dX1_offerPart_67 : decode cX1_offerPart 67 = .ok (.aload_n 0, 1) := by decide +kernel
theorem dX1_offerPart_68 : decode cX1_offerPart 68 = .ok (.getfield 11, 3) := by decide +kernel
theorem dX1_offerPart_71 : decode cX1_offerPart 71 = .ok (.iload 4, 2) := by decide +kernel
theorem dX1_offerPart_73 : decode cX1_offerPart 73 = .ok (.iload 7, 2) := by decide +kernel
theorem dX1_offerPart_75 : decode cX1_offerPart 75 = .ok (.iadd, 1) := by decide +kernel
theorem dX1_offerPart_76 : decode cX1_offerPart 76 = .ok (.aload_n 0, 1) := by decide +kernel
theorem dX1_offerPart_77 : decode cX1_offerPart 77 = .ok (.getfield 11, 3) := by decide +kernel
theorem dX1_offerPart_80 : decode cX1_offerPart 80 = .ok (.iload 4, 2) := by decide +kernel
theorem dX1_offerPart_82 : decode cX1_offerPart 82 = .ok (.iload 7, 2) := by decide +kernel
theorem dX1_offerPart_84 : decode cX1_offerPart 84 = .ok (.iadd, 1) := by decide +kernel
theorem dX1_offerPart_85 : decode cX1_offerPart 85 = .ok (.iaload, 1) := by decide +kernel
theorem dX1_offerPart_86 : decode cX1_offerPart 86 = .ok (.iload 9, 2) := by decide +kernel
theorem dX1_offerPart_88 : decode cX1_offerPart 88 = .ok (.invokestatic 53, 3) := by decide +kernel
theorem dX1_offerPart_91 : decode cX1_offerPart 91 = .ok (.iastore, 1) := by decide +kernel
theorem dX1_offerPart_92 : decode cX1_offerPart 92 = .ok (.iinc 7 (-1), 3) := by decide +kernel
theorem dX1_offerPart_95 : decode cX1_offerPart 95 = .ok (.goto (-59), 3) := by decide +kernel
theorem dX1_offerPart_98 : decode cX1_offerPart 98 = .ok (.return_, 1) := by decide +kernel
set_option maxRecDepth 20000 in
theorem ggX1_unitsOf_X1_fewest : GoodIn wsX1_unitsOf wsX1_fewest := goodIn_r _ [10, 1, 11, 2, 3, 4, 5, 12, 13, 14, 15, 16, 17, 18, 19, 20, 21, 22, 23, 24] (by decide +kernel) (by decide +kernel)
set_option maxRecDepth 20000 in
theorem gX1_unitsOf_X1_fewest : GoodIn wsX1_unitsOf (wsV RX1 68 RX1 yX1_fewest wsX1_fewest) := goodIn_app (goodIn_of _ (by decide +kernel)) ggX1_unitsOf_X1_fewest
set_option maxRecDepth 20000 in
theorem ggX1_unitsOf_X4_number : GoodIn wsX1_unitsOf wsX4_number := goodIn_r _ [17, 18, 22, 23, 24] (by decide +kernel) (by decide +kernel)
set_option maxRecDepth 20000 in
theorem gX1_unitsOf_X4_number : GoodIn wsX1_unitsOf (wsV RX1 62 RX4 yX4_number wsX4_number) := goodIn_app (goodIn_of _ (by decide +kernel)) ggX1_unitsOf_X4_number
theorem dX1_unitsOf_0 : decode cX1_unitsOf 0 = .ok (.iload_n 2, 1) := by decide +kernel
theorem dX1_unitsOf_1 : decode cX1_unitsOf 1 = .ok (.istore_n 3, 1) := by decide +kernel
theorem dX1_unitsOf_2 : decode cX1_unitsOf 2 = .ok (.iconst 0, 1) := by decide +kernel
theorem dX1_unitsOf_3 : decode cX1_unitsOf 3 = .ok (.istore 4, 2) := by decide +kernel
theorem dX1_unitsOf_5 : decode cX1_unitsOf 5 = .ok (.iconst 0, 1) := by decide +kernel
theorem dX1_unitsOf_6 : decode cX1_unitsOf 6 = .ok (.istore 5, 2) := by decide +kernel
theorem dX1_unitsOf_8 : decode cX1_unitsOf 8 = .ok (.iload 5, 2) := by decide +kernel
theorem dX1_unitsOf_10 : decode cX1_unitsOf 10 = .ok (.iload_n 1, 1) := by decide +kernel
theorem dX1_unitsOf_11 : decode cX1_unitsOf 11 = .ok (.if_icmp .gt 45, 3) := by decide +kernel
theorem dX1_unitsOf_14 : decode cX1_unitsOf 14 = .ok (.iload 5, 2) := by decide +kernel
theorem dX1_unitsOf_16 : decode cX1_unitsOf 16 = .ok (.bipush 6, 2) := by decide +kernel
theorem dX1_unitsOf_18 : decode cX1_unitsOf 18 = .ok (.if_icmp .ge 38, 3) := by decide +kernel
theorem dX1_unitsOf_21 : decode cX1_unitsOf 21 = .ok (.aload_n 0, 1) := by decide +kernel
theorem dX1_unitsOf_22 : decode cX1_unitsOf 22 = .ok (.iload 5, 2) := by decide +kernel
theorem dX1_unitsOf_24 : decode cX1_unitsOf 24 = .ok (.iload_n 3, 1) := by decide +kernel
theorem dX1_unitsOf_25 : decode cX1_unitsOf 25 = .ok (.invokevirtual 68, 3) := by decide +kernel
theorem dX1_unitsOf_28 : decode cX1_unitsOf 28 = .ok (.istore 4, 2) := by decide +kernel
theorem dX1_unitsOf_30 : decode cX1_unitsOf 30 = .ok (.iconst 0, 1) := by decide +kernel
theorem dX1_unitsOf_31 : decode cX1_unitsOf 31 = .ok (.iload_n 3, 1) := by decide +kernel
theorem dX1_unitsOf_32 : decode cX1_unitsOf 32 = .ok (.iload 4, 2) := by decide +kernel
theorem dX1_unitsOf_34 : decode cX1_unitsOf 34 = .ok (.aload_n 0, 1) := by decide +kernel
theorem dX1_unitsOf_35 : decode cX1_unitsOf 35 = .ok (.getfield 18, 3) := by decide +kernel
theorem dX1_unitsOf_38 : decode cX1_unitsOf 38 = .ok (.iload 5, 2) := by decide +kernel
theorem dX1_unitsOf_40 : decode cX1_unitsOf 40 = .ok (.iconst 0, 1) := by decide +kernel
theorem dX1_unitsOf_41 : decode cX1_unitsOf 41 = .ok (.invokevirtual 62, 3) := by decide +kernel
theorem dX1_unitsOf_44 : decode cX1_unitsOf 44 = .ok (.imul, 1) := by decide +kernel
theorem dX1_unitsOf_45 : decode cX1_unitsOf 45 = .ok (.isub, 1) := by decide +kernel
theorem dX1_unitsOf_46 : decode cX1_unitsOf 46 = .ok (.invokestatic 65, 3) := by decide +kernel
theorem dX1_unitsOf_49 : decode cX1_unitsOf 49 = .ok (.istore_n 3, 1) := by decide +kernel
theorem dX1_unitsOf_50 : decode cX1_unitsOf 50 = .ok (.iinc 5 1, 3) := by decide +kernel
theorem dX1_unitsOf_53 : decode cX1_unitsOf 53 = .ok (.goto (-45), 3) := by decide +kernel
theorem dX1_unitsOf_56 : decode cX1_unitsOf 56 = .ok (.iload 4, 2) := by decide +kernel
theorem dX1_unitsOf_58 : decode cX1_unitsOf 58 = .ok (.ireturn, 1) := by decide +kernel
set_option maxRecDepth 20000 in
theorem ggX1_fewest_X4_number : GoodIn wsX1_fewest wsX4_number := goodIn_r _ [12, 13, 17, 18, 19] (by decide +kernel) (by decide +kernel)
set_option maxRecDepth 20000 in
theorem gX1_fewest_X4_number : GoodIn wsX1_fewest (wsV RX1 62 RX4 yX4_number wsX4_number) := goodIn_app (goodIn_of _ (by decide +kernel)) ggX1_fewest_X4_number
theorem dX1_fewest_0 : decode cX1_fewest 0 = .ok (.aload_n 0, 1) := by decide +kernel
theorem dX1_fewest_1 : decode cX1_fewest 1 = .ok (.getfield 18, 3) := by decide +kernel
theorem dX1_fewest_4 : decode cX1_fewest 4 = .ok (.iload_n 1, 1) := by decide +kernel
theorem dX1_fewest_5 : decode cX1_fewest 5 = .ok (.iconst 0, 1) := by decide +kernel
theorem dX1_fewest_6 : decode cX1_fewest 6 = .ok (.invokevirtual 62, 3) := by decide +kernel
theorem dX1_fewest_9 : decode cX1_fewest 9 = .ok (.istore_n 3, 1) := by decide +kernel
theorem dX1_fewest_10 : decode cX1_fewest 10 = .ok (.aload_n 0, 1) := by decide +kernel
theorem dX1_fewest_11 : decode cX1_fewest 11 = .ok (.getfield 18, 3) := by decide +kernel
theorem dX1_fewest_14 : decode cX1_fewest 14 = .ok (.iload_n 1, 1) := by decide +kernel
theorem dX1_fewest_15 : decode cX1_fewest 15 = .ok (.iconst 1, 1) := by decide +kernel
theorem dX1_fewest_16 : decode cX1_fewest 16 = .ok (.invokevirtual 62, 3) := by decide +kernel
theorem dX1_fewest_19 : decode cX1_fewest 19 = .ok (.istore 4, 2) := by decide +kernel
theorem dX1_fewest_21 : decode cX1_fewest 21 = .ok (.iload_n 1, 1) := by decide +kernel
theorem dX1_fewest_22 : decode cX1_fewest 22 = .ok (.sipush 1001, 3) := by decide +kernel
theorem dX1_fewest_25 : decode cX1_fewest 25 = .ok (.imul, 1) := by decide +kernel
theorem dX1_fewest_26 : decode cX1_fewest 26 = .ok (.istore 5, 2) := by decide +kernel
theorem dX1_fewest_28 : decode cX1_fewest 28 = .ok (.iconst 0, 1) := by decide +kernel
theorem dX1_fewest_29 : decode cX1_fewest 29 = .ok (.istore 6, 2) := by decide +kernel
theorem dX1_fewest_31 : decode cX1_fewest 31 = .ok (.iload 6, 2) := by decide +kernel
theorem dX1_fewest_33 : decode cX1_fewest 33 = .ok (.aload_n 0, 1) := by decide +kernel
theorem dX1_fewest_34 : decode cX1_fewest 34 = .ok (.getfield 15, 3) := by decide +kernel
theorem dX1_fewest_37 : decode cX1_fewest 37 = .ok (.iload_n 1, 1) := by decide +kernel
theorem dX1_fewest_38 : decode cX1_fewest 38 = .ok (.iaload, 1) := by decide +kernel
theorem dX1_fewest_39 : decode cX1_fewest 39 = .ok (.if_icmp .ge 56, 3) := by decide +kernel
theorem dX1_fewest_42 : decode cX1_fewest 42 = .ok (.iconst 0, 1) := by decide +kernel
theorem dX1_fewest_43 : decode cX1_fewest 43 = .ok (.iload_n 2, 1) := by decide +kernel
theorem dX1_fewest_44 : decode cX1_fewest 44 = .ok (.iload 6, 2) := by decide +kernel
theorem dX1_fewest_46 : decode cX1_fewest 46 = .ok (.iload_n 3, 1) := by decide +kernel
theorem dX1_fewest_47 : decode cX1_fewest 47 = .ok (.imul, 1) := by decide +kernel
theorem dX1_fewest_48 : decode cX1_fewest 48 = .ok (.isub, 1) := by decide +kernel
theorem dX1_fewest_49 : decode cX1_fewest 49 = .ok (.invokestatic 65, 3) := by decide +kernel
theorem dX1_fewest_52 : decode cX1_fewest 52 = .ok (.istore 7, 2) := by decide +kernel
theorem dX1_fewest_54 : decode cX1_fewest 54 = .ok (.aload_n 0, 1) := by decide +kernel
theorem dX1_fewest_55 : decode cX1_fewest 55 = .ok (.getfield 11, 3) := by decide +kernel
theorem dX1_fewest_58 : decode cX1_fewest 58 = .ok (.iload 5, 2) := by decide +kernel
theorem dX1_fewest_60 : decode cX1_fewest 60 = .ok (.sipush 1001, 3) := by decide +kernel
theorem dX1_fewest_63 : decode cX1_fewest 63 = .ok (.iadd, 1) := by decide +kernel
theorem dX1_fewest_64 : decode cX1_fewest 64 = .ok (.iload 7, 2) := by decide +kernel
theorem dX1_fewest_66 : decode cX1_fewest 66 = .ok (.iadd, 1) := by decide +kernel
theorem dX1_fewest_67 : decode cX1_fewest 67 = .ok (.iaload, 1) := by decide +kernel
theorem dX1_fewest_68 : decode cX1_fewest 68 = .ok (.iload 6, 2) := by decide +kernel
theorem dX1_fewest_70 : decode cX1_fewest 70 = .ok (.iload 4, 2) := by decide +kernel
theorem dX1_fewest_72 : decode cX1_fewest 72 = .ok (.imul, 1) := by decide +kernel
theorem dX1_fewest_73 : decode cX1_fewest 73 = .ok (.iadd, 1) := by decide +kernel
theorem dX1_fewest_74 : decode cX1_fewest 74 = .ok (.aload_n 0, 1) := by decide +kernel
theorem dX1_fewest_75 : decode cX1_fewest 75 = .ok (.getfield 11, 3) := by decide +kernel
theorem dX1_fewest_78 : decode cX1_fewest 78 = .ok (.iload 5, 2) := by decide +kernel
theorem dX1_fewest_80 : decode cX1_fewest 80 = .ok (.iload_n 2, 1) := by decide +kernel
theorem dX1_fewest_81 : decode cX1_fewest 81 = .ok (.iadd, 1) := by decide +kernel
theorem dX1_fewest_82 : decode cX1_fewest 82 = .ok (.iaload, 1) := by decide +kernel
theorem dX1_fewest_83 : decode cX1_fewest 83 = .ok (.if_icmp .ne 6, 3) := by decide +kernel
theorem dX1_fewest_86 : decode cX1_fewest 86 = .ok (.iload 6, 2) := by decide +kernel
theorem dX1_fewest_88 : decode cX1_fewest 88 = .ok (.ireturn, 1) := by decide +kernel
theorem dX1_fewest_89 : decode cX1_fewest 89 = .ok (.iinc 6 1, 3) := by decide +kernel
theorem dX1_fewest_92 : decode cX1_fewest 92 = .ok (.goto (-61), 3) := by decide +kernel
theorem dX1_fewest_95 : decode cX1_fewest 95 = .ok (.aload_n 0, 1) := by decide +kernel
theorem dX1_fewest_96 : decode cX1_fewest 96 = .ok (.getfield 15, 3) := by decide +kernel
theorem dX1_fewest_99 : decode cX1_fewest 99 = .ok (.iload_n 1, 1) := by decide +kernel
theorem dX1_fewest_100 : decode cX1_fewest 100 = .ok (.iaload, 1) := by decide +kernel
theorem dX1_fewest_101 : decode cX1_fewest 101 = .ok (.ireturn, 1) := by decide +kernel
theorem dX2_init_0 : decode cX2_init 0 = .ok (.aload_n 0, 1) := by decide +kernel
theorem dX2_init_1 : decode cX2_init 1 = .ok (.invokespecial 1, 3) := by decide +kernel
theorem dX2_init_4 : decode cX2_init 4 = .ok (.aload_n 0, 1) := by decide +kernel
theorem dX2_init_5 : decode cX2_init 5 = .ok (.iload_n 1, 1) := by decide +kernel
theorem dX2_init_6 : decode cX2_init 6 = .ok (.iconst 0, 1) := by decide +kernel
theorem dX2_init_7 : decode cX2_init 7 = .ok (.invokestatic 7, 3) := by decide +kernel
theorem dX2_init_10 : decode cX2_init 10 = .ok (.newarray .byte, 2) := by decide +kernel
theorem dX2_init_12 : decode cX2_init 12 = .ok (.putfield 13, 3) := by decide +kernel
theorem dX2_init_15 : decode cX2_init 15 = .ok (.return_, 1) := by decide +kernel
theorem dX2_size_0 : decode cX2_size 0 = .ok (.aload_n 0, 1) := by decide +kernel
theorem dX2_size_1 : decode cX2_size 1 = .ok (.getfield 19, 3) := by decide +kernel
theorem dX2_size_4 : decode cX2_size 4 = .ok (.ireturn, 1) := by decide +kernel
theorem dX2_room_0 : decode cX2_room 0 = .ok (.aload_n 0, 1) := by decide +kernel
theorem dX2_room_1 : decode cX2_room 1 = .ok (.getfield 13, 3) := by decide +kernel
theorem dX2_room_4 : decode cX2_room 4 = .ok (.arraylength, 1) := by decide +kernel
theorem dX2_room_5 : decode cX2_room 5 = .ok (.aload_n 0, 1) := by decide +kernel
theorem dX2_room_6 : decode cX2_room 6 = .ok (.getfield 19, 3) := by decide +kernel
theorem dX2_room_9 : decode cX2_room 9 = .ok (.isub, 1) := by decide +kernel
theorem dX2_room_10 : decode cX2_room 10 = .ok (.ireturn, 1) := by decide +kernel
theorem dX2_add_0 : decode cX2_add 0 = .ok (.aload_n 0, 1) := by decide +kernel
theorem dX2_add_1 : decode cX2_add 1 = .ok (.getfield 19, 3) := by decide +kernel
theorem dX2_add_4 : decode cX2_add 4 = .ok (.aload_n 0, 1) := by decide +kernel
theorem dX2_add_5 : decode cX2_add 5 = .ok (.getfield 13, 3) := by decide +kernel
theorem dX2_add_8 : decode cX2_add 8 = .ok (.arraylength, 1) := by decide +kernel
theorem dX2_add_9 : decode cX2_add 9 = .ok (.if_icmp .ge 23, 3) := by decide +kernel
theorem dX2_add_12 : decode cX2_add 12 = .ok (.aload_n 0, 1) := by decide +kernel
theorem dX2_add_13 : decode cX2_add 13 = .ok (.getfield 13, 3) := by decide +kernel
theorem dX2_add_16 : decode cX2_add 16 = .ok (.aload_n 0, 1) := by decide +kernel
theorem dX2_add_17 : decode cX2_add 17 = .ok (.getfield 19, 3) := by decide +kernel
theorem dX2_add_20 : decode cX2_add 20 = .ok (.iload_n 1, 1) := by decide +kernel
theorem dX2_add_21 : decode cX2_add 21 = .ok (.bastore, 1) := by decide +kernel
theorem dX2_add_22 : decode cX2_add 22 = .ok (.aload_n 0, 1) := by decide +kernel
theorem dX2_add_23 : decode cX2_add 23 = .ok (.dup, 1) := by decide +kernel
theorem dX2_add_24 : decode cX2_add 24 = .ok (.getfield 19, 3) := by decide +kernel
theorem dX2_add_27 : decode cX2_add 27 = .ok (.iconst 1, 1) := by decide +kernel
theorem dX2_add_28 : decode cX2_add 28 = .ok (.iadd, 1) := by decide +kernel
theorem dX2_add_29 : decode cX2_add 29 = .ok (.putfield 19, 3) := by decide +kernel
theorem dX2_add_32 : decode cX2_add 32 = .ok (.return_, 1) := by decide +kernel
theorem dX2_at_0 : decode cX2_at 0 = .ok (.iload_n 1, 1) := by decide +kernel
theorem dX2_at_1 : decode cX2_at 1 = .ok (.ifCond .lt 20, 3) := by decide +kernel
theorem dX2_at_4 : decode cX2_at 4 = .ok (.iload_n 1, 1) := by decide +kernel
theorem dX2_at_5 : decode cX2_at 5 = .ok (.aload_n 0, 1) := by decide +kernel
theorem dX2_at_6 : decode cX2_at 6 = .ok (.getfield 19, 3) := by decide +kernel
theorem dX2_at_9 : decode cX2_at 9 = .ok (.if_icmp .ge 12, 3) := by decide +kernel
theorem dX2_at_12 : decode cX2_at 12 = .ok (.aload_n 0, 1) := by decide +kernel
theorem dX2_at_13 : decode cX2_at 13 = .ok (.getfield 13, 3) := by decide +kernel
theorem dX2_at_16 : decode cX2_at 16 = .ok (.iload_n 1, 1) := by decide +kernel
theorem dX2_at_17 : decode cX2_at 17 = .ok (.baload, 1) := by decide +kernel
theorem dX2_at_18 : decode cX2_at 18 = .ok (.goto 4, 3) := by decide +kernel
theorem dX2_at_21 : decode cX2_at 21 = .ok (.iconst (-1), 1) := by decide +kernel
theorem dX2_at_22 : decode cX2_at 22 = .ok (.ireturn, 1) := by decide +kernel
theorem dX2_clear_0 : decode cX2_clear 0 = .ok (.aload_n 0, 1) := by decide +kernel
theorem dX2_clear_1 : decode cX2_clear 1 = .ok (.iconst 0, 1) := by decide +kernel
theorem dX2_clear_2 : decode cX2_clear 2 = .ok (.putfield 19, 3) := by decide +kernel
theorem dX2_clear_5 : decode cX2_clear 5 = .ok (.return_, 1) := by decide +kernel
theorem dX3_init_0 : decode cX3_init 0 = .ok (.aload_n 0, 1) := by decide +kernel
theorem dX3_init_1 : decode cX3_init 1 = .ok (.invokespecial 3, 3) := by decide +kernel
theorem dX3_init_4 : decode cX3_init 4 = .ok (.aload_n 0, 1) := by decide +kernel
theorem dX3_init_5 : decode cX3_init 5 = .ok (.bipush 6, 2) := by decide +kernel
theorem dX3_init_7 : decode cX3_init 7 = .ok (.newarray .int, 2) := by decide +kernel
theorem dX3_init_9 : decode cX3_init 9 = .ok (.putfield 9, 3) := by decide +kernel
theorem dX3_init_12 : decode cX3_init 12 = .ok (.aload_n 0, 1) := by decide +kernel
theorem dX3_init_13 : decode cX3_init 13 = .ok (.bipush 6, 2) := by decide +kernel
theorem dX3_init_15 : decode cX3_init 15 = .ok (.newarray .int, 2) := by decide +kernel
theorem dX3_init_17 : decode cX3_init 17 = .ok (.putfield 15, 3) := by decide +kernel
theorem dX3_init_20 : decode cX3_init 20 = .ok (.aload_n 0, 1) := by decide +kernel
theorem dX3_init_21 : decode cX3_init 21 = .ok (.aload_n 1, 1) := by decide +kernel
theorem dX3_init_22 : decode cX3_init 22 = .ok (.putfield 18, 3) := by decide +kernel
theorem dX3_init_25 : decode cX3_init 25 = .ok (.return_, 1) := by decide +kernel
set_option maxRecDepth 20000 in
theorem ggX3_firstBarred_X3_begin : GoodIn wsX3_firstBarred wsX3_begin := goodIn_r _ [6, 7, 8, 9, 10, 11, 12, 13, 14, 15, 16, 70, 71, 72, 73, 74, 75, 76] (by decide +kernel) (by decide +kernel)
set_option maxRecDepth 20000 in
theorem gX3_firstBarred_X3_begin : GoodIn wsX3_firstBarred (wsV RX3 28 RX3 yX3_begin wsX3_begin) := goodIn_app (goodIn_of _ (by decide +kernel)) ggX3_firstBarred_X3_begin
set_option maxRecDepth 20000 in
theorem ggX3_firstBarred_X2_size : GoodIn wsX3_firstBarred wsX2_size := goodIn_r _ [21, 22, 80, 81] (by decide +kernel) (by decide +kernel)
set_option maxRecDepth 20000 in
theorem gX3_firstBarred_X2_size : GoodIn wsX3_firstBarred (wsV RX3 32 RX2 yX2_size wsX2_size) := goodIn_app (goodIn_of _ (by decide +kernel)) ggX3_firstBarred_X2_size
set_option maxRecDepth 20000 in
theorem ggX3_firstBarred_X2_at : GoodIn wsX3_firstBarred wsX2_at := goodIn_r _ [26, 22, 27, 80, 81] (by decide +kernel) (by decide +kernel)
set_option maxRecDepth 20000 in
theorem gX3_firstBarred_X2_at : GoodIn wsX3_firstBarred (wsV RX3 38 RX2 yX2_at wsX2_at) := goodIn_app (goodIn_of _ (by decide +kernel)) ggX3_firstBarred_X2_at
set_option maxRecDepth 20000 in
theorem ggX3_firstBarred_X3_endDay : GoodIn wsX3_firstBarred wsX3_endDay := goodIn_r _ [31, 7, 11, 10, 13, 14, 15, 16, 70, 71, 72, 73, 74, 75, 76] (by decide +kernel) (by decide +kernel)
set_option maxRecDepth 20000 in
theorem gX3_firstBarred_X3_endDay : GoodIn wsX3_firstBarred (wsV RX3 42 RX3 yX3_endDay wsX3_endDay) := goodIn_app (goodIn_of _ (by decide +kernel)) ggX3_firstBarred_X3_endDay
set_option maxRecDepth 20000 in
theorem ggX3_firstBarred_X3_open : GoodIn wsX3_firstBarred wsX3_open := goodIn_r _ [35, 1, 9, 7, 8, 36, 37, 38, 39, 40, 41, 42, 43, 44, 45, 46, 47, 48, 5, 49, 11, 10, 50, 51, 52, 53, 54, 55, 56, 57, 58, 59, 60, 61, 62, 63, 64, 65, 70, 71, 72, 73, 74, 75, 76, 77, 78, 79] (by decide +kernel) (by decide +kernel)
set_option maxRecDepth 20000 in
theorem gX3_firstBarred_X3_open : GoodIn wsX3_firstBarred (wsV RX3 45 RX3 yX3_open wsX3_open) := goodIn_app (goodIn_of _ (by decide +kernel)) ggX3_firstBarred_X3_open
set_option maxRecDepth 20000 in
theorem ggX3_firstBarred_X3_spend : GoodIn wsX3_firstBarred wsX3_spend := goodIn_r _ [69, 7, 8, 12, 1, 43, 44, 45, 65, 61, 62, 53, 63, 64, 70, 71, 72, 73, 74, 75, 76, 77, 78, 79] (by decide +kernel) (by decide +kernel)
set_option maxRecDepth 20000 in
theorem gX3_firstBarred_X3_spend : GoodIn wsX3_firstBarred (wsV RX3 48 RX3 yX3_spend wsX3_spend) := goodIn_app (goodIn_of _ (by decide +kernel)) ggX3_firstBarred_X3_spend
theorem dX3_firstBarred_0 : decode cX3_firstBarred 0 = .ok (.aload_n 0, 1) := by decide +kernel
theorem dX3_firstBarred_1 : decode cX3_firstBarred 1 = .ok (.aload_n 0, 1) := by decide +kernel
theorem dX3_firstBarred_2 : decode cX3_firstBarred 2 = .ok (.getfield 18, 3) := by decide +kernel
theorem dX3_firstBarred_5 : decode cX3_firstBarred 5 = .ok (.getfield 22, 3) := by decide +kernel
theorem dX3_firstBarred_8 : decode cX3_firstBarred 8 = .ok (.invokevirtual 28, 3) := by decide +kernel
theorem dX3_firstBarred_11 : decode cX3_firstBarred 11 = .ok (.iconst 0, 1) := by decide +kernel
theorem dX3_firstBarred_12 : decode cX3_firstBarred 12 = .ok (.istore_n 2, 1) := by decide +kernel
theorem dX3_firstBarred_13 : decode cX3_firstBarred 13 = .ok (.iload_n 2, 1) := by decide +kernel
theorem dX3_firstBarred_14 : decode cX3_firstBarred 14 = .ok (.aload_n 1, 1) := by decide +kernel
theorem dX3_firstBarred_15 : decode cX3_firstBarred 15 = .ok (.invokevirtual 32, 3) := by decide +kernel
theorem dX3_firstBarred_18 : decode cX3_firstBarred 18 = .ok (.if_icmp .ge 45, 3) := by decide +kernel
theorem dX3_firstBarred_21 : decode cX3_firstBarred 21 = .ok (.aload_n 1, 1) := by decide +kernel
theorem dX3_firstBarred_22 : decode cX3_firstBarred 22 = .ok (.iload_n 2, 1) := by decide +kernel
theorem dX3_firstBarred_23 : decode cX3_firstBarred 23 = .ok (.invokevirtual 38, 3) := by decide +kernel
theorem dX3_firstBarred_26 : decode cX3_firstBarred 26 = .ok (.istore_n 3, 1) := by decide +kernel
theorem dX3_firstBarred_27 : decode cX3_firstBarred 27 = .ok (.iload_n 3, 1) := by decide +kernel
theorem dX3_firstBarred_28 : decode cX3_firstBarred 28 = .ok (.bipush 9, 2) := by decide +kernel
theorem dX3_firstBarred_30 : decode cX3_firstBarred 30 = .ok (.if_icmp .ne 10, 3) := by decide +kernel
theorem dX3_firstBarred_33 : decode cX3_firstBarred 33 = .ok (.aload_n 0, 1) := by decide +kernel
theorem dX3_firstBarred_34 : decode cX3_firstBarred 34 = .ok (.invokevirtual 42, 3) := by decide +kernel
theorem dX3_firstBarred_37 : decode cX3_firstBarred 37 = .ok (.goto 20, 3) := by decide +kernel
theorem dX3_firstBarred_40 : decode cX3_firstBarred 40 = .ok (.aload_n 0, 1) := by decide +kernel
theorem dX3_firstBarred_41 : decode cX3_firstBarred 41 = .ok (.iload_n 3, 1) := by decide +kernel
theorem dX3_firstBarred_42 : decode cX3_firstBarred 42 = .ok (.invokevirtual 45, 3) := by decide +kernel
theorem dX3_firstBarred_45 : decode cX3_firstBarred 45 = .ok (.iconst 1, 1) := by decide +kernel
theorem dX3_firstBarred_46 : decode cX3_firstBarred 46 = .ok (.if_icmp .ge 5, 3) := by decide +kernel
theorem dX3_firstBarred_49 : decode cX3_firstBarred 49 = .ok (.iload_n 2, 1) := by decide +kernel
theorem dX3_firstBarred_50 : decode cX3_firstBarred 50 = .ok (.ireturn, 1) := by decide +kernel
theorem dX3_firstBarred_51 : decode cX3_firstBarred 51 = .ok (.aload_n 0, 1) := by decide +kernel
theorem dX3_firstBarred_52 : decode cX3_firstBarred 52 = .ok (.iload_n 3, 1) := by decide +kernel
theorem dX3_firstBarred_53 : decode cX3_firstBarred 53 = .ok (.iconst 1, 1) := by decide +kernel
theorem dX3_firstBarred_54 : decode cX3_firstBarred 54 = .ok (.invokevirtual 48, 3) := by decide +kernel
theorem dX3_firstBarred_57 : decode cX3_firstBarred 57 = .ok (.iinc 2 1, 3) := by decide +kernel
theorem dX3_firstBarred_60 : decode cX3_firstBarred 60 = .ok (.goto (-47), 3) := by decide +kernel
theorem dX3_firstBarred_63 : decode cX3_firstBarred 63 = .ok (.bipush (-9), 2) := by decide +kernel
theorem dX3_firstBarred_65 : decode cX3_firstBarred 65 = .ok (.ireturn, 1) := by decide +kernel
set_option maxRecDepth 20000 in
theorem ggX3_daysToPay_X3_begin : GoodIn wsX3_daysToPay wsX3_begin := goodIn_r _ [7, 8, 9, 10, 11, 12, 2, 13, 14, 15, 16, 63, 64, 65, 66, 67, 68, 69] (by decide +kernel) (by decide +kernel)
set_option maxRecDepth 20000 in
theorem gX3_daysToPay_X3_begin : GoodIn wsX3_daysToPay (wsV RX3 28 RX3 yX3_begin wsX3_begin) := goodIn_app (goodIn_of _ (by decide +kernel)) ggX3_daysToPay_X3_begin
set_option maxRecDepth 20000 in
theorem ggX3_daysToPay_X3_spendDay : GoodIn wsX3_daysToPay wsX3_spendDay := goodIn_r _ [20, 21, 22, 23, 6, 24, 1, 10, 8, 9, 25, 26, 27, 28, 29, 30, 31, 32, 33, 34, 35, 36, 37, 38, 12, 11, 39, 40, 41, 42, 43, 44, 45, 46, 47, 48, 49, 50, 51, 52, 53, 54, 55, 56, 57, 58, 2, 59, 60, 61, 62, 13, 14, 15, 16, 63, 64, 65, 66, 67, 68, 69, 70, 71, 72] (by decide +kernel) (by decide +kernel)
set_option maxRecDepth 20000 in
theorem gX3_daysToPay_X3_spendDay : GoodIn wsX3_daysToPay (wsV RX3 55 RX3 yX3_spendDay wsX3_spendDay) := goodIn_app (goodIn_of _ (by decide +kernel)) ggX3_daysToPay_X3_spendDay
theorem dX3_daysToPay_0 : decode cX3_daysToPay 0 = .ok (.aload_n 0, 1) := by decide +kernel
theorem dX3_daysToPay_1 : decode cX3_daysToPay 1 = .ok (.aload_n 0, 1) := by decide +kernel
theorem dX3_daysToPay_2 : decode cX3_daysToPay 2 = .ok (.getfield 18, 3) := by decide +kernel
theorem dX3_daysToPay_5 : decode cX3_daysToPay 5 = .ok (.getfield 22, 3) := by decide +kernel
theorem dX3_daysToPay_8 : decode cX3_daysToPay 8 = .ok (.invokevirtual 28, 3) := by decide +kernel
theorem dX3_daysToPay_11 : decode cX3_daysToPay 11 = .ok (.iconst 0, 1) := by decide +kernel
theorem dX3_daysToPay_12 : decode cX3_daysToPay 12 = .ok (.istore_n 2, 1) := by decide +kernel
theorem dX3_daysToPay_13 : decode cX3_daysToPay 13 = .ok (.iload_n 2, 1) := by decide +kernel
theorem dX3_daysToPay_14 : decode cX3_daysToPay 14 = .ok (.sipush 400, 3) := by decide +kernel
theorem dX3_daysToPay_17 : decode cX3_daysToPay 17 = .ok (.if_icmp .gt 23, 3) := by decide +kernel
theorem dX3_daysToPay_20 : decode cX3_daysToPay 20 = .ok (.aload_n 0, 1) := by decide +kernel
theorem dX3_daysToPay_21 : decode cX3_daysToPay 21 = .ok (.getfield 52, 3) := by decide +kernel
theorem dX3_daysToPay_24 : decode cX3_daysToPay 24 = .ok (.iload_n 1, 1) := by decide +kernel
theorem dX3_daysToPay_25 : decode cX3_daysToPay 25 = .ok (.if_icmp .lt 5, 3) := by decide +kernel
theorem dX3_daysToPay_28 : decode cX3_daysToPay 28 = .ok (.iload_n 2, 1) := by decide +kernel
theorem dX3_daysToPay_29 : decode cX3_daysToPay 29 = .ok (.ireturn, 1) := by decide +kernel
theorem dX3_daysToPay_30 : decode cX3_daysToPay 30 = .ok (.aload_n 0, 1) := by decide +kernel
theorem dX3_daysToPay_31 : decode cX3_daysToPay 31 = .ok (.invokevirtual 55, 3) := by decide +kernel
theorem dX3_daysToPay_34 : decode cX3_daysToPay 34 = .ok (.iinc 2 1, 3) := by decide +kernel
theorem dX3_daysToPay_37 : decode cX3_daysToPay 37 = .ok (.goto (-24), 3) := by decide +kernel
theorem dX3_daysToPay_40 : decode cX3_daysToPay 40 = .ok (.bipush (-9), 2) := by decide +kernel
theorem dX3_daysToPay_42 : decode cX3_daysToPay 42 = .ok (.ireturn, 1) := by decide +kernel
set_option maxRecDepth 20000 in
theorem ggX3_friendsToPay_X3_begin : GoodIn wsX3_friendsToPay wsX3_begin := goodIn_r _ [7, 8, 9, 10, 11, 12, 2, 13, 14, 15, 16, 78, 79, 80, 81, 82, 83, 84] (by decide +kernel) (by decide +kernel)
set_option maxRecDepth 20000 in
theorem gX3_friendsToPay_X3_begin : GoodIn wsX3_friendsToPay (wsV RX3 28 RX3 yX3_begin wsX3_begin) := goodIn_app (goodIn_of _ (by decide +kernel)) ggX3_friendsToPay_X3_begin
set_option maxRecDepth 20000 in
theorem ggX3_friendsToPay_X3_spendDay : GoodIn wsX3_friendsToPay wsX3_spendDay := goodIn_r _ [20, 21, 22, 23, 6, 24, 1, 10, 8, 9, 25, 26, 27, 28, 29, 30, 31, 32, 33, 34, 35, 36, 37, 38, 12, 11, 39, 40, 41, 42, 43, 44, 45, 46, 47, 48, 49, 50, 51, 52, 53, 54, 55, 56, 57, 58, 2, 59, 60, 61, 62, 13, 14, 15, 16, 78, 79, 80, 81, 82, 83, 84, 85, 86, 87] (by decide +kernel) (by decide +kernel)
set_option maxRecDepth 20000 in
theorem gX3_friendsToPay_X3_spendDay : GoodIn wsX3_friendsToPay (wsV RX3 55 RX3 yX3_spendDay wsX3_spendDay) := goodIn_app (goodIn_of _ (by decide +kernel)) ggX3_friendsToPay_X3_spendDay
set_option maxRecDepth 20000 in
theorem ggX3_friendsToPay_X4_number : GoodIn wsX3_friendsToPay wsX4_number := goodIn_r _ [52, 53, 85, 86, 87] (by decide +kernel) (by decide +kernel)
set_option maxRecDepth 20000 in
theorem gX3_friendsToPay_X4_number : GoodIn wsX3_friendsToPay (wsV RX3 58 RX4 yX4_number wsX4_number) := goodIn_app (goodIn_of _ (by decide +kernel)) ggX3_friendsToPay_X4_number
set_option maxRecDepth 20000 in
theorem ggX3_friendsToPay_X4_unitsAtMost : GoodIn wsX3_friendsToPay wsX4_unitsAtMost := goodIn_r _ [66, 67, 26, 27, 28, 68, 46, 47, 42, 48, 49, 50, 51, 52, 53, 69, 70, 71, 72, 73, 74, 75, 76, 77, 40, 41, 43, 44, 85, 86, 87] (by decide +kernel) (by decide +kernel)
set_option maxRecDepth 20000 in
theorem gX3_friendsToPay_X4_unitsAtMost : GoodIn wsX3_friendsToPay (wsV RX3 62 RX4 yX4_unitsAtMost wsX4_unitsAtMost) := goodIn_app (goodIn_of _ (by decide +kernel)) ggX3_friendsToPay_X4_unitsAtMost
theorem dX3_friendsToPay_0 : decode cX3_friendsToPay 0 = .ok (.aload_n 0, 1) := by decide +kernel
theorem dX3_friendsToPay_1 : decode cX3_friendsToPay 1 = .ok (.iconst 0, 1) := by decide +kernel
theorem dX3_friendsToPay_2 : decode cX3_friendsToPay 2 = .ok (.invokevirtual 28, 3) := by decide +kernel
theorem dX3_friendsToPay_5 : decode cX3_friendsToPay 5 = .ok (.iconst 0, 1) := by decide +kernel
theorem dX3_friendsToPay_6 : decode cX3_friendsToPay 6 = .ok (.istore_n 3, 1) := by decide +kernel
theorem dX3_friendsToPay_7 : decode cX3_friendsToPay 7 = .ok (.iload_n 3, 1) := by decide +kernel
theorem dX3_friendsToPay_8 : decode cX3_friendsToPay 8 = .ok (.iload_n 2, 1) := by decide +kernel
theorem dX3_friendsToPay_9 : decode cX3_friendsToPay 9 = .ok (.if_icmp .ge 13, 3) := by decide +kernel
theorem dX3_friendsToPay_12 : decode cX3_friendsToPay 12 = .ok (.aload_n 0, 1) := by decide +kernel
theorem dX3_friendsToPay_13 : decode cX3_friendsToPay 13 = .ok (.invokevirtual 55, 3) := by decide +kernel
theorem dX3_friendsToPay_16 : decode cX3_friendsToPay 16 = .ok (.iinc 3 1, 3) := by decide +kernel
theorem dX3_friendsToPay_19 : decode cX3_friendsToPay 19 = .ok (.goto (-12), 3) := by decide +kernel
theorem dX3_friendsToPay_22 : decode cX3_friendsToPay 22 = .ok (.aload_n 0, 1) := by decide +kernel
theorem dX3_friendsToPay_23 : decode cX3_friendsToPay 23 = .ok (.getfield 18, 3) := by decide +kernel
theorem dX3_friendsToPay_26 : decode cX3_friendsToPay 26 = .ok (.iconst 4, 1) := by decide +kernel
theorem dX3_friendsToPay_27 : decode cX3_friendsToPay 27 = .ok (.iconst 0, 1) := by decide +kernel
theorem dX3_friendsToPay_28 : decode cX3_friendsToPay 28 = .ok (.invokevirtual 58, 3) := by decide +kernel
theorem dX3_friendsToPay_31 : decode cX3_friendsToPay 31 = .ok (.istore_n 3, 1) := by decide +kernel
theorem dX3_friendsToPay_32 : decode cX3_friendsToPay 32 = .ok (.iconst 0, 1) := by decide +kernel
theorem dX3_friendsToPay_33 : decode cX3_friendsToPay 33 = .ok (.istore 4, 2) := by decide +kernel
theorem dX3_friendsToPay_35 : decode cX3_friendsToPay 35 = .ok (.iload 4, 2) := by decide +kernel
theorem dX3_friendsToPay_37 : decode cX3_friendsToPay 37 = .ok (.bipush 99, 2) := by decide +kernel
theorem dX3_friendsToPay_39 : decode cX3_friendsToPay 39 = .ok (.if_icmp .gt 34, 3) := by decide +kernel
theorem dX3_friendsToPay_42 : decode cX3_friendsToPay 42 = .ok (.aload_n 0, 1) := by decide +kernel
theorem dX3_friendsToPay_43 : decode cX3_friendsToPay 43 = .ok (.getfield 52, 3) := by decide +kernel
theorem dX3_friendsToPay_46 : decode cX3_friendsToPay 46 = .ok (.iload_n 3, 1) := by decide +kernel
theorem dX3_friendsToPay_47 : decode cX3_friendsToPay 47 = .ok (.aload_n 0, 1) := by decide +kernel
theorem dX3_friendsToPay_48 : decode cX3_friendsToPay 48 = .ok (.getfield 18, 3) := by decide +kernel
theorem dX3_friendsToPay_51 : decode cX3_friendsToPay 51 = .ok (.iconst 4, 1) := by decide +kernel
theorem dX3_friendsToPay_52 : decode cX3_friendsToPay 52 = .ok (.iload_n 2, 1) := by decide +kernel
theorem dX3_friendsToPay_53 : decode cX3_friendsToPay 53 = .ok (.iload 4, 2) := by decide +kernel
theorem dX3_friendsToPay_55 : decode cX3_friendsToPay 55 = .ok (.invokevirtual 62, 3) := by decide +kernel
theorem dX3_friendsToPay_58 : decode cX3_friendsToPay 58 = .ok (.imul, 1) := by decide +kernel
theorem dX3_friendsToPay_59 : decode cX3_friendsToPay 59 = .ok (.iadd, 1) := by decide +kernel
theorem dX3_friendsToPay_60 : decode cX3_friendsToPay 60 = .ok (.iload_n 1, 1) := by decide +kernel
theorem dX3_friendsToPay_61 : decode cX3_friendsToPay 61 = .ok (.if_icmp .lt 6, 3) := by decide +kernel
theorem dX3_friendsToPay_64 : decode cX3_friendsToPay 64 = .ok (.iload 4, 2) := by decide +kernel
theorem dX3_friendsToPay_66 : decode cX3_friendsToPay 66 = .ok (.ireturn, 1) := by decide +kernel
theorem dX3_friendsToPay_67 : decode cX3_friendsToPay 67 = .ok (.iinc 4 1, 3) := by decide +kernel
theorem dX3_friendsToPay_70 : decode cX3_friendsToPay 70 = .ok (.goto (-35), 3) := by decide +kernel
theorem dX3_friendsToPay_73 : decode cX3_friendsToPay 73 = .ok (.bipush (-9), 2) := by decide +kernel
theorem dX3_friendsToPay_75 : decode cX3_friendsToPay 75 = .ok (.ireturn, 1) := by decide +kernel
set_option maxRecDepth 20000 in
theorem ggX3_begin_J7_fill_53178 : GoodIn wsX3_begin wsJ7_fill_53178 := goodIn_r _ [10] (by decide +kernel) (by decide +kernel)
set_option maxRecDepth 20000 in
theorem gX3_begin_J7_fill_53178 : GoodIn wsX3_begin (va_wsS RX3 66 yJ7_fill_53178 wsJ7_fill_53178) := goodIn_app (goodIn_of _ (by decide +kernel)) ggX3_begin_J7_fill_53178
theorem dX3_begin_0 : decode cX3_begin 0 = .ok (.aload_n 0, 1) := by decide +kernel
theorem dX3_begin_1 : decode cX3_begin 1 = .ok (.getfield 9, 3) := by decide +kernel
theorem dX3_begin_4 : decode cX3_begin 4 = .ok (.iconst 0, 1) := by decide +kernel
theorem dX3_begin_5 : decode cX3_begin 5 = .ok (.invokestatic 66, 3) := by decide +kernel
theorem dX3_begin_8 : decode cX3_begin 8 = .ok (.aload_n 0, 1) := by decide +kernel
theorem dX3_begin_9 : decode cX3_begin 9 = .ok (.getfield 15, 3) := by decide +kernel
theorem dX3_begin_12 : decode cX3_begin 12 = .ok (.iconst 0, 1) := by decide +kernel
theorem dX3_begin_13 : decode cX3_begin 13 = .ok (.invokestatic 66, 3) := by decide +kernel
theorem dX3_begin_16 : decode cX3_begin 16 = .ok (.aload_n 0, 1) := by decide +kernel
theorem dX3_begin_17 : decode cX3_begin 17 = .ok (.iload_n 1, 1) := by decide +kernel
theorem dX3_begin_18 : decode cX3_begin 18 = .ok (.putfield 72, 3) := by decide +kernel
theorem dX3_begin_21 : decode cX3_begin 21 = .ok (.aload_n 0, 1) := by decide +kernel
theorem dX3_begin_22 : decode cX3_begin 22 = .ok (.iconst 0, 1) := by decide +kernel
theorem dX3_begin_23 : decode cX3_begin 23 = .ok (.putfield 73, 3) := by decide +kernel
theorem dX3_begin_26 : decode cX3_begin 26 = .ok (.aload_n 0, 1) := by decide +kernel
theorem dX3_begin_27 : decode cX3_begin 27 = .ok (.iconst 0, 1) := by decide +kernel
theorem dX3_begin_28 : decode cX3_begin 28 = .ok (.putfield 76, 3) := by decide +kernel
theorem dX3_begin_31 : decode cX3_begin 31 = .ok (.aload_n 0, 1) := by decide +kernel
theorem dX3_begin_32 : decode cX3_begin 32 = .ok (.iconst 0, 1) := by decide +kernel
theorem dX3_begin_33 : decode cX3_begin 33 = .ok (.putfield 52, 3) := by decide +kernel
theorem dX3_begin_36 : decode cX3_begin 36 = .ok (.return_, 1) := by decide +kernel
set_option maxRecDepth 20000 in
theorem ggX3_spendDay_X3_open : GoodIn wsX3_spendDay wsX3_open := goodIn_r _ [5, 6, 7, 8, 9, 10, 11, 12, 13, 14, 15, 16, 17, 18, 19, 20, 21, 22, 4, 23, 24, 25, 26, 27, 28, 29, 30, 31, 32, 33, 34, 35, 36, 37, 38, 39, 40, 41, 55, 56, 57, 58, 59, 60, 61, 62, 63, 64] (by decide +kernel) (by decide +kernel)
set_option maxRecDepth 20000 in
theorem gX3_spendDay_X3_open : GoodIn wsX3_spendDay (wsV RX3 45 RX3 yX3_open wsX3_open) := goodIn_app (goodIn_of _ (by decide +kernel)) ggX3_spendDay_X3_open
set_option maxRecDepth 20000 in
theorem ggX3_spendDay_X3_spend : GoodIn wsX3_spendDay wsX3_spend := goodIn_r _ [45, 8, 9, 46, 6, 17, 18, 19, 41, 37, 38, 29, 39, 40, 55, 56, 57, 58, 59, 60, 61, 62, 63, 64] (by decide +kernel) (by decide +kernel)
set_option maxRecDepth 20000 in
theorem gX3_spendDay_X3_spend : GoodIn wsX3_spendDay (wsV RX3 48 RX3 yX3_spend wsX3_spend) := goodIn_app (goodIn_of _ (by decide +kernel)) ggX3_spendDay_X3_spend
set_option maxRecDepth 20000 in
theorem ggX3_spendDay_X3_endDay : GoodIn wsX3_spendDay wsX3_endDay := goodIn_r _ [50, 8, 24, 25, 51, 52, 53, 54, 55, 56, 57, 58, 59, 60, 61] (by decide +kernel) (by decide +kernel)
set_option maxRecDepth 20000 in
theorem gX3_spendDay_X3_endDay : GoodIn wsX3_spendDay (wsV RX3 42 RX3 yX3_endDay wsX3_endDay) := goodIn_app (goodIn_of _ (by decide +kernel)) ggX3_spendDay_X3_endDay
theorem dX3_spendDay_0 : decode cX3_spendDay 0 = .ok (.iconst 0, 1) := by decide +kernel
theorem dX3_spendDay_1 : decode cX3_spendDay 1 = .ok (.istore_n 1, 1) := by decide +kernel
theorem dX3_spendDay_2 : decode cX3_spendDay 2 = .ok (.iload_n 1, 1) := by decide +kernel
theorem dX3_spendDay_3 : decode cX3_spendDay 3 = .ok (.bipush 6, 2) := by decide +kernel
theorem dX3_spendDay_5 : decode cX3_spendDay 5 = .ok (.if_icmp .ge 19, 3) := by decide +kernel
theorem dX3_spendDay_8 : decode cX3_spendDay 8 = .ok (.aload_n 0, 1) := by decide +kernel
theorem dX3_spendDay_9 : decode cX3_spendDay 9 = .ok (.iload_n 1, 1) := by decide +kernel
theorem dX3_spendDay_10 : decode cX3_spendDay 10 = .ok (.aload_n 0, 1) := by decide +kernel
theorem dX3_spendDay_11 : decode cX3_spendDay 11 = .ok (.iload_n 1, 1) := by decide +kernel
theorem dX3_spendDay_12 : decode cX3_spendDay 12 = .ok (.invokevirtual 45, 3) := by decide +kernel
theorem dX3_spendDay_15 : decode cX3_spendDay 15 = .ok (.invokevirtual 48, 3) := by decide +kernel
theorem dX3_spendDay_18 : decode cX3_spendDay 18 = .ok (.iinc 1 1, 3) := by decide +kernel
theorem dX3_spendDay_21 : decode cX3_spendDay 21 = .ok (.goto (-19), 3) := by decide +kernel
theorem dX3_spendDay_24 : decode cX3_spendDay 24 = .ok (.aload_n 0, 1) := by decide +kernel
theorem dX3_spendDay_25 : decode cX3_spendDay 25 = .ok (.invokevirtual 42, 3) := by decide +kernel
theorem dX3_spendDay_28 : decode cX3_spendDay 28 = .ok (.return_, 1) := by decide +kernel
set_option maxRecDepth 20000 in
theorem ggX3_endDay_J7_fill_53178 : GoodIn wsX3_endDay wsJ7_fill_53178 := goodIn_r _ [7] (by decide +kernel) (by decide +kernel)
set_option maxRecDepth 20000 in
theorem gX3_endDay_J7_fill_53178 : GoodIn wsX3_endDay (va_wsS RX3 66 yJ7_fill_53178 wsJ7_fill_53178) := goodIn_app (goodIn_of _ (by decide +kernel)) ggX3_endDay_J7_fill_53178
theorem dX3_endDay_0 : decode cX3_endDay 0 = .ok (.aload_n 0, 1) := by decide +kernel
theorem dX3_endDay_1 : decode cX3_endDay 1 = .ok (.aload_n 0, 1) := by decide +kernel
theorem dX3_endDay_2 : decode cX3_endDay 2 = .ok (.getfield 9, 3) := by decide +kernel
theorem dX3_endDay_5 : decode cX3_endDay 5 = .ok (.iconst 3, 1) := by decide +kernel
theorem dX3_endDay_6 : decode cX3_endDay 6 = .ok (.iaload, 1) := by decide +kernel
theorem dX3_endDay_7 : decode cX3_endDay 7 = .ok (.ifCond .gt 12, 3) := by decide +kernel
theorem dX3_endDay_10 : decode cX3_endDay 10 = .ok (.aload_n 0, 1) := by decide +kernel
theorem dX3_endDay_11 : decode cX3_endDay 11 = .ok (.getfield 9, 3) := by decide +kernel
theorem dX3_endDay_14 : decode cX3_endDay 14 = .ok (.iconst 5, 1) := by decide +kernel
theorem dX3_endDay_15 : decode cX3_endDay 15 = .ok (.iaload, 1) := by decide +kernel
theorem dX3_endDay_16 : decode cX3_endDay 16 = .ok (.ifCond .le 7, 3) := by decide +kernel
theorem dX3_endDay_19 : decode cX3_endDay 19 = .ok (.iconst 1, 1) := by decide +kernel
theorem dX3_endDay_20 : decode cX3_endDay 20 = .ok (.goto 4, 3) := by decide +kernel
theorem dX3_endDay_23 : decode cX3_endDay 23 = .ok (.iconst 0, 1) := by decide +kernel
theorem dX3_endDay_24 : decode cX3_endDay 24 = .ok (.putfield 76, 3) := by decide +kernel
theorem dX3_endDay_27 : decode cX3_endDay 27 = .ok (.aload_n 0, 1) := by decide +kernel
theorem dX3_endDay_28 : decode cX3_endDay 28 = .ok (.getfield 9, 3) := by decide +kernel
theorem dX3_endDay_31 : decode cX3_endDay 31 = .ok (.iconst 0, 1) := by decide +kernel
theorem dX3_endDay_32 : decode cX3_endDay 32 = .ok (.invokestatic 66, 3) := by decide +kernel
theorem dX3_endDay_35 : decode cX3_endDay 35 = .ok (.aload_n 0, 1) := by decide +kernel
theorem dX3_endDay_36 : decode cX3_endDay 36 = .ok (.dup, 1) := by decide +kernel
theorem dX3_endDay_37 : decode cX3_endDay 37 = .ok (.getfield 73, 3) := by decide +kernel
theorem dX3_endDay_40 : decode cX3_endDay 40 = .ok (.iconst 1, 1) := by decide +kernel
theorem dX3_endDay_41 : decode cX3_endDay 41 = .ok (.iadd, 1) := by decide +kernel
theorem dX3_endDay_42 : decode cX3_endDay 42 = .ok (.putfield 73, 3) := by decide +kernel
theorem dX3_endDay_45 : decode cX3_endDay 45 = .ok (.return_, 1) := by decide +kernel
set_option maxRecDepth 20000 in
theorem ggX3_open_X10_isKind : GoodIn wsX3_open wsX10_isKind := goodIn_r _ [14] (by decide +kernel) (by decide +kernel)
set_option maxRecDepth 20000 in
theorem gX3_open_X10_isKind_n80 : GoodIn wsX3_open (wsX10_isKind) := ggX3_open_X10_isKind
set_option maxRecDepth 20000 in
theorem ggX3_open_X3_isBarred : GoodIn wsX3_open wsX3_isBarred := goodIn_r _ [19, 20, 1, 21, 22, 23, 24, 25, 26, 27, 38, 39, 40, 41, 42, 43, 44, 45, 46, 47] (by decide +kernel) (by decide +kernel)
set_option maxRecDepth 20000 in
theorem gX3_open_X3_isBarred : GoodIn wsX3_open (wsV RX3 84 RX3 yX3_isBarred wsX3_isBarred) := goodIn_app (goodIn_of _ (by decide +kernel)) ggX3_open_X3_isBarred
set_option maxRecDepth 20000 in
theorem ggX3_open_X4_inADay : GoodIn wsX3_open wsX4_inADay := goodIn_r _ [31, 32, 33, 34, 25, 35, 36, 45, 46, 47] (by decide +kernel) (by decide +kernel)
set_option maxRecDepth 20000 in
theorem gX3_open_X4_inADay : GoodIn wsX3_open (wsV RX3 87 RX4 yX4_inADay wsX4_inADay) := goodIn_app (goodIn_of _ (by decide +kernel)) ggX3_open_X4_inADay
set_option maxRecDepth 20000 in
theorem ggX3_open_X4_number : GoodIn wsX3_open wsX4_number := goodIn_r _ [35, 36, 45, 46, 47] (by decide +kernel) (by decide +kernel)
set_option maxRecDepth 20000 in
theorem gX3_open_X4_number : GoodIn wsX3_open (wsV RX3 58 RX4 yX4_number wsX4_number) := goodIn_app (goodIn_of _ (by decide +kernel)) ggX3_open_X4_number
theorem dX3_open_0 : decode cX3_open 0 = .ok (.iload_n 1, 1) := by decide +kernel
theorem dX3_open_1 : decode cX3_open 1 = .ok (.invokestatic 80, 3) := by decide +kernel
theorem dX3_open_4 : decode cX3_open 4 = .ok (.ifCond .eq 11, 3) := by decide +kernel
theorem dX3_open_7 : decode cX3_open 7 = .ok (.aload_n 0, 1) := by decide +kernel
theorem dX3_open_8 : decode cX3_open 8 = .ok (.iload_n 1, 1) := by decide +kernel
theorem dX3_open_9 : decode cX3_open 9 = .ok (.invokevirtual 84, 3) := by decide +kernel
theorem dX3_open_12 : decode cX3_open 12 = .ok (.ifCond .eq 5, 3) := by decide +kernel
theorem dX3_open_15 : decode cX3_open 15 = .ok (.iconst 0, 1) := by decide +kernel
theorem dX3_open_16 : decode cX3_open 16 = .ok (.ireturn, 1) := by decide +kernel
theorem dX3_open_17 : decode cX3_open 17 = .ok (.aload_n 0, 1) := by decide +kernel
theorem dX3_open_18 : decode cX3_open 18 = .ok (.getfield 18, 3) := by decide +kernel
theorem dX3_open_21 : decode cX3_open 21 = .ok (.iload_n 1, 1) := by decide +kernel
theorem dX3_open_22 : decode cX3_open 22 = .ok (.aload_n 0, 1) := by decide +kernel
theorem dX3_open_23 : decode cX3_open 23 = .ok (.getfield 72, 3) := by decide +kernel
theorem dX3_open_26 : decode cX3_open 26 = .ok (.invokevirtual 87, 3) := by decide +kernel
theorem dX3_open_29 : decode cX3_open 29 = .ok (.aload_n 0, 1) := by decide +kernel
theorem dX3_open_30 : decode cX3_open 30 = .ok (.getfield 9, 3) := by decide +kernel
theorem dX3_open_33 : decode cX3_open 33 = .ok (.iload_n 1, 1) := by decide +kernel
theorem dX3_open_34 : decode cX3_open 34 = .ok (.iaload, 1) := by decide +kernel
theorem dX3_open_35 : decode cX3_open 35 = .ok (.isub, 1) := by decide +kernel
theorem dX3_open_36 : decode cX3_open 36 = .ok (.istore_n 2, 1) := by decide +kernel
theorem dX3_open_37 : decode cX3_open 37 = .ok (.aload_n 0, 1) := by decide +kernel
theorem dX3_open_38 : decode cX3_open 38 = .ok (.getfield 18, 3) := by decide +kernel
theorem dX3_open_41 : decode cX3_open 41 = .ok (.iload_n 1, 1) := by decide +kernel
theorem dX3_open_42 : decode cX3_open 42 = .ok (.iconst 3, 1) := by decide +kernel
theorem dX3_open_43 : decode cX3_open 43 = .ok (.invokevirtual 58, 3) := by decide +kernel
theorem dX3_open_46 : decode cX3_open 46 = .ok (.aload_n 0, 1) := by decide +kernel
theorem dX3_open_47 : decode cX3_open 47 = .ok (.getfield 15, 3) := by decide +kernel
theorem dX3_open_50 : decode cX3_open 50 = .ok (.iload_n 1, 1) := by decide +kernel
theorem dX3_open_51 : decode cX3_open 51 = .ok (.iaload, 1) := by decide +kernel
theorem dX3_open_52 : decode cX3_open 52 = .ok (.isub, 1) := by decide +kernel
theorem dX3_open_53 : decode cX3_open 53 = .ok (.istore_n 3, 1) := by decide +kernel
theorem dX3_open_54 : decode cX3_open 54 = .ok (.iconst 0, 1) := by decide +kernel
theorem dX3_open_55 : decode cX3_open 55 = .ok (.iload_n 2, 1) := by decide +kernel
theorem dX3_open_56 : decode cX3_open 56 = .ok (.iload_n 3, 1) := by decide +kernel
theorem dX3_open_57 : decode cX3_open 57 = .ok (.invokestatic 90, 3) := by decide +kernel
theorem dX3_open_60 : decode cX3_open 60 = .ok (.invokestatic 95, 3) := by decide +kernel
theorem dX3_open_63 : decode cX3_open 63 = .ok (.ireturn, 1) := by decide +kernel
set_option maxRecDepth 20000 in
theorem ggX3_isBarred_X4_isFeast : GoodIn wsX3_isBarred wsX4_isFeast := goodIn_r _ [8, 9, 17, 18, 19] (by decide +kernel) (by decide +kernel)
set_option maxRecDepth 20000 in
theorem gX3_isBarred_X4_isFeast : GoodIn wsX3_isBarred (wsV RX3 98 RX4 yX4_isFeast wsX4_isFeast) := goodIn_app (goodIn_of _ (by decide +kernel)) ggX3_isBarred_X4_isFeast
theorem dX3_isBarred_0 : decode cX3_isBarred 0 = .ok (.iload_n 1, 1) := by decide +kernel
theorem dX3_isBarred_1 : decode cX3_isBarred 1 = .ok (.iconst 3, 1) := by decide +kernel
theorem dX3_isBarred_2 : decode cX3_isBarred 2 = .ok (.if_icmp .ne 8, 3) := by decide +kernel
theorem dX3_isBarred_5 : decode cX3_isBarred 5 = .ok (.aload_n 0, 1) := by decide +kernel
theorem dX3_isBarred_6 : decode cX3_isBarred 6 = .ok (.getfield 76, 3) := by decide +kernel
theorem dX3_isBarred_9 : decode cX3_isBarred 9 = .ok (.ireturn, 1) := by decide +kernel
theorem dX3_isBarred_10 : decode cX3_isBarred 10 = .ok (.iload_n 1, 1) := by decide +kernel
theorem dX3_isBarred_11 : decode cX3_isBarred 11 = .ok (.ifCond .eq 8, 3) := by decide +kernel
theorem dX3_isBarred_14 : decode cX3_isBarred 14 = .ok (.iload_n 1, 1) := by decide +kernel
theorem dX3_isBarred_15 : decode cX3_isBarred 15 = .ok (.iconst 5, 1) := by decide +kernel
theorem dX3_isBarred_16 : decode cX3_isBarred 16 = .ok (.if_icmp .ne 21, 3) := by decide +kernel
theorem dX3_isBarred_19 : decode cX3_isBarred 19 = .ok (.aload_n 0, 1) := by decide +kernel
theorem dX3_isBarred_20 : decode cX3_isBarred 20 = .ok (.getfield 18, 3) := by decide +kernel
theorem dX3_isBarred_23 : decode cX3_isBarred 23 = .ok (.aload_n 0, 1) := by decide +kernel
theorem dX3_isBarred_24 : decode cX3_isBarred 24 = .ok (.getfield 73, 3) := by decide +kernel
theorem dX3_isBarred_27 : decode cX3_isBarred 27 = .ok (.invokevirtual 98, 3) := by decide +kernel
theorem dX3_isBarred_30 : decode cX3_isBarred 30 = .ok (.ifCond .eq 7, 3) := by decide +kernel
theorem dX3_isBarred_33 : decode cX3_isBarred 33 = .ok (.iconst 1, 1) := by decide +kernel
theorem dX3_isBarred_34 : decode cX3_isBarred 34 = .ok (.goto 4, 3) := by decide +kernel
theorem dX3_isBarred_37 : decode cX3_isBarred 37 = .ok (.iconst 0, 1) := by decide +kernel
theorem dX3_isBarred_38 : decode cX3_isBarred 38 = .ok (.ireturn, 1) := by decide +kernel
set_option maxRecDepth 20000 in
theorem ggX3_spend_X10_isKind : GoodIn wsX3_spend wsX10_isKind := goodIn_r _ [7] (by decide +kernel) (by decide +kernel)
set_option maxRecDepth 20000 in
theorem gX3_spend_X10_isKind_n80 : GoodIn wsX3_spend (wsX10_isKind) := ggX3_spend_X10_isKind
set_option maxRecDepth 20000 in
theorem ggX3_spend_X4_number : GoodIn wsX3_spend wsX4_number := goodIn_r _ [12, 13, 21, 22, 23] (by decide +kernel) (by decide +kernel)
set_option maxRecDepth 20000 in
theorem gX3_spend_X4_number : GoodIn wsX3_spend (wsV RX3 58 RX4 yX4_number wsX4_number) := goodIn_app (goodIn_of _ (by decide +kernel)) ggX3_spend_X4_number
theorem dX3_spend_0 : decode cX3_spend 0 = .ok (.iload_n 1, 1) := by decide +kernel
theorem dX3_spend_1 : decode cX3_spend 1 = .ok (.invokestatic 80, 3) := by decide +kernel
theorem dX3_spend_4 : decode cX3_spend 4 = .ok (.ifCond .eq 43, 3) := by decide +kernel
theorem dX3_spend_7 : decode cX3_spend 7 = .ok (.aload_n 0, 1) := by decide +kernel
theorem dX3_spend_8 : decode cX3_spend 8 = .ok (.getfield 9, 3) := by decide +kernel
theorem dX3_spend_11 : decode cX3_spend 11 = .ok (.iload_n 1, 1) := by decide +kernel
theorem dX3_spend_12 : decode cX3_spend 12 = .ok (.dup2, 1) := by decide +kernel
theorem dX3_spend_13 : decode cX3_spend 13 = .ok (.iaload, 1) := by decide +kernel
theorem dX3_spend_14 : decode cX3_spend 14 = .ok (.iload_n 2, 1) := by decide +kernel
theorem dX3_spend_15 : decode cX3_spend 15 = .ok (.iadd, 1) := by decide +kernel
theorem dX3_spend_16 : decode cX3_spend 16 = .ok (.iastore, 1) := by decide +kernel
theorem dX3_spend_17 : decode cX3_spend 17 = .ok (.aload_n 0, 1) := by decide +kernel
theorem dX3_spend_18 : decode cX3_spend 18 = .ok (.getfield 15, 3) := by decide +kernel
theorem dX3_spend_21 : decode cX3_spend 21 = .ok (.iload_n 1, 1) := by decide +kernel
theorem dX3_spend_22 : decode cX3_spend 22 = .ok (.dup2, 1) := by decide +kernel
theorem dX3_spend_23 : decode cX3_spend 23 = .ok (.iaload, 1) := by decide +kernel
theorem dX3_spend_24 : decode cX3_spend 24 = .ok (.iload_n 2, 1) := by decide +kernel
theorem dX3_spend_25 : decode cX3_spend 25 = .ok (.iadd, 1) := by decide +kernel
theorem dX3_spend_26 : decode cX3_spend 26 = .ok (.iastore, 1) := by decide +kernel
theorem dX3_spend_27 : decode cX3_spend 27 = .ok (.aload_n 0, 1) := by decide +kernel
theorem dX3_spend_28 : decode cX3_spend 28 = .ok (.dup, 1) := by decide +kernel
theorem dX3_spend_29 : decode cX3_spend 29 = .ok (.getfield 52, 3) := by decide +kernel
theorem dX3_spend_32 : decode cX3_spend 32 = .ok (.iload_n 2, 1) := by decide +kernel
theorem dX3_spend_33 : decode cX3_spend 33 = .ok (.aload_n 0, 1) := by decide +kernel
theorem dX3_spend_34 : decode cX3_spend 34 = .ok (.getfield 18, 3) := by decide +kernel
theorem dX3_spend_37 : decode cX3_spend 37 = .ok (.iload_n 1, 1) := by decide +kernel
theorem dX3_spend_38 : decode cX3_spend 38 = .ok (.iconst 0, 1) := by decide +kernel
theorem dX3_spend_39 : decode cX3_spend 39 = .ok (.invokevirtual 58, 3) := by decide +kernel
theorem dX3_spend_42 : decode cX3_spend 42 = .ok (.imul, 1) := by decide +kernel
theorem dX3_spend_43 : decode cX3_spend 43 = .ok (.iadd, 1) := by decide +kernel
theorem dX3_spend_44 : decode cX3_spend 44 = .ok (.putfield 52, 3) := by decide +kernel
theorem dX3_spend_47 : decode cX3_spend 47 = .ok (.return_, 1) := by decide +kernel
theorem dX4_init_0 : decode cX4_init 0 = .ok (.aload_n 0, 1) := by decide +kernel
theorem dX4_init_1 : decode cX4_init 1 = .ok (.invokespecial 3, 3) := by decide +kernel
theorem dX4_init_4 : decode cX4_init 4 = .ok (.aload_n 0, 1) := by decide +kernel
theorem dX4_init_5 : decode cX4_init 5 = .ok (.getstatic 9, 3) := by decide +kernel
theorem dX4_init_8 : decode cX4_init 8 = .ok (.invokevirtual 13, 3) := by decide +kernel
theorem dX4_init_11 : decode cX4_init 11 = .ok (.checkcast 14, 3) := by decide +kernel
theorem dX4_init_14 : decode cX4_init 14 = .ok (.putfield 18, 3) := by decide +kernel
theorem dX4_init_17 : decode cX4_init 17 = .ok (.return_, 1) := by decide +kernel
theorem dX4_number_0 : decode cX4_number 0 = .ok (.iload_n 1, 1) := by decide +kernel
theorem dX4_number_1 : decode cX4_number 1 = .ok (.iconst 4, 1) := by decide +kernel
theorem dX4_number_2 : decode cX4_number 2 = .ok (.imul, 1) := by decide +kernel
theorem dX4_number_3 : decode cX4_number 3 = .ok (.iload_n 2, 1) := by decide +kernel
theorem dX4_number_4 : decode cX4_number 4 = .ok (.iadd, 1) := by decide +kernel
theorem dX4_number_5 : decode cX4_number 5 = .ok (.istore_n 3, 1) := by decide +kernel
theorem dX4_number_6 : decode cX4_number 6 = .ok (.iload_n 3, 1) := by decide +kernel
theorem dX4_number_7 : decode cX4_number 7 = .ok (.ifCond .lt 21, 3) := by decide +kernel
theorem dX4_number_10 : decode cX4_number 10 = .ok (.iload_n 3, 1) := by decide +kernel
theorem dX4_number_11 : decode cX4_number 11 = .ok (.aload_n 0, 1) := by decide +kernel
theorem dX4_number_12 : decode cX4_number 12 = .ok (.getfield 18, 3) := by decide +kernel
theorem dX4_number_15 : decode cX4_number 15 = .ok (.arraylength, 1) := by decide +kernel
theorem dX4_number_16 : decode cX4_number 16 = .ok (.if_icmp .ge 12, 3) := by decide +kernel
theorem dX4_number_19 : decode cX4_number 19 = .ok (.aload_n 0, 1) := by decide +kernel
theorem dX4_number_20 : decode cX4_number 20 = .ok (.getfield 18, 3) := by decide +kernel
theorem dX4_number_23 : decode cX4_number 23 = .ok (.iload_n 3, 1) := by decide +kernel
theorem dX4_number_24 : decode cX4_number 24 = .ok (.iaload, 1) := by decide +kernel
theorem dX4_number_25 : decode cX4_number 25 = .ok (.goto 4, 3) := by decide +kernel
theorem dX4_number_28 : decode cX4_number 28 = .ok (.iconst 0, 1) := by decide +kernel
theorem dX4_number_29 : decode cX4_number 29 = .ok (.ireturn, 1) := by decide +kernel
theorem dX4_change_0 : decode cX4_change 0 = .ok (.iload_n 1, 1) := by decide +kernel
theorem dX4_change_1 : decode cX4_change 1 = .ok (.iconst 4, 1) := by decide +kernel
theorem dX4_change_2 : decode cX4_change 2 = .ok (.imul, 1) := by decide +kernel
theorem dX4_change_3 : decode cX4_change 3 = .ok (.iload_n 2, 1) := by decide +kernel
theorem dX4_change_4 : decode cX4_change 4 = .ok (.iadd, 1) := by decide +kernel
theorem dX4_change_5 : decode cX4_change 5 = .ok (.istore 4, 2) := by decide +kernel
theorem dX4_change_7 : decode cX4_change 7 = .ok (.iload 4, 2) := by decide +kernel
theorem dX4_change_9 : decode cX4_change 9 = .ok (.ifCond .lt 13, 3) := by decide +kernel
theorem dX4_change_12 : decode cX4_change 12 = .ok (.iload 4, 2) := by decide +kernel
theorem dX4_change_14 : decode cX4_change 14 = .ok (.aload_n 0, 1) := by decide +kernel
theorem dX4_change_15 : decode cX4_change 15 = .ok (.getfield 18, 3) := by decide +kernel
theorem dX4_change_18 : decode cX4_change 18 = .ok (.arraylength, 1) := by decide +kernel
theorem dX4_change_19 : decode cX4_change 19 = .ok (.if_icmp .lt 6, 3) := by decide +kernel
theorem dX4_change_22 : decode cX4_change 22 = .ok (.bipush (-9), 2) := by decide +kernel
theorem dX4_change_24 : decode cX4_change 24 = .ok (.ireturn, 1) := by decide +kernel
theorem dX4_change_25 : decode cX4_change 25 = .ok (.aload_n 0, 1) := by decide +kernel
theorem dX4_change_26 : decode cX4_change 26 = .ok (.getfield 18, 3) := by decide +kernel
theorem dX4_change_29 : decode cX4_change 29 = .ok (.iload 4, 2) := by decide +kernel
theorem dX4_change_31 : decode cX4_change 31 = .ok (.iaload, 1) := by decide +kernel
theorem dX4_change_32 : decode cX4_change 32 = .ok (.istore 5, 2) := by decide +kernel
theorem dX4_change_34 : decode cX4_change 34 = .ok (.aload_n 0, 1) := by decide +kernel
theorem dX4_change_35 : decode cX4_change 35 = .ok (.getfield 18, 3) := by decide +kernel
theorem dX4_change_38 : decode cX4_change 38 = .ok (.iload 4, 2) := by decide +kernel
theorem dX4_change_40 : decode cX4_change 40 = .ok (.iload_n 3, 1) := by decide +kernel
theorem dX4_change_41 : decode cX4_change 41 = .ok (.iastore, 1) := by decide +kernel
theorem dX4_change_42 : decode cX4_change 42 = .ok (.iload 5, 2) := by decide +kernel
theorem dX4_change_44 : decode cX4_change 44 = .ok (.ireturn, 1) := by decide +kernel
theorem dX4_isFeast_0 : decode cX4_isFeast 0 = .ok (.aload_n 0, 1) := by decide +kernel
theorem dX4_isFeast_1 : decode cX4_isFeast 1 = .ok (.getfield 23, 3) := by decide +kernel
theorem dX4_isFeast_4 : decode cX4_isFeast 4 = .ok (.iload_n 1, 1) := by decide +kernel
theorem dX4_isFeast_5 : decode cX4_isFeast 5 = .ok (.bipush 28, 2) := by decide +kernel
theorem dX4_isFeast_7 : decode cX4_isFeast 7 = .ok (.irem, 1) := by decide +kernel
theorem dX4_isFeast_8 : decode cX4_isFeast 8 = .ok (.iushr, 1) := by decide +kernel
theorem dX4_isFeast_9 : decode cX4_isFeast 9 = .ok (.iconst 1, 1) := by decide +kernel
theorem dX4_isFeast_10 : decode cX4_isFeast 10 = .ok (.iand, 1) := by decide +kernel
theorem dX4_isFeast_11 : decode cX4_isFeast 11 = .ok (.iconst 1, 1) := by decide +kernel
theorem dX4_isFeast_12 : decode cX4_isFeast 12 = .ok (.if_icmp .ne 7, 3) := by decide +kernel
theorem dX4_isFeast_15 : decode cX4_isFeast 15 = .ok (.iconst 1, 1) := by decide +kernel
theorem dX4_isFeast_16 : decode cX4_isFeast 16 = .ok (.goto 4, 3) := by decide +kernel
theorem dX4_isFeast_19 : decode cX4_isFeast 19 = .ok (.iconst 0, 1) := by decide +kernel
theorem dX4_isFeast_20 : decode cX4_isFeast 20 = .ok (.ireturn, 1) := by decide +kernel
set_option maxRecDepth 20000 in
theorem ggX4_inADay_X4_number : GoodIn wsX4_inADay wsX4_number := goodIn_r _ [5, 6, 7, 8, 9] (by decide +kernel) (by decide +kernel)
set_option maxRecDepth 20000 in
theorem gX4_inADay_X4_number : GoodIn wsX4_inADay (wsV RX4 27 RX4 yX4_number wsX4_number) := goodIn_app (goodIn_of _ (by decide +kernel)) ggX4_inADay_X4_number
theorem dX4_inADay_0 : decode cX4_inADay 0 = .ok (.aload_n 0, 1) := by decide +kernel
theorem dX4_inADay_1 : decode cX4_inADay 1 = .ok (.iload_n 1, 1) := by decide +kernel
theorem dX4_inADay_2 : decode cX4_inADay 2 = .ok (.iconst 2, 1) := by decide +kernel
theorem dX4_inADay_3 : decode cX4_inADay 3 = .ok (.invokevirtual 27, 3) := by decide +kernel
theorem dX4_inADay_6 : decode cX4_inADay 6 = .ok (.istore_n 3, 1) := by decide +kernel
theorem dX4_inADay_7 : decode cX4_inADay 7 = .ok (.iload_n 1, 1) := by decide +kernel
theorem dX4_inADay_8 : decode cX4_inADay 8 = .ok (.iconst 4, 1) := by decide +kernel
theorem dX4_inADay_9 : decode cX4_inADay 9 = .ok (.if_icmp .ne 11, 3) := by decide +kernel
theorem dX4_inADay_12 : decode cX4_inADay 12 = .ok (.iload_n 2, 1) := by decide +kernel
theorem dX4_inADay_13 : decode cX4_inADay 13 = .ok (.iload_n 3, 1) := by decide +kernel
theorem dX4_inADay_14 : decode cX4_inADay 14 = .ok (.iconst 1, 1) := by decide +kernel
theorem dX4_inADay_15 : decode cX4_inADay 15 = .ok (.iadd, 1) := by decide +kernel
theorem dX4_inADay_16 : decode cX4_inADay 16 = .ok (.imul, 1) := by decide +kernel
theorem dX4_inADay_17 : decode cX4_inADay 17 = .ok (.goto 4, 3) := by decide +kernel
theorem dX4_inADay_20 : decode cX4_inADay 20 = .ok (.iload_n 3, 1) := by decide +kernel
theorem dX4_inADay_21 : decode cX4_inADay 21 = .ok (.ireturn, 1) := by decide +kernel
set_option maxRecDepth 20000 in
theorem ggX4_unitsAtMost_X4_inADay : GoodIn wsX4_unitsAtMost wsX4_inADay := goodIn_r _ [9, 10, 11, 12, 8, 13, 14, 28, 29, 30] (by decide +kernel) (by decide +kernel)
set_option maxRecDepth 20000 in
theorem gX4_unitsAtMost_X4_inADay : GoodIn wsX4_unitsAtMost (wsV RX4 31 RX4 yX4_inADay wsX4_inADay) := goodIn_app (goodIn_of _ (by decide +kernel)) ggX4_unitsAtMost_X4_inADay
set_option maxRecDepth 20000 in
theorem ggX4_unitsAtMost_X4_openDays : GoodIn wsX4_unitsAtMost wsX4_openDays := goodIn_r _ [18, 19, 20, 21, 8, 22, 23, 24, 25, 26, 27, 28, 29, 30] (by decide +kernel) (by decide +kernel)
set_option maxRecDepth 20000 in
theorem gX4_unitsAtMost_X4_openDays : GoodIn wsX4_unitsAtMost (wsV RX4 34 RX4 yX4_openDays wsX4_openDays) := goodIn_app (goodIn_of _ (by decide +kernel)) ggX4_unitsAtMost_X4_openDays
set_option maxRecDepth 20000 in
theorem ggX4_unitsAtMost_X4_number : GoodIn wsX4_unitsAtMost wsX4_number := goodIn_r _ [13, 14, 28, 29, 30] (by decide +kernel) (by decide +kernel)
set_option maxRecDepth 20000 in
theorem gX4_unitsAtMost_X4_number : GoodIn wsX4_unitsAtMost (wsV RX4 27 RX4 yX4_number wsX4_number) := goodIn_app (goodIn_of _ (by decide +kernel)) ggX4_unitsAtMost_X4_number
theorem dX4_unitsAtMost_0 : decode cX4_unitsAtMost 0 = .ok (.aload_n 0, 1) := by decide +kernel
theorem dX4_unitsAtMost_1 : decode cX4_unitsAtMost 1 = .ok (.iload_n 1, 1) := by decide +kernel
theorem dX4_unitsAtMost_2 : decode cX4_unitsAtMost 2 = .ok (.iload_n 3, 1) := by decide +kernel
theorem dX4_unitsAtMost_3 : decode cX4_unitsAtMost 3 = .ok (.invokevirtual 31, 3) := by decide +kernel
theorem dX4_unitsAtMost_6 : decode cX4_unitsAtMost 6 = .ok (.aload_n 0, 1) := by decide +kernel
theorem dX4_unitsAtMost_7 : decode cX4_unitsAtMost 7 = .ok (.iload_n 1, 1) := by decide +kernel
theorem dX4_unitsAtMost_8 : decode cX4_unitsAtMost 8 = .ok (.iload_n 2, 1) := by decide +kernel
theorem dX4_unitsAtMost_9 : decode cX4_unitsAtMost 9 = .ok (.invokevirtual 34, 3) := by decide +kernel
theorem dX4_unitsAtMost_12 : decode cX4_unitsAtMost 12 = .ok (.imul, 1) := by decide +kernel
theorem dX4_unitsAtMost_13 : decode cX4_unitsAtMost 13 = .ok (.istore 4, 2) := by decide +kernel
theorem dX4_unitsAtMost_15 : decode cX4_unitsAtMost 15 = .ok (.aload_n 0, 1) := by decide +kernel
theorem dX4_unitsAtMost_16 : decode cX4_unitsAtMost 16 = .ok (.iload_n 1, 1) := by decide +kernel
theorem dX4_unitsAtMost_17 : decode cX4_unitsAtMost 17 = .ok (.iconst 3, 1) := by decide +kernel
theorem dX4_unitsAtMost_18 : decode cX4_unitsAtMost 18 = .ok (.invokevirtual 27, 3) := by decide +kernel
theorem dX4_unitsAtMost_21 : decode cX4_unitsAtMost 21 = .ok (.iload 4, 2) := by decide +kernel
theorem dX4_unitsAtMost_23 : decode cX4_unitsAtMost 23 = .ok (.invokestatic 37, 3) := by decide +kernel
theorem dX4_unitsAtMost_26 : decode cX4_unitsAtMost 26 = .ok (.ireturn, 1) := by decide +kernel
set_option maxRecDepth 20000 in
theorem ggX4_openDays_X4_daysWithoutFeast : GoodIn wsX4_openDays wsX4_daysWithoutFeast := goodIn_r _ [5, 6, 7, 8, 4, 9, 10, 11, 12, 13] (by decide +kernel) (by decide +kernel)
set_option maxRecDepth 20000 in
theorem gX4_openDays_X4_daysWithoutFeast : GoodIn wsX4_openDays (wsV RX4 42 RX4 yX4_daysWithoutFeast wsX4_daysWithoutFeast) := goodIn_app (goodIn_of _ (by decide +kernel)) ggX4_openDays_X4_daysWithoutFeast
theorem dX4_openDays_0 : decode cX4_openDays 0 = .ok (.iload_n 1, 1) := by decide +kernel
theorem dX4_openDays_1 : decode cX4_openDays 1 = .ok (.iconst 3, 1) := by decide +kernel
theorem dX4_openDays_2 : decode cX4_openDays 2 = .ok (.if_icmp .ne 9, 3) := by decide +kernel
theorem dX4_openDays_5 : decode cX4_openDays 5 = .ok (.iload_n 2, 1) := by decide +kernel
theorem dX4_openDays_6 : decode cX4_openDays 6 = .ok (.iconst 1, 1) := by decide +kernel
theorem dX4_openDays_7 : decode cX4_openDays 7 = .ok (.iadd, 1) := by decide +kernel
theorem dX4_openDays_8 : decode cX4_openDays 8 = .ok (.iconst 2, 1) := by decide +kernel
theorem dX4_openDays_9 : decode cX4_openDays 9 = .ok (.idiv, 1) := by decide +kernel
theorem dX4_openDays_10 : decode cX4_openDays 10 = .ok (.ireturn, 1) := by decide +kernel
theorem dX4_openDays_11 : decode cX4_openDays 11 = .ok (.iload_n 1, 1) := by decide +kernel
theorem dX4_openDays_12 : decode cX4_openDays 12 = .ok (.ifCond .eq 8, 3) := by decide +kernel
theorem dX4_openDays_15 : decode cX4_openDays 15 = .ok (.iload_n 1, 1) := by decide +kernel
theorem dX4_openDays_16 : decode cX4_openDays 16 = .ok (.iconst 5, 1) := by decide +kernel
theorem dX4_openDays_17 : decode cX4_openDays 17 = .ok (.if_icmp .ne 11, 3) := by decide +kernel
theorem dX4_openDays_20 : decode cX4_openDays 20 = .ok (.aload_n 0, 1) := by decide +kernel
theorem dX4_openDays_21 : decode cX4_openDays 21 = .ok (.iload_n 2, 1) := by decide +kernel
theorem dX4_openDays_22 : decode cX4_openDays 22 = .ok (.invokevirtual 42, 3) := by decide +kernel
theorem dX4_openDays_25 : decode cX4_openDays 25 = .ok (.goto 4, 3) := by decide +kernel
theorem dX4_openDays_28 : decode cX4_openDays 28 = .ok (.iload_n 2, 1) := by decide +kernel
theorem dX4_openDays_29 : decode cX4_openDays 29 = .ok (.ireturn, 1) := by decide +kernel
set_option maxRecDepth 20000 in
theorem ggX4_daysWithoutFeast_X4_isFeast : GoodIn wsX4_daysWithoutFeast wsX4_isFeast := goodIn_r _ [5, 6, 7, 8, 9] (by decide +kernel) (by decide +kernel)
set_option maxRecDepth 20000 in
theorem gX4_daysWithoutFeast_X4_isFeast : GoodIn wsX4_daysWithoutFeast (wsV RX4 46 RX4 yX4_isFeast wsX4_isFeast) := goodIn_app (goodIn_of _ (by decide +kernel)) ggX4_daysWithoutFeast_X4_isFeast
theorem dX4_daysWithoutFeast_0 : decode cX4_daysWithoutFeast 0 = .ok (.iconst 0, 1) := by decide +kernel
theorem dX4_daysWithoutFeast_1 : decode cX4_daysWithoutFeast 1 = .ok (.istore_n 2, 1) := by decide +kernel
theorem dX4_daysWithoutFeast_2 : decode cX4_daysWithoutFeast 2 = .ok (.iconst 0, 1) := by decide +kernel
theorem dX4_daysWithoutFeast_3 : decode cX4_daysWithoutFeast 3 = .ok (.istore_n 3, 1) := by decide +kernel
theorem dX4_daysWithoutFeast_4 : decode cX4_daysWithoutFeast 4 = .ok (.iload_n 3, 1) := by decide +kernel
theorem dX4_daysWithoutFeast_5 : decode cX4_daysWithoutFeast 5 = .ok (.iload_n 1, 1) := by decide +kernel
theorem dX4_daysWithoutFeast_6 : decode cX4_daysWithoutFeast 6 = .ok (.if_icmp .ge 20, 3) := by decide +kernel
theorem dX4_daysWithoutFeast_9 : decode cX4_daysWithoutFeast 9 = .ok (.aload_n 0, 1) := by decide +kernel
theorem dX4_daysWithoutFeast_10 : decode cX4_daysWithoutFeast 10 = .ok (.iload_n 3, 1) := by decide +kernel
theorem dX4_daysWithoutFeast_11 : decode cX4_daysWithoutFeast 11 = .ok (.invokevirtual 46, 3) := by decide +kernel
theorem dX4_daysWithoutFeast_14 : decode cX4_daysWithoutFeast 14 = .ok (.ifCond .ne 6, 3) := by decide +kernel
theorem dX4_daysWithoutFeast_17 : decode cX4_daysWithoutFeast 17 = .ok (.iinc 2 1, 3) := by decide +kernel
theorem dX4_daysWithoutFeast_20 : decode cX4_daysWithoutFeast 20 = .ok (.iinc 3 1, 3) := by decide +kernel
theorem dX4_daysWithoutFeast_23 : decode cX4_daysWithoutFeast 23 = .ok (.goto (-19), 3) := by decide +kernel
theorem dX4_daysWithoutFeast_26 : decode cX4_daysWithoutFeast 26 = .ok (.iload_n 2, 1) := by decide +kernel
theorem dX4_daysWithoutFeast_27 : decode cX4_daysWithoutFeast 27 = .ok (.ireturn, 1) := by decide +kernel
theorem dX4_copyFrom_0 : decode cX4_copyFrom 0 = .ok (.aload_n 1, 1) := by decide +kernel
theorem dX4_copyFrom_1 : decode cX4_copyFrom 1 = .ok (.getfield 18, 3) := by decide +kernel
theorem dX4_copyFrom_4 : decode cX4_copyFrom 4 = .ok (.iconst 0, 1) := by decide +kernel
theorem dX4_copyFrom_5 : decode cX4_copyFrom 5 = .ok (.aload_n 0, 1) := by decide +kernel
theorem dX4_copyFrom_6 : decode cX4_copyFrom 6 = .ok (.getfield 18, 3) := by decide +kernel
theorem dX4_copyFrom_9 : decode cX4_copyFrom 9 = .ok (.iconst 0, 1) := by decide +kernel
theorem dX4_copyFrom_10 : decode cX4_copyFrom 10 = .ok (.aload_n 0, 1) := by decide +kernel
theorem dX4_copyFrom_11 : decode cX4_copyFrom 11 = .ok (.getfield 18, 3) := by decide +kernel
theorem dX4_copyFrom_14 : decode cX4_copyFrom 14 = .ok (.arraylength, 1) := by decide +kernel
theorem dX4_copyFrom_15 : decode cX4_copyFrom 15 = .ok (.invokestatic 50, 3) := by decide +kernel
theorem dX4_copyFrom_18 : decode cX4_copyFrom 18 = .ok (.aload_n 0, 1) := by decide +kernel
theorem dX4_copyFrom_19 : decode cX4_copyFrom 19 = .ok (.aload_n 1, 1) := by decide +kernel
theorem dX4_copyFrom_20 : decode cX4_copyFrom 20 = .ok (.getfield 23, 3) := by decide +kernel
theorem dX4_copyFrom_23 : decode cX4_copyFrom 23 = .ok (.putfield 23, 3) := by decide +kernel
theorem dX4_copyFrom_26 : decode cX4_copyFrom 26 = .ok (.aload_n 0, 1) := by decide +kernel
theorem dX4_copyFrom_27 : decode cX4_copyFrom 27 = .ok (.aload_n 1, 1) := by decide +kernel
theorem dX4_copyFrom_28 : decode cX4_copyFrom 28 = .ok (.getfield 56, 3) := by decide +kernel
theorem dX4_copyFrom_31 : decode cX4_copyFrom 31 = .ok (.putfield 56, 3) := by decide +kernel
theorem dX4_copyFrom_34 : decode cX4_copyFrom 34 = .ok (.return_, 1) := by decide +kernel
theorem dX5_init_0 : decode cX5_init 0 = .ok (.aload_n 0, 1) := by decide +kernel
theorem dX5_init_1 : decode cX5_init 1 = .ok (.invokespecial 3, 3) := by decide +kernel
theorem dX5_init_4 : decode cX5_init 4 = .ok (.aload_n 0, 1) := by decide +kernel
theorem dX5_init_5 : decode cX5_init 5 = .ok (.bipush 12, 2) := by decide +kernel
theorem dX5_init_7 : decode cX5_init 7 = .ok (.newarray .int, 2) := by decide +kernel
theorem dX5_init_9 : decode cX5_init 9 = .ok (.putfield 9, 3) := by decide +kernel
theorem dX5_init_12 : decode cX5_init 12 = .ok (.aload_n 0, 1) := by decide +kernel
theorem dX5_init_13 : decode cX5_init 13 = .ok (.bipush 12, 2) := by decide +kernel
theorem dX5_init_15 : decode cX5_init 15 = .ok (.newarray .int, 2) := by decide +kernel
theorem dX5_init_17 : decode cX5_init 17 = .ok (.putfield 15, 3) := by decide +kernel
theorem dX5_init_20 : decode cX5_init 20 = .ok (.aload_n 0, 1) := by decide +kernel
theorem dX5_init_21 : decode cX5_init 21 = .ok (.bipush 12, 2) := by decide +kernel
theorem dX5_init_23 : decode cX5_init 23 = .ok (.newarray .int, 2) := by decide +kernel
theorem dX5_init_25 : decode cX5_init 25 = .ok (.putfield 18, 3) := by decide +kernel
theorem dX5_init_28 : decode cX5_init 28 = .ok (.aload_n 0, 1) := by decide +kernel
theorem dX5_init_29 : decode cX5_init 29 = .ok (.bipush 12, 2) := by decide +kernel
theorem dX5_init_31 : decode cX5_init 31 = .ok (.newarray .int, 2) := by decide +kernel
theorem dX5_init_33 : decode cX5_init 33 = .ok (.putfield 21, 3) := by decide +kernel
theorem dX5_init_36 : decode cX5_init 36 = .ok (.return_, 1) := by decide +kernel
theorem dX5_add_0 : decode cX5_add 0 = .ok (.aload_n 0, 1) := by decide +kernel
theorem dX5_add_1 : decode cX5_add 1 = .ok (.getfield 24, 3) := by decide +kernel
theorem dX5_add_4 : decode cX5_add 4 = .ok (.bipush 12, 2) := by decide +kernel
theorem dX5_add_6 : decode cX5_add 6 = .ok (.if_icmp .ge 54, 3) := by decide +kernel
theorem dX5_add_9 : decode cX5_add 9 = .ok (.aload_n 0, 1) := by decide +kernel
theorem dX5_add_10 : decode cX5_add 10 = .ok (.getfield 9, 3) := by decide +kernel
theorem dX5_add_13 : decode cX5_add 13 = .ok (.aload_n 0, 1) := by decide +kernel
theorem dX5_add_14 : decode cX5_add 14 = .ok (.getfield 24, 3) := by decide +kernel
theorem dX5_add_17 : decode cX5_add 17 = .ok (.iload_n 1, 1) := by decide +kernel
theorem dX5_add_18 : decode cX5_add 18 = .ok (.iastore, 1) := by decide +kernel
theorem dX5_add_19 : decode cX5_add 19 = .ok (.aload_n 0, 1) := by decide +kernel
theorem dX5_add_20 : decode cX5_add 20 = .ok (.getfield 15, 3) := by decide +kernel
theorem dX5_add_23 : decode cX5_add 23 = .ok (.aload_n 0, 1) := by decide +kernel
theorem dX5_add_24 : decode cX5_add 24 = .ok (.getfield 24, 3) := by decide +kernel
theorem dX5_add_27 : decode cX5_add 27 = .ok (.iload_n 2, 1) := by decide +kernel
theorem dX5_add_28 : decode cX5_add 28 = .ok (.iastore, 1) := by decide +kernel
theorem dX5_add_29 : decode cX5_add 29 = .ok (.aload_n 0, 1) := by decide +kernel
theorem dX5_add_30 : decode cX5_add 30 = .ok (.getfield 18, 3) := by decide +kernel
theorem dX5_add_33 : decode cX5_add 33 = .ok (.aload_n 0, 1) := by decide +kernel
theorem dX5_add_34 : decode cX5_add 34 = .ok (.getfield 24, 3) := by decide +kernel
theorem dX5_add_37 : decode cX5_add 37 = .ok (.iload_n 3, 1) := by decide +kernel
theorem dX5_add_38 : decode cX5_add 38 = .ok (.iastore, 1) := by decide +kernel
theorem dX5_add_39 : decode cX5_add 39 = .ok (.aload_n 0, 1) := by decide +kernel
theorem dX5_add_40 : decode cX5_add 40 = .ok (.getfield 21, 3) := by decide +kernel
theorem dX5_add_43 : decode cX5_add 43 = .ok (.aload_n 0, 1) := by decide +kernel
theorem dX5_add_44 : decode cX5_add 44 = .ok (.getfield 24, 3) := by decide +kernel
theorem dX5_add_47 : decode cX5_add 47 = .ok (.iload 4, 2) := by decide +kernel
theorem dX5_add_49 : decode cX5_add 49 = .ok (.iastore, 1) := by decide +kernel
theorem dX5_add_50 : decode cX5_add 50 = .ok (.aload_n 0, 1) := by decide +kernel
theorem dX5_add_51 : decode cX5_add 51 = .ok (.dup, 1) := by decide +kernel
theorem dX5_add_52 : decode cX5_add 52 = .ok (.getfield 24, 3) := by decide +kernel
theorem dX5_add_55 : decode cX5_add 55 = .ok (.iconst 1, 1) := by decide +kernel
theorem dX5_add_56 : decode cX5_add 56 = .ok (.iadd, 1) := by decide +kernel
theorem dX5_add_57 : decode cX5_add 57 = .ok (.putfield 24, 3) := by decide +kernel
theorem dX5_add_60 : decode cX5_add 60 = .ok (.aload_n 0, 1) := by decide +kernel
theorem dX5_add_61 : decode cX5_add 61 = .ok (.getfield 24, 3) := by decide +kernel
theorem dX5_add_64 : decode cX5_add 64 = .ok (.ireturn, 1) := by decide +kernel
theorem dX5_copyFrom_0 : decode cX5_copyFrom 0 = .ok (.aload_n 1, 1) := by decide +kernel
theorem dX5_copyFrom_1 : decode cX5_copyFrom 1 = .ok (.getfield 9, 3) := by decide +kernel
theorem dX5_copyFrom_4 : decode cX5_copyFrom 4 = .ok (.iconst 0, 1) := by decide +kernel
theorem dX5_copyFrom_5 : decode cX5_copyFrom 5 = .ok (.aload_n 0, 1) := by decide +kernel
theorem dX5_copyFrom_6 : decode cX5_copyFrom 6 = .ok (.getfield 9, 3) := by decide +kernel
theorem dX5_copyFrom_9 : decode cX5_copyFrom 9 = .ok (.iconst 0, 1) := by decide +kernel
theorem dX5_copyFrom_10 : decode cX5_copyFrom 10 = .ok (.bipush 12, 2) := by decide +kernel
theorem dX5_copyFrom_12 : decode cX5_copyFrom 12 = .ok (.invokestatic 28, 3) := by decide +kernel
theorem dX5_copyFrom_15 : decode cX5_copyFrom 15 = .ok (.aload_n 1, 1) := by decide +kernel
theorem dX5_copyFrom_16 : decode cX5_copyFrom 16 = .ok (.getfield 15, 3) := by decide +kernel
theorem dX5_copyFrom_19 : decode cX5_copyFrom 19 = .ok (.iconst 0, 1) := by decide +kernel
theorem dX5_copyFrom_20 : decode cX5_copyFrom 20 = .ok (.aload_n 0, 1) := by decide +kernel
theorem dX5_copyFrom_21 : decode cX5_copyFrom 21 = .ok (.getfield 15, 3) := by decide +kernel
theorem dX5_copyFrom_24 : decode cX5_copyFrom 24 = .ok (.iconst 0, 1) := by decide +kernel
theorem dX5_copyFrom_25 : decode cX5_copyFrom 25 = .ok (.bipush 12, 2) := by decide +kernel
theorem dX5_copyFrom_27 : decode cX5_copyFrom 27 = .ok (.invokestatic 28, 3) := by decide +kernel
theorem dX5_copyFrom_30 : decode cX5_copyFrom 30 = .ok (.aload_n 1, 1) := by decide +kernel
theorem dX5_copyFrom_31 : decode cX5_copyFrom 31 = .ok (.getfield 18, 3) := by decide +kernel
theorem dX5_copyFrom_34 : decode cX5_copyFrom 34 = .ok (.iconst 0, 1) := by decide +kernel
theorem dX5_copyFrom_35 : decode cX5_copyFrom 35 = .ok (.aload_n 0, 1) := by decide +kernel
theorem dX5_copyFrom_36 : decode cX5_copyFrom 36 = .ok (.getfield 18, 3) := by decide +kernel
theorem dX5_copyFrom_39 : decode cX5_copyFrom 39 = .ok (.iconst 0, 1) := by decide +kernel
theorem dX5_copyFrom_40 : decode cX5_copyFrom 40 = .ok (.bipush 12, 2) := by decide +kernel
theorem dX5_copyFrom_42 : decode cX5_copyFrom 42 = .ok (.invokestatic 28, 3) := by decide +kernel
theorem dX5_copyFrom_45 : decode cX5_copyFrom 45 = .ok (.aload_n 1, 1) := by decide +kernel
theorem dX5_copyFrom_46 : decode cX5_copyFrom 46 = .ok (.getfield 21, 3) := by decide +kernel
theorem dX5_copyFrom_49 : decode cX5_copyFrom 49 = .ok (.iconst 0, 1) := by decide +kernel
theorem dX5_copyFrom_50 : decode cX5_copyFrom 50 = .ok (.aload_n 0, 1) := by decide +kernel
theorem dX5_copyFrom_51 : decode cX5_copyFrom 51 = .ok (.getfield 21, 3) := by decide +kernel
theorem dX5_copyFrom_54 : decode cX5_copyFrom 54 = .ok (.iconst 0, 1) := by decide +kernel
theorem dX5_copyFrom_55 : decode cX5_copyFrom 55 = .ok (.bipush 12, 2) := by decide +kernel
theorem dX5_copyFrom_57 : decode cX5_copyFrom 57 = .ok (.invokestatic 28, 3) := by decide +kernel
theorem dX5_copyFrom_60 : decode cX5_copyFrom 60 = .ok (.aload_n 0, 1) := by decide +kernel
theorem dX5_copyFrom_61 : decode cX5_copyFrom 61 = .ok (.aload_n 1, 1) := by decide +kernel
theorem dX5_copyFrom_62 : decode cX5_copyFrom 62 = .ok (.getfield 24, 3) := by decide +kernel
theorem dX5_copyFrom_65 : decode cX5_copyFrom 65 = .ok (.putfield 24, 3) := by decide +kernel
theorem dX5_copyFrom_68 : decode cX5_copyFrom 68 = .ok (.return_, 1) := by decide +kernel
theorem dX6_init_0 : decode cX6_init 0 = .ok (.aload_n 0, 1) := by decide +kernel
theorem dX6_init_1 : decode cX6_init 1 = .ok (.invokespecial 3, 3) := by decide +kernel
theorem dX6_init_4 : decode cX6_init 4 = .ok (.aload_n 0, 1) := by decide +kernel
theorem dX6_init_5 : decode cX6_init 5 = .ok (.sipush 4096, 3) := by decide +kernel
theorem dX6_init_8 : decode cX6_init 8 = .ok (.newarray .boolean, 2) := by decide +kernel
theorem dX6_init_10 : decode cX6_init 10 = .ok (.putfield 9, 3) := by decide +kernel
theorem dX6_init_13 : decode cX6_init 13 = .ok (.aload_n 0, 1) := by decide +kernel
theorem dX6_init_14 : decode cX6_init 14 = .ok (.aload_n 1, 1) := by decide +kernel
theorem dX6_init_15 : decode cX6_init 15 = .ok (.putfield 15, 3) := by decide +kernel
theorem dX6_init_18 : decode cX6_init 18 = .ok (.return_, 1) := by decide +kernel
set_option maxRecDepth 20000 in
theorem ggX6_shortest_X6_lookThrough : GoodIn wsX6_shortest wsX6_lookThrough := goodIn_r _ [7, 1, 2, 8, 9, 10, 6, 11, 12, 13, 14, 15, 16, 17, 18, 19, 20, 21, 22, 23, 31, 32, 33, 34, 35, 36, 37] (by decide +kernel) (by decide +kernel)
set_option maxRecDepth 20000 in
theorem gX6_shortest_X6_lookThrough : GoodIn wsX6_shortest (wsV RX6 19 RX6 yX6_lookThrough wsX6_lookThrough) := goodIn_app (goodIn_of _ (by decide +kernel)) ggX6_shortest_X6_lookThrough
set_option maxRecDepth 20000 in
theorem ggX6_shortest_J6_bitCount_0f7a4 : GoodIn wsX6_shortest wsJ6_bitCount_0f7a4 := goodIn_r _ [27, 28, 29, 30] (by decide +kernel) (by decide +kernel)
set_option maxRecDepth 20000 in
theorem gX6_shortest_J6_bitCount_0f7a4 : GoodIn wsX6_shortest (va_wsS RX6 28 yJ6_bitCount_0f7a4 wsJ6_bitCount_0f7a4) := goodIn_app (goodIn_of _ (by decide +kernel)) ggX6_shortest_J6_bitCount_0f7a4
theorem dX6_shortest_0 : decode cX6_shortest 0 = .ok (.aload_n 0, 1) := by decide +kernel
theorem dX6_shortest_1 : decode cX6_shortest 1 = .ok (.invokevirtual 19, 3) := by decide +kernel
theorem dX6_shortest_4 : decode cX6_shortest 4 = .ok (.bipush (-9), 2) := by decide +kernel
theorem dX6_shortest_6 : decode cX6_shortest 6 = .ok (.istore_n 1, 1) := by decide +kernel
theorem dX6_shortest_7 : decode cX6_shortest 7 = .ok (.iconst 0, 1) := by decide +kernel
theorem dX6_shortest_8 : decode cX6_shortest 8 = .ok (.istore_n 2, 1) := by decide +kernel
theorem dX6_shortest_9 : decode cX6_shortest 9 = .ok (.iload_n 2, 1) := by decide +kernel
theorem dX6_shortest_10 : decode cX6_shortest 10 = .ok (.iconst 1, 1) := by decide +kernel
theorem dX6_shortest_11 : decode cX6_shortest 11 = .ok (.aload_n 0, 1) := by decide +kernel
theorem dX6_shortest_12 : decode cX6_shortest 12 = .ok (.getfield 15, 3) := by decide +kernel
theorem dX6_shortest_15 : decode cX6_shortest 15 = .ok (.getfield 22, 3) := by decide +kernel
theorem dX6_shortest_18 : decode cX6_shortest 18 = .ok (.ishl, 1) := by decide +kernel
theorem dX6_shortest_19 : decode cX6_shortest 19 = .ok (.if_icmp .ge 36, 3) := by decide +kernel
theorem dX6_shortest_22 : decode cX6_shortest 22 = .ok (.iload_n 2, 1) := by decide +kernel
theorem dX6_shortest_23 : decode cX6_shortest 23 = .ok (.invokestatic 28, 3) := by decide +kernel
theorem dX6_shortest_26 : decode cX6_shortest 26 = .ok (.istore_n 3, 1) := by decide +kernel
theorem dX6_shortest_27 : decode cX6_shortest 27 = .ok (.aload_n 0, 1) := by decide +kernel
theorem dX6_shortest_28 : decode cX6_shortest 28 = .ok (.getfield 9, 3) := by decide +kernel
theorem dX6_shortest_31 : decode cX6_shortest 31 = .ok (.iload_n 2, 1) := by decide +kernel
theorem dX6_shortest_32 : decode cX6_shortest 32 = .ok (.baload, 1) := by decide +kernel
theorem dX6_shortest_33 : decode cX6_shortest 33 = .ok (.ifCond .eq 16, 3) := by decide +kernel
theorem dX6_shortest_36 : decode cX6_shortest 36 = .ok (.iload_n 1, 1) := by decide +kernel
theorem dX6_shortest_37 : decode cX6_shortest 37 = .ok (.bipush (-9), 2) := by decide +kernel
theorem dX6_shortest_39 : decode cX6_shortest 39 = .ok (.if_icmp .eq 8, 3) := by decide +kernel
theorem dX6_shortest_42 : decode cX6_shortest 42 = .ok (.iload_n 3, 1) := by decide +kernel
theorem dX6_shortest_43 : decode cX6_shortest 43 = .ok (.iload_n 1, 1) := by decide +kernel
theorem dX6_shortest_44 : decode cX6_shortest 44 = .ok (.if_icmp .ge 5, 3) := by decide +kernel
theorem dX6_shortest_47 : decode cX6_shortest 47 = .ok (.iload_n 3, 1) := by decide +kernel
theorem dX6_shortest_48 : decode cX6_shortest 48 = .ok (.istore_n 1, 1) := by decide +kernel
theorem dX6_shortest_49 : decode cX6_shortest 49 = .ok (.iinc 2 1, 3) := by decide +kernel
theorem dX6_shortest_52 : decode cX6_shortest 52 = .ok (.goto (-43), 3) := by decide +kernel
theorem dX6_shortest_55 : decode cX6_shortest 55 = .ok (.iload_n 1, 1) := by decide +kernel
theorem dX6_shortest_56 : decode cX6_shortest 56 = .ok (.ireturn, 1) := by decide +kernel
set_option maxRecDepth 20000 in
theorem ggX6_fewestStops_X6_lookThrough : GoodIn wsX6_fewestStops wsX6_lookThrough := goodIn_r _ [7, 1, 2, 8, 9, 10, 6, 11, 12, 13, 14, 15, 16, 17, 18, 19, 20, 21, 22, 23, 31, 32, 33, 34, 35, 36, 37] (by decide +kernel) (by decide +kernel)
set_option maxRecDepth 20000 in
theorem gX6_fewestStops_X6_lookThrough : GoodIn wsX6_fewestStops (wsV RX6 19 RX6 yX6_lookThrough wsX6_lookThrough) := goodIn_app (goodIn_of _ (by decide +kernel)) ggX6_fewestStops_X6_lookThrough
set_option maxRecDepth 20000 in
theorem ggX6_fewestStops_J6_bitCount_0f7a4 : GoodIn wsX6_fewestStops wsJ6_bitCount_0f7a4 := goodIn_r _ [27, 28, 29, 30] (by decide +kernel) (by decide +kernel)
set_option maxRecDepth 20000 in
theorem gX6_fewestStops_J6_bitCount_0f7a4 : GoodIn wsX6_fewestStops (va_wsS RX6 28 yJ6_bitCount_0f7a4 wsJ6_bitCount_0f7a4) := goodIn_app (goodIn_of _ (by decide +kernel)) ggX6_fewestStops_J6_bitCount_0f7a4
theorem dX6_fewestStops_0 : decode cX6_fewestStops 0 = .ok (.aload_n 0, 1) := by decide +kernel
theorem dX6_fewestStops_1 : decode cX6_fewestStops 1 = .ok (.invokevirtual 19, 3) := by decide +kernel
theorem dX6_fewestStops_4 : decode cX6_fewestStops 4 = .ok (.iconst 1, 1) := by decide +kernel
theorem dX6_fewestStops_5 : decode cX6_fewestStops 5 = .ok (.aload_n 0, 1) := by decide +kernel
theorem dX6_fewestStops_6 : decode cX6_fewestStops 6 = .ok (.getfield 15, 3) := by decide +kernel
theorem dX6_fewestStops_9 : decode cX6_fewestStops 9 = .ok (.getfield 22, 3) := by decide +kernel
theorem dX6_fewestStops_12 : decode cX6_fewestStops 12 = .ok (.ishl, 1) := by decide +kernel
theorem dX6_fewestStops_13 : decode cX6_fewestStops 13 = .ok (.iconst 1, 1) := by decide +kernel
theorem dX6_fewestStops_14 : decode cX6_fewestStops 14 = .ok (.isub, 1) := by decide +kernel
theorem dX6_fewestStops_15 : decode cX6_fewestStops 15 = .ok (.istore_n 1, 1) := by decide +kernel
theorem dX6_fewestStops_16 : decode cX6_fewestStops 16 = .ok (.iload_n 1, 1) := by decide +kernel
theorem dX6_fewestStops_17 : decode cX6_fewestStops 17 = .ok (.istore_n 2, 1) := by decide +kernel
theorem dX6_fewestStops_18 : decode cX6_fewestStops 18 = .ok (.iconst 0, 1) := by decide +kernel
theorem dX6_fewestStops_19 : decode cX6_fewestStops 19 = .ok (.istore_n 3, 1) := by decide +kernel
theorem dX6_fewestStops_20 : decode cX6_fewestStops 20 = .ok (.iload_n 3, 1) := by decide +kernel
theorem dX6_fewestStops_21 : decode cX6_fewestStops 21 = .ok (.iload_n 1, 1) := by decide +kernel
theorem dX6_fewestStops_22 : decode cX6_fewestStops 22 = .ok (.if_icmp .ge 35, 3) := by decide +kernel
theorem dX6_fewestStops_25 : decode cX6_fewestStops 25 = .ok (.aload_n 0, 1) := by decide +kernel
theorem dX6_fewestStops_26 : decode cX6_fewestStops 26 = .ok (.getfield 9, 3) := by decide +kernel
theorem dX6_fewestStops_29 : decode cX6_fewestStops 29 = .ok (.iload_n 1, 1) := by decide +kernel
theorem dX6_fewestStops_30 : decode cX6_fewestStops 30 = .ok (.iload_n 3, 1) := by decide +kernel
theorem dX6_fewestStops_31 : decode cX6_fewestStops 31 = .ok (.iconst (-1), 1) := by decide +kernel
theorem dX6_fewestStops_32 : decode cX6_fewestStops 32 = .ok (.ixor, 1) := by decide +kernel
theorem dX6_fewestStops_33 : decode cX6_fewestStops 33 = .ok (.iand, 1) := by decide +kernel
theorem dX6_fewestStops_34 : decode cX6_fewestStops 34 = .ok (.baload, 1) := by decide +kernel
theorem dX6_fewestStops_35 : decode cX6_fewestStops 35 = .ok (.ifCond .ne 16, 3) := by decide +kernel
theorem dX6_fewestStops_38 : decode cX6_fewestStops 38 = .ok (.iload_n 3, 1) := by decide +kernel
theorem dX6_fewestStops_39 : decode cX6_fewestStops 39 = .ok (.invokestatic 28, 3) := by decide +kernel
theorem dX6_fewestStops_42 : decode cX6_fewestStops 42 = .ok (.iload_n 2, 1) := by decide +kernel
theorem dX6_fewestStops_43 : decode cX6_fewestStops 43 = .ok (.invokestatic 28, 3) := by decide +kernel
theorem dX6_fewestStops_46 : decode cX6_fewestStops 46 = .ok (.if_icmp .ge 5, 3) := by decide +kernel
theorem dX6_fewestStops_49 : decode cX6_fewestStops 49 = .ok (.iload_n 3, 1) := by decide +kernel
theorem dX6_fewestStops_50 : decode cX6_fewestStops 50 = .ok (.istore_n 2, 1) := by decide +kernel
theorem dX6_fewestStops_51 : decode cX6_fewestStops 51 = .ok (.iinc 3 1, 3) := by decide +kernel
theorem dX6_fewestStops_54 : decode cX6_fewestStops 54 = .ok (.goto (-34), 3) := by decide +kernel
theorem dX6_fewestStops_57 : decode cX6_fewestStops 57 = .ok (.iload_n 2, 1) := by decide +kernel
theorem dX6_fewestStops_58 : decode cX6_fewestStops 58 = .ok (.ireturn, 1) := by decide +kernel
set_option maxRecDepth 20000 in
theorem ggX6_lookThrough_X6_smallerHolds : GoodIn wsX6_lookThrough wsX6_smallerHolds := goodIn_r _ [7, 1, 2, 20, 21, 22, 23, 24, 25, 26] (by decide +kernel) (by decide +kernel)
set_option maxRecDepth 20000 in
theorem gX6_lookThrough_X6_smallerHolds : GoodIn wsX6_lookThrough (wsV RX6 34 RX6 yX6_smallerHolds wsX6_smallerHolds) := goodIn_app (goodIn_of _ (by decide +kernel)) ggX6_lookThrough_X6_smallerHolds
set_option maxRecDepth 20000 in
theorem ggX6_lookThrough_X6_isRing : GoodIn wsX6_lookThrough wsX6_isRing := goodIn_r _ [11, 1, 12, 13, 14, 6, 15, 16, 17, 18, 19, 20, 21, 22, 23, 24, 25, 26] (by decide +kernel) (by decide +kernel)
set_option maxRecDepth 20000 in
theorem gX6_lookThrough_X6_isRing : GoodIn wsX6_lookThrough (wsV RX6 38 RX6 yX6_isRing wsX6_isRing) := goodIn_app (goodIn_of _ (by decide +kernel)) ggX6_lookThrough_X6_isRing
theorem dX6_lookThrough_0 : decode cX6_lookThrough 0 = .ok (.iconst 0, 1) := by decide +kernel
theorem dX6_lookThrough_1 : decode cX6_lookThrough 1 = .ok (.istore_n 1, 1) := by decide +kernel
theorem dX6_lookThrough_2 : decode cX6_lookThrough 2 = .ok (.iload_n 1, 1) := by decide +kernel
theorem dX6_lookThrough_3 : decode cX6_lookThrough 3 = .ok (.iconst 1, 1) := by decide +kernel
theorem dX6_lookThrough_4 : decode cX6_lookThrough 4 = .ok (.aload_n 0, 1) := by decide +kernel
theorem dX6_lookThrough_5 : decode cX6_lookThrough 5 = .ok (.getfield 15, 3) := by decide +kernel
theorem dX6_lookThrough_8 : decode cX6_lookThrough 8 = .ok (.getfield 22, 3) := by decide +kernel
theorem dX6_lookThrough_11 : decode cX6_lookThrough 11 = .ok (.ishl, 1) := by decide +kernel
theorem dX6_lookThrough_12 : decode cX6_lookThrough 12 = .ok (.if_icmp .ge 36, 3) := by decide +kernel
theorem dX6_lookThrough_15 : decode cX6_lookThrough 15 = .ok (.aload_n 0, 1) := by decide +kernel
theorem dX6_lookThrough_16 : decode cX6_lookThrough 16 = .ok (.getfield 9, 3) := by decide +kernel
theorem dX6_lookThrough_19 : decode cX6_lookThrough 19 = .ok (.iload_n 1, 1) := by decide +kernel
theorem dX6_lookThrough_20 : decode cX6_lookThrough 20 = .ok (.aload_n 0, 1) := by decide +kernel
theorem dX6_lookThrough_21 : decode cX6_lookThrough 21 = .ok (.iload_n 1, 1) := by decide +kernel
theorem dX6_lookThrough_22 : decode cX6_lookThrough 22 = .ok (.invokevirtual 34, 3) := by decide +kernel
theorem dX6_lookThrough_25 : decode cX6_lookThrough 25 = .ok (.ifCond .ne 11, 3) := by decide +kernel
theorem dX6_lookThrough_28 : decode cX6_lookThrough 28 = .ok (.aload_n 0, 1) := by decide +kernel
theorem dX6_lookThrough_29 : decode cX6_lookThrough 29 = .ok (.iload_n 1, 1) := by decide +kernel
theorem dX6_lookThrough_30 : decode cX6_lookThrough 30 = .ok (.invokevirtual 38, 3) := by decide +kernel
theorem dX6_lookThrough_33 : decode cX6_lookThrough 33 = .ok (.ifCond .eq 7, 3) := by decide +kernel
theorem dX6_lookThrough_36 : decode cX6_lookThrough 36 = .ok (.iconst 1, 1) := by decide +kernel
theorem dX6_lookThrough_37 : decode cX6_lookThrough 37 = .ok (.goto 4, 3) := by decide +kernel
theorem dX6_lookThrough_40 : decode cX6_lookThrough 40 = .ok (.iconst 0, 1) := by decide +kernel
theorem dX6_lookThrough_41 : decode cX6_lookThrough 41 = .ok (.bastore, 1) := by decide +kernel
theorem dX6_lookThrough_42 : decode cX6_lookThrough 42 = .ok (.iinc 1 1, 3) := by decide +kernel
theorem dX6_lookThrough_45 : decode cX6_lookThrough 45 = .ok (.goto (-43), 3) := by decide +kernel
theorem dX6_lookThrough_48 : decode cX6_lookThrough 48 = .ok (.return_, 1) := by decide +kernel
theorem dX6_smallerHolds_0 : decode cX6_smallerHolds 0 = .ok (.iconst 0, 1) := by decide +kernel
theorem dX6_smallerHolds_1 : decode cX6_smallerHolds 1 = .ok (.istore_n 2, 1) := by decide +kernel
theorem dX6_smallerHolds_2 : decode cX6_smallerHolds 2 = .ok (.iload_n 2, 1) := by decide +kernel
theorem dX6_smallerHolds_3 : decode cX6_smallerHolds 3 = .ok (.aload_n 0, 1) := by decide +kernel
theorem dX6_smallerHolds_4 : decode cX6_smallerHolds 4 = .ok (.getfield 15, 3) := by decide +kernel
theorem dX6_smallerHolds_7 : decode cX6_smallerHolds 7 = .ok (.getfield 22, 3) := by decide +kernel
theorem dX6_smallerHolds_10 : decode cX6_smallerHolds 10 = .ok (.if_icmp .ge 35, 3) := by decide +kernel
theorem dX6_smallerHolds_13 : decode cX6_smallerHolds 13 = .ok (.iload_n 1, 1) := by decide +kernel
theorem dX6_smallerHolds_14 : decode cX6_smallerHolds 14 = .ok (.iload_n 2, 1) := by decide +kernel
theorem dX6_smallerHolds_15 : decode cX6_smallerHolds 15 = .ok (.iushr, 1) := by decide +kernel
theorem dX6_smallerHolds_16 : decode cX6_smallerHolds 16 = .ok (.iconst 1, 1) := by decide +kernel
theorem dX6_smallerHolds_17 : decode cX6_smallerHolds 17 = .ok (.iand, 1) := by decide +kernel
theorem dX6_smallerHolds_18 : decode cX6_smallerHolds 18 = .ok (.iconst 1, 1) := by decide +kernel
theorem dX6_smallerHolds_19 : decode cX6_smallerHolds 19 = .ok (.if_icmp .ne 20, 3) := by decide +kernel
theorem dX6_smallerHolds_22 : decode cX6_smallerHolds 22 = .ok (.aload_n 0, 1) := by decide +kernel
theorem dX6_smallerHolds_23 : decode cX6_smallerHolds 23 = .ok (.getfield 9, 3) := by decide +kernel
theorem dX6_smallerHolds_26 : decode cX6_smallerHolds 26 = .ok (.iload_n 1, 1) := by decide +kernel
theorem dX6_smallerHolds_27 : decode cX6_smallerHolds 27 = .ok (.iconst 1, 1) := by decide +kernel
theorem dX6_smallerHolds_28 : decode cX6_smallerHolds 28 = .ok (.iload_n 2, 1) := by decide +kernel
theorem dX6_smallerHolds_29 : decode cX6_smallerHolds 29 = .ok (.ishl, 1) := by decide +kernel
theorem dX6_smallerHolds_30 : decode cX6_smallerHolds 30 = .ok (.iconst (-1), 1) := by decide +kernel
theorem dX6_smallerHolds_31 : decode cX6_smallerHolds 31 = .ok (.ixor, 1) := by decide +kernel
theorem dX6_smallerHolds_32 : decode cX6_smallerHolds 32 = .ok (.iand, 1) := by decide +kernel
theorem dX6_smallerHolds_33 : decode cX6_smallerHolds 33 = .ok (.baload, 1) := by decide +kernel
theorem dX6_smallerHolds_34 : decode cX6_smallerHolds 34 = .ok (.ifCond .eq 5, 3) := by decide +kernel
theorem dX6_smallerHolds_37 : decode cX6_smallerHolds 37 = .ok (.iconst 1, 1) := by decide +kernel
theorem dX6_smallerHolds_38 : decode cX6_smallerHolds 38 = .ok (.ireturn, 1) := by decide +kernel
theorem dX6_smallerHolds_39 : decode cX6_smallerHolds 39 = .ok (.iinc 2 1, 3) := by decide +kernel
theorem dX6_smallerHolds_42 : decode cX6_smallerHolds 42 = .ok (.goto (-40), 3) := by decide +kernel
theorem dX6_smallerHolds_45 : decode cX6_smallerHolds 45 = .ok (.iconst 0, 1) := by decide +kernel
theorem dX6_smallerHolds_46 : decode cX6_smallerHolds 46 = .ok (.ireturn, 1) := by decide +kernel
set_option maxRecDepth 20000 in
theorem ggX6_isRing_X6_firstKind : GoodIn wsX6_isRing wsX6_firstKind := goodIn_r _ [6, 1, 11, 12, 13, 14, 15, 16, 17] (by decide +kernel) (by decide +kernel)
set_option maxRecDepth 20000 in
theorem gX6_isRing_X6_firstKind : GoodIn wsX6_isRing (wsV RX6 41 RX6 yX6_firstKind wsX6_firstKind) := goodIn_app (goodIn_of _ (by decide +kernel)) ggX6_isRing_X6_firstKind
set_option maxRecDepth 20000 in
theorem ggX6_isRing_X6_puttingFrom : GoodIn wsX6_isRing wsX6_puttingFrom := goodIn_r _ [10, 1, 11, 12, 13, 14, 15, 16, 17] (by decide +kernel) (by decide +kernel)
set_option maxRecDepth 20000 in
theorem gX6_isRing_X6_puttingFrom : GoodIn wsX6_isRing (wsV RX6 44 RX6 yX6_puttingFrom wsX6_puttingFrom) := goodIn_app (goodIn_of _ (by decide +kernel)) ggX6_isRing_X6_puttingFrom
theorem dX6_isRing_0 : decode cX6_isRing 0 = .ok (.aload_n 0, 1) := by decide +kernel
theorem dX6_isRing_1 : decode cX6_isRing 1 = .ok (.iload_n 1, 1) := by decide +kernel
theorem dX6_isRing_2 : decode cX6_isRing 2 = .ok (.invokevirtual 41, 3) := by decide +kernel
theorem dX6_isRing_5 : decode cX6_isRing 5 = .ok (.istore_n 2, 1) := by decide +kernel
theorem dX6_isRing_6 : decode cX6_isRing 6 = .ok (.iload_n 2, 1) := by decide +kernel
theorem dX6_isRing_7 : decode cX6_isRing 7 = .ok (.istore_n 3, 1) := by decide +kernel
theorem dX6_isRing_8 : decode cX6_isRing 8 = .ok (.iload_n 1, 1) := by decide +kernel
theorem dX6_isRing_9 : decode cX6_isRing 9 = .ok (.istore 4, 2) := by decide +kernel
theorem dX6_isRing_11 : decode cX6_isRing 11 = .ok (.iconst 0, 1) := by decide +kernel
theorem dX6_isRing_12 : decode cX6_isRing 12 = .ok (.istore 5, 2) := by decide +kernel
theorem dX6_isRing_14 : decode cX6_isRing 14 = .ok (.lconst 1, 1) := by decide +kernel
theorem dX6_isRing_15 : decode cX6_isRing 15 = .ok (.lstore 6, 2) := by decide +kernel
theorem dX6_isRing_17 : decode cX6_isRing 17 = .ok (.lconst 1, 1) := by decide +kernel
theorem dX6_isRing_18 : decode cX6_isRing 18 = .ok (.lstore 8, 2) := by decide +kernel
theorem dX6_isRing_20 : decode cX6_isRing 20 = .ok (.iconst 0, 1) := by decide +kernel
theorem dX6_isRing_21 : decode cX6_isRing 21 = .ok (.istore 10, 2) := by decide +kernel
theorem dX6_isRing_23 : decode cX6_isRing 23 = .ok (.iload 10, 2) := by decide +kernel
theorem dX6_isRing_25 : decode cX6_isRing 25 = .ok (.bipush 6, 2) := by decide +kernel
theorem dX6_isRing_27 : decode cX6_isRing 27 = .ok (.if_icmp .ge 103, 3) := by decide +kernel
theorem dX6_isRing_30 : decode cX6_isRing 30 = .ok (.iload 5, 2) := by decide +kernel
theorem dX6_isRing_32 : decode cX6_isRing 32 = .ok (.iload_n 3, 1) := by decide +kernel
theorem dX6_isRing_33 : decode cX6_isRing 33 = .ok (.iushr, 1) := by decide +kernel
theorem dX6_isRing_34 : decode cX6_isRing 34 = .ok (.iconst 1, 1) := by decide +kernel
theorem dX6_isRing_35 : decode cX6_isRing 35 = .ok (.iand, 1) := by decide +kernel
theorem dX6_isRing_36 : decode cX6_isRing 36 = .ok (.ifCond .ne 94, 3) := by decide +kernel
theorem dX6_isRing_39 : decode cX6_isRing 39 = .ok (.aload_n 0, 1) := by decide +kernel
theorem dX6_isRing_40 : decode cX6_isRing 40 = .ok (.iload_n 3, 1) := by decide +kernel
theorem dX6_isRing_41 : decode cX6_isRing 41 = .ok (.iload 4, 2) := by decide +kernel
theorem dX6_isRing_43 : decode cX6_isRing 43 = .ok (.invokevirtual 44, 3) := by decide +kernel
theorem dX6_isRing_46 : decode cX6_isRing 46 = .ok (.istore 11, 2) := by decide +kernel
theorem dX6_isRing_48 : decode cX6_isRing 48 = .ok (.iload 11, 2) := by decide +kernel
theorem dX6_isRing_50 : decode cX6_isRing 50 = .ok (.ifCond .lt 10, 3) := by decide +kernel
theorem dX6_isRing_53 : decode cX6_isRing 53 = .ok (.iload 11, 2) := by decide +kernel
theorem dX6_isRing_55 : decode cX6_isRing 55 = .ok (.bipush 12, 2) := by decide +kernel
theorem dX6_isRing_57 : decode cX6_isRing 57 = .ok (.if_icmp .lt 5, 3) := by decide +kernel
theorem dX6_isRing_60 : decode cX6_isRing 60 = .ok (.iconst 0, 1) := by decide +kernel
theorem dX6_isRing_61 : decode cX6_isRing 61 = .ok (.ireturn, 1) := by decide +kernel
theorem dX6_isRing_62 : decode cX6_isRing 62 = .ok (.iload 5, 2) := by decide +kernel
theorem dX6_isRing_64 : decode cX6_isRing 64 = .ok (.iconst 1, 1) := by decide +kernel
theorem dX6_isRing_65 : decode cX6_isRing 65 = .ok (.iload_n 3, 1) := by decide +kernel
theorem dX6_isRing_66 : decode cX6_isRing 66 = .ok (.ishl, 1) := by decide +kernel
theorem dX6_isRing_67 : decode cX6_isRing 67 = .ok (.ior, 1) := by decide +kernel
theorem dX6_isRing_68 : decode cX6_isRing 68 = .ok (.istore 5, 2) := by decide +kernel
theorem dX6_isRing_70 : decode cX6_isRing 70 = .ok (.iload 4, 2) := by decide +kernel
theorem dX6_isRing_72 : decode cX6_isRing 72 = .ok (.iconst 1, 1) := by decide +kernel
theorem dX6_isRing_73 : decode cX6_isRing 73 = .ok (.iload 11, 2) := by decide +kernel
theorem dX6_isRing_75 : decode cX6_isRing 75 = .ok (.ishl, 1) := by decide +kernel
theorem dX6_isRing_76 : decode cX6_isRing 76 = .ok (.iconst (-1), 1) := by decide +kernel
theorem dX6_isRing_77 : decode cX6_isRing 77 = .ok (.ixor, 1) := by decide +kernel
theorem dX6_isRing_78 : decode cX6_isRing 78 = .ok (.iand, 1) := by decide +kernel
theorem dX6_isRing_79 : decode cX6_isRing 79 = .ok (.istore 4, 2) := by decide +kernel
theorem dX6_isRing_81 : decode cX6_isRing 81 = .ok (.lload 6, 2) := by decide +kernel
theorem dX6_isRing_83 : decode cX6_isRing 83 = .ok (.aload_n 0, 1) := by decide +kernel
theorem dX6_isRing_84 : decode cX6_isRing 84 = .ok (.getfield 15, 3) := by decide +kernel
theorem dX6_isRing_87 : decode cX6_isRing 87 = .ok (.getfield 48, 3) := by decide +kernel
theorem dX6_isRing_90 : decode cX6_isRing 90 = .ok (.iload 11, 2) := by decide +kernel
theorem dX6_isRing_92 : decode cX6_isRing 92 = .ok (.iaload, 1) := by decide +kernel
theorem dX6_isRing_93 : decode cX6_isRing 93 = .ok (.i2l, 1) := by decide +kernel
theorem dX6_isRing_94 : decode cX6_isRing 94 = .ok (.lmul, 1) := by decide +kernel
theorem dX6_isRing_95 : decode cX6_isRing 95 = .ok (.lstore 6, 2) := by decide +kernel
theorem dX6_isRing_97 : decode cX6_isRing 97 = .ok (.lload 8, 2) := by decide +kernel
theorem dX6_isRing_99 : decode cX6_isRing 99 = .ok (.aload_n 0, 1) := by decide +kernel
theorem dX6_isRing_100 : decode cX6_isRing 100 = .ok (.getfield 15, 3) := by decide +kernel
theorem dX6_isRing_103 : decode cX6_isRing 103 = .ok (.getfield 52, 3) := by decide +kernel
theorem dX6_isRing_106 : decode cX6_isRing 106 = .ok (.iload 11, 2) := by decide +kernel
theorem dX6_isRing_108 : decode cX6_isRing 108 = .ok (.iaload, 1) := by decide +kernel
theorem dX6_isRing_109 : decode cX6_isRing 109 = .ok (.i2l, 1) := by decide +kernel
theorem dX6_isRing_110 : decode cX6_isRing 110 = .ok (.lmul, 1) := by decide +kernel
theorem dX6_isRing_111 : decode cX6_isRing 111 = .ok (.lstore 8, 2) := by decide +kernel
theorem dX6_isRing_113 : decode cX6_isRing 113 = .ok (.aload_n 0, 1) := by decide +kernel
theorem dX6_isRing_114 : decode cX6_isRing 114 = .ok (.getfield 15, 3) := by decide +kernel
theorem dX6_isRing_117 : decode cX6_isRing 117 = .ok (.getfield 55, 3) := by decide +kernel
theorem dX6_isRing_120 : decode cX6_isRing 120 = .ok (.iload 11, 2) := by decide +kernel
theorem dX6_isRing_122 : decode cX6_isRing 122 = .ok (.iaload, 1) := by decide +kernel
theorem dX6_isRing_123 : decode cX6_isRing 123 = .ok (.istore_n 3, 1) := by decide +kernel
theorem dX6_isRing_124 : decode cX6_isRing 124 = .ok (.iinc 10 1, 3) := by decide +kernel
theorem dX6_isRing_127 : decode cX6_isRing 127 = .ok (.goto (-104), 3) := by decide +kernel
theorem dX6_isRing_130 : decode cX6_isRing 130 = .ok (.iload_n 3, 1) := by decide +kernel
theorem dX6_isRing_131 : decode cX6_isRing 131 = .ok (.iload_n 2, 1) := by decide +kernel
theorem dX6_isRing_132 : decode cX6_isRing 132 = .ok (.if_icmp .ne 20, 3) := by decide +kernel
theorem dX6_isRing_135 : decode cX6_isRing 135 = .ok (.iload 4, 2) := by decide +kernel
theorem dX6_isRing_137 : decode cX6_isRing 137 = .ok (.ifCond .ne 15, 3) := by decide +kernel
theorem dX6_isRing_140 : decode cX6_isRing 140 = .ok (.lload 6, 2) := by decide +kernel
theorem dX6_isRing_142 : decode cX6_isRing 142 = .ok (.lload 8, 2) := by decide +kernel
theorem dX6_isRing_144 : decode cX6_isRing 144 = .ok (.lcmp, 1) := by decide +kernel
theorem dX6_isRing_145 : decode cX6_isRing 145 = .ok (.ifCond .ge 7, 3) := by decide +kernel
theorem dX6_isRing_148 : decode cX6_isRing 148 = .ok (.iconst 1, 1) := by decide +kernel
theorem dX6_isRing_149 : decode cX6_isRing 149 = .ok (.goto 4, 3) := by decide +kernel
theorem dX6_isRing_152 : decode cX6_isRing 152 = .ok (.iconst 0, 1) := by decide +kernel
theorem dX6_isRing_153 : decode cX6_isRing 153 = .ok (.ireturn, 1) := by decide +kernel
theorem dX6_firstKind_0 : decode cX6_firstKind 0 = .ok (.iconst 0, 1) := by decide +kernel
theorem dX6_firstKind_1 : decode cX6_firstKind 1 = .ok (.istore_n 2, 1) := by decide +kernel
theorem dX6_firstKind_2 : decode cX6_firstKind 2 = .ok (.iload_n 2, 1) := by decide +kernel
theorem dX6_firstKind_3 : decode cX6_firstKind 3 = .ok (.aload_n 0, 1) := by decide +kernel
theorem dX6_firstKind_4 : decode cX6_firstKind 4 = .ok (.getfield 15, 3) := by decide +kernel
theorem dX6_firstKind_7 : decode cX6_firstKind 7 = .ok (.getfield 22, 3) := by decide +kernel
theorem dX6_firstKind_10 : decode cX6_firstKind 10 = .ok (.if_icmp .ge 28, 3) := by decide +kernel
theorem dX6_firstKind_13 : decode cX6_firstKind 13 = .ok (.iload_n 1, 1) := by decide +kernel
theorem dX6_firstKind_14 : decode cX6_firstKind 14 = .ok (.iload_n 2, 1) := by decide +kernel
theorem dX6_firstKind_15 : decode cX6_firstKind 15 = .ok (.iushr, 1) := by decide +kernel
theorem dX6_firstKind_16 : decode cX6_firstKind 16 = .ok (.iconst 1, 1) := by decide +kernel
theorem dX6_firstKind_17 : decode cX6_firstKind 17 = .ok (.iand, 1) := by decide +kernel
theorem dX6_firstKind_18 : decode cX6_firstKind 18 = .ok (.iconst 1, 1) := by decide +kernel
theorem dX6_firstKind_19 : decode cX6_firstKind 19 = .ok (.if_icmp .ne 13, 3) := by decide +kernel
theorem dX6_firstKind_22 : decode cX6_firstKind 22 = .ok (.aload_n 0, 1) := by decide +kernel
theorem dX6_firstKind_23 : decode cX6_firstKind 23 = .ok (.getfield 15, 3) := by decide +kernel
theorem dX6_firstKind_26 : decode cX6_firstKind 26 = .ok (.getfield 58, 3) := by decide +kernel
theorem dX6_firstKind_29 : decode cX6_firstKind 29 = .ok (.iload_n 2, 1) := by decide +kernel
theorem dX6_firstKind_30 : decode cX6_firstKind 30 = .ok (.iaload, 1) := by decide +kernel
theorem dX6_firstKind_31 : decode cX6_firstKind 31 = .ok (.ireturn, 1) := by decide +kernel
theorem dX6_firstKind_32 : decode cX6_firstKind 32 = .ok (.iinc 2 1, 3) := by decide +kernel
theorem dX6_firstKind_35 : decode cX6_firstKind 35 = .ok (.goto (-33), 3) := by decide +kernel
theorem dX6_firstKind_38 : decode cX6_firstKind 38 = .ok (.iconst 0, 1) := by decide +kernel
theorem dX6_firstKind_39 : decode cX6_firstKind 39 = .ok (.ireturn, 1) := by decide +kernel
theorem dX6_puttingFrom_0 : decode cX6_puttingFrom 0 = .ok (.iconst 0, 1) := by decide +kernel
theorem dX6_puttingFrom_1 : decode cX6_puttingFrom 1 = .ok (.istore_n 3, 1) := by decide +kernel
theorem dX6_puttingFrom_2 : decode cX6_puttingFrom 2 = .ok (.iload_n 3, 1) := by decide +kernel
theorem dX6_puttingFrom_3 : decode cX6_puttingFrom 3 = .ok (.aload_n 0, 1) := by decide +kernel
theorem dX6_puttingFrom_4 : decode cX6_puttingFrom 4 = .ok (.getfield 15, 3) := by decide +kernel
theorem dX6_puttingFrom_7 : decode cX6_puttingFrom 7 = .ok (.getfield 22, 3) := by decide +kernel
theorem dX6_puttingFrom_10 : decode cX6_puttingFrom 10 = .ok (.if_icmp .ge 33, 3) := by decide +kernel
theorem dX6_puttingFrom_13 : decode cX6_puttingFrom 13 = .ok (.iload_n 2, 1) := by decide +kernel
theorem dX6_puttingFrom_14 : decode cX6_puttingFrom 14 = .ok (.iload_n 3, 1) := by decide +kernel
theorem dX6_puttingFrom_15 : decode cX6_puttingFrom 15 = .ok (.iushr, 1) := by decide +kernel
theorem dX6_puttingFrom_16 : decode cX6_puttingFrom 16 = .ok (.iconst 1, 1) := by decide +kernel
theorem dX6_puttingFrom_17 : decode cX6_puttingFrom 17 = .ok (.iand, 1) := by decide +kernel
theorem dX6_puttingFrom_18 : decode cX6_puttingFrom 18 = .ok (.iconst 1, 1) := by decide +kernel
theorem dX6_puttingFrom_19 : decode cX6_puttingFrom 19 = .ok (.if_icmp .ne 18, 3) := by decide +kernel
theorem dX6_puttingFrom_22 : decode cX6_puttingFrom 22 = .ok (.aload_n 0, 1) := by decide +kernel
theorem dX6_puttingFrom_23 : decode cX6_puttingFrom 23 = .ok (.getfield 15, 3) := by decide +kernel
theorem dX6_puttingFrom_26 : decode cX6_puttingFrom 26 = .ok (.getfield 58, 3) := by decide +kernel
theorem dX6_puttingFrom_29 : decode cX6_puttingFrom 29 = .ok (.iload_n 3, 1) := by decide +kernel
theorem dX6_puttingFrom_30 : decode cX6_puttingFrom 30 = .ok (.iaload, 1) := by decide +kernel
theorem dX6_puttingFrom_31 : decode cX6_puttingFrom 31 = .ok (.iload_n 1, 1) := by decide +kernel
theorem dX6_puttingFrom_32 : decode cX6_puttingFrom 32 = .ok (.if_icmp .ne 5, 3) := by decide +kernel
theorem dX6_puttingFrom_35 : decode cX6_puttingFrom 35 = .ok (.iload_n 3, 1) := by decide +kernel
theorem dX6_puttingFrom_36 : decode cX6_puttingFrom 36 = .ok (.ireturn, 1) := by decide +kernel
theorem dX6_puttingFrom_37 : decode cX6_puttingFrom 37 = .ok (.iinc 3 1, 3) := by decide +kernel
theorem dX6_puttingFrom_40 : decode cX6_puttingFrom 40 = .ok (.goto (-38), 3) := by decide +kernel
theorem dX6_puttingFrom_43 : decode cX6_puttingFrom 43 = .ok (.bipush (-9), 2) := by decide +kernel
theorem dX6_puttingFrom_45 : decode cX6_puttingFrom 45 = .ok (.ireturn, 1) := by decide +kernel
theorem dX7_init_0 : decode cX7_init 0 = .ok (.aload_n 0, 1) := by decide +kernel
theorem dX7_init_1 : decode cX7_init 1 = .ok (.invokespecial 3, 3) := by decide +kernel
theorem dX7_init_4 : decode cX7_init 4 = .ok (.aload_n 0, 1) := by decide +kernel
theorem dX7_init_5 : decode cX7_init 5 = .ok (.aload_n 1, 1) := by decide +kernel
theorem dX7_init_6 : decode cX7_init 6 = .ok (.putfield 9, 3) := by decide +kernel
theorem dX7_init_9 : decode cX7_init 9 = .ok (.return_, 1) := by decide +kernel
set_option maxRecDepth 20000 in
theorem ggX7_read_X7_readDeed : GoodIn wsX7_read wsX7_readDeed := goodIn_r _ [7, 2, 1, 8, 9, 10, 11, 12, 13, 14, 15, 33, 34, 35, 36, 37, 38, 39] (by decide +kernel) (by decide +kernel)
set_option maxRecDepth 20000 in
theorem gX7_read_X7_readDeed : GoodIn wsX7_read (wsV RX7 19 RX7 yX7_readDeed wsX7_readDeed) := goodIn_app (goodIn_of _ (by decide +kernel)) ggX7_read_X7_readDeed
set_option maxRecDepth 20000 in
theorem ggX7_read_X7_readMarks : GoodIn wsX7_read wsX7_readMarks := goodIn_r _ [19, 20, 2, 1, 9, 10, 11, 12, 13, 14, 15, 33, 34, 35, 36, 37, 38, 39] (by decide +kernel) (by decide +kernel)
set_option maxRecDepth 20000 in
theorem gX7_read_X7_readMarks : GoodIn wsX7_read (wsV RX7 23 RX7 yX7_readMarks wsX7_readMarks) := goodIn_app (goodIn_of _ (by decide +kernel)) ggX7_read_X7_readMarks
set_option maxRecDepth 20000 in
theorem ggX7_read_X7_readDays : GoodIn wsX7_read wsX7_readDays := goodIn_r _ [24, 25, 2, 1, 9, 10, 11, 12, 13, 14, 15, 26, 27, 6, 28, 33, 34, 35, 36, 37, 38, 39] (by decide +kernel) (by decide +kernel)
set_option maxRecDepth 20000 in
theorem gX7_read_X7_readDays : GoodIn wsX7_read (wsV RX7 26 RX7 yX7_readDays wsX7_readDays) := goodIn_app (goodIn_of _ (by decide +kernel)) ggX7_read_X7_readDays
set_option maxRecDepth 20000 in
theorem ggX7_read_X2_size : GoodIn wsX7_read wsX2_size := goodIn_r _ [32, 14, 38, 39] (by decide +kernel) (by decide +kernel)
set_option maxRecDepth 20000 in
theorem gX7_read_X2_size : GoodIn wsX7_read (wsV RX7 29 RX2 yX2_size wsX2_size) := goodIn_app (goodIn_of _ (by decide +kernel)) ggX7_read_X2_size
theorem dX7_read_0 : decode cX7_read 0 = .ok (.aload_n 0, 1) := by decide +kernel
theorem dX7_read_1 : decode cX7_read 1 = .ok (.iconst 0, 1) := by decide +kernel
theorem dX7_read_2 : decode cX7_read 2 = .ok (.putfield 15, 3) := by decide +kernel
theorem dX7_read_5 : decode cX7_read 5 = .ok (.aload_n 0, 1) := by decide +kernel
theorem dX7_read_6 : decode cX7_read 6 = .ok (.invokevirtual 19, 3) := by decide +kernel
theorem dX7_read_9 : decode cX7_read 9 = .ok (.ifCond .eq 35, 3) := by decide +kernel
theorem dX7_read_12 : decode cX7_read 12 = .ok (.aload_n 0, 1) := by decide +kernel
theorem dX7_read_13 : decode cX7_read 13 = .ok (.invokevirtual 23, 3) := by decide +kernel
theorem dX7_read_16 : decode cX7_read 16 = .ok (.ifCond .eq 28, 3) := by decide +kernel
theorem dX7_read_19 : decode cX7_read 19 = .ok (.aload_n 0, 1) := by decide +kernel
theorem dX7_read_20 : decode cX7_read 20 = .ok (.invokevirtual 26, 3) := by decide +kernel
theorem dX7_read_23 : decode cX7_read 23 = .ok (.ifCond .eq 21, 3) := by decide +kernel
theorem dX7_read_26 : decode cX7_read 26 = .ok (.aload_n 0, 1) := by decide +kernel
theorem dX7_read_27 : decode cX7_read 27 = .ok (.getfield 15, 3) := by decide +kernel
theorem dX7_read_30 : decode cX7_read 30 = .ok (.aload_n 0, 1) := by decide +kernel
theorem dX7_read_31 : decode cX7_read 31 = .ok (.getfield 9, 3) := by decide +kernel
theorem dX7_read_34 : decode cX7_read 34 = .ok (.invokevirtual 29, 3) := by decide +kernel
theorem dX7_read_37 : decode cX7_read 37 = .ok (.if_icmp .ne 7, 3) := by decide +kernel
theorem dX7_read_40 : decode cX7_read 40 = .ok (.iconst 1, 1) := by decide +kernel
theorem dX7_read_41 : decode cX7_read 41 = .ok (.goto 4, 3) := by decide +kernel
theorem dX7_read_44 : decode cX7_read 44 = .ok (.iconst 0, 1) := by decide +kernel
theorem dX7_read_45 : decode cX7_read 45 = .ok (.ireturn, 1) := by decide +kernel
set_option maxRecDepth 20000 in
theorem ggX7_readDeed_X2_at : GoodIn wsX7_readDeed wsX2_at := goodIn_r _ [8, 9, 10, 16, 17] (by decide +kernel) (by decide +kernel)
set_option maxRecDepth 20000 in
theorem gX7_readDeed_X2_at : GoodIn wsX7_readDeed (wsV RX7 35 RX2 yX2_at wsX2_at) := goodIn_app (goodIn_of _ (by decide +kernel)) ggX7_readDeed_X2_at
theorem dX7_readDeed_0 : decode cX7_readDeed 0 = .ok (.aload_n 0, 1) := by decide +kernel
theorem dX7_readDeed_1 : decode cX7_readDeed 1 = .ok (.aload_n 0, 1) := by decide +kernel
theorem dX7_readDeed_2 : decode cX7_readDeed 2 = .ok (.getfield 9, 3) := by decide +kernel
theorem dX7_readDeed_5 : decode cX7_readDeed 5 = .ok (.aload_n 0, 1) := by decide +kernel
theorem dX7_readDeed_6 : decode cX7_readDeed 6 = .ok (.getfield 15, 3) := by decide +kernel
theorem dX7_readDeed_9 : decode cX7_readDeed 9 = .ok (.invokevirtual 35, 3) := by decide +kernel
theorem dX7_readDeed_12 : decode cX7_readDeed 12 = .ok (.bipush 97, 2) := by decide +kernel
theorem dX7_readDeed_14 : decode cX7_readDeed 14 = .ok (.isub, 1) := by decide +kernel
theorem dX7_readDeed_15 : decode cX7_readDeed 15 = .ok (.putfield 39, 3) := by decide +kernel
theorem dX7_readDeed_18 : decode cX7_readDeed 18 = .ok (.aload_n 0, 1) := by decide +kernel
theorem dX7_readDeed_19 : decode cX7_readDeed 19 = .ok (.getfield 39, 3) := by decide +kernel
theorem dX7_readDeed_22 : decode cX7_readDeed 22 = .ok (.ifCond .lt 12, 3) := by decide +kernel
theorem dX7_readDeed_25 : decode cX7_readDeed 25 = .ok (.aload_n 0, 1) := by decide +kernel
theorem dX7_readDeed_26 : decode cX7_readDeed 26 = .ok (.getfield 39, 3) := by decide +kernel
theorem dX7_readDeed_29 : decode cX7_readDeed 29 = .ok (.bipush 8, 2) := by decide +kernel
theorem dX7_readDeed_31 : decode cX7_readDeed 31 = .ok (.if_icmp .lt 5, 3) := by decide +kernel
theorem dX7_readDeed_34 : decode cX7_readDeed 34 = .ok (.iconst 0, 1) := by decide +kernel
theorem dX7_readDeed_35 : decode cX7_readDeed 35 = .ok (.ireturn, 1) := by decide +kernel
theorem dX7_readDeed_36 : decode cX7_readDeed 36 = .ok (.aload_n 0, 1) := by decide +kernel
theorem dX7_readDeed_37 : decode cX7_readDeed 37 = .ok (.dup, 1) := by decide +kernel
theorem dX7_readDeed_38 : decode cX7_readDeed 38 = .ok (.getfield 15, 3) := by decide +kernel
theorem dX7_readDeed_41 : decode cX7_readDeed 41 = .ok (.iconst 1, 1) := by decide +kernel
theorem dX7_readDeed_42 : decode cX7_readDeed 42 = .ok (.iadd, 1) := by decide +kernel
theorem dX7_readDeed_43 : decode cX7_readDeed 43 = .ok (.putfield 15, 3) := by decide +kernel
theorem dX7_readDeed_46 : decode cX7_readDeed 46 = .ok (.iconst 1, 1) := by decide +kernel
theorem dX7_readDeed_47 : decode cX7_readDeed 47 = .ok (.ireturn, 1) := by decide +kernel
set_option maxRecDepth 20000 in
theorem ggX7_readMarks_X2_at : GoodIn wsX7_readMarks wsX2_at := goodIn_r _ [8, 9, 10, 16, 17] (by decide +kernel) (by decide +kernel)
set_option maxRecDepth 20000 in
theorem gX7_readMarks_X2_at : GoodIn wsX7_readMarks (wsV RX7 35 RX2 yX2_at wsX2_at) := goodIn_app (goodIn_of _ (by decide +kernel)) ggX7_readMarks_X2_at
theorem dX7_readMarks_0 : decode cX7_readMarks 0 = .ok (.aload_n 0, 1) := by decide +kernel
theorem dX7_readMarks_1 : decode cX7_readMarks 1 = .ok (.iconst 0, 1) := by decide +kernel
theorem dX7_readMarks_2 : decode cX7_readMarks 2 = .ok (.putfield 42, 3) := by decide +kernel
theorem dX7_readMarks_5 : decode cX7_readMarks 5 = .ok (.iconst 0, 1) := by decide +kernel
theorem dX7_readMarks_6 : decode cX7_readMarks 6 = .ok (.istore_n 1, 1) := by decide +kernel
theorem dX7_readMarks_7 : decode cX7_readMarks 7 = .ok (.iload_n 1, 1) := by decide +kernel
theorem dX7_readMarks_8 : decode cX7_readMarks 8 = .ok (.getstatic 45, 3) := by decide +kernel
theorem dX7_readMarks_11 : decode cX7_readMarks 11 = .ok (.arraylength, 1) := by decide +kernel
theorem dX7_readMarks_12 : decode cX7_readMarks 12 = .ok (.if_icmp .ge 50, 3) := by decide +kernel
theorem dX7_readMarks_15 : decode cX7_readMarks 15 = .ok (.aload_n 0, 1) := by decide +kernel
theorem dX7_readMarks_16 : decode cX7_readMarks 16 = .ok (.getfield 9, 3) := by decide +kernel
theorem dX7_readMarks_19 : decode cX7_readMarks 19 = .ok (.aload_n 0, 1) := by decide +kernel
theorem dX7_readMarks_20 : decode cX7_readMarks 20 = .ok (.getfield 15, 3) := by decide +kernel
theorem dX7_readMarks_23 : decode cX7_readMarks 23 = .ok (.invokevirtual 35, 3) := by decide +kernel
theorem dX7_readMarks_26 : decode cX7_readMarks 26 = .ok (.getstatic 45, 3) := by decide +kernel
theorem dX7_readMarks_29 : decode cX7_readMarks 29 = .ok (.iload_n 1, 1) := by decide +kernel
theorem dX7_readMarks_30 : decode cX7_readMarks 30 = .ok (.caload, 1) := by decide +kernel
theorem dX7_readMarks_31 : decode cX7_readMarks 31 = .ok (.if_icmp .ne 25, 3) := by decide +kernel
theorem dX7_readMarks_34 : decode cX7_readMarks 34 = .ok (.aload_n 0, 1) := by decide +kernel
theorem dX7_readMarks_35 : decode cX7_readMarks 35 = .ok (.dup, 1) := by decide +kernel
theorem dX7_readMarks_36 : decode cX7_readMarks 36 = .ok (.getfield 42, 3) := by decide +kernel
theorem dX7_readMarks_39 : decode cX7_readMarks 39 = .ok (.iconst 1, 1) := by decide +kernel
theorem dX7_readMarks_40 : decode cX7_readMarks 40 = .ok (.iload_n 1, 1) := by decide +kernel
theorem dX7_readMarks_41 : decode cX7_readMarks 41 = .ok (.ishl, 1) := by decide +kernel
theorem dX7_readMarks_42 : decode cX7_readMarks 42 = .ok (.ior, 1) := by decide +kernel
theorem dX7_readMarks_43 : decode cX7_readMarks 43 = .ok (.putfield 42, 3) := by decide +kernel
theorem dX7_readMarks_46 : decode cX7_readMarks 46 = .ok (.aload_n 0, 1) := by decide +kernel
theorem dX7_readMarks_47 : decode cX7_readMarks 47 = .ok (.dup, 1) := by decide +kernel
theorem dX7_readMarks_48 : decode cX7_readMarks 48 = .ok (.getfield 15, 3) := by decide +kernel
theorem dX7_readMarks_51 : decode cX7_readMarks 51 = .ok (.iconst 1, 1) := by decide +kernel
theorem dX7_readMarks_52 : decode cX7_readMarks 52 = .ok (.iadd, 1) := by decide +kernel
theorem dX7_readMarks_53 : decode cX7_readMarks 53 = .ok (.putfield 15, 3) := by decide +kernel
theorem dX7_readMarks_56 : decode cX7_readMarks 56 = .ok (.iinc 1 1, 3) := by decide +kernel
theorem dX7_readMarks_59 : decode cX7_readMarks 59 = .ok (.goto (-52), 3) := by decide +kernel
theorem dX7_readMarks_62 : decode cX7_readMarks 62 = .ok (.aload_n 0, 1) := by decide +kernel
theorem dX7_readMarks_63 : decode cX7_readMarks 63 = .ok (.getfield 9, 3) := by decide +kernel
theorem dX7_readMarks_66 : decode cX7_readMarks 66 = .ok (.aload_n 0, 1) := by decide +kernel
theorem dX7_readMarks_67 : decode cX7_readMarks 67 = .ok (.getfield 15, 3) := by decide +kernel
theorem dX7_readMarks_70 : decode cX7_readMarks 70 = .ok (.invokevirtual 35, 3) := by decide +kernel
theorem dX7_readMarks_73 : decode cX7_readMarks 73 = .ok (.bipush 58, 2) := by decide +kernel
theorem dX7_readMarks_75 : decode cX7_readMarks 75 = .ok (.if_icmp .eq 5, 3) := by decide +kernel
theorem dX7_readMarks_78 : decode cX7_readMarks 78 = .ok (.iconst 0, 1) := by decide +kernel
theorem dX7_readMarks_79 : decode cX7_readMarks 79 = .ok (.ireturn, 1) := by decide +kernel
theorem dX7_readMarks_80 : decode cX7_readMarks 80 = .ok (.aload_n 0, 1) := by decide +kernel
theorem dX7_readMarks_81 : decode cX7_readMarks 81 = .ok (.dup, 1) := by decide +kernel
theorem dX7_readMarks_82 : decode cX7_readMarks 82 = .ok (.getfield 15, 3) := by decide +kernel
theorem dX7_readMarks_85 : decode cX7_readMarks 85 = .ok (.iconst 1, 1) := by decide +kernel
theorem dX7_readMarks_86 : decode cX7_readMarks 86 = .ok (.iadd, 1) := by decide +kernel
theorem dX7_readMarks_87 : decode cX7_readMarks 87 = .ok (.putfield 15, 3) := by decide +kernel
theorem dX7_readMarks_90 : decode cX7_readMarks 90 = .ok (.iconst 1, 1) := by decide +kernel
theorem dX7_readMarks_91 : decode cX7_readMarks 91 = .ok (.ireturn, 1) := by decide +kernel
set_option maxRecDepth 20000 in
theorem ggX7_readDays_X2_at : GoodIn wsX7_readDays wsX2_at := goodIn_r _ [8, 9, 10, 20, 21] (by decide +kernel) (by decide +kernel)
set_option maxRecDepth 20000 in
theorem gX7_readDays_X2_at : GoodIn wsX7_readDays (wsV RX7 35 RX2 yX2_at wsX2_at) := goodIn_app (goodIn_of _ (by decide +kernel)) ggX7_readDays_X2_at
set_option maxRecDepth 20000 in
theorem ggX7_readDays_X7_isDigit : GoodIn wsX7_readDays wsX7_isDigit := goodIn_r _ [14] (by decide +kernel) (by decide +kernel)
set_option maxRecDepth 20000 in
theorem gX7_readDays_X7_isDigit : GoodIn wsX7_readDays (va_wsS RX7 52 yX7_isDigit wsX7_isDigit) := goodIn_app (goodIn_of _ (by decide +kernel)) ggX7_readDays_X7_isDigit
theorem dX7_readDays_0 : decode cX7_readDays 0 = .ok (.aload_n 0, 1) := by decide +kernel
theorem dX7_readDays_1 : decode cX7_readDays 1 = .ok (.iconst 0, 1) := by decide +kernel
theorem dX7_readDays_2 : decode cX7_readDays 2 = .ok (.putfield 49, 3) := by decide +kernel
theorem dX7_readDays_5 : decode cX7_readDays 5 = .ok (.iconst 0, 1) := by decide +kernel
theorem dX7_readDays_6 : decode cX7_readDays 6 = .ok (.istore_n 1, 1) := by decide +kernel
theorem dX7_readDays_7 : decode cX7_readDays 7 = .ok (.iload_n 1, 1) := by decide +kernel
theorem dX7_readDays_8 : decode cX7_readDays 8 = .ok (.iconst 3, 1) := by decide +kernel
theorem dX7_readDays_9 : decode cX7_readDays 9 = .ok (.if_icmp .ge 62, 3) := by decide +kernel
theorem dX7_readDays_12 : decode cX7_readDays 12 = .ok (.aload_n 0, 1) := by decide +kernel
theorem dX7_readDays_13 : decode cX7_readDays 13 = .ok (.getfield 9, 3) := by decide +kernel
theorem dX7_readDays_16 : decode cX7_readDays 16 = .ok (.aload_n 0, 1) := by decide +kernel
theorem dX7_readDays_17 : decode cX7_readDays 17 = .ok (.getfield 15, 3) := by decide +kernel
theorem dX7_readDays_20 : decode cX7_readDays 20 = .ok (.invokevirtual 35, 3) := by decide +kernel
theorem dX7_readDays_23 : decode cX7_readDays 23 = .ok (.invokestatic 52, 3) := by decide +kernel
theorem dX7_readDays_26 : decode cX7_readDays 26 = .ok (.ifCond .eq 45, 3) := by decide +kernel
theorem dX7_readDays_29 : decode cX7_readDays 29 = .ok (.aload_n 0, 1) := by decide +kernel
theorem dX7_readDays_30 : decode cX7_readDays 30 = .ok (.bipush 10, 2) := by decide +kernel
theorem dX7_readDays_32 : decode cX7_readDays 32 = .ok (.aload_n 0, 1) := by decide +kernel
theorem dX7_readDays_33 : decode cX7_readDays 33 = .ok (.getfield 49, 3) := by decide +kernel
theorem dX7_readDays_36 : decode cX7_readDays 36 = .ok (.imul, 1) := by decide +kernel
theorem dX7_readDays_37 : decode cX7_readDays 37 = .ok (.aload_n 0, 1) := by decide +kernel
theorem dX7_readDays_38 : decode cX7_readDays 38 = .ok (.getfield 9, 3) := by decide +kernel
theorem dX7_readDays_41 : decode cX7_readDays 41 = .ok (.aload_n 0, 1) := by decide +kernel
theorem dX7_readDays_42 : decode cX7_readDays 42 = .ok (.getfield 15, 3) := by decide +kernel
theorem dX7_readDays_45 : decode cX7_readDays 45 = .ok (.invokevirtual 35, 3) := by decide +kernel
theorem dX7_readDays_48 : decode cX7_readDays 48 = .ok (.iadd, 1) := by decide +kernel
theorem dX7_readDays_49 : decode cX7_readDays 49 = .ok (.bipush 48, 2) := by decide +kernel
theorem dX7_readDays_51 : decode cX7_readDays 51 = .ok (.isub, 1) := by decide +kernel
theorem dX7_readDays_52 : decode cX7_readDays 52 = .ok (.putfield 49, 3) := by decide +kernel
theorem dX7_readDays_55 : decode cX7_readDays 55 = .ok (.aload_n 0, 1) := by decide +kernel
theorem dX7_readDays_56 : decode cX7_readDays 56 = .ok (.dup, 1) := by decide +kernel
theorem dX7_readDays_57 : decode cX7_readDays 57 = .ok (.getfield 15, 3) := by decide +kernel
theorem dX7_readDays_60 : decode cX7_readDays 60 = .ok (.iconst 1, 1) := by decide +kernel
theorem dX7_readDays_61 : decode cX7_readDays 61 = .ok (.iadd, 1) := by decide +kernel
theorem dX7_readDays_62 : decode cX7_readDays 62 = .ok (.putfield 15, 3) := by decide +kernel
theorem dX7_readDays_65 : decode cX7_readDays 65 = .ok (.iinc 1 1, 3) := by decide +kernel
theorem dX7_readDays_68 : decode cX7_readDays 68 = .ok (.goto (-61), 3) := by decide +kernel
theorem dX7_readDays_71 : decode cX7_readDays 71 = .ok (.iload_n 1, 1) := by decide +kernel
theorem dX7_readDays_72 : decode cX7_readDays 72 = .ok (.ifCond .le 7, 3) := by decide +kernel
theorem dX7_readDays_75 : decode cX7_readDays 75 = .ok (.iconst 1, 1) := by decide +kernel
theorem dX7_readDays_76 : decode cX7_readDays 76 = .ok (.goto 4, 3) := by decide +kernel
theorem dX7_readDays_79 : decode cX7_readDays 79 = .ok (.iconst 0, 1) := by decide +kernel
theorem dX7_readDays_80 : decode cX7_readDays 80 = .ok (.ireturn, 1) := by decide +kernel
theorem dX7_isDigit_0 : decode cX7_isDigit 0 = .ok (.iload_n 0, 1) := by decide +kernel
theorem dX7_isDigit_1 : decode cX7_isDigit 1 = .ok (.bipush 48, 2) := by decide +kernel
theorem dX7_isDigit_3 : decode cX7_isDigit 3 = .ok (.if_icmp .lt 13, 3) := by decide +kernel
theorem dX7_isDigit_6 : decode cX7_isDigit 6 = .ok (.iload_n 0, 1) := by decide +kernel
theorem dX7_isDigit_7 : decode cX7_isDigit 7 = .ok (.bipush 57, 2) := by decide +kernel
theorem dX7_isDigit_9 : decode cX7_isDigit 9 = .ok (.if_icmp .gt 7, 3) := by decide +kernel
theorem dX7_isDigit_12 : decode cX7_isDigit 12 = .ok (.iconst 1, 1) := by decide +kernel
theorem dX7_isDigit_13 : decode cX7_isDigit 13 = .ok (.goto 4, 3) := by decide +kernel
theorem dX7_isDigit_16 : decode cX7_isDigit 16 = .ok (.iconst 0, 1) := by decide +kernel
theorem dX7_isDigit_17 : decode cX7_isDigit 17 = .ok (.ireturn, 1) := by decide +kernel
set_option maxRecDepth 20000 in
theorem ggX8_init_X0_init : GoodIn wsX8_init wsX0_init := goodIn_r _ [13, 14, 2, 3, 6, 15, 16, 17, 18, 24, 25, 26, 27, 28, 29] (by decide +kernel) (by decide +kernel)
set_option maxRecDepth 20000 in
theorem gX8_init_X0_init_n27 : GoodIn wsX8_init (wsX0_init) := ggX8_init_X0_init
theorem dX8_init_0 : decode cX8_init 0 = .ok (.aload_n 0, 1) := by decide +kernel
theorem dX8_init_1 : decode cX8_init 1 = .ok (.invokespecial 3, 3) := by decide +kernel
theorem dX8_init_4 : decode cX8_init 4 = .ok (.aload_n 0, 1) := by decide +kernel
theorem dX8_init_5 : decode cX8_init 5 = .ok (.bipush 6, 2) := by decide +kernel
theorem dX8_init_7 : decode cX8_init 7 = .ok (.anewarray 9, 3) := by decide +kernel
theorem dX8_init_10 : decode cX8_init 10 = .ok (.putfield 11, 3) := by decide +kernel
theorem dX8_init_13 : decode cX8_init 13 = .ok (.aload_n 0, 1) := by decide +kernel
theorem dX8_init_14 : decode cX8_init 14 = .ok (.bipush 12, 2) := by decide +kernel
theorem dX8_init_16 : decode cX8_init 16 = .ok (.newarray .int, 2) := by decide +kernel
theorem dX8_init_18 : decode cX8_init 18 = .ok (.putfield 17, 3) := by decide +kernel
theorem dX8_init_21 : decode cX8_init 21 = .ok (.aload_n 0, 1) := by decide +kernel
theorem dX8_init_22 : decode cX8_init 22 = .ok (.bipush 12, 2) := by decide +kernel
theorem dX8_init_24 : decode cX8_init 24 = .ok (.newarray .int, 2) := by decide +kernel
theorem dX8_init_26 : decode cX8_init 26 = .ok (.putfield 21, 3) := by decide +kernel
theorem dX8_init_29 : decode cX8_init 29 = .ok (.aload_n 0, 1) := by decide +kernel
theorem dX8_init_30 : decode cX8_init 30 = .ok (.bipush 12, 2) := by decide +kernel
theorem dX8_init_32 : decode cX8_init 32 = .ok (.newarray .int, 2) := by decide +kernel
theorem dX8_init_34 : decode cX8_init 34 = .ok (.putfield 24, 3) := by decide +kernel
theorem dX8_init_37 : decode cX8_init 37 = .ok (.iconst 0, 1) := by decide +kernel
theorem dX8_init_38 : decode cX8_init 38 = .ok (.istore_n 1, 1) := by decide +kernel
theorem dX8_init_39 : decode cX8_init 39 = .ok (.iload_n 1, 1) := by decide +kernel
theorem dX8_init_40 : decode cX8_init 40 = .ok (.bipush 6, 2) := by decide +kernel
theorem dX8_init_42 : decode cX8_init 42 = .ok (.if_icmp .ge 22, 3) := by decide +kernel
theorem dX8_init_45 : decode cX8_init 45 = .ok (.aload_n 0, 1) := by decide +kernel
theorem dX8_init_46 : decode cX8_init 46 = .ok (.getfield 11, 3) := by decide +kernel
theorem dX8_init_49 : decode cX8_init 49 = .ok (.iload_n 1, 1) := by decide +kernel
theorem dX8_init_50 : decode cX8_init 50 = .ok (.new 9, 3) := by decide +kernel
theorem dX8_init_53 : decode cX8_init 53 = .ok (.dup, 1) := by decide +kernel
theorem dX8_init_54 : decode cX8_init 54 = .ok (.invokespecial 27, 3) := by decide +kernel
theorem dX8_init_57 : decode cX8_init 57 = .ok (.aastore, 1) := by decide +kernel
theorem dX8_init_58 : decode cX8_init 58 = .ok (.iinc 1 1, 3) := by decide +kernel
theorem dX8_init_61 : decode cX8_init 61 = .ok (.goto (-22), 3) := by decide +kernel
theorem dX8_init_64 : decode cX8_init 64 = .ok (.return_, 1) := by decide +kernel
theorem dX8_rulesInAll_0 : decode cX8_rulesInAll 0 = .ok (.iconst 0, 1) := by decide +kernel
theorem dX8_rulesInAll_1 : decode cX8_rulesInAll 1 = .ok (.istore_n 1, 1) := by decide +kernel
theorem dX8_rulesInAll_2 : decode cX8_rulesInAll 2 = .ok (.iconst 0, 1) := by decide +kernel
theorem dX8_rulesInAll_3 : decode cX8_rulesInAll 3 = .ok (.istore_n 2, 1) := by decide +kernel
theorem dX8_rulesInAll_4 : decode cX8_rulesInAll 4 = .ok (.iload_n 2, 1) := by decide +kernel
theorem dX8_rulesInAll_5 : decode cX8_rulesInAll 5 = .ok (.bipush 6, 2) := by decide +kernel
theorem dX8_rulesInAll_7 : decode cX8_rulesInAll 7 = .ok (.if_icmp .ge 21, 3) := by decide +kernel
theorem dX8_rulesInAll_10 : decode cX8_rulesInAll 10 = .ok (.iload_n 1, 1) := by decide +kernel
theorem dX8_rulesInAll_11 : decode cX8_rulesInAll 11 = .ok (.aload_n 0, 1) := by decide +kernel
theorem dX8_rulesInAll_12 : decode cX8_rulesInAll 12 = .ok (.getfield 11, 3) := by decide +kernel
theorem dX8_rulesInAll_15 : decode cX8_rulesInAll 15 = .ok (.iload_n 2, 1) := by decide +kernel
theorem dX8_rulesInAll_16 : decode cX8_rulesInAll 16 = .ok (.aaload, 1) := by decide +kernel
theorem dX8_rulesInAll_17 : decode cX8_rulesInAll 17 = .ok (.getfield 28, 3) := by decide +kernel
theorem dX8_rulesInAll_20 : decode cX8_rulesInAll 20 = .ok (.iadd, 1) := by decide +kernel
theorem dX8_rulesInAll_21 : decode cX8_rulesInAll 21 = .ok (.istore_n 1, 1) := by decide +kernel
theorem dX8_rulesInAll_22 : decode cX8_rulesInAll 22 = .ok (.iinc 2 1, 3) := by decide +kernel
theorem dX8_rulesInAll_25 : decode cX8_rulesInAll 25 = .ok (.goto (-21), 3) := by decide +kernel
theorem dX8_rulesInAll_28 : decode cX8_rulesInAll 28 = .ok (.iload_n 1, 1) := by decide +kernel
theorem dX8_rulesInAll_29 : decode cX8_rulesInAll 29 = .ok (.ireturn, 1) := by decide +kernel
set_option maxRecDepth 20000 in
theorem ggX8_teller_X10_isBook : GoodIn wsX8_teller wsX10_isBook := goodIn_r _ [4] (by decide +kernel) (by decide +kernel)
set_option maxRecDepth 20000 in
theorem gX8_teller_X10_isBook_n32 : GoodIn wsX8_teller (wsX10_isBook) := ggX8_teller_X10_isBook
set_option maxRecDepth 20000 in
theorem ggX8_teller_X0_firstFor : GoodIn wsX8_teller wsX0_firstFor := goodIn_r _ [9, 10, 11, 12, 18, 19, 20, 21, 22, 23] (by decide +kernel) (by decide +kernel)
set_option maxRecDepth 20000 in
theorem gX8_teller_X0_firstFor : GoodIn wsX8_teller (wsV RX8 36 RX0 yX0_firstFor wsX0_firstFor) := goodIn_app (goodIn_of _ (by decide +kernel)) ggX8_teller_X0_firstFor
theorem dX8_teller_0 : decode cX8_teller 0 = .ok (.iload_n 1, 1) := by decide +kernel
theorem dX8_teller_1 : decode cX8_teller 1 = .ok (.istore 4, 2) := by decide +kernel
theorem dX8_teller_3 : decode cX8_teller 3 = .ok (.iconst 0, 1) := by decide +kernel
theorem dX8_teller_4 : decode cX8_teller 4 = .ok (.istore 5, 2) := by decide +kernel
theorem dX8_teller_6 : decode cX8_teller 6 = .ok (.iload 5, 2) := by decide +kernel
theorem dX8_teller_8 : decode cX8_teller 8 = .ok (.bipush 6, 2) := by decide +kernel
theorem dX8_teller_10 : decode cX8_teller 10 = .ok (.if_icmp .ge 47, 3) := by decide +kernel
theorem dX8_teller_13 : decode cX8_teller 13 = .ok (.iload 4, 2) := by decide +kernel
theorem dX8_teller_15 : decode cX8_teller 15 = .ok (.invokestatic 32, 3) := by decide +kernel
theorem dX8_teller_18 : decode cX8_teller 18 = .ok (.ifCond .eq 39, 3) := by decide +kernel
theorem dX8_teller_21 : decode cX8_teller 21 = .ok (.aload_n 0, 1) := by decide +kernel
theorem dX8_teller_22 : decode cX8_teller 22 = .ok (.getfield 11, 3) := by decide +kernel
theorem dX8_teller_25 : decode cX8_teller 25 = .ok (.iload 4, 2) := by decide +kernel
theorem dX8_teller_27 : decode cX8_teller 27 = .ok (.aaload, 1) := by decide +kernel
theorem dX8_teller_28 : decode cX8_teller 28 = .ok (.iload_n 2, 1) := by decide +kernel
theorem dX8_teller_29 : decode cX8_teller 29 = .ok (.iload_n 3, 1) := by decide +kernel
theorem dX8_teller_30 : decode cX8_teller 30 = .ok (.invokevirtual 36, 3) := by decide +kernel
theorem dX8_teller_33 : decode cX8_teller 33 = .ok (.ifCond .lt 6, 3) := by decide +kernel
theorem dX8_teller_36 : decode cX8_teller 36 = .ok (.iload 4, 2) := by decide +kernel
theorem dX8_teller_38 : decode cX8_teller 38 = .ok (.ireturn, 1) := by decide +kernel
theorem dX8_teller_39 : decode cX8_teller 39 = .ok (.aload_n 0, 1) := by decide +kernel
theorem dX8_teller_40 : decode cX8_teller 40 = .ok (.getfield 11, 3) := by decide +kernel
theorem dX8_teller_43 : decode cX8_teller 43 = .ok (.iload 4, 2) := by decide +kernel
theorem dX8_teller_45 : decode cX8_teller 45 = .ok (.aaload, 1) := by decide +kernel
theorem dX8_teller_46 : decode cX8_teller 46 = .ok (.getfield 40, 3) := by decide +kernel
theorem dX8_teller_49 : decode cX8_teller 49 = .ok (.istore 4, 2) := by decide +kernel
theorem dX8_teller_51 : decode cX8_teller 51 = .ok (.iinc 5 1, 3) := by decide +kernel
theorem dX8_teller_54 : decode cX8_teller 54 = .ok (.goto (-48), 3) := by decide +kernel
theorem dX8_teller_57 : decode cX8_teller 57 = .ok (.bipush (-9), 2) := by decide +kernel
theorem dX8_teller_59 : decode cX8_teller 59 = .ok (.ireturn, 1) := by decide +kernel
set_option maxRecDepth 20000 in
theorem ggX8_daysFor_X8_teller : GoodIn wsX8_daysFor wsX8_teller := goodIn_r _ [6, 1, 7, 8, 9, 10, 11, 12, 13, 14, 15, 16, 17, 18, 19, 20, 21, 22, 23, 24, 25, 26, 27, 28] (by decide +kernel) (by decide +kernel)
set_option maxRecDepth 20000 in
theorem gX8_daysFor_X8_teller : GoodIn wsX8_daysFor (wsV RX8 43 RX8 yX8_teller wsX8_teller) := goodIn_app (goodIn_of _ (by decide +kernel)) ggX8_daysFor_X8_teller
set_option maxRecDepth 20000 in
theorem ggX8_daysFor_X10_isBook : GoodIn wsX8_daysFor wsX10_isBook := goodIn_r _ [9] (by decide +kernel) (by decide +kernel)
set_option maxRecDepth 20000 in
theorem gX8_daysFor_X10_isBook_n32 : GoodIn wsX8_daysFor (wsX10_isBook) := ggX8_daysFor_X10_isBook
set_option maxRecDepth 20000 in
theorem ggX8_daysFor_X0_firstFor : GoodIn wsX8_daysFor wsX0_firstFor := goodIn_r _ [14, 15, 16, 17, 23, 24, 25, 26, 27, 28] (by decide +kernel) (by decide +kernel)
set_option maxRecDepth 20000 in
theorem gX8_daysFor_X0_firstFor : GoodIn wsX8_daysFor (wsV RX8 36 RX0 yX0_firstFor wsX0_firstFor) := goodIn_app (goodIn_of _ (by decide +kernel)) ggX8_daysFor_X0_firstFor
theorem dX8_daysFor_0 : decode cX8_daysFor 0 = .ok (.aload_n 0, 1) := by decide +kernel
theorem dX8_daysFor_1 : decode cX8_daysFor 1 = .ok (.iload_n 1, 1) := by decide +kernel
theorem dX8_daysFor_2 : decode cX8_daysFor 2 = .ok (.iload_n 2, 1) := by decide +kernel
theorem dX8_daysFor_3 : decode cX8_daysFor 3 = .ok (.iload_n 3, 1) := by decide +kernel
theorem dX8_daysFor_4 : decode cX8_daysFor 4 = .ok (.invokevirtual 43, 3) := by decide +kernel
theorem dX8_daysFor_7 : decode cX8_daysFor 7 = .ok (.istore 4, 2) := by decide +kernel
theorem dX8_daysFor_9 : decode cX8_daysFor 9 = .ok (.iload 4, 2) := by decide +kernel
theorem dX8_daysFor_11 : decode cX8_daysFor 11 = .ok (.invokestatic 32, 3) := by decide +kernel
theorem dX8_daysFor_14 : decode cX8_daysFor 14 = .ok (.ifCond .ne 6, 3) := by decide +kernel
theorem dX8_daysFor_17 : decode cX8_daysFor 17 = .ok (.bipush (-9), 2) := by decide +kernel
theorem dX8_daysFor_19 : decode cX8_daysFor 19 = .ok (.ireturn, 1) := by decide +kernel
theorem dX8_daysFor_20 : decode cX8_daysFor 20 = .ok (.aload_n 0, 1) := by decide +kernel
theorem dX8_daysFor_21 : decode cX8_daysFor 21 = .ok (.getfield 11, 3) := by decide +kernel
theorem dX8_daysFor_24 : decode cX8_daysFor 24 = .ok (.iload 4, 2) := by decide +kernel
theorem dX8_daysFor_26 : decode cX8_daysFor 26 = .ok (.aaload, 1) := by decide +kernel
theorem dX8_daysFor_27 : decode cX8_daysFor 27 = .ok (.iload_n 2, 1) := by decide +kernel
theorem dX8_daysFor_28 : decode cX8_daysFor 28 = .ok (.iload_n 3, 1) := by decide +kernel
theorem dX8_daysFor_29 : decode cX8_daysFor 29 = .ok (.invokevirtual 36, 3) := by decide +kernel
theorem dX8_daysFor_32 : decode cX8_daysFor 32 = .ok (.istore 5, 2) := by decide +kernel
theorem dX8_daysFor_34 : decode cX8_daysFor 34 = .ok (.iload 5, 2) := by decide +kernel
theorem dX8_daysFor_36 : decode cX8_daysFor 36 = .ok (.ifCond .lt 26, 3) := by decide +kernel
theorem dX8_daysFor_39 : decode cX8_daysFor 39 = .ok (.iload 5, 2) := by decide +kernel
theorem dX8_daysFor_41 : decode cX8_daysFor 41 = .ok (.bipush 10, 2) := by decide +kernel
theorem dX8_daysFor_43 : decode cX8_daysFor 43 = .ok (.if_icmp .ge 19, 3) := by decide +kernel
theorem dX8_daysFor_46 : decode cX8_daysFor 46 = .ok (.aload_n 0, 1) := by decide +kernel
theorem dX8_daysFor_47 : decode cX8_daysFor 47 = .ok (.getfield 11, 3) := by decide +kernel
theorem dX8_daysFor_50 : decode cX8_daysFor 50 = .ok (.iload 4, 2) := by decide +kernel
theorem dX8_daysFor_52 : decode cX8_daysFor 52 = .ok (.aaload, 1) := by decide +kernel
theorem dX8_daysFor_53 : decode cX8_daysFor 53 = .ok (.getfield 47, 3) := by decide +kernel
theorem dX8_daysFor_56 : decode cX8_daysFor 56 = .ok (.iload 5, 2) := by decide +kernel
theorem dX8_daysFor_58 : decode cX8_daysFor 58 = .ok (.iaload, 1) := by decide +kernel
theorem dX8_daysFor_59 : decode cX8_daysFor 59 = .ok (.goto 5, 3) := by decide +kernel
theorem dX8_daysFor_62 : decode cX8_daysFor 62 = .ok (.bipush (-9), 2) := by decide +kernel
theorem dX8_daysFor_64 : decode cX8_daysFor 64 = .ok (.ireturn, 1) := by decide +kernel
theorem dX8_addDone_0 : decode cX8_addDone 0 = .ok (.aload_n 0, 1) := by decide +kernel
theorem dX8_addDone_1 : decode cX8_addDone 1 = .ok (.getfield 50, 3) := by decide +kernel
theorem dX8_addDone_4 : decode cX8_addDone 4 = .ok (.bipush 12, 2) := by decide +kernel
theorem dX8_addDone_6 : decode cX8_addDone 6 = .ok (.if_icmp .ge 51, 3) := by decide +kernel
theorem dX8_addDone_9 : decode cX8_addDone 9 = .ok (.aload_n 0, 1) := by decide +kernel
theorem dX8_addDone_10 : decode cX8_addDone 10 = .ok (.getfield 17, 3) := by decide +kernel
theorem dX8_addDone_13 : decode cX8_addDone 13 = .ok (.aload_n 0, 1) := by decide +kernel
theorem dX8_addDone_14 : decode cX8_addDone 14 = .ok (.getfield 50, 3) := by decide +kernel
theorem dX8_addDone_17 : decode cX8_addDone 17 = .ok (.iload_n 1, 1) := by decide +kernel
theorem dX8_addDone_18 : decode cX8_addDone 18 = .ok (.iastore, 1) := by decide +kernel
theorem dX8_addDone_19 : decode cX8_addDone 19 = .ok (.aload_n 0, 1) := by decide +kernel
theorem dX8_addDone_20 : decode cX8_addDone 20 = .ok (.getfield 21, 3) := by decide +kernel
theorem dX8_addDone_23 : decode cX8_addDone 23 = .ok (.aload_n 0, 1) := by decide +kernel
theorem dX8_addDone_24 : decode cX8_addDone 24 = .ok (.getfield 50, 3) := by decide +kernel
theorem dX8_addDone_27 : decode cX8_addDone 27 = .ok (.iload_n 2, 1) := by decide +kernel
theorem dX8_addDone_28 : decode cX8_addDone 28 = .ok (.iastore, 1) := by decide +kernel
theorem dX8_addDone_29 : decode cX8_addDone 29 = .ok (.aload_n 0, 1) := by decide +kernel
theorem dX8_addDone_30 : decode cX8_addDone 30 = .ok (.getfield 24, 3) := by decide +kernel
theorem dX8_addDone_33 : decode cX8_addDone 33 = .ok (.aload_n 0, 1) := by decide +kernel
theorem dX8_addDone_34 : decode cX8_addDone 34 = .ok (.getfield 50, 3) := by decide +kernel
theorem dX8_addDone_37 : decode cX8_addDone 37 = .ok (.iload_n 3, 1) := by decide +kernel
theorem dX8_addDone_38 : decode cX8_addDone 38 = .ok (.ifCond .eq 7, 3) := by decide +kernel
theorem dX8_addDone_41 : decode cX8_addDone 41 = .ok (.iconst 2, 1) := by decide +kernel
theorem dX8_addDone_42 : decode cX8_addDone 42 = .ok (.goto 4, 3) := by decide +kernel
theorem dX8_addDone_45 : decode cX8_addDone 45 = .ok (.iconst 1, 1) := by decide +kernel
theorem dX8_addDone_46 : decode cX8_addDone 46 = .ok (.iastore, 1) := by decide +kernel
theorem dX8_addDone_47 : decode cX8_addDone 47 = .ok (.aload_n 0, 1) := by decide +kernel
theorem dX8_addDone_48 : decode cX8_addDone 48 = .ok (.dup, 1) := by decide +kernel
theorem dX8_addDone_49 : decode cX8_addDone 49 = .ok (.getfield 50, 3) := by decide +kernel
theorem dX8_addDone_52 : decode cX8_addDone 52 = .ok (.iconst 1, 1) := by decide +kernel
theorem dX8_addDone_53 : decode cX8_addDone 53 = .ok (.iadd, 1) := by decide +kernel
theorem dX8_addDone_54 : decode cX8_addDone 54 = .ok (.putfield 50, 3) := by decide +kernel
theorem dX8_addDone_57 : decode cX8_addDone 57 = .ok (.aload_n 0, 1) := by decide +kernel
theorem dX8_addDone_58 : decode cX8_addDone 58 = .ok (.getfield 50, 3) := by decide +kernel
theorem dX8_addDone_61 : decode cX8_addDone 61 = .ok (.ireturn, 1) := by decide +kernel
set_option maxRecDepth 20000 in
theorem ggX8_allDone_X8_daysFor : GoodIn wsX8_allDone wsX8_daysFor := goodIn_r _ [14, 9, 15, 16, 17, 13, 18, 19, 20, 21, 22, 23, 24, 25, 26, 27, 28, 29, 30, 31, 32, 33, 34, 35, 36, 37, 38, 39, 40] (by decide +kernel) (by decide +kernel)
set_option maxRecDepth 20000 in
theorem gX8_allDone_X8_daysFor : GoodIn wsX8_allDone (wsV RX8 53 RX8 yX8_daysFor wsX8_daysFor) := goodIn_app (goodIn_of _ (by decide +kernel)) ggX8_allDone_X8_daysFor
theorem dX8_allDone_0 : decode cX8_allDone 0 = .ok (.iconst 0, 1) := by decide +kernel
theorem dX8_allDone_1 : decode cX8_allDone 1 = .ok (.istore_n 2, 1) := by decide +kernel
theorem dX8_allDone_2 : decode cX8_allDone 2 = .ok (.iconst 0, 1) := by decide +kernel
theorem dX8_allDone_3 : decode cX8_allDone 3 = .ok (.istore_n 3, 1) := by decide +kernel
theorem dX8_allDone_4 : decode cX8_allDone 4 = .ok (.iconst 0, 1) := by decide +kernel
theorem dX8_allDone_5 : decode cX8_allDone 5 = .ok (.istore 4, 2) := by decide +kernel
theorem dX8_allDone_7 : decode cX8_allDone 7 = .ok (.iload 4, 2) := by decide +kernel
theorem dX8_allDone_9 : decode cX8_allDone 9 = .ok (.aload_n 0, 1) := by decide +kernel
theorem dX8_allDone_10 : decode cX8_allDone 10 = .ok (.getfield 50, 3) := by decide +kernel
theorem dX8_allDone_13 : decode cX8_allDone 13 = .ok (.if_icmp .ge 58, 3) := by decide +kernel
theorem dX8_allDone_16 : decode cX8_allDone 16 = .ok (.iconst 0, 1) := by decide +kernel
theorem dX8_allDone_17 : decode cX8_allDone 17 = .ok (.aload_n 0, 1) := by decide +kernel
theorem dX8_allDone_18 : decode cX8_allDone 18 = .ok (.iload_n 1, 1) := by decide +kernel
theorem dX8_allDone_19 : decode cX8_allDone 19 = .ok (.aload_n 0, 1) := by decide +kernel
theorem dX8_allDone_20 : decode cX8_allDone 20 = .ok (.getfield 17, 3) := by decide +kernel
theorem dX8_allDone_23 : decode cX8_allDone 23 = .ok (.iload 4, 2) := by decide +kernel
theorem dX8_allDone_25 : decode cX8_allDone 25 = .ok (.iaload, 1) := by decide +kernel
theorem dX8_allDone_26 : decode cX8_allDone 26 = .ok (.aload_n 0, 1) := by decide +kernel
theorem dX8_allDone_27 : decode cX8_allDone 27 = .ok (.getfield 21, 3) := by decide +kernel
theorem dX8_allDone_30 : decode cX8_allDone 30 = .ok (.iload 4, 2) := by decide +kernel
theorem dX8_allDone_32 : decode cX8_allDone 32 = .ok (.iaload, 1) := by decide +kernel
theorem dX8_allDone_33 : decode cX8_allDone 33 = .ok (.invokevirtual 53, 3) := by decide +kernel
theorem dX8_allDone_36 : decode cX8_allDone 36 = .ok (.invokestatic 56, 3) := by decide +kernel
theorem dX8_allDone_39 : decode cX8_allDone 39 = .ok (.istore 5, 2) := by decide +kernel
theorem dX8_allDone_41 : decode cX8_allDone 41 = .ok (.aload_n 0, 1) := by decide +kernel
theorem dX8_allDone_42 : decode cX8_allDone 42 = .ok (.getfield 24, 3) := by decide +kernel
theorem dX8_allDone_45 : decode cX8_allDone 45 = .ok (.iload 4, 2) := by decide +kernel
theorem dX8_allDone_47 : decode cX8_allDone 47 = .ok (.iaload, 1) := by decide +kernel
theorem dX8_allDone_48 : decode cX8_allDone 48 = .ok (.iload 5, 2) := by decide +kernel
theorem dX8_allDone_50 : decode cX8_allDone 50 = .ok (.imul, 1) := by decide +kernel
theorem dX8_allDone_51 : decode cX8_allDone 51 = .ok (.istore 6, 2) := by decide +kernel
theorem dX8_allDone_53 : decode cX8_allDone 53 = .ok (.iload_n 2, 1) := by decide +kernel
theorem dX8_allDone_54 : decode cX8_allDone 54 = .ok (.iload 6, 2) := by decide +kernel
theorem dX8_allDone_56 : decode cX8_allDone 56 = .ok (.iadd, 1) := by decide +kernel
theorem dX8_allDone_57 : decode cX8_allDone 57 = .ok (.istore_n 2, 1) := by decide +kernel
theorem dX8_allDone_58 : decode cX8_allDone 58 = .ok (.iload_n 3, 1) := by decide +kernel
theorem dX8_allDone_59 : decode cX8_allDone 59 = .ok (.iload 6, 2) := by decide +kernel
theorem dX8_allDone_61 : decode cX8_allDone 61 = .ok (.invokestatic 56, 3) := by decide +kernel
theorem dX8_allDone_64 : decode cX8_allDone 64 = .ok (.istore_n 3, 1) := by decide +kernel
theorem dX8_allDone_65 : decode cX8_allDone 65 = .ok (.iinc 4 1, 3) := by decide +kernel
theorem dX8_allDone_68 : decode cX8_allDone 68 = .ok (.goto (-61), 3) := by decide +kernel
theorem dX8_allDone_71 : decode cX8_allDone 71 = .ok (.aload_n 0, 1) := by decide +kernel
theorem dX8_allDone_72 : decode cX8_allDone 72 = .ok (.getfield 11, 3) := by decide +kernel
theorem dX8_allDone_75 : decode cX8_allDone 75 = .ok (.iload_n 1, 1) := by decide +kernel
theorem dX8_allDone_76 : decode cX8_allDone 76 = .ok (.aaload, 1) := by decide +kernel
theorem dX8_allDone_77 : decode cX8_allDone 77 = .ok (.getfield 61, 3) := by decide +kernel
theorem dX8_allDone_80 : decode cX8_allDone 80 = .ok (.lookupswitch 38 #[(1, 28), (2, 30)], 28) := by decide +kernel
theorem dX8_allDone_108 : decode cX8_allDone 108 = .ok (.iload_n 3, 1) := by decide +kernel
theorem dX8_allDone_109 : decode cX8_allDone 109 = .ok (.ireturn, 1) := by decide +kernel
theorem dX8_allDone_110 : decode cX8_allDone 110 = .ok (.iload_n 3, 1) := by decide +kernel
theorem dX8_allDone_111 : decode cX8_allDone 111 = .ok (.iload_n 2, 1) := by decide +kernel
theorem dX8_allDone_112 : decode cX8_allDone 112 = .ok (.iload_n 3, 1) := by decide +kernel
theorem dX8_allDone_113 : decode cX8_allDone 113 = .ok (.isub, 1) := by decide +kernel
theorem dX8_allDone_114 : decode cX8_allDone 114 = .ok (.iconst 2, 1) := by decide +kernel
theorem dX8_allDone_115 : decode cX8_allDone 115 = .ok (.idiv, 1) := by decide +kernel
theorem dX8_allDone_116 : decode cX8_allDone 116 = .ok (.iadd, 1) := by decide +kernel
theorem dX8_allDone_117 : decode cX8_allDone 117 = .ok (.ireturn, 1) := by decide +kernel
theorem dX8_allDone_118 : decode cX8_allDone 118 = .ok (.iload_n 2, 1) := by decide +kernel
theorem dX8_allDone_119 : decode cX8_allDone 119 = .ok (.ireturn, 1) := by decide +kernel
set_option maxRecDepth 20000 in
theorem ggX8_extreme_X8_allDone : GoodIn wsX8_extreme wsX8_allDone := goodIn_r _ [5, 6, 7, 8, 9, 10, 11, 12, 13, 14, 15, 16, 17, 4, 18, 19, 20, 21, 22, 23, 24, 25, 26, 27, 28, 29, 30, 31, 32, 33, 34, 35, 36, 37, 38, 39, 40, 41, 42, 43, 44] (by decide +kernel) (by decide +kernel)
set_option maxRecDepth 20000 in
theorem gX8_extreme_X8_allDone : GoodIn wsX8_extreme (wsV RX8 64 RX8 yX8_allDone wsX8_allDone) := goodIn_app (goodIn_of _ (by decide +kernel)) ggX8_extreme_X8_allDone
theorem dX8_extreme_0 : decode cX8_extreme 0 = .ok (.iconst 0, 1) := by decide +kernel
theorem dX8_extreme_1 : decode cX8_extreme 1 = .ok (.istore_n 2, 1) := by decide +kernel
theorem dX8_extreme_2 : decode cX8_extreme 2 = .ok (.aload_n 0, 1) := by decide +kernel
theorem dX8_extreme_3 : decode cX8_extreme 3 = .ok (.iconst 0, 1) := by decide +kernel
theorem dX8_extreme_4 : decode cX8_extreme 4 = .ok (.invokevirtual 64, 3) := by decide +kernel
theorem dX8_extreme_7 : decode cX8_extreme 7 = .ok (.istore_n 3, 1) := by decide +kernel
theorem dX8_extreme_8 : decode cX8_extreme 8 = .ok (.iconst 1, 1) := by decide +kernel
theorem dX8_extreme_9 : decode cX8_extreme 9 = .ok (.istore 4, 2) := by decide +kernel
theorem dX8_extreme_11 : decode cX8_extreme 11 = .ok (.iload 4, 2) := by decide +kernel
theorem dX8_extreme_13 : decode cX8_extreme 13 = .ok (.bipush 6, 2) := by decide +kernel
theorem dX8_extreme_15 : decode cX8_extreme 15 = .ok (.if_icmp .ge 42, 3) := by decide +kernel
theorem dX8_extreme_18 : decode cX8_extreme 18 = .ok (.aload_n 0, 1) := by decide +kernel
theorem dX8_extreme_19 : decode cX8_extreme 19 = .ok (.iload 4, 2) := by decide +kernel
theorem dX8_extreme_21 : decode cX8_extreme 21 = .ok (.invokevirtual 64, 3) := by decide +kernel
theorem dX8_extreme_24 : decode cX8_extreme 24 = .ok (.istore 5, 2) := by decide +kernel
theorem dX8_extreme_26 : decode cX8_extreme 26 = .ok (.iload_n 1, 1) := by decide +kernel
theorem dX8_extreme_27 : decode cX8_extreme 27 = .ok (.ifCond .eq 12, 3) := by decide +kernel
theorem dX8_extreme_30 : decode cX8_extreme 30 = .ok (.iload 5, 2) := by decide +kernel
theorem dX8_extreme_32 : decode cX8_extreme 32 = .ok (.iload_n 3, 1) := by decide +kernel
theorem dX8_extreme_33 : decode cX8_extreme 33 = .ok (.if_icmp .le 18, 3) := by decide +kernel
theorem dX8_extreme_36 : decode cX8_extreme 36 = .ok (.goto 9, 3) := by decide +kernel
theorem dX8_extreme_39 : decode cX8_extreme 39 = .ok (.iload 5, 2) := by decide +kernel
theorem dX8_extreme_41 : decode cX8_extreme 41 = .ok (.iload_n 3, 1) := by decide +kernel
theorem dX8_extreme_42 : decode cX8_extreme 42 = .ok (.if_icmp .ge 9, 3) := by decide +kernel
theorem dX8_extreme_45 : decode cX8_extreme 45 = .ok (.iload 4, 2) := by decide +kernel
theorem dX8_extreme_47 : decode cX8_extreme 47 = .ok (.istore_n 2, 1) := by decide +kernel
theorem dX8_extreme_48 : decode cX8_extreme 48 = .ok (.iload 5, 2) := by decide +kernel
theorem dX8_extreme_50 : decode cX8_extreme 50 = .ok (.istore_n 3, 1) := by decide +kernel
theorem dX8_extreme_51 : decode cX8_extreme 51 = .ok (.iinc 4 1, 3) := by decide +kernel
theorem dX8_extreme_54 : decode cX8_extreme 54 = .ok (.goto (-43), 3) := by decide +kernel
theorem dX8_extreme_57 : decode cX8_extreme 57 = .ok (.iload_n 2, 1) := by decide +kernel
theorem dX8_extreme_58 : decode cX8_extreme 58 = .ok (.ireturn, 1) := by decide +kernel
set_option maxRecDepth 20000 in
theorem ggX8_firstUnlike_X8_daysFor : GoodIn wsX8_firstUnlike wsX8_daysFor := goodIn_r _ [5, 6, 7, 8, 9, 4, 10, 11, 12, 13, 14, 15, 16, 17, 18, 19, 20, 21, 22, 23, 24, 25, 26, 27, 28, 29, 30, 31, 32] (by decide +kernel) (by decide +kernel)
set_option maxRecDepth 20000 in
theorem gX8_firstUnlike_X8_daysFor : GoodIn wsX8_firstUnlike (wsV RX8 53 RX8 yX8_daysFor wsX8_daysFor) := goodIn_app (goodIn_of _ (by decide +kernel)) ggX8_firstUnlike_X8_daysFor
theorem dX8_firstUnlike_0 : decode cX8_firstUnlike 0 = .ok (.iconst 0, 1) := by decide +kernel
theorem dX8_firstUnlike_1 : decode cX8_firstUnlike 1 = .ok (.istore_n 3, 1) := by decide +kernel
theorem dX8_firstUnlike_2 : decode cX8_firstUnlike 2 = .ok (.iload_n 3, 1) := by decide +kernel
theorem dX8_firstUnlike_3 : decode cX8_firstUnlike 3 = .ok (.sipush 128, 3) := by decide +kernel
theorem dX8_firstUnlike_6 : decode cX8_firstUnlike 6 = .ok (.if_icmp .ge 44, 3) := by decide +kernel
theorem dX8_firstUnlike_9 : decode cX8_firstUnlike 9 = .ok (.iload_n 3, 1) := by decide +kernel
theorem dX8_firstUnlike_10 : decode cX8_firstUnlike 10 = .ok (.bipush 16, 2) := by decide +kernel
theorem dX8_firstUnlike_12 : decode cX8_firstUnlike 12 = .ok (.idiv, 1) := by decide +kernel
theorem dX8_firstUnlike_13 : decode cX8_firstUnlike 13 = .ok (.istore 4, 2) := by decide +kernel
theorem dX8_firstUnlike_15 : decode cX8_firstUnlike 15 = .ok (.iload_n 3, 1) := by decide +kernel
theorem dX8_firstUnlike_16 : decode cX8_firstUnlike 16 = .ok (.bipush 16, 2) := by decide +kernel
theorem dX8_firstUnlike_18 : decode cX8_firstUnlike 18 = .ok (.irem, 1) := by decide +kernel
theorem dX8_firstUnlike_19 : decode cX8_firstUnlike 19 = .ok (.istore 5, 2) := by decide +kernel
theorem dX8_firstUnlike_21 : decode cX8_firstUnlike 21 = .ok (.aload_n 0, 1) := by decide +kernel
theorem dX8_firstUnlike_22 : decode cX8_firstUnlike 22 = .ok (.iload_n 1, 1) := by decide +kernel
theorem dX8_firstUnlike_23 : decode cX8_firstUnlike 23 = .ok (.iload 4, 2) := by decide +kernel
theorem dX8_firstUnlike_25 : decode cX8_firstUnlike 25 = .ok (.iload 5, 2) := by decide +kernel
theorem dX8_firstUnlike_27 : decode cX8_firstUnlike 27 = .ok (.invokevirtual 53, 3) := by decide +kernel
theorem dX8_firstUnlike_30 : decode cX8_firstUnlike 30 = .ok (.aload_n 0, 1) := by decide +kernel
theorem dX8_firstUnlike_31 : decode cX8_firstUnlike 31 = .ok (.iload_n 2, 1) := by decide +kernel
theorem dX8_firstUnlike_32 : decode cX8_firstUnlike 32 = .ok (.iload 4, 2) := by decide +kernel
theorem dX8_firstUnlike_34 : decode cX8_firstUnlike 34 = .ok (.iload 5, 2) := by decide +kernel
theorem dX8_firstUnlike_36 : decode cX8_firstUnlike 36 = .ok (.invokevirtual 53, 3) := by decide +kernel
theorem dX8_firstUnlike_39 : decode cX8_firstUnlike 39 = .ok (.if_icmp .eq 5, 3) := by decide +kernel
theorem dX8_firstUnlike_42 : decode cX8_firstUnlike 42 = .ok (.iload_n 3, 1) := by decide +kernel
theorem dX8_firstUnlike_43 : decode cX8_firstUnlike 43 = .ok (.ireturn, 1) := by decide +kernel
theorem dX8_firstUnlike_44 : decode cX8_firstUnlike 44 = .ok (.iinc 3 1, 3) := by decide +kernel
theorem dX8_firstUnlike_47 : decode cX8_firstUnlike 47 = .ok (.goto (-45), 3) := by decide +kernel
theorem dX8_firstUnlike_50 : decode cX8_firstUnlike 50 = .ok (.bipush (-9), 2) := by decide +kernel
theorem dX8_firstUnlike_52 : decode cX8_firstUnlike 52 = .ok (.ireturn, 1) := by decide +kernel
set_option maxRecDepth 20000 in
theorem ggX8_nearest_X0_alikeIn : GoodIn wsX8_nearest wsX0_alikeIn := goodIn_r _ [6, 7, 8, 9, 10, 11, 12, 13, 5, 14, 20, 21, 22, 23, 24, 25] (by decide +kernel) (by decide +kernel)
set_option maxRecDepth 20000 in
theorem gX8_nearest_X0_alikeIn : GoodIn wsX8_nearest (wsV RX8 68 RX0 yX0_alikeIn wsX0_alikeIn) := goodIn_app (goodIn_of _ (by decide +kernel)) ggX8_nearest_X0_alikeIn
theorem dX8_nearest_0 : decode cX8_nearest 0 = .ok (.bipush (-9), 2) := by decide +kernel
theorem dX8_nearest_2 : decode cX8_nearest 2 = .ok (.istore_n 2, 1) := by decide +kernel
theorem dX8_nearest_3 : decode cX8_nearest 3 = .ok (.iconst 0, 1) := by decide +kernel
theorem dX8_nearest_4 : decode cX8_nearest 4 = .ok (.istore_n 3, 1) := by decide +kernel
theorem dX8_nearest_5 : decode cX8_nearest 5 = .ok (.iconst 0, 1) := by decide +kernel
theorem dX8_nearest_6 : decode cX8_nearest 6 = .ok (.istore 4, 2) := by decide +kernel
theorem dX8_nearest_8 : decode cX8_nearest 8 = .ok (.iload 4, 2) := by decide +kernel
theorem dX8_nearest_10 : decode cX8_nearest 10 = .ok (.bipush 6, 2) := by decide +kernel
theorem dX8_nearest_12 : decode cX8_nearest 12 = .ok (.if_icmp .ge 49, 3) := by decide +kernel
theorem dX8_nearest_15 : decode cX8_nearest 15 = .ok (.iload 4, 2) := by decide +kernel
theorem dX8_nearest_17 : decode cX8_nearest 17 = .ok (.iload_n 1, 1) := by decide +kernel
theorem dX8_nearest_18 : decode cX8_nearest 18 = .ok (.if_icmp .ne 7, 3) := by decide +kernel
theorem dX8_nearest_21 : decode cX8_nearest 21 = .ok (.iconst 0, 1) := by decide +kernel
theorem dX8_nearest_22 : decode cX8_nearest 22 = .ok (.goto 19, 3) := by decide +kernel
theorem dX8_nearest_25 : decode cX8_nearest 25 = .ok (.aload_n 0, 1) := by decide +kernel
theorem dX8_nearest_26 : decode cX8_nearest 26 = .ok (.getfield 11, 3) := by decide +kernel
theorem dX8_nearest_29 : decode cX8_nearest 29 = .ok (.iload_n 1, 1) := by decide +kernel
theorem dX8_nearest_30 : decode cX8_nearest 30 = .ok (.aaload, 1) := by decide +kernel
theorem dX8_nearest_31 : decode cX8_nearest 31 = .ok (.aload_n 0, 1) := by decide +kernel
theorem dX8_nearest_32 : decode cX8_nearest 32 = .ok (.getfield 11, 3) := by decide +kernel
theorem dX8_nearest_35 : decode cX8_nearest 35 = .ok (.iload 4, 2) := by decide +kernel
theorem dX8_nearest_37 : decode cX8_nearest 37 = .ok (.aaload, 1) := by decide +kernel
theorem dX8_nearest_38 : decode cX8_nearest 38 = .ok (.invokevirtual 68, 3) := by decide +kernel
theorem dX8_nearest_41 : decode cX8_nearest 41 = .ok (.istore 5, 2) := by decide +kernel
theorem dX8_nearest_43 : decode cX8_nearest 43 = .ok (.iload 5, 2) := by decide +kernel
theorem dX8_nearest_45 : decode cX8_nearest 45 = .ok (.iload_n 3, 1) := by decide +kernel
theorem dX8_nearest_46 : decode cX8_nearest 46 = .ok (.if_icmp .le 9, 3) := by decide +kernel
theorem dX8_nearest_49 : decode cX8_nearest 49 = .ok (.iload 4, 2) := by decide +kernel
theorem dX8_nearest_51 : decode cX8_nearest 51 = .ok (.istore_n 2, 1) := by decide +kernel
theorem dX8_nearest_52 : decode cX8_nearest 52 = .ok (.iload 5, 2) := by decide +kernel
theorem dX8_nearest_54 : decode cX8_nearest 54 = .ok (.istore_n 3, 1) := by decide +kernel
theorem dX8_nearest_55 : decode cX8_nearest 55 = .ok (.iinc 4 1, 3) := by decide +kernel
theorem dX8_nearest_58 : decode cX8_nearest 58 = .ok (.goto (-50), 3) := by decide +kernel
theorem dX8_nearest_61 : decode cX8_nearest 61 = .ok (.iload_n 2, 1) := by decide +kernel
theorem dX8_nearest_62 : decode cX8_nearest 62 = .ok (.ireturn, 1) := by decide +kernel
set_option maxRecDepth 20000 in
theorem ggX8_copyFrom_X0_copyFrom : GoodIn wsX8_copyFrom wsX0_copyFrom := goodIn_r _ [14, 15, 16, 4, 5, 6, 17, 18, 19, 20, 21, 27, 28, 29, 30, 31, 32] (by decide +kernel) (by decide +kernel)
set_option maxRecDepth 20000 in
theorem gX8_copyFrom_X0_copyFrom : GoodIn wsX8_copyFrom (wsV RX8 72 RX0 yX0_copyFrom wsX0_copyFrom) := goodIn_app (goodIn_of _ (by decide +kernel)) ggX8_copyFrom_X0_copyFrom
theorem dX8_copyFrom_0 : decode cX8_copyFrom 0 = .ok (.iconst 0, 1) := by decide +kernel
theorem dX8_copyFrom_1 : decode cX8_copyFrom 1 = .ok (.istore_n 2, 1) := by decide +kernel
theorem dX8_copyFrom_2 : decode cX8_copyFrom 2 = .ok (.iload_n 2, 1) := by decide +kernel
theorem dX8_copyFrom_3 : decode cX8_copyFrom 3 = .ok (.bipush 6, 2) := by decide +kernel
theorem dX8_copyFrom_5 : decode cX8_copyFrom 5 = .ok (.if_icmp .ge 24, 3) := by decide +kernel
theorem dX8_copyFrom_8 : decode cX8_copyFrom 8 = .ok (.aload_n 0, 1) := by decide +kernel
theorem dX8_copyFrom_9 : decode cX8_copyFrom 9 = .ok (.getfield 11, 3) := by decide +kernel
theorem dX8_copyFrom_12 : decode cX8_copyFrom 12 = .ok (.iload_n 2, 1) := by decide +kernel
theorem dX8_copyFrom_13 : decode cX8_copyFrom 13 = .ok (.aaload, 1) := by decide +kernel
theorem dX8_copyFrom_14 : decode cX8_copyFrom 14 = .ok (.aload_n 1, 1) := by decide +kernel
theorem dX8_copyFrom_15 : decode cX8_copyFrom 15 = .ok (.getfield 11, 3) := by decide +kernel
theorem dX8_copyFrom_18 : decode cX8_copyFrom 18 = .ok (.iload_n 2, 1) := by decide +kernel
theorem dX8_copyFrom_19 : decode cX8_copyFrom 19 = .ok (.aaload, 1) := by decide +kernel
theorem dX8_copyFrom_20 : decode cX8_copyFrom 20 = .ok (.invokevirtual 72, 3) := by decide +kernel
theorem dX8_copyFrom_23 : decode cX8_copyFrom 23 = .ok (.iinc 2 1, 3) := by decide +kernel
theorem dX8_copyFrom_26 : decode cX8_copyFrom 26 = .ok (.goto (-24), 3) := by decide +kernel
theorem dX8_copyFrom_29 : decode cX8_copyFrom 29 = .ok (.aload_n 1, 1) := by decide +kernel
theorem dX8_copyFrom_30 : decode cX8_copyFrom 30 = .ok (.getfield 17, 3) := by decide +kernel
theorem dX8_copyFrom_33 : decode cX8_copyFrom 33 = .ok (.iconst 0, 1) := by decide +kernel
theorem dX8_copyFrom_34 : decode cX8_copyFrom 34 = .ok (.aload_n 0, 1) := by decide +kernel
theorem dX8_copyFrom_35 : decode cX8_copyFrom 35 = .ok (.getfield 17, 3) := by decide +kernel
theorem dX8_copyFrom_38 : decode cX8_copyFrom 38 = .ok (.iconst 0, 1) := by decide +kernel
theorem dX8_copyFrom_39 : decode cX8_copyFrom 39 = .ok (.bipush 12, 2) := by decide +kernel
theorem dX8_copyFrom_41 : decode cX8_copyFrom 41 = .ok (.invokestatic 76, 3) := by decide +kernel
theorem dX8_copyFrom_44 : decode cX8_copyFrom 44 = .ok (.aload_n 1, 1) := by decide +kernel
theorem dX8_copyFrom_45 : decode cX8_copyFrom 45 = .ok (.getfield 21, 3) := by decide +kernel
theorem dX8_copyFrom_48 : decode cX8_copyFrom 48 = .ok (.iconst 0, 1) := by decide +kernel
theorem dX8_copyFrom_49 : decode cX8_copyFrom 49 = .ok (.aload_n 0, 1) := by decide +kernel
theorem dX8_copyFrom_50 : decode cX8_copyFrom 50 = .ok (.getfield 21, 3) := by decide +kernel
theorem dX8_copyFrom_53 : decode cX8_copyFrom 53 = .ok (.iconst 0, 1) := by decide +kernel
theorem dX8_copyFrom_54 : decode cX8_copyFrom 54 = .ok (.bipush 12, 2) := by decide +kernel
theorem dX8_copyFrom_56 : decode cX8_copyFrom 56 = .ok (.invokestatic 76, 3) := by decide +kernel
theorem dX8_copyFrom_59 : decode cX8_copyFrom 59 = .ok (.aload_n 1, 1) := by decide +kernel
theorem dX8_copyFrom_60 : decode cX8_copyFrom 60 = .ok (.getfield 24, 3) := by decide +kernel
theorem dX8_copyFrom_63 : decode cX8_copyFrom 63 = .ok (.iconst 0, 1) := by decide +kernel
theorem dX8_copyFrom_64 : decode cX8_copyFrom 64 = .ok (.aload_n 0, 1) := by decide +kernel
theorem dX8_copyFrom_65 : decode cX8_copyFrom 65 = .ok (.getfield 24, 3) := by decide +kernel
theorem dX8_copyFrom_68 : decode cX8_copyFrom 68 = .ok (.iconst 0, 1) := by decide +kernel
theorem dX8_copyFrom_69 : decode cX8_copyFrom 69 = .ok (.bipush 12, 2) := by decide +kernel
theorem dX8_copyFrom_71 : decode cX8_copyFrom 71 = .ok (.invokestatic 76, 3) := by decide +kernel
theorem dX8_copyFrom_74 : decode cX8_copyFrom 74 = .ok (.aload_n 0, 1) := by decide +kernel
theorem dX8_copyFrom_75 : decode cX8_copyFrom 75 = .ok (.aload_n 1, 1) := by decide +kernel
theorem dX8_copyFrom_76 : decode cX8_copyFrom 76 = .ok (.getfield 50, 3) := by decide +kernel
theorem dX8_copyFrom_79 : decode cX8_copyFrom 79 = .ok (.putfield 50, 3) := by decide +kernel
theorem dX8_copyFrom_82 : decode cX8_copyFrom 82 = .ok (.return_, 1) := by decide +kernel
theorem dX9_init_0 : decode cX9_init 0 = .ok (.aload_n 0, 1) := by decide +kernel
theorem dX9_init_1 : decode cX9_init 1 = .ok (.invokespecial 3, 3) := by decide +kernel
theorem dX9_init_4 : decode cX9_init 4 = .ok (.aload_n 0, 1) := by decide +kernel
theorem dX9_init_5 : decode cX9_init 5 = .ok (.sipush 384, 3) := by decide +kernel
theorem dX9_init_8 : decode cX9_init 8 = .ok (.newarray .long, 2) := by decide +kernel
theorem dX9_init_10 : decode cX9_init 10 = .ok (.putfield 11, 3) := by decide +kernel
theorem dX9_init_13 : decode cX9_init 13 = .ok (.aload_n 0, 1) := by decide +kernel
theorem dX9_init_14 : decode cX9_init 14 = .ok (.sipush 384, 3) := by decide +kernel
theorem dX9_init_17 : decode cX9_init 17 = .ok (.newarray .long, 2) := by decide +kernel
theorem dX9_init_19 : decode cX9_init 19 = .ok (.putfield 15, 3) := by decide +kernel
theorem dX9_init_22 : decode cX9_init 22 = .ok (.aload_n 0, 1) := by decide +kernel
theorem dX9_init_23 : decode cX9_init 23 = .ok (.aload_n 1, 1) := by decide +kernel
theorem dX9_init_24 : decode cX9_init 24 = .ok (.putfield 18, 3) := by decide +kernel
theorem dX9_init_27 : decode cX9_init 27 = .ok (.return_, 1) := by decide +kernel
set_option maxRecDepth 20000 in
theorem ggX9_leastPart_X9_goAllWays : GoodIn wsX9_leastPart wsX9_goAllWays := goodIn_r _ [7, 1, 2, 8, 9, 10, 11, 12, 13, 14, 15, 6, 16, 24, 25, 26, 27, 28, 29, 30, 31] (by decide +kernel) (by decide +kernel)
set_option maxRecDepth 20000 in
theorem gX9_leastPart_X9_goAllWays : GoodIn wsX9_leastPart (wsV RX9 22 RX9 yX9_goAllWays wsX9_goAllWays) := goodIn_app (goodIn_of _ (by decide +kernel)) ggX9_leastPart_X9_goAllWays
set_option maxRecDepth 20000 in
theorem ggX9_leastPart_X9_bestFor : GoodIn wsX9_leastPart wsX9_bestFor := goodIn_r _ [20, 1, 2, 24, 25, 26] (by decide +kernel) (by decide +kernel)
set_option maxRecDepth 20000 in
theorem gX9_leastPart_X9_bestFor : GoodIn wsX9_leastPart (wsV RX9 25 RX9 yX9_bestFor wsX9_bestFor) := goodIn_app (goodIn_of _ (by decide +kernel)) ggX9_leastPart_X9_bestFor
set_option maxRecDepth 20000 in
theorem ggX9_leastPart_X9_commonDivisor : GoodIn wsX9_leastPart wsX9_commonDivisor := goodIn_r _ [23] (by decide +kernel) (by decide +kernel)
set_option maxRecDepth 20000 in
theorem gX9_leastPart_X9_commonDivisor : GoodIn wsX9_leastPart (va_wsS RX9 29 yX9_commonDivisor wsX9_commonDivisor) := goodIn_app (goodIn_of _ (by decide +kernel)) ggX9_leastPart_X9_commonDivisor
theorem dX9_leastPart_0 : decode cX9_leastPart 0 = .ok (.aload_n 0, 1) := by decide +kernel
theorem dX9_leastPart_1 : decode cX9_leastPart 1 = .ok (.invokevirtual 22, 3) := by decide +kernel
theorem dX9_leastPart_4 : decode cX9_leastPart 4 = .ok (.aload_n 0, 1) := by decide +kernel
theorem dX9_leastPart_5 : decode cX9_leastPart 5 = .ok (.iload_n 1, 1) := by decide +kernel
theorem dX9_leastPart_6 : decode cX9_leastPart 6 = .ok (.invokevirtual 25, 3) := by decide +kernel
theorem dX9_leastPart_9 : decode cX9_leastPart 9 = .ok (.istore_n 3, 1) := by decide +kernel
theorem dX9_leastPart_10 : decode cX9_leastPart 10 = .ok (.iload_n 3, 1) := by decide +kernel
theorem dX9_leastPart_11 : decode cX9_leastPart 11 = .ok (.ifCond .lt 23, 3) := by decide +kernel
theorem dX9_leastPart_14 : decode cX9_leastPart 14 = .ok (.iload_n 3, 1) := by decide +kernel
theorem dX9_leastPart_15 : decode cX9_leastPart 15 = .ok (.aload_n 0, 1) := by decide +kernel
theorem dX9_leastPart_16 : decode cX9_leastPart 16 = .ok (.getfield 15, 3) := by decide +kernel
theorem dX9_leastPart_19 : decode cX9_leastPart 19 = .ok (.arraylength, 1) := by decide +kernel
theorem dX9_leastPart_20 : decode cX9_leastPart 20 = .ok (.if_icmp .ge 14, 3) := by decide +kernel
theorem dX9_leastPart_23 : decode cX9_leastPart 23 = .ok (.aload_n 0, 1) := by decide +kernel
theorem dX9_leastPart_24 : decode cX9_leastPart 24 = .ok (.getfield 15, 3) := by decide +kernel
theorem dX9_leastPart_27 : decode cX9_leastPart 27 = .ok (.iload_n 3, 1) := by decide +kernel
theorem dX9_leastPart_28 : decode cX9_leastPart 28 = .ok (.laload, 1) := by decide +kernel
theorem dX9_leastPart_29 : decode cX9_leastPart 29 = .ok (.lconst 0, 1) := by decide +kernel
theorem dX9_leastPart_30 : decode cX9_leastPart 30 = .ok (.lcmp, 1) := by decide +kernel
theorem dX9_leastPart_31 : decode cX9_leastPart 31 = .ok (.ifCond .ne 6, 3) := by decide +kernel
theorem dX9_leastPart_34 : decode cX9_leastPart 34 = .ok (.bipush (-9), 2) := by decide +kernel
theorem dX9_leastPart_36 : decode cX9_leastPart 36 = .ok (.ireturn, 1) := by decide +kernel
theorem dX9_leastPart_37 : decode cX9_leastPart 37 = .ok (.aload_n 0, 1) := by decide +kernel
theorem dX9_leastPart_38 : decode cX9_leastPart 38 = .ok (.getfield 11, 3) := by decide +kernel
theorem dX9_leastPart_41 : decode cX9_leastPart 41 = .ok (.iload_n 3, 1) := by decide +kernel
theorem dX9_leastPart_42 : decode cX9_leastPart 42 = .ok (.laload, 1) := by decide +kernel
theorem dX9_leastPart_43 : decode cX9_leastPart 43 = .ok (.aload_n 0, 1) := by decide +kernel
theorem dX9_leastPart_44 : decode cX9_leastPart 44 = .ok (.getfield 15, 3) := by decide +kernel
theorem dX9_leastPart_47 : decode cX9_leastPart 47 = .ok (.iload_n 3, 1) := by decide +kernel
theorem dX9_leastPart_48 : decode cX9_leastPart 48 = .ok (.laload, 1) := by decide +kernel
theorem dX9_leastPart_49 : decode cX9_leastPart 49 = .ok (.invokestatic 29, 3) := by decide +kernel
theorem dX9_leastPart_52 : decode cX9_leastPart 52 = .ok (.lstore 4, 2) := by decide +kernel
theorem dX9_leastPart_54 : decode cX9_leastPart 54 = .ok (.lload 4, 2) := by decide +kernel
theorem dX9_leastPart_56 : decode cX9_leastPart 56 = .ok (.lconst 0, 1) := by decide +kernel
theorem dX9_leastPart_57 : decode cX9_leastPart 57 = .ok (.lcmp, 1) := by decide +kernel
theorem dX9_leastPart_58 : decode cX9_leastPart 58 = .ok (.ifCond .ne 6, 3) := by decide +kernel
theorem dX9_leastPart_61 : decode cX9_leastPart 61 = .ok (.bipush (-9), 2) := by decide +kernel
theorem dX9_leastPart_63 : decode cX9_leastPart 63 = .ok (.ireturn, 1) := by decide +kernel
theorem dX9_leastPart_64 : decode cX9_leastPart 64 = .ok (.iload_n 2, 1) := by decide +kernel
theorem dX9_leastPart_65 : decode cX9_leastPart 65 = .ok (.ifCond .eq 12, 3) := by decide +kernel
theorem dX9_leastPart_68 : decode cX9_leastPart 68 = .ok (.aload_n 0, 1) := by decide +kernel
theorem dX9_leastPart_69 : decode cX9_leastPart 69 = .ok (.getfield 15, 3) := by decide +kernel
theorem dX9_leastPart_72 : decode cX9_leastPart 72 = .ok (.iload_n 3, 1) := by decide +kernel
theorem dX9_leastPart_73 : decode cX9_leastPart 73 = .ok (.laload, 1) := by decide +kernel
theorem dX9_leastPart_74 : decode cX9_leastPart 74 = .ok (.goto 9, 3) := by decide +kernel
theorem dX9_leastPart_77 : decode cX9_leastPart 77 = .ok (.aload_n 0, 1) := by decide +kernel
theorem dX9_leastPart_78 : decode cX9_leastPart 78 = .ok (.getfield 11, 3) := by decide +kernel
theorem dX9_leastPart_81 : decode cX9_leastPart 81 = .ok (.iload_n 3, 1) := by decide +kernel
theorem dX9_leastPart_82 : decode cX9_leastPart 82 = .ok (.laload, 1) := by decide +kernel
theorem dX9_leastPart_83 : decode cX9_leastPart 83 = .ok (.lload 4, 2) := by decide +kernel
theorem dX9_leastPart_85 : decode cX9_leastPart 85 = .ok (.ldiv, 1) := by decide +kernel
theorem dX9_leastPart_86 : decode cX9_leastPart 86 = .ok (.l2i, 1) := by decide +kernel
theorem dX9_leastPart_87 : decode cX9_leastPart 87 = .ok (.ireturn, 1) := by decide +kernel
set_option maxRecDepth 20000 in
theorem ggX9_goAllWays_J7_fill_d0a16 : GoodIn wsX9_goAllWays wsJ7_fill_d0a16 := goodIn_r _ [7] (by decide +kernel) (by decide +kernel)
set_option maxRecDepth 20000 in
theorem gX9_goAllWays_J7_fill_d0a16 : GoodIn wsX9_goAllWays (va_wsS RX9 33 yJ7_fill_d0a16 wsJ7_fill_d0a16) := goodIn_app (goodIn_of _ (by decide +kernel)) ggX9_goAllWays_J7_fill_d0a16
set_option maxRecDepth 20000 in
theorem ggX9_goAllWays_X9_goOn : GoodIn wsX9_goAllWays wsX9_goOn := goodIn_r _ [12, 3, 1, 2, 13, 14, 15, 16, 17, 18, 19, 20] (by decide +kernel) (by decide +kernel)
set_option maxRecDepth 20000 in
theorem gX9_goAllWays_X9_goOn : GoodIn wsX9_goAllWays (wsV RX9 45 RX9 yX9_goOn wsX9_goOn) := goodIn_app (goodIn_of _ (by decide +kernel)) ggX9_goAllWays_X9_goOn
theorem dX9_goAllWays_0 : decode cX9_goAllWays 0 = .ok (.aload_n 0, 1) := by decide +kernel
theorem dX9_goAllWays_1 : decode cX9_goAllWays 1 = .ok (.getfield 15, 3) := by decide +kernel
theorem dX9_goAllWays_4 : decode cX9_goAllWays 4 = .ok (.lconst 0, 1) := by decide +kernel
theorem dX9_goAllWays_5 : decode cX9_goAllWays 5 = .ok (.invokestatic 33, 3) := by decide +kernel
theorem dX9_goAllWays_8 : decode cX9_goAllWays 8 = .ok (.aload_n 0, 1) := by decide +kernel
theorem dX9_goAllWays_9 : decode cX9_goAllWays 9 = .ok (.getfield 11, 3) := by decide +kernel
theorem dX9_goAllWays_12 : decode cX9_goAllWays 12 = .ok (.bipush 6, 2) := by decide +kernel
theorem dX9_goAllWays_14 : decode cX9_goAllWays 14 = .ok (.lconst 1, 1) := by decide +kernel
theorem dX9_goAllWays_15 : decode cX9_goAllWays 15 = .ok (.lastore, 1) := by decide +kernel
theorem dX9_goAllWays_16 : decode cX9_goAllWays 16 = .ok (.aload_n 0, 1) := by decide +kernel
theorem dX9_goAllWays_17 : decode cX9_goAllWays 17 = .ok (.getfield 15, 3) := by decide +kernel
theorem dX9_goAllWays_20 : decode cX9_goAllWays 20 = .ok (.bipush 6, 2) := by decide +kernel
theorem dX9_goAllWays_22 : decode cX9_goAllWays 22 = .ok (.lconst 1, 1) := by decide +kernel
theorem dX9_goAllWays_23 : decode cX9_goAllWays 23 = .ok (.lastore, 1) := by decide +kernel
theorem dX9_goAllWays_24 : decode cX9_goAllWays 24 = .ok (.iconst 1, 1) := by decide +kernel
theorem dX9_goAllWays_25 : decode cX9_goAllWays 25 = .ok (.istore_n 1, 1) := by decide +kernel
theorem dX9_goAllWays_26 : decode cX9_goAllWays 26 = .ok (.iload_n 1, 1) := by decide +kernel
theorem dX9_goAllWays_27 : decode cX9_goAllWays 27 = .ok (.bipush 64, 2) := by decide +kernel
theorem dX9_goAllWays_29 : decode cX9_goAllWays 29 = .ok (.if_icmp .ge 34, 3) := by decide +kernel
theorem dX9_goAllWays_32 : decode cX9_goAllWays 32 = .ok (.iconst 0, 1) := by decide +kernel
theorem dX9_goAllWays_33 : decode cX9_goAllWays 33 = .ok (.istore_n 2, 1) := by decide +kernel
theorem dX9_goAllWays_34 : decode cX9_goAllWays 34 = .ok (.iload_n 2, 1) := by decide +kernel
theorem dX9_goAllWays_35 : decode cX9_goAllWays 35 = .ok (.aload_n 0, 1) := by decide +kernel
theorem dX9_goAllWays_36 : decode cX9_goAllWays 36 = .ok (.getfield 18, 3) := by decide +kernel
theorem dX9_goAllWays_39 : decode cX9_goAllWays 39 = .ok (.getfield 39, 3) := by decide +kernel
theorem dX9_goAllWays_42 : decode cX9_goAllWays 42 = .ok (.if_icmp .ge 15, 3) := by decide +kernel
theorem dX9_goAllWays_45 : decode cX9_goAllWays 45 = .ok (.aload_n 0, 1) := by decide +kernel
theorem dX9_goAllWays_46 : decode cX9_goAllWays 46 = .ok (.iload_n 1, 1) := by decide +kernel
theorem dX9_goAllWays_47 : decode cX9_goAllWays 47 = .ok (.iload_n 2, 1) := by decide +kernel
theorem dX9_goAllWays_48 : decode cX9_goAllWays 48 = .ok (.invokevirtual 45, 3) := by decide +kernel
theorem dX9_goAllWays_51 : decode cX9_goAllWays 51 = .ok (.iinc 2 1, 3) := by decide +kernel
theorem dX9_goAllWays_54 : decode cX9_goAllWays 54 = .ok (.goto (-20), 3) := by decide +kernel
theorem dX9_goAllWays_57 : decode cX9_goAllWays 57 = .ok (.iinc 1 1, 3) := by decide +kernel
theorem dX9_goAllWays_60 : decode cX9_goAllWays 60 = .ok (.goto (-34), 3) := by decide +kernel
theorem dX9_goAllWays_63 : decode cX9_goAllWays 63 = .ok (.return_, 1) := by decide +kernel
theorem dX9_goOn_0 : decode cX9_goOn 0 = .ok (.aload_n 0, 1) := by decide +kernel
theorem dX9_goOn_1 : decode cX9_goOn 1 = .ok (.getfield 18, 3) := by decide +kernel
theorem dX9_goOn_4 : decode cX9_goOn 4 = .ok (.getfield 49, 3) := by decide +kernel
theorem dX9_goOn_7 : decode cX9_goOn 7 = .ok (.iload_n 2, 1) := by decide +kernel
theorem dX9_goOn_8 : decode cX9_goOn 8 = .ok (.iaload, 1) := by decide +kernel
theorem dX9_goOn_9 : decode cX9_goOn 9 = .ok (.istore_n 3, 1) := by decide +kernel
theorem dX9_goOn_10 : decode cX9_goOn 10 = .ok (.iload_n 1, 1) := by decide +kernel
theorem dX9_goOn_11 : decode cX9_goOn 11 = .ok (.bipush 6, 2) := by decide +kernel
theorem dX9_goOn_13 : decode cX9_goOn 13 = .ok (.imul, 1) := by decide +kernel
theorem dX9_goOn_14 : decode cX9_goOn 14 = .ok (.aload_n 0, 1) := by decide +kernel
theorem dX9_goOn_15 : decode cX9_goOn 15 = .ok (.getfield 18, 3) := by decide +kernel
theorem dX9_goOn_18 : decode cX9_goOn 18 = .ok (.getfield 53, 3) := by decide +kernel
theorem dX9_goOn_21 : decode cX9_goOn 21 = .ok (.iload_n 2, 1) := by decide +kernel
theorem dX9_goOn_22 : decode cX9_goOn 22 = .ok (.iaload, 1) := by decide +kernel
theorem dX9_goOn_23 : decode cX9_goOn 23 = .ok (.iadd, 1) := by decide +kernel
theorem dX9_goOn_24 : decode cX9_goOn 24 = .ok (.istore 4, 2) := by decide +kernel
theorem dX9_goOn_26 : decode cX9_goOn 26 = .ok (.iload_n 1, 1) := by decide +kernel
theorem dX9_goOn_27 : decode cX9_goOn 27 = .ok (.iconst 1, 1) := by decide +kernel
theorem dX9_goOn_28 : decode cX9_goOn 28 = .ok (.iload_n 3, 1) := by decide +kernel
theorem dX9_goOn_29 : decode cX9_goOn 29 = .ok (.ishl, 1) := by decide +kernel
theorem dX9_goOn_30 : decode cX9_goOn 30 = .ok (.ior, 1) := by decide +kernel
theorem dX9_goOn_31 : decode cX9_goOn 31 = .ok (.bipush 6, 2) := by decide +kernel
theorem dX9_goOn_33 : decode cX9_goOn 33 = .ok (.imul, 1) := by decide +kernel
theorem dX9_goOn_34 : decode cX9_goOn 34 = .ok (.iload_n 3, 1) := by decide +kernel
theorem dX9_goOn_35 : decode cX9_goOn 35 = .ok (.iadd, 1) := by decide +kernel
theorem dX9_goOn_36 : decode cX9_goOn 36 = .ok (.istore 5, 2) := by decide +kernel
theorem dX9_goOn_38 : decode cX9_goOn 38 = .ok (.iload_n 1, 1) := by decide +kernel
theorem dX9_goOn_39 : decode cX9_goOn 39 = .ok (.iload_n 3, 1) := by decide +kernel
theorem dX9_goOn_40 : decode cX9_goOn 40 = .ok (.iushr, 1) := by decide +kernel
theorem dX9_goOn_41 : decode cX9_goOn 41 = .ok (.iconst 1, 1) := by decide +kernel
theorem dX9_goOn_42 : decode cX9_goOn 42 = .ok (.iand, 1) := by decide +kernel
theorem dX9_goOn_43 : decode cX9_goOn 43 = .ok (.iconst 1, 1) := by decide +kernel
theorem dX9_goOn_44 : decode cX9_goOn 44 = .ok (.if_icmp .eq 15, 3) := by decide +kernel
theorem dX9_goOn_47 : decode cX9_goOn 47 = .ok (.aload_n 0, 1) := by decide +kernel
theorem dX9_goOn_48 : decode cX9_goOn 48 = .ok (.getfield 15, 3) := by decide +kernel
theorem dX9_goOn_51 : decode cX9_goOn 51 = .ok (.iload 4, 2) := by decide +kernel
theorem dX9_goOn_53 : decode cX9_goOn 53 = .ok (.laload, 1) := by decide +kernel
theorem dX9_goOn_54 : decode cX9_goOn 54 = .ok (.lconst 0, 1) := by decide +kernel
theorem dX9_goOn_55 : decode cX9_goOn 55 = .ok (.lcmp, 1) := by decide +kernel
theorem dX9_goOn_56 : decode cX9_goOn 56 = .ok (.ifCond .ne 4, 3) := by decide +kernel
theorem dX9_goOn_59 : decode cX9_goOn 59 = .ok (.return_, 1) := by decide +kernel
theorem dX9_goOn_60 : decode cX9_goOn 60 = .ok (.aload_n 0, 1) := by decide +kernel
theorem dX9_goOn_61 : decode cX9_goOn 61 = .ok (.getfield 11, 3) := by decide +kernel
theorem dX9_goOn_64 : decode cX9_goOn 64 = .ok (.iload 4, 2) := by decide +kernel
theorem dX9_goOn_66 : decode cX9_goOn 66 = .ok (.laload, 1) := by decide +kernel
theorem dX9_goOn_67 : decode cX9_goOn 67 = .ok (.aload_n 0, 1) := by decide +kernel
theorem dX9_goOn_68 : decode cX9_goOn 68 = .ok (.getfield 18, 3) := by decide +kernel
theorem dX9_goOn_71 : decode cX9_goOn 71 = .ok (.getfield 56, 3) := by decide +kernel
theorem dX9_goOn_74 : decode cX9_goOn 74 = .ok (.iload_n 2, 1) := by decide +kernel
theorem dX9_goOn_75 : decode cX9_goOn 75 = .ok (.iaload, 1) := by decide +kernel
theorem dX9_goOn_76 : decode cX9_goOn 76 = .ok (.i2l, 1) := by decide +kernel
theorem dX9_goOn_77 : decode cX9_goOn 77 = .ok (.lmul, 1) := by decide +kernel
theorem dX9_goOn_78 : decode cX9_goOn 78 = .ok (.lstore 6, 2) := by decide +kernel
theorem dX9_goOn_80 : decode cX9_goOn 80 = .ok (.aload_n 0, 1) := by decide +kernel
theorem dX9_goOn_81 : decode cX9_goOn 81 = .ok (.getfield 15, 3) := by decide +kernel
theorem dX9_goOn_84 : decode cX9_goOn 84 = .ok (.iload 4, 2) := by decide +kernel
theorem dX9_goOn_86 : decode cX9_goOn 86 = .ok (.laload, 1) := by decide +kernel
theorem dX9_goOn_87 : decode cX9_goOn 87 = .ok (.aload_n 0, 1) := by decide +kernel
theorem dX9_goOn_88 : decode cX9_goOn 88 = .ok (.getfield 18, 3) := by decide +kernel
theorem dX9_goOn_91 : decode cX9_goOn 91 = .ok (.getfield 59, 3) := by decide +kernel
theorem dX9_goOn_94 : decode cX9_goOn 94 = .ok (.iload_n 2, 1) := by decide +kernel
theorem dX9_goOn_95 : decode cX9_goOn 95 = .ok (.iaload, 1) := by decide +kernel
theorem dX9_goOn_96 : decode cX9_goOn 96 = .ok (.i2l, 1) := by decide +kernel
theorem dX9_goOn_97 : decode cX9_goOn 97 = .ok (.lmul, 1) := by decide +kernel
theorem dX9_goOn_98 : decode cX9_goOn 98 = .ok (.lstore 8, 2) := by decide +kernel
theorem dX9_goOn_100 : decode cX9_goOn 100 = .ok (.aload_n 0, 1) := by decide +kernel
theorem dX9_goOn_101 : decode cX9_goOn 101 = .ok (.getfield 15, 3) := by decide +kernel
theorem dX9_goOn_104 : decode cX9_goOn 104 = .ok (.iload 5, 2) := by decide +kernel
theorem dX9_goOn_106 : decode cX9_goOn 106 = .ok (.laload, 1) := by decide +kernel
theorem dX9_goOn_107 : decode cX9_goOn 107 = .ok (.lconst 0, 1) := by decide +kernel
theorem dX9_goOn_108 : decode cX9_goOn 108 = .ok (.lcmp, 1) := by decide +kernel
theorem dX9_goOn_109 : decode cX9_goOn 109 = .ok (.ifCond .eq 27, 3) := by decide +kernel
theorem dX9_goOn_112 : decode cX9_goOn 112 = .ok (.lload 6, 2) := by decide +kernel
theorem dX9_goOn_114 : decode cX9_goOn 114 = .ok (.aload_n 0, 1) := by decide +kernel
theorem dX9_goOn_115 : decode cX9_goOn 115 = .ok (.getfield 15, 3) := by decide +kernel
theorem dX9_goOn_118 : decode cX9_goOn 118 = .ok (.iload 5, 2) := by decide +kernel
theorem dX9_goOn_120 : decode cX9_goOn 120 = .ok (.laload, 1) := by decide +kernel
theorem dX9_goOn_121 : decode cX9_goOn 121 = .ok (.lmul, 1) := by decide +kernel
theorem dX9_goOn_122 : decode cX9_goOn 122 = .ok (.aload_n 0, 1) := by decide +kernel
theorem dX9_goOn_123 : decode cX9_goOn 123 = .ok (.getfield 11, 3) := by decide +kernel
theorem dX9_goOn_126 : decode cX9_goOn 126 = .ok (.iload 5, 2) := by decide +kernel
theorem dX9_goOn_128 : decode cX9_goOn 128 = .ok (.laload, 1) := by decide +kernel
theorem dX9_goOn_129 : decode cX9_goOn 129 = .ok (.lload 8, 2) := by decide +kernel
theorem dX9_goOn_131 : decode cX9_goOn 131 = .ok (.lmul, 1) := by decide +kernel
theorem dX9_goOn_132 : decode cX9_goOn 132 = .ok (.lcmp, 1) := by decide +kernel
theorem dX9_goOn_133 : decode cX9_goOn 133 = .ok (.ifCond .ge 21, 3) := by decide +kernel
theorem dX9_goOn_136 : decode cX9_goOn 136 = .ok (.aload_n 0, 1) := by decide +kernel
theorem dX9_goOn_137 : decode cX9_goOn 137 = .ok (.getfield 11, 3) := by decide +kernel
theorem dX9_goOn_140 : decode cX9_goOn 140 = .ok (.iload 5, 2) := by decide +kernel
theorem dX9_goOn_142 : decode cX9_goOn 142 = .ok (.lload 6, 2) := by decide +kernel
theorem dX9_goOn_144 : decode cX9_goOn 144 = .ok (.lastore, 1) := by decide +kernel
theorem dX9_goOn_145 : decode cX9_goOn 145 = .ok (.aload_n 0, 1) := by decide +kernel
theorem dX9_goOn_146 : decode cX9_goOn 146 = .ok (.getfield 15, 3) := by decide +kernel
theorem dX9_goOn_149 : decode cX9_goOn 149 = .ok (.iload 5, 2) := by decide +kernel
theorem dX9_goOn_151 : decode cX9_goOn 151 = .ok (.lload 8, 2) := by decide +kernel
theorem dX9_goOn_153 : decode cX9_goOn 153 = .ok (.lastore, 1) := by decide +kernel
theorem dX9_goOn_154 : decode cX9_goOn 154 = .ok (.return_, 1) := by decide +kernel
theorem dX9_bestFor_0 : decode cX9_bestFor 0 = .ok (.iload_n 1, 1) := by decide +kernel
theorem dX9_bestFor_1 : decode cX9_bestFor 1 = .ok (.istore_n 2, 1) := by decide +kernel
theorem dX9_bestFor_2 : decode cX9_bestFor 2 = .ok (.iload_n 1, 1) := by decide +kernel
theorem dX9_bestFor_3 : decode cX9_bestFor 3 = .ok (.istore_n 3, 1) := by decide +kernel
theorem dX9_bestFor_4 : decode cX9_bestFor 4 = .ok (.iload_n 3, 1) := by decide +kernel
theorem dX9_bestFor_5 : decode cX9_bestFor 5 = .ok (.aload_n 0, 1) := by decide +kernel
theorem dX9_bestFor_6 : decode cX9_bestFor 6 = .ok (.getfield 15, 3) := by decide +kernel
theorem dX9_bestFor_9 : decode cX9_bestFor 9 = .ok (.arraylength, 1) := by decide +kernel
theorem dX9_bestFor_10 : decode cX9_bestFor 10 = .ok (.if_icmp .ge 75, 3) := by decide +kernel
theorem dX9_bestFor_13 : decode cX9_bestFor 13 = .ok (.aload_n 0, 1) := by decide +kernel
theorem dX9_bestFor_14 : decode cX9_bestFor 14 = .ok (.getfield 11, 3) := by decide +kernel
theorem dX9_bestFor_17 : decode cX9_bestFor 17 = .ok (.iload_n 3, 1) := by decide +kernel
theorem dX9_bestFor_18 : decode cX9_bestFor 18 = .ok (.laload, 1) := by decide +kernel
theorem dX9_bestFor_19 : decode cX9_bestFor 19 = .ok (.aload_n 0, 1) := by decide +kernel
theorem dX9_bestFor_20 : decode cX9_bestFor 20 = .ok (.getfield 15, 3) := by decide +kernel
theorem dX9_bestFor_23 : decode cX9_bestFor 23 = .ok (.iload_n 2, 1) := by decide +kernel
theorem dX9_bestFor_24 : decode cX9_bestFor 24 = .ok (.laload, 1) := by decide +kernel
theorem dX9_bestFor_25 : decode cX9_bestFor 25 = .ok (.lmul, 1) := by decide +kernel
theorem dX9_bestFor_26 : decode cX9_bestFor 26 = .ok (.aload_n 0, 1) := by decide +kernel
theorem dX9_bestFor_27 : decode cX9_bestFor 27 = .ok (.getfield 11, 3) := by decide +kernel
theorem dX9_bestFor_30 : decode cX9_bestFor 30 = .ok (.iload_n 2, 1) := by decide +kernel
theorem dX9_bestFor_31 : decode cX9_bestFor 31 = .ok (.laload, 1) := by decide +kernel
theorem dX9_bestFor_32 : decode cX9_bestFor 32 = .ok (.aload_n 0, 1) := by decide +kernel
theorem dX9_bestFor_33 : decode cX9_bestFor 33 = .ok (.getfield 15, 3) := by decide +kernel
theorem dX9_bestFor_36 : decode cX9_bestFor 36 = .ok (.iload_n 3, 1) := by decide +kernel
theorem dX9_bestFor_37 : decode cX9_bestFor 37 = .ok (.laload, 1) := by decide +kernel
theorem dX9_bestFor_38 : decode cX9_bestFor 38 = .ok (.lmul, 1) := by decide +kernel
theorem dX9_bestFor_39 : decode cX9_bestFor 39 = .ok (.lcmp, 1) := by decide +kernel
theorem dX9_bestFor_40 : decode cX9_bestFor 40 = .ok (.ifCond .ge 7, 3) := by decide +kernel
theorem dX9_bestFor_43 : decode cX9_bestFor 43 = .ok (.iconst 1, 1) := by decide +kernel
theorem dX9_bestFor_44 : decode cX9_bestFor 44 = .ok (.goto 4, 3) := by decide +kernel
theorem dX9_bestFor_47 : decode cX9_bestFor 47 = .ok (.iconst 0, 1) := by decide +kernel
theorem dX9_bestFor_48 : decode cX9_bestFor 48 = .ok (.istore 4, 2) := by decide +kernel
theorem dX9_bestFor_50 : decode cX9_bestFor 50 = .ok (.aload_n 0, 1) := by decide +kernel
theorem dX9_bestFor_51 : decode cX9_bestFor 51 = .ok (.getfield 15, 3) := by decide +kernel
theorem dX9_bestFor_54 : decode cX9_bestFor 54 = .ok (.iload_n 3, 1) := by decide +kernel
theorem dX9_bestFor_55 : decode cX9_bestFor 55 = .ok (.laload, 1) := by decide +kernel
theorem dX9_bestFor_56 : decode cX9_bestFor 56 = .ok (.lconst 0, 1) := by decide +kernel
theorem dX9_bestFor_57 : decode cX9_bestFor 57 = .ok (.lcmp, 1) := by decide +kernel
theorem dX9_bestFor_58 : decode cX9_bestFor 58 = .ok (.ifCond .eq 21, 3) := by decide +kernel
theorem dX9_bestFor_61 : decode cX9_bestFor 61 = .ok (.aload_n 0, 1) := by decide +kernel
theorem dX9_bestFor_62 : decode cX9_bestFor 62 = .ok (.getfield 15, 3) := by decide +kernel
theorem dX9_bestFor_65 : decode cX9_bestFor 65 = .ok (.iload_n 2, 1) := by decide +kernel
theorem dX9_bestFor_66 : decode cX9_bestFor 66 = .ok (.laload, 1) := by decide +kernel
theorem dX9_bestFor_67 : decode cX9_bestFor 67 = .ok (.lconst 0, 1) := by decide +kernel
theorem dX9_bestFor_68 : decode cX9_bestFor 68 = .ok (.lcmp, 1) := by decide +kernel
theorem dX9_bestFor_69 : decode cX9_bestFor 69 = .ok (.ifCond .eq 8, 3) := by decide +kernel
theorem dX9_bestFor_72 : decode cX9_bestFor 72 = .ok (.iload 4, 2) := by decide +kernel
theorem dX9_bestFor_74 : decode cX9_bestFor 74 = .ok (.ifCond .eq 5, 3) := by decide +kernel
theorem dX9_bestFor_77 : decode cX9_bestFor 77 = .ok (.iload_n 3, 1) := by decide +kernel
theorem dX9_bestFor_78 : decode cX9_bestFor 78 = .ok (.istore_n 2, 1) := by decide +kernel
theorem dX9_bestFor_79 : decode cX9_bestFor 79 = .ok (.iinc 3 6, 3) := by decide +kernel
theorem dX9_bestFor_82 : decode cX9_bestFor 82 = .ok (.goto (-78), 3) := by decide +kernel
theorem dX9_bestFor_85 : decode cX9_bestFor 85 = .ok (.iload_n 2, 1) := by decide +kernel
theorem dX9_bestFor_86 : decode cX9_bestFor 86 = .ok (.ireturn, 1) := by decide +kernel
theorem dX9_commonDivisor_0 : decode cX9_commonDivisor 0 = .ok (.lload_n 0, 1) := by decide +kernel
theorem dX9_commonDivisor_1 : decode cX9_commonDivisor 1 = .ok (.lstore 4, 2) := by decide +kernel
theorem dX9_commonDivisor_3 : decode cX9_commonDivisor 3 = .ok (.lload_n 2, 1) := by decide +kernel
theorem dX9_commonDivisor_4 : decode cX9_commonDivisor 4 = .ok (.lstore 6, 2) := by decide +kernel
theorem dX9_commonDivisor_6 : decode cX9_commonDivisor 6 = .ok (.iconst 0, 1) := by decide +kernel
theorem dX9_commonDivisor_7 : decode cX9_commonDivisor 7 = .ok (.istore 8, 2) := by decide +kernel
theorem dX9_commonDivisor_9 : decode cX9_commonDivisor 9 = .ok (.iload 8, 2) := by decide +kernel
theorem dX9_commonDivisor_11 : decode cX9_commonDivisor 11 = .ok (.bipush 100, 2) := by decide +kernel
theorem dX9_commonDivisor_13 : decode cX9_commonDivisor 13 = .ok (.if_icmp .ge 31, 3) := by decide +kernel
theorem dX9_commonDivisor_16 : decode cX9_commonDivisor 16 = .ok (.lload 6, 2) := by decide +kernel
theorem dX9_commonDivisor_18 : decode cX9_commonDivisor 18 = .ok (.lconst 0, 1) := by decide +kernel
theorem dX9_commonDivisor_19 : decode cX9_commonDivisor 19 = .ok (.lcmp, 1) := by decide +kernel
theorem dX9_commonDivisor_20 : decode cX9_commonDivisor 20 = .ok (.ifCond .le 24, 3) := by decide +kernel
theorem dX9_commonDivisor_23 : decode cX9_commonDivisor 23 = .ok (.lload 4, 2) := by decide +kernel
theorem dX9_commonDivisor_25 : decode cX9_commonDivisor 25 = .ok (.lload 6, 2) := by decide +kernel
theorem dX9_commonDivisor_27 : decode cX9_commonDivisor 27 = .ok (.lrem, 1) := by decide +kernel
theorem dX9_commonDivisor_28 : decode cX9_commonDivisor 28 = .ok (.lstore 9, 2) := by decide +kernel
theorem dX9_commonDivisor_30 : decode cX9_commonDivisor 30 = .ok (.lload 6, 2) := by decide +kernel
theorem dX9_commonDivisor_32 : decode cX9_commonDivisor 32 = .ok (.lstore 4, 2) := by decide +kernel
theorem dX9_commonDivisor_34 : decode cX9_commonDivisor 34 = .ok (.lload 9, 2) := by decide +kernel
theorem dX9_commonDivisor_36 : decode cX9_commonDivisor 36 = .ok (.lstore 6, 2) := by decide +kernel
theorem dX9_commonDivisor_38 : decode cX9_commonDivisor 38 = .ok (.iinc 8 1, 3) := by decide +kernel
theorem dX9_commonDivisor_41 : decode cX9_commonDivisor 41 = .ok (.goto (-32), 3) := by decide +kernel
theorem dX9_commonDivisor_44 : decode cX9_commonDivisor 44 = .ok (.lload 4, 2) := by decide +kernel
theorem dX9_commonDivisor_46 : decode cX9_commonDivisor 46 = .ok (.lreturn, 1) := by decide +kernel
set_option maxRecDepth 20000 in
theorem ggX10_init_X2_init : GoodIn wsX10_init wsX2_init := goodIn_r _ [48, 49, 2, 3, 50, 51, 52, 53, 54, 55, 140, 141] (by decide +kernel) (by decide +kernel)
set_option maxRecDepth 20000 in
theorem gX10_init_X2_init : GoodIn wsX10_init (wsX2_init) := ggX10_init_X2_init
set_option maxRecDepth 20000 in
theorem ggX10_init_X7_init : GoodIn wsX10_init wsX7_init := goodIn_r _ [58, 59, 2, 3, 60, 142, 143, 144, 145, 146] (by decide +kernel) (by decide +kernel)
set_option maxRecDepth 20000 in
theorem gX10_init_X7_init : GoodIn wsX10_init (wsX7_init) := ggX10_init_X7_init
set_option maxRecDepth 20000 in
theorem ggX10_init_X8_init : GoodIn wsX10_init wsX8_init := goodIn_r _ [63, 64, 2, 3, 65, 66, 4, 67, 68, 69, 70, 71, 72, 73, 74, 75, 76, 77, 78, 147, 148, 149, 150, 151, 175, 176, 177, 178, 179, 180] (by decide +kernel) (by decide +kernel)
set_option maxRecDepth 20000 in
theorem gX10_init_X8_init : GoodIn wsX10_init (wsX8_init) := ggX10_init_X8_init
set_option maxRecDepth 20000 in
theorem ggX10_init_X4_init : GoodIn wsX10_init wsX4_init := goodIn_r _ [80, 81, 2, 3, 82, 83, 84, 85, 86, 87, 88, 152, 153, 154] (by decide +kernel) (by decide +kernel)
set_option maxRecDepth 20000 in
theorem gX10_init_X4_init_n43 : GoodIn wsX10_init (wsX4_init) := ggX10_init_X4_init
set_option maxRecDepth 20000 in
theorem ggX10_init_X5_init : GoodIn wsX10_init wsX5_init := goodIn_r _ [90, 91, 2, 3, 4, 92, 93, 94, 95, 155, 156, 157, 158, 159] (by decide +kernel) (by decide +kernel)
set_option maxRecDepth 20000 in
theorem gX10_init_X5_init_n50 : GoodIn wsX10_init (wsX5_init) := ggX10_init_X5_init
set_option maxRecDepth 20000 in
theorem ggX10_init_X3_init : GoodIn wsX10_init wsX3_init := goodIn_r _ [98, 99, 2, 3, 4, 100, 101, 102, 160, 161, 162, 163, 164, 165, 166] (by decide +kernel) (by decide +kernel)
set_option maxRecDepth 20000 in
theorem gX10_init_X3_init : GoodIn wsX10_init (wsX3_init) := ggX10_init_X3_init
set_option maxRecDepth 20000 in
theorem ggX10_init_X1_init : GoodIn wsX10_init wsX1_init := goodIn_r _ [105, 106, 2, 3, 4, 107, 108, 109, 167, 168, 169] (by decide +kernel) (by decide +kernel)
set_option maxRecDepth 20000 in
theorem gX10_init_X1_init : GoodIn wsX10_init (wsX1_init) := ggX10_init_X1_init
set_option maxRecDepth 20000 in
theorem ggX10_init_X9_init : GoodIn wsX10_init wsX9_init := goodIn_r _ [112, 113, 2, 3, 114, 115, 116, 117, 170, 171, 172] (by decide +kernel) (by decide +kernel)
set_option maxRecDepth 20000 in
theorem gX10_init_X9_init : GoodIn wsX10_init (wsX9_init) := ggX10_init_X9_init
set_option maxRecDepth 20000 in
theorem ggX10_init_X6_init : GoodIn wsX10_init wsX6_init := goodIn_r _ [120, 121, 2, 3, 122, 123, 124, 173, 174] (by decide +kernel) (by decide +kernel)
set_option maxRecDepth 20000 in
theorem gX10_init_X6_init : GoodIn wsX10_init (wsX6_init) := ggX10_init_X6_init
theorem dX10_init_0 : decode cX10_init 0 = .ok (.aload_n 0, 1) := by decide +kernel
theorem dX10_init_1 : decode cX10_init 1 = .ok (.invokespecial 1, 3) := by decide +kernel
theorem dX10_init_4 : decode cX10_init 4 = .ok (.aload_n 0, 1) := by decide +kernel
theorem dX10_init_5 : decode cX10_init 5 = .ok (.bipush 7, 2) := by decide +kernel
theorem dX10_init_7 : decode cX10_init 7 = .ok (.newarray .int, 2) := by decide +kernel
theorem dX10_init_9 : decode cX10_init 9 = .ok (.putfield 9, 3) := by decide +kernel
theorem dX10_init_12 : decode cX10_init 12 = .ok (.aload_n 0, 1) := by decide +kernel
theorem dX10_init_13 : decode cX10_init 13 = .ok (.new 13, 3) := by decide +kernel
theorem dX10_init_16 : decode cX10_init 16 = .ok (.dup, 1) := by decide +kernel
theorem dX10_init_17 : decode cX10_init 17 = .ok (.bipush 16, 2) := by decide +kernel
theorem dX10_init_19 : decode cX10_init 19 = .ok (.invokespecial 15, 3) := by decide +kernel
theorem dX10_init_22 : decode cX10_init 22 = .ok (.putfield 18, 3) := by decide +kernel
theorem dX10_init_25 : decode cX10_init 25 = .ok (.aload_n 0, 1) := by decide +kernel
theorem dX10_init_26 : decode cX10_init 26 = .ok (.new 13, 3) := by decide +kernel
theorem dX10_init_29 : decode cX10_init 29 = .ok (.dup, 1) := by decide +kernel
theorem dX10_init_30 : decode cX10_init 30 = .ok (.bipush 100, 2) := by decide +kernel
theorem dX10_init_32 : decode cX10_init 32 = .ok (.invokespecial 15, 3) := by decide +kernel
theorem dX10_init_35 : decode cX10_init 35 = .ok (.putfield 22, 3) := by decide +kernel
theorem dX10_init_38 : decode cX10_init 38 = .ok (.aload_n 0, 1) := by decide +kernel
theorem dX10_init_39 : decode cX10_init 39 = .ok (.new 25, 3) := by decide +kernel
theorem dX10_init_42 : decode cX10_init 42 = .ok (.dup, 1) := by decide +kernel
theorem dX10_init_43 : decode cX10_init 43 = .ok (.aload_n 0, 1) := by decide +kernel
theorem dX10_init_44 : decode cX10_init 44 = .ok (.getfield 18, 3) := by decide +kernel
theorem dX10_init_47 : decode cX10_init 47 = .ok (.invokespecial 27, 3) := by decide +kernel
theorem dX10_init_50 : decode cX10_init 50 = .ok (.putfield 30, 3) := by decide +kernel
theorem dX10_init_53 : decode cX10_init 53 = .ok (.aload_n 0, 1) := by decide +kernel
theorem dX10_init_54 : decode cX10_init 54 = .ok (.new 34, 3) := by decide +kernel
theorem dX10_init_57 : decode cX10_init 57 = .ok (.dup, 1) := by decide +kernel
theorem dX10_init_58 : decode cX10_init 58 = .ok (.invokespecial 36, 3) := by decide +kernel
theorem dX10_init_61 : decode cX10_init 61 = .ok (.putfield 37, 3) := by decide +kernel
theorem dX10_init_64 : decode cX10_init 64 = .ok (.aload_n 0, 1) := by decide +kernel
theorem dX10_init_65 : decode cX10_init 65 = .ok (.new 41, 3) := by decide +kernel
theorem dX10_init_68 : decode cX10_init 68 = .ok (.dup, 1) := by decide +kernel
theorem dX10_init_69 : decode cX10_init 69 = .ok (.invokespecial 43, 3) := by decide +kernel
theorem dX10_init_72 : decode cX10_init 72 = .ok (.putfield 44, 3) := by decide +kernel
theorem dX10_init_75 : decode cX10_init 75 = .ok (.aload_n 0, 1) := by decide +kernel
theorem dX10_init_76 : decode cX10_init 76 = .ok (.new 48, 3) := by decide +kernel
theorem dX10_init_79 : decode cX10_init 79 = .ok (.dup, 1) := by decide +kernel
theorem dX10_init_80 : decode cX10_init 80 = .ok (.invokespecial 50, 3) := by decide +kernel
theorem dX10_init_83 : decode cX10_init 83 = .ok (.putfield 51, 3) := by decide +kernel
theorem dX10_init_86 : decode cX10_init 86 = .ok (.aload_n 0, 1) := by decide +kernel
theorem dX10_init_87 : decode cX10_init 87 = .ok (.new 55, 3) := by decide +kernel
theorem dX10_init_90 : decode cX10_init 90 = .ok (.dup, 1) := by decide +kernel
theorem dX10_init_91 : decode cX10_init 91 = .ok (.aload_n 0, 1) := by decide +kernel
theorem dX10_init_92 : decode cX10_init 92 = .ok (.getfield 44, 3) := by decide +kernel
theorem dX10_init_95 : decode cX10_init 95 = .ok (.invokespecial 57, 3) := by decide +kernel
theorem dX10_init_98 : decode cX10_init 98 = .ok (.putfield 60, 3) := by decide +kernel
theorem dX10_init_101 : decode cX10_init 101 = .ok (.aload_n 0, 1) := by decide +kernel
theorem dX10_init_102 : decode cX10_init 102 = .ok (.new 64, 3) := by decide +kernel
theorem dX10_init_105 : decode cX10_init 105 = .ok (.dup, 1) := by decide +kernel
theorem dX10_init_106 : decode cX10_init 106 = .ok (.aload_n 0, 1) := by decide +kernel
theorem dX10_init_107 : decode cX10_init 107 = .ok (.getfield 44, 3) := by decide +kernel
theorem dX10_init_110 : decode cX10_init 110 = .ok (.invokespecial 66, 3) := by decide +kernel
theorem dX10_init_113 : decode cX10_init 113 = .ok (.putfield 67, 3) := by decide +kernel
theorem dX10_init_116 : decode cX10_init 116 = .ok (.aload_n 0, 1) := by decide +kernel
theorem dX10_init_117 : decode cX10_init 117 = .ok (.new 71, 3) := by decide +kernel
theorem dX10_init_120 : decode cX10_init 120 = .ok (.dup, 1) := by decide +kernel
theorem dX10_init_121 : decode cX10_init 121 = .ok (.aload_n 0, 1) := by decide +kernel
theorem dX10_init_122 : decode cX10_init 122 = .ok (.getfield 51, 3) := by decide +kernel
theorem dX10_init_125 : decode cX10_init 125 = .ok (.invokespecial 73, 3) := by decide +kernel
theorem dX10_init_128 : decode cX10_init 128 = .ok (.putfield 76, 3) := by decide +kernel
theorem dX10_init_131 : decode cX10_init 131 = .ok (.aload_n 0, 1) := by decide +kernel
theorem dX10_init_132 : decode cX10_init 132 = .ok (.new 80, 3) := by decide +kernel
theorem dX10_init_135 : decode cX10_init 135 = .ok (.dup, 1) := by decide +kernel
theorem dX10_init_136 : decode cX10_init 136 = .ok (.aload_n 0, 1) := by decide +kernel
theorem dX10_init_137 : decode cX10_init 137 = .ok (.getfield 51, 3) := by decide +kernel
theorem dX10_init_140 : decode cX10_init 140 = .ok (.invokespecial 82, 3) := by decide +kernel
theorem dX10_init_143 : decode cX10_init 143 = .ok (.putfield 83, 3) := by decide +kernel
theorem dX10_init_146 : decode cX10_init 146 = .ok (.aload_n 0, 1) := by decide +kernel
theorem dX10_init_147 : decode cX10_init 147 = .ok (.new 34, 3) := by decide +kernel
theorem dX10_init_150 : decode cX10_init 150 = .ok (.dup, 1) := by decide +kernel
theorem dX10_init_151 : decode cX10_init 151 = .ok (.invokespecial 36, 3) := by decide +kernel
theorem dX10_init_154 : decode cX10_init 154 = .ok (.putfield 87, 3) := by decide +kernel
theorem dX10_init_157 : decode cX10_init 157 = .ok (.aload_n 0, 1) := by decide +kernel
theorem dX10_init_158 : decode cX10_init 158 = .ok (.new 41, 3) := by decide +kernel
theorem dX10_init_161 : decode cX10_init 161 = .ok (.dup, 1) := by decide +kernel
theorem dX10_init_162 : decode cX10_init 162 = .ok (.invokespecial 43, 3) := by decide +kernel
theorem dX10_init_165 : decode cX10_init 165 = .ok (.putfield 90, 3) := by decide +kernel
theorem dX10_init_168 : decode cX10_init 168 = .ok (.aload_n 0, 1) := by decide +kernel
theorem dX10_init_169 : decode cX10_init 169 = .ok (.new 48, 3) := by decide +kernel
theorem dX10_init_172 : decode cX10_init 172 = .ok (.dup, 1) := by decide +kernel
theorem dX10_init_173 : decode cX10_init 173 = .ok (.invokespecial 50, 3) := by decide +kernel
theorem dX10_init_176 : decode cX10_init 176 = .ok (.putfield 93, 3) := by decide +kernel
theorem dX10_init_179 : decode cX10_init 179 = .ok (.return_, 1) := by decide +kernel
set_option maxRecDepth 20000 in
theorem ggX10_feed_X10_refuse : GoodIn wsX10_feed wsX10_refuse := goodIn_r _ [6, 7, 23, 24, 25, 26, 27, 28, 29, 30, 31, 32, 33, 34, 35, 36, 37] (by decide +kernel) (by decide +kernel)
set_option maxRecDepth 20000 in
theorem gX10_feed_X10_refuse : GoodIn wsX10_feed (wsV RX10 96 RX10 yX10_refuse wsX10_refuse) := goodIn_app (goodIn_of _ (by decide +kernel)) ggX10_feed_X10_refuse
set_option maxRecDepth 20000 in
theorem ggX10_feed_X2_room : GoodIn wsX10_feed wsX2_room := goodIn_r _ [12, 13, 14, 38, 39] (by decide +kernel) (by decide +kernel)
set_option maxRecDepth 20000 in
theorem gX10_feed_X2_room : GoodIn wsX10_feed (wsV RX10 100 RX2 yX2_room wsX2_room) := goodIn_app (goodIn_of _ (by decide +kernel)) ggX10_feed_X2_room
set_option maxRecDepth 20000 in
theorem ggX10_feed_X2_add : GoodIn wsX10_feed wsX2_add := goodIn_r _ [18, 14, 13, 38, 39] (by decide +kernel) (by decide +kernel)
set_option maxRecDepth 20000 in
theorem gX10_feed_X2_add : GoodIn wsX10_feed (wsV RX10 104 RX2 yX2_add wsX2_add) := goodIn_app (goodIn_of _ (by decide +kernel)) ggX10_feed_X2_add
set_option maxRecDepth 20000 in
theorem ggX10_feed_X2_size : GoodIn wsX10_feed wsX2_size := goodIn_r _ [22, 14, 38, 39] (by decide +kernel) (by decide +kernel)
set_option maxRecDepth 20000 in
theorem gX10_feed_X2_size : GoodIn wsX10_feed (wsV RX10 108 RX2 yX2_size wsX2_size) := goodIn_app (goodIn_of _ (by decide +kernel)) ggX10_feed_X2_size
theorem dX10_feed_0 : decode cX10_feed 0 = .ok (.iload_n 1, 1) := by decide +kernel
theorem dX10_feed_1 : decode cX10_feed 1 = .ok (.iconst 1, 1) := by decide +kernel
