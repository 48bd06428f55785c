theorem dX10_feed_2 : decode cX10_feed 2 = .ok (.if_icmp .ge 10, 3) := by decide +kernel
theorem dX10_feed_5 : decode cX10_feed 5 = .ok (.aload_n 0, 1) := by decide +kernel
theorem dX10_feed_6 : decode cX10_feed 6 = .ok (.bipush (-4), 2) := by decide +kernel
theorem dX10_feed_8 : decode cX10_feed 8 = .ok (.invokevirtual 96, 3) := by decide +kernel
theorem dX10_feed_11 : decode cX10_feed 11 = .ok (.ireturn, 1) := by decide +kernel
theorem dX10_feed_12 : decode cX10_feed 12 = .ok (.iload_n 1, 1) := by decide +kernel
theorem dX10_feed_13 : decode cX10_feed 13 = .ok (.bipush 8, 2) := by decide +kernel
theorem dX10_feed_15 : decode cX10_feed 15 = .ok (.if_icmp .gt 14, 3) := by decide +kernel
theorem dX10_feed_18 : decode cX10_feed 18 = .ok (.aload_n 0, 1) := by decide +kernel
theorem dX10_feed_19 : decode cX10_feed 19 = .ok (.getfield 18, 3) := by decide +kernel
theorem dX10_feed_22 : decode cX10_feed 22 = .ok (.invokevirtual 100, 3) := by decide +kernel
theorem dX10_feed_25 : decode cX10_feed 25 = .ok (.iload_n 1, 1) := by decide +kernel
theorem dX10_feed_26 : decode cX10_feed 26 = .ok (.if_icmp .ge 10, 3) := by decide +kernel
theorem dX10_feed_29 : decode cX10_feed 29 = .ok (.aload_n 0, 1) := by decide +kernel
theorem dX10_feed_30 : decode cX10_feed 30 = .ok (.bipush (-6), 2) := by decide +kernel
theorem dX10_feed_32 : decode cX10_feed 32 = .ok (.invokevirtual 96, 3) := by decide +kernel
theorem dX10_feed_35 : decode cX10_feed 35 = .ok (.ireturn, 1) := by decide +kernel
theorem dX10_feed_36 : decode cX10_feed 36 = .ok (.iconst 0, 1) := by decide +kernel
theorem dX10_feed_37 : decode cX10_feed 37 = .ok (.istore 4, 2) := by decide +kernel
theorem dX10_feed_39 : decode cX10_feed 39 = .ok (.iload 4, 2) := by decide +kernel
theorem dX10_feed_41 : decode cX10_feed 41 = .ok (.iload_n 1, 1) := by decide +kernel
theorem dX10_feed_42 : decode cX10_feed 42 = .ok (.if_icmp .ge 25, 3) := by decide +kernel
theorem dX10_feed_45 : decode cX10_feed 45 = .ok (.aload_n 0, 1) := by decide +kernel
theorem dX10_feed_46 : decode cX10_feed 46 = .ok (.getfield 18, 3) := by decide +kernel
theorem dX10_feed_49 : decode cX10_feed 49 = .ok (.lload_n 2, 1) := by decide +kernel
theorem dX10_feed_50 : decode cX10_feed 50 = .ok (.bipush 8, 2) := by decide +kernel
theorem dX10_feed_52 : decode cX10_feed 52 = .ok (.iload 4, 2) := by decide +kernel
theorem dX10_feed_54 : decode cX10_feed 54 = .ok (.imul, 1) := by decide +kernel
theorem dX10_feed_55 : decode cX10_feed 55 = .ok (.lushr, 1) := by decide +kernel
theorem dX10_feed_56 : decode cX10_feed 56 = .ok (.l2i, 1) := by decide +kernel
theorem dX10_feed_57 : decode cX10_feed 57 = .ok (.i2b, 1) := by decide +kernel
theorem dX10_feed_58 : decode cX10_feed 58 = .ok (.invokevirtual 104, 3) := by decide +kernel
theorem dX10_feed_61 : decode cX10_feed 61 = .ok (.iinc 4 1, 3) := by decide +kernel
theorem dX10_feed_64 : decode cX10_feed 64 = .ok (.goto (-25), 3) := by decide +kernel
theorem dX10_feed_67 : decode cX10_feed 67 = .ok (.aload_n 0, 1) := by decide +kernel
theorem dX10_feed_68 : decode cX10_feed 68 = .ok (.getfield 18, 3) := by decide +kernel
theorem dX10_feed_71 : decode cX10_feed 71 = .ok (.invokevirtual 108, 3) := by decide +kernel
theorem dX10_feed_74 : decode cX10_feed 74 = .ok (.ireturn, 1) := by decide +kernel
set_option maxRecDepth 20000 in
theorem ggX10_rule_X10_isBook : GoodIn wsX10_rule wsX10_isBook := goodIn_r _ [7] (by decide +kernel) (by decide +kernel)
set_option maxRecDepth 20000 in
theorem gX10_rule_X10_isBook : GoodIn wsX10_rule (va_wsS RX10 111 yX10_isBook wsX10_isBook) := goodIn_app (goodIn_of _ (by decide +kernel)) ggX10_rule_X10_isBook
set_option maxRecDepth 20000 in
theorem ggX10_rule_X10_refuse : GoodIn wsX10_rule wsX10_refuse := goodIn_r _ [11, 12, 62, 63, 64, 65, 66, 67, 68, 69, 70, 71, 72, 73, 74, 75, 76] (by decide +kernel) (by decide +kernel)
set_option maxRecDepth 20000 in
theorem gX10_rule_X10_refuse : GoodIn wsX10_rule (wsV RX10 96 RX10 yX10_refuse wsX10_refuse) := goodIn_app (goodIn_of _ (by decide +kernel)) ggX10_rule_X10_refuse
set_option maxRecDepth 20000 in
theorem ggX10_rule_X7_read : GoodIn wsX10_rule wsX7_read := goodIn_r _ [17, 18, 19, 20, 21, 22, 16, 23, 24, 25, 26, 27, 28, 29, 30, 31, 32, 33, 34, 35, 36, 37, 38, 39, 40, 41, 42, 43, 44, 45, 46, 47, 48, 88, 89, 90, 91, 92, 93, 94] (by decide +kernel) (by decide +kernel)
set_option maxRecDepth 20000 in
theorem gX10_rule_X7_read : GoodIn wsX10_rule (wsV RX10 124 RX7 yX7_read wsX7_read) := goodIn_app (goodIn_of _ (by decide +kernel)) ggX10_rule_X7_read
set_option maxRecDepth 20000 in
theorem ggX10_rule_X2_clear : GoodIn wsX10_rule wsX2_clear := goodIn_r _ [52, 30, 93, 94] (by decide +kernel) (by decide +kernel)
set_option maxRecDepth 20000 in
theorem gX10_rule_X2_clear : GoodIn wsX10_rule (wsV RX10 128 RX2 yX2_clear wsX2_clear) := goodIn_app (goodIn_of _ (by decide +kernel)) ggX10_rule_X2_clear
set_option maxRecDepth 20000 in
theorem ggX10_rule_X0_add : GoodIn wsX10_rule wsX0_add := goodIn_r _ [57, 58, 59, 60, 61, 82, 83, 84, 85, 86, 87] (by decide +kernel) (by decide +kernel)
set_option maxRecDepth 20000 in
theorem gX10_rule_X0_add : GoodIn wsX10_rule (wsV RX10 140 RX0 yX0_add wsX0_add) := goodIn_app (goodIn_of _ (by decide +kernel)) ggX10_rule_X0_add
theorem dX10_rule_0 : decode cX10_rule 0 = .ok (.iload_n 1, 1) := by decide +kernel
theorem dX10_rule_1 : decode cX10_rule 1 = .ok (.invokestatic 111, 3) := by decide +kernel
theorem dX10_rule_4 : decode cX10_rule 4 = .ok (.ifCond .ne 9, 3) := by decide +kernel
theorem dX10_rule_7 : decode cX10_rule 7 = .ok (.aload_n 0, 1) := by decide +kernel
theorem dX10_rule_8 : decode cX10_rule 8 = .ok (.iconst (-1), 1) := by decide +kernel
theorem dX10_rule_9 : decode cX10_rule 9 = .ok (.invokevirtual 96, 3) := by decide +kernel
theorem dX10_rule_12 : decode cX10_rule 12 = .ok (.ireturn, 1) := by decide +kernel
theorem dX10_rule_13 : decode cX10_rule 13 = .ok (.aload_n 0, 1) := by decide +kernel
theorem dX10_rule_14 : decode cX10_rule 14 = .ok (.getfield 37, 3) := by decide +kernel
theorem dX10_rule_17 : decode cX10_rule 17 = .ok (.getfield 115, 3) := by decide +kernel
theorem dX10_rule_20 : decode cX10_rule 20 = .ok (.iload_n 1, 1) := by decide +kernel
theorem dX10_rule_21 : decode cX10_rule 21 = .ok (.aaload, 1) := by decide +kernel
theorem dX10_rule_22 : decode cX10_rule 22 = .ok (.astore_n 2, 1) := by decide +kernel
theorem dX10_rule_23 : decode cX10_rule 23 = .ok (.aload_n 2, 1) := by decide +kernel
theorem dX10_rule_24 : decode cX10_rule 24 = .ok (.getfield 119, 3) := by decide +kernel
theorem dX10_rule_27 : decode cX10_rule 27 = .ok (.bipush 10, 2) := by decide +kernel
theorem dX10_rule_29 : decode cX10_rule 29 = .ok (.if_icmp .lt 10, 3) := by decide +kernel
theorem dX10_rule_32 : decode cX10_rule 32 = .ok (.aload_n 0, 1) := by decide +kernel
theorem dX10_rule_33 : decode cX10_rule 33 = .ok (.bipush (-6), 2) := by decide +kernel
theorem dX10_rule_35 : decode cX10_rule 35 = .ok (.invokevirtual 96, 3) := by decide +kernel
theorem dX10_rule_38 : decode cX10_rule 38 = .ok (.ireturn, 1) := by decide +kernel
theorem dX10_rule_39 : decode cX10_rule 39 = .ok (.aload_n 0, 1) := by decide +kernel
theorem dX10_rule_40 : decode cX10_rule 40 = .ok (.getfield 30, 3) := by decide +kernel
theorem dX10_rule_43 : decode cX10_rule 43 = .ok (.invokevirtual 124, 3) := by decide +kernel
theorem dX10_rule_46 : decode cX10_rule 46 = .ok (.istore_n 3, 1) := by decide +kernel
theorem dX10_rule_47 : decode cX10_rule 47 = .ok (.aload_n 0, 1) := by decide +kernel
theorem dX10_rule_48 : decode cX10_rule 48 = .ok (.getfield 18, 3) := by decide +kernel
theorem dX10_rule_51 : decode cX10_rule 51 = .ok (.invokevirtual 128, 3) := by decide +kernel
theorem dX10_rule_54 : decode cX10_rule 54 = .ok (.iload_n 3, 1) := by decide +kernel
theorem dX10_rule_55 : decode cX10_rule 55 = .ok (.ifCond .eq 31, 3) := by decide +kernel
theorem dX10_rule_58 : decode cX10_rule 58 = .ok (.aload_n 2, 1) := by decide +kernel
theorem dX10_rule_59 : decode cX10_rule 59 = .ok (.aload_n 0, 1) := by decide +kernel
theorem dX10_rule_60 : decode cX10_rule 60 = .ok (.getfield 30, 3) := by decide +kernel
theorem dX10_rule_63 : decode cX10_rule 63 = .ok (.getfield 131, 3) := by decide +kernel
theorem dX10_rule_66 : decode cX10_rule 66 = .ok (.aload_n 0, 1) := by decide +kernel
theorem dX10_rule_67 : decode cX10_rule 67 = .ok (.getfield 30, 3) := by decide +kernel
theorem dX10_rule_70 : decode cX10_rule 70 = .ok (.getfield 134, 3) := by decide +kernel
theorem dX10_rule_73 : decode cX10_rule 73 = .ok (.aload_n 0, 1) := by decide +kernel
theorem dX10_rule_74 : decode cX10_rule 74 = .ok (.getfield 30, 3) := by decide +kernel
theorem dX10_rule_77 : decode cX10_rule 77 = .ok (.getfield 137, 3) := by decide +kernel
theorem dX10_rule_80 : decode cX10_rule 80 = .ok (.invokevirtual 140, 3) := by decide +kernel
theorem dX10_rule_83 : decode cX10_rule 83 = .ok (.goto 13, 3) := by decide +kernel
theorem dX10_rule_86 : decode cX10_rule 86 = .ok (.bipush (-20), 2) := by decide +kernel
theorem dX10_rule_88 : decode cX10_rule 88 = .ok (.aload_n 0, 1) := by decide +kernel
theorem dX10_rule_89 : decode cX10_rule 89 = .ok (.getfield 30, 3) := by decide +kernel
theorem dX10_rule_92 : decode cX10_rule 92 = .ok (.getfield 143, 3) := by decide +kernel
theorem dX10_rule_95 : decode cX10_rule 95 = .ok (.isub, 1) := by decide +kernel
theorem dX10_rule_96 : decode cX10_rule 96 = .ok (.ireturn, 1) := by decide +kernel
set_option maxRecDepth 20000 in
theorem ggX10_ruleOf_X10_isBook : GoodIn wsX10_ruleOf wsX10_isBook := goodIn_r _ [5] (by decide +kernel) (by decide +kernel)
set_option maxRecDepth 20000 in
theorem gX10_ruleOf_X10_isBook : GoodIn wsX10_ruleOf (va_wsS RX10 111 yX10_isBook wsX10_isBook) := goodIn_app (goodIn_of _ (by decide +kernel)) ggX10_ruleOf_X10_isBook
set_option maxRecDepth 20000 in
theorem ggX10_ruleOf_X10_refuse : GoodIn wsX10_ruleOf wsX10_refuse := goodIn_r _ [9, 10, 11, 12, 13, 14, 15, 16, 17, 18, 19, 20, 21, 22, 23, 24, 25] (by decide +kernel) (by decide +kernel)
set_option maxRecDepth 20000 in
theorem gX10_ruleOf_X10_refuse : GoodIn wsX10_ruleOf (wsV RX10 96 RX10 yX10_refuse wsX10_refuse) := goodIn_app (goodIn_of _ (by decide +kernel)) ggX10_ruleOf_X10_refuse
theorem dX10_ruleOf_0 : decode cX10_ruleOf 0 = .ok (.iload_n 1, 1) := by decide +kernel
theorem dX10_ruleOf_1 : decode cX10_ruleOf 1 = .ok (.invokestatic 111, 3) := by decide +kernel
theorem dX10_ruleOf_4 : decode cX10_ruleOf 4 = .ok (.ifCond .eq 23, 3) := by decide +kernel
theorem dX10_ruleOf_7 : decode cX10_ruleOf 7 = .ok (.iload_n 2, 1) := by decide +kernel
theorem dX10_ruleOf_8 : decode cX10_ruleOf 8 = .ok (.ifCond .lt 19, 3) := by decide +kernel
theorem dX10_ruleOf_11 : decode cX10_ruleOf 11 = .ok (.iload_n 2, 1) := by decide +kernel
theorem dX10_ruleOf_12 : decode cX10_ruleOf 12 = .ok (.aload_n 0, 1) := by decide +kernel
theorem dX10_ruleOf_13 : decode cX10_ruleOf 13 = .ok (.getfield 37, 3) := by decide +kernel
theorem dX10_ruleOf_16 : decode cX10_ruleOf 16 = .ok (.getfield 115, 3) := by decide +kernel
theorem dX10_ruleOf_19 : decode cX10_ruleOf 19 = .ok (.iload_n 1, 1) := by decide +kernel
theorem dX10_ruleOf_20 : decode cX10_ruleOf 20 = .ok (.aaload, 1) := by decide +kernel
theorem dX10_ruleOf_21 : decode cX10_ruleOf 21 = .ok (.getfield 119, 3) := by decide +kernel
theorem dX10_ruleOf_24 : decode cX10_ruleOf 24 = .ok (.if_icmp .lt 9, 3) := by decide +kernel
theorem dX10_ruleOf_27 : decode cX10_ruleOf 27 = .ok (.aload_n 0, 1) := by decide +kernel
theorem dX10_ruleOf_28 : decode cX10_ruleOf 28 = .ok (.iconst (-1), 1) := by decide +kernel
theorem dX10_ruleOf_29 : decode cX10_ruleOf 29 = .ok (.invokevirtual 96, 3) := by decide +kernel
theorem dX10_ruleOf_32 : decode cX10_ruleOf 32 = .ok (.ireturn, 1) := by decide +kernel
theorem dX10_ruleOf_33 : decode cX10_ruleOf 33 = .ok (.aload_n 0, 1) := by decide +kernel
theorem dX10_ruleOf_34 : decode cX10_ruleOf 34 = .ok (.getfield 37, 3) := by decide +kernel
theorem dX10_ruleOf_37 : decode cX10_ruleOf 37 = .ok (.getfield 115, 3) := by decide +kernel
theorem dX10_ruleOf_40 : decode cX10_ruleOf 40 = .ok (.iload_n 1, 1) := by decide +kernel
theorem dX10_ruleOf_41 : decode cX10_ruleOf 41 = .ok (.aaload, 1) := by decide +kernel
theorem dX10_ruleOf_42 : decode cX10_ruleOf 42 = .ok (.astore 4, 2) := by decide +kernel
theorem dX10_ruleOf_44 : decode cX10_ruleOf 44 = .ok (.iload_n 3, 1) := by decide +kernel
theorem dX10_ruleOf_45 : decode cX10_ruleOf 45 = .ok (.tableswitch 51 0 2 #[27, 35, 43], 27) := by decide +kernel
theorem dX10_ruleOf_72 : decode cX10_ruleOf 72 = .ok (.aload 4, 2) := by decide +kernel
theorem dX10_ruleOf_74 : decode cX10_ruleOf 74 = .ok (.getfield 146, 3) := by decide +kernel
theorem dX10_ruleOf_77 : decode cX10_ruleOf 77 = .ok (.iload_n 2, 1) := by decide +kernel
theorem dX10_ruleOf_78 : decode cX10_ruleOf 78 = .ok (.iaload, 1) := by decide +kernel
theorem dX10_ruleOf_79 : decode cX10_ruleOf 79 = .ok (.ireturn, 1) := by decide +kernel
theorem dX10_ruleOf_80 : decode cX10_ruleOf 80 = .ok (.aload 4, 2) := by decide +kernel
theorem dX10_ruleOf_82 : decode cX10_ruleOf 82 = .ok (.getfield 149, 3) := by decide +kernel
theorem dX10_ruleOf_85 : decode cX10_ruleOf 85 = .ok (.iload_n 2, 1) := by decide +kernel
theorem dX10_ruleOf_86 : decode cX10_ruleOf 86 = .ok (.iaload, 1) := by decide +kernel
theorem dX10_ruleOf_87 : decode cX10_ruleOf 87 = .ok (.ireturn, 1) := by decide +kernel
theorem dX10_ruleOf_88 : decode cX10_ruleOf 88 = .ok (.aload 4, 2) := by decide +kernel
theorem dX10_ruleOf_90 : decode cX10_ruleOf 90 = .ok (.getfield 151, 3) := by decide +kernel
theorem dX10_ruleOf_93 : decode cX10_ruleOf 93 = .ok (.iload_n 2, 1) := by decide +kernel
theorem dX10_ruleOf_94 : decode cX10_ruleOf 94 = .ok (.iaload, 1) := by decide +kernel
theorem dX10_ruleOf_95 : decode cX10_ruleOf 95 = .ok (.ireturn, 1) := by decide +kernel
theorem dX10_ruleOf_96 : decode cX10_ruleOf 96 = .ok (.aload_n 0, 1) := by decide +kernel
theorem dX10_ruleOf_97 : decode cX10_ruleOf 97 = .ok (.bipush (-2), 2) := by decide +kernel
theorem dX10_ruleOf_99 : decode cX10_ruleOf 99 = .ok (.invokevirtual 96, 3) := by decide +kernel
theorem dX10_ruleOf_102 : decode cX10_ruleOf 102 = .ok (.ireturn, 1) := by decide +kernel
set_option maxRecDepth 20000 in
theorem ggX10_lean_X10_isBook : GoodIn wsX10_lean wsX10_isBook := goodIn_r _ [5] (by decide +kernel) (by decide +kernel)
set_option maxRecDepth 20000 in
theorem gX10_lean_X10_isBook : GoodIn wsX10_lean (va_wsS RX10 111 yX10_isBook wsX10_isBook) := goodIn_app (goodIn_of _ (by decide +kernel)) ggX10_lean_X10_isBook
set_option maxRecDepth 20000 in
theorem ggX10_lean_X10_refuse : GoodIn wsX10_lean wsX10_refuse := goodIn_r _ [9, 10, 11, 12, 13, 14, 15, 16, 17, 18, 19, 20, 21, 22, 23, 24, 25] (by decide +kernel) (by decide +kernel)
set_option maxRecDepth 20000 in
theorem gX10_lean_X10_refuse : GoodIn wsX10_lean (wsV RX10 96 RX10 yX10_refuse wsX10_refuse) := goodIn_app (goodIn_of _ (by decide +kernel)) ggX10_lean_X10_refuse
theorem dX10_lean_0 : decode cX10_lean 0 = .ok (.iload_n 1, 1) := by decide +kernel
theorem dX10_lean_1 : decode cX10_lean 1 = .ok (.invokestatic 111, 3) := by decide +kernel
theorem dX10_lean_4 : decode cX10_lean 4 = .ok (.ifCond .eq 19, 3) := by decide +kernel
theorem dX10_lean_7 : decode cX10_lean 7 = .ok (.iload_n 2, 1) := by decide +kernel
theorem dX10_lean_8 : decode cX10_lean 8 = .ok (.iconst (-1), 1) := by decide +kernel
theorem dX10_lean_9 : decode cX10_lean 9 = .ok (.if_icmp .lt 14, 3) := by decide +kernel
theorem dX10_lean_12 : decode cX10_lean 12 = .ok (.iload_n 2, 1) := by decide +kernel
theorem dX10_lean_13 : decode cX10_lean 13 = .ok (.bipush 6, 2) := by decide +kernel
theorem dX10_lean_15 : decode cX10_lean 15 = .ok (.if_icmp .ge 8, 3) := by decide +kernel
theorem dX10_lean_18 : decode cX10_lean 18 = .ok (.iload_n 2, 1) := by decide +kernel
theorem dX10_lean_19 : decode cX10_lean 19 = .ok (.iload_n 1, 1) := by decide +kernel
theorem dX10_lean_20 : decode cX10_lean 20 = .ok (.if_icmp .ne 9, 3) := by decide +kernel
theorem dX10_lean_23 : decode cX10_lean 23 = .ok (.aload_n 0, 1) := by decide +kernel
theorem dX10_lean_24 : decode cX10_lean 24 = .ok (.iconst (-1), 1) := by decide +kernel
theorem dX10_lean_25 : decode cX10_lean 25 = .ok (.invokevirtual 96, 3) := by decide +kernel
theorem dX10_lean_28 : decode cX10_lean 28 = .ok (.ireturn, 1) := by decide +kernel
theorem dX10_lean_29 : decode cX10_lean 29 = .ok (.aload_n 0, 1) := by decide +kernel
theorem dX10_lean_30 : decode cX10_lean 30 = .ok (.getfield 37, 3) := by decide +kernel
theorem dX10_lean_33 : decode cX10_lean 33 = .ok (.getfield 115, 3) := by decide +kernel
theorem dX10_lean_36 : decode cX10_lean 36 = .ok (.iload_n 1, 1) := by decide +kernel
theorem dX10_lean_37 : decode cX10_lean 37 = .ok (.aaload, 1) := by decide +kernel
theorem dX10_lean_38 : decode cX10_lean 38 = .ok (.getfield 153, 3) := by decide +kernel
theorem dX10_lean_41 : decode cX10_lean 41 = .ok (.istore_n 3, 1) := by decide +kernel
theorem dX10_lean_42 : decode cX10_lean 42 = .ok (.aload_n 0, 1) := by decide +kernel
theorem dX10_lean_43 : decode cX10_lean 43 = .ok (.getfield 37, 3) := by decide +kernel
theorem dX10_lean_46 : decode cX10_lean 46 = .ok (.getfield 115, 3) := by decide +kernel
theorem dX10_lean_49 : decode cX10_lean 49 = .ok (.iload_n 1, 1) := by decide +kernel
theorem dX10_lean_50 : decode cX10_lean 50 = .ok (.aaload, 1) := by decide +kernel
theorem dX10_lean_51 : decode cX10_lean 51 = .ok (.iload_n 2, 1) := by decide +kernel
theorem dX10_lean_52 : decode cX10_lean 52 = .ok (.putfield 153, 3) := by decide +kernel
theorem dX10_lean_55 : decode cX10_lean 55 = .ok (.iload_n 3, 1) := by decide +kernel
theorem dX10_lean_56 : decode cX10_lean 56 = .ok (.ireturn, 1) := by decide +kernel
set_option maxRecDepth 20000 in
theorem ggX10_mode_X10_isBook : GoodIn wsX10_mode wsX10_isBook := goodIn_r _ [5] (by decide +kernel) (by decide +kernel)
set_option maxRecDepth 20000 in
theorem gX10_mode_X10_isBook : GoodIn wsX10_mode (va_wsS RX10 111 yX10_isBook wsX10_isBook) := goodIn_app (goodIn_of _ (by decide +kernel)) ggX10_mode_X10_isBook
set_option maxRecDepth 20000 in
theorem ggX10_mode_X10_refuse : GoodIn wsX10_mode wsX10_refuse := goodIn_r _ [9, 10, 11, 12, 13, 14, 15, 16, 17, 18, 19, 20, 21, 22, 23, 24, 25] (by decide +kernel) (by decide +kernel)
set_option maxRecDepth 20000 in
theorem gX10_mode_X10_refuse : GoodIn wsX10_mode (wsV RX10 96 RX10 yX10_refuse wsX10_refuse) := goodIn_app (goodIn_of _ (by decide +kernel)) ggX10_mode_X10_refuse
theorem dX10_mode_0 : decode cX10_mode 0 = .ok (.iload_n 1, 1) := by decide +kernel
theorem dX10_mode_1 : decode cX10_mode 1 = .ok (.invokestatic 111, 3) := by decide +kernel
theorem dX10_mode_4 : decode cX10_mode 4 = .ok (.ifCond .ne 9, 3) := by decide +kernel
theorem dX10_mode_7 : decode cX10_mode 7 = .ok (.aload_n 0, 1) := by decide +kernel
theorem dX10_mode_8 : decode cX10_mode 8 = .ok (.iconst (-1), 1) := by decide +kernel
theorem dX10_mode_9 : decode cX10_mode 9 = .ok (.invokevirtual 96, 3) := by decide +kernel
theorem dX10_mode_12 : decode cX10_mode 12 = .ok (.ireturn, 1) := by decide +kernel
theorem dX10_mode_13 : decode cX10_mode 13 = .ok (.iload_n 2, 1) := by decide +kernel
theorem dX10_mode_14 : decode cX10_mode 14 = .ok (.ifCond .lt 8, 3) := by decide +kernel
theorem dX10_mode_17 : decode cX10_mode 17 = .ok (.iload_n 2, 1) := by decide +kernel
theorem dX10_mode_18 : decode cX10_mode 18 = .ok (.iconst 2, 1) := by decide +kernel
theorem dX10_mode_19 : decode cX10_mode 19 = .ok (.if_icmp .le 10, 3) := by decide +kernel
theorem dX10_mode_22 : decode cX10_mode 22 = .ok (.aload_n 0, 1) := by decide +kernel
theorem dX10_mode_23 : decode cX10_mode 23 = .ok (.bipush (-2), 2) := by decide +kernel
theorem dX10_mode_25 : decode cX10_mode 25 = .ok (.invokevirtual 96, 3) := by decide +kernel
theorem dX10_mode_28 : decode cX10_mode 28 = .ok (.ireturn, 1) := by decide +kernel
theorem dX10_mode_29 : decode cX10_mode 29 = .ok (.aload_n 0, 1) := by decide +kernel
theorem dX10_mode_30 : decode cX10_mode 30 = .ok (.getfield 37, 3) := by decide +kernel
theorem dX10_mode_33 : decode cX10_mode 33 = .ok (.getfield 115, 3) := by decide +kernel
theorem dX10_mode_36 : decode cX10_mode 36 = .ok (.iload_n 1, 1) := by decide +kernel
theorem dX10_mode_37 : decode cX10_mode 37 = .ok (.aaload, 1) := by decide +kernel
theorem dX10_mode_38 : decode cX10_mode 38 = .ok (.getfield 156, 3) := by decide +kernel
theorem dX10_mode_41 : decode cX10_mode 41 = .ok (.istore_n 3, 1) := by decide +kernel
theorem dX10_mode_42 : decode cX10_mode 42 = .ok (.aload_n 0, 1) := by decide +kernel
theorem dX10_mode_43 : decode cX10_mode 43 = .ok (.getfield 37, 3) := by decide +kernel
theorem dX10_mode_46 : decode cX10_mode 46 = .ok (.getfield 115, 3) := by decide +kernel
theorem dX10_mode_49 : decode cX10_mode 49 = .ok (.iload_n 1, 1) := by decide +kernel
theorem dX10_mode_50 : decode cX10_mode 50 = .ok (.aaload, 1) := by decide +kernel
theorem dX10_mode_51 : decode cX10_mode 51 = .ok (.iload_n 2, 1) := by decide +kernel
theorem dX10_mode_52 : decode cX10_mode 52 = .ok (.putfield 156, 3) := by decide +kernel
theorem dX10_mode_55 : decode cX10_mode 55 = .ok (.iload_n 3, 1) := by decide +kernel
theorem dX10_mode_56 : decode cX10_mode 56 = .ok (.ireturn, 1) := by decide +kernel
set_option maxRecDepth 20000 in
theorem ggX10_owes_X10_isBook : GoodIn wsX10_owes wsX10_isBook := goodIn_r _ [5] (by decide +kernel) (by decide +kernel)
set_option maxRecDepth 20000 in
theorem gX10_owes_X10_isBook : GoodIn wsX10_owes (va_wsS RX10 111 yX10_isBook wsX10_isBook) := goodIn_app (goodIn_of _ (by decide +kernel)) ggX10_owes_X10_isBook
set_option maxRecDepth 20000 in
theorem ggX10_owes_X10_isDeed : GoodIn wsX10_owes wsX10_isDeed := goodIn_r _ [8] (by decide +kernel) (by decide +kernel)
set_option maxRecDepth 20000 in
theorem gX10_owes_X10_isDeed : GoodIn wsX10_owes (va_wsS RX10 159 yX10_isDeed wsX10_isDeed) := goodIn_app (goodIn_of _ (by decide +kernel)) ggX10_owes_X10_isDeed
set_option maxRecDepth 20000 in
theorem ggX10_owes_X10_refuse : GoodIn wsX10_owes wsX10_refuse := goodIn_r _ [12, 13, 32, 33, 34, 35, 36, 37, 38, 39, 40, 41, 42, 43, 44, 45, 46] (by decide +kernel) (by decide +kernel)
set_option maxRecDepth 20000 in
theorem gX10_owes_X10_refuse : GoodIn wsX10_owes (wsV RX10 96 RX10 yX10_refuse wsX10_refuse) := goodIn_app (goodIn_of _ (by decide +kernel)) ggX10_owes_X10_refuse
set_option maxRecDepth 20000 in
theorem ggX10_owes_X8_daysFor : GoodIn wsX10_owes wsX8_daysFor := goodIn_r _ [18, 19, 20, 21, 22, 17, 23, 3, 4, 5, 24, 25, 26, 27, 28, 29, 30, 31, 47, 48, 49, 50, 51, 52, 53, 54, 55, 56, 57] (by decide +kernel) (by decide +kernel)
set_option maxRecDepth 20000 in
theorem gX10_owes_X8_daysFor : GoodIn wsX10_owes (wsV RX10 163 RX8 yX8_daysFor wsX8_daysFor) := goodIn_app (goodIn_of _ (by decide +kernel)) ggX10_owes_X8_daysFor
theorem dX10_owes_0 : decode cX10_owes 0 = .ok (.iload_n 1, 1) := by decide +kernel
theorem dX10_owes_1 : decode cX10_owes 1 = .ok (.invokestatic 111, 3) := by decide +kernel
theorem dX10_owes_4 : decode cX10_owes 4 = .ok (.ifCond .eq 11, 3) := by decide +kernel
theorem dX10_owes_7 : decode cX10_owes 7 = .ok (.iload_n 2, 1) := by decide +kernel
theorem dX10_owes_8 : decode cX10_owes 8 = .ok (.iload_n 3, 1) := by decide +kernel
theorem dX10_owes_9 : decode cX10_owes 9 = .ok (.invokestatic 159, 3) := by decide +kernel
theorem dX10_owes_12 : decode cX10_owes 12 = .ok (.ifCond .ne 9, 3) := by decide +kernel
theorem dX10_owes_15 : decode cX10_owes 15 = .ok (.aload_n 0, 1) := by decide +kernel
theorem dX10_owes_16 : decode cX10_owes 16 = .ok (.iconst (-1), 1) := by decide +kernel
theorem dX10_owes_17 : decode cX10_owes 17 = .ok (.invokevirtual 96, 3) := by decide +kernel
theorem dX10_owes_20 : decode cX10_owes 20 = .ok (.ireturn, 1) := by decide +kernel
theorem dX10_owes_21 : decode cX10_owes 21 = .ok (.aload_n 0, 1) := by decide +kernel
theorem dX10_owes_22 : decode cX10_owes 22 = .ok (.getfield 37, 3) := by decide +kernel
theorem dX10_owes_25 : decode cX10_owes 25 = .ok (.iload_n 1, 1) := by decide +kernel
theorem dX10_owes_26 : decode cX10_owes 26 = .ok (.iload_n 2, 1) := by decide +kernel
theorem dX10_owes_27 : decode cX10_owes 27 = .ok (.iload_n 3, 1) := by decide +kernel
theorem dX10_owes_28 : decode cX10_owes 28 = .ok (.invokevirtual 163, 3) := by decide +kernel
theorem dX10_owes_31 : decode cX10_owes 31 = .ok (.ireturn, 1) := by decide +kernel
set_option maxRecDepth 20000 in
theorem ggX10_why_X10_isBook : GoodIn wsX10_why wsX10_isBook := goodIn_r _ [5] (by decide +kernel) (by decide +kernel)
set_option maxRecDepth 20000 in
theorem gX10_why_X10_isBook : GoodIn wsX10_why (va_wsS RX10 111 yX10_isBook wsX10_isBook) := goodIn_app (goodIn_of _ (by decide +kernel)) ggX10_why_X10_isBook
set_option maxRecDepth 20000 in
theorem ggX10_why_X10_isDeed : GoodIn wsX10_why wsX10_isDeed := goodIn_r _ [8] (by decide +kernel) (by decide +kernel)
set_option maxRecDepth 20000 in
theorem gX10_why_X10_isDeed : GoodIn wsX10_why (va_wsS RX10 159 yX10_isDeed wsX10_isDeed) := goodIn_app (goodIn_of _ (by decide +kernel)) ggX10_why_X10_isDeed
set_option maxRecDepth 20000 in
theorem ggX10_why_X10_refuse : GoodIn wsX10_why wsX10_refuse := goodIn_r _ [12, 13, 29, 30, 31, 32, 33, 34, 35, 36, 37, 38, 39, 40, 41, 42, 43] (by decide +kernel) (by decide +kernel)
set_option maxRecDepth 20000 in
theorem gX10_why_X10_refuse : GoodIn wsX10_why (wsV RX10 96 RX10 yX10_refuse wsX10_refuse) := goodIn_app (goodIn_of _ (by decide +kernel)) ggX10_why_X10_refuse
set_option maxRecDepth 20000 in
theorem ggX10_why_X8_teller : GoodIn wsX10_why wsX8_teller := goodIn_r _ [18, 19, 3, 4, 5, 20, 21, 22, 23, 24, 25, 26, 27, 44, 45, 46, 47, 48, 49, 50, 51, 52, 53, 54] (by decide +kernel) (by decide +kernel)
set_option maxRecDepth 20000 in
theorem gX10_why_X8_teller : GoodIn wsX10_why (wsV RX10 166 RX8 yX8_teller wsX8_teller) := goodIn_app (goodIn_of _ (by decide +kernel)) ggX10_why_X8_teller
set_option maxRecDepth 20000 in
theorem ggX10_why_X0_firstFor : GoodIn wsX10_why wsX0_firstFor := goodIn_r _ [24, 25, 26, 27, 49, 50, 51, 52, 53, 54] (by decide +kernel) (by decide +kernel)
set_option maxRecDepth 20000 in
theorem gX10_why_X0_firstFor : GoodIn wsX10_why (wsV RX10 169 RX0 yX0_firstFor wsX0_firstFor) := goodIn_app (goodIn_of _ (by decide +kernel)) ggX10_why_X0_firstFor
theorem dX10_why_0 : decode cX10_why 0 = .ok (.iload_n 1, 1) := by decide +kernel
theorem dX10_why_1 : decode cX10_why 1 = .ok (.invokestatic 111, 3) := by decide +kernel
theorem dX10_why_4 : decode cX10_why 4 = .ok (.ifCond .eq 11, 3) := by decide +kernel
theorem dX10_why_7 : decode cX10_why 7 = .ok (.iload_n 2, 1) := by decide +kernel
theorem dX10_why_8 : decode cX10_why 8 = .ok (.iload_n 3, 1) := by decide +kernel
theorem dX10_why_9 : decode cX10_why 9 = .ok (.invokestatic 159, 3) := by decide +kernel
theorem dX10_why_12 : decode cX10_why 12 = .ok (.ifCond .ne 9, 3) := by decide +kernel
theorem dX10_why_15 : decode cX10_why 15 = .ok (.aload_n 0, 1) := by decide +kernel
theorem dX10_why_16 : decode cX10_why 16 = .ok (.iconst (-1), 1) := by decide +kernel
theorem dX10_why_17 : decode cX10_why 17 = .ok (.invokevirtual 96, 3) := by decide +kernel
theorem dX10_why_20 : decode cX10_why 20 = .ok (.ireturn, 1) := by decide +kernel
theorem dX10_why_21 : decode cX10_why 21 = .ok (.aload_n 0, 1) := by decide +kernel
theorem dX10_why_22 : decode cX10_why 22 = .ok (.getfield 37, 3) := by decide +kernel
theorem dX10_why_25 : decode cX10_why 25 = .ok (.iload_n 1, 1) := by decide +kernel
theorem dX10_why_26 : decode cX10_why 26 = .ok (.iload_n 2, 1) := by decide +kernel
theorem dX10_why_27 : decode cX10_why 27 = .ok (.iload_n 3, 1) := by decide +kernel
theorem dX10_why_28 : decode cX10_why 28 = .ok (.invokevirtual 166, 3) := by decide +kernel
theorem dX10_why_31 : decode cX10_why 31 = .ok (.istore 4, 2) := by decide +kernel
theorem dX10_why_33 : decode cX10_why 33 = .ok (.iload 4, 2) := by decide +kernel
theorem dX10_why_35 : decode cX10_why 35 = .ok (.invokestatic 111, 3) := by decide +kernel
theorem dX10_why_38 : decode cX10_why 38 = .ok (.ifCond .eq 27, 3) := by decide +kernel
theorem dX10_why_41 : decode cX10_why 41 = .ok (.bipush 10, 2) := by decide +kernel
theorem dX10_why_43 : decode cX10_why 43 = .ok (.iload 4, 2) := by decide +kernel
theorem dX10_why_45 : decode cX10_why 45 = .ok (.imul, 1) := by decide +kernel
theorem dX10_why_46 : decode cX10_why 46 = .ok (.aload_n 0, 1) := by decide +kernel
theorem dX10_why_47 : decode cX10_why 47 = .ok (.getfield 37, 3) := by decide +kernel
theorem dX10_why_50 : decode cX10_why 50 = .ok (.getfield 115, 3) := by decide +kernel
theorem dX10_why_53 : decode cX10_why 53 = .ok (.iload 4, 2) := by decide +kernel
theorem dX10_why_55 : decode cX10_why 55 = .ok (.aaload, 1) := by decide +kernel
theorem dX10_why_56 : decode cX10_why 56 = .ok (.iload_n 2, 1) := by decide +kernel
theorem dX10_why_57 : decode cX10_why 57 = .ok (.iload_n 3, 1) := by decide +kernel
theorem dX10_why_58 : decode cX10_why 58 = .ok (.invokevirtual 169, 3) := by decide +kernel
theorem dX10_why_61 : decode cX10_why 61 = .ok (.iadd, 1) := by decide +kernel
theorem dX10_why_62 : decode cX10_why 62 = .ok (.goto 5, 3) := by decide +kernel
theorem dX10_why_65 : decode cX10_why 65 = .ok (.bipush (-9), 2) := by decide +kernel
theorem dX10_why_67 : decode cX10_why 67 = .ok (.ireturn, 1) := by decide +kernel
set_option maxRecDepth 20000 in
theorem ggX10_done_X10_isDeed : GoodIn wsX10_done wsX10_isDeed := goodIn_r _ [5] (by decide +kernel) (by decide +kernel)
set_option maxRecDepth 20000 in
theorem gX10_done_X10_isDeed : GoodIn wsX10_done (va_wsS RX10 159 yX10_isDeed wsX10_isDeed) := goodIn_app (goodIn_of _ (by decide +kernel)) ggX10_done_X10_isDeed
set_option maxRecDepth 20000 in
theorem ggX10_done_X10_refuse : GoodIn wsX10_done wsX10_refuse := goodIn_r _ [9, 10, 20, 21, 22, 23, 24, 25, 26, 27, 28, 29, 30, 31, 32, 33, 34] (by decide +kernel) (by decide +kernel)
set_option maxRecDepth 20000 in
theorem gX10_done_X10_refuse : GoodIn wsX10_done (wsV RX10 96 RX10 yX10_refuse wsX10_refuse) := goodIn_app (goodIn_of _ (by decide +kernel)) ggX10_done_X10_refuse
set_option maxRecDepth 20000 in
theorem ggX10_done_X8_addDone : GoodIn wsX10_done wsX8_addDone := goodIn_r _ [15, 16, 17, 18, 19, 35, 36, 37, 38, 39] (by decide +kernel) (by decide +kernel)
set_option maxRecDepth 20000 in
theorem gX10_done_X8_addDone : GoodIn wsX10_done (wsV RX10 176 RX8 yX8_addDone wsX8_addDone) := goodIn_app (goodIn_of _ (by decide +kernel)) ggX10_done_X8_addDone
theorem dX10_done_0 : decode cX10_done 0 = .ok (.iload_n 1, 1) := by decide +kernel
theorem dX10_done_1 : decode cX10_done 1 = .ok (.iload_n 2, 1) := by decide +kernel
theorem dX10_done_2 : decode cX10_done 2 = .ok (.invokestatic 159, 3) := by decide +kernel
theorem dX10_done_5 : decode cX10_done 5 = .ok (.ifCond .ne 9, 3) := by decide +kernel
theorem dX10_done_8 : decode cX10_done 8 = .ok (.aload_n 0, 1) := by decide +kernel
theorem dX10_done_9 : decode cX10_done 9 = .ok (.iconst (-1), 1) := by decide +kernel
theorem dX10_done_10 : decode cX10_done 10 = .ok (.invokevirtual 96, 3) := by decide +kernel
theorem dX10_done_13 : decode cX10_done 13 = .ok (.ireturn, 1) := by decide +kernel
theorem dX10_done_14 : decode cX10_done 14 = .ok (.aload_n 0, 1) := by decide +kernel
theorem dX10_done_15 : decode cX10_done 15 = .ok (.getfield 37, 3) := by decide +kernel
theorem dX10_done_18 : decode cX10_done 18 = .ok (.getfield 173, 3) := by decide +kernel
theorem dX10_done_21 : decode cX10_done 21 = .ok (.bipush 12, 2) := by decide +kernel
theorem dX10_done_23 : decode cX10_done 23 = .ok (.if_icmp .lt 10, 3) := by decide +kernel
theorem dX10_done_26 : decode cX10_done 26 = .ok (.aload_n 0, 1) := by decide +kernel
theorem dX10_done_27 : decode cX10_done 27 = .ok (.bipush (-6), 2) := by decide +kernel
theorem dX10_done_29 : decode cX10_done 29 = .ok (.invokevirtual 96, 3) := by decide +kernel
theorem dX10_done_32 : decode cX10_done 32 = .ok (.ireturn, 1) := by decide +kernel
theorem dX10_done_33 : decode cX10_done 33 = .ok (.aload_n 0, 1) := by decide +kernel
theorem dX10_done_34 : decode cX10_done 34 = .ok (.getfield 37, 3) := by decide +kernel
theorem dX10_done_37 : decode cX10_done 37 = .ok (.iload_n 1, 1) := by decide +kernel
theorem dX10_done_38 : decode cX10_done 38 = .ok (.iload_n 2, 1) := by decide +kernel
theorem dX10_done_39 : decode cX10_done 39 = .ok (.iload_n 3, 1) := by decide +kernel
theorem dX10_done_40 : decode cX10_done 40 = .ok (.invokevirtual 176, 3) := by decide +kernel
theorem dX10_done_43 : decode cX10_done 43 = .ok (.ireturn, 1) := by decide +kernel
theorem dX10_undone_0 : decode cX10_undone 0 = .ok (.aload_n 0, 1) := by decide +kernel
theorem dX10_undone_1 : decode cX10_undone 1 = .ok (.getfield 37, 3) := by decide +kernel
theorem dX10_undone_4 : decode cX10_undone 4 = .ok (.getfield 173, 3) := by decide +kernel
theorem dX10_undone_7 : decode cX10_undone 7 = .ok (.istore_n 1, 1) := by decide +kernel
theorem dX10_undone_8 : decode cX10_undone 8 = .ok (.aload_n 0, 1) := by decide +kernel
theorem dX10_undone_9 : decode cX10_undone 9 = .ok (.getfield 37, 3) := by decide +kernel
theorem dX10_undone_12 : decode cX10_undone 12 = .ok (.iconst 0, 1) := by decide +kernel
theorem dX10_undone_13 : decode cX10_undone 13 = .ok (.putfield 173, 3) := by decide +kernel
theorem dX10_undone_16 : decode cX10_undone 16 = .ok (.iload_n 1, 1) := by decide +kernel
theorem dX10_undone_17 : decode cX10_undone 17 = .ok (.ireturn, 1) := by decide +kernel
set_option maxRecDepth 20000 in
theorem ggX10_together_X10_isBook : GoodIn wsX10_together wsX10_isBook := goodIn_r _ [5] (by decide +kernel) (by decide +kernel)
set_option maxRecDepth 20000 in
theorem gX10_together_X10_isBook : GoodIn wsX10_together (va_wsS RX10 111 yX10_isBook wsX10_isBook) := goodIn_app (goodIn_of _ (by decide +kernel)) ggX10_together_X10_isBook
set_option maxRecDepth 20000 in
theorem ggX10_together_X8_allDone : GoodIn wsX10_together wsX8_allDone := goodIn_r _ [10, 11, 12, 13, 14, 15, 16, 17, 18, 19, 20, 21, 22, 9, 23, 24, 25, 26, 27, 3, 4, 5, 28, 29, 30, 31, 32, 33, 34, 35, 56, 57, 58, 59, 60, 61, 62, 63, 64, 65, 66] (by decide +kernel) (by decide +kernel)
set_option maxRecDepth 20000 in
theorem gX10_together_X8_allDone : GoodIn wsX10_together (wsV RX10 180 RX8 yX8_allDone wsX8_allDone) := goodIn_app (goodIn_of _ (by decide +kernel)) ggX10_together_X8_allDone
set_option maxRecDepth 20000 in
theorem ggX10_together_X10_refuse : GoodIn wsX10_together wsX10_refuse := goodIn_r _ [39, 40, 41, 42, 43, 44, 45, 46, 47, 48, 49, 50, 51, 52, 53, 54, 55] (by decide +kernel) (by decide +kernel)
set_option maxRecDepth 20000 in
theorem gX10_together_X10_refuse : GoodIn wsX10_together (wsV RX10 96 RX10 yX10_refuse wsX10_refuse) := goodIn_app (goodIn_of _ (by decide +kernel)) ggX10_together_X10_refuse
theorem dX10_together_0 : decode cX10_together 0 = .ok (.iload_n 1, 1) := by decide +kernel
theorem dX10_together_1 : decode cX10_together 1 = .ok (.invokestatic 111, 3) := by decide +kernel
theorem dX10_together_4 : decode cX10_together 4 = .ok (.ifCond .eq 14, 3) := by decide +kernel
theorem dX10_together_7 : decode cX10_together 7 = .ok (.aload_n 0, 1) := by decide +kernel
theorem dX10_together_8 : decode cX10_together 8 = .ok (.getfield 37, 3) := by decide +kernel
theorem dX10_together_11 : decode cX10_together 11 = .ok (.iload_n 1, 1) := by decide +kernel
theorem dX10_together_12 : decode cX10_together 12 = .ok (.invokevirtual 180, 3) := by decide +kernel
theorem dX10_together_15 : decode cX10_together 15 = .ok (.goto 8, 3) := by decide +kernel
theorem dX10_together_18 : decode cX10_together 18 = .ok (.aload_n 0, 1) := by decide +kernel
theorem dX10_together_19 : decode cX10_together 19 = .ok (.iconst (-1), 1) := by decide +kernel
theorem dX10_together_20 : decode cX10_together 20 = .ok (.invokevirtual 96, 3) := by decide +kernel
theorem dX10_together_23 : decode cX10_together 23 = .ok (.ireturn, 1) := by decide +kernel
set_option maxRecDepth 20000 in
theorem ggX10_paying_X10_isKind : GoodIn wsX10_paying wsX10_isKind := goodIn_r _ [6] (by decide +kernel) (by decide +kernel)
set_option maxRecDepth 20000 in
theorem gX10_paying_X10_isKind : GoodIn wsX10_paying (va_wsS RX10 183 yX10_isKind wsX10_isKind) := goodIn_app (goodIn_of _ (by decide +kernel)) ggX10_paying_X10_isKind
set_option maxRecDepth 20000 in
theorem ggX10_paying_X10_refuse : GoodIn wsX10_paying wsX10_refuse := goodIn_r _ [10, 11, 18, 19, 20, 21, 22, 23, 24, 25, 26, 27, 28, 29, 30, 31, 32] (by decide +kernel) (by decide +kernel)
set_option maxRecDepth 20000 in
theorem gX10_paying_X10_refuse : GoodIn wsX10_paying (wsV RX10 96 RX10 yX10_refuse wsX10_refuse) := goodIn_app (goodIn_of _ (by decide +kernel)) ggX10_paying_X10_refuse
set_option maxRecDepth 20000 in
theorem ggX10_paying_X4_change : GoodIn wsX10_paying wsX4_change := goodIn_r _ [16, 17, 33, 34, 35] (by decide +kernel) (by decide +kernel)
set_option maxRecDepth 20000 in
theorem gX10_paying_X4_change : GoodIn wsX10_paying (wsV RX10 189 RX4 yX4_change wsX4_change) := goodIn_app (goodIn_of _ (by decide +kernel)) ggX10_paying_X4_change
theorem dX10_paying_0 : decode cX10_paying 0 = .ok (.iload_n 1, 1) := by decide +kernel
theorem dX10_paying_1 : decode cX10_paying 1 = .ok (.invokestatic 183, 3) := by decide +kernel
theorem dX10_paying_4 : decode cX10_paying 4 = .ok (.ifCond .ne 9, 3) := by decide +kernel
theorem dX10_paying_7 : decode cX10_paying 7 = .ok (.aload_n 0, 1) := by decide +kernel
theorem dX10_paying_8 : decode cX10_paying 8 = .ok (.iconst (-1), 1) := by decide +kernel
theorem dX10_paying_9 : decode cX10_paying 9 = .ok (.invokevirtual 96, 3) := by decide +kernel
theorem dX10_paying_12 : decode cX10_paying 12 = .ok (.ireturn, 1) := by decide +kernel
theorem dX10_paying_13 : decode cX10_paying 13 = .ok (.iload_n 2, 1) := by decide +kernel
theorem dX10_paying_14 : decode cX10_paying 14 = .ok (.ifCond .lt 8, 3) := by decide +kernel
theorem dX10_paying_17 : decode cX10_paying 17 = .ok (.iload_n 2, 1) := by decide +kernel
theorem dX10_paying_18 : decode cX10_paying 18 = .ok (.iconst 4, 1) := by decide +kernel
theorem dX10_paying_19 : decode cX10_paying 19 = .ok (.if_icmp .lt 10, 3) := by decide +kernel
theorem dX10_paying_22 : decode cX10_paying 22 = .ok (.aload_n 0, 1) := by decide +kernel
theorem dX10_paying_23 : decode cX10_paying 23 = .ok (.bipush (-2), 2) := by decide +kernel
theorem dX10_paying_25 : decode cX10_paying 25 = .ok (.invokevirtual 96, 3) := by decide +kernel
theorem dX10_paying_28 : decode cX10_paying 28 = .ok (.ireturn, 1) := by decide +kernel
theorem dX10_paying_29 : decode cX10_paying 29 = .ok (.iload_n 3, 1) := by decide +kernel
theorem dX10_paying_30 : decode cX10_paying 30 = .ok (.ifCond .ge 10, 3) := by decide +kernel
theorem dX10_paying_33 : decode cX10_paying 33 = .ok (.aload_n 0, 1) := by decide +kernel
theorem dX10_paying_34 : decode cX10_paying 34 = .ok (.bipush (-4), 2) := by decide +kernel
theorem dX10_paying_36 : decode cX10_paying 36 = .ok (.invokevirtual 96, 3) := by decide +kernel
theorem dX10_paying_39 : decode cX10_paying 39 = .ok (.ireturn, 1) := by decide +kernel
theorem dX10_paying_40 : decode cX10_paying 40 = .ok (.iload_n 3, 1) := by decide +kernel
theorem dX10_paying_41 : decode cX10_paying 41 = .ok (.getstatic 186, 3) := by decide +kernel
theorem dX10_paying_44 : decode cX10_paying 44 = .ok (.iload_n 2, 1) := by decide +kernel
theorem dX10_paying_45 : decode cX10_paying 45 = .ok (.iaload, 1) := by decide +kernel
theorem dX10_paying_46 : decode cX10_paying 46 = .ok (.if_icmp .le 10, 3) := by decide +kernel
theorem dX10_paying_49 : decode cX10_paying 49 = .ok (.aload_n 0, 1) := by decide +kernel
theorem dX10_paying_50 : decode cX10_paying 50 = .ok (.bipush (-6), 2) := by decide +kernel
theorem dX10_paying_52 : decode cX10_paying 52 = .ok (.invokevirtual 96, 3) := by decide +kernel
theorem dX10_paying_55 : decode cX10_paying 55 = .ok (.ireturn, 1) := by decide +kernel
theorem dX10_paying_56 : decode cX10_paying 56 = .ok (.aload_n 0, 1) := by decide +kernel
theorem dX10_paying_57 : decode cX10_paying 57 = .ok (.getfield 44, 3) := by decide +kernel
theorem dX10_paying_60 : decode cX10_paying 60 = .ok (.iload_n 1, 1) := by decide +kernel
theorem dX10_paying_61 : decode cX10_paying 61 = .ok (.iload_n 2, 1) := by decide +kernel
theorem dX10_paying_62 : decode cX10_paying 62 = .ok (.iload_n 3, 1) := by decide +kernel
theorem dX10_paying_63 : decode cX10_paying 63 = .ok (.invokevirtual 189, 3) := by decide +kernel
theorem dX10_paying_66 : decode cX10_paying 66 = .ok (.ireturn, 1) := by decide +kernel
set_option maxRecDepth 20000 in
theorem ggX10_feasts_X10_refuse : GoodIn wsX10_feasts wsX10_refuse := goodIn_r _ [7, 8, 16, 17, 18, 19, 20, 21, 22, 23, 24, 25, 26, 27, 28, 29, 30] (by decide +kernel) (by decide +kernel)
set_option maxRecDepth 20000 in
theorem gX10_feasts_X10_refuse : GoodIn wsX10_feasts (wsV RX10 96 RX10 yX10_refuse wsX10_refuse) := goodIn_app (goodIn_of _ (by decide +kernel)) ggX10_feasts_X10_refuse
set_option maxRecDepth 20000 in
theorem ggX10_feasts_J6_bitCount_0f7a4 : GoodIn wsX10_feasts wsJ6_bitCount_0f7a4 := goodIn_r _ [12, 13, 14, 15] (by decide +kernel) (by decide +kernel)
set_option maxRecDepth 20000 in
theorem gX10_feasts_J6_bitCount_0f7a4 : GoodIn wsX10_feasts (va_wsS RX10 196 yJ6_bitCount_0f7a4 wsJ6_bitCount_0f7a4) := goodIn_app (goodIn_of _ (by decide +kernel)) ggX10_feasts_J6_bitCount_0f7a4
theorem dX10_feasts_0 : decode cX10_feasts 0 = .ok (.iload_n 1, 1) := by decide +kernel
theorem dX10_feasts_1 : decode cX10_feasts 1 = .ok (.ifCond .ge 10, 3) := by decide +kernel
theorem dX10_feasts_4 : decode cX10_feasts 4 = .ok (.aload_n 0, 1) := by decide +kernel
theorem dX10_feasts_5 : decode cX10_feasts 5 = .ok (.bipush (-4), 2) := by decide +kernel
theorem dX10_feasts_7 : decode cX10_feasts 7 = .ok (.invokevirtual 96, 3) := by decide +kernel
theorem dX10_feasts_10 : decode cX10_feasts 10 = .ok (.ireturn, 1) := by decide +kernel
theorem dX10_feasts_11 : decode cX10_feasts 11 = .ok (.iload_n 1, 1) := by decide +kernel
theorem dX10_feasts_12 : decode cX10_feasts 12 = .ok (.ldc 192, 2) := by decide +kernel
theorem dX10_feasts_14 : decode cX10_feasts 14 = .ok (.if_icmp .lt 10, 3) := by decide +kernel
theorem dX10_feasts_17 : decode cX10_feasts 17 = .ok (.aload_n 0, 1) := by decide +kernel
theorem dX10_feasts_18 : decode cX10_feasts 18 = .ok (.bipush (-6), 2) := by decide +kernel
theorem dX10_feasts_20 : decode cX10_feasts 20 = .ok (.invokevirtual 96, 3) := by decide +kernel
theorem dX10_feasts_23 : decode cX10_feasts 23 = .ok (.ireturn, 1) := by decide +kernel
theorem dX10_feasts_24 : decode cX10_feasts 24 = .ok (.aload_n 0, 1) := by decide +kernel
theorem dX10_feasts_25 : decode cX10_feasts 25 = .ok (.getfield 44, 3) := by decide +kernel
theorem dX10_feasts_28 : decode cX10_feasts 28 = .ok (.iload_n 1, 1) := by decide +kernel
theorem dX10_feasts_29 : decode cX10_feasts 29 = .ok (.putfield 193, 3) := by decide +kernel
theorem dX10_feasts_32 : decode cX10_feasts 32 = .ok (.iload_n 1, 1) := by decide +kernel
theorem dX10_feasts_33 : decode cX10_feasts 33 = .ok (.invokestatic 196, 3) := by decide +kernel
theorem dX10_feasts_36 : decode cX10_feasts 36 = .ok (.ireturn, 1) := by decide +kernel
set_option maxRecDepth 20000 in
theorem ggX10_friends_X10_refuse : GoodIn wsX10_friends wsX10_refuse := goodIn_r _ [6, 7, 8, 9, 10, 11, 12, 13, 14, 15, 16, 17, 18, 19, 20, 21, 22] (by decide +kernel) (by decide +kernel)
set_option maxRecDepth 20000 in
theorem gX10_friends_X10_refuse : GoodIn wsX10_friends (wsV RX10 96 RX10 yX10_refuse wsX10_refuse) := goodIn_app (goodIn_of _ (by decide +kernel)) ggX10_friends_X10_refuse
theorem dX10_friends_0 : decode cX10_friends 0 = .ok (.iload_n 1, 1) := by decide +kernel
theorem dX10_friends_1 : decode cX10_friends 1 = .ok (.ifCond .ge 10, 3) := by decide +kernel
theorem dX10_friends_4 : decode cX10_friends 4 = .ok (.aload_n 0, 1) := by decide +kernel
theorem dX10_friends_5 : decode cX10_friends 5 = .ok (.bipush (-4), 2) := by decide +kernel
theorem dX10_friends_7 : decode cX10_friends 7 = .ok (.invokevirtual 96, 3) := by decide +kernel
theorem dX10_friends_10 : decode cX10_friends 10 = .ok (.ireturn, 1) := by decide +kernel
theorem dX10_friends_11 : decode cX10_friends 11 = .ok (.iload_n 1, 1) := by decide +kernel
theorem dX10_friends_12 : decode cX10_friends 12 = .ok (.bipush 99, 2) := by decide +kernel
theorem dX10_friends_14 : decode cX10_friends 14 = .ok (.if_icmp .le 10, 3) := by decide +kernel
theorem dX10_friends_17 : decode cX10_friends 17 = .ok (.aload_n 0, 1) := by decide +kernel
theorem dX10_friends_18 : decode cX10_friends 18 = .ok (.bipush (-6), 2) := by decide +kernel
theorem dX10_friends_20 : decode cX10_friends 20 = .ok (.invokevirtual 96, 3) := by decide +kernel
theorem dX10_friends_23 : decode cX10_friends 23 = .ok (.ireturn, 1) := by decide +kernel
theorem dX10_friends_24 : decode cX10_friends 24 = .ok (.aload_n 0, 1) := by decide +kernel
theorem dX10_friends_25 : decode cX10_friends 25 = .ok (.getfield 44, 3) := by decide +kernel
theorem dX10_friends_28 : decode cX10_friends 28 = .ok (.getfield 201, 3) := by decide +kernel
theorem dX10_friends_31 : decode cX10_friends 31 = .ok (.istore_n 2, 1) := by decide +kernel
theorem dX10_friends_32 : decode cX10_friends 32 = .ok (.aload_n 0, 1) := by decide +kernel
theorem dX10_friends_33 : decode cX10_friends 33 = .ok (.getfield 44, 3) := by decide +kernel
theorem dX10_friends_36 : decode cX10_friends 36 = .ok (.iload_n 1, 1) := by decide +kernel
theorem dX10_friends_37 : decode cX10_friends 37 = .ok (.putfield 201, 3) := by decide +kernel
theorem dX10_friends_40 : decode cX10_friends 40 = .ok (.iload_n 2, 1) := by decide +kernel
theorem dX10_friends_41 : decode cX10_friends 41 = .ok (.ireturn, 1) := by decide +kernel
set_option maxRecDepth 20000 in
theorem ggX10_least_X10_refuse : GoodIn wsX10_least wsX10_refuse := goodIn_r _ [6, 7, 80, 81, 82, 83, 84, 85, 86, 87, 88, 89, 90, 91, 92, 93, 94] (by decide +kernel) (by decide +kernel)
set_option maxRecDepth 20000 in
theorem gX10_least_X10_refuse : GoodIn wsX10_least (wsV RX10 96 RX10 yX10_refuse wsX10_refuse) := goodIn_app (goodIn_of _ (by decide +kernel)) ggX10_least_X10_refuse
set_option maxRecDepth 20000 in
theorem ggX10_least_X1_leastHard : GoodIn wsX10_least wsX1_leastHard := goodIn_r _ [12, 13, 14, 15, 16, 17, 18, 19, 20, 21, 22, 23, 24, 25, 26, 27, 28, 29, 30, 31, 32, 33, 34, 35, 36, 37, 38, 39, 40, 41, 42, 43, 44, 45, 46, 47, 48, 49, 50, 51, 52, 53, 54, 55, 56, 57, 11, 58, 59, 60, 61, 62, 63, 64, 65, 66, 67, 68, 69, 70, 71, 72, 73, 74, 75, 76, 77, 78, 79, 95, 96, 97, 98, 99, 100] (by decide +kernel) (by decide +kernel)
set_option maxRecDepth 20000 in
theorem gX10_least_X1_leastHard : GoodIn wsX10_least (wsV RX10 204 RX1 yX1_leastHard wsX1_leastHard) := goodIn_app (goodIn_of _ (by decide +kernel)) ggX10_least_X1_leastHard
theorem dX10_least_0 : decode cX10_least 0 = .ok (.iload_n 3, 1) := by decide +kernel
theorem dX10_least_1 : decode cX10_least 1 = .ok (.ifCond .lt 9, 3) := by decide +kernel
theorem dX10_least_4 : decode cX10_least 4 = .ok (.iload_n 3, 1) := by decide +kernel
theorem dX10_least_5 : decode cX10_least 5 = .ok (.bipush 6, 2) := by decide +kernel
theorem dX10_least_7 : decode cX10_least 7 = .ok (.if_icmp .le 10, 3) := by decide +kernel
theorem dX10_least_10 : decode cX10_least 10 = .ok (.aload_n 0, 1) := by decide +kernel
theorem dX10_least_11 : decode cX10_least 11 = .ok (.bipush (-2), 2) := by decide +kernel
theorem dX10_least_13 : decode cX10_least 13 = .ok (.invokevirtual 96, 3) := by decide +kernel
theorem dX10_least_16 : decode cX10_least 16 = .ok (.ireturn, 1) := by decide +kernel
theorem dX10_least_17 : decode cX10_least 17 = .ok (.iload_n 1, 1) := by decide +kernel
theorem dX10_least_18 : decode cX10_least 18 = .ok (.ifCond .lt 8, 3) := by decide +kernel
theorem dX10_least_21 : decode cX10_least 21 = .ok (.iload_n 2, 1) := by decide +kernel
theorem dX10_least_22 : decode cX10_least 22 = .ok (.iconst 1, 1) := by decide +kernel
theorem dX10_least_23 : decode cX10_least 23 = .ok (.if_icmp .ge 10, 3) := by decide +kernel
theorem dX10_least_26 : decode cX10_least 26 = .ok (.aload_n 0, 1) := by decide +kernel
theorem dX10_least_27 : decode cX10_least 27 = .ok (.bipush (-4), 2) := by decide +kernel
theorem dX10_least_29 : decode cX10_least 29 = .ok (.invokevirtual 96, 3) := by decide +kernel
theorem dX10_least_32 : decode cX10_least 32 = .ok (.ireturn, 1) := by decide +kernel
theorem dX10_least_33 : decode cX10_least 33 = .ok (.iload_n 1, 1) := by decide +kernel
theorem dX10_least_34 : decode cX10_least 34 = .ok (.bipush 100, 2) := by decide +kernel
theorem dX10_least_36 : decode cX10_least 36 = .ok (.if_icmp .gt 10, 3) := by decide +kernel
theorem dX10_least_39 : decode cX10_least 39 = .ok (.iload_n 2, 1) := by decide +kernel
theorem dX10_least_40 : decode cX10_least 40 = .ok (.sipush 400, 3) := by decide +kernel
theorem dX10_least_43 : decode cX10_least 43 = .ok (.if_icmp .le 10, 3) := by decide +kernel
theorem dX10_least_46 : decode cX10_least 46 = .ok (.aload_n 0, 1) := by decide +kernel
theorem dX10_least_47 : decode cX10_least 47 = .ok (.bipush (-6), 2) := by decide +kernel
theorem dX10_least_49 : decode cX10_least 49 = .ok (.invokevirtual 96, 3) := by decide +kernel
theorem dX10_least_52 : decode cX10_least 52 = .ok (.ireturn, 1) := by decide +kernel
theorem dX10_least_53 : decode cX10_least 53 = .ok (.aload_n 0, 1) := by decide +kernel
theorem dX10_least_54 : decode cX10_least 54 = .ok (.getfield 67, 3) := by decide +kernel
theorem dX10_least_57 : decode cX10_least 57 = .ok (.iload_n 1, 1) := by decide +kernel
theorem dX10_least_58 : decode cX10_least 58 = .ok (.bipush 10, 2) := by decide +kernel
theorem dX10_least_60 : decode cX10_least 60 = .ok (.imul, 1) := by decide +kernel
theorem dX10_least_61 : decode cX10_least 61 = .ok (.iload_n 2, 1) := by decide +kernel
theorem dX10_least_62 : decode cX10_least 62 = .ok (.iload_n 3, 1) := by decide +kernel
theorem dX10_least_63 : decode cX10_least 63 = .ok (.invokevirtual 204, 3) := by decide +kernel
theorem dX10_least_66 : decode cX10_least 66 = .ok (.ireturn, 1) := by decide +kernel
set_option maxRecDepth 20000 in
theorem ggX10_soonest_X10_refuse : GoodIn wsX10_soonest wsX10_refuse := goodIn_r _ [6, 7, 73, 74, 75, 76, 77, 78, 79, 80, 81, 82, 83, 84, 85, 86, 87] (by decide +kernel) (by decide +kernel)
set_option maxRecDepth 20000 in
theorem gX10_soonest_X10_refuse : GoodIn wsX10_soonest (wsV RX10 96 RX10 yX10_refuse wsX10_refuse) := goodIn_app (goodIn_of _ (by decide +kernel)) ggX10_soonest_X10_refuse
set_option maxRecDepth 20000 in
theorem ggX10_soonest_X3_daysToPay : GoodIn wsX10_soonest wsX3_daysToPay := goodIn_r _ [12, 13, 14, 15, 16, 17, 11, 18, 19, 20, 21, 22, 23, 24, 25, 26, 27, 28, 29, 30, 31, 32, 33, 34, 35, 36, 37, 38, 39, 40, 41, 42, 43, 5, 44, 45, 46, 47, 48, 49, 50, 51, 52, 53, 54, 55, 56, 57, 58, 59, 60, 61, 62, 63, 64, 65, 66, 67, 68, 69, 70, 71, 72, 88, 89, 90, 91, 92, 93, 94, 95, 96, 97] (by decide +kernel) (by decide +kernel)
set_option maxRecDepth 20000 in
theorem gX10_soonest_X3_daysToPay : GoodIn wsX10_soonest (wsV RX10 207 RX3 yX3_daysToPay wsX3_daysToPay) := goodIn_app (goodIn_of _ (by decide +kernel)) ggX10_soonest_X3_daysToPay
theorem dX10_soonest_0 : decode cX10_soonest 0 = .ok (.iload_n 1, 1) := by decide +kernel
theorem dX10_soonest_1 : decode cX10_soonest 1 = .ok (.ifCond .ge 10, 3) := by decide +kernel
theorem dX10_soonest_4 : decode cX10_soonest 4 = .ok (.aload_n 0, 1) := by decide +kernel
theorem dX10_soonest_5 : decode cX10_soonest 5 = .ok (.bipush (-4), 2) := by decide +kernel
theorem dX10_soonest_7 : decode cX10_soonest 7 = .ok (.invokevirtual 96, 3) := by decide +kernel
theorem dX10_soonest_10 : decode cX10_soonest 10 = .ok (.ireturn, 1) := by decide +kernel
theorem dX10_soonest_11 : decode cX10_soonest 11 = .ok (.iload_n 1, 1) := by decide +kernel
theorem dX10_soonest_12 : decode cX10_soonest 12 = .ok (.sipush 400, 3) := by decide +kernel
theorem dX10_soonest_15 : decode cX10_soonest 15 = .ok (.if_icmp .le 10, 3) := by decide +kernel
theorem dX10_soonest_18 : decode cX10_soonest 18 = .ok (.aload_n 0, 1) := by decide +kernel
theorem dX10_soonest_19 : decode cX10_soonest 19 = .ok (.bipush (-6), 2) := by decide +kernel
theorem dX10_soonest_21 : decode cX10_soonest 21 = .ok (.invokevirtual 96, 3) := by decide +kernel
theorem dX10_soonest_24 : decode cX10_soonest 24 = .ok (.ireturn, 1) := by decide +kernel
theorem dX10_soonest_25 : decode cX10_soonest 25 = .ok (.aload_n 0, 1) := by decide +kernel
theorem dX10_soonest_26 : decode cX10_soonest 26 = .ok (.getfield 60, 3) := by decide +kernel
theorem dX10_soonest_29 : decode cX10_soonest 29 = .ok (.iload_n 1, 1) := by decide +kernel
theorem dX10_soonest_30 : decode cX10_soonest 30 = .ok (.bipush 10, 2) := by decide +kernel
theorem dX10_soonest_32 : decode cX10_soonest 32 = .ok (.imul, 1) := by decide +kernel
theorem dX10_soonest_33 : decode cX10_soonest 33 = .ok (.invokevirtual 207, 3) := by decide +kernel
theorem dX10_soonest_36 : decode cX10_soonest 36 = .ok (.ireturn, 1) := by decide +kernel
set_option maxRecDepth 20000 in
theorem ggX10_needed_X10_refuse : GoodIn wsX10_needed wsX10_refuse := goodIn_r _ [6, 7, 88, 89, 90, 91, 92, 93, 94, 95, 96, 97, 98, 99, 100, 101, 102] (by decide +kernel) (by decide +kernel)
set_option maxRecDepth 20000 in
theorem gX10_needed_X10_refuse : GoodIn wsX10_needed (wsV RX10 96 RX10 yX10_refuse wsX10_refuse) := goodIn_app (goodIn_of _ (by decide +kernel)) ggX10_needed_X10_refuse
set_option maxRecDepth 20000 in
theorem ggX10_needed_X3_friendsToPay : GoodIn wsX10_needed wsX3_friendsToPay := goodIn_r _ [12, 13, 14, 15, 16, 17, 11, 18, 19, 20, 21, 22, 23, 24, 25, 26, 27, 28, 29, 30, 31, 32, 33, 34, 35, 36, 37, 38, 39, 40, 41, 42, 43, 5, 44, 45, 46, 47, 48, 49, 50, 51, 52, 53, 54, 55, 56, 57, 58, 59, 60, 61, 62, 63, 64, 65, 66, 67, 68, 69, 70, 71, 72, 73, 74, 75, 76, 77, 78, 79, 80, 81, 82, 83, 84, 85, 86, 87, 103, 104, 105, 106, 107, 108, 109, 110, 111, 112] (by decide +kernel) (by decide +kernel)
set_option maxRecDepth 20000 in
theorem gX10_needed_X3_friendsToPay : GoodIn wsX10_needed (wsV RX10 210 RX3 yX3_friendsToPay wsX3_friendsToPay) := goodIn_app (goodIn_of _ (by decide +kernel)) ggX10_needed_X3_friendsToPay
theorem dX10_needed_0 : decode cX10_needed 0 = .ok (.iload_n 1, 1) := by decide +kernel
theorem dX10_needed_1 : decode cX10_needed 1 = .ok (.ifCond .lt 8, 3) := by decide +kernel
theorem dX10_needed_4 : decode cX10_needed 4 = .ok (.iload_n 2, 1) := by decide +kernel
theorem dX10_needed_5 : decode cX10_needed 5 = .ok (.iconst 1, 1) := by decide +kernel
theorem dX10_needed_6 : decode cX10_needed 6 = .ok (.if_icmp .ge 10, 3) := by decide +kernel
theorem dX10_needed_9 : decode cX10_needed 9 = .ok (.aload_n 0, 1) := by decide +kernel
theorem dX10_needed_10 : decode cX10_needed 10 = .ok (.bipush (-4), 2) := by decide +kernel
theorem dX10_needed_12 : decode cX10_needed 12 = .ok (.invokevirtual 96, 3) := by decide +kernel
theorem dX10_needed_15 : decode cX10_needed 15 = .ok (.ireturn, 1) := by decide +kernel
theorem dX10_needed_16 : decode cX10_needed 16 = .ok (.iload_n 1, 1) := by decide +kernel
theorem dX10_needed_17 : decode cX10_needed 17 = .ok (.sipush 400, 3) := by decide +kernel
theorem dX10_needed_20 : decode cX10_needed 20 = .ok (.if_icmp .gt 10, 3) := by decide +kernel
theorem dX10_needed_23 : decode cX10_needed 23 = .ok (.iload_n 2, 1) := by decide +kernel
theorem dX10_needed_24 : decode cX10_needed 24 = .ok (.sipush 400, 3) := by decide +kernel
theorem dX10_needed_27 : decode cX10_needed 27 = .ok (.if_icmp .le 10, 3) := by decide +kernel
theorem dX10_needed_30 : decode cX10_needed 30 = .ok (.aload_n 0, 1) := by decide +kernel
theorem dX10_needed_31 : decode cX10_needed 31 = .ok (.bipush (-6), 2) := by decide +kernel
theorem dX10_needed_33 : decode cX10_needed 33 = .ok (.invokevirtual 96, 3) := by decide +kernel
theorem dX10_needed_36 : decode cX10_needed 36 = .ok (.ireturn, 1) := by decide +kernel
theorem dX10_needed_37 : decode cX10_needed 37 = .ok (.aload_n 0, 1) := by decide +kernel
theorem dX10_needed_38 : decode cX10_needed 38 = .ok (.getfield 60, 3) := by decide +kernel
theorem dX10_needed_41 : decode cX10_needed 41 = .ok (.iload_n 1, 1) := by decide +kernel
theorem dX10_needed_42 : decode cX10_needed 42 = .ok (.bipush 10, 2) := by decide +kernel
theorem dX10_needed_44 : decode cX10_needed 44 = .ok (.imul, 1) := by decide +kernel
theorem dX10_needed_45 : decode cX10_needed 45 = .ok (.iload_n 2, 1) := by decide +kernel
theorem dX10_needed_46 : decode cX10_needed 46 = .ok (.invokevirtual 210, 3) := by decide +kernel
theorem dX10_needed_49 : decode cX10_needed 49 = .ok (.ireturn, 1) := by decide +kernel
set_option maxRecDepth 20000 in
theorem ggX10_over_X10_isKind : GoodIn wsX10_over wsX10_isKind := goodIn_r _ [5] (by decide +kernel) (by decide +kernel)
set_option maxRecDepth 20000 in
theorem gX10_over_X10_isKind : GoodIn wsX10_over (va_wsS RX10 183 yX10_isKind wsX10_isKind) := goodIn_app (goodIn_of _ (by decide +kernel)) ggX10_over_X10_isKind
set_option maxRecDepth 20000 in
theorem ggX10_over_X10_refuse : GoodIn wsX10_over wsX10_refuse := goodIn_r _ [9, 10, 21, 22, 23, 24, 25, 26, 27, 28, 29, 30, 31, 32, 33, 34, 35] (by decide +kernel) (by decide +kernel)
set_option maxRecDepth 20000 in
theorem gX10_over_X10_refuse : GoodIn wsX10_over (wsV RX10 96 RX10 yX10_refuse wsX10_refuse) := goodIn_app (goodIn_of _ (by decide +kernel)) ggX10_over_X10_refuse
set_option maxRecDepth 20000 in
theorem ggX10_over_X5_add : GoodIn wsX10_over wsX5_add := goodIn_r _ [15, 16, 17, 18, 19, 20, 36, 37, 38, 39, 40] (by decide +kernel) (by decide +kernel)
set_option maxRecDepth 20000 in
theorem gX10_over_X5_add : GoodIn wsX10_over (wsV RX10 214 RX5 yX5_add wsX5_add) := goodIn_app (goodIn_of _ (by decide +kernel)) ggX10_over_X5_add
theorem dX10_over_0 : decode cX10_over 0 = .ok (.iload_n 1, 1) := by decide +kernel
theorem dX10_over_1 : decode cX10_over 1 = .ok (.invokestatic 183, 3) := by decide +kernel
theorem dX10_over_4 : decode cX10_over 4 = .ok (.ifCond .eq 15, 3) := by decide +kernel
theorem dX10_over_7 : decode cX10_over 7 = .ok (.iload_n 3, 1) := by decide +kernel
theorem dX10_over_8 : decode cX10_over 8 = .ok (.invokestatic 183, 3) := by decide +kernel
theorem dX10_over_11 : decode cX10_over 11 = .ok (.ifCond .eq 8, 3) := by decide +kernel
theorem dX10_over_14 : decode cX10_over 14 = .ok (.iload_n 1, 1) := by decide +kernel
theorem dX10_over_15 : decode cX10_over 15 = .ok (.iload_n 3, 1) := by decide +kernel
theorem dX10_over_16 : decode cX10_over 16 = .ok (.if_icmp .ne 9, 3) := by decide +kernel
theorem dX10_over_19 : decode cX10_over 19 = .ok (.aload_n 0, 1) := by decide +kernel
theorem dX10_over_20 : decode cX10_over 20 = .ok (.iconst (-1), 1) := by decide +kernel
theorem dX10_over_21 : decode cX10_over 21 = .ok (.invokevirtual 96, 3) := by decide +kernel
theorem dX10_over_24 : decode cX10_over 24 = .ok (.ireturn, 1) := by decide +kernel
theorem dX10_over_25 : decode cX10_over 25 = .ok (.iload_n 2, 1) := by decide +kernel
theorem dX10_over_26 : decode cX10_over 26 = .ok (.iconst 1, 1) := by decide +kernel
theorem dX10_over_27 : decode cX10_over 27 = .ok (.if_icmp .lt 9, 3) := by decide +kernel
theorem dX10_over_30 : decode cX10_over 30 = .ok (.iload 4, 2) := by decide +kernel
theorem dX10_over_32 : decode cX10_over 32 = .ok (.iconst 1, 1) := by decide +kernel
theorem dX10_over_33 : decode cX10_over 33 = .ok (.if_icmp .ge 10, 3) := by decide +kernel
theorem dX10_over_36 : decode cX10_over 36 = .ok (.aload_n 0, 1) := by decide +kernel
theorem dX10_over_37 : decode cX10_over 37 = .ok (.bipush (-4), 2) := by decide +kernel
theorem dX10_over_39 : decode cX10_over 39 = .ok (.invokevirtual 96, 3) := by decide +kernel
theorem dX10_over_42 : decode cX10_over 42 = .ok (.ireturn, 1) := by decide +kernel
theorem dX10_over_43 : decode cX10_over 43 = .ok (.iload_n 2, 1) := by decide +kernel
theorem dX10_over_44 : decode cX10_over 44 = .ok (.bipush 30, 2) := by decide +kernel
theorem dX10_over_46 : decode cX10_over 46 = .ok (.if_icmp .gt 22, 3) := by decide +kernel
theorem dX10_over_49 : decode cX10_over 49 = .ok (.iload 4, 2) := by decide +kernel
theorem dX10_over_51 : decode cX10_over 51 = .ok (.bipush 30, 2) := by decide +kernel
theorem dX10_over_53 : decode cX10_over 53 = .ok (.if_icmp .gt 15, 3) := by decide +kernel
theorem dX10_over_56 : decode cX10_over 56 = .ok (.aload_n 0, 1) := by decide +kernel
theorem dX10_over_57 : decode cX10_over 57 = .ok (.getfield 51, 3) := by decide +kernel
theorem dX10_over_60 : decode cX10_over 60 = .ok (.getfield 213, 3) := by decide +kernel
theorem dX10_over_63 : decode cX10_over 63 = .ok (.bipush 12, 2) := by decide +kernel
theorem dX10_over_65 : decode cX10_over 65 = .ok (.if_icmp .lt 10, 3) := by decide +kernel
theorem dX10_over_68 : decode cX10_over 68 = .ok (.aload_n 0, 1) := by decide +kernel
theorem dX10_over_69 : decode cX10_over 69 = .ok (.bipush (-6), 2) := by decide +kernel
theorem dX10_over_71 : decode cX10_over 71 = .ok (.invokevirtual 96, 3) := by decide +kernel
theorem dX10_over_74 : decode cX10_over 74 = .ok (.ireturn, 1) := by decide +kernel
theorem dX10_over_75 : decode cX10_over 75 = .ok (.aload_n 0, 1) := by decide +kernel
theorem dX10_over_76 : decode cX10_over 76 = .ok (.getfield 51, 3) := by decide +kernel
theorem dX10_over_79 : decode cX10_over 79 = .ok (.iload_n 1, 1) := by decide +kernel
theorem dX10_over_80 : decode cX10_over 80 = .ok (.iload_n 2, 1) := by decide +kernel
theorem dX10_over_81 : decode cX10_over 81 = .ok (.iload_n 3, 1) := by decide +kernel
theorem dX10_over_82 : decode cX10_over 82 = .ok (.iload 4, 2) := by decide +kernel
theorem dX10_over_84 : decode cX10_over 84 = .ok (.invokevirtual 214, 3) := by decide +kernel
theorem dX10_over_87 : decode cX10_over 87 = .ok (.ireturn, 1) := by decide +kernel
set_option maxRecDepth 20000 in
theorem ggX10_byPutting_X10_isKind : GoodIn wsX10_byPutting wsX10_isKind := goodIn_r _ [5] (by decide +kernel) (by decide +kernel)
set_option maxRecDepth 20000 in
theorem gX10_byPutting_X10_isKind : GoodIn wsX10_byPutting (va_wsS RX10 183 yX10_isKind wsX10_isKind) := goodIn_app (goodIn_of _ (by decide +kernel)) ggX10_byPutting_X10_isKind
set_option maxRecDepth 20000 in
theorem ggX10_byPutting_X10_refuse : GoodIn wsX10_byPutting wsX10_refuse := goodIn_r _ [9, 10, 38, 39, 40, 41, 42, 43, 44, 45, 46, 47, 48, 49, 50, 51, 52] (by decide +kernel) (by decide +kernel)
set_option maxRecDepth 20000 in
theorem gX10_byPutting_X10_refuse : GoodIn wsX10_byPutting (wsV RX10 96 RX10 yX10_refuse wsX10_refuse) := goodIn_app (goodIn_of _ (by decide +kernel)) ggX10_byPutting_X10_refuse
set_option maxRecDepth 20000 in
theorem ggX10_byPutting_X9_leastPart : GoodIn wsX10_byPutting wsX9_leastPart := goodIn_r _ [15, 16, 17, 18, 19, 20, 14, 21, 22, 23, 24, 25, 26, 27, 28, 29, 30, 31, 32, 33, 34, 35, 36, 37, 53, 54, 55, 56, 57, 58, 59, 60] (by decide +kernel) (by decide +kernel)
set_option maxRecDepth 20000 in
theorem gX10_byPutting_X9_leastPart : GoodIn wsX10_byPutting (wsV RX10 217 RX9 yX9_leastPart wsX9_leastPart) := goodIn_app (goodIn_of _ (by decide +kernel)) ggX10_byPutting_X9_leastPart
theorem dX10_byPutting_0 : decode cX10_byPutting 0 = .ok (.iload_n 1, 1) := by decide +kernel
theorem dX10_byPutting_1 : decode cX10_byPutting 1 = .ok (.invokestatic 183, 3) := by decide +kernel
theorem dX10_byPutting_4 : decode cX10_byPutting 4 = .ok (.ifCond .ne 9, 3) := by decide +kernel
theorem dX10_byPutting_7 : decode cX10_byPutting 7 = .ok (.aload_n 0, 1) := by decide +kernel
theorem dX10_byPutting_8 : decode cX10_byPutting 8 = .ok (.iconst (-1), 1) := by decide +kernel
theorem dX10_byPutting_9 : decode cX10_byPutting 9 = .ok (.invokevirtual 96, 3) := by decide +kernel
theorem dX10_byPutting_12 : decode cX10_byPutting 12 = .ok (.ireturn, 1) := by decide +kernel
theorem dX10_byPutting_13 : decode cX10_byPutting 13 = .ok (.iload_n 2, 1) := by decide +kernel
theorem dX10_byPutting_14 : decode cX10_byPutting 14 = .ok (.ifCond .lt 8, 3) := by decide +kernel
theorem dX10_byPutting_17 : decode cX10_byPutting 17 = .ok (.iload_n 2, 1) := by decide +kernel
theorem dX10_byPutting_18 : decode cX10_byPutting 18 = .ok (.iconst 1, 1) := by decide +kernel
theorem dX10_byPutting_19 : decode cX10_byPutting 19 = .ok (.if_icmp .le 10, 3) := by decide +kernel
theorem dX10_byPutting_22 : decode cX10_byPutting 22 = .ok (.aload_n 0, 1) := by decide +kernel
theorem dX10_byPutting_23 : decode cX10_byPutting 23 = .ok (.bipush (-2), 2) := by decide +kernel
theorem dX10_byPutting_25 : decode cX10_byPutting 25 = .ok (.invokevirtual 96, 3) := by decide +kernel
theorem dX10_byPutting_28 : decode cX10_byPutting 28 = .ok (.ireturn, 1) := by decide +kernel
theorem dX10_byPutting_29 : decode cX10_byPutting 29 = .ok (.aload_n 0, 1) := by decide +kernel
theorem dX10_byPutting_30 : decode cX10_byPutting 30 = .ok (.getfield 76, 3) := by decide +kernel
theorem dX10_byPutting_33 : decode cX10_byPutting 33 = .ok (.iload_n 1, 1) := by decide +kernel
theorem dX10_byPutting_34 : decode cX10_byPutting 34 = .ok (.iload_n 2, 1) := by decide +kernel
theorem dX10_byPutting_35 : decode cX10_byPutting 35 = .ok (.iconst 1, 1) := by decide +kernel
theorem dX10_byPutting_36 : decode cX10_byPutting 36 = .ok (.if_icmp .ne 7, 3) := by decide +kernel
theorem dX10_byPutting_39 : decode cX10_byPutting 39 = .ok (.iconst 1, 1) := by decide +kernel
theorem dX10_byPutting_40 : decode cX10_byPutting 40 = .ok (.goto 4, 3) := by decide +kernel
theorem dX10_byPutting_43 : decode cX10_byPutting 43 = .ok (.iconst 0, 1) := by decide +kernel
theorem dX10_byPutting_44 : decode cX10_byPutting 44 = .ok (.invokevirtual 217, 3) := by decide +kernel
theorem dX10_byPutting_47 : decode cX10_byPutting 47 = .ok (.ireturn, 1) := by decide +kernel
set_option maxRecDepth 20000 in
theorem ggX10_ring_X6_shortest : GoodIn wsX10_ring wsX6_shortest := goodIn_r _ [6, 7, 8, 9, 10, 11, 5, 12, 13, 14, 15, 16, 17, 18, 19, 20, 21, 22, 23, 24, 25, 26, 27, 28, 29, 30, 31, 32, 33, 34, 35, 51, 52, 53, 54, 55, 56, 57] (by decide +kernel) (by decide +kernel)
set_option maxRecDepth 20000 in
theorem gX10_ring_X6_shortest : GoodIn wsX10_ring (wsV RX10 221 RX6 yX6_shortest wsX6_shortest) := goodIn_app (goodIn_of _ (by decide +kernel)) ggX10_ring_X6_shortest
theorem dX10_ring_0 : decode cX10_ring 0 = .ok (.aload_n 0, 1) := by decide +kernel
theorem dX10_ring_1 : decode cX10_ring 1 = .ok (.getfield 83, 3) := by decide +kernel
theorem dX10_ring_4 : decode cX10_ring 4 = .ok (.invokevirtual 221, 3) := by decide +kernel
theorem dX10_ring_7 : decode cX10_ring 7 = .ok (.ireturn, 1) := by decide +kernel
set_option maxRecDepth 20000 in
theorem ggX10_stops_X6_fewestStops : GoodIn wsX10_stops wsX6_fewestStops := goodIn_r _ [6, 7, 8, 9, 10, 11, 5, 12, 13, 14, 15, 16, 17, 18, 19, 20, 21, 22, 23, 24, 25, 26, 27, 28, 29, 30, 31, 32, 33, 34, 35, 51, 52, 53, 54, 55, 56, 57] (by decide +kernel) (by decide +kernel)
set_option maxRecDepth 20000 in
theorem gX10_stops_X6_fewestStops : GoodIn wsX10_stops (wsV RX10 224 RX6 yX6_fewestStops wsX6_fewestStops) := goodIn_app (goodIn_of _ (by decide +kernel)) ggX10_stops_X6_fewestStops
theorem dX10_stops_0 : decode cX10_stops 0 = .ok (.aload_n 0, 1) := by decide +kernel
theorem dX10_stops_1 : decode cX10_stops 1 = .ok (.getfield 83, 3) := by decide +kernel
theorem dX10_stops_4 : decode cX10_stops 4 = .ok (.invokevirtual 224, 3) := by decide +kernel
theorem dX10_stops_7 : decode cX10_stops 7 = .ok (.ireturn, 1) := by decide +kernel
set_option maxRecDepth 20000 in
theorem ggX10_put_X10_refuse : GoodIn wsX10_put wsX10_refuse := goodIn_r _ [6, 7, 23, 24, 25, 26, 27, 28, 29, 30, 31, 32, 33, 34, 35, 36, 37] (by decide +kernel) (by decide +kernel)
set_option maxRecDepth 20000 in
theorem gX10_put_X10_refuse : GoodIn wsX10_put (wsV RX10 96 RX10 yX10_refuse wsX10_refuse) := goodIn_app (goodIn_of _ (by decide +kernel)) ggX10_put_X10_refuse
set_option maxRecDepth 20000 in
theorem ggX10_put_X2_room : GoodIn wsX10_put wsX2_room := goodIn_r _ [12, 13, 14, 38, 39] (by decide +kernel) (by decide +kernel)
set_option maxRecDepth 20000 in
theorem gX10_put_X2_room : GoodIn wsX10_put (wsV RX10 100 RX2 yX2_room wsX2_room) := goodIn_app (goodIn_of _ (by decide +kernel)) ggX10_put_X2_room
set_option maxRecDepth 20000 in
theorem ggX10_put_X2_add : GoodIn wsX10_put wsX2_add := goodIn_r _ [18, 14, 13, 38, 39] (by decide +kernel) (by decide +kernel)
set_option maxRecDepth 20000 in
theorem gX10_put_X2_add : GoodIn wsX10_put (wsV RX10 104 RX2 yX2_add wsX2_add) := goodIn_app (goodIn_of _ (by decide +kernel)) ggX10_put_X2_add
set_option maxRecDepth 20000 in
theorem ggX10_put_X2_size : GoodIn wsX10_put wsX2_size := goodIn_r _ [22, 14, 38, 39] (by decide +kernel) (by decide +kernel)
set_option maxRecDepth 20000 in
theorem gX10_put_X2_size : GoodIn wsX10_put (wsV RX10 108 RX2 yX2_size wsX2_size) := goodIn_app (goodIn_of _ (by decide +kernel)) ggX10_put_X2_size
theorem dX10_put_0 : decode cX10_put 0 = .ok (.iload_n 1, 1) := by decide +kernel
theorem dX10_put_1 : decode cX10_put 1 = .ok (.bipush (-128), 2) := by decide +kernel
theorem dX10_put_3 : decode cX10_put 3 = .ok (.if_icmp .ge 10, 3) := by decide +kernel
theorem dX10_put_6 : decode cX10_put 6 = .ok (.aload_n 0, 1) := by decide +kernel
theorem dX10_put_7 : decode cX10_put 7 = .ok (.bipush (-4), 2) := by decide +kernel
theorem dX10_put_9 : decode cX10_put 9 = .ok (.invokevirtual 96, 3) := by decide +kernel
theorem dX10_put_12 : decode cX10_put 12 = .ok (.ireturn, 1) := by decide +kernel
theorem dX10_put_13 : decode cX10_put 13 = .ok (.iload_n 1, 1) := by decide +kernel
theorem dX10_put_14 : decode cX10_put 14 = .ok (.bipush 127, 2) := by decide +kernel
theorem dX10_put_16 : decode cX10_put 16 = .ok (.if_icmp .gt 14, 3) := by decide +kernel
theorem dX10_put_19 : decode cX10_put 19 = .ok (.aload_n 0, 1) := by decide +kernel
theorem dX10_put_20 : decode cX10_put 20 = .ok (.getfield 22, 3) := by decide +kernel
theorem dX10_put_23 : decode cX10_put 23 = .ok (.invokevirtual 100, 3) := by decide +kernel
theorem dX10_put_26 : decode cX10_put 26 = .ok (.iconst 1, 1) := by decide +kernel
theorem dX10_put_27 : decode cX10_put 27 = .ok (.if_icmp .ge 10, 3) := by decide +kernel
theorem dX10_put_30 : decode cX10_put 30 = .ok (.aload_n 0, 1) := by decide +kernel
theorem dX10_put_31 : decode cX10_put 31 = .ok (.bipush (-6), 2) := by decide +kernel
theorem dX10_put_33 : decode cX10_put 33 = .ok (.invokevirtual 96, 3) := by decide +kernel
theorem dX10_put_36 : decode cX10_put 36 = .ok (.ireturn, 1) := by decide +kernel
theorem dX10_put_37 : decode cX10_put 37 = .ok (.aload_n 0, 1) := by decide +kernel
theorem dX10_put_38 : decode cX10_put 38 = .ok (.getfield 22, 3) := by decide +kernel
theorem dX10_put_41 : decode cX10_put 41 = .ok (.iload_n 1, 1) := by decide +kernel
theorem dX10_put_42 : decode cX10_put 42 = .ok (.i2b, 1) := by decide +kernel
theorem dX10_put_43 : decode cX10_put 43 = .ok (.invokevirtual 104, 3) := by decide +kernel
theorem dX10_put_46 : decode cX10_put 46 = .ok (.aload_n 0, 1) := by decide +kernel
theorem dX10_put_47 : decode cX10_put 47 = .ok (.getfield 22, 3) := by decide +kernel
theorem dX10_put_50 : decode cX10_put 50 = .ok (.invokevirtual 108, 3) := by decide +kernel
theorem dX10_put_53 : decode cX10_put 53 = .ok (.ireturn, 1) := by decide +kernel
set_option maxRecDepth 20000 in
theorem ggX10_judge_X3_firstBarred : GoodIn wsX10_judge wsX3_firstBarred := goodIn_r _ [7, 8, 9, 10, 11, 6, 12, 13, 14, 15, 16, 17, 18, 19, 20, 21, 22, 23, 24, 25, 26, 27, 28, 29, 30, 31, 32, 33, 34, 35, 36, 37, 38, 39, 40, 41, 42, 43, 44, 45, 46, 47, 48, 49, 50, 51, 52, 53, 54, 55, 56, 57, 58, 59, 60, 61, 62, 63, 64, 65, 66, 67, 68, 69, 70, 71, 72, 73, 74, 75, 95, 96, 97, 98, 99, 100, 101, 102, 103, 104, 105, 106] (by decide +kernel) (by decide +kernel)
set_option maxRecDepth 20000 in
theorem gX10_judge_X3_firstBarred : GoodIn wsX10_judge (wsV RX10 227 RX3 yX3_firstBarred wsX3_firstBarred) := goodIn_app (goodIn_of _ (by decide +kernel)) ggX10_judge_X3_firstBarred
set_option maxRecDepth 20000 in
theorem ggX10_judge_X2_clear : GoodIn wsX10_judge wsX2_clear := goodIn_r _ [79, 28, 105, 106] (by decide +kernel) (by decide +kernel)
set_option maxRecDepth 20000 in
theorem gX10_judge_X2_clear : GoodIn wsX10_judge (wsV RX10 128 RX2 yX2_clear wsX2_clear) := goodIn_app (goodIn_of _ (by decide +kernel)) ggX10_judge_X2_clear
theorem dX10_judge_0 : decode cX10_judge 0 = .ok (.aload_n 0, 1) := by decide +kernel
theorem dX10_judge_1 : decode cX10_judge 1 = .ok (.getfield 60, 3) := by decide +kernel
theorem dX10_judge_4 : decode cX10_judge 4 = .ok (.aload_n 0, 1) := by decide +kernel
theorem dX10_judge_5 : decode cX10_judge 5 = .ok (.getfield 22, 3) := by decide +kernel
theorem dX10_judge_8 : decode cX10_judge 8 = .ok (.invokevirtual 227, 3) := by decide +kernel
theorem dX10_judge_11 : decode cX10_judge 11 = .ok (.istore_n 1, 1) := by decide +kernel
theorem dX10_judge_12 : decode cX10_judge 12 = .ok (.aload_n 0, 1) := by decide +kernel
theorem dX10_judge_13 : decode cX10_judge 13 = .ok (.getfield 22, 3) := by decide +kernel
theorem dX10_judge_16 : decode cX10_judge 16 = .ok (.invokevirtual 128, 3) := by decide +kernel
theorem dX10_judge_19 : decode cX10_judge 19 = .ok (.iload_n 1, 1) := by decide +kernel
theorem dX10_judge_20 : decode cX10_judge 20 = .ok (.ireturn, 1) := by decide +kernel
set_option maxRecDepth 20000 in
theorem ggX10_paid_X3_firstBarred : GoodIn wsX10_paid wsX3_firstBarred := goodIn_r _ [7, 8, 9, 10, 11, 6, 12, 13, 14, 15, 16, 17, 18, 19, 20, 21, 22, 23, 24, 25, 26, 27, 28, 29, 30, 31, 32, 33, 34, 35, 36, 37, 38, 39, 40, 41, 42, 43, 44, 45, 46, 47, 48, 49, 50, 51, 52, 53, 54, 55, 56, 57, 58, 59, 60, 61, 62, 63, 64, 65, 66, 67, 68, 69, 70, 71, 72, 73, 74, 75, 91, 92, 93, 94, 95, 96, 97, 98, 99, 100, 101, 102] (by decide +kernel) (by decide +kernel)
set_option maxRecDepth 20000 in
theorem gX10_paid_X3_firstBarred : GoodIn wsX10_paid (wsV RX10 227 RX3 yX3_firstBarred wsX3_firstBarred) := goodIn_app (goodIn_of _ (by decide +kernel)) ggX10_paid_X3_firstBarred
theorem dX10_paid_0 : decode cX10_paid 0 = .ok (.aload_n 0, 1) := by decide +kernel
theorem dX10_paid_1 : decode cX10_paid 1 = .ok (.getfield 60, 3) := by decide +kernel
theorem dX10_paid_4 : decode cX10_paid 4 = .ok (.aload_n 0, 1) := by decide +kernel
theorem dX10_paid_5 : decode cX10_paid 5 = .ok (.getfield 22, 3) := by decide +kernel
theorem dX10_paid_8 : decode cX10_paid 8 = .ok (.invokevirtual 227, 3) := by decide +kernel
theorem dX10_paid_11 : decode cX10_paid 11 = .ok (.bipush (-9), 2) := by decide +kernel
theorem dX10_paid_13 : decode cX10_paid 13 = .ok (.if_icmp .ne 13, 3) := by decide +kernel
theorem dX10_paid_16 : decode cX10_paid 16 = .ok (.aload_n 0, 1) := by decide +kernel
theorem dX10_paid_17 : decode cX10_paid 17 = .ok (.getfield 60, 3) := by decide +kernel
theorem dX10_paid_20 : decode cX10_paid 20 = .ok (.getfield 231, 3) := by decide +kernel
theorem dX10_paid_23 : decode cX10_paid 23 = .ok (.goto 5, 3) := by decide +kernel
theorem dX10_paid_26 : decode cX10_paid 26 = .ok (.bipush (-9), 2) := by decide +kernel
theorem dX10_paid_28 : decode cX10_paid 28 = .ok (.ireturn, 1) := by decide +kernel
set_option maxRecDepth 20000 in
theorem ggX10_beside_X8_extreme : GoodIn wsX10_beside wsX8_extreme := goodIn_r _ [6, 7, 8, 9, 5, 10, 11, 12, 13, 14, 15, 16, 17, 18, 19, 20, 21, 22, 23, 24, 25, 26, 27, 28, 29, 30, 31, 32, 33, 34, 35, 36, 37, 38, 54, 55, 56, 57, 58, 59, 60, 61, 62, 63, 64] (by decide +kernel) (by decide +kernel)
set_option maxRecDepth 20000 in
theorem gX10_beside_X8_extreme : GoodIn wsX10_beside (wsV RX10 234 RX8 yX8_extreme wsX8_extreme) := goodIn_app (goodIn_of _ (by decide +kernel)) ggX10_beside_X8_extreme
theorem dX10_beside_0 : decode cX10_beside 0 = .ok (.aload_n 0, 1) := by decide +kernel
theorem dX10_beside_1 : decode cX10_beside 1 = .ok (.getfield 37, 3) := by decide +kernel
theorem dX10_beside_4 : decode cX10_beside 4 = .ok (.iload_n 1, 1) := by decide +kernel
theorem dX10_beside_5 : decode cX10_beside 5 = .ok (.invokevirtual 234, 3) := by decide +kernel
theorem dX10_beside_8 : decode cX10_beside 8 = .ok (.ireturn, 1) := by decide +kernel
set_option maxRecDepth 20000 in
theorem ggX10_part_X10_isBook : GoodIn wsX10_part wsX10_isBook := goodIn_r _ [5] (by decide +kernel) (by decide +kernel)
set_option maxRecDepth 20000 in
theorem gX10_part_X10_isBook : GoodIn wsX10_part (va_wsS RX10 111 yX10_isBook wsX10_isBook) := goodIn_app (goodIn_of _ (by decide +kernel)) ggX10_part_X10_isBook
set_option maxRecDepth 20000 in
theorem ggX10_part_X10_refuse : GoodIn wsX10_part wsX10_refuse := goodIn_r _ [9, 10, 33, 34, 35, 36, 37, 38, 39, 40, 41, 42, 43, 44, 45, 46, 47] (by decide +kernel) (by decide +kernel)
set_option maxRecDepth 20000 in
theorem gX10_part_X10_refuse : GoodIn wsX10_part (wsV RX10 96 RX10 yX10_refuse wsX10_refuse) := goodIn_app (goodIn_of _ (by decide +kernel)) ggX10_part_X10_refuse
set_option maxRecDepth 20000 in
theorem ggX10_part_X8_firstUnlike : GoodIn wsX10_part wsX8_firstUnlike := goodIn_r _ [15, 16, 17, 18, 14, 19, 20, 21, 22, 23, 24, 3, 4, 5, 25, 26, 27, 28, 29, 30, 31, 32, 48, 49, 50, 51, 52, 53, 54, 55, 56, 57, 58] (by decide +kernel) (by decide +kernel)
set_option maxRecDepth 20000 in
theorem gX10_part_X8_firstUnlike : GoodIn wsX10_part (wsV RX10 238 RX8 yX8_firstUnlike wsX8_firstUnlike) := goodIn_app (goodIn_of _ (by decide +kernel)) ggX10_part_X8_firstUnlike
theorem dX10_part_0 : decode cX10_part 0 = .ok (.iload_n 1, 1) := by decide +kernel
theorem dX10_part_1 : decode cX10_part 1 = .ok (.invokestatic 111, 3) := by decide +kernel
theorem dX10_part_4 : decode cX10_part 4 = .ok (.ifCond .eq 15, 3) := by decide +kernel
theorem dX10_part_7 : decode cX10_part 7 = .ok (.iload_n 2, 1) := by decide +kernel
theorem dX10_part_8 : decode cX10_part 8 = .ok (.invokestatic 111, 3) := by decide +kernel
theorem dX10_part_11 : decode cX10_part 11 = .ok (.ifCond .eq 8, 3) := by decide +kernel
theorem dX10_part_14 : decode cX10_part 14 = .ok (.iload_n 1, 1) := by decide +kernel
theorem dX10_part_15 : decode cX10_part 15 = .ok (.iload_n 2, 1) := by decide +kernel
theorem dX10_part_16 : decode cX10_part 16 = .ok (.if_icmp .ne 9, 3) := by decide +kernel
theorem dX10_part_19 : decode cX10_part 19 = .ok (.aload_n 0, 1) := by decide +kernel
theorem dX10_part_20 : decode cX10_part 20 = .ok (.iconst (-1), 1) := by decide +kernel
theorem dX10_part_21 : decode cX10_part 21 = .ok (.invokevirtual 96, 3) := by decide +kernel
theorem dX10_part_24 : decode cX10_part 24 = .ok (.ireturn, 1) := by decide +kernel
theorem dX10_part_25 : decode cX10_part 25 = .ok (.aload_n 0, 1) := by decide +kernel
theorem dX10_part_26 : decode cX10_part 26 = .ok (.getfield 37, 3) := by decide +kernel
theorem dX10_part_29 : decode cX10_part 29 = .ok (.iload_n 1, 1) := by decide +kernel
theorem dX10_part_30 : decode cX10_part 30 = .ok (.iload_n 2, 1) := by decide +kernel
theorem dX10_part_31 : decode cX10_part 31 = .ok (.invokevirtual 238, 3) := by decide +kernel
theorem dX10_part_34 : decode cX10_part 34 = .ok (.ireturn, 1) := by decide +kernel
set_option maxRecDepth 20000 in
theorem ggX10_kin_X10_isBook : GoodIn wsX10_kin wsX10_isBook := goodIn_r _ [5] (by decide +kernel) (by decide +kernel)
set_option maxRecDepth 20000 in
theorem gX10_kin_X10_isBook : GoodIn wsX10_kin (va_wsS RX10 111 yX10_isBook wsX10_isBook) := goodIn_app (goodIn_of _ (by decide +kernel)) ggX10_kin_X10_isBook
set_option maxRecDepth 20000 in
theorem ggX10_kin_X8_nearest : GoodIn wsX10_kin wsX8_nearest := goodIn_r _ [10, 11, 12, 13, 14, 15, 16, 17, 18, 19, 20, 21, 22, 23, 24, 45, 46, 47, 48, 49, 50, 51, 52, 53, 54, 55] (by decide +kernel) (by decide +kernel)
set_option maxRecDepth 20000 in
theorem gX10_kin_X8_nearest : GoodIn wsX10_kin (wsV RX10 241 RX8 yX8_nearest wsX8_nearest) := goodIn_app (goodIn_of _ (by decide +kernel)) ggX10_kin_X8_nearest
set_option maxRecDepth 20000 in
theorem ggX10_kin_X10_refuse : GoodIn wsX10_kin wsX10_refuse := goodIn_r _ [28, 29, 30, 31, 32, 33, 34, 35, 36, 37, 38, 39, 40, 41, 42, 43, 44] (by decide +kernel) (by decide +kernel)
set_option maxRecDepth 20000 in
theorem gX10_kin_X10_refuse : GoodIn wsX10_kin (wsV RX10 96 RX10 yX10_refuse wsX10_refuse) := goodIn_app (goodIn_of _ (by decide +kernel)) ggX10_kin_X10_refuse
theorem dX10_kin_0 : decode cX10_kin 0 = .ok (.iload_n 1, 1) := by decide +kernel
theorem dX10_kin_1 : decode cX10_kin 1 = .ok (.invokestatic 111, 3) := by decide +kernel
theorem dX10_kin_4 : decode cX10_kin 4 = .ok (.ifCond .eq 14, 3) := by decide +kernel
theorem dX10_kin_7 : decode cX10_kin 7 = .ok (.aload_n 0, 1) := by decide +kernel
theorem dX10_kin_8 : decode cX10_kin 8 = .ok (.getfield 37, 3) := by decide +kernel
theorem dX10_kin_11 : decode cX10_kin 11 = .ok (.iload_n 1, 1) := by decide +kernel
theorem dX10_kin_12 : decode cX10_kin 12 = .ok (.invokevirtual 241, 3) := by decide +kernel
theorem dX10_kin_15 : decode cX10_kin 15 = .ok (.goto 8, 3) := by decide +kernel
theorem dX10_kin_18 : decode cX10_kin 18 = .ok (.aload_n 0, 1) := by decide +kernel
theorem dX10_kin_19 : decode cX10_kin 19 = .ok (.iconst (-1), 1) := by decide +kernel
theorem dX10_kin_20 : decode cX10_kin 20 = .ok (.invokevirtual 96, 3) := by decide +kernel
theorem dX10_kin_23 : decode cX10_kin 23 = .ok (.ireturn, 1) := by decide +kernel
set_option maxRecDepth 20000 in
theorem ggX10_image_X8_copyFrom : GoodIn wsX10_image wsX8_copyFrom := goodIn_r _ [12, 13, 14, 15, 16, 17, 18, 19, 20, 21, 22, 23, 24, 25, 26, 27, 28, 29, 30, 31, 32, 33, 69, 70, 71, 72, 73, 74, 75, 76, 77, 78, 79] (by decide +kernel) (by decide +kernel)
set_option maxRecDepth 20000 in
theorem gX10_image_X8_copyFrom : GoodIn wsX10_image (wsV RX10 244 RX8 yX8_copyFrom wsX8_copyFrom) := goodIn_app (goodIn_of _ (by decide +kernel)) ggX10_image_X8_copyFrom
set_option maxRecDepth 20000 in
theorem ggX10_image_X4_copyFrom : GoodIn wsX10_image wsX4_copyFrom := goodIn_r _ [38, 39, 40, 16, 17, 18, 41, 42, 80, 81, 82] (by decide +kernel) (by decide +kernel)
set_option maxRecDepth 20000 in
theorem gX10_image_X4_copyFrom : GoodIn wsX10_image (wsV RX10 248 RX4 yX4_copyFrom wsX4_copyFrom) := goodIn_app (goodIn_of _ (by decide +kernel)) ggX10_image_X4_copyFrom
set_option maxRecDepth 20000 in
theorem ggX10_image_X5_copyFrom : GoodIn wsX10_image wsX5_copyFrom := goodIn_r _ [47, 48, 49, 16, 17, 18, 50, 51, 52, 53, 83, 84, 85, 86, 87] (by decide +kernel) (by decide +kernel)
set_option maxRecDepth 20000 in
theorem gX10_image_X5_copyFrom : GoodIn wsX10_image (wsV RX10 250 RX5 yX5_copyFrom wsX5_copyFrom) := goodIn_app (goodIn_of _ (by decide +kernel)) ggX10_image_X5_copyFrom
theorem dX10_image_0 : decode cX10_image 0 = .ok (.aload_n 0, 1) := by decide +kernel
theorem dX10_image_1 : decode cX10_image 1 = .ok (.getfield 87, 3) := by decide +kernel
theorem dX10_image_4 : decode cX10_image 4 = .ok (.aload_n 0, 1) := by decide +kernel
theorem dX10_image_5 : decode cX10_image 5 = .ok (.getfield 37, 3) := by decide +kernel
theorem dX10_image_8 : decode cX10_image 8 = .ok (.invokevirtual 244, 3) := by decide +kernel
theorem dX10_image_11 : decode cX10_image 11 = .ok (.aload_n 0, 1) := by decide +kernel
theorem dX10_image_12 : decode cX10_image 12 = .ok (.getfield 90, 3) := by decide +kernel
theorem dX10_image_15 : decode cX10_image 15 = .ok (.aload_n 0, 1) := by decide +kernel
theorem dX10_image_16 : decode cX10_image 16 = .ok (.getfield 44, 3) := by decide +kernel
theorem dX10_image_19 : decode cX10_image 19 = .ok (.invokevirtual 248, 3) := by decide +kernel
theorem dX10_image_22 : decode cX10_image 22 = .ok (.aload_n 0, 1) := by decide +kernel
theorem dX10_image_23 : decode cX10_image 23 = .ok (.getfield 93, 3) := by decide +kernel
theorem dX10_image_26 : decode cX10_image 26 = .ok (.aload_n 0, 1) := by decide +kernel
theorem dX10_image_27 : decode cX10_image 27 = .ok (.getfield 51, 3) := by decide +kernel
theorem dX10_image_30 : decode cX10_image 30 = .ok (.invokevirtual 250, 3) := by decide +kernel
theorem dX10_image_33 : decode cX10_image 33 = .ok (.aload_n 0, 1) := by decide +kernel
theorem dX10_image_34 : decode cX10_image 34 = .ok (.iconst 1, 1) := by decide +kernel
theorem dX10_image_35 : decode cX10_image 35 = .ok (.putfield 252, 3) := by decide +kernel
theorem dX10_image_38 : decode cX10_image 38 = .ok (.aload_n 0, 1) := by decide +kernel
theorem dX10_image_39 : decode cX10_image 39 = .ok (.getfield 37, 3) := by decide +kernel
theorem dX10_image_42 : decode cX10_image 42 = .ok (.getfield 173, 3) := by decide +kernel
theorem dX10_image_45 : decode cX10_image 45 = .ok (.ireturn, 1) := by decide +kernel
set_option maxRecDepth 20000 in
theorem ggX10_on_X10_refuse : GoodIn wsX10_on wsX10_refuse := goodIn_r _ [12, 13, 60, 61, 62, 63, 64, 65, 66, 67, 68, 69, 70, 71, 72, 73, 74] (by decide +kernel) (by decide +kernel)
set_option maxRecDepth 20000 in
theorem gX10_on_X10_refuse : GoodIn wsX10_on (wsV RX10 96 RX10 yX10_refuse wsX10_refuse) := goodIn_app (goodIn_of _ (by decide +kernel)) ggX10_on_X10_refuse
set_option maxRecDepth 20000 in
theorem ggX10_on_X8_copyFrom : GoodIn wsX10_on wsX8_copyFrom := goodIn_r _ [18, 19, 20, 21, 22, 23, 24, 25, 26, 27, 28, 29, 30, 31, 32, 33, 34, 35, 36, 37, 38, 39, 75, 76, 77, 78, 79, 80, 81, 82, 83, 84, 85] (by decide +kernel) (by decide +kernel)
set_option maxRecDepth 20000 in
theorem gX10_on_X8_copyFrom : GoodIn wsX10_on (wsV RX10 244 RX8 yX8_copyFrom wsX8_copyFrom) := goodIn_app (goodIn_of _ (by decide +kernel)) ggX10_on_X8_copyFrom
set_option maxRecDepth 20000 in
theorem ggX10_on_X4_copyFrom : GoodIn wsX10_on wsX4_copyFrom := goodIn_r _ [44, 45, 46, 22, 23, 24, 47, 48, 86, 87, 88] (by decide +kernel) (by decide +kernel)
set_option maxRecDepth 20000 in
theorem gX10_on_X4_copyFrom : GoodIn wsX10_on (wsV RX10 248 RX4 yX4_copyFrom wsX4_copyFrom) := goodIn_app (goodIn_of _ (by decide +kernel)) ggX10_on_X4_copyFrom
set_option maxRecDepth 20000 in
theorem ggX10_on_X5_copyFrom : GoodIn wsX10_on wsX5_copyFrom := goodIn_r _ [53, 54, 55, 22, 23, 24, 56, 57, 58, 59, 89, 90, 91, 92, 93] (by decide +kernel) (by decide +kernel)
set_option maxRecDepth 20000 in
theorem gX10_on_X5_copyFrom : GoodIn wsX10_on (wsV RX10 250 RX5 yX5_copyFrom wsX5_copyFrom) := goodIn_app (goodIn_of _ (by decide +kernel)) ggX10_on_X5_copyFrom
theorem dX10_on_0 : decode cX10_on 0 = .ok (.aload_n 0, 1) := by decide +kernel
theorem dX10_on_1 : decode cX10_on 1 = .ok (.getfield 252, 3) := by decide +kernel
theorem dX10_on_4 : decode cX10_on 4 = .ok (.ifCond .ne 10, 3) := by decide +kernel
theorem dX10_on_7 : decode cX10_on 7 = .ok (.aload_n 0, 1) := by decide +kernel
theorem dX10_on_8 : decode cX10_on 8 = .ok (.bipush (-3), 2) := by decide +kernel
theorem dX10_on_10 : decode cX10_on 10 = .ok (.invokevirtual 96, 3) := by decide +kernel
theorem dX10_on_13 : decode cX10_on 13 = .ok (.ireturn, 1) := by decide +kernel
theorem dX10_on_14 : decode cX10_on 14 = .ok (.aload_n 0, 1) := by decide +kernel
theorem dX10_on_15 : decode cX10_on 15 = .ok (.getfield 37, 3) := by decide +kernel
theorem dX10_on_18 : decode cX10_on 18 = .ok (.aload_n 0, 1) := by decide +kernel
theorem dX10_on_19 : decode cX10_on 19 = .ok (.getfield 87, 3) := by decide +kernel
theorem dX10_on_22 : decode cX10_on 22 = .ok (.invokevirtual 244, 3) := by decide +kernel
theorem dX10_on_25 : decode cX10_on 25 = .ok (.aload_n 0, 1) := by decide +kernel
theorem dX10_on_26 : decode cX10_on 26 = .ok (.getfield 44, 3) := by decide +kernel
theorem dX10_on_29 : decode cX10_on 29 = .ok (.aload_n 0, 1) := by decide +kernel
theorem dX10_on_30 : decode cX10_on 30 = .ok (.getfield 90, 3) := by decide +kernel
theorem dX10_on_33 : decode cX10_on 33 = .ok (.invokevirtual 248, 3) := by decide +kernel
theorem dX10_on_36 : decode cX10_on 36 = .ok (.aload_n 0, 1) := by decide +kernel
theorem dX10_on_37 : decode cX10_on 37 = .ok (.getfield 51, 3) := by decide +kernel
theorem dX10_on_40 : decode cX10_on 40 = .ok (.aload_n 0, 1) := by decide +kernel
theorem dX10_on_41 : decode cX10_on 41 = .ok (.getfield 93, 3) := by decide +kernel
theorem dX10_on_44 : decode cX10_on 44 = .ok (.invokevirtual 250, 3) := by decide +kernel
theorem dX10_on_47 : decode cX10_on 47 = .ok (.aload_n 0, 1) := by decide +kernel
theorem dX10_on_48 : decode cX10_on 48 = .ok (.getfield 37, 3) := by decide +kernel
theorem dX10_on_51 : decode cX10_on 51 = .ok (.getfield 173, 3) := by decide +kernel
theorem dX10_on_54 : decode cX10_on 54 = .ok (.ireturn, 1) := by decide +kernel
set_option maxRecDepth 20000 in
theorem ggX10_count_X8_rulesInAll : GoodIn wsX10_count wsX8_rulesInAll := goodIn_r _ [11, 12, 41, 42, 43, 44, 45, 54, 55, 56, 57, 58, 59] (by decide +kernel) (by decide +kernel)
set_option maxRecDepth 20000 in
theorem gX10_count_X8_rulesInAll : GoodIn wsX10_count (wsV RX10 256 RX8 yX8_rulesInAll wsX8_rulesInAll) := goodIn_app (goodIn_of _ (by decide +kernel)) ggX10_count_X8_rulesInAll
set_option maxRecDepth 20000 in
theorem ggX10_count_X2_size : GoodIn wsX10_count wsX2_size := goodIn_r _ [17, 18, 60, 61] (by decide +kernel) (by decide +kernel)
set_option maxRecDepth 20000 in
theorem gX10_count_X2_size : GoodIn wsX10_count (wsV RX10 108 RX2 yX2_size wsX2_size) := goodIn_app (goodIn_of _ (by decide +kernel)) ggX10_count_X2_size
set_option maxRecDepth 20000 in
theorem ggX10_count_J6_bitCount_0f7a4 : GoodIn wsX10_count wsJ6_bitCount_0f7a4 := goodIn_r _ [22, 23, 24, 25] (by decide +kernel) (by decide +kernel)
set_option maxRecDepth 20000 in
theorem gX10_count_J6_bitCount_0f7a4 : GoodIn wsX10_count (va_wsS RX10 196 yJ6_bitCount_0f7a4 wsJ6_bitCount_0f7a4) := goodIn_app (goodIn_of _ (by decide +kernel)) ggX10_count_J6_bitCount_0f7a4
theorem dX10_count_0 : decode cX10_count 0 = .ok (.iload_n 1, 1) := by decide +kernel
theorem dX10_count_1 : decode cX10_count 1 = .ok (.tableswitch 90 0 5 #[39, 47, 55, 63, 71, 79], 39) := by decide +kernel
theorem dX10_count_40 : decode cX10_count 40 = .ok (.aload_n 0, 1) := by decide +kernel
theorem dX10_count_41 : decode cX10_count 41 = .ok (.getfield 37, 3) := by decide +kernel
theorem dX10_count_44 : decode cX10_count 44 = .ok (.invokevirtual 256, 3) := by decide +kernel
theorem dX10_count_47 : decode cX10_count 47 = .ok (.ireturn, 1) := by decide +kernel
theorem dX10_count_48 : decode cX10_count 48 = .ok (.aload_n 0, 1) := by decide +kernel
theorem dX10_count_49 : decode cX10_count 49 = .ok (.getfield 37, 3) := by decide +kernel
theorem dX10_count_52 : decode cX10_count 52 = .ok (.getfield 173, 3) := by decide +kernel
theorem dX10_count_55 : decode cX10_count 55 = .ok (.ireturn, 1) := by decide +kernel
theorem dX10_count_56 : decode cX10_count 56 = .ok (.aload_n 0, 1) := by decide +kernel
theorem dX10_count_57 : decode cX10_count 57 = .ok (.getfield 51, 3) := by decide +kernel
theorem dX10_count_60 : decode cX10_count 60 = .ok (.getfield 213, 3) := by decide +kernel
theorem dX10_count_63 : decode cX10_count 63 = .ok (.ireturn, 1) := by decide +kernel
theorem dX10_count_64 : decode cX10_count 64 = .ok (.aload_n 0, 1) := by decide +kernel
theorem dX10_count_65 : decode cX10_count 65 = .ok (.getfield 18, 3) := by decide +kernel
theorem dX10_count_68 : decode cX10_count 68 = .ok (.invokevirtual 108, 3) := by decide +kernel
theorem dX10_count_71 : decode cX10_count 71 = .ok (.ireturn, 1) := by decide +kernel
theorem dX10_count_72 : decode cX10_count 72 = .ok (.aload_n 0, 1) := by decide +kernel
theorem dX10_count_73 : decode cX10_count 73 = .ok (.getfield 22, 3) := by decide +kernel
theorem dX10_count_76 : decode cX10_count 76 = .ok (.invokevirtual 108, 3) := by decide +kernel
theorem dX10_count_79 : decode cX10_count 79 = .ok (.ireturn, 1) := by decide +kernel
theorem dX10_count_80 : decode cX10_count 80 = .ok (.aload_n 0, 1) := by decide +kernel
theorem dX10_count_81 : decode cX10_count 81 = .ok (.getfield 44, 3) := by decide +kernel
theorem dX10_count_84 : decode cX10_count 84 = .ok (.getfield 193, 3) := by decide +kernel
theorem dX10_count_87 : decode cX10_count 87 = .ok (.invokestatic 196, 3) := by decide +kernel
theorem dX10_count_90 : decode cX10_count 90 = .ok (.ireturn, 1) := by decide +kernel
theorem dX10_count_91 : decode cX10_count 91 = .ok (.iload_n 1, 1) := by decide +kernel
theorem dX10_count_92 : decode cX10_count 92 = .ok (.bipush 10, 2) := by decide +kernel
theorem dX10_count_94 : decode cX10_count 94 = .ok (.if_icmp .le 27, 3) := by decide +kernel
theorem dX10_count_97 : decode cX10_count 97 = .ok (.iload_n 1, 1) := by decide +kernel
theorem dX10_count_98 : decode cX10_count 98 = .ok (.bipush 10, 2) := by decide +kernel
theorem dX10_count_100 : decode cX10_count 100 = .ok (.isub, 1) := by decide +kernel
theorem dX10_count_101 : decode cX10_count 101 = .ok (.aload_n 0, 1) := by decide +kernel
theorem dX10_count_102 : decode cX10_count 102 = .ok (.getfield 9, 3) := by decide +kernel
theorem dX10_count_105 : decode cX10_count 105 = .ok (.arraylength, 1) := by decide +kernel
theorem dX10_count_106 : decode cX10_count 106 = .ok (.if_icmp .ge 15, 3) := by decide +kernel
theorem dX10_count_109 : decode cX10_count 109 = .ok (.aload_n 0, 1) := by decide +kernel
theorem dX10_count_110 : decode cX10_count 110 = .ok (.getfield 9, 3) := by decide +kernel
theorem dX10_count_113 : decode cX10_count 113 = .ok (.iload_n 1, 1) := by decide +kernel
theorem dX10_count_114 : decode cX10_count 114 = .ok (.bipush 10, 2) := by decide +kernel
theorem dX10_count_116 : decode cX10_count 116 = .ok (.isub, 1) := by decide +kernel
theorem dX10_count_117 : decode cX10_count 117 = .ok (.iaload, 1) := by decide +kernel
theorem dX10_count_118 : decode cX10_count 118 = .ok (.goto 5, 3) := by decide +kernel
theorem dX10_count_121 : decode cX10_count 121 = .ok (.bipush (-9), 2) := by decide +kernel
theorem dX10_count_123 : decode cX10_count 123 = .ok (.ireturn, 1) := by decide +kernel
theorem dX10_refuse_0 : decode cX10_refuse 0 = .ok (.iload_n 1, 1) := by decide +kernel
theorem dX10_refuse_1 : decode cX10_refuse 1 = .ok (.ifCond .ge 20, 3) := by decide +kernel
theorem dX10_refuse_4 : decode cX10_refuse 4 = .ok (.iload_n 1, 1) := by decide +kernel
theorem dX10_refuse_5 : decode cX10_refuse 5 = .ok (.bipush (-6), 2) := by decide +kernel
theorem dX10_refuse_7 : decode cX10_refuse 7 = .ok (.if_icmp .lt 14, 3) := by decide +kernel
theorem dX10_refuse_10 : decode cX10_refuse 10 = .ok (.aload_n 0, 1) := by decide +kernel
theorem dX10_refuse_11 : decode cX10_refuse 11 = .ok (.getfield 9, 3) := by decide +kernel
theorem dX10_refuse_14 : decode cX10_refuse 14 = .ok (.iload_n 1, 1) := by decide +kernel
theorem dX10_refuse_15 : decode cX10_refuse 15 = .ok (.ineg, 1) := by decide +kernel
theorem dX10_refuse_16 : decode cX10_refuse 16 = .ok (.dup2, 1) := by decide +kernel
theorem dX10_refuse_17 : decode cX10_refuse 17 = .ok (.iaload, 1) := by decide +kernel
theorem dX10_refuse_18 : decode cX10_refuse 18 = .ok (.iconst 1, 1) := by decide +kernel
theorem dX10_refuse_19 : decode cX10_refuse 19 = .ok (.iadd, 1) := by decide +kernel
theorem dX10_refuse_20 : decode cX10_refuse 20 = .ok (.iastore, 1) := by decide +kernel
theorem dX10_refuse_21 : decode cX10_refuse 21 = .ok (.iload_n 1, 1) := by decide +kernel
theorem dX10_refuse_22 : decode cX10_refuse 22 = .ok (.ireturn, 1) := by decide +kernel
theorem dX10_isBook_0 : decode cX10_isBook 0 = .ok (.iload_n 0, 1) := by decide +kernel
theorem dX10_isBook_1 : decode cX10_isBook 1 = .ok (.ifCond .lt 13, 3) := by decide +kernel
theorem dX10_isBook_4 : decode cX10_isBook 4 = .ok (.iload_n 0, 1) := by decide +kernel
theorem dX10_isBook_5 : decode cX10_isBook 5 = .ok (.bipush 6, 2) := by decide +kernel
theorem dX10_isBook_7 : decode cX10_isBook 7 = .ok (.if_icmp .ge 7, 3) := by decide +kernel
theorem dX10_isBook_10 : decode cX10_isBook 10 = .ok (.iconst 1, 1) := by decide +kernel
theorem dX10_isBook_11 : decode cX10_isBook 11 = .ok (.goto 4, 3) := by decide +kernel
theorem dX10_isBook_14 : decode cX10_isBook 14 = .ok (.iconst 0, 1) := by decide +kernel
theorem dX10_isBook_15 : decode cX10_isBook 15 = .ok (.ireturn, 1) := by decide +kernel
theorem dX10_isKind_0 : decode cX10_isKind 0 = .ok (.iload_n 0, 1) := by decide +kernel
theorem dX10_isKind_1 : decode cX10_isKind 1 = .ok (.ifCond .lt 13, 3) := by decide +kernel
theorem dX10_isKind_4 : decode cX10_isKind 4 = .ok (.iload_n 0, 1) := by decide +kernel
theorem dX10_isKind_5 : decode cX10_isKind 5 = .ok (.bipush 6, 2) := by decide +kernel
theorem dX10_isKind_7 : decode cX10_isKind 7 = .ok (.if_icmp .ge 7, 3) := by decide +kernel
theorem dX10_isKind_10 : decode cX10_isKind 10 = .ok (.iconst 1, 1) := by decide +kernel
theorem dX10_isKind_11 : decode cX10_isKind 11 = .ok (.goto 4, 3) := by decide +kernel
theorem dX10_isKind_14 : decode cX10_isKind 14 = .ok (.iconst 0, 1) := by decide +kernel
theorem dX10_isKind_15 : decode cX10_isKind 15 = .ok (.ireturn, 1) := by decide +kernel
theorem dX10_isDeed_0 : decode cX10_isDeed 0 = .ok (.iload_n 0, 1) := by decide +kernel
theorem dX10_isDeed_1 : decode cX10_isDeed 1 = .ok (.ifCond .lt 23, 3) := by decide +kernel
theorem dX10_isDeed_4 : decode cX10_isDeed 4 = .ok (.iload_n 0, 1) := by decide +kernel
theorem dX10_isDeed_5 : decode cX10_isDeed 5 = .ok (.bipush 8, 2) := by decide +kernel
theorem dX10_isDeed_7 : decode cX10_isDeed 7 = .ok (.if_icmp .ge 17, 3) := by decide +kernel
theorem dX10_isDeed_10 : decode cX10_isDeed 10 = .ok (.iload_n 1, 1) := by decide +kernel
theorem dX10_isDeed_11 : decode cX10_isDeed 11 = .ok (.ifCond .lt 13, 3) := by decide +kernel
theorem dX10_isDeed_14 : decode cX10_isDeed 14 = .ok (.iload_n 1, 1) := by decide +kernel
theorem dX10_isDeed_15 : decode cX10_isDeed 15 = .ok (.bipush 16, 2) := by decide +kernel
theorem dX10_isDeed_17 : decode cX10_isDeed 17 = .ok (.if_icmp .ge 7, 3) := by decide +kernel
theorem dX10_isDeed_20 : decode cX10_isDeed 20 = .ok (.iconst 1, 1) := by decide +kernel
theorem dX10_isDeed_21 : decode cX10_isDeed 21 = .ok (.goto 4, 3) := by decide +kernel
theorem dX10_isDeed_24 : decode cX10_isDeed 24 = .ok (.iconst 0, 1) := by decide +kernel
theorem dX10_isDeed_25 : decode cX10_isDeed 25 = .ok (.ireturn, 1) := by decide +kernel
set_option maxRecDepth 20000 in
theorem ggX11_init_X11_pays : GoodIn wsX11_init wsX11_pays := goodIn_r _ [20, 6, 21, 22, 23, 24, 25, 26, 27, 28, 29, 30, 31, 32, 33, 34, 35, 36, 37, 38, 39] (by decide +kernel) (by decide +kernel)
set_option maxRecDepth 20000 in
theorem gX11_init_X11_pays : GoodIn wsX11_init (wsV RX11 43 RX11 yX11_pays wsX11_pays) := goodIn_app (goodIn_of _ (by decide +kernel)) ggX11_init_X11_pays
theorem dX11_init_0 : decode cX11_init 0 = .ok (.aload_n 0, 1) := by decide +kernel
theorem dX11_init_1 : decode cX11_init 1 = .ok (.invokespecial 1, 3) := by decide +kernel
theorem dX11_init_4 : decode cX11_init 4 = .ok (.aload_n 0, 1) := by decide +kernel
theorem dX11_init_5 : decode cX11_init 5 = .ok (.bipush 7, 2) := by decide +kernel
theorem dX11_init_7 : decode cX11_init 7 = .ok (.newarray .int, 2) := by decide +kernel
theorem dX11_init_9 : decode cX11_init 9 = .ok (.putfield 7, 3) := by decide +kernel
theorem dX11_init_12 : decode cX11_init 12 = .ok (.aload_n 0, 1) := by decide +kernel
theorem dX11_init_13 : decode cX11_init 13 = .ok (.sipush 310, 3) := by decide +kernel
theorem dX11_init_16 : decode cX11_init 16 = .ok (.newarray .int, 2) := by decide +kernel
theorem dX11_init_18 : decode cX11_init 18 = .ok (.putfield 13, 3) := by decide +kernel
theorem dX11_init_21 : decode cX11_init 21 = .ok (.aload_n 0, 1) := by decide +kernel
theorem dX11_init_22 : decode cX11_init 22 = .ok (.sipush 310, 3) := by decide +kernel
theorem dX11_init_25 : decode cX11_init 25 = .ok (.newarray .int, 2) := by decide +kernel
theorem dX11_init_27 : decode cX11_init 27 = .ok (.putfield 16, 3) := by decide +kernel
theorem dX11_init_30 : decode cX11_init 30 = .ok (.aload_n 0, 1) := by decide +kernel
theorem dX11_init_31 : decode cX11_init 31 = .ok (.bipush 16, 2) := by decide +kernel
theorem dX11_init_33 : decode cX11_init 33 = .ok (.newarray .int, 2) := by decide +kernel
theorem dX11_init_35 : decode cX11_init 35 = .ok (.putfield 19, 3) := by decide +kernel
theorem dX11_init_38 : decode cX11_init 38 = .ok (.aload_n 0, 1) := by decide +kernel
theorem dX11_init_39 : decode cX11_init 39 = .ok (.sipush 7007, 3) := by decide +kernel
theorem dX11_init_42 : decode cX11_init 42 = .ok (.newarray .int, 2) := by decide +kernel
theorem dX11_init_44 : decode cX11_init 44 = .ok (.putfield 22, 3) := by decide +kernel
theorem dX11_init_47 : decode cX11_init 47 = .ok (.aload_n 0, 1) := by decide +kernel
theorem dX11_init_48 : decode cX11_init 48 = .ok (.bipush 6, 2) := by decide +kernel
theorem dX11_init_50 : decode cX11_init 50 = .ok (.newarray .int, 2) := by decide +kernel
theorem dX11_init_52 : decode cX11_init 52 = .ok (.putfield 25, 3) := by decide +kernel
theorem dX11_init_55 : decode cX11_init 55 = .ok (.aload_n 0, 1) := by decide +kernel
theorem dX11_init_56 : decode cX11_init 56 = .ok (.bipush 6, 2) := by decide +kernel
theorem dX11_init_58 : decode cX11_init 58 = .ok (.newarray .int, 2) := by decide +kernel
theorem dX11_init_60 : decode cX11_init 60 = .ok (.putfield 28, 3) := by decide +kernel
theorem dX11_init_63 : decode cX11_init 63 = .ok (.aload_n 0, 1) := by decide +kernel
theorem dX11_init_64 : decode cX11_init 64 = .ok (.bipush 6, 2) := by decide +kernel
theorem dX11_init_66 : decode cX11_init 66 = .ok (.newarray .int, 2) := by decide +kernel
theorem dX11_init_68 : decode cX11_init 68 = .ok (.putfield 31, 3) := by decide +kernel
theorem dX11_init_71 : decode cX11_init 71 = .ok (.aload_n 0, 1) := by decide +kernel
theorem dX11_init_72 : decode cX11_init 72 = .ok (.sipush 4096, 3) := by decide +kernel
theorem dX11_init_75 : decode cX11_init 75 = .ok (.newarray .int, 2) := by decide +kernel
theorem dX11_init_77 : decode cX11_init 77 = .ok (.putfield 34, 3) := by decide +kernel
theorem dX11_init_80 : decode cX11_init 80 = .ok (.aload_n 0, 1) := by decide +kernel
theorem dX11_init_81 : decode cX11_init 81 = .ok (.bipush 100, 2) := by decide +kernel
theorem dX11_init_83 : decode cX11_init 83 = .ok (.newarray .int, 2) := by decide +kernel
theorem dX11_init_85 : decode cX11_init 85 = .ok (.putfield 37, 3) := by decide +kernel
theorem dX11_init_88 : decode cX11_init 88 = .ok (.aload_n 0, 1) := by decide +kernel
theorem dX11_init_89 : decode cX11_init 89 = .ok (.bipush 6, 2) := by decide +kernel
theorem dX11_init_91 : decode cX11_init 91 = .ok (.newarray .int, 2) := by decide +kernel
theorem dX11_init_93 : decode cX11_init 93 = .ok (.putfield 40, 3) := by decide +kernel
theorem dX11_init_96 : decode cX11_init 96 = .ok (.aload_n 0, 1) := by decide +kernel
theorem dX11_init_97 : decode cX11_init 97 = .ok (.iconst 0, 1) := by decide +kernel
theorem dX11_init_98 : decode cX11_init 98 = .ok (.bipush 10, 2) := by decide +kernel
theorem dX11_init_100 : decode cX11_init 100 = .ok (.iconst 5, 1) := by decide +kernel
theorem dX11_init_101 : decode cX11_init 101 = .ok (.iconst 1, 1) := by decide +kernel
theorem dX11_init_102 : decode cX11_init 102 = .ok (.invokevirtual 43, 3) := by decide +kernel
theorem dX11_init_105 : decode cX11_init 105 = .ok (.aload_n 0, 1) := by decide +kernel
theorem dX11_init_106 : decode cX11_init 106 = .ok (.iconst 1, 1) := by decide +kernel
theorem dX11_init_107 : decode cX11_init 107 = .ok (.iconst 1, 1) := by decide +kernel
theorem dX11_init_108 : decode cX11_init 108 = .ok (.iconst 1, 1) := by decide +kernel
theorem dX11_init_109 : decode cX11_init 109 = .ok (.bipush 9, 2) := by decide +kernel
theorem dX11_init_111 : decode cX11_init 111 = .ok (.invokevirtual 43, 3) := by decide +kernel
theorem dX11_init_114 : decode cX11_init 114 = .ok (.aload_n 0, 1) := by decide +kernel
theorem dX11_init_115 : decode cX11_init 115 = .ok (.iconst 2, 1) := by decide +kernel
theorem dX11_init_116 : decode cX11_init 116 = .ok (.iconst 5, 1) := by decide +kernel
theorem dX11_init_117 : decode cX11_init 117 = .ok (.iconst 2, 1) := by decide +kernel
theorem dX11_init_118 : decode cX11_init 118 = .ok (.iconst 3, 1) := by decide +kernel
theorem dX11_init_119 : decode cX11_init 119 = .ok (.invokevirtual 43, 3) := by decide +kernel
theorem dX11_init_122 : decode cX11_init 122 = .ok (.aload_n 0, 1) := by decide +kernel
theorem dX11_init_123 : decode cX11_init 123 = .ok (.iconst 3, 1) := by decide +kernel
theorem dX11_init_124 : decode cX11_init 124 = .ok (.bipush 8, 2) := by decide +kernel
theorem dX11_init_126 : decode cX11_init 126 = .ok (.bipush 6, 2) := by decide +kernel
theorem dX11_init_128 : decode cX11_init 128 = .ok (.iconst 1, 1) := by decide +kernel
theorem dX11_init_129 : decode cX11_init 129 = .ok (.invokevirtual 43, 3) := by decide +kernel
theorem dX11_init_132 : decode cX11_init 132 = .ok (.aload_n 0, 1) := by decide +kernel
theorem dX11_init_133 : decode cX11_init 133 = .ok (.iconst 4, 1) := by decide +kernel
theorem dX11_init_134 : decode cX11_init 134 = .ok (.bipush 10, 2) := by decide +kernel
theorem dX11_init_136 : decode cX11_init 136 = .ok (.iconst 1, 1) := by decide +kernel
theorem dX11_init_137 : decode cX11_init 137 = .ok (.iconst 0, 1) := by decide +kernel
theorem dX11_init_138 : decode cX11_init 138 = .ok (.invokevirtual 43, 3) := by decide +kernel
theorem dX11_init_141 : decode cX11_init 141 = .ok (.aload_n 0, 1) := by decide +kernel
theorem dX11_init_142 : decode cX11_init 142 = .ok (.iconst 5, 1) := by decide +kernel
theorem dX11_init_143 : decode cX11_init 143 = .ok (.bipush 30, 2) := by decide +kernel
theorem dX11_init_145 : decode cX11_init 145 = .ok (.bipush 20, 2) := by decide +kernel
theorem dX11_init_147 : decode cX11_init 147 = .ok (.iconst 1, 1) := by decide +kernel
theorem dX11_init_148 : decode cX11_init 148 = .ok (.invokevirtual 43, 3) := by decide +kernel
theorem dX11_init_151 : decode cX11_init 151 = .ok (.return_, 1) := by decide +kernel
theorem dX11_pays_0 : decode cX11_pays 0 = .ok (.aload_n 0, 1) := by decide +kernel
theorem dX11_pays_1 : decode cX11_pays 1 = .ok (.getfield 13, 3) := by decide +kernel
theorem dX11_pays_4 : decode cX11_pays 4 = .ok (.sipush 234, 3) := by decide +kernel
theorem dX11_pays_7 : decode cX11_pays 7 = .ok (.iconst 4, 1) := by decide +kernel
theorem dX11_pays_8 : decode cX11_pays 8 = .ok (.iload_n 1, 1) := by decide +kernel
theorem dX11_pays_9 : decode cX11_pays 9 = .ok (.imul, 1) := by decide +kernel
theorem dX11_pays_10 : decode cX11_pays 10 = .ok (.iadd, 1) := by decide +kernel
theorem dX11_pays_11 : decode cX11_pays 11 = .ok (.iload_n 2, 1) := by decide +kernel
theorem dX11_pays_12 : decode cX11_pays 12 = .ok (.iastore, 1) := by decide +kernel
theorem dX11_pays_13 : decode cX11_pays 13 = .ok (.aload_n 0, 1) := by decide +kernel
theorem dX11_pays_14 : decode cX11_pays 14 = .ok (.getfield 13, 3) := by decide +kernel
theorem dX11_pays_17 : decode cX11_pays 17 = .ok (.sipush 234, 3) := by decide +kernel
theorem dX11_pays_20 : decode cX11_pays 20 = .ok (.iconst 4, 1) := by decide +kernel
theorem dX11_pays_21 : decode cX11_pays 21 = .ok (.iload_n 1, 1) := by decide +kernel
theorem dX11_pays_22 : decode cX11_pays 22 = .ok (.imul, 1) := by decide +kernel
theorem dX11_pays_23 : decode cX11_pays 23 = .ok (.iadd, 1) := by decide +kernel
theorem dX11_pays_24 : decode cX11_pays 24 = .ok (.iconst 1, 1) := by decide +kernel
theorem dX11_pays_25 : decode cX11_pays 25 = .ok (.iadd, 1) := by decide +kernel
theorem dX11_pays_26 : decode cX11_pays 26 = .ok (.iload_n 3, 1) := by decide +kernel
theorem dX11_pays_27 : decode cX11_pays 27 = .ok (.iastore, 1) := by decide +kernel
theorem dX11_pays_28 : decode cX11_pays 28 = .ok (.aload_n 0, 1) := by decide +kernel
theorem dX11_pays_29 : decode cX11_pays 29 = .ok (.getfield 13, 3) := by decide +kernel
theorem dX11_pays_32 : decode cX11_pays 32 = .ok (.sipush 234, 3) := by decide +kernel
theorem dX11_pays_35 : decode cX11_pays 35 = .ok (.iconst 4, 1) := by decide +kernel
theorem dX11_pays_36 : decode cX11_pays 36 = .ok (.iload_n 1, 1) := by decide +kernel
theorem dX11_pays_37 : decode cX11_pays 37 = .ok (.imul, 1) := by decide +kernel
theorem dX11_pays_38 : decode cX11_pays 38 = .ok (.iadd, 1) := by decide +kernel
theorem dX11_pays_39 : decode cX11_pays 39 = .ok (.iconst 2, 1) := by decide +kernel
theorem dX11_pays_40 : decode cX11_pays 40 = .ok (.iadd, 1) := by decide +kernel
theorem dX11_pays_41 : decode cX11_pays 41 = .ok (.iload 4, 2) := by decide +kernel
theorem dX11_pays_43 : decode cX11_pays 43 = .ok (.iastore, 1) := by decide +kernel
theorem dX11_pays_44 : decode cX11_pays 44 = .ok (.aload_n 0, 1) := by decide +kernel
theorem dX11_pays_45 : decode cX11_pays 45 = .ok (.getfield 13, 3) := by decide +kernel
theorem dX11_pays_48 : decode cX11_pays 48 = .ok (.sipush 234, 3) := by decide +kernel
theorem dX11_pays_51 : decode cX11_pays 51 = .ok (.iconst 4, 1) := by decide +kernel
theorem dX11_pays_52 : decode cX11_pays 52 = .ok (.iload_n 1, 1) := by decide +kernel
theorem dX11_pays_53 : decode cX11_pays 53 = .ok (.imul, 1) := by decide +kernel
theorem dX11_pays_54 : decode cX11_pays 54 = .ok (.iadd, 1) := by decide +kernel
theorem dX11_pays_55 : decode cX11_pays 55 = .ok (.iconst 3, 1) := by decide +kernel
theorem dX11_pays_56 : decode cX11_pays 56 = .ok (.iadd, 1) := by decide +kernel
theorem dX11_pays_57 : decode cX11_pays 57 = .ok (.sipush 999, 3) := by decide +kernel
theorem dX11_pays_60 : decode cX11_pays 60 = .ok (.iastore, 1) := by decide +kernel
theorem dX11_pays_61 : decode cX11_pays 61 = .ok (.return_, 1) := by decide +kernel
theorem dX11_refuse_0 : decode cX11_refuse 0 = .ok (.aload_n 0, 1) := by decide +kernel
theorem dX11_refuse_1 : decode cX11_refuse 1 = .ok (.getfield 7, 3) := by decide +kernel
theorem dX11_refuse_4 : decode cX11_refuse 4 = .ok (.iload_n 1, 1) := by decide +kernel
theorem dX11_refuse_5 : decode cX11_refuse 5 = .ok (.ineg, 1) := by decide +kernel
theorem dX11_refuse_6 : decode cX11_refuse 6 = .ok (.dup2, 1) := by decide +kernel
theorem dX11_refuse_7 : decode cX11_refuse 7 = .ok (.iaload, 1) := by decide +kernel
theorem dX11_refuse_8 : decode cX11_refuse 8 = .ok (.iconst 1, 1) := by decide +kernel
theorem dX11_refuse_9 : decode cX11_refuse 9 = .ok (.iadd, 1) := by decide +kernel
theorem dX11_refuse_10 : decode cX11_refuse 10 = .ok (.iastore, 1) := by decide +kernel
theorem dX11_refuse_11 : decode cX11_refuse 11 = .ok (.iload_n 1, 1) := by decide +kernel
theorem dX11_refuse_12 : decode cX11_refuse 12 = .ok (.ireturn, 1) := by decide +kernel
theorem dX11_isIn_0 : decode cX11_isIn 0 = .ok (.iload_n 0, 1) := by decide +kernel
theorem dX11_isIn_1 : decode cX11_isIn 1 = .ok (.ifCond .lt 12, 3) := by decide +kernel
theorem dX11_isIn_4 : decode cX11_isIn 4 = .ok (.iload_n 0, 1) := by decide +kernel
theorem dX11_isIn_5 : decode cX11_isIn 5 = .ok (.iload_n 1, 1) := by decide +kernel
theorem dX11_isIn_6 : decode cX11_isIn 6 = .ok (.if_icmp .ge 7, 3) := by decide +kernel
theorem dX11_isIn_9 : decode cX11_isIn 9 = .ok (.iconst 1, 1) := by decide +kernel
theorem dX11_isIn_10 : decode cX11_isIn 10 = .ok (.goto 4, 3) := by decide +kernel
theorem dX11_isIn_13 : decode cX11_isIn 13 = .ok (.iconst 0, 1) := by decide +kernel
theorem dX11_isIn_14 : decode cX11_isIn 14 = .ok (.ireturn, 1) := by decide +kernel
theorem dX11_within_0 : decode cX11_within 0 = .ok (.iload_n 0, 1) := by decide +kernel
theorem dX11_within_1 : decode cX11_within 1 = .ok (.iload_n 1, 1) := by decide +kernel
theorem dX11_within_2 : decode cX11_within 2 = .ok (.if_icmp .ge 8, 3) := by decide +kernel
theorem dX11_within_5 : decode cX11_within 5 = .ok (.bipush (-4), 2) := by decide +kernel
theorem dX11_within_7 : decode cX11_within 7 = .ok (.goto 14, 3) := by decide +kernel
theorem dX11_within_10 : decode cX11_within 10 = .ok (.iload_n 0, 1) := by decide +kernel
theorem dX11_within_11 : decode cX11_within 11 = .ok (.iload_n 2, 1) := by decide +kernel
theorem dX11_within_12 : decode cX11_within 12 = .ok (.if_icmp .le 8, 3) := by decide +kernel
theorem dX11_within_15 : decode cX11_within 15 = .ok (.bipush (-6), 2) := by decide +kernel
theorem dX11_within_17 : decode cX11_within 17 = .ok (.goto 4, 3) := by decide +kernel
theorem dX11_within_20 : decode cX11_within 20 = .ok (.iconst 0, 1) := by decide +kernel
theorem dX11_within_21 : decode cX11_within 21 = .ok (.ireturn, 1) := by decide +kernel
set_option maxRecDepth 20000 in
theorem ggX11_isBook_X11_isIn : GoodIn wsX11_isBook wsX11_isIn := goodIn_r _ [4] (by decide +kernel) (by decide +kernel)
set_option maxRecDepth 20000 in
theorem gX11_isBook_X11_isIn : GoodIn wsX11_isBook (va_wsS RX11 47 yX11_isIn wsX11_isIn) := goodIn_app (goodIn_of _ (by decide +kernel)) ggX11_isBook_X11_isIn
theorem dX11_isBook_0 : decode cX11_isBook 0 = .ok (.iload_n 0, 1) := by decide +kernel
theorem dX11_isBook_1 : decode cX11_isBook 1 = .ok (.bipush 6, 2) := by decide +kernel
theorem dX11_isBook_3 : decode cX11_isBook 3 = .ok (.invokestatic 47, 3) := by decide +kernel
theorem dX11_isBook_6 : decode cX11_isBook 6 = .ok (.ireturn, 1) := by decide +kernel
theorem dX11_get_0 : decode cX11_get 0 = .ok (.aload_n 0, 1) := by decide +kernel
theorem dX11_get_1 : decode cX11_get 1 = .ok (.getfield 13, 3) := by decide +kernel
theorem dX11_get_4 : decode cX11_get 4 = .ok (.bipush 30, 2) := by decide +kernel
theorem dX11_get_6 : decode cX11_get 6 = .ok (.iload_n 1, 1) := by decide +kernel
theorem dX11_get_7 : decode cX11_get 7 = .ok (.imul, 1) := by decide +kernel
theorem dX11_get_8 : decode cX11_get 8 = .ok (.iconst 3, 1) := by decide +kernel
theorem dX11_get_9 : decode cX11_get 9 = .ok (.iload_n 2, 1) := by decide +kernel
theorem dX11_get_10 : decode cX11_get 10 = .ok (.imul, 1) := by decide +kernel
theorem dX11_get_11 : decode cX11_get 11 = .ok (.iadd, 1) := by decide +kernel
theorem dX11_get_12 : decode cX11_get 12 = .ok (.iload_n 3, 1) := by decide +kernel
theorem dX11_get_13 : decode cX11_get 13 = .ok (.iadd, 1) := by decide +kernel
theorem dX11_get_14 : decode cX11_get 14 = .ok (.iaload, 1) := by decide +kernel
theorem dX11_get_15 : decode cX11_get 15 = .ok (.ireturn, 1) := by decide +kernel
theorem dX11_lesser_0 : decode cX11_lesser 0 = .ok (.iload_n 0, 1) := by decide +kernel
theorem dX11_lesser_1 : decode cX11_lesser 1 = .ok (.iload_n 1, 1) := by decide +kernel
theorem dX11_lesser_2 : decode cX11_lesser 2 = .ok (.if_icmp .ge 7, 3) := by decide +kernel
theorem dX11_lesser_5 : decode cX11_lesser 5 = .ok (.iload_n 0, 1) := by decide +kernel
theorem dX11_lesser_6 : decode cX11_lesser 6 = .ok (.goto 4, 3) := by decide +kernel
theorem dX11_lesser_9 : decode cX11_lesser 9 = .ok (.iload_n 1, 1) := by decide +kernel
theorem dX11_lesser_10 : decode cX11_lesser 10 = .ok (.ireturn, 1) := by decide +kernel
theorem dX11_bits_0 : decode cX11_bits 0 = .ok (.iconst 0, 1) := by decide +kernel
theorem dX11_bits_1 : decode cX11_bits 1 = .ok (.istore_n 1, 1) := by decide +kernel
theorem dX11_bits_2 : decode cX11_bits 2 = .ok (.iload_n 0, 1) := by decide +kernel
theorem dX11_bits_3 : decode cX11_bits 3 = .ok (.istore_n 2, 1) := by decide +kernel
theorem dX11_bits_4 : decode cX11_bits 4 = .ok (.iload_n 2, 1) := by decide +kernel
theorem dX11_bits_5 : decode cX11_bits 5 = .ok (.ifCond .le 16, 3) := by decide +kernel
theorem dX11_bits_8 : decode cX11_bits 8 = .ok (.iload_n 1, 1) := by decide +kernel
theorem dX11_bits_9 : decode cX11_bits 9 = .ok (.iload_n 2, 1) := by decide +kernel
theorem dX11_bits_10 : decode cX11_bits 10 = .ok (.iconst 1, 1) := by decide +kernel
theorem dX11_bits_11 : decode cX11_bits 11 = .ok (.iand, 1) := by decide +kernel
theorem dX11_bits_12 : decode cX11_bits 12 = .ok (.iadd, 1) := by decide +kernel
theorem dX11_bits_13 : decode cX11_bits 13 = .ok (.istore_n 1, 1) := by decide +kernel
theorem dX11_bits_14 : decode cX11_bits 14 = .ok (.iload_n 2, 1) := by decide +kernel
theorem dX11_bits_15 : decode cX11_bits 15 = .ok (.iconst 1, 1) := by decide +kernel
theorem dX11_bits_16 : decode cX11_bits 16 = .ok (.ishr, 1) := by decide +kernel
theorem dX11_bits_17 : decode cX11_bits 17 = .ok (.istore_n 2, 1) := by decide +kernel
theorem dX11_bits_18 : decode cX11_bits 18 = .ok (.goto (-14), 3) := by decide +kernel
theorem dX11_bits_21 : decode cX11_bits 21 = .ok (.iload_n 1, 1) := by decide +kernel
theorem dX11_bits_22 : decode cX11_bits 22 = .ok (.ireturn, 1) := by decide +kernel
set_option maxRecDepth 20000 in
theorem ggX11_feed_X11_refuse : GoodIn wsX11_feed wsX11_refuse := goodIn_r _ [8, 9, 10, 11, 12, 13, 14, 15, 16, 17, 18, 19, 20, 21, 22, 23, 24, 25, 26, 27, 28] (by decide +kernel) (by decide +kernel)
set_option maxRecDepth 20000 in
theorem gX11_feed_X11_refuse : GoodIn wsX11_feed (wsV RX11 51 RX11 yX11_refuse wsX11_refuse) := goodIn_app (goodIn_of _ (by decide +kernel)) ggX11_feed_X11_refuse
theorem dX11_feed_0 : decode cX11_feed 0 = .ok (.iload_n 1, 1) := by decide +kernel
theorem dX11_feed_1 : decode cX11_feed 1 = .ok (.iconst 1, 1) := by decide +kernel
theorem dX11_feed_2 : decode cX11_feed 2 = .ok (.if_icmp .ge 10, 3) := by decide +kernel
theorem dX11_feed_5 : decode cX11_feed 5 = .ok (.aload_n 0, 1) := by decide +kernel
theorem dX11_feed_6 : decode cX11_feed 6 = .ok (.bipush (-4), 2) := by decide +kernel
theorem dX11_feed_8 : decode cX11_feed 8 = .ok (.invokevirtual 51, 3) := by decide +kernel
theorem dX11_feed_11 : decode cX11_feed 11 = .ok (.ireturn, 1) := by decide +kernel
theorem dX11_feed_12 : decode cX11_feed 12 = .ok (.iload_n 1, 1) := by decide +kernel
theorem dX11_feed_13 : decode cX11_feed 13 = .ok (.bipush 8, 2) := by decide +kernel
theorem dX11_feed_15 : decode cX11_feed 15 = .ok (.if_icmp .gt 14, 3) := by decide +kernel
theorem dX11_feed_18 : decode cX11_feed 18 = .ok (.aload_n 0, 1) := by decide +kernel
theorem dX11_feed_19 : decode cX11_feed 19 = .ok (.getfield 55, 3) := by decide +kernel
theorem dX11_feed_22 : decode cX11_feed 22 = .ok (.iload_n 1, 1) := by decide +kernel
theorem dX11_feed_23 : decode cX11_feed 23 = .ok (.iadd, 1) := by decide +kernel
theorem dX11_feed_24 : decode cX11_feed 24 = .ok (.bipush 16, 2) := by decide +kernel
theorem dX11_feed_26 : decode cX11_feed 26 = .ok (.if_icmp .le 10, 3) := by decide +kernel
theorem dX11_feed_29 : decode cX11_feed 29 = .ok (.aload_n 0, 1) := by decide +kernel
theorem dX11_feed_30 : decode cX11_feed 30 = .ok (.bipush (-6), 2) := by decide +kernel
theorem dX11_feed_32 : decode cX11_feed 32 = .ok (.invokevirtual 51, 3) := by decide +kernel
theorem dX11_feed_35 : decode cX11_feed 35 = .ok (.ireturn, 1) := by decide +kernel
theorem dX11_feed_36 : decode cX11_feed 36 = .ok (.iconst 0, 1) := by decide +kernel
theorem dX11_feed_37 : decode cX11_feed 37 = .ok (.istore 4, 2) := by decide +kernel
theorem dX11_feed_39 : decode cX11_feed 39 = .ok (.iload 4, 2) := by decide +kernel
theorem dX11_feed_41 : decode cX11_feed 41 = .ok (.iload_n 1, 1) := by decide +kernel
theorem dX11_feed_42 : decode cX11_feed 42 = .ok (.if_icmp .ge 40, 3) := by decide +kernel
theorem dX11_feed_45 : decode cX11_feed 45 = .ok (.aload_n 0, 1) := by decide +kernel
theorem dX11_feed_46 : decode cX11_feed 46 = .ok (.getfield 19, 3) := by decide +kernel
theorem dX11_feed_49 : decode cX11_feed 49 = .ok (.aload_n 0, 1) := by decide +kernel
theorem dX11_feed_50 : decode cX11_feed 50 = .ok (.getfield 55, 3) := by decide +kernel
theorem dX11_feed_53 : decode cX11_feed 53 = .ok (.lload_n 2, 1) := by decide +kernel
theorem dX11_feed_54 : decode cX11_feed 54 = .ok (.bipush 8, 2) := by decide +kernel
theorem dX11_feed_56 : decode cX11_feed 56 = .ok (.iload 4, 2) := by decide +kernel
theorem dX11_feed_58 : decode cX11_feed 58 = .ok (.imul, 1) := by decide +kernel
theorem dX11_feed_59 : decode cX11_feed 59 = .ok (.lshr, 1) := by decide +kernel
theorem dX11_feed_60 : decode cX11_feed 60 = .ok (.ldc2_w 59, 3) := by decide +kernel
theorem dX11_feed_63 : decode cX11_feed 63 = .ok (.land, 1) := by decide +kernel
theorem dX11_feed_64 : decode cX11_feed 64 = .ok (.l2i, 1) := by decide +kernel
theorem dX11_feed_65 : decode cX11_feed 65 = .ok (.iastore, 1) := by decide +kernel
theorem dX11_feed_66 : decode cX11_feed 66 = .ok (.aload_n 0, 1) := by decide +kernel
theorem dX11_feed_67 : decode cX11_feed 67 = .ok (.dup, 1) := by decide +kernel
theorem dX11_feed_68 : decode cX11_feed 68 = .ok (.getfield 55, 3) := by decide +kernel
theorem dX11_feed_71 : decode cX11_feed 71 = .ok (.iconst 1, 1) := by decide +kernel
theorem dX11_feed_72 : decode cX11_feed 72 = .ok (.iadd, 1) := by decide +kernel
theorem dX11_feed_73 : decode cX11_feed 73 = .ok (.putfield 55, 3) := by decide +kernel
theorem dX11_feed_76 : decode cX11_feed 76 = .ok (.iinc 4 1, 3) := by decide +kernel
theorem dX11_feed_79 : decode cX11_feed 79 = .ok (.goto (-40), 3) := by decide +kernel
theorem dX11_feed_82 : decode cX11_feed 82 = .ok (.aload_n 0, 1) := by decide +kernel
theorem dX11_feed_83 : decode cX11_feed 83 = .ok (.getfield 55, 3) := by decide +kernel
theorem dX11_feed_86 : decode cX11_feed 86 = .ok (.ireturn, 1) := by decide +kernel
theorem dX11_sign_0 : decode cX11_sign 0 = .ok (.aload_n 0, 1) := by decide +kernel
theorem dX11_sign_1 : decode cX11_sign 1 = .ok (.getfield 61, 3) := by decide +kernel
theorem dX11_sign_4 : decode cX11_sign 4 = .ok (.aload_n 0, 1) := by decide +kernel
theorem dX11_sign_5 : decode cX11_sign 5 = .ok (.getfield 55, 3) := by decide +kernel
theorem dX11_sign_8 : decode cX11_sign 8 = .ok (.if_icmp .lt 7, 3) := by decide +kernel
theorem dX11_sign_11 : decode cX11_sign 11 = .ok (.iconst (-1), 1) := by decide +kernel
theorem dX11_sign_12 : decode cX11_sign 12 = .ok (.goto 12, 3) := by decide +kernel
theorem dX11_sign_15 : decode cX11_sign 15 = .ok (.aload_n 0, 1) := by decide +kernel
theorem dX11_sign_16 : decode cX11_sign 16 = .ok (.getfield 19, 3) := by decide +kernel
theorem dX11_sign_19 : decode cX11_sign 19 = .ok (.aload_n 0, 1) := by decide +kernel
theorem dX11_sign_20 : decode cX11_sign 20 = .ok (.getfield 61, 3) := by decide +kernel
theorem dX11_sign_23 : decode cX11_sign 23 = .ok (.iaload, 1) := by decide +kernel
theorem dX11_sign_24 : decode cX11_sign 24 = .ok (.ireturn, 1) := by decide +kernel
theorem dX11_markOf_0 : decode cX11_markOf 0 = .ok (.iload_n 0, 1) := by decide +kernel
theorem dX11_markOf_1 : decode cX11_markOf 1 = .ok (.bipush 98, 2) := by decide +kernel
theorem dX11_markOf_3 : decode cX11_markOf 3 = .ok (.if_icmp .ne 7, 3) := by decide +kernel
theorem dX11_markOf_6 : decode cX11_markOf 6 = .ok (.iconst 0, 1) := by decide +kernel
theorem dX11_markOf_7 : decode cX11_markOf 7 = .ok (.goto 35, 3) := by decide +kernel
theorem dX11_markOf_10 : decode cX11_markOf 10 = .ok (.iload_n 0, 1) := by decide +kernel
theorem dX11_markOf_11 : decode cX11_markOf 11 = .ok (.bipush 100, 2) := by decide +kernel
theorem dX11_markOf_13 : decode cX11_markOf 13 = .ok (.if_icmp .ne 7, 3) := by decide +kernel
theorem dX11_markOf_16 : decode cX11_markOf 16 = .ok (.iconst 1, 1) := by decide +kernel
theorem dX11_markOf_17 : decode cX11_markOf 17 = .ok (.goto 25, 3) := by decide +kernel
theorem dX11_markOf_20 : decode cX11_markOf 20 = .ok (.iload_n 0, 1) := by decide +kernel
theorem dX11_markOf_21 : decode cX11_markOf 21 = .ok (.bipush 109, 2) := by decide +kernel
theorem dX11_markOf_23 : decode cX11_markOf 23 = .ok (.if_icmp .ne 7, 3) := by decide +kernel
theorem dX11_markOf_26 : decode cX11_markOf 26 = .ok (.iconst 2, 1) := by decide +kernel
theorem dX11_markOf_27 : decode cX11_markOf 27 = .ok (.goto 15, 3) := by decide +kernel
theorem dX11_markOf_30 : decode cX11_markOf 30 = .ok (.iload_n 0, 1) := by decide +kernel
theorem dX11_markOf_31 : decode cX11_markOf 31 = .ok (.bipush 114, 2) := by decide +kernel
theorem dX11_markOf_33 : decode cX11_markOf 33 = .ok (.if_icmp .ne 7, 3) := by decide +kernel
theorem dX11_markOf_36 : decode cX11_markOf 36 = .ok (.iconst 3, 1) := by decide +kernel
theorem dX11_markOf_37 : decode cX11_markOf 37 = .ok (.goto 5, 3) := by decide +kernel
theorem dX11_markOf_40 : decode cX11_markOf 40 = .ok (.bipush (-9), 2) := by decide +kernel
theorem dX11_markOf_42 : decode cX11_markOf 42 = .ok (.ireturn, 1) := by decide +kernel
set_option maxRecDepth 20000 in
theorem ggX11_reads_X11_sign : GoodIn wsX11_reads wsX11_sign := goodIn_r _ [8, 1, 3, 9, 13, 14, 15, 16, 17, 18, 19, 20, 21, 22, 23, 24, 25, 26, 27, 28, 29, 30, 31] (by decide +kernel) (by decide +kernel)
set_option maxRecDepth 20000 in
theorem gX11_reads_X11_sign : GoodIn wsX11_reads (wsV RX11 64 RX11 yX11_sign wsX11_sign) := goodIn_app (goodIn_of _ (by decide +kernel)) ggX11_reads_X11_sign
set_option maxRecDepth 20000 in
theorem ggX11_reads_X11_markOf : GoodIn wsX11_reads wsX11_markOf := goodIn_r _ [12] (by decide +kernel) (by decide +kernel)
set_option maxRecDepth 20000 in
theorem gX11_reads_X11_markOf : GoodIn wsX11_reads (va_wsS RX11 68 yX11_markOf wsX11_markOf) := goodIn_app (goodIn_of _ (by decide +kernel)) ggX11_reads_X11_markOf
theorem dX11_reads_0 : decode cX11_reads 0 = .ok (.aload_n 0, 1) := by decide +kernel
theorem dX11_reads_1 : decode cX11_reads 1 = .ok (.iconst 0, 1) := by decide +kernel
theorem dX11_reads_2 : decode cX11_reads 2 = .ok (.putfield 61, 3) := by decide +kernel
theorem dX11_reads_5 : decode cX11_reads 5 = .ok (.aload_n 0, 1) := by decide +kernel
theorem dX11_reads_6 : decode cX11_reads 6 = .ok (.invokevirtual 64, 3) := by decide +kernel
theorem dX11_reads_9 : decode cX11_reads 9 = .ok (.bipush 97, 2) := by decide +kernel
theorem dX11_reads_11 : decode cX11_reads 11 = .ok (.if_icmp .lt 12, 3) := by decide +kernel
theorem dX11_reads_14 : decode cX11_reads 14 = .ok (.aload_n 0, 1) := by decide +kernel
theorem dX11_reads_15 : decode cX11_reads 15 = .ok (.invokevirtual 64, 3) := by decide +kernel
theorem dX11_reads_18 : decode cX11_reads 18 = .ok (.bipush 104, 2) := by decide +kernel
theorem dX11_reads_20 : decode cX11_reads 20 = .ok (.if_icmp .le 5, 3) := by decide +kernel
theorem dX11_reads_23 : decode cX11_reads 23 = .ok (.iconst 0, 1) := by decide +kernel
theorem dX11_reads_24 : decode cX11_reads 24 = .ok (.ireturn, 1) := by decide +kernel
theorem dX11_reads_25 : decode cX11_reads 25 = .ok (.aload_n 0, 1) := by decide +kernel
theorem dX11_reads_26 : decode cX11_reads 26 = .ok (.getfield 13, 3) := by decide +kernel
theorem dX11_reads_29 : decode cX11_reads 29 = .ok (.iload_n 1, 1) := by decide +kernel
theorem dX11_reads_30 : decode cX11_reads 30 = .ok (.aload_n 0, 1) := by decide +kernel
theorem dX11_reads_31 : decode cX11_reads 31 = .ok (.invokevirtual 64, 3) := by decide +kernel
theorem dX11_reads_34 : decode cX11_reads 34 = .ok (.bipush 97, 2) := by decide +kernel
theorem dX11_reads_36 : decode cX11_reads 36 = .ok (.isub, 1) := by decide +kernel
theorem dX11_reads_37 : decode cX11_reads 37 = .ok (.iastore, 1) := by decide +kernel
theorem dX11_reads_38 : decode cX11_reads 38 = .ok (.aload_n 0, 1) := by decide +kernel
theorem dX11_reads_39 : decode cX11_reads 39 = .ok (.getfield 13, 3) := by decide +kernel
theorem dX11_reads_42 : decode cX11_reads 42 = .ok (.iload_n 1, 1) := by decide +kernel
theorem dX11_reads_43 : decode cX11_reads 43 = .ok (.iconst 1, 1) := by decide +kernel
theorem dX11_reads_44 : decode cX11_reads 44 = .ok (.iadd, 1) := by decide +kernel
theorem dX11_reads_45 : decode cX11_reads 45 = .ok (.iconst 0, 1) := by decide +kernel
theorem dX11_reads_46 : decode cX11_reads 46 = .ok (.iastore, 1) := by decide +kernel
theorem dX11_reads_47 : decode cX11_reads 47 = .ok (.aload_n 0, 1) := by decide +kernel
theorem dX11_reads_48 : decode cX11_reads 48 = .ok (.getfield 13, 3) := by decide +kernel
theorem dX11_reads_51 : decode cX11_reads 51 = .ok (.iload_n 1, 1) := by decide +kernel
theorem dX11_reads_52 : decode cX11_reads 52 = .ok (.iconst 2, 1) := by decide +kernel
theorem dX11_reads_53 : decode cX11_reads 53 = .ok (.iadd, 1) := by decide +kernel
theorem dX11_reads_54 : decode cX11_reads 54 = .ok (.iconst 0, 1) := by decide +kernel
theorem dX11_reads_55 : decode cX11_reads 55 = .ok (.iastore, 1) := by decide +kernel
theorem dX11_reads_56 : decode cX11_reads 56 = .ok (.aload_n 0, 1) := by decide +kernel
theorem dX11_reads_57 : decode cX11_reads 57 = .ok (.dup, 1) := by decide +kernel
theorem dX11_reads_58 : decode cX11_reads 58 = .ok (.getfield 61, 3) := by decide +kernel
theorem dX11_reads_61 : decode cX11_reads 61 = .ok (.iconst 1, 1) := by decide +kernel
theorem dX11_reads_62 : decode cX11_reads 62 = .ok (.iadd, 1) := by decide +kernel
theorem dX11_reads_63 : decode cX11_reads 63 = .ok (.putfield 61, 3) := by decide +kernel
theorem dX11_reads_66 : decode cX11_reads 66 = .ok (.iconst 0, 1) := by decide +kernel
theorem dX11_reads_67 : decode cX11_reads 67 = .ok (.istore_n 2, 1) := by decide +kernel
theorem dX11_reads_68 : decode cX11_reads 68 = .ok (.aload_n 0, 1) := by decide +kernel
theorem dX11_reads_69 : decode cX11_reads 69 = .ok (.invokevirtual 64, 3) := by decide +kernel
theorem dX11_reads_72 : decode cX11_reads 72 = .ok (.invokestatic 68, 3) := by decide +kernel
theorem dX11_reads_75 : decode cX11_reads 75 = .ok (.iload_n 2, 1) := by decide +kernel
theorem dX11_reads_76 : decode cX11_reads 76 = .ok (.if_icmp .lt 42, 3) := by decide +kernel
theorem dX11_reads_79 : decode cX11_reads 79 = .ok (.aload_n 0, 1) := by decide +kernel
theorem dX11_reads_80 : decode cX11_reads 80 = .ok (.invokevirtual 64, 3) := by decide +kernel
theorem dX11_reads_83 : decode cX11_reads 83 = .ok (.invokestatic 68, 3) := by decide +kernel
theorem dX11_reads_86 : decode cX11_reads 86 = .ok (.iconst 1, 1) := by decide +kernel
theorem dX11_reads_87 : decode cX11_reads 87 = .ok (.iadd, 1) := by decide +kernel
theorem dX11_reads_88 : decode cX11_reads 88 = .ok (.istore_n 2, 1) := by decide +kernel
theorem dX11_reads_89 : decode cX11_reads 89 = .ok (.aload_n 0, 1) := by decide +kernel
theorem dX11_reads_90 : decode cX11_reads 90 = .ok (.getfield 13, 3) := by decide +kernel
theorem dX11_reads_93 : decode cX11_reads 93 = .ok (.iload_n 1, 1) := by decide +kernel
theorem dX11_reads_94 : decode cX11_reads 94 = .ok (.iconst 1, 1) := by decide +kernel
theorem dX11_reads_95 : decode cX11_reads 95 = .ok (.iadd, 1) := by decide +kernel
theorem dX11_reads_96 : decode cX11_reads 96 = .ok (.dup2, 1) := by decide +kernel
theorem dX11_reads_97 : decode cX11_reads 97 = .ok (.iaload, 1) := by decide +kernel
theorem dX11_reads_98 : decode cX11_reads 98 = .ok (.iconst 1, 1) := by decide +kernel
theorem dX11_reads_99 : decode cX11_reads 99 = .ok (.iload_n 2, 1) := by decide +kernel
theorem dX11_reads_100 : decode cX11_reads 100 = .ok (.iconst 1, 1) := by decide +kernel
theorem dX11_reads_101 : decode cX11_reads 101 = .ok (.isub, 1) := by decide +kernel
theorem dX11_reads_102 : decode cX11_reads 102 = .ok (.ishl, 1) := by decide +kernel
theorem dX11_reads_103 : decode cX11_reads 103 = .ok (.ior, 1) := by decide +kernel
theorem dX11_reads_104 : decode cX11_reads 104 = .ok (.iastore, 1) := by decide +kernel
theorem dX11_reads_105 : decode cX11_reads 105 = .ok (.aload_n 0, 1) := by decide +kernel
theorem dX11_reads_106 : decode cX11_reads 106 = .ok (.dup, 1) := by decide +kernel
theorem dX11_reads_107 : decode cX11_reads 107 = .ok (.getfield 61, 3) := by decide +kernel
theorem dX11_reads_110 : decode cX11_reads 110 = .ok (.iconst 1, 1) := by decide +kernel
theorem dX11_reads_111 : decode cX11_reads 111 = .ok (.iadd, 1) := by decide +kernel
theorem dX11_reads_112 : decode cX11_reads 112 = .ok (.putfield 61, 3) := by decide +kernel
theorem dX11_reads_115 : decode cX11_reads 115 = .ok (.goto (-47), 3) := by decide +kernel
theorem dX11_reads_118 : decode cX11_reads 118 = .ok (.aload_n 0, 1) := by decide +kernel
theorem dX11_reads_119 : decode cX11_reads 119 = .ok (.invokevirtual 64, 3) := by decide +kernel
theorem dX11_reads_122 : decode cX11_reads 122 = .ok (.bipush 58, 2) := by decide +kernel
theorem dX11_reads_124 : decode cX11_reads 124 = .ok (.if_icmp .eq 5, 3) := by decide +kernel
theorem dX11_reads_127 : decode cX11_reads 127 = .ok (.iconst 0, 1) := by decide +kernel
theorem dX11_reads_128 : decode cX11_reads 128 = .ok (.ireturn, 1) := by decide +kernel
theorem dX11_reads_129 : decode cX11_reads 129 = .ok (.aload_n 0, 1) := by decide +kernel
theorem dX11_reads_130 : decode cX11_reads 130 = .ok (.dup, 1) := by decide +kernel
theorem dX11_reads_131 : decode cX11_reads 131 = .ok (.getfield 61, 3) := by decide +kernel
theorem dX11_reads_134 : decode cX11_reads 134 = .ok (.iconst 1, 1) := by decide +kernel
theorem dX11_reads_135 : decode cX11_reads 135 = .ok (.iadd, 1) := by decide +kernel
theorem dX11_reads_136 : decode cX11_reads 136 = .ok (.putfield 61, 3) := by decide +kernel
theorem dX11_reads_139 : decode cX11_reads 139 = .ok (.iconst 0, 1) := by decide +kernel
theorem dX11_reads_140 : decode cX11_reads 140 = .ok (.istore_n 3, 1) := by decide +kernel
theorem dX11_reads_141 : decode cX11_reads 141 = .ok (.iload_n 3, 1) := by decide +kernel
theorem dX11_reads_142 : decode cX11_reads 142 = .ok (.iconst 3, 1) := by decide +kernel
theorem dX11_reads_143 : decode cX11_reads 143 = .ok (.if_icmp .ge 64, 3) := by decide +kernel
theorem dX11_reads_146 : decode cX11_reads 146 = .ok (.aload_n 0, 1) := by decide +kernel
theorem dX11_reads_147 : decode cX11_reads 147 = .ok (.invokevirtual 64, 3) := by decide +kernel
theorem dX11_reads_150 : decode cX11_reads 150 = .ok (.bipush 48, 2) := by decide +kernel
theorem dX11_reads_152 : decode cX11_reads 152 = .ok (.if_icmp .lt 55, 3) := by decide +kernel
theorem dX11_reads_155 : decode cX11_reads 155 = .ok (.aload_n 0, 1) := by decide +kernel
theorem dX11_reads_156 : decode cX11_reads 156 = .ok (.invokevirtual 64, 3) := by decide +kernel
theorem dX11_reads_159 : decode cX11_reads 159 = .ok (.bipush 57, 2) := by decide +kernel
theorem dX11_reads_161 : decode cX11_reads 161 = .ok (.if_icmp .gt 46, 3) := by decide +kernel
theorem dX11_reads_164 : decode cX11_reads 164 = .ok (.aload_n 0, 1) := by decide +kernel
theorem dX11_reads_165 : decode cX11_reads 165 = .ok (.getfield 13, 3) := by decide +kernel
theorem dX11_reads_168 : decode cX11_reads 168 = .ok (.iload_n 1, 1) := by decide +kernel
theorem dX11_reads_169 : decode cX11_reads 169 = .ok (.iconst 2, 1) := by decide +kernel
theorem dX11_reads_170 : decode cX11_reads 170 = .ok (.iadd, 1) := by decide +kernel
theorem dX11_reads_171 : decode cX11_reads 171 = .ok (.bipush 10, 2) := by decide +kernel
theorem dX11_reads_173 : decode cX11_reads 173 = .ok (.aload_n 0, 1) := by decide +kernel
theorem dX11_reads_174 : decode cX11_reads 174 = .ok (.getfield 13, 3) := by decide +kernel
theorem dX11_reads_177 : decode cX11_reads 177 = .ok (.iload_n 1, 1) := by decide +kernel
theorem dX11_reads_178 : decode cX11_reads 178 = .ok (.iconst 2, 1) := by decide +kernel
theorem dX11_reads_179 : decode cX11_reads 179 = .ok (.iadd, 1) := by decide +kernel
theorem dX11_reads_180 : decode cX11_reads 180 = .ok (.iaload, 1) := by decide +kernel
theorem dX11_reads_181 : decode cX11_reads 181 = .ok (.imul, 1) := by decide +kernel
theorem dX11_reads_182 : decode cX11_reads 182 = .ok (.aload_n 0, 1) := by decide +kernel
theorem dX11_reads_183 : decode cX11_reads 183 = .ok (.invokevirtual 64, 3) := by decide +kernel
theorem dX11_reads_186 : decode cX11_reads 186 = .ok (.iadd, 1) := by decide +kernel
theorem dX11_reads_187 : decode cX11_reads 187 = .ok (.bipush 48, 2) := by decide +kernel
theorem dX11_reads_189 : decode cX11_reads 189 = .ok (.isub, 1) := by decide +kernel
theorem dX11_reads_190 : decode cX11_reads 190 = .ok (.iastore, 1) := by decide +kernel
theorem dX11_reads_191 : decode cX11_reads 191 = .ok (.aload_n 0, 1) := by decide +kernel
theorem dX11_reads_192 : decode cX11_reads 192 = .ok (.dup, 1) := by decide +kernel
theorem dX11_reads_193 : decode cX11_reads 193 = .ok (.getfield 61, 3) := by decide +kernel
theorem dX11_reads_196 : decode cX11_reads 196 = .ok (.iconst 1, 1) := by decide +kernel
theorem dX11_reads_197 : decode cX11_reads 197 = .ok (.iadd, 1) := by decide +kernel
theorem dX11_reads_198 : decode cX11_reads 198 = .ok (.putfield 61, 3) := by decide +kernel
theorem dX11_reads_201 : decode cX11_reads 201 = .ok (.iinc 3 1, 3) := by decide +kernel
theorem dX11_reads_204 : decode cX11_reads 204 = .ok (.goto (-63), 3) := by decide +kernel
theorem dX11_reads_207 : decode cX11_reads 207 = .ok (.iload_n 3, 1) := by decide +kernel
theorem dX11_reads_208 : decode cX11_reads 208 = .ok (.ifCond .le 18, 3) := by decide +kernel
theorem dX11_reads_211 : decode cX11_reads 211 = .ok (.aload_n 0, 1) := by decide +kernel
theorem dX11_reads_212 : decode cX11_reads 212 = .ok (.getfield 61, 3) := by decide +kernel
theorem dX11_reads_215 : decode cX11_reads 215 = .ok (.aload_n 0, 1) := by decide +kernel
theorem dX11_reads_216 : decode cX11_reads 216 = .ok (.getfield 55, 3) := by decide +kernel
theorem dX11_reads_219 : decode cX11_reads 219 = .ok (.if_icmp .ne 7, 3) := by decide +kernel
theorem dX11_reads_222 : decode cX11_reads 222 = .ok (.iconst 1, 1) := by decide +kernel
theorem dX11_reads_223 : decode cX11_reads 223 = .ok (.goto 4, 3) := by decide +kernel
theorem dX11_reads_226 : decode cX11_reads 226 = .ok (.iconst 0, 1) := by decide +kernel
theorem dX11_reads_227 : decode cX11_reads 227 = .ok (.ireturn, 1) := by decide +kernel
set_option maxRecDepth 20000 in
theorem ggX11_rule_X11_isBook : GoodIn wsX11_rule wsX11_isBook := goodIn_r _ [7, 8, 9, 6, 10] (by decide +kernel) (by decide +kernel)
set_option maxRecDepth 20000 in
theorem gX11_rule_X11_isBook : GoodIn wsX11_rule (va_wsS RX11 71 yX11_isBook wsX11_isBook) := goodIn_app (goodIn_of _ (by decide +kernel)) ggX11_rule_X11_isBook
set_option maxRecDepth 20000 in
theorem ggX11_rule_X11_refuse : GoodIn wsX11_rule wsX11_refuse := goodIn_r _ [14, 15, 28, 29, 30, 31, 32, 33, 34, 35, 36, 37, 38, 39, 40, 41, 42, 43, 44, 45, 46] (by decide +kernel) (by decide +kernel)
set_option maxRecDepth 20000 in
theorem gX11_rule_X11_refuse : GoodIn wsX11_rule (wsV RX11 51 RX11 yX11_refuse wsX11_refuse) := goodIn_app (goodIn_of _ (by decide +kernel)) ggX11_rule_X11_refuse
set_option maxRecDepth 20000 in
theorem ggX11_rule_X11_reads : GoodIn wsX11_rule wsX11_reads := goodIn_r _ [19, 3, 1, 2, 20, 21, 22, 6, 23, 24, 25, 26, 27, 28, 29, 30, 31, 32, 33, 34, 35, 36, 37, 38, 39, 40, 41, 42, 43, 44, 45, 46] (by decide +kernel) (by decide +kernel)
set_option maxRecDepth 20000 in
theorem gX11_rule_X11_reads : GoodIn wsX11_rule (wsV RX11 75 RX11 yX11_reads wsX11_reads) := goodIn_app (goodIn_of _ (by decide +kernel)) ggX11_rule_X11_reads
theorem dX11_rule_0 : decode cX11_rule 0 = .ok (.iload_n 1, 1) := by decide +kernel
theorem dX11_rule_1 : decode cX11_rule 1 = .ok (.invokestatic 71, 3) := by decide +kernel
theorem dX11_rule_4 : decode cX11_rule 4 = .ok (.ifCond .ne 9, 3) := by decide +kernel
theorem dX11_rule_7 : decode cX11_rule 7 = .ok (.aload_n 0, 1) := by decide +kernel
theorem dX11_rule_8 : decode cX11_rule 8 = .ok (.iconst (-1), 1) := by decide +kernel
theorem dX11_rule_9 : decode cX11_rule 9 = .ok (.invokevirtual 51, 3) := by decide +kernel
theorem dX11_rule_12 : decode cX11_rule 12 = .ok (.ireturn, 1) := by decide +kernel
theorem dX11_rule_13 : decode cX11_rule 13 = .ok (.aload_n 0, 1) := by decide +kernel
theorem dX11_rule_14 : decode cX11_rule 14 = .ok (.getfield 13, 3) := by decide +kernel
theorem dX11_rule_17 : decode cX11_rule 17 = .ok (.sipush 180, 3) := by decide +kernel
theorem dX11_rule_20 : decode cX11_rule 20 = .ok (.iload_n 1, 1) := by decide +kernel
theorem dX11_rule_21 : decode cX11_rule 21 = .ok (.iadd, 1) := by decide +kernel
theorem dX11_rule_22 : decode cX11_rule 22 = .ok (.iaload, 1) := by decide +kernel
theorem dX11_rule_23 : decode cX11_rule 23 = .ok (.bipush 10, 2) := by decide +kernel
theorem dX11_rule_25 : decode cX11_rule 25 = .ok (.if_icmp .ne 10, 3) := by decide +kernel
theorem dX11_rule_28 : decode cX11_rule 28 = .ok (.aload_n 0, 1) := by decide +kernel
theorem dX11_rule_29 : decode cX11_rule 29 = .ok (.bipush (-6), 2) := by decide +kernel
theorem dX11_rule_31 : decode cX11_rule 31 = .ok (.invokevirtual 51, 3) := by decide +kernel
theorem dX11_rule_34 : decode cX11_rule 34 = .ok (.ireturn, 1) := by decide +kernel
theorem dX11_rule_35 : decode cX11_rule 35 = .ok (.aload_n 0, 1) := by decide +kernel
theorem dX11_rule_36 : decode cX11_rule 36 = .ok (.bipush 30, 2) := by decide +kernel
theorem dX11_rule_38 : decode cX11_rule 38 = .ok (.iload_n 1, 1) := by decide +kernel
theorem dX11_rule_39 : decode cX11_rule 39 = .ok (.imul, 1) := by decide +kernel
theorem dX11_rule_40 : decode cX11_rule 40 = .ok (.iconst 3, 1) := by decide +kernel
theorem dX11_rule_41 : decode cX11_rule 41 = .ok (.aload_n 0, 1) := by decide +kernel
theorem dX11_rule_42 : decode cX11_rule 42 = .ok (.getfield 13, 3) := by decide +kernel
theorem dX11_rule_45 : decode cX11_rule 45 = .ok (.sipush 180, 3) := by decide +kernel
theorem dX11_rule_48 : decode cX11_rule 48 = .ok (.iload_n 1, 1) := by decide +kernel
theorem dX11_rule_49 : decode cX11_rule 49 = .ok (.iadd, 1) := by decide +kernel
theorem dX11_rule_50 : decode cX11_rule 50 = .ok (.iaload, 1) := by decide +kernel
theorem dX11_rule_51 : decode cX11_rule 51 = .ok (.imul, 1) := by decide +kernel
theorem dX11_rule_52 : decode cX11_rule 52 = .ok (.iadd, 1) := by decide +kernel
theorem dX11_rule_53 : decode cX11_rule 53 = .ok (.invokevirtual 75, 3) := by decide +kernel
theorem dX11_rule_56 : decode cX11_rule 56 = .ok (.istore_n 2, 1) := by decide +kernel
theorem dX11_rule_57 : decode cX11_rule 57 = .ok (.aload_n 0, 1) := by decide +kernel
theorem dX11_rule_58 : decode cX11_rule 58 = .ok (.iconst 0, 1) := by decide +kernel
theorem dX11_rule_59 : decode cX11_rule 59 = .ok (.putfield 55, 3) := by decide +kernel
theorem dX11_rule_62 : decode cX11_rule 62 = .ok (.iload_n 2, 1) := by decide +kernel
theorem dX11_rule_63 : decode cX11_rule 63 = .ok (.ifCond .ne 11, 3) := by decide +kernel
theorem dX11_rule_66 : decode cX11_rule 66 = .ok (.bipush (-20), 2) := by decide +kernel
theorem dX11_rule_68 : decode cX11_rule 68 = .ok (.aload_n 0, 1) := by decide +kernel
theorem dX11_rule_69 : decode cX11_rule 69 = .ok (.getfield 61, 3) := by decide +kernel
theorem dX11_rule_72 : decode cX11_rule 72 = .ok (.isub, 1) := by decide +kernel
theorem dX11_rule_73 : decode cX11_rule 73 = .ok (.ireturn, 1) := by decide +kernel
theorem dX11_rule_74 : decode cX11_rule 74 = .ok (.aload_n 0, 1) := by decide +kernel
theorem dX11_rule_75 : decode cX11_rule 75 = .ok (.getfield 13, 3) := by decide +kernel
theorem dX11_rule_78 : decode cX11_rule 78 = .ok (.sipush 180, 3) := by decide +kernel
theorem dX11_rule_81 : decode cX11_rule 81 = .ok (.iload_n 1, 1) := by decide +kernel
theorem dX11_rule_82 : decode cX11_rule 82 = .ok (.iadd, 1) := by decide +kernel
theorem dX11_rule_83 : decode cX11_rule 83 = .ok (.dup2, 1) := by decide +kernel
theorem dX11_rule_84 : decode cX11_rule 84 = .ok (.iaload, 1) := by decide +kernel
theorem dX11_rule_85 : decode cX11_rule 85 = .ok (.iconst 1, 1) := by decide +kernel
theorem dX11_rule_86 : decode cX11_rule 86 = .ok (.iadd, 1) := by decide +kernel
theorem dX11_rule_87 : decode cX11_rule 87 = .ok (.iastore, 1) := by decide +kernel
theorem dX11_rule_88 : decode cX11_rule 88 = .ok (.aload_n 0, 1) := by decide +kernel
theorem dX11_rule_89 : decode cX11_rule 89 = .ok (.getfield 13, 3) := by decide +kernel
theorem dX11_rule_92 : decode cX11_rule 92 = .ok (.sipush 180, 3) := by decide +kernel
theorem dX11_rule_95 : decode cX11_rule 95 = .ok (.iload_n 1, 1) := by decide +kernel
theorem dX11_rule_96 : decode cX11_rule 96 = .ok (.iadd, 1) := by decide +kernel
theorem dX11_rule_97 : decode cX11_rule 97 = .ok (.iaload, 1) := by decide +kernel
theorem dX11_rule_98 : decode cX11_rule 98 = .ok (.iconst 1, 1) := by decide +kernel
theorem dX11_rule_99 : decode cX11_rule 99 = .ok (.isub, 1) := by decide +kernel
theorem dX11_rule_100 : decode cX11_rule 100 = .ok (.ireturn, 1) := by decide +kernel
set_option maxRecDepth 20000 in
theorem ggX11_ruleOf_X11_isBook : GoodIn wsX11_ruleOf wsX11_isBook := goodIn_r _ [5, 6, 7, 4, 8] (by decide +kernel) (by decide +kernel)
set_option maxRecDepth 20000 in
theorem gX11_ruleOf_X11_isBook : GoodIn wsX11_ruleOf (va_wsS RX11 71 yX11_isBook wsX11_isBook) := goodIn_app (goodIn_of _ (by decide +kernel)) ggX11_ruleOf_X11_isBook
set_option maxRecDepth 20000 in
theorem ggX11_ruleOf_X11_isIn : GoodIn wsX11_ruleOf wsX11_isIn := goodIn_r _ [8] (by decide +kernel) (by decide +kernel)
set_option maxRecDepth 20000 in
theorem gX11_ruleOf_X11_isIn : GoodIn wsX11_ruleOf (va_wsS RX11 47 yX11_isIn wsX11_isIn) := goodIn_app (goodIn_of _ (by decide +kernel)) ggX11_ruleOf_X11_isIn
set_option maxRecDepth 20000 in
theorem ggX11_ruleOf_X11_refuse : GoodIn wsX11_ruleOf wsX11_refuse := goodIn_r _ [12, 13, 18, 19, 20, 21, 22, 23, 24, 25, 26, 27, 28, 29, 30, 31, 32, 33, 34, 35, 36] (by decide +kernel) (by decide +kernel)
set_option maxRecDepth 20000 in
theorem gX11_ruleOf_X11_refuse : GoodIn wsX11_ruleOf (wsV RX11 51 RX11 yX11_refuse wsX11_refuse) := goodIn_app (goodIn_of _ (by decide +kernel)) ggX11_ruleOf_X11_refuse
set_option maxRecDepth 20000 in
theorem ggX11_ruleOf_X11_get : GoodIn wsX11_ruleOf wsX11_get := goodIn_r _ [17, 1, 18, 19, 20, 21, 22, 23, 24, 25, 26, 27, 28, 29, 30, 31, 32, 33, 34, 35, 36] (by decide +kernel) (by decide +kernel)
set_option maxRecDepth 20000 in
theorem gX11_ruleOf_X11_get : GoodIn wsX11_ruleOf (wsV RX11 78 RX11 yX11_get wsX11_get) := goodIn_app (goodIn_of _ (by decide +kernel)) ggX11_ruleOf_X11_get
theorem dX11_ruleOf_0 : decode cX11_ruleOf 0 = .ok (.iload_n 1, 1) := by decide +kernel
theorem dX11_ruleOf_1 : decode cX11_ruleOf 1 = .ok (.invokestatic 71, 3) := by decide +kernel
theorem dX11_ruleOf_4 : decode cX11_ruleOf 4 = .ok (.ifCond .eq 20, 3) := by decide +kernel
theorem dX11_ruleOf_7 : decode cX11_ruleOf 7 = .ok (.iload_n 2, 1) := by decide +kernel
theorem dX11_ruleOf_8 : decode cX11_ruleOf 8 = .ok (.aload_n 0, 1) := by decide +kernel
theorem dX11_ruleOf_9 : decode cX11_ruleOf 9 = .ok (.getfield 13, 3) := by decide +kernel
theorem dX11_ruleOf_12 : decode cX11_ruleOf 12 = .ok (.sipush 180, 3) := by decide +kernel
theorem dX11_ruleOf_15 : decode cX11_ruleOf 15 = .ok (.iload_n 1, 1) := by decide +kernel
theorem dX11_ruleOf_16 : decode cX11_ruleOf 16 = .ok (.iadd, 1) := by decide +kernel
theorem dX11_ruleOf_17 : decode cX11_ruleOf 17 = .ok (.iaload, 1) := by decide +kernel
theorem dX11_ruleOf_18 : decode cX11_ruleOf 18 = .ok (.invokestatic 47, 3) := by decide +kernel
theorem dX11_ruleOf_21 : decode cX11_ruleOf 21 = .ok (.ifCond .ne 9, 3) := by decide +kernel
theorem dX11_ruleOf_24 : decode cX11_ruleOf 24 = .ok (.aload_n 0, 1) := by decide +kernel
theorem dX11_ruleOf_25 : decode cX11_ruleOf 25 = .ok (.iconst (-1), 1) := by decide +kernel
theorem dX11_ruleOf_26 : decode cX11_ruleOf 26 = .ok (.invokevirtual 51, 3) := by decide +kernel
theorem dX11_ruleOf_29 : decode cX11_ruleOf 29 = .ok (.ireturn, 1) := by decide +kernel
theorem dX11_ruleOf_30 : decode cX11_ruleOf 30 = .ok (.iload_n 3, 1) := by decide +kernel
theorem dX11_ruleOf_31 : decode cX11_ruleOf 31 = .ok (.iconst 3, 1) := by decide +kernel
theorem dX11_ruleOf_32 : decode cX11_ruleOf 32 = .ok (.invokestatic 47, 3) := by decide +kernel
theorem dX11_ruleOf_35 : decode cX11_ruleOf 35 = .ok (.ifCond .eq 13, 3) := by decide +kernel
theorem dX11_ruleOf_38 : decode cX11_ruleOf 38 = .ok (.aload_n 0, 1) := by decide +kernel
theorem dX11_ruleOf_39 : decode cX11_ruleOf 39 = .ok (.iload_n 1, 1) := by decide +kernel
theorem dX11_ruleOf_40 : decode cX11_ruleOf 40 = .ok (.iload_n 2, 1) := by decide +kernel
theorem dX11_ruleOf_41 : decode cX11_ruleOf 41 = .ok (.iload_n 3, 1) := by decide +kernel
theorem dX11_ruleOf_42 : decode cX11_ruleOf 42 = .ok (.invokevirtual 78, 3) := by decide +kernel
theorem dX11_ruleOf_45 : decode cX11_ruleOf 45 = .ok (.goto 9, 3) := by decide +kernel
theorem dX11_ruleOf_48 : decode cX11_ruleOf 48 = .ok (.aload_n 0, 1) := by decide +kernel
theorem dX11_ruleOf_49 : decode cX11_ruleOf 49 = .ok (.bipush (-2), 2) := by decide +kernel
theorem dX11_ruleOf_51 : decode cX11_ruleOf 51 = .ok (.invokevirtual 51, 3) := by decide +kernel
theorem dX11_ruleOf_54 : decode cX11_ruleOf 54 = .ok (.ireturn, 1) := by decide +kernel
set_option maxRecDepth 20000 in
theorem ggX11_lean_X11_isBook : GoodIn wsX11_lean wsX11_isBook := goodIn_r _ [5, 6, 7, 4, 8] (by decide +kernel) (by decide +kernel)
set_option maxRecDepth 20000 in
theorem gX11_lean_X11_isBook : GoodIn wsX11_lean (va_wsS RX11 71 yX11_isBook wsX11_isBook) := goodIn_app (goodIn_of _ (by decide +kernel)) ggX11_lean_X11_isBook
set_option maxRecDepth 20000 in
theorem ggX11_lean_X11_refuse : GoodIn wsX11_lean wsX11_refuse := goodIn_r _ [12, 13, 14, 15, 16, 17, 18, 19, 20, 21, 22, 23, 24, 25, 26, 27, 28, 29, 30, 31, 32] (by decide +kernel) (by decide +kernel)
set_option maxRecDepth 20000 in
theorem gX11_lean_X11_refuse : GoodIn wsX11_lean (wsV RX11 51 RX11 yX11_refuse wsX11_refuse) := goodIn_app (goodIn_of _ (by decide +kernel)) ggX11_lean_X11_refuse
theorem dX11_lean_0 : decode cX11_lean 0 = .ok (.iload_n 1, 1) := by decide +kernel
theorem dX11_lean_1 : decode cX11_lean 1 = .ok (.invokestatic 71, 3) := by decide +kernel
theorem dX11_lean_4 : decode cX11_lean 4 = .ok (.ifCond .eq 20, 3) := by decide +kernel
theorem dX11_lean_7 : decode cX11_lean 7 = .ok (.iload_n 2, 1) := by decide +kernel
theorem dX11_lean_8 : decode cX11_lean 8 = .ok (.iconst (-1), 1) := by decide +kernel
theorem dX11_lean_9 : decode cX11_lean 9 = .ok (.if_icmp .eq 10, 3) := by decide +kernel
theorem dX11_lean_12 : decode cX11_lean 12 = .ok (.iload_n 2, 1) := by decide +kernel
theorem dX11_lean_13 : decode cX11_lean 13 = .ok (.invokestatic 71, 3) := by decide +kernel
theorem dX11_lean_16 : decode cX11_lean 16 = .ok (.ifCond .eq 8, 3) := by decide +kernel
theorem dX11_lean_19 : decode cX11_lean 19 = .ok (.iload_n 1, 1) := by decide +kernel
theorem dX11_lean_20 : decode cX11_lean 20 = .ok (.iload_n 2, 1) := by decide +kernel
theorem dX11_lean_21 : decode cX11_lean 21 = .ok (.if_icmp .ne 9, 3) := by decide +kernel
theorem dX11_lean_24 : decode cX11_lean 24 = .ok (.aload_n 0, 1) := by decide +kernel
theorem dX11_lean_25 : decode cX11_lean 25 = .ok (.iconst (-1), 1) := by decide +kernel
theorem dX11_lean_26 : decode cX11_lean 26 = .ok (.invokevirtual 51, 3) := by decide +kernel
theorem dX11_lean_29 : decode cX11_lean 29 = .ok (.ireturn, 1) := by decide +kernel
theorem dX11_lean_30 : decode cX11_lean 30 = .ok (.aload_n 0, 1) := by decide +kernel
theorem dX11_lean_31 : decode cX11_lean 31 = .ok (.getfield 13, 3) := by decide +kernel
theorem dX11_lean_34 : decode cX11_lean 34 = .ok (.sipush 186, 3) := by decide +kernel
theorem dX11_lean_37 : decode cX11_lean 37 = .ok (.iload_n 1, 1) := by decide +kernel
theorem dX11_lean_38 : decode cX11_lean 38 = .ok (.iadd, 1) := by decide +kernel
theorem dX11_lean_39 : decode cX11_lean 39 = .ok (.iaload, 1) := by decide +kernel
theorem dX11_lean_40 : decode cX11_lean 40 = .ok (.iconst 1, 1) := by decide +kernel
theorem dX11_lean_41 : decode cX11_lean 41 = .ok (.isub, 1) := by decide +kernel
theorem dX11_lean_42 : decode cX11_lean 42 = .ok (.istore_n 3, 1) := by decide +kernel
theorem dX11_lean_43 : decode cX11_lean 43 = .ok (.aload_n 0, 1) := by decide +kernel
theorem dX11_lean_44 : decode cX11_lean 44 = .ok (.getfield 13, 3) := by decide +kernel
theorem dX11_lean_47 : decode cX11_lean 47 = .ok (.sipush 186, 3) := by decide +kernel
theorem dX11_lean_50 : decode cX11_lean 50 = .ok (.iload_n 1, 1) := by decide +kernel
theorem dX11_lean_51 : decode cX11_lean 51 = .ok (.iadd, 1) := by decide +kernel
theorem dX11_lean_52 : decode cX11_lean 52 = .ok (.iload_n 2, 1) := by decide +kernel
theorem dX11_lean_53 : decode cX11_lean 53 = .ok (.iconst 1, 1) := by decide +kernel
theorem dX11_lean_54 : decode cX11_lean 54 = .ok (.iadd, 1) := by decide +kernel
theorem dX11_lean_55 : decode cX11_lean 55 = .ok (.iastore, 1) := by decide +kernel
theorem dX11_lean_56 : decode cX11_lean 56 = .ok (.iload_n 3, 1) := by decide +kernel
theorem dX11_lean_57 : decode cX11_lean 57 = .ok (.ireturn, 1) := by decide +kernel
set_option maxRecDepth 20000 in
theorem ggX11_mode_X11_isBook : GoodIn wsX11_mode wsX11_isBook := goodIn_r _ [5, 6, 7, 4, 8] (by decide +kernel) (by decide +kernel)
set_option maxRecDepth 20000 in
theorem gX11_mode_X11_isBook : GoodIn wsX11_mode (va_wsS RX11 71 yX11_isBook wsX11_isBook) := goodIn_app (goodIn_of _ (by decide +kernel)) ggX11_mode_X11_isBook
set_option maxRecDepth 20000 in
theorem ggX11_mode_X11_refuse : GoodIn wsX11_mode wsX11_refuse := goodIn_r _ [12, 13, 14, 15, 16, 17, 18, 19, 20, 21, 22, 23, 24, 25, 26, 27, 28, 29, 30, 31, 32] (by decide +kernel) (by decide +kernel)
set_option maxRecDepth 20000 in
theorem gX11_mode_X11_refuse : GoodIn wsX11_mode (wsV RX11 51 RX11 yX11_refuse wsX11_refuse) := goodIn_app (goodIn_of _ (by decide +kernel)) ggX11_mode_X11_refuse
set_option maxRecDepth 20000 in
theorem ggX11_mode_X11_isIn : GoodIn wsX11_mode wsX11_isIn := goodIn_r _ [8] (by decide +kernel) (by decide +kernel)
set_option maxRecDepth 20000 in
theorem gX11_mode_X11_isIn : GoodIn wsX11_mode (va_wsS RX11 47 yX11_isIn wsX11_isIn) := goodIn_app (goodIn_of _ (by decide +kernel)) ggX11_mode_X11_isIn
theorem dX11_mode_0 : decode cX11_mode 0 = .ok (.iload_n 1, 1) := by decide +kernel
theorem dX11_mode_1 : decode cX11_mode 1 = .ok (.invokestatic 71, 3) := by decide +kernel
theorem dX11_mode_4 : decode cX11_mode 4 = .ok (.ifCond .ne 9, 3) := by decide +kernel
theorem dX11_mode_7 : decode cX11_mode 7 = .ok (.aload_n 0, 1) := by decide +kernel
theorem dX11_mode_8 : decode cX11_mode 8 = .ok (.iconst (-1), 1) := by decide +kernel
theorem dX11_mode_9 : decode cX11_mode 9 = .ok (.invokevirtual 51, 3) := by decide +kernel
theorem dX11_mode_12 : decode cX11_mode 12 = .ok (.ireturn, 1) := by decide +kernel
theorem dX11_mode_13 : decode cX11_mode 13 = .ok (.iload_n 2, 1) := by decide +kernel
theorem dX11_mode_14 : decode cX11_mode 14 = .ok (.iconst 3, 1) := by decide +kernel
theorem dX11_mode_15 : decode cX11_mode 15 = .ok (.invokestatic 47, 3) := by decide +kernel
theorem dX11_mode_18 : decode cX11_mode 18 = .ok (.ifCond .ne 10, 3) := by decide +kernel
theorem dX11_mode_21 : decode cX11_mode 21 = .ok (.aload_n 0, 1) := by decide +kernel
theorem dX11_mode_22 : decode cX11_mode 22 = .ok (.bipush (-2), 2) := by decide +kernel
theorem dX11_mode_24 : decode cX11_mode 24 = .ok (.invokevirtual 51, 3) := by decide +kernel
theorem dX11_mode_27 : decode cX11_mode 27 = .ok (.ireturn, 1) := by decide +kernel
theorem dX11_mode_28 : decode cX11_mode 28 = .ok (.aload_n 0, 1) := by decide +kernel
theorem dX11_mode_29 : decode cX11_mode 29 = .ok (.getfield 13, 3) := by decide +kernel
theorem dX11_mode_32 : decode cX11_mode 32 = .ok (.sipush 192, 3) := by decide +kernel
theorem dX11_mode_35 : decode cX11_mode 35 = .ok (.iload_n 1, 1) := by decide +kernel
theorem dX11_mode_36 : decode cX11_mode 36 = .ok (.iadd, 1) := by decide +kernel
theorem dX11_mode_37 : decode cX11_mode 37 = .ok (.iaload, 1) := by decide +kernel
theorem dX11_mode_38 : decode cX11_mode 38 = .ok (.istore_n 3, 1) := by decide +kernel
theorem dX11_mode_39 : decode cX11_mode 39 = .ok (.aload_n 0, 1) := by decide +kernel
theorem dX11_mode_40 : decode cX11_mode 40 = .ok (.getfield 13, 3) := by decide +kernel
theorem dX11_mode_43 : decode cX11_mode 43 = .ok (.sipush 192, 3) := by decide +kernel
theorem dX11_mode_46 : decode cX11_mode 46 = .ok (.iload_n 1, 1) := by decide +kernel
theorem dX11_mode_47 : decode cX11_mode 47 = .ok (.iadd, 1) := by decide +kernel
theorem dX11_mode_48 : decode cX11_mode 48 = .ok (.iload_n 2, 1) := by decide +kernel
theorem dX11_mode_49 : decode cX11_mode 49 = .ok (.iastore, 1) := by decide +kernel
theorem dX11_mode_50 : decode cX11_mode 50 = .ok (.iload_n 3, 1) := by decide +kernel
theorem dX11_mode_51 : decode cX11_mode 51 = .ok (.ireturn, 1) := by decide +kernel
set_option maxRecDepth 20000 in
theorem ggX11_whyOf_X11_get : GoodIn wsX11_whyOf wsX11_get := goodIn_r _ [6, 1, 7, 8, 9, 10, 11, 12, 13, 14, 15, 16, 17, 18, 19, 20, 21, 22, 23, 24, 25] (by decide +kernel) (by decide +kernel)
set_option maxRecDepth 20000 in
theorem gX11_whyOf_X11_get : GoodIn wsX11_whyOf (wsV RX11 78 RX11 yX11_get wsX11_get) := goodIn_app (goodIn_of _ (by decide +kernel)) ggX11_whyOf_X11_get
theorem dX11_whyOf_0 : decode cX11_whyOf 0 = .ok (.iload_n 1, 1) := by decide +kernel
theorem dX11_whyOf_1 : decode cX11_whyOf 1 = .ok (.istore 4, 2) := by decide +kernel
theorem dX11_whyOf_3 : decode cX11_whyOf 3 = .ok (.iconst 0, 1) := by decide +kernel
theorem dX11_whyOf_4 : decode cX11_whyOf 4 = .ok (.istore 5, 2) := by decide +kernel
theorem dX11_whyOf_6 : decode cX11_whyOf 6 = .ok (.iload 5, 2) := by decide +kernel
theorem dX11_whyOf_8 : decode cX11_whyOf 8 = .ok (.bipush 6, 2) := by decide +kernel
theorem dX11_whyOf_10 : decode cX11_whyOf 10 = .ok (.if_icmp .ge 92, 3) := by decide +kernel
theorem dX11_whyOf_13 : decode cX11_whyOf 13 = .ok (.iload 4, 2) := by decide +kernel
theorem dX11_whyOf_15 : decode cX11_whyOf 15 = .ok (.ifCond .lt 87, 3) := by decide +kernel
theorem dX11_whyOf_18 : decode cX11_whyOf 18 = .ok (.iconst 0, 1) := by decide +kernel
theorem dX11_whyOf_19 : decode cX11_whyOf 19 = .ok (.istore 6, 2) := by decide +kernel
theorem dX11_whyOf_21 : decode cX11_whyOf 21 = .ok (.iload 6, 2) := by decide +kernel
theorem dX11_whyOf_23 : decode cX11_whyOf 23 = .ok (.aload_n 0, 1) := by decide +kernel
theorem dX11_whyOf_24 : decode cX11_whyOf 24 = .ok (.getfield 13, 3) := by decide +kernel
theorem dX11_whyOf_27 : decode cX11_whyOf 27 = .ok (.sipush 180, 3) := by decide +kernel
theorem dX11_whyOf_30 : decode cX11_whyOf 30 = .ok (.iload 4, 2) := by decide +kernel
theorem dX11_whyOf_32 : decode cX11_whyOf 32 = .ok (.iadd, 1) := by decide +kernel
theorem dX11_whyOf_33 : decode cX11_whyOf 33 = .ok (.iaload, 1) := by decide +kernel
theorem dX11_whyOf_34 : decode cX11_whyOf 34 = .ok (.if_icmp .ge 47, 3) := by decide +kernel
theorem dX11_whyOf_37 : decode cX11_whyOf 37 = .ok (.aload_n 0, 1) := by decide +kernel
theorem dX11_whyOf_38 : decode cX11_whyOf 38 = .ok (.iload 4, 2) := by decide +kernel
theorem dX11_whyOf_40 : decode cX11_whyOf 40 = .ok (.iload 6, 2) := by decide +kernel
theorem dX11_whyOf_42 : decode cX11_whyOf 42 = .ok (.iconst 0, 1) := by decide +kernel
theorem dX11_whyOf_43 : decode cX11_whyOf 43 = .ok (.invokevirtual 78, 3) := by decide +kernel
theorem dX11_whyOf_46 : decode cX11_whyOf 46 = .ok (.iload_n 2, 1) := by decide +kernel
theorem dX11_whyOf_47 : decode cX11_whyOf 47 = .ok (.if_icmp .ne 28, 3) := by decide +kernel
theorem dX11_whyOf_50 : decode cX11_whyOf 50 = .ok (.aload_n 0, 1) := by decide +kernel
theorem dX11_whyOf_51 : decode cX11_whyOf 51 = .ok (.iload 4, 2) := by decide +kernel
theorem dX11_whyOf_53 : decode cX11_whyOf 53 = .ok (.iload 6, 2) := by decide +kernel
theorem dX11_whyOf_55 : decode cX11_whyOf 55 = .ok (.iconst 1, 1) := by decide +kernel
theorem dX11_whyOf_56 : decode cX11_whyOf 56 = .ok (.invokevirtual 78, 3) := by decide +kernel
theorem dX11_whyOf_59 : decode cX11_whyOf 59 = .ok (.iload_n 3, 1) := by decide +kernel
theorem dX11_whyOf_60 : decode cX11_whyOf 60 = .ok (.iconst (-1), 1) := by decide +kernel
theorem dX11_whyOf_61 : decode cX11_whyOf 61 = .ok (.ixor, 1) := by decide +kernel
theorem dX11_whyOf_62 : decode cX11_whyOf 62 = .ok (.iand, 1) := by decide +kernel
theorem dX11_whyOf_63 : decode cX11_whyOf 63 = .ok (.ifCond .ne 12, 3) := by decide +kernel
theorem dX11_whyOf_66 : decode cX11_whyOf 66 = .ok (.bipush 10, 2) := by decide +kernel
theorem dX11_whyOf_68 : decode cX11_whyOf 68 = .ok (.iload 4, 2) := by decide +kernel
theorem dX11_whyOf_70 : decode cX11_whyOf 70 = .ok (.imul, 1) := by decide +kernel
theorem dX11_whyOf_71 : decode cX11_whyOf 71 = .ok (.iload 6, 2) := by decide +kernel
theorem dX11_whyOf_73 : decode cX11_whyOf 73 = .ok (.iadd, 1) := by decide +kernel
theorem dX11_whyOf_74 : decode cX11_whyOf 74 = .ok (.ireturn, 1) := by decide +kernel
theorem dX11_whyOf_75 : decode cX11_whyOf 75 = .ok (.iinc 6 1, 3) := by decide +kernel
theorem dX11_whyOf_78 : decode cX11_whyOf 78 = .ok (.goto (-57), 3) := by decide +kernel
theorem dX11_whyOf_81 : decode cX11_whyOf 81 = .ok (.aload_n 0, 1) := by decide +kernel
theorem dX11_whyOf_82 : decode cX11_whyOf 82 = .ok (.getfield 13, 3) := by decide +kernel
theorem dX11_whyOf_85 : decode cX11_whyOf 85 = .ok (.sipush 186, 3) := by decide +kernel
theorem dX11_whyOf_88 : decode cX11_whyOf 88 = .ok (.iload 4, 2) := by decide +kernel
theorem dX11_whyOf_90 : decode cX11_whyOf 90 = .ok (.iadd, 1) := by decide +kernel
theorem dX11_whyOf_91 : decode cX11_whyOf 91 = .ok (.iaload, 1) := by decide +kernel
theorem dX11_whyOf_92 : decode cX11_whyOf 92 = .ok (.iconst 1, 1) := by decide +kernel
theorem dX11_whyOf_93 : decode cX11_whyOf 93 = .ok (.isub, 1) := by decide +kernel
theorem dX11_whyOf_94 : decode cX11_whyOf 94 = .ok (.istore 4, 2) := by decide +kernel
theorem dX11_whyOf_96 : decode cX11_whyOf 96 = .ok (.iinc 5 1, 3) := by decide +kernel
theorem dX11_whyOf_99 : decode cX11_whyOf 99 = .ok (.goto (-93), 3) := by decide +kernel
theorem dX11_whyOf_102 : decode cX11_whyOf 102 = .ok (.bipush (-9), 2) := by decide +kernel
theorem dX11_whyOf_104 : decode cX11_whyOf 104 = .ok (.ireturn, 1) := by decide +kernel
set_option maxRecDepth 20000 in
theorem ggX11_owesOf_X11_whyOf : GoodIn wsX11_owesOf wsX11_whyOf := goodIn_r _ [5, 6, 7, 8, 9, 4, 10, 11, 12, 13, 14, 15, 16, 17, 18, 19, 20, 21, 22, 23, 24, 25, 26, 27, 28, 29] (by decide +kernel) (by decide +kernel)
set_option maxRecDepth 20000 in
theorem gX11_owesOf_X11_whyOf : GoodIn wsX11_owesOf (wsV RX11 82 RX11 yX11_whyOf wsX11_whyOf) := goodIn_app (goodIn_of _ (by decide +kernel)) ggX11_owesOf_X11_whyOf
set_option maxRecDepth 20000 in
theorem ggX11_owesOf_X11_get : GoodIn wsX11_owesOf wsX11_get := goodIn_r _ [10, 6, 11, 12, 13, 14, 15, 16, 17, 18, 19, 20, 21, 22, 23, 24, 25, 26, 27, 28, 29] (by decide +kernel) (by decide +kernel)
set_option maxRecDepth 20000 in
theorem gX11_owesOf_X11_get : GoodIn wsX11_owesOf (wsV RX11 78 RX11 yX11_get wsX11_get) := goodIn_app (goodIn_of _ (by decide +kernel)) ggX11_owesOf_X11_get
theorem dX11_owesOf_0 : decode cX11_owesOf 0 = .ok (.aload_n 0, 1) := by decide +kernel
theorem dX11_owesOf_1 : decode cX11_owesOf 1 = .ok (.iload_n 1, 1) := by decide +kernel
theorem dX11_owesOf_2 : decode cX11_owesOf 2 = .ok (.iload_n 2, 1) := by decide +kernel
theorem dX11_owesOf_3 : decode cX11_owesOf 3 = .ok (.iload_n 3, 1) := by decide +kernel
theorem dX11_owesOf_4 : decode cX11_owesOf 4 = .ok (.invokevirtual 82, 3) := by decide +kernel
theorem dX11_owesOf_7 : decode cX11_owesOf 7 = .ok (.istore 4, 2) := by decide +kernel
theorem dX11_owesOf_9 : decode cX11_owesOf 9 = .ok (.iload 4, 2) := by decide +kernel
theorem dX11_owesOf_11 : decode cX11_owesOf 11 = .ok (.ifCond .ge 8, 3) := by decide +kernel
theorem dX11_owesOf_14 : decode cX11_owesOf 14 = .ok (.bipush (-9), 2) := by decide +kernel
theorem dX11_owesOf_16 : decode cX11_owesOf 16 = .ok (.goto 18, 3) := by decide +kernel
theorem dX11_owesOf_19 : decode cX11_owesOf 19 = .ok (.aload_n 0, 1) := by decide +kernel
theorem dX11_owesOf_20 : decode cX11_owesOf 20 = .ok (.iload 4, 2) := by decide +kernel
theorem dX11_owesOf_22 : decode cX11_owesOf 22 = .ok (.bipush 10, 2) := by decide +kernel
theorem dX11_owesOf_24 : decode cX11_owesOf 24 = .ok (.idiv, 1) := by decide +kernel
theorem dX11_owesOf_25 : decode cX11_owesOf 25 = .ok (.iload 4, 2) := by decide +kernel
theorem dX11_owesOf_27 : decode cX11_owesOf 27 = .ok (.bipush 10, 2) := by decide +kernel
theorem dX11_owesOf_29 : decode cX11_owesOf 29 = .ok (.irem, 1) := by decide +kernel
theorem dX11_owesOf_30 : decode cX11_owesOf 30 = .ok (.iconst 2, 1) := by decide +kernel
theorem dX11_owesOf_31 : decode cX11_owesOf 31 = .ok (.invokevirtual 78, 3) := by decide +kernel
theorem dX11_owesOf_34 : decode cX11_owesOf 34 = .ok (.ireturn, 1) := by decide +kernel
set_option maxRecDepth 20000 in
theorem ggX11_isDeed_X11_isIn : GoodIn wsX11_isDeed wsX11_isIn := goodIn_r _ [4] (by decide +kernel) (by decide +kernel)
set_option maxRecDepth 20000 in
theorem gX11_isDeed_X11_isIn : GoodIn wsX11_isDeed (va_wsS RX11 47 yX11_isIn wsX11_isIn) := goodIn_app (goodIn_of _ (by decide +kernel)) ggX11_isDeed_X11_isIn
theorem dX11_isDeed_0 : decode cX11_isDeed 0 = .ok (.iload_n 0, 1) := by decide +kernel
theorem dX11_isDeed_1 : decode cX11_isDeed 1 = .ok (.bipush 8, 2) := by decide +kernel
theorem dX11_isDeed_3 : decode cX11_isDeed 3 = .ok (.invokestatic 47, 3) := by decide +kernel
theorem dX11_isDeed_6 : decode cX11_isDeed 6 = .ok (.ifCond .eq 16, 3) := by decide +kernel
theorem dX11_isDeed_9 : decode cX11_isDeed 9 = .ok (.iload_n 1, 1) := by decide +kernel
theorem dX11_isDeed_10 : decode cX11_isDeed 10 = .ok (.bipush 16, 2) := by decide +kernel
theorem dX11_isDeed_12 : decode cX11_isDeed 12 = .ok (.invokestatic 47, 3) := by decide +kernel
theorem dX11_isDeed_15 : decode cX11_isDeed 15 = .ok (.ifCond .eq 7, 3) := by decide +kernel
theorem dX11_isDeed_18 : decode cX11_isDeed 18 = .ok (.iconst 1, 1) := by decide +kernel
theorem dX11_isDeed_19 : decode cX11_isDeed 19 = .ok (.goto 4, 3) := by decide +kernel
theorem dX11_isDeed_22 : decode cX11_isDeed 22 = .ok (.iconst 0, 1) := by decide +kernel
theorem dX11_isDeed_23 : decode cX11_isDeed 23 = .ok (.ireturn, 1) := by decide +kernel
set_option maxRecDepth 20000 in
theorem ggX11_owes_X11_isBook : GoodIn wsX11_owes wsX11_isBook := goodIn_r _ [4, 5, 6, 3, 7] (by decide +kernel) (by decide +kernel)
set_option maxRecDepth 20000 in
theorem gX11_owes_X11_isBook : GoodIn wsX11_owes (va_wsS RX11 71 yX11_isBook wsX11_isBook) := goodIn_app (goodIn_of _ (by decide +kernel)) ggX11_owes_X11_isBook
set_option maxRecDepth 20000 in
theorem ggX11_owes_X11_isDeed : GoodIn wsX11_owes wsX11_isDeed := goodIn_r _ [10, 5, 6, 3, 7] (by decide +kernel) (by decide +kernel)
set_option maxRecDepth 20000 in
theorem gX11_owes_X11_isDeed : GoodIn wsX11_owes (va_wsS RX11 85 yX11_isDeed wsX11_isDeed) := goodIn_app (goodIn_of _ (by decide +kernel)) ggX11_owes_X11_isDeed
set_option maxRecDepth 20000 in
theorem ggX11_owes_X11_owesOf : GoodIn wsX11_owes wsX11_owesOf := goodIn_r _ [14, 15, 16, 17, 3, 18, 19, 20, 21, 22, 23, 29, 30, 31, 32, 33, 34, 35, 36, 37, 38, 39, 40, 41, 42, 43, 44, 45, 46, 47] (by decide +kernel) (by decide +kernel)
set_option maxRecDepth 20000 in
theorem gX11_owes_X11_owesOf : GoodIn wsX11_owes (wsV RX11 88 RX11 yX11_owesOf wsX11_owesOf) := goodIn_app (goodIn_of _ (by decide +kernel)) ggX11_owes_X11_owesOf
set_option maxRecDepth 20000 in
theorem ggX11_owes_X11_refuse : GoodIn wsX11_owes wsX11_refuse := goodIn_r _ [27, 28, 29, 30, 31, 32, 33, 34, 35, 36, 37, 38, 39, 40, 41, 42, 43, 44, 45, 46, 47] (by decide +kernel) (by decide +kernel)
set_option maxRecDepth 20000 in
theorem gX11_owes_X11_refuse : GoodIn wsX11_owes (wsV RX11 51 RX11 yX11_refuse wsX11_refuse) := goodIn_app (goodIn_of _ (by decide +kernel)) ggX11_owes_X11_refuse
theorem dX11_owes_0 : decode cX11_owes 0 = .ok (.iload_n 1, 1) := by decide +kernel
theorem dX11_owes_1 : decode cX11_owes 1 = .ok (.invokestatic 71, 3) := by decide +kernel
theorem dX11_owes_4 : decode cX11_owes 4 = .ok (.ifCond .eq 21, 3) := by decide +kernel
theorem dX11_owes_7 : decode cX11_owes 7 = .ok (.iload_n 2, 1) := by decide +kernel
theorem dX11_owes_8 : decode cX11_owes 8 = .ok (.iload_n 3, 1) := by decide +kernel
theorem dX11_owes_9 : decode cX11_owes 9 = .ok (.invokestatic 85, 3) := by decide +kernel
theorem dX11_owes_12 : decode cX11_owes 12 = .ok (.ifCond .eq 13, 3) := by decide +kernel
theorem dX11_owes_15 : decode cX11_owes 15 = .ok (.aload_n 0, 1) := by decide +kernel
theorem dX11_owes_16 : decode cX11_owes 16 = .ok (.iload_n 1, 1) := by decide +kernel
theorem dX11_owes_17 : decode cX11_owes 17 = .ok (.iload_n 2, 1) := by decide +kernel
theorem dX11_owes_18 : decode cX11_owes 18 = .ok (.iload_n 3, 1) := by decide +kernel
theorem dX11_owes_19 : decode cX11_owes 19 = .ok (.invokevirtual 88, 3) := by decide +kernel
theorem dX11_owes_22 : decode cX11_owes 22 = .ok (.goto 8, 3) := by decide +kernel
theorem dX11_owes_25 : decode cX11_owes 25 = .ok (.aload_n 0, 1) := by decide +kernel
theorem dX11_owes_26 : decode cX11_owes 26 = .ok (.iconst (-1), 1) := by decide +kernel
theorem dX11_owes_27 : decode cX11_owes 27 = .ok (.invokevirtual 51, 3) := by decide +kernel
theorem dX11_owes_30 : decode cX11_owes 30 = .ok (.ireturn, 1) := by decide +kernel
set_option maxRecDepth 20000 in
theorem ggX11_why_X11_isBook : GoodIn wsX11_why wsX11_isBook := goodIn_r _ [4, 5, 6, 3, 7] (by decide +kernel) (by decide +kernel)
set_option maxRecDepth 20000 in
theorem gX11_why_X11_isBook : GoodIn wsX11_why (va_wsS RX11 71 yX11_isBook wsX11_isBook) := goodIn_app (goodIn_of _ (by decide +kernel)) ggX11_why_X11_isBook
set_option maxRecDepth 20000 in
theorem ggX11_why_X11_isDeed : GoodIn wsX11_why wsX11_isDeed := goodIn_r _ [10, 5, 6, 3, 7] (by decide +kernel) (by decide +kernel)
set_option maxRecDepth 20000 in
theorem gX11_why_X11_isDeed : GoodIn wsX11_why (va_wsS RX11 85 yX11_isDeed wsX11_isDeed) := goodIn_app (goodIn_of _ (by decide +kernel)) ggX11_why_X11_isDeed
set_option maxRecDepth 20000 in
theorem ggX11_why_X11_whyOf : GoodIn wsX11_why wsX11_whyOf := goodIn_r _ [14, 15, 16, 17, 18, 3, 19, 25, 26, 27, 28, 29, 30, 31, 32, 33, 34, 35, 36, 37, 38, 39, 40, 41, 42, 43] (by decide +kernel) (by decide +kernel)
set_option maxRecDepth 20000 in
theorem gX11_why_X11_whyOf : GoodIn wsX11_why (wsV RX11 82 RX11 yX11_whyOf wsX11_whyOf) := goodIn_app (goodIn_of _ (by decide +kernel)) ggX11_why_X11_whyOf
set_option maxRecDepth 20000 in
theorem ggX11_why_X11_refuse : GoodIn wsX11_why wsX11_refuse := goodIn_r _ [23, 24, 25, 26, 27, 28, 29, 30, 31, 32, 33, 34, 35, 36, 37, 38, 39, 40, 41, 42, 43] (by decide +kernel) (by decide +kernel)
set_option maxRecDepth 20000 in
theorem gX11_why_X11_refuse : GoodIn wsX11_why (wsV RX11 51 RX11 yX11_refuse wsX11_refuse) := goodIn_app (goodIn_of _ (by decide +kernel)) ggX11_why_X11_refuse
theorem dX11_why_0 : decode cX11_why 0 = .ok (.iload_n 1, 1) := by decide +kernel
theorem dX11_why_1 : decode cX11_why 1 = .ok (.invokestatic 71, 3) := by decide +kernel
theorem dX11_why_4 : decode cX11_why 4 = .ok (.ifCond .eq 21, 3) := by decide +kernel
theorem dX11_why_7 : decode cX11_why 7 = .ok (.iload_n 2, 1) := by decide +kernel
theorem dX11_why_8 : decode cX11_why 8 = .ok (.iload_n 3, 1) := by decide +kernel
theorem dX11_why_9 : decode cX11_why 9 = .ok (.invokestatic 85, 3) := by decide +kernel
theorem dX11_why_12 : decode cX11_why 12 = .ok (.ifCond .eq 13, 3) := by decide +kernel
theorem dX11_why_15 : decode cX11_why 15 = .ok (.aload_n 0, 1) := by decide +kernel
theorem dX11_why_16 : decode cX11_why 16 = .ok (.iload_n 1, 1) := by decide +kernel
theorem dX11_why_17 : decode cX11_why 17 = .ok (.iload_n 2, 1) := by decide +kernel
theorem dX11_why_18 : decode cX11_why 18 = .ok (.iload_n 3, 1) := by decide +kernel
theorem dX11_why_19 : decode cX11_why 19 = .ok (.invokevirtual 82, 3) := by decide +kernel
theorem dX11_why_22 : decode cX11_why 22 = .ok (.goto 8, 3) := by decide +kernel
theorem dX11_why_25 : decode cX11_why 25 = .ok (.aload_n 0, 1) := by decide +kernel
theorem dX11_why_26 : decode cX11_why 26 = .ok (.iconst (-1), 1) := by decide +kernel
theorem dX11_why_27 : decode cX11_why 27 = .ok (.invokevirtual 51, 3) := by decide +kernel
theorem dX11_why_30 : decode cX11_why 30 = .ok (.ireturn, 1) := by decide +kernel
set_option maxRecDepth 20000 in
theorem ggX11_done_X11_isDeed : GoodIn wsX11_done wsX11_isDeed := goodIn_r _ [5, 6, 7, 4, 8] (by decide +kernel) (by decide +kernel)
set_option maxRecDepth 20000 in
theorem gX11_done_X11_isDeed : GoodIn wsX11_done (va_wsS RX11 85 yX11_isDeed wsX11_isDeed) := goodIn_app (goodIn_of _ (by decide +kernel)) ggX11_done_X11_isDeed
set_option maxRecDepth 20000 in
theorem ggX11_done_X11_refuse : GoodIn wsX11_done wsX11_refuse := goodIn_r _ [12, 13, 14, 15, 16, 17, 18, 19, 20, 21, 22, 23, 24, 25, 26, 27, 28, 29, 30, 31, 32] (by decide +kernel) (by decide +kernel)
set_option maxRecDepth 20000 in
theorem gX11_done_X11_refuse : GoodIn wsX11_done (wsV RX11 51 RX11 yX11_refuse wsX11_refuse) := goodIn_app (goodIn_of _ (by decide +kernel)) ggX11_done_X11_refuse
theorem dX11_done_0 : decode cX11_done 0 = .ok (.iload_n 1, 1) := by decide +kernel
theorem dX11_done_1 : decode cX11_done 1 = .ok (.iload_n 2, 1) := by decide +kernel
theorem dX11_done_2 : decode cX11_done 2 = .ok (.invokestatic 85, 3) := by decide +kernel
theorem dX11_done_5 : decode cX11_done 5 = .ok (.ifCond .ne 9, 3) := by decide +kernel
theorem dX11_done_8 : decode cX11_done 8 = .ok (.aload_n 0, 1) := by decide +kernel
theorem dX11_done_9 : decode cX11_done 9 = .ok (.iconst (-1), 1) := by decide +kernel
theorem dX11_done_10 : decode cX11_done 10 = .ok (.invokevirtual 51, 3) := by decide +kernel
theorem dX11_done_13 : decode cX11_done 13 = .ok (.ireturn, 1) := by decide +kernel
theorem dX11_done_14 : decode cX11_done 14 = .ok (.aload_n 0, 1) := by decide +kernel
theorem dX11_done_15 : decode cX11_done 15 = .ok (.getfield 13, 3) := by decide +kernel
theorem dX11_done_18 : decode cX11_done 18 = .ok (.sipush 306, 3) := by decide +kernel
theorem dX11_done_21 : decode cX11_done 21 = .ok (.iaload, 1) := by decide +kernel
theorem dX11_done_22 : decode cX11_done 22 = .ok (.bipush 12, 2) := by decide +kernel
theorem dX11_done_24 : decode cX11_done 24 = .ok (.if_icmp .ne 10, 3) := by decide +kernel
theorem dX11_done_27 : decode cX11_done 27 = .ok (.aload_n 0, 1) := by decide +kernel
theorem dX11_done_28 : decode cX11_done 28 = .ok (.bipush (-6), 2) := by decide +kernel
theorem dX11_done_30 : decode cX11_done 30 = .ok (.invokevirtual 51, 3) := by decide +kernel
theorem dX11_done_33 : decode cX11_done 33 = .ok (.ireturn, 1) := by decide +kernel
theorem dX11_done_34 : decode cX11_done 34 = .ok (.sipush 198, 3) := by decide +kernel
theorem dX11_done_37 : decode cX11_done 37 = .ok (.iconst 3, 1) := by decide +kernel
theorem dX11_done_38 : decode cX11_done 38 = .ok (.aload_n 0, 1) := by decide +kernel
theorem dX11_done_39 : decode cX11_done 39 = .ok (.getfield 13, 3) := by decide +kernel
theorem dX11_done_42 : decode cX11_done 42 = .ok (.sipush 306, 3) := by decide +kernel
theorem dX11_done_45 : decode cX11_done 45 = .ok (.iaload, 1) := by decide +kernel
theorem dX11_done_46 : decode cX11_done 46 = .ok (.imul, 1) := by decide +kernel
theorem dX11_done_47 : decode cX11_done 47 = .ok (.iadd, 1) := by decide +kernel
theorem dX11_done_48 : decode cX11_done 48 = .ok (.istore 4, 2) := by decide +kernel
theorem dX11_done_50 : decode cX11_done 50 = .ok (.aload_n 0, 1) := by decide +kernel
theorem dX11_done_51 : decode cX11_done 51 = .ok (.getfield 13, 3) := by decide +kernel
theorem dX11_done_54 : decode cX11_done 54 = .ok (.iload 4, 2) := by decide +kernel
theorem dX11_done_56 : decode cX11_done 56 = .ok (.iload_n 1, 1) := by decide +kernel
theorem dX11_done_57 : decode cX11_done 57 = .ok (.iastore, 1) := by decide +kernel
theorem dX11_done_58 : decode cX11_done 58 = .ok (.aload_n 0, 1) := by decide +kernel
theorem dX11_done_59 : decode cX11_done 59 = .ok (.getfield 13, 3) := by decide +kernel
theorem dX11_done_62 : decode cX11_done 62 = .ok (.iload 4, 2) := by decide +kernel
theorem dX11_done_64 : decode cX11_done 64 = .ok (.iconst 1, 1) := by decide +kernel
theorem dX11_done_65 : decode cX11_done 65 = .ok (.iadd, 1) := by decide +kernel
theorem dX11_done_66 : decode cX11_done 66 = .ok (.iload_n 2, 1) := by decide +kernel
theorem dX11_done_67 : decode cX11_done 67 = .ok (.iastore, 1) := by decide +kernel
theorem dX11_done_68 : decode cX11_done 68 = .ok (.aload_n 0, 1) := by decide +kernel
theorem dX11_done_69 : decode cX11_done 69 = .ok (.getfield 13, 3) := by decide +kernel
theorem dX11_done_72 : decode cX11_done 72 = .ok (.iload 4, 2) := by decide +kernel
theorem dX11_done_74 : decode cX11_done 74 = .ok (.iconst 2, 1) := by decide +kernel
theorem dX11_done_75 : decode cX11_done 75 = .ok (.iadd, 1) := by decide +kernel
theorem dX11_done_76 : decode cX11_done 76 = .ok (.iload_n 3, 1) := by decide +kernel
theorem dX11_done_77 : decode cX11_done 77 = .ok (.ifCond .eq 7, 3) := by decide +kernel
theorem dX11_done_80 : decode cX11_done 80 = .ok (.iconst 1, 1) := by decide +kernel
theorem dX11_done_81 : decode cX11_done 81 = .ok (.goto 4, 3) := by decide +kernel
theorem dX11_done_84 : decode cX11_done 84 = .ok (.iconst 0, 1) := by decide +kernel
theorem dX11_done_85 : decode cX11_done 85 = .ok (.iastore, 1) := by decide +kernel
theorem dX11_done_86 : decode cX11_done 86 = .ok (.aload_n 0, 1) := by decide +kernel
theorem dX11_done_87 : decode cX11_done 87 = .ok (.getfield 13, 3) := by decide +kernel
theorem dX11_done_90 : decode cX11_done 90 = .ok (.sipush 306, 3) := by decide +kernel
theorem dX11_done_93 : decode cX11_done 93 = .ok (.dup2, 1) := by decide +kernel
theorem dX11_done_94 : decode cX11_done 94 = .ok (.iaload, 1) := by decide +kernel
theorem dX11_done_95 : decode cX11_done 95 = .ok (.iconst 1, 1) := by decide +kernel
theorem dX11_done_96 : decode cX11_done 96 = .ok (.iadd, 1) := by decide +kernel
theorem dX11_done_97 : decode cX11_done 97 = .ok (.iastore, 1) := by decide +kernel
theorem dX11_done_98 : decode cX11_done 98 = .ok (.aload_n 0, 1) := by decide +kernel
theorem dX11_done_99 : decode cX11_done 99 = .ok (.getfield 13, 3) := by decide +kernel
theorem dX11_done_102 : decode cX11_done 102 = .ok (.sipush 306, 3) := by decide +kernel
theorem dX11_done_105 : decode cX11_done 105 = .ok (.iaload, 1) := by decide +kernel
theorem dX11_done_106 : decode cX11_done 106 = .ok (.ireturn, 1) := by decide +kernel
theorem dX11_undone_0 : decode cX11_undone 0 = .ok (.aload_n 0, 1) := by decide +kernel
theorem dX11_undone_1 : decode cX11_undone 1 = .ok (.getfield 13, 3) := by decide +kernel
theorem dX11_undone_4 : decode cX11_undone 4 = .ok (.sipush 306, 3) := by decide +kernel
theorem dX11_undone_7 : decode cX11_undone 7 = .ok (.iaload, 1) := by decide +kernel
theorem dX11_undone_8 : decode cX11_undone 8 = .ok (.istore_n 1, 1) := by decide +kernel
theorem dX11_undone_9 : decode cX11_undone 9 = .ok (.aload_n 0, 1) := by decide +kernel
theorem dX11_undone_10 : decode cX11_undone 10 = .ok (.getfield 13, 3) := by decide +kernel
theorem dX11_undone_13 : decode cX11_undone 13 = .ok (.sipush 306, 3) := by decide +kernel
theorem dX11_undone_16 : decode cX11_undone 16 = .ok (.iconst 0, 1) := by decide +kernel
theorem dX11_undone_17 : decode cX11_undone 17 = .ok (.iastore, 1) := by decide +kernel
theorem dX11_undone_18 : decode cX11_undone 18 = .ok (.iload_n 1, 1) := by decide +kernel
theorem dX11_undone_19 : decode cX11_undone 19 = .ok (.ireturn, 1) := by decide +kernel
set_option maxRecDepth 20000 in
theorem ggX11_togetherBy_X11_owesOf : GoodIn wsX11_togetherBy wsX11_owesOf := goodIn_r _ [6, 7, 8, 9, 5, 10, 1, 11, 12, 13, 14, 15, 16, 17, 18, 19, 20, 21, 22, 23, 24, 25, 26, 27, 28, 29, 30, 31, 32, 33] (by decide +kernel) (by decide +kernel)
set_option maxRecDepth 20000 in
theorem gX11_togetherBy_X11_owesOf : GoodIn wsX11_togetherBy (wsV RX11 88 RX11 yX11_owesOf wsX11_owesOf) := goodIn_app (goodIn_of _ (by decide +kernel)) ggX11_togetherBy_X11_owesOf
theorem dX11_togetherBy_0 : decode cX11_togetherBy 0 = .ok (.iconst 0, 1) := by decide +kernel
theorem dX11_togetherBy_1 : decode cX11_togetherBy 1 = .ok (.istore_n 2, 1) := by decide +kernel
theorem dX11_togetherBy_2 : decode cX11_togetherBy 2 = .ok (.iconst 0, 1) := by decide +kernel
theorem dX11_togetherBy_3 : decode cX11_togetherBy 3 = .ok (.istore_n 3, 1) := by decide +kernel
theorem dX11_togetherBy_4 : decode cX11_togetherBy 4 = .ok (.iconst 0, 1) := by decide +kernel
theorem dX11_togetherBy_5 : decode cX11_togetherBy 5 = .ok (.istore 4, 2) := by decide +kernel
theorem dX11_togetherBy_7 : decode cX11_togetherBy 7 = .ok (.iload 4, 2) := by decide +kernel
theorem dX11_togetherBy_9 : decode cX11_togetherBy 9 = .ok (.aload_n 0, 1) := by decide +kernel
theorem dX11_togetherBy_10 : decode cX11_togetherBy 10 = .ok (.getfield 13, 3) := by decide +kernel
theorem dX11_togetherBy_13 : decode cX11_togetherBy 13 = .ok (.sipush 306, 3) := by decide +kernel
theorem dX11_togetherBy_16 : decode cX11_togetherBy 16 = .ok (.iaload, 1) := by decide +kernel
theorem dX11_togetherBy_17 : decode cX11_togetherBy 17 = .ok (.if_icmp .ge 84, 3) := by decide +kernel
theorem dX11_togetherBy_20 : decode cX11_togetherBy 20 = .ok (.sipush 198, 3) := by decide +kernel
theorem dX11_togetherBy_23 : decode cX11_togetherBy 23 = .ok (.iconst 3, 1) := by decide +kernel
theorem dX11_togetherBy_24 : decode cX11_togetherBy 24 = .ok (.iload 4, 2) := by decide +kernel
theorem dX11_togetherBy_26 : decode cX11_togetherBy 26 = .ok (.imul, 1) := by decide +kernel
theorem dX11_togetherBy_27 : decode cX11_togetherBy 27 = .ok (.iadd, 1) := by decide +kernel
theorem dX11_togetherBy_28 : decode cX11_togetherBy 28 = .ok (.istore 5, 2) := by decide +kernel
theorem dX11_togetherBy_30 : decode cX11_togetherBy 30 = .ok (.aload_n 0, 1) := by decide +kernel
theorem dX11_togetherBy_31 : decode cX11_togetherBy 31 = .ok (.iload_n 1, 1) := by decide +kernel
theorem dX11_togetherBy_32 : decode cX11_togetherBy 32 = .ok (.aload_n 0, 1) := by decide +kernel
theorem dX11_togetherBy_33 : decode cX11_togetherBy 33 = .ok (.getfield 13, 3) := by decide +kernel
theorem dX11_togetherBy_36 : decode cX11_togetherBy 36 = .ok (.iload 5, 2) := by decide +kernel
theorem dX11_togetherBy_38 : decode cX11_togetherBy 38 = .ok (.iaload, 1) := by decide +kernel
theorem dX11_togetherBy_39 : decode cX11_togetherBy 39 = .ok (.aload_n 0, 1) := by decide +kernel
theorem dX11_togetherBy_40 : decode cX11_togetherBy 40 = .ok (.getfield 13, 3) := by decide +kernel
theorem dX11_togetherBy_43 : decode cX11_togetherBy 43 = .ok (.iload 5, 2) := by decide +kernel
theorem dX11_togetherBy_45 : decode cX11_togetherBy 45 = .ok (.iconst 1, 1) := by decide +kernel
theorem dX11_togetherBy_46 : decode cX11_togetherBy 46 = .ok (.iadd, 1) := by decide +kernel
theorem dX11_togetherBy_47 : decode cX11_togetherBy 47 = .ok (.iaload, 1) := by decide +kernel
theorem dX11_togetherBy_48 : decode cX11_togetherBy 48 = .ok (.invokevirtual 88, 3) := by decide +kernel
theorem dX11_togetherBy_51 : decode cX11_togetherBy 51 = .ok (.istore 6, 2) := by decide +kernel
theorem dX11_togetherBy_53 : decode cX11_togetherBy 53 = .ok (.iload 6, 2) := by decide +kernel
theorem dX11_togetherBy_55 : decode cX11_togetherBy 55 = .ok (.ifCond .ge 6, 3) := by decide +kernel
theorem dX11_togetherBy_58 : decode cX11_togetherBy 58 = .ok (.goto 37, 3) := by decide +kernel
theorem dX11_togetherBy_61 : decode cX11_togetherBy 61 = .ok (.iload 6, 2) := by decide +kernel
theorem dX11_togetherBy_63 : decode cX11_togetherBy 63 = .ok (.iconst 1, 1) := by decide +kernel
theorem dX11_togetherBy_64 : decode cX11_togetherBy 64 = .ok (.aload_n 0, 1) := by decide +kernel
theorem dX11_togetherBy_65 : decode cX11_togetherBy 65 = .ok (.getfield 13, 3) := by decide +kernel
theorem dX11_togetherBy_68 : decode cX11_togetherBy 68 = .ok (.iload 5, 2) := by decide +kernel
theorem dX11_togetherBy_70 : decode cX11_togetherBy 70 = .ok (.iconst 2, 1) := by decide +kernel
theorem dX11_togetherBy_71 : decode cX11_togetherBy 71 = .ok (.iadd, 1) := by decide +kernel
theorem dX11_togetherBy_72 : decode cX11_togetherBy 72 = .ok (.iaload, 1) := by decide +kernel
theorem dX11_togetherBy_73 : decode cX11_togetherBy 73 = .ok (.iadd, 1) := by decide +kernel
theorem dX11_togetherBy_74 : decode cX11_togetherBy 74 = .ok (.imul, 1) := by decide +kernel
theorem dX11_togetherBy_75 : decode cX11_togetherBy 75 = .ok (.istore 6, 2) := by decide +kernel
theorem dX11_togetherBy_77 : decode cX11_togetherBy 77 = .ok (.iload_n 2, 1) := by decide +kernel
theorem dX11_togetherBy_78 : decode cX11_togetherBy 78 = .ok (.iload 6, 2) := by decide +kernel
theorem dX11_togetherBy_80 : decode cX11_togetherBy 80 = .ok (.iadd, 1) := by decide +kernel
theorem dX11_togetherBy_81 : decode cX11_togetherBy 81 = .ok (.istore_n 2, 1) := by decide +kernel
theorem dX11_togetherBy_82 : decode cX11_togetherBy 82 = .ok (.iload 6, 2) := by decide +kernel
theorem dX11_togetherBy_84 : decode cX11_togetherBy 84 = .ok (.iload_n 3, 1) := by decide +kernel
theorem dX11_togetherBy_85 : decode cX11_togetherBy 85 = .ok (.if_icmp .le 8, 3) := by decide +kernel
theorem dX11_togetherBy_88 : decode cX11_togetherBy 88 = .ok (.iload 6, 2) := by decide +kernel
theorem dX11_togetherBy_90 : decode cX11_togetherBy 90 = .ok (.goto 4, 3) := by decide +kernel
theorem dX11_togetherBy_93 : decode cX11_togetherBy 93 = .ok (.iload_n 3, 1) := by decide +kernel
theorem dX11_togetherBy_94 : decode cX11_togetherBy 94 = .ok (.istore_n 3, 1) := by decide +kernel
theorem dX11_togetherBy_95 : decode cX11_togetherBy 95 = .ok (.iinc 4 1, 3) := by decide +kernel
theorem dX11_togetherBy_98 : decode cX11_togetherBy 98 = .ok (.goto (-91), 3) := by decide +kernel
theorem dX11_togetherBy_101 : decode cX11_togetherBy 101 = .ok (.aload_n 0, 1) := by decide +kernel
theorem dX11_togetherBy_102 : decode cX11_togetherBy 102 = .ok (.getfield 13, 3) := by decide +kernel
theorem dX11_togetherBy_105 : decode cX11_togetherBy 105 = .ok (.sipush 192, 3) := by decide +kernel
theorem dX11_togetherBy_108 : decode cX11_togetherBy 108 = .ok (.iload_n 1, 1) := by decide +kernel
theorem dX11_togetherBy_109 : decode cX11_togetherBy 109 = .ok (.iadd, 1) := by decide +kernel
theorem dX11_togetherBy_110 : decode cX11_togetherBy 110 = .ok (.iaload, 1) := by decide +kernel
theorem dX11_togetherBy_111 : decode cX11_togetherBy 111 = .ok (.ifCond .ne 7, 3) := by decide +kernel
theorem dX11_togetherBy_114 : decode cX11_togetherBy 114 = .ok (.iload_n 2, 1) := by decide +kernel
theorem dX11_togetherBy_115 : decode cX11_togetherBy 115 = .ok (.goto 28, 3) := by decide +kernel
theorem dX11_togetherBy_118 : decode cX11_togetherBy 118 = .ok (.aload_n 0, 1) := by decide +kernel
theorem dX11_togetherBy_119 : decode cX11_togetherBy 119 = .ok (.getfield 13, 3) := by decide +kernel
theorem dX11_togetherBy_122 : decode cX11_togetherBy 122 = .ok (.sipush 192, 3) := by decide +kernel
theorem dX11_togetherBy_125 : decode cX11_togetherBy 125 = .ok (.iload_n 1, 1) := by decide +kernel
theorem dX11_togetherBy_126 : decode cX11_togetherBy 126 = .ok (.iadd, 1) := by decide +kernel
theorem dX11_togetherBy_127 : decode cX11_togetherBy 127 = .ok (.iaload, 1) := by decide +kernel
theorem dX11_togetherBy_128 : decode cX11_togetherBy 128 = .ok (.iconst 1, 1) := by decide +kernel
theorem dX11_togetherBy_129 : decode cX11_togetherBy 129 = .ok (.if_icmp .ne 7, 3) := by decide +kernel
theorem dX11_togetherBy_132 : decode cX11_togetherBy 132 = .ok (.iload_n 3, 1) := by decide +kernel
theorem dX11_togetherBy_133 : decode cX11_togetherBy 133 = .ok (.goto 10, 3) := by decide +kernel
theorem dX11_togetherBy_136 : decode cX11_togetherBy 136 = .ok (.iload_n 3, 1) := by decide +kernel
theorem dX11_togetherBy_137 : decode cX11_togetherBy 137 = .ok (.iload_n 2, 1) := by decide +kernel
theorem dX11_togetherBy_138 : decode cX11_togetherBy 138 = .ok (.iload_n 3, 1) := by decide +kernel
theorem dX11_togetherBy_139 : decode cX11_togetherBy 139 = .ok (.isub, 1) := by decide +kernel
theorem dX11_togetherBy_140 : decode cX11_togetherBy 140 = .ok (.iconst 2, 1) := by decide +kernel
theorem dX11_togetherBy_141 : decode cX11_togetherBy 141 = .ok (.idiv, 1) := by decide +kernel
theorem dX11_togetherBy_142 : decode cX11_togetherBy 142 = .ok (.iadd, 1) := by decide +kernel
theorem dX11_togetherBy_143 : decode cX11_togetherBy 143 = .ok (.ireturn, 1) := by decide +kernel
set_option maxRecDepth 20000 in
theorem ggX11_together_X11_isBook : GoodIn wsX11_together wsX11_isBook := goodIn_r _ [4, 5, 6, 3, 7] (by decide +kernel) (by decide +kernel)
set_option maxRecDepth 20000 in
theorem gX11_together_X11_isBook : GoodIn wsX11_together (va_wsS RX11 71 yX11_isBook wsX11_isBook) := goodIn_app (goodIn_of _ (by decide +kernel)) ggX11_together_X11_isBook
set_option maxRecDepth 20000 in
theorem ggX11_together_X11_togetherBy : GoodIn wsX11_together wsX11_togetherBy := goodIn_r _ [11, 12, 13, 14, 15, 3, 16, 17, 18, 19, 20, 21, 22, 23, 24, 30, 31, 32, 33, 34, 35, 36, 37, 38, 39, 40, 41, 42, 43, 44, 45, 46, 47, 48] (by decide +kernel) (by decide +kernel)
set_option maxRecDepth 20000 in
theorem gX11_together_X11_togetherBy : GoodIn wsX11_together (wsV RX11 91 RX11 yX11_togetherBy wsX11_togetherBy) := goodIn_app (goodIn_of _ (by decide +kernel)) ggX11_together_X11_togetherBy
set_option maxRecDepth 20000 in
theorem ggX11_together_X11_refuse : GoodIn wsX11_together wsX11_refuse := goodIn_r _ [28, 29, 30, 31, 32, 33, 34, 35, 36, 37, 38, 39, 40, 41, 42, 43, 44, 45, 46, 47, 48] (by decide +kernel) (by decide +kernel)
set_option maxRecDepth 20000 in
theorem gX11_together_X11_refuse : GoodIn wsX11_together (wsV RX11 51 RX11 yX11_refuse wsX11_refuse) := goodIn_app (goodIn_of _ (by decide +kernel)) ggX11_together_X11_refuse
theorem dX11_together_0 : decode cX11_together 0 = .ok (.iload_n 1, 1) := by decide +kernel
theorem dX11_together_1 : decode cX11_together 1 = .ok (.invokestatic 71, 3) := by decide +kernel
theorem dX11_together_4 : decode cX11_together 4 = .ok (.ifCond .eq 11, 3) := by decide +kernel
theorem dX11_together_7 : decode cX11_together 7 = .ok (.aload_n 0, 1) := by decide +kernel
theorem dX11_together_8 : decode cX11_together 8 = .ok (.iload_n 1, 1) := by decide +kernel
theorem dX11_together_9 : decode cX11_together 9 = .ok (.invokevirtual 91, 3) := by decide +kernel
theorem dX11_together_12 : decode cX11_together 12 = .ok (.goto 8, 3) := by decide +kernel
theorem dX11_together_15 : decode cX11_together 15 = .ok (.aload_n 0, 1) := by decide +kernel
theorem dX11_together_16 : decode cX11_together 16 = .ok (.iconst (-1), 1) := by decide +kernel
theorem dX11_together_17 : decode cX11_together 17 = .ok (.invokevirtual 51, 3) := by decide +kernel
theorem dX11_together_20 : decode cX11_together 20 = .ok (.ireturn, 1) := by decide +kernel
theorem dX11_pay_0 : decode cX11_pay 0 = .ok (.aload_n 0, 1) := by decide +kernel
theorem dX11_pay_1 : decode cX11_pay 1 = .ok (.getfield 13, 3) := by decide +kernel
theorem dX11_pay_4 : decode cX11_pay 4 = .ok (.sipush 234, 3) := by decide +kernel
theorem dX11_pay_7 : decode cX11_pay 7 = .ok (.iconst 4, 1) := by decide +kernel
theorem dX11_pay_8 : decode cX11_pay 8 = .ok (.iload_n 1, 1) := by decide +kernel
theorem dX11_pay_9 : decode cX11_pay 9 = .ok (.imul, 1) := by decide +kernel
theorem dX11_pay_10 : decode cX11_pay 10 = .ok (.iadd, 1) := by decide +kernel
theorem dX11_pay_11 : decode cX11_pay 11 = .ok (.iload_n 2, 1) := by decide +kernel
theorem dX11_pay_12 : decode cX11_pay 12 = .ok (.iadd, 1) := by decide +kernel
theorem dX11_pay_13 : decode cX11_pay 13 = .ok (.iaload, 1) := by decide +kernel
theorem dX11_pay_14 : decode cX11_pay 14 = .ok (.ireturn, 1) := by decide +kernel
set_option maxRecDepth 20000 in
theorem ggX11_paying_X11_isIn : GoodIn wsX11_paying wsX11_isIn := goodIn_r _ [5] (by decide +kernel) (by decide +kernel)
set_option maxRecDepth 20000 in
theorem gX11_paying_X11_isIn : GoodIn wsX11_paying (va_wsS RX11 47 yX11_isIn wsX11_isIn) := goodIn_app (goodIn_of _ (by decide +kernel)) ggX11_paying_X11_isIn
set_option maxRecDepth 20000 in
theorem ggX11_paying_X11_refuse : GoodIn wsX11_paying wsX11_refuse := goodIn_r _ [9, 10, 18, 19, 20, 21, 22, 23, 24, 25, 26, 27, 28, 29, 30, 31, 32, 33, 34, 35, 36] (by decide +kernel) (by decide +kernel)
set_option maxRecDepth 20000 in
theorem gX11_paying_X11_refuse : GoodIn wsX11_paying (wsV RX11 51 RX11 yX11_refuse wsX11_refuse) := goodIn_app (goodIn_of _ (by decide +kernel)) ggX11_paying_X11_refuse
set_option maxRecDepth 20000 in
theorem ggX11_paying_X11_within : GoodIn wsX11_paying wsX11_within := goodIn_r _ [13] (by decide +kernel) (by decide +kernel)
set_option maxRecDepth 20000 in
theorem gX11_paying_X11_within : GoodIn wsX11_paying (va_wsS RX11 94 yX11_within wsX11_within) := goodIn_app (goodIn_of _ (by decide +kernel)) ggX11_paying_X11_within
set_option maxRecDepth 20000 in
theorem ggX11_paying_X11_pay : GoodIn wsX11_paying wsX11_pay := goodIn_r _ [17, 1, 18, 19, 20, 21, 22, 23, 24, 25, 26, 27, 28, 29, 30, 31, 32, 33, 34, 35, 36] (by decide +kernel) (by decide +kernel)
set_option maxRecDepth 20000 in
theorem gX11_paying_X11_pay : GoodIn wsX11_paying (wsV RX11 97 RX11 yX11_pay wsX11_pay) := goodIn_app (goodIn_of _ (by decide +kernel)) ggX11_paying_X11_pay
theorem dX11_paying_0 : decode cX11_paying 0 = .ok (.iload_n 1, 1) := by decide +kernel
theorem dX11_paying_1 : decode cX11_paying 1 = .ok (.bipush 6, 2) := by decide +kernel
theorem dX11_paying_3 : decode cX11_paying 3 = .ok (.invokestatic 47, 3) := by decide +kernel
theorem dX11_paying_6 : decode cX11_paying 6 = .ok (.ifCond .ne 9, 3) := by decide +kernel
theorem dX11_paying_9 : decode cX11_paying 9 = .ok (.aload_n 0, 1) := by decide +kernel
theorem dX11_paying_10 : decode cX11_paying 10 = .ok (.iconst (-1), 1) := by decide +kernel
theorem dX11_paying_11 : decode cX11_paying 11 = .ok (.invokevirtual 51, 3) := by decide +kernel
theorem dX11_paying_14 : decode cX11_paying 14 = .ok (.ireturn, 1) := by decide +kernel
theorem dX11_paying_15 : decode cX11_paying 15 = .ok (.iload_n 2, 1) := by decide +kernel
theorem dX11_paying_16 : decode cX11_paying 16 = .ok (.iconst 4, 1) := by decide +kernel
theorem dX11_paying_17 : decode cX11_paying 17 = .ok (.invokestatic 47, 3) := by decide +kernel
theorem dX11_paying_20 : decode cX11_paying 20 = .ok (.ifCond .ne 10, 3) := by decide +kernel
theorem dX11_paying_23 : decode cX11_paying 23 = .ok (.aload_n 0, 1) := by decide +kernel
theorem dX11_paying_24 : decode cX11_paying 24 = .ok (.bipush (-2), 2) := by decide +kernel
theorem dX11_paying_26 : decode cX11_paying 26 = .ok (.invokevirtual 51, 3) := by decide +kernel
theorem dX11_paying_29 : decode cX11_paying 29 = .ok (.ireturn, 1) := by decide +kernel
theorem dX11_paying_30 : decode cX11_paying 30 = .ok (.iload_n 3, 1) := by decide +kernel
theorem dX11_paying_31 : decode cX11_paying 31 = .ok (.iconst 0, 1) := by decide +kernel
theorem dX11_paying_32 : decode cX11_paying 32 = .ok (.iload_n 2, 1) := by decide +kernel
theorem dX11_paying_33 : decode cX11_paying 33 = .ok (.iconst 2, 1) := by decide +kernel
theorem dX11_paying_34 : decode cX11_paying 34 = .ok (.if_icmp .ge 8, 3) := by decide +kernel
theorem dX11_paying_37 : decode cX11_paying 37 = .ok (.bipush 99, 2) := by decide +kernel
theorem dX11_paying_39 : decode cX11_paying 39 = .ok (.goto 16, 3) := by decide +kernel
theorem dX11_paying_42 : decode cX11_paying 42 = .ok (.iload_n 2, 1) := by decide +kernel
theorem dX11_paying_43 : decode cX11_paying 43 = .ok (.iconst 2, 1) := by decide +kernel
theorem dX11_paying_44 : decode cX11_paying 44 = .ok (.if_icmp .ne 8, 3) := by decide +kernel
theorem dX11_paying_47 : decode cX11_paying 47 = .ok (.bipush 9, 2) := by decide +kernel
theorem dX11_paying_49 : decode cX11_paying 49 = .ok (.goto 6, 3) := by decide +kernel
theorem dX11_paying_52 : decode cX11_paying 52 = .ok (.sipush 999, 3) := by decide +kernel
theorem dX11_paying_55 : decode cX11_paying 55 = .ok (.invokestatic 94, 3) := by decide +kernel
theorem dX11_paying_58 : decode cX11_paying 58 = .ok (.istore 4, 2) := by decide +kernel
theorem dX11_paying_60 : decode cX11_paying 60 = .ok (.iload 4, 2) := by decide +kernel
theorem dX11_paying_62 : decode cX11_paying 62 = .ok (.ifCond .eq 10, 3) := by decide +kernel
theorem dX11_paying_65 : decode cX11_paying 65 = .ok (.aload_n 0, 1) := by decide +kernel
theorem dX11_paying_66 : decode cX11_paying 66 = .ok (.iload 4, 2) := by decide +kernel
theorem dX11_paying_68 : decode cX11_paying 68 = .ok (.invokevirtual 51, 3) := by decide +kernel
theorem dX11_paying_71 : decode cX11_paying 71 = .ok (.ireturn, 1) := by decide +kernel
theorem dX11_paying_72 : decode cX11_paying 72 = .ok (.aload_n 0, 1) := by decide +kernel
theorem dX11_paying_73 : decode cX11_paying 73 = .ok (.iload_n 1, 1) := by decide +kernel
theorem dX11_paying_74 : decode cX11_paying 74 = .ok (.iload_n 2, 1) := by decide +kernel
theorem dX11_paying_75 : decode cX11_paying 75 = .ok (.invokevirtual 97, 3) := by decide +kernel
theorem dX11_paying_78 : decode cX11_paying 78 = .ok (.istore 5, 2) := by decide +kernel
theorem dX11_paying_80 : decode cX11_paying 80 = .ok (.aload_n 0, 1) := by decide +kernel
theorem dX11_paying_81 : decode cX11_paying 81 = .ok (.getfield 13, 3) := by decide +kernel
theorem dX11_paying_84 : decode cX11_paying 84 = .ok (.sipush 234, 3) := by decide +kernel
theorem dX11_paying_87 : decode cX11_paying 87 = .ok (.iconst 4, 1) := by decide +kernel
theorem dX11_paying_88 : decode cX11_paying 88 = .ok (.iload_n 1, 1) := by decide +kernel
theorem dX11_paying_89 : decode cX11_paying 89 = .ok (.imul, 1) := by decide +kernel
theorem dX11_paying_90 : decode cX11_paying 90 = .ok (.iadd, 1) := by decide +kernel
theorem dX11_paying_91 : decode cX11_paying 91 = .ok (.iload_n 2, 1) := by decide +kernel
theorem dX11_paying_92 : decode cX11_paying 92 = .ok (.iadd, 1) := by decide +kernel
theorem dX11_paying_93 : decode cX11_paying 93 = .ok (.iload_n 3, 1) := by decide +kernel
theorem dX11_paying_94 : decode cX11_paying 94 = .ok (.iastore, 1) := by decide +kernel
theorem dX11_paying_95 : decode cX11_paying 95 = .ok (.iload 5, 2) := by decide +kernel
theorem dX11_paying_97 : decode cX11_paying 97 = .ok (.ireturn, 1) := by decide +kernel
set_option maxRecDepth 20000 in
theorem ggX11_feasts_X11_within : GoodIn wsX11_feasts wsX11_within := goodIn_r _ [6] (by decide +kernel) (by decide +kernel)
set_option maxRecDepth 20000 in
theorem gX11_feasts_X11_within : GoodIn wsX11_feasts (va_wsS RX11 94 yX11_within wsX11_within) := goodIn_app (goodIn_of _ (by decide +kernel)) ggX11_feasts_X11_within
set_option maxRecDepth 20000 in
theorem ggX11_feasts_X11_refuse : GoodIn wsX11_feasts wsX11_refuse := goodIn_r _ [10, 11, 15, 16, 17, 18, 19, 20, 21, 22, 23, 24, 25, 26, 27, 28, 29, 30, 31, 32, 33] (by decide +kernel) (by decide +kernel)
set_option maxRecDepth 20000 in
theorem gX11_feasts_X11_refuse : GoodIn wsX11_feasts (wsV RX11 51 RX11 yX11_refuse wsX11_refuse) := goodIn_app (goodIn_of _ (by decide +kernel)) ggX11_feasts_X11_refuse
set_option maxRecDepth 20000 in
theorem ggX11_feasts_X11_bits : GoodIn wsX11_feasts wsX11_bits := goodIn_r _ [14] (by decide +kernel) (by decide +kernel)
set_option maxRecDepth 20000 in
theorem gX11_feasts_X11_bits : GoodIn wsX11_feasts (va_wsS RX11 102 yX11_bits wsX11_bits) := goodIn_app (goodIn_of _ (by decide +kernel)) ggX11_feasts_X11_bits
theorem dX11_feasts_0 : decode cX11_feasts 0 = .ok (.iload_n 1, 1) := by decide +kernel
theorem dX11_feasts_1 : decode cX11_feasts 1 = .ok (.iconst 0, 1) := by decide +kernel
theorem dX11_feasts_2 : decode cX11_feasts 2 = .ok (.ldc 101, 2) := by decide +kernel
theorem dX11_feasts_4 : decode cX11_feasts 4 = .ok (.invokestatic 94, 3) := by decide +kernel
theorem dX11_feasts_7 : decode cX11_feasts 7 = .ok (.istore_n 2, 1) := by decide +kernel
theorem dX11_feasts_8 : decode cX11_feasts 8 = .ok (.iload_n 2, 1) := by decide +kernel
theorem dX11_feasts_9 : decode cX11_feasts 9 = .ok (.ifCond .eq 9, 3) := by decide +kernel
theorem dX11_feasts_12 : decode cX11_feasts 12 = .ok (.aload_n 0, 1) := by decide +kernel
theorem dX11_feasts_13 : decode cX11_feasts 13 = .ok (.iload_n 2, 1) := by decide +kernel
theorem dX11_feasts_14 : decode cX11_feasts 14 = .ok (.invokevirtual 51, 3) := by decide +kernel
theorem dX11_feasts_17 : decode cX11_feasts 17 = .ok (.ireturn, 1) := by decide +kernel
theorem dX11_feasts_18 : decode cX11_feasts 18 = .ok (.aload_n 0, 1) := by decide +kernel
theorem dX11_feasts_19 : decode cX11_feasts 19 = .ok (.getfield 13, 3) := by decide +kernel
theorem dX11_feasts_22 : decode cX11_feasts 22 = .ok (.sipush 308, 3) := by decide +kernel
theorem dX11_feasts_25 : decode cX11_feasts 25 = .ok (.iload_n 1, 1) := by decide +kernel
theorem dX11_feasts_26 : decode cX11_feasts 26 = .ok (.iastore, 1) := by decide +kernel
theorem dX11_feasts_27 : decode cX11_feasts 27 = .ok (.iload_n 1, 1) := by decide +kernel
theorem dX11_feasts_28 : decode cX11_feasts 28 = .ok (.invokestatic 102, 3) := by decide +kernel
theorem dX11_feasts_31 : decode cX11_feasts 31 = .ok (.ireturn, 1) := by decide +kernel
set_option maxRecDepth 20000 in
theorem ggX11_friends_X11_within : GoodIn wsX11_friends wsX11_within := goodIn_r _ [5] (by decide +kernel) (by decide +kernel)
set_option maxRecDepth 20000 in
theorem gX11_friends_X11_within : GoodIn wsX11_friends (va_wsS RX11 94 yX11_within wsX11_within) := goodIn_app (goodIn_of _ (by decide +kernel)) ggX11_friends_X11_within
set_option maxRecDepth 20000 in
theorem ggX11_friends_X11_refuse : GoodIn wsX11_friends wsX11_refuse := goodIn_r _ [9, 10, 11, 12, 13, 14, 15, 16, 17, 18, 19, 20, 21, 22, 23, 24, 25, 26, 27, 28, 29] (by decide +kernel) (by decide +kernel)
set_option maxRecDepth 20000 in
theorem gX11_friends_X11_refuse : GoodIn wsX11_friends (wsV RX11 51 RX11 yX11_refuse wsX11_refuse) := goodIn_app (goodIn_of _ (by decide +kernel)) ggX11_friends_X11_refuse
theorem dX11_friends_0 : decode cX11_friends 0 = .ok (.iload_n 1, 1) := by decide +kernel
theorem dX11_friends_1 : decode cX11_friends 1 = .ok (.iconst 0, 1) := by decide +kernel
theorem dX11_friends_2 : decode cX11_friends 2 = .ok (.bipush 99, 2) := by decide +kernel
theorem dX11_friends_4 : decode cX11_friends 4 = .ok (.invokestatic 94, 3) := by decide +kernel
theorem dX11_friends_7 : decode cX11_friends 7 = .ok (.istore_n 2, 1) := by decide +kernel
theorem dX11_friends_8 : decode cX11_friends 8 = .ok (.iload_n 2, 1) := by decide +kernel
theorem dX11_friends_9 : decode cX11_friends 9 = .ok (.ifCond .eq 9, 3) := by decide +kernel
theorem dX11_friends_12 : decode cX11_friends 12 = .ok (.aload_n 0, 1) := by decide +kernel
theorem dX11_friends_13 : decode cX11_friends 13 = .ok (.iload_n 2, 1) := by decide +kernel
theorem dX11_friends_14 : decode cX11_friends 14 = .ok (.invokevirtual 51, 3) := by decide +kernel
theorem dX11_friends_17 : decode cX11_friends 17 = .ok (.ireturn, 1) := by decide +kernel
theorem dX11_friends_18 : decode cX11_friends 18 = .ok (.aload_n 0, 1) := by decide +kernel
theorem dX11_friends_19 : decode cX11_friends 19 = .ok (.getfield 13, 3) := by decide +kernel
theorem dX11_friends_22 : decode cX11_friends 22 = .ok (.sipush 309, 3) := by decide +kernel
theorem dX11_friends_25 : decode cX11_friends 25 = .ok (.iaload, 1) := by decide +kernel
theorem dX11_friends_26 : decode cX11_friends 26 = .ok (.istore_n 3, 1) := by decide +kernel
theorem dX11_friends_27 : decode cX11_friends 27 = .ok (.aload_n 0, 1) := by decide +kernel
theorem dX11_friends_28 : decode cX11_friends 28 = .ok (.getfield 13, 3) := by decide +kernel
theorem dX11_friends_31 : decode cX11_friends 31 = .ok (.sipush 309, 3) := by decide +kernel
theorem dX11_friends_34 : decode cX11_friends 34 = .ok (.iload_n 1, 1) := by decide +kernel
theorem dX11_friends_35 : decode cX11_friends 35 = .ok (.iastore, 1) := by decide +kernel
theorem dX11_friends_36 : decode cX11_friends 36 = .ok (.iload_n 3, 1) := by decide +kernel
theorem dX11_friends_37 : decode cX11_friends 37 = .ok (.ireturn, 1) := by decide +kernel
theorem dX11_isFeast_0 : decode cX11_isFeast 0 = .ok (.aload_n 0, 1) := by decide +kernel
theorem dX11_isFeast_1 : decode cX11_isFeast 1 = .ok (.getfield 13, 3) := by decide +kernel
theorem dX11_isFeast_4 : decode cX11_isFeast 4 = .ok (.sipush 308, 3) := by decide +kernel
theorem dX11_isFeast_7 : decode cX11_isFeast 7 = .ok (.iaload, 1) := by decide +kernel
theorem dX11_isFeast_8 : decode cX11_isFeast 8 = .ok (.iload_n 1, 1) := by decide +kernel
theorem dX11_isFeast_9 : decode cX11_isFeast 9 = .ok (.bipush 28, 2) := by decide +kernel
theorem dX11_isFeast_11 : decode cX11_isFeast 11 = .ok (.irem, 1) := by decide +kernel
theorem dX11_isFeast_12 : decode cX11_isFeast 12 = .ok (.ishr, 1) := by decide +kernel
theorem dX11_isFeast_13 : decode cX11_isFeast 13 = .ok (.iconst 1, 1) := by decide +kernel
theorem dX11_isFeast_14 : decode cX11_isFeast 14 = .ok (.iand, 1) := by decide +kernel
theorem dX11_isFeast_15 : decode cX11_isFeast 15 = .ok (.iconst 1, 1) := by decide +kernel
theorem dX11_isFeast_16 : decode cX11_isFeast 16 = .ok (.if_icmp .ne 7, 3) := by decide +kernel
theorem dX11_isFeast_19 : decode cX11_isFeast 19 = .ok (.iconst 1, 1) := by decide +kernel
theorem dX11_isFeast_20 : decode cX11_isFeast 20 = .ok (.goto 4, 3) := by decide +kernel
theorem dX11_isFeast_23 : decode cX11_isFeast 23 = .ok (.iconst 0, 1) := by decide +kernel
theorem dX11_isFeast_24 : decode cX11_isFeast 24 = .ok (.ireturn, 1) := by decide +kernel
set_option maxRecDepth 20000 in
theorem ggX11_perDay_X11_pay : GoodIn wsX11_perDay wsX11_pay := goodIn_r _ [6, 1, 7, 8, 9, 10, 11, 12, 13, 14, 15, 16, 17, 18, 19, 20, 21, 22, 23, 24, 25] (by decide +kernel) (by decide +kernel)
set_option maxRecDepth 20000 in
theorem gX11_perDay_X11_pay : GoodIn wsX11_perDay (wsV RX11 97 RX11 yX11_pay wsX11_pay) := goodIn_app (goodIn_of _ (by decide +kernel)) ggX11_perDay_X11_pay
theorem dX11_perDay_0 : decode cX11_perDay 0 = .ok (.iload_n 1, 1) := by decide +kernel
theorem dX11_perDay_1 : decode cX11_perDay 1 = .ok (.iconst 4, 1) := by decide +kernel
theorem dX11_perDay_2 : decode cX11_perDay 2 = .ok (.if_icmp .ne 23, 3) := by decide +kernel
theorem dX11_perDay_5 : decode cX11_perDay 5 = .ok (.aload_n 0, 1) := by decide +kernel
theorem dX11_perDay_6 : decode cX11_perDay 6 = .ok (.getfield 13, 3) := by decide +kernel
theorem dX11_perDay_9 : decode cX11_perDay 9 = .ok (.sipush 309, 3) := by decide +kernel
theorem dX11_perDay_12 : decode cX11_perDay 12 = .ok (.iaload, 1) := by decide +kernel
theorem dX11_perDay_13 : decode cX11_perDay 13 = .ok (.aload_n 0, 1) := by decide +kernel
theorem dX11_perDay_14 : decode cX11_perDay 14 = .ok (.iload_n 1, 1) := by decide +kernel
theorem dX11_perDay_15 : decode cX11_perDay 15 = .ok (.iconst 2, 1) := by decide +kernel
theorem dX11_perDay_16 : decode cX11_perDay 16 = .ok (.invokevirtual 97, 3) := by decide +kernel
theorem dX11_perDay_19 : decode cX11_perDay 19 = .ok (.iconst 1, 1) := by decide +kernel
theorem dX11_perDay_20 : decode cX11_perDay 20 = .ok (.iadd, 1) := by decide +kernel
theorem dX11_perDay_21 : decode cX11_perDay 21 = .ok (.imul, 1) := by decide +kernel
theorem dX11_perDay_22 : decode cX11_perDay 22 = .ok (.goto 9, 3) := by decide +kernel
theorem dX11_perDay_25 : decode cX11_perDay 25 = .ok (.aload_n 0, 1) := by decide +kernel
theorem dX11_perDay_26 : decode cX11_perDay 26 = .ok (.iload_n 1, 1) := by decide +kernel
theorem dX11_perDay_27 : decode cX11_perDay 27 = .ok (.iconst 2, 1) := by decide +kernel
theorem dX11_perDay_28 : decode cX11_perDay 28 = .ok (.invokevirtual 97, 3) := by decide +kernel
theorem dX11_perDay_31 : decode cX11_perDay 31 = .ok (.ireturn, 1) := by decide +kernel
set_option maxRecDepth 20000 in
theorem ggX11_mostOf_X11_pay : GoodIn wsX11_mostOf wsX11_pay := goodIn_r _ [5, 6, 18, 19, 20, 21, 22, 23, 24, 25, 26, 27, 28, 29, 30, 31, 32, 33, 34, 35, 36] (by decide +kernel) (by decide +kernel)
set_option maxRecDepth 20000 in
theorem gX11_mostOf_X11_pay : GoodIn wsX11_mostOf (wsV RX11 97 RX11 yX11_pay wsX11_pay) := goodIn_app (goodIn_of _ (by decide +kernel)) ggX11_mostOf_X11_pay
set_option maxRecDepth 20000 in
theorem ggX11_mostOf_X11_isFeast : GoodIn wsX11_mostOf wsX11_isFeast := goodIn_r _ [10, 6, 18, 19, 20, 21, 22, 23, 24, 25, 26, 27, 28, 29, 30, 31, 32, 33, 34, 35, 36] (by decide +kernel) (by decide +kernel)
set_option maxRecDepth 20000 in
theorem gX11_mostOf_X11_isFeast : GoodIn wsX11_mostOf (wsV RX11 105 RX11 yX11_isFeast wsX11_isFeast) := goodIn_app (goodIn_of _ (by decide +kernel)) ggX11_mostOf_X11_isFeast
set_option maxRecDepth 20000 in
theorem ggX11_mostOf_X11_perDay : GoodIn wsX11_mostOf wsX11_perDay := goodIn_r _ [14, 6, 1, 2, 3, 4, 5, 18, 19, 20, 21, 22, 23, 24, 25, 26, 27, 28, 29, 30, 31, 32, 33, 34, 35, 36] (by decide +kernel) (by decide +kernel)
set_option maxRecDepth 20000 in
theorem gX11_mostOf_X11_perDay : GoodIn wsX11_mostOf (wsV RX11 108 RX11 yX11_perDay wsX11_perDay) := goodIn_app (goodIn_of _ (by decide +kernel)) ggX11_mostOf_X11_perDay
set_option maxRecDepth 20000 in
theorem ggX11_mostOf_X11_lesser : GoodIn wsX11_mostOf wsX11_lesser := goodIn_r _ [17] (by decide +kernel) (by decide +kernel)
set_option maxRecDepth 20000 in
theorem gX11_mostOf_X11_lesser : GoodIn wsX11_mostOf (va_wsS RX11 111 yX11_lesser wsX11_lesser) := goodIn_app (goodIn_of _ (by decide +kernel)) ggX11_mostOf_X11_lesser
theorem dX11_mostOf_0 : decode cX11_mostOf 0 = .ok (.aload_n 0, 1) := by decide +kernel
theorem dX11_mostOf_1 : decode cX11_mostOf 1 = .ok (.iload_n 1, 1) := by decide +kernel
theorem dX11_mostOf_2 : decode cX11_mostOf 2 = .ok (.iconst 0, 1) := by decide +kernel
theorem dX11_mostOf_3 : decode cX11_mostOf 3 = .ok (.invokevirtual 97, 3) := by decide +kernel
theorem dX11_mostOf_6 : decode cX11_mostOf 6 = .ok (.ifCond .ne 5, 3) := by decide +kernel
theorem dX11_mostOf_9 : decode cX11_mostOf 9 = .ok (.iconst 0, 1) := by decide +kernel
theorem dX11_mostOf_10 : decode cX11_mostOf 10 = .ok (.ireturn, 1) := by decide +kernel
theorem dX11_mostOf_11 : decode cX11_mostOf 11 = .ok (.iload_n 1, 1) := by decide +kernel
theorem dX11_mostOf_12 : decode cX11_mostOf 12 = .ok (.iconst 3, 1) := by decide +kernel
theorem dX11_mostOf_13 : decode cX11_mostOf 13 = .ok (.if_icmp .ne 11, 3) := by decide +kernel
theorem dX11_mostOf_16 : decode cX11_mostOf 16 = .ok (.iload_n 2, 1) := by decide +kernel
theorem dX11_mostOf_17 : decode cX11_mostOf 17 = .ok (.iconst 1, 1) := by decide +kernel
theorem dX11_mostOf_18 : decode cX11_mostOf 18 = .ok (.iadd, 1) := by decide +kernel
theorem dX11_mostOf_19 : decode cX11_mostOf 19 = .ok (.iconst 2, 1) := by decide +kernel
theorem dX11_mostOf_20 : decode cX11_mostOf 20 = .ok (.idiv, 1) := by decide +kernel
theorem dX11_mostOf_21 : decode cX11_mostOf 21 = .ok (.goto 4, 3) := by decide +kernel
theorem dX11_mostOf_24 : decode cX11_mostOf 24 = .ok (.iload_n 2, 1) := by decide +kernel
theorem dX11_mostOf_25 : decode cX11_mostOf 25 = .ok (.istore_n 3, 1) := by decide +kernel
theorem dX11_mostOf_26 : decode cX11_mostOf 26 = .ok (.iconst 0, 1) := by decide +kernel
theorem dX11_mostOf_27 : decode cX11_mostOf 27 = .ok (.istore 4, 2) := by decide +kernel
theorem dX11_mostOf_29 : decode cX11_mostOf 29 = .ok (.iload 4, 2) := by decide +kernel
theorem dX11_mostOf_31 : decode cX11_mostOf 31 = .ok (.iload_n 2, 1) := by decide +kernel
theorem dX11_mostOf_32 : decode cX11_mostOf 32 = .ok (.if_icmp .ge 35, 3) := by decide +kernel
theorem dX11_mostOf_35 : decode cX11_mostOf 35 = .ok (.iload_n 1, 1) := by decide +kernel
theorem dX11_mostOf_36 : decode cX11_mostOf 36 = .ok (.ifCond .eq 8, 3) := by decide +kernel
theorem dX11_mostOf_39 : decode cX11_mostOf 39 = .ok (.iload_n 1, 1) := by decide +kernel
theorem dX11_mostOf_40 : decode cX11_mostOf 40 = .ok (.iconst 5, 1) := by decide +kernel
theorem dX11_mostOf_41 : decode cX11_mostOf 41 = .ok (.if_icmp .ne 26, 3) := by decide +kernel
theorem dX11_mostOf_44 : decode cX11_mostOf 44 = .ok (.iload_n 3, 1) := by decide +kernel
theorem dX11_mostOf_45 : decode cX11_mostOf 45 = .ok (.aload_n 0, 1) := by decide +kernel
theorem dX11_mostOf_46 : decode cX11_mostOf 46 = .ok (.iload 4, 2) := by decide +kernel
theorem dX11_mostOf_48 : decode cX11_mostOf 48 = .ok (.invokevirtual 105, 3) := by decide +kernel
theorem dX11_mostOf_51 : decode cX11_mostOf 51 = .ok (.ifCond .eq 7, 3) := by decide +kernel
theorem dX11_mostOf_54 : decode cX11_mostOf 54 = .ok (.iconst 1, 1) := by decide +kernel
theorem dX11_mostOf_55 : decode cX11_mostOf 55 = .ok (.goto 4, 3) := by decide +kernel
theorem dX11_mostOf_58 : decode cX11_mostOf 58 = .ok (.iconst 0, 1) := by decide +kernel
theorem dX11_mostOf_59 : decode cX11_mostOf 59 = .ok (.isub, 1) := by decide +kernel
theorem dX11_mostOf_60 : decode cX11_mostOf 60 = .ok (.istore_n 3, 1) := by decide +kernel
theorem dX11_mostOf_61 : decode cX11_mostOf 61 = .ok (.iinc 4 1, 3) := by decide +kernel
theorem dX11_mostOf_64 : decode cX11_mostOf 64 = .ok (.goto (-35), 3) := by decide +kernel
theorem dX11_mostOf_67 : decode cX11_mostOf 67 = .ok (.aload_n 0, 1) := by decide +kernel
theorem dX11_mostOf_68 : decode cX11_mostOf 68 = .ok (.iload_n 1, 1) := by decide +kernel
theorem dX11_mostOf_69 : decode cX11_mostOf 69 = .ok (.iconst 3, 1) := by decide +kernel
theorem dX11_mostOf_70 : decode cX11_mostOf 70 = .ok (.invokevirtual 97, 3) := by decide +kernel
theorem dX11_mostOf_73 : decode cX11_mostOf 73 = .ok (.iload_n 3, 1) := by decide +kernel
theorem dX11_mostOf_74 : decode cX11_mostOf 74 = .ok (.aload_n 0, 1) := by decide +kernel
theorem dX11_mostOf_75 : decode cX11_mostOf 75 = .ok (.iload_n 1, 1) := by decide +kernel
theorem dX11_mostOf_76 : decode cX11_mostOf 76 = .ok (.invokevirtual 108, 3) := by decide +kernel
theorem dX11_mostOf_79 : decode cX11_mostOf 79 = .ok (.imul, 1) := by decide +kernel
theorem dX11_mostOf_80 : decode cX11_mostOf 80 = .ok (.invokestatic 111, 3) := by decide +kernel
theorem dX11_mostOf_83 : decode cX11_mostOf 83 = .ok (.ireturn, 1) := by decide +kernel
set_option maxRecDepth 20000 in
theorem ggX11_unitsFor_X11_pay : GoodIn wsX11_unitsFor wsX11_pay := goodIn_r _ [7, 8, 9, 10, 11, 12, 13, 14, 15, 16, 17, 18, 19, 20, 21, 22, 23, 24, 25, 26, 27] (by decide +kernel) (by decide +kernel)
set_option maxRecDepth 20000 in
theorem gX11_unitsFor_X11_pay : GoodIn wsX11_unitsFor (wsV RX11 97 RX11 yX11_pay wsX11_pay) := goodIn_app (goodIn_of _ (by decide +kernel)) ggX11_unitsFor_X11_pay
theorem dX11_unitsFor_0 : decode cX11_unitsFor 0 = .ok (.bipush (-9), 2) := by decide +kernel
theorem dX11_unitsFor_2 : decode cX11_unitsFor 2 = .ok (.istore_n 3, 1) := by decide +kernel
theorem dX11_unitsFor_3 : decode cX11_unitsFor 3 = .ok (.iconst 0, 1) := by decide +kernel
theorem dX11_unitsFor_4 : decode cX11_unitsFor 4 = .ok (.istore 4, 2) := by decide +kernel
theorem dX11_unitsFor_6 : decode cX11_unitsFor 6 = .ok (.iconst 0, 1) := by decide +kernel
theorem dX11_unitsFor_7 : decode cX11_unitsFor 7 = .ok (.istore 5, 2) := by decide +kernel
theorem dX11_unitsFor_9 : decode cX11_unitsFor 9 = .ok (.iload 5, 2) := by decide +kernel
theorem dX11_unitsFor_11 : decode cX11_unitsFor 11 = .ok (.aload_n 0, 1) := by decide +kernel
theorem dX11_unitsFor_12 : decode cX11_unitsFor 12 = .ok (.getfield 28, 3) := by decide +kernel
theorem dX11_unitsFor_15 : decode cX11_unitsFor 15 = .ok (.iload_n 1, 1) := by decide +kernel
theorem dX11_unitsFor_16 : decode cX11_unitsFor 16 = .ok (.iaload, 1) := by decide +kernel
theorem dX11_unitsFor_17 : decode cX11_unitsFor 17 = .ok (.if_icmp .gt 98, 3) := by decide +kernel
theorem dX11_unitsFor_20 : decode cX11_unitsFor 20 = .ok (.iload_n 2, 1) := by decide +kernel
theorem dX11_unitsFor_21 : decode cX11_unitsFor 21 = .ok (.iload 5, 2) := by decide +kernel
theorem dX11_unitsFor_23 : decode cX11_unitsFor 23 = .ok (.aload_n 0, 1) := by decide +kernel
theorem dX11_unitsFor_24 : decode cX11_unitsFor 24 = .ok (.iload_n 1, 1) := by decide +kernel
theorem dX11_unitsFor_25 : decode cX11_unitsFor 25 = .ok (.iconst 0, 1) := by decide +kernel
theorem dX11_unitsFor_26 : decode cX11_unitsFor 26 = .ok (.invokevirtual 97, 3) := by decide +kernel
theorem dX11_unitsFor_29 : decode cX11_unitsFor 29 = .ok (.imul, 1) := by decide +kernel
theorem dX11_unitsFor_30 : decode cX11_unitsFor 30 = .ok (.isub, 1) := by decide +kernel
theorem dX11_unitsFor_31 : decode cX11_unitsFor 31 = .ok (.istore 6, 2) := by decide +kernel
theorem dX11_unitsFor_33 : decode cX11_unitsFor 33 = .ok (.aload_n 0, 1) := by decide +kernel
theorem dX11_unitsFor_34 : decode cX11_unitsFor 34 = .ok (.getfield 22, 3) := by decide +kernel
theorem dX11_unitsFor_37 : decode cX11_unitsFor 37 = .ok (.sipush 1001, 3) := by decide +kernel
theorem dX11_unitsFor_40 : decode cX11_unitsFor 40 = .ok (.iload_n 1, 1) := by decide +kernel
theorem dX11_unitsFor_41 : decode cX11_unitsFor 41 = .ok (.iconst 1, 1) := by decide +kernel
theorem dX11_unitsFor_42 : decode cX11_unitsFor 42 = .ok (.iadd, 1) := by decide +kernel
theorem dX11_unitsFor_43 : decode cX11_unitsFor 43 = .ok (.imul, 1) := by decide +kernel
theorem dX11_unitsFor_44 : decode cX11_unitsFor 44 = .ok (.iload 6, 2) := by decide +kernel
theorem dX11_unitsFor_46 : decode cX11_unitsFor 46 = .ok (.ifCond .ge 7, 3) := by decide +kernel
theorem dX11_unitsFor_49 : decode cX11_unitsFor 49 = .ok (.iconst 0, 1) := by decide +kernel
theorem dX11_unitsFor_50 : decode cX11_unitsFor 50 = .ok (.goto 5, 3) := by decide +kernel
theorem dX11_unitsFor_53 : decode cX11_unitsFor 53 = .ok (.iload 6, 2) := by decide +kernel
theorem dX11_unitsFor_55 : decode cX11_unitsFor 55 = .ok (.iadd, 1) := by decide +kernel
theorem dX11_unitsFor_56 : decode cX11_unitsFor 56 = .ok (.iaload, 1) := by decide +kernel
theorem dX11_unitsFor_57 : decode cX11_unitsFor 57 = .ok (.istore 7, 2) := by decide +kernel
theorem dX11_unitsFor_59 : decode cX11_unitsFor 59 = .ok (.iload 7, 2) := by decide +kernel
theorem dX11_unitsFor_61 : decode cX11_unitsFor 61 = .ok (.ifCond .lt 17, 3) := by decide +kernel
theorem dX11_unitsFor_64 : decode cX11_unitsFor 64 = .ok (.iload 7, 2) := by decide +kernel
theorem dX11_unitsFor_66 : decode cX11_unitsFor 66 = .ok (.iload 5, 2) := by decide +kernel
theorem dX11_unitsFor_68 : decode cX11_unitsFor 68 = .ok (.aload_n 0, 1) := by decide +kernel
theorem dX11_unitsFor_69 : decode cX11_unitsFor 69 = .ok (.iload_n 1, 1) := by decide +kernel
theorem dX11_unitsFor_70 : decode cX11_unitsFor 70 = .ok (.iconst 1, 1) := by decide +kernel
theorem dX11_unitsFor_71 : decode cX11_unitsFor 71 = .ok (.invokevirtual 97, 3) := by decide +kernel
theorem dX11_unitsFor_74 : decode cX11_unitsFor 74 = .ok (.imul, 1) := by decide +kernel
theorem dX11_unitsFor_75 : decode cX11_unitsFor 75 = .ok (.iadd, 1) := by decide +kernel
theorem dX11_unitsFor_76 : decode cX11_unitsFor 76 = .ok (.istore 7, 2) := by decide +kernel
theorem dX11_unitsFor_78 : decode cX11_unitsFor 78 = .ok (.iload 7, 2) := by decide +kernel
theorem dX11_unitsFor_80 : decode cX11_unitsFor 80 = .ok (.ifCond .lt 21, 3) := by decide +kernel
theorem dX11_unitsFor_83 : decode cX11_unitsFor 83 = .ok (.iload_n 3, 1) := by decide +kernel
theorem dX11_unitsFor_84 : decode cX11_unitsFor 84 = .ok (.ifCond .lt 10, 3) := by decide +kernel
theorem dX11_unitsFor_87 : decode cX11_unitsFor 87 = .ok (.iload 7, 2) := by decide +kernel
theorem dX11_unitsFor_89 : decode cX11_unitsFor 89 = .ok (.iload 4, 2) := by decide +kernel
theorem dX11_unitsFor_91 : decode cX11_unitsFor 91 = .ok (.if_icmp .ge 10, 3) := by decide +kernel
theorem dX11_unitsFor_94 : decode cX11_unitsFor 94 = .ok (.iload 5, 2) := by decide +kernel
theorem dX11_unitsFor_96 : decode cX11_unitsFor 96 = .ok (.istore_n 3, 1) := by decide +kernel
theorem dX11_unitsFor_97 : decode cX11_unitsFor 97 = .ok (.iload 7, 2) := by decide +kernel
theorem dX11_unitsFor_99 : decode cX11_unitsFor 99 = .ok (.istore 4, 2) := by decide +kernel
theorem dX11_unitsFor_101 : decode cX11_unitsFor 101 = .ok (.iload 6, 2) := by decide +kernel
theorem dX11_unitsFor_103 : decode cX11_unitsFor 103 = .ok (.ifCond .gt 6, 3) := by decide +kernel
theorem dX11_unitsFor_106 : decode cX11_unitsFor 106 = .ok (.goto 9, 3) := by decide +kernel
theorem dX11_unitsFor_109 : decode cX11_unitsFor 109 = .ok (.iinc 5 1, 3) := by decide +kernel
theorem dX11_unitsFor_112 : decode cX11_unitsFor 112 = .ok (.goto (-103), 3) := by decide +kernel
theorem dX11_unitsFor_115 : decode cX11_unitsFor 115 = .ok (.iload_n 3, 1) := by decide +kernel
theorem dX11_unitsFor_116 : decode cX11_unitsFor 116 = .ok (.ireturn, 1) := by decide +kernel
set_option maxRecDepth 20000 in
theorem ggX11_findLeast_X11_mostOf : GoodIn wsX11_findLeast wsX11_mostOf := goodIn_r _ [8, 9, 10, 11, 7, 12, 13, 14, 15, 16, 17, 18, 19, 20, 21, 22, 23, 24, 29, 30, 31, 32, 33, 34, 35, 36, 37, 38, 39, 40, 41, 42, 43, 44, 45, 46, 47] (by decide +kernel) (by decide +kernel)
set_option maxRecDepth 20000 in
theorem gX11_findLeast_X11_mostOf : GoodIn wsX11_findLeast (wsV RX11 114 RX11 yX11_mostOf wsX11_mostOf) := goodIn_app (goodIn_of _ (by decide +kernel)) ggX11_findLeast_X11_mostOf
set_option maxRecDepth 20000 in
theorem ggX11_findLeast_X11_unitsFor : GoodIn wsX11_findLeast wsX11_unitsFor := goodIn_r _ [28, 2, 1, 9, 10, 11, 7, 12, 13, 29, 30, 31, 32, 33, 34, 35, 36, 37, 38, 39, 40, 41, 42, 43, 44, 45, 46, 47] (by decide +kernel) (by decide +kernel)
set_option maxRecDepth 20000 in
theorem gX11_findLeast_X11_unitsFor : GoodIn wsX11_findLeast (wsV RX11 117 RX11 yX11_unitsFor wsX11_unitsFor) := goodIn_app (goodIn_of _ (by decide +kernel)) ggX11_findLeast_X11_unitsFor
set_option maxRecDepth 20000 in
theorem ggX11_findLeast_X11_pay : GoodIn wsX11_findLeast wsX11_pay := goodIn_r _ [12, 13, 29, 30, 31, 32, 33, 34, 35, 36, 37, 38, 39, 40, 41, 42, 43, 44, 45, 46, 47] (by decide +kernel) (by decide +kernel)
set_option maxRecDepth 20000 in
theorem gX11_findLeast_X11_pay : GoodIn wsX11_findLeast (wsV RX11 97 RX11 yX11_pay wsX11_pay) := goodIn_app (goodIn_of _ (by decide +kernel)) ggX11_findLeast_X11_pay
theorem dX11_findLeast_0 : decode cX11_findLeast 0 = .ok (.iconst 0, 1) := by decide +kernel
theorem dX11_findLeast_1 : decode cX11_findLeast 1 = .ok (.istore_n 3, 1) := by decide +kernel
theorem dX11_findLeast_2 : decode cX11_findLeast 2 = .ok (.iload_n 3, 1) := by decide +kernel
theorem dX11_findLeast_3 : decode cX11_findLeast 3 = .ok (.sipush 1001, 3) := by decide +kernel
theorem dX11_findLeast_6 : decode cX11_findLeast 6 = .ok (.if_icmp .ge 29, 3) := by decide +kernel
theorem dX11_findLeast_9 : decode cX11_findLeast 9 = .ok (.aload_n 0, 1) := by decide +kernel
theorem dX11_findLeast_10 : decode cX11_findLeast 10 = .ok (.getfield 22, 3) := by decide +kernel
theorem dX11_findLeast_13 : decode cX11_findLeast 13 = .ok (.sipush 6006, 3) := by decide +kernel
theorem dX11_findLeast_16 : decode cX11_findLeast 16 = .ok (.iload_n 3, 1) := by decide +kernel
theorem dX11_findLeast_17 : decode cX11_findLeast 17 = .ok (.iadd, 1) := by decide +kernel
theorem dX11_findLeast_18 : decode cX11_findLeast 18 = .ok (.iload_n 3, 1) := by decide +kernel
theorem dX11_findLeast_19 : decode cX11_findLeast 19 = .ok (.ifCond .ne 7, 3) := by decide +kernel
theorem dX11_findLeast_22 : decode cX11_findLeast 22 = .ok (.iconst 0, 1) := by decide +kernel
theorem dX11_findLeast_23 : decode cX11_findLeast 23 = .ok (.goto 5, 3) := by decide +kernel
theorem dX11_findLeast_26 : decode cX11_findLeast 26 = .ok (.bipush (-9), 2) := by decide +kernel
theorem dX11_findLeast_28 : decode cX11_findLeast 28 = .ok (.iastore, 1) := by decide +kernel
theorem dX11_findLeast_29 : decode cX11_findLeast 29 = .ok (.iinc 3 1, 3) := by decide +kernel
theorem dX11_findLeast_32 : decode cX11_findLeast 32 = .ok (.goto (-30), 3) := by decide +kernel
theorem dX11_findLeast_35 : decode cX11_findLeast 35 = .ok (.iconst 0, 1) := by decide +kernel
theorem dX11_findLeast_36 : decode cX11_findLeast 36 = .ok (.istore_n 3, 1) := by decide +kernel
theorem dX11_findLeast_37 : decode cX11_findLeast 37 = .ok (.iload_n 3, 1) := by decide +kernel
theorem dX11_findLeast_38 : decode cX11_findLeast 38 = .ok (.bipush 6, 2) := by decide +kernel
theorem dX11_findLeast_40 : decode cX11_findLeast 40 = .ok (.if_icmp .ge 21, 3) := by decide +kernel
theorem dX11_findLeast_43 : decode cX11_findLeast 43 = .ok (.aload_n 0, 1) := by decide +kernel
theorem dX11_findLeast_44 : decode cX11_findLeast 44 = .ok (.getfield 28, 3) := by decide +kernel
theorem dX11_findLeast_47 : decode cX11_findLeast 47 = .ok (.iload_n 3, 1) := by decide +kernel
theorem dX11_findLeast_48 : decode cX11_findLeast 48 = .ok (.aload_n 0, 1) := by decide +kernel
theorem dX11_findLeast_49 : decode cX11_findLeast 49 = .ok (.iload_n 3, 1) := by decide +kernel
theorem dX11_findLeast_50 : decode cX11_findLeast 50 = .ok (.iload_n 2, 1) := by decide +kernel
theorem dX11_findLeast_51 : decode cX11_findLeast 51 = .ok (.invokevirtual 114, 3) := by decide +kernel
theorem dX11_findLeast_54 : decode cX11_findLeast 54 = .ok (.iastore, 1) := by decide +kernel
