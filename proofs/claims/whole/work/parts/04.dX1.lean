theorem dX1_init_0 : decode cX1_init 0 = .ok (.aload_n 0, 1) := by decide +kernel
theorem dX1_init_1 : decode cX1_init 1 = .ok (.invokespecial 1, 3) := by decide +kernel
theorem dX1_init_4 : decode cX1_init 4 = .ok (.aload_n 0, 1) := by decide +kernel
theorem dX1_init_5 : decode cX1_init 5 = .ok (.bipush 8, 2) := by decide +kernel
theorem dX1_init_7 : decode cX1_init 7 = .ok (.bipush 7, 2) := by decide +kernel
theorem dX1_init_9 : decode cX1_init 9 = .ok (.multianewarray 9 2, 4) := by decide +kernel
theorem dX1_init_13 : decode cX1_init 13 = .ok (.putfield 11, 3) := by decide +kernel
theorem dX1_init_16 : decode cX1_init 16 = .ok (.aload_n 0, 1) := by decide +kernel
theorem dX1_init_17 : decode cX1_init 17 = .ok (.bipush 6, 2) := by decide +kernel
theorem dX1_init_19 : decode cX1_init 19 = .ok (.newarray .int, 2) := by decide +kernel
theorem dX1_init_21 : decode cX1_init 21 = .ok (.putfield 14, 3) := by decide +kernel
theorem dX1_init_24 : decode cX1_init 24 = .ok (.aload_n 0, 1) := by decide +kernel
theorem dX1_init_25 : decode cX1_init 25 = .ok (.new 18, 3) := by decide +kernel
theorem dX1_init_28 : decode cX1_init 28 = .ok (.dup, 1) := by decide +kernel
theorem dX1_init_29 : decode cX1_init 29 = .ok (.invokespecial 20, 3) := by decide +kernel
theorem dX1_init_32 : decode cX1_init 32 = .ok (.putfield 21, 3) := by decide +kernel
theorem dX1_init_35 : decode cX1_init 35 = .ok (.aload_n 0, 1) := by decide +kernel
theorem dX1_init_36 : decode cX1_init 36 = .ok (.iconst 1, 1) := by decide +kernel
theorem dX1_init_37 : decode cX1_init 37 = .ok (.putfield 25, 3) := by decide +kernel
theorem dX1_init_40 : decode cX1_init 40 = .ok (.aload_n 0, 1) := by decide +kernel
theorem dX1_init_41 : decode cX1_init 41 = .ok (.iconst 0, 1) := by decide +kernel
theorem dX1_init_42 : decode cX1_init 42 = .ok (.putfield 29, 3) := by decide +kernel
theorem dX1_init_45 : decode cX1_init 45 = .ok (.aload_n 0, 1) := by decide +kernel
theorem dX1_init_46 : decode cX1_init 46 = .ok (.lconst 0, 1) := by decide +kernel
theorem dX1_init_47 : decode cX1_init 47 = .ok (.putfield 32, 3) := by decide +kernel
theorem dX1_init_50 : decode cX1_init 50 = .ok (.aload_n 0, 1) := by decide +kernel
theorem dX1_init_51 : decode cX1_init 51 = .ok (.lconst 0, 1) := by decide +kernel
theorem dX1_init_52 : decode cX1_init 52 = .ok (.putfield 36, 3) := by decide +kernel
theorem dX1_init_55 : decode cX1_init 55 = .ok (.return_, 1) := by decide +kernel
theorem dX1_begin_0 : decode cX1_begin 0 = .ok (.iload_n 1, 1) := by decide +kernel
theorem dX1_begin_1 : decode cX1_begin 1 = .ok (.iconst 1, 1) := by decide +kernel
theorem dX1_begin_2 : decode cX1_begin 2 = .ok (.if_icmp .lt 8, 3) := by decide +kernel
theorem dX1_begin_5 : decode cX1_begin 5 = .ok (.iload_n 1, 1) := by decide +kernel
theorem dX1_begin_6 : decode cX1_begin 6 = .ok (.iconst 3, 1) := by decide +kernel
theorem dX1_begin_7 : decode cX1_begin 7 = .ok (.if_icmp .le 5, 3) := by decide +kernel
theorem dX1_begin_10 : decode cX1_begin 10 = .ok (.iconst 0, 1) := by decide +kernel
theorem dX1_begin_11 : decode cX1_begin 11 = .ok (.ireturn, 1) := by decide +kernel
theorem dX1_begin_12 : decode cX1_begin 12 = .ok (.aload_n 0, 1) := by decide +kernel
theorem dX1_begin_13 : decode cX1_begin 13 = .ok (.iload_n 1, 1) := by decide +kernel
theorem dX1_begin_14 : decode cX1_begin 14 = .ok (.putfield 25, 3) := by decide +kernel
theorem dX1_begin_17 : decode cX1_begin 17 = .ok (.aload_n 0, 1) := by decide +kernel
theorem dX1_begin_18 : decode cX1_begin 18 = .ok (.iconst 0, 1) := by decide +kernel
theorem dX1_begin_19 : decode cX1_begin 19 = .ok (.putfield 29, 3) := by decide +kernel
theorem dX1_begin_22 : decode cX1_begin 22 = .ok (.iconst 1, 1) := by decide +kernel
theorem dX1_begin_23 : decode cX1_begin 23 = .ok (.ireturn, 1) := by decide +kernel
set_option maxRecDepth 20000 in
theorem ggX1_rule_X1_areWithin : GoodIn wsX1_rule wsX1_areWithin := goodIn_r _ [6, 7, 8, 5, 9] (by decide +kernel) (by decide +kernel)
set_option maxRecDepth 20000 in
theorem gX1_rule_X1_areWithin : GoodIn wsX1_rule (va_wsS RX1 39 yX1_areWithin wsX1_areWithin) := goodIn_app (goodIn_of _ (by decide +kernel)) ggX1_rule_X1_areWithin
set_option maxRecDepth 20000 in
theorem ggX1_rule_X1_isWithin : GoodIn wsX1_rule wsX1_isWithin := goodIn_r _ [9] (by decide +kernel) (by decide +kernel)
set_option maxRecDepth 20000 in
theorem gX1_rule_X1_isWithin : GoodIn wsX1_rule (va_wsS RX1 43 yX1_isWithin wsX1_isWithin) := goodIn_app (goodIn_of _ (by decide +kernel)) ggX1_rule_X1_isWithin
set_option maxRecDepth 20000 in
theorem ggX1_rule_X1_fill : GoodIn wsX1_rule wsX1_fill := goodIn_r _ [12] (by decide +kernel) (by decide +kernel)
set_option maxRecDepth 20000 in
theorem gX1_rule_X1_fill : GoodIn wsX1_rule (va_wsS RX1 47 yX1_fill wsX1_fill) := goodIn_app (goodIn_of _ (by decide +kernel)) ggX1_rule_X1_fill
theorem dX1_rule_0 : decode cX1_rule 0 = .ok (.aload_n 0, 1) := by decide +kernel
theorem dX1_rule_1 : decode cX1_rule 1 = .ok (.getfield 29, 3) := by decide +kernel
theorem dX1_rule_4 : decode cX1_rule 4 = .ok (.bipush 8, 2) := by decide +kernel
theorem dX1_rule_6 : decode cX1_rule 6 = .ok (.if_icmp .ge 38, 3) := by decide +kernel
theorem dX1_rule_9 : decode cX1_rule 9 = .ok (.iload_n 1, 1) := by decide +kernel
theorem dX1_rule_10 : decode cX1_rule 10 = .ok (.iload_n 2, 1) := by decide +kernel
theorem dX1_rule_11 : decode cX1_rule 11 = .ok (.iload_n 3, 1) := by decide +kernel
theorem dX1_rule_12 : decode cX1_rule 12 = .ok (.bipush 9, 2) := by decide +kernel
theorem dX1_rule_14 : decode cX1_rule 14 = .ok (.invokestatic 39, 3) := by decide +kernel
theorem dX1_rule_17 : decode cX1_rule 17 = .ok (.ifCond .eq 27, 3) := by decide +kernel
theorem dX1_rule_20 : decode cX1_rule 20 = .ok (.iload 4, 2) := by decide +kernel
theorem dX1_rule_22 : decode cX1_rule 22 = .ok (.iload 5, 2) := by decide +kernel
theorem dX1_rule_24 : decode cX1_rule 24 = .ok (.iload 6, 2) := by decide +kernel
theorem dX1_rule_26 : decode cX1_rule 26 = .ok (.bipush 9, 2) := by decide +kernel
theorem dX1_rule_28 : decode cX1_rule 28 = .ok (.invokestatic 39, 3) := by decide +kernel
theorem dX1_rule_31 : decode cX1_rule 31 = .ok (.ifCond .eq 13, 3) := by decide +kernel
theorem dX1_rule_34 : decode cX1_rule 34 = .ok (.iload 7, 2) := by decide +kernel
theorem dX1_rule_36 : decode cX1_rule 36 = .ok (.bipush 99, 2) := by decide +kernel
theorem dX1_rule_38 : decode cX1_rule 38 = .ok (.invokestatic 43, 3) := by decide +kernel
theorem dX1_rule_41 : decode cX1_rule 41 = .ok (.ifCond .ne 5, 3) := by decide +kernel
theorem dX1_rule_44 : decode cX1_rule 44 = .ok (.iconst (-1), 1) := by decide +kernel
theorem dX1_rule_45 : decode cX1_rule 45 = .ok (.ireturn, 1) := by decide +kernel
theorem dX1_rule_46 : decode cX1_rule 46 = .ok (.aload_n 0, 1) := by decide +kernel
theorem dX1_rule_47 : decode cX1_rule 47 = .ok (.getfield 11, 3) := by decide +kernel
theorem dX1_rule_50 : decode cX1_rule 50 = .ok (.aload_n 0, 1) := by decide +kernel
theorem dX1_rule_51 : decode cX1_rule 51 = .ok (.getfield 29, 3) := by decide +kernel
theorem dX1_rule_54 : decode cX1_rule 54 = .ok (.aaload, 1) := by decide +kernel
theorem dX1_rule_55 : decode cX1_rule 55 = .ok (.astore 8, 2) := by decide +kernel
theorem dX1_rule_57 : decode cX1_rule 57 = .ok (.aload 8, 2) := by decide +kernel
theorem dX1_rule_59 : decode cX1_rule 59 = .ok (.iconst 0, 1) := by decide +kernel
theorem dX1_rule_60 : decode cX1_rule 60 = .ok (.iload_n 1, 1) := by decide +kernel
theorem dX1_rule_61 : decode cX1_rule 61 = .ok (.iload_n 2, 1) := by decide +kernel
theorem dX1_rule_62 : decode cX1_rule 62 = .ok (.iload_n 3, 1) := by decide +kernel
theorem dX1_rule_63 : decode cX1_rule 63 = .ok (.invokestatic 47, 3) := by decide +kernel
theorem dX1_rule_66 : decode cX1_rule 66 = .ok (.aload 8, 2) := by decide +kernel
theorem dX1_rule_68 : decode cX1_rule 68 = .ok (.iconst 3, 1) := by decide +kernel
theorem dX1_rule_69 : decode cX1_rule 69 = .ok (.iload 4, 2) := by decide +kernel
theorem dX1_rule_71 : decode cX1_rule 71 = .ok (.iload 5, 2) := by decide +kernel
theorem dX1_rule_73 : decode cX1_rule 73 = .ok (.iload 6, 2) := by decide +kernel
theorem dX1_rule_75 : decode cX1_rule 75 = .ok (.invokestatic 47, 3) := by decide +kernel
theorem dX1_rule_78 : decode cX1_rule 78 = .ok (.aload 8, 2) := by decide +kernel
theorem dX1_rule_80 : decode cX1_rule 80 = .ok (.bipush 6, 2) := by decide +kernel
theorem dX1_rule_82 : decode cX1_rule 82 = .ok (.iload 7, 2) := by decide +kernel
theorem dX1_rule_84 : decode cX1_rule 84 = .ok (.iastore, 1) := by decide +kernel
theorem dX1_rule_85 : decode cX1_rule 85 = .ok (.aload_n 0, 1) := by decide +kernel
theorem dX1_rule_86 : decode cX1_rule 86 = .ok (.dup, 1) := by decide +kernel
theorem dX1_rule_87 : decode cX1_rule 87 = .ok (.getfield 29, 3) := by decide +kernel
theorem dX1_rule_90 : decode cX1_rule 90 = .ok (.iconst 1, 1) := by decide +kernel
theorem dX1_rule_91 : decode cX1_rule 91 = .ok (.iadd, 1) := by decide +kernel
theorem dX1_rule_92 : decode cX1_rule 92 = .ok (.putfield 29, 3) := by decide +kernel
theorem dX1_rule_95 : decode cX1_rule 95 = .ok (.aload_n 0, 1) := by decide +kernel
theorem dX1_rule_96 : decode cX1_rule 96 = .ok (.getfield 29, 3) := by decide +kernel
theorem dX1_rule_99 : decode cX1_rule 99 = .ok (.iconst 1, 1) := by decide +kernel
theorem dX1_rule_100 : decode cX1_rule 100 = .ok (.isub, 1) := by decide +kernel
theorem dX1_rule_101 : decode cX1_rule 101 = .ok (.ireturn, 1) := by decide +kernel
set_option maxRecDepth 20000 in
theorem ggX1_drop_X1_isRule : GoodIn wsX1_drop wsX1_isRule := goodIn_r _ [11, 1, 12, 13, 14, 15, 16, 17, 18] (by decide +kernel) (by decide +kernel)
set_option maxRecDepth 20000 in
theorem gX1_drop_X1_isRule : GoodIn wsX1_drop (wsV RX1 51 RX1 yX1_isRule wsX1_isRule) := goodIn_app (goodIn_of _ (by decide +kernel)) ggX1_drop_X1_isRule
theorem dX1_drop_0 : decode cX1_drop 0 = .ok (.aload_n 0, 1) := by decide +kernel
theorem dX1_drop_1 : decode cX1_drop 1 = .ok (.iload_n 1, 1) := by decide +kernel
theorem dX1_drop_2 : decode cX1_drop 2 = .ok (.invokevirtual 51, 3) := by decide +kernel
theorem dX1_drop_5 : decode cX1_drop 5 = .ok (.ifCond .ne 5, 3) := by decide +kernel
theorem dX1_drop_8 : decode cX1_drop 8 = .ok (.iconst 0, 1) := by decide +kernel
theorem dX1_drop_9 : decode cX1_drop 9 = .ok (.ireturn, 1) := by decide +kernel
theorem dX1_drop_10 : decode cX1_drop 10 = .ok (.iload_n 1, 1) := by decide +kernel
theorem dX1_drop_11 : decode cX1_drop 11 = .ok (.iconst 1, 1) := by decide +kernel
theorem dX1_drop_12 : decode cX1_drop 12 = .ok (.iadd, 1) := by decide +kernel
theorem dX1_drop_13 : decode cX1_drop 13 = .ok (.istore_n 2, 1) := by decide +kernel
theorem dX1_drop_14 : decode cX1_drop 14 = .ok (.iload_n 2, 1) := by decide +kernel
theorem dX1_drop_15 : decode cX1_drop 15 = .ok (.aload_n 0, 1) := by decide +kernel
theorem dX1_drop_16 : decode cX1_drop 16 = .ok (.getfield 29, 3) := by decide +kernel
theorem dX1_drop_19 : decode cX1_drop 19 = .ok (.if_icmp .ge 30, 3) := by decide +kernel
theorem dX1_drop_22 : decode cX1_drop 22 = .ok (.aload_n 0, 1) := by decide +kernel
theorem dX1_drop_23 : decode cX1_drop 23 = .ok (.getfield 11, 3) := by decide +kernel
theorem dX1_drop_26 : decode cX1_drop 26 = .ok (.iload_n 2, 1) := by decide +kernel
theorem dX1_drop_27 : decode cX1_drop 27 = .ok (.aaload, 1) := by decide +kernel
theorem dX1_drop_28 : decode cX1_drop 28 = .ok (.iconst 0, 1) := by decide +kernel
theorem dX1_drop_29 : decode cX1_drop 29 = .ok (.aload_n 0, 1) := by decide +kernel
theorem dX1_drop_30 : decode cX1_drop 30 = .ok (.getfield 11, 3) := by decide +kernel
theorem dX1_drop_33 : decode cX1_drop 33 = .ok (.iload_n 2, 1) := by decide +kernel
theorem dX1_drop_34 : decode cX1_drop 34 = .ok (.iconst 1, 1) := by decide +kernel
theorem dX1_drop_35 : decode cX1_drop 35 = .ok (.isub, 1) := by decide +kernel
theorem dX1_drop_36 : decode cX1_drop 36 = .ok (.aaload, 1) := by decide +kernel
theorem dX1_drop_37 : decode cX1_drop 37 = .ok (.iconst 0, 1) := by decide +kernel
theorem dX1_drop_38 : decode cX1_drop 38 = .ok (.bipush 7, 2) := by decide +kernel
theorem dX1_drop_40 : decode cX1_drop 40 = .ok (.invokestatic 55, 3) := by decide +kernel
theorem dX1_drop_43 : decode cX1_drop 43 = .ok (.iinc 2 1, 3) := by decide +kernel
theorem dX1_drop_46 : decode cX1_drop 46 = .ok (.goto (-32), 3) := by decide +kernel
theorem dX1_drop_49 : decode cX1_drop 49 = .ok (.aload_n 0, 1) := by decide +kernel
theorem dX1_drop_50 : decode cX1_drop 50 = .ok (.dup, 1) := by decide +kernel
theorem dX1_drop_51 : decode cX1_drop 51 = .ok (.getfield 29, 3) := by decide +kernel
theorem dX1_drop_54 : decode cX1_drop 54 = .ok (.iconst 1, 1) := by decide +kernel
theorem dX1_drop_55 : decode cX1_drop 55 = .ok (.isub, 1) := by decide +kernel
theorem dX1_drop_56 : decode cX1_drop 56 = .ok (.putfield 29, 3) := by decide +kernel
theorem dX1_drop_59 : decode cX1_drop 59 = .ok (.iconst 1, 1) := by decide +kernel
theorem dX1_drop_60 : decode cX1_drop 60 = .ok (.ireturn, 1) := by decide +kernel
theorem dX1_rules_0 : decode cX1_rules 0 = .ok (.aload_n 0, 1) := by decide +kernel
theorem dX1_rules_1 : decode cX1_rules 1 = .ok (.getfield 29, 3) := by decide +kernel
theorem dX1_rules_4 : decode cX1_rules 4 = .ok (.ireturn, 1) := by decide +kernel
set_option maxRecDepth 20000 in
theorem ggX1_number_X1_isRule : GoodIn wsX1_number wsX1_isRule := goodIn_r _ [6, 7, 8, 9, 10, 11, 12, 13, 14] (by decide +kernel) (by decide +kernel)
set_option maxRecDepth 20000 in
theorem gX1_number_X1_isRule : GoodIn wsX1_number (wsV RX1 51 RX1 yX1_isRule wsX1_isRule) := goodIn_app (goodIn_of _ (by decide +kernel)) ggX1_number_X1_isRule
theorem dX1_number_0 : decode cX1_number 0 = .ok (.aload_n 0, 1) := by decide +kernel
theorem dX1_number_1 : decode cX1_number 1 = .ok (.iload_n 1, 1) := by decide +kernel
theorem dX1_number_2 : decode cX1_number 2 = .ok (.invokevirtual 51, 3) := by decide +kernel
theorem dX1_number_5 : decode cX1_number 5 = .ok (.ifCond .eq 13, 3) := by decide +kernel
theorem dX1_number_8 : decode cX1_number 8 = .ok (.iload_n 2, 1) := by decide +kernel
theorem dX1_number_9 : decode cX1_number 9 = .ok (.ifCond .lt 9, 3) := by decide +kernel
theorem dX1_number_12 : decode cX1_number 12 = .ok (.iload_n 2, 1) := by decide +kernel
theorem dX1_number_13 : decode cX1_number 13 = .ok (.bipush 7, 2) := by decide +kernel
theorem dX1_number_15 : decode cX1_number 15 = .ok (.if_icmp .lt 5, 3) := by decide +kernel
theorem dX1_number_18 : decode cX1_number 18 = .ok (.iconst 0, 1) := by decide +kernel
theorem dX1_number_19 : decode cX1_number 19 = .ok (.ireturn, 1) := by decide +kernel
theorem dX1_number_20 : decode cX1_number 20 = .ok (.aload_n 0, 1) := by decide +kernel
theorem dX1_number_21 : decode cX1_number 21 = .ok (.getfield 11, 3) := by decide +kernel
theorem dX1_number_24 : decode cX1_number 24 = .ok (.iload_n 1, 1) := by decide +kernel
theorem dX1_number_25 : decode cX1_number 25 = .ok (.aaload, 1) := by decide +kernel
theorem dX1_number_26 : decode cX1_number 26 = .ok (.iload_n 2, 1) := by decide +kernel
theorem dX1_number_27 : decode cX1_number 27 = .ok (.iaload, 1) := by decide +kernel
theorem dX1_number_28 : decode cX1_number 28 = .ok (.ireturn, 1) := by decide +kernel
set_option maxRecDepth 20000 in
theorem ggX1_keeps_X1_partOf : GoodIn wsX1_keeps wsX1_partOf := goodIn_r _ [7, 2, 8, 9, 10, 11, 12, 13, 14, 15] (by decide +kernel) (by decide +kernel)
set_option maxRecDepth 20000 in
theorem gX1_keeps_X1_partOf : GoodIn wsX1_keeps (wsV RX1 61 RX1 yX1_partOf wsX1_partOf) := goodIn_app (goodIn_of _ (by decide +kernel)) ggX1_keeps_X1_partOf
theorem dX1_keeps_0 : decode cX1_keeps 0 = .ok (.iconst 0, 1) := by decide +kernel
theorem dX1_keeps_1 : decode cX1_keeps 1 = .ok (.istore 7, 2) := by decide +kernel
theorem dX1_keeps_3 : decode cX1_keeps 3 = .ok (.iload 7, 2) := by decide +kernel
theorem dX1_keeps_5 : decode cX1_keeps 5 = .ok (.aload_n 0, 1) := by decide +kernel
theorem dX1_keeps_6 : decode cX1_keeps 6 = .ok (.getfield 29, 3) := by decide +kernel
theorem dX1_keeps_9 : decode cX1_keeps 9 = .ok (.if_icmp .ge 60, 3) := by decide +kernel
theorem dX1_keeps_12 : decode cX1_keeps 12 = .ok (.aload_n 0, 1) := by decide +kernel
theorem dX1_keeps_13 : decode cX1_keeps 13 = .ok (.iload 7, 2) := by decide +kernel
theorem dX1_keeps_15 : decode cX1_keeps 15 = .ok (.iconst 0, 1) := by decide +kernel
theorem dX1_keeps_16 : decode cX1_keeps 16 = .ok (.iload_n 1, 1) := by decide +kernel
theorem dX1_keeps_17 : decode cX1_keeps 17 = .ok (.i2l, 1) := by decide +kernel
theorem dX1_keeps_18 : decode cX1_keeps 18 = .ok (.iload_n 2, 1) := by decide +kernel
theorem dX1_keeps_19 : decode cX1_keeps 19 = .ok (.i2l, 1) := by decide +kernel
theorem dX1_keeps_20 : decode cX1_keeps 20 = .ok (.iload_n 3, 1) := by decide +kernel
theorem dX1_keeps_21 : decode cX1_keeps 21 = .ok (.i2l, 1) := by decide +kernel
theorem dX1_keeps_22 : decode cX1_keeps 22 = .ok (.invokevirtual 61, 3) := by decide +kernel
theorem dX1_keeps_25 : decode cX1_keeps 25 = .ok (.aload_n 0, 1) := by decide +kernel
theorem dX1_keeps_26 : decode cX1_keeps 26 = .ok (.iload 7, 2) := by decide +kernel
theorem dX1_keeps_28 : decode cX1_keeps 28 = .ok (.iconst 3, 1) := by decide +kernel
theorem dX1_keeps_29 : decode cX1_keeps 29 = .ok (.iload 4, 2) := by decide +kernel
theorem dX1_keeps_31 : decode cX1_keeps 31 = .ok (.i2l, 1) := by decide +kernel
theorem dX1_keeps_32 : decode cX1_keeps 32 = .ok (.iload 5, 2) := by decide +kernel
theorem dX1_keeps_34 : decode cX1_keeps 34 = .ok (.i2l, 1) := by decide +kernel
theorem dX1_keeps_35 : decode cX1_keeps 35 = .ok (.iload 6, 2) := by decide +kernel
theorem dX1_keeps_37 : decode cX1_keeps 37 = .ok (.i2l, 1) := by decide +kernel
theorem dX1_keeps_38 : decode cX1_keeps 38 = .ok (.invokevirtual 61, 3) := by decide +kernel
theorem dX1_keeps_41 : decode cX1_keeps 41 = .ok (.ladd, 1) := by decide +kernel
theorem dX1_keeps_42 : decode cX1_keeps 42 = .ok (.lstore 8, 2) := by decide +kernel
theorem dX1_keeps_44 : decode cX1_keeps 44 = .ok (.lload 8, 2) := by decide +kernel
theorem dX1_keeps_46 : decode cX1_keeps 46 = .ok (.aload_n 0, 1) := by decide +kernel
theorem dX1_keeps_47 : decode cX1_keeps 47 = .ok (.getfield 11, 3) := by decide +kernel
theorem dX1_keeps_50 : decode cX1_keeps 50 = .ok (.iload 7, 2) := by decide +kernel
theorem dX1_keeps_52 : decode cX1_keeps 52 = .ok (.aaload, 1) := by decide +kernel
theorem dX1_keeps_53 : decode cX1_keeps 53 = .ok (.bipush 6, 2) := by decide +kernel
theorem dX1_keeps_55 : decode cX1_keeps 55 = .ok (.iaload, 1) := by decide +kernel
theorem dX1_keeps_56 : decode cX1_keeps 56 = .ok (.i2l, 1) := by decide +kernel
theorem dX1_keeps_57 : decode cX1_keeps 57 = .ok (.lcmp, 1) := by decide +kernel
theorem dX1_keeps_58 : decode cX1_keeps 58 = .ok (.ifCond .le 5, 3) := by decide +kernel
theorem dX1_keeps_61 : decode cX1_keeps 61 = .ok (.iconst 0, 1) := by decide +kernel
theorem dX1_keeps_62 : decode cX1_keeps 62 = .ok (.ireturn, 1) := by decide +kernel
theorem dX1_keeps_63 : decode cX1_keeps 63 = .ok (.iinc 7 1, 3) := by decide +kernel
theorem dX1_keeps_66 : decode cX1_keeps 66 = .ok (.goto (-63), 3) := by decide +kernel
theorem dX1_keeps_69 : decode cX1_keeps 69 = .ok (.iconst 1, 1) := by decide +kernel
theorem dX1_keeps_70 : decode cX1_keeps 70 = .ok (.ireturn, 1) := by decide +kernel
set_option maxRecDepth 20000 in
theorem ggX1_hasTurn_J7_fill_53178 : GoodIn wsX1_hasTurn wsJ7_fill_53178 := goodIn_r _ [5] (by decide +kernel) (by decide +kernel)
set_option maxRecDepth 20000 in
theorem gX1_hasTurn_J7_fill_53178 : GoodIn wsX1_hasTurn (va_wsS RX1 65 yJ7_fill_53178 wsJ7_fill_53178) := goodIn_app (goodIn_of _ (by decide +kernel)) ggX1_hasTurn_J7_fill_53178
set_option maxRecDepth 20000 in
theorem ggX1_hasTurn_X1_seekLeast : GoodIn wsX1_hasTurn wsX1_seekLeast := goodIn_r _ [10, 11, 12, 13, 14, 9, 15, 16, 17, 18, 1, 19, 20, 21, 22, 23, 24, 25, 26, 27, 28, 29, 30, 31, 32, 33, 4, 34, 35, 3, 5, 36, 37, 38, 39, 40, 41, 42, 43, 44, 45, 46, 47, 48, 49, 50, 51, 52, 53, 54, 55, 56, 57, 58, 59, 60, 61, 62, 63, 64, 65, 66, 67, 68, 69, 70, 71, 72, 73, 74, 75, 76, 77, 78, 79, 80, 81, 82, 83, 84, 85, 86, 87, 88, 89, 90, 91, 92, 93, 94, 95, 96, 97, 98, 99, 100, 101, 102, 103, 104, 105, 106, 107, 108, 109, 110, 111, 112, 113, 114, 115, 116, 117, 118, 119, 120, 121, 122, 123, 124, 125, 126, 127, 128, 129, 130, 131, 132, 133, 134, 135, 136, 137, 138] (by decide +kernel) (by decide +kernel)
set_option maxRecDepth 20000 in
theorem gX1_hasTurn_X1_seekLeast : GoodIn wsX1_hasTurn (wsV RX1 70 RX1 yX1_seekLeast wsX1_seekLeast) := goodIn_app (goodIn_of _ (by decide +kernel)) ggX1_hasTurn_X1_seekLeast
theorem dX1_hasTurn_0 : decode cX1_hasTurn 0 = .ok (.aload_n 0, 1) := by decide +kernel
theorem dX1_hasTurn_1 : decode cX1_hasTurn 1 = .ok (.getfield 14, 3) := by decide +kernel
theorem dX1_hasTurn_4 : decode cX1_hasTurn 4 = .ok (.iconst 0, 1) := by decide +kernel
theorem dX1_hasTurn_5 : decode cX1_hasTurn 5 = .ok (.invokestatic 65, 3) := by decide +kernel
theorem dX1_hasTurn_8 : decode cX1_hasTurn 8 = .ok (.aload_n 0, 1) := by decide +kernel
theorem dX1_hasTurn_9 : decode cX1_hasTurn 9 = .ok (.invokevirtual 70, 3) := by decide +kernel
theorem dX1_hasTurn_12 : decode cX1_hasTurn 12 = .ok (.ifCond .eq 7, 3) := by decide +kernel
theorem dX1_hasTurn_15 : decode cX1_hasTurn 15 = .ok (.iconst 1, 1) := by decide +kernel
theorem dX1_hasTurn_16 : decode cX1_hasTurn 16 = .ok (.goto 4, 3) := by decide +kernel
theorem dX1_hasTurn_19 : decode cX1_hasTurn 19 = .ok (.iconst 0, 1) := by decide +kernel
theorem dX1_hasTurn_20 : decode cX1_hasTurn 20 = .ok (.ireturn, 1) := by decide +kernel
set_option maxRecDepth 20000 in
theorem ggX1_ranked_X1_weighRanking : GoodIn wsX1_ranked wsX1_weighRanking := goodIn_r _ [6, 1, 7, 8, 9, 10, 11, 12, 13, 14, 15, 16, 17, 18, 19, 20, 21, 22, 23, 24, 25, 26, 27, 28, 29, 30, 31, 32, 33, 34, 35, 36, 37, 38, 39, 40, 41, 42, 43, 44, 45, 46, 47, 48, 49, 50, 51, 52, 95, 96, 97, 98, 99, 100, 101, 102, 103, 104, 105, 106, 107, 108] (by decide +kernel) (by decide +kernel)
set_option maxRecDepth 20000 in
theorem gX1_ranked_X1_weighRanking : GoodIn wsX1_ranked (wsV RX1 74 RX1 yX1_weighRanking wsX1_weighRanking) := goodIn_app (goodIn_of _ (by decide +kernel)) ggX1_ranked_X1_weighRanking
set_option maxRecDepth 20000 in
theorem ggX1_ranked_X0_fallsForEver : GoodIn wsX1_ranked wsX0_fallsForEver := goodIn_r _ [56, 57, 58, 59, 60, 13, 61, 19, 62, 63, 64, 65, 20, 21, 66, 67, 68, 69, 22, 70, 71, 72, 73, 74, 75, 76, 77, 78, 35, 37, 79, 80, 81, 82, 30, 31, 32, 33, 34, 36, 38, 39, 40, 41, 42, 43, 44, 83, 84, 85, 86, 87, 88, 89, 90, 91, 92, 93, 94, 102, 103, 104, 105, 106, 107, 108] (by decide +kernel) (by decide +kernel)
set_option maxRecDepth 20000 in
theorem gX1_ranked_X0_fallsForEver : GoodIn wsX1_ranked (wsV RX1 77 RX0 yX0_fallsForEver wsX0_fallsForEver) := goodIn_app (goodIn_of _ (by decide +kernel)) ggX1_ranked_X0_fallsForEver
theorem dX1_ranked_0 : decode cX1_ranked 0 = .ok (.aload_n 0, 1) := by decide +kernel
theorem dX1_ranked_1 : decode cX1_ranked 1 = .ok (.invokevirtual 74, 3) := by decide +kernel
theorem dX1_ranked_4 : decode cX1_ranked 4 = .ok (.aload_n 0, 1) := by decide +kernel
theorem dX1_ranked_5 : decode cX1_ranked 5 = .ok (.getfield 21, 3) := by decide +kernel
theorem dX1_ranked_8 : decode cX1_ranked 8 = .ok (.invokevirtual 77, 3) := by decide +kernel
theorem dX1_ranked_11 : decode cX1_ranked 11 = .ok (.ireturn, 1) := by decide +kernel
set_option maxRecDepth 20000 in
theorem ggX1_ranks_X1_areWithin : GoodIn wsX1_ranks wsX1_areWithin := goodIn_r _ [6, 7, 8, 5, 9] (by decide +kernel) (by decide +kernel)
set_option maxRecDepth 20000 in
theorem gX1_ranks_X1_areWithin : GoodIn wsX1_ranks (va_wsS RX1 39 yX1_areWithin wsX1_areWithin) := goodIn_app (goodIn_of _ (by decide +kernel)) ggX1_ranks_X1_areWithin
set_option maxRecDepth 20000 in
theorem ggX1_ranks_X1_isWithin : GoodIn wsX1_ranks wsX1_isWithin := goodIn_r _ [9] (by decide +kernel) (by decide +kernel)
set_option maxRecDepth 20000 in
theorem gX1_ranks_X1_isWithin : GoodIn wsX1_ranks (va_wsS RX1 43 yX1_isWithin wsX1_isWithin) := goodIn_app (goodIn_of _ (by decide +kernel)) ggX1_ranks_X1_isWithin
set_option maxRecDepth 20000 in
theorem ggX1_ranks_X1_fill : GoodIn wsX1_ranks wsX1_fill := goodIn_r _ [12] (by decide +kernel) (by decide +kernel)
set_option maxRecDepth 20000 in
theorem gX1_ranks_X1_fill : GoodIn wsX1_ranks (va_wsS RX1 47 yX1_fill wsX1_fill) := goodIn_app (goodIn_of _ (by decide +kernel)) ggX1_ranks_X1_fill
set_option maxRecDepth 20000 in
theorem ggX1_ranks_X1_seekLeast : GoodIn wsX1_ranks wsX1_seekLeast := goodIn_r _ [16, 2, 17, 18, 19, 5, 20, 21, 22, 23, 1, 24, 25, 26, 27, 28, 29, 30, 31, 32, 33, 34, 35, 36, 37, 38, 39, 40, 41, 42, 43, 44, 45, 46, 47, 48, 49, 50, 51, 52, 53, 54, 55, 56, 57, 58, 59, 60, 61, 62, 63, 64, 65, 66, 67, 68, 69, 70, 71, 72, 73, 74, 75, 76, 77, 78, 79, 80, 81, 82, 83, 84, 85, 86, 87, 88, 89, 90, 91, 92, 93, 94, 95, 96, 97, 98, 99, 100, 101, 102, 103, 104, 105, 106, 107, 108, 109, 110, 111, 112, 113, 114, 115, 116, 117, 118, 119, 120, 121, 122, 123, 124, 125, 126, 127, 128, 129, 130, 131, 132, 141, 142, 143, 144, 145, 146, 147, 148, 149, 150, 151, 152, 153, 154] (by decide +kernel) (by decide +kernel)
set_option maxRecDepth 20000 in
theorem gX1_ranks_X1_seekLeast : GoodIn wsX1_ranks (wsV RX1 70 RX1 yX1_seekLeast wsX1_seekLeast) := goodIn_app (goodIn_of _ (by decide +kernel)) ggX1_ranks_X1_seekLeast
set_option maxRecDepth 20000 in
theorem ggX1_ranks_X0_leastTop : GoodIn wsX1_ranks wsX0_leastTop := goodIn_r _ [136, 35, 33, 34, 148, 149, 150, 151, 152, 153, 154] (by decide +kernel) (by decide +kernel)
set_option maxRecDepth 20000 in
theorem gX1_ranks_X0_leastTop : GoodIn wsX1_ranks (wsV RX1 81 RX0 yX0_leastTop wsX0_leastTop) := goodIn_app (goodIn_of _ (by decide +kernel)) ggX1_ranks_X0_leastTop
set_option maxRecDepth 20000 in
theorem ggX1_ranks_X0_leastBottom : GoodIn wsX1_ranks wsX0_leastBottom := goodIn_r _ [140, 48, 148, 149, 150, 151, 152, 153, 154] (by decide +kernel) (by decide +kernel)
set_option maxRecDepth 20000 in
theorem gX1_ranks_X0_leastBottom : GoodIn wsX1_ranks (wsV RX1 85 RX0 yX0_leastBottom wsX0_leastBottom) := goodIn_app (goodIn_of _ (by decide +kernel)) ggX1_ranks_X0_leastBottom
theorem dX1_ranks_0 : decode cX1_ranks 0 = .ok (.iload_n 1, 1) := by decide +kernel
theorem dX1_ranks_1 : decode cX1_ranks 1 = .ok (.iload_n 2, 1) := by decide +kernel
theorem dX1_ranks_2 : decode cX1_ranks 2 = .ok (.iload_n 3, 1) := by decide +kernel
theorem dX1_ranks_3 : decode cX1_ranks 3 = .ok (.sipush 999, 3) := by decide +kernel
theorem dX1_ranks_6 : decode cX1_ranks 6 = .ok (.invokestatic 39, 3) := by decide +kernel
theorem dX1_ranks_9 : decode cX1_ranks 9 = .ok (.ifCond .eq 14, 3) := by decide +kernel
theorem dX1_ranks_12 : decode cX1_ranks 12 = .ok (.iload 4, 2) := by decide +kernel
theorem dX1_ranks_14 : decode cX1_ranks 14 = .ok (.sipush 999, 3) := by decide +kernel
theorem dX1_ranks_17 : decode cX1_ranks 17 = .ok (.invokestatic 43, 3) := by decide +kernel
theorem dX1_ranks_20 : decode cX1_ranks 20 = .ok (.ifCond .ne 5, 3) := by decide +kernel
theorem dX1_ranks_23 : decode cX1_ranks 23 = .ok (.iconst 0, 1) := by decide +kernel
theorem dX1_ranks_24 : decode cX1_ranks 24 = .ok (.ireturn, 1) := by decide +kernel
theorem dX1_ranks_25 : decode cX1_ranks 25 = .ok (.aload_n 0, 1) := by decide +kernel
theorem dX1_ranks_26 : decode cX1_ranks 26 = .ok (.getfield 14, 3) := by decide +kernel
theorem dX1_ranks_29 : decode cX1_ranks 29 = .ok (.iconst 0, 1) := by decide +kernel
theorem dX1_ranks_30 : decode cX1_ranks 30 = .ok (.iload_n 1, 1) := by decide +kernel
theorem dX1_ranks_31 : decode cX1_ranks 31 = .ok (.iload_n 2, 1) := by decide +kernel
theorem dX1_ranks_32 : decode cX1_ranks 32 = .ok (.iload_n 3, 1) := by decide +kernel
theorem dX1_ranks_33 : decode cX1_ranks 33 = .ok (.invokestatic 47, 3) := by decide +kernel
theorem dX1_ranks_36 : decode cX1_ranks 36 = .ok (.aload_n 0, 1) := by decide +kernel
theorem dX1_ranks_37 : decode cX1_ranks 37 = .ok (.getfield 14, 3) := by decide +kernel
theorem dX1_ranks_40 : decode cX1_ranks 40 = .ok (.iconst 3, 1) := by decide +kernel
theorem dX1_ranks_41 : decode cX1_ranks 41 = .ok (.iconst 0, 1) := by decide +kernel
theorem dX1_ranks_42 : decode cX1_ranks 42 = .ok (.iconst 0, 1) := by decide +kernel
theorem dX1_ranks_43 : decode cX1_ranks 43 = .ok (.iconst 0, 1) := by decide +kernel
theorem dX1_ranks_44 : decode cX1_ranks 44 = .ok (.invokestatic 47, 3) := by decide +kernel
theorem dX1_ranks_47 : decode cX1_ranks 47 = .ok (.aload_n 0, 1) := by decide +kernel
theorem dX1_ranks_48 : decode cX1_ranks 48 = .ok (.invokevirtual 70, 3) := by decide +kernel
theorem dX1_ranks_51 : decode cX1_ranks 51 = .ok (.istore 5, 2) := by decide +kernel
theorem dX1_ranks_53 : decode cX1_ranks 53 = .ok (.iload 5, 2) := by decide +kernel
theorem dX1_ranks_55 : decode cX1_ranks 55 = .ok (.ifCond .ne 5, 3) := by decide +kernel
theorem dX1_ranks_58 : decode cX1_ranks 58 = .ok (.iconst 1, 1) := by decide +kernel
theorem dX1_ranks_59 : decode cX1_ranks 59 = .ok (.ireturn, 1) := by decide +kernel
theorem dX1_ranks_60 : decode cX1_ranks 60 = .ok (.iload 5, 2) := by decide +kernel
theorem dX1_ranks_62 : decode cX1_ranks 62 = .ok (.iconst 1, 1) := by decide +kernel
theorem dX1_ranks_63 : decode cX1_ranks 63 = .ok (.if_icmp .eq 27, 3) := by decide +kernel
theorem dX1_ranks_66 : decode cX1_ranks 66 = .ok (.aload_n 0, 1) := by decide +kernel
theorem dX1_ranks_67 : decode cX1_ranks 67 = .ok (.getfield 21, 3) := by decide +kernel
theorem dX1_ranks_70 : decode cX1_ranks 70 = .ok (.invokevirtual 81, 3) := by decide +kernel
theorem dX1_ranks_73 : decode cX1_ranks 73 = .ok (.iload 4, 2) := by decide +kernel
theorem dX1_ranks_75 : decode cX1_ranks 75 = .ok (.i2l, 1) := by decide +kernel
theorem dX1_ranks_76 : decode cX1_ranks 76 = .ok (.aload_n 0, 1) := by decide +kernel
theorem dX1_ranks_77 : decode cX1_ranks 77 = .ok (.getfield 21, 3) := by decide +kernel
theorem dX1_ranks_80 : decode cX1_ranks 80 = .ok (.invokevirtual 85, 3) := by decide +kernel
theorem dX1_ranks_83 : decode cX1_ranks 83 = .ok (.lmul, 1) := by decide +kernel
theorem dX1_ranks_84 : decode cX1_ranks 84 = .ok (.ladd, 1) := by decide +kernel
theorem dX1_ranks_85 : decode cX1_ranks 85 = .ok (.lconst 0, 1) := by decide +kernel
theorem dX1_ranks_86 : decode cX1_ranks 86 = .ok (.lcmp, 1) := by decide +kernel
theorem dX1_ranks_87 : decode cX1_ranks 87 = .ok (.ifCond .ge 5, 3) := by decide +kernel
theorem dX1_ranks_90 : decode cX1_ranks 90 = .ok (.iconst 0, 1) := by decide +kernel
theorem dX1_ranks_91 : decode cX1_ranks 91 = .ok (.ireturn, 1) := by decide +kernel
theorem dX1_ranks_92 : decode cX1_ranks 92 = .ok (.aload_n 0, 1) := by decide +kernel
theorem dX1_ranks_93 : decode cX1_ranks 93 = .ok (.getfield 14, 3) := by decide +kernel
theorem dX1_ranks_96 : decode cX1_ranks 96 = .ok (.iconst 3, 1) := by decide +kernel
theorem dX1_ranks_97 : decode cX1_ranks 97 = .ok (.iload_n 1, 1) := by decide +kernel
theorem dX1_ranks_98 : decode cX1_ranks 98 = .ok (.ineg, 1) := by decide +kernel
theorem dX1_ranks_99 : decode cX1_ranks 99 = .ok (.iload_n 2, 1) := by decide +kernel
theorem dX1_ranks_100 : decode cX1_ranks 100 = .ok (.ineg, 1) := by decide +kernel
theorem dX1_ranks_101 : decode cX1_ranks 101 = .ok (.iload_n 3, 1) := by decide +kernel
theorem dX1_ranks_102 : decode cX1_ranks 102 = .ok (.ineg, 1) := by decide +kernel
theorem dX1_ranks_103 : decode cX1_ranks 103 = .ok (.invokestatic 47, 3) := by decide +kernel
theorem dX1_ranks_106 : decode cX1_ranks 106 = .ok (.aload_n 0, 1) := by decide +kernel
theorem dX1_ranks_107 : decode cX1_ranks 107 = .ok (.invokevirtual 70, 3) := by decide +kernel
theorem dX1_ranks_110 : decode cX1_ranks 110 = .ok (.iconst 2, 1) := by decide +kernel
theorem dX1_ranks_111 : decode cX1_ranks 111 = .ok (.if_icmp .ne 25, 3) := by decide +kernel
theorem dX1_ranks_114 : decode cX1_ranks 114 = .ok (.aload_n 0, 1) := by decide +kernel
theorem dX1_ranks_115 : decode cX1_ranks 115 = .ok (.getfield 21, 3) := by decide +kernel
theorem dX1_ranks_118 : decode cX1_ranks 118 = .ok (.invokevirtual 81, 3) := by decide +kernel
theorem dX1_ranks_121 : decode cX1_ranks 121 = .ok (.aload_n 0, 1) := by decide +kernel
theorem dX1_ranks_122 : decode cX1_ranks 122 = .ok (.getfield 21, 3) := by decide +kernel
theorem dX1_ranks_125 : decode cX1_ranks 125 = .ok (.invokevirtual 85, 3) := by decide +kernel
theorem dX1_ranks_128 : decode cX1_ranks 128 = .ok (.lcmp, 1) := by decide +kernel
theorem dX1_ranks_129 : decode cX1_ranks 129 = .ok (.ifCond .lt 7, 3) := by decide +kernel
theorem dX1_ranks_132 : decode cX1_ranks 132 = .ok (.iconst 1, 1) := by decide +kernel
theorem dX1_ranks_133 : decode cX1_ranks 133 = .ok (.goto 4, 3) := by decide +kernel
theorem dX1_ranks_136 : decode cX1_ranks 136 = .ok (.iconst 0, 1) := by decide +kernel
theorem dX1_ranks_137 : decode cX1_ranks 137 = .ok (.ireturn, 1) := by decide +kernel
set_option maxRecDepth 20000 in
theorem ggX1_least_X1_areWithin : GoodIn wsX1_least wsX1_areWithin := goodIn_r _ [8, 9, 10, 7, 11] (by decide +kernel) (by decide +kernel)
set_option maxRecDepth 20000 in
theorem gX1_least_X1_areWithin : GoodIn wsX1_least (va_wsS RX1 39 yX1_areWithin wsX1_areWithin) := goodIn_app (goodIn_of _ (by decide +kernel)) ggX1_least_X1_areWithin
set_option maxRecDepth 20000 in
theorem ggX1_least_X1_fill : GoodIn wsX1_least wsX1_fill := goodIn_r _ [14] (by decide +kernel) (by decide +kernel)
set_option maxRecDepth 20000 in
theorem gX1_least_X1_fill : GoodIn wsX1_least (va_wsS RX1 47 yX1_fill wsX1_fill) := goodIn_app (goodIn_of _ (by decide +kernel)) ggX1_least_X1_fill
set_option maxRecDepth 20000 in
theorem ggX1_least_X1_seekLeast : GoodIn wsX1_least wsX1_seekLeast := goodIn_r _ [18, 4, 19, 20, 21, 7, 22, 23, 24, 25, 1, 26, 27, 28, 29, 30, 31, 32, 33, 34, 35, 36, 37, 38, 39, 40, 41, 42, 43, 44, 45, 46, 47, 48, 49, 50, 51, 52, 53, 54, 55, 56, 57, 58, 59, 60, 61, 62, 63, 64, 65, 66, 67, 68, 69, 70, 71, 72, 73, 74, 75, 76, 77, 78, 79, 80, 81, 82, 83, 84, 85, 86, 87, 88, 89, 90, 91, 92, 93, 94, 95, 96, 97, 98, 99, 100, 101, 102, 103, 104, 105, 106, 107, 108, 109, 110, 111, 112, 113, 114, 115, 116, 117, 118, 119, 120, 121, 122, 123, 124, 125, 126, 127, 128, 129, 130, 131, 132, 133, 134, 152, 153, 154, 155, 156, 157, 158, 159, 160, 161, 162, 163, 164, 165] (by decide +kernel) (by decide +kernel)
set_option maxRecDepth 20000 in
theorem gX1_least_X1_seekLeast : GoodIn wsX1_least (wsV RX1 70 RX1 yX1_seekLeast wsX1_seekLeast) := goodIn_app (goodIn_of _ (by decide +kernel)) ggX1_least_X1_seekLeast
set_option maxRecDepth 20000 in
theorem ggX1_least_X0_leastTop : GoodIn wsX1_least wsX0_leastTop := goodIn_r _ [138, 37, 35, 36, 159, 160, 161, 162, 163, 164, 165] (by decide +kernel) (by decide +kernel)
set_option maxRecDepth 20000 in
theorem gX1_least_X0_leastTop : GoodIn wsX1_least (wsV RX1 81 RX0 yX0_leastTop wsX0_leastTop) := goodIn_app (goodIn_of _ (by decide +kernel)) ggX1_least_X0_leastTop
set_option maxRecDepth 20000 in
theorem ggX1_least_X0_leastBottom : GoodIn wsX1_least wsX0_leastBottom := goodIn_r _ [142, 50, 159, 160, 161, 162, 163, 164, 165] (by decide +kernel) (by decide +kernel)
set_option maxRecDepth 20000 in
theorem gX1_least_X0_leastBottom : GoodIn wsX1_least (wsV RX1 85 RX0 yX0_leastBottom wsX0_leastBottom) := goodIn_app (goodIn_of _ (by decide +kernel)) ggX1_least_X0_leastBottom
set_option maxRecDepth 20000 in
theorem ggX1_least_X1_commonFactor : GoodIn wsX1_least wsX1_commonFactor := goodIn_r _ [145, 146, 147, 33, 148, 149, 150, 151] (by decide +kernel) (by decide +kernel)
set_option maxRecDepth 20000 in
theorem gX1_least_X1_commonFactor : GoodIn wsX1_least (va_wsS RX1 88 yX1_commonFactor wsX1_commonFactor) := goodIn_app (goodIn_of _ (by decide +kernel)) ggX1_least_X1_commonFactor
theorem dX1_least_0 : decode cX1_least 0 = .ok (.iload_n 1, 1) := by decide +kernel
theorem dX1_least_1 : decode cX1_least 1 = .ok (.iload_n 2, 1) := by decide +kernel
theorem dX1_least_2 : decode cX1_least 2 = .ok (.iload_n 3, 1) := by decide +kernel
theorem dX1_least_3 : decode cX1_least 3 = .ok (.bipush 99, 2) := by decide +kernel
theorem dX1_least_5 : decode cX1_least 5 = .ok (.invokestatic 39, 3) := by decide +kernel
theorem dX1_least_8 : decode cX1_least 8 = .ok (.ifCond .eq 17, 3) := by decide +kernel
theorem dX1_least_11 : decode cX1_least 11 = .ok (.iload 4, 2) := by decide +kernel
theorem dX1_least_13 : decode cX1_least 13 = .ok (.iload 5, 2) := by decide +kernel
theorem dX1_least_15 : decode cX1_least 15 = .ok (.iload 6, 2) := by decide +kernel
theorem dX1_least_17 : decode cX1_least 17 = .ok (.bipush 99, 2) := by decide +kernel
theorem dX1_least_19 : decode cX1_least 19 = .ok (.invokestatic 39, 3) := by decide +kernel
theorem dX1_least_22 : decode cX1_least 22 = .ok (.ifCond .ne 5, 3) := by decide +kernel
theorem dX1_least_25 : decode cX1_least 25 = .ok (.iconst (-1), 1) := by decide +kernel
theorem dX1_least_26 : decode cX1_least 26 = .ok (.ireturn, 1) := by decide +kernel
theorem dX1_least_27 : decode cX1_least 27 = .ok (.aload_n 0, 1) := by decide +kernel
theorem dX1_least_28 : decode cX1_least 28 = .ok (.getfield 14, 3) := by decide +kernel
theorem dX1_least_31 : decode cX1_least 31 = .ok (.iconst 0, 1) := by decide +kernel
theorem dX1_least_32 : decode cX1_least 32 = .ok (.iload_n 1, 1) := by decide +kernel
theorem dX1_least_33 : decode cX1_least 33 = .ok (.iload_n 2, 1) := by decide +kernel
theorem dX1_least_34 : decode cX1_least 34 = .ok (.iload_n 3, 1) := by decide +kernel
theorem dX1_least_35 : decode cX1_least 35 = .ok (.invokestatic 47, 3) := by decide +kernel
theorem dX1_least_38 : decode cX1_least 38 = .ok (.aload_n 0, 1) := by decide +kernel
theorem dX1_least_39 : decode cX1_least 39 = .ok (.getfield 14, 3) := by decide +kernel
theorem dX1_least_42 : decode cX1_least 42 = .ok (.iconst 3, 1) := by decide +kernel
theorem dX1_least_43 : decode cX1_least 43 = .ok (.iload 4, 2) := by decide +kernel
theorem dX1_least_45 : decode cX1_least 45 = .ok (.iload 5, 2) := by decide +kernel
theorem dX1_least_47 : decode cX1_least 47 = .ok (.iload 6, 2) := by decide +kernel
theorem dX1_least_49 : decode cX1_least 49 = .ok (.invokestatic 47, 3) := by decide +kernel
theorem dX1_least_52 : decode cX1_least 52 = .ok (.aload_n 0, 1) := by decide +kernel
theorem dX1_least_53 : decode cX1_least 53 = .ok (.invokevirtual 70, 3) := by decide +kernel
theorem dX1_least_56 : decode cX1_least 56 = .ok (.istore 7, 2) := by decide +kernel
theorem dX1_least_58 : decode cX1_least 58 = .ok (.aload_n 0, 1) := by decide +kernel
theorem dX1_least_59 : decode cX1_least 59 = .ok (.lconst 0, 1) := by decide +kernel
theorem dX1_least_60 : decode cX1_least 60 = .ok (.putfield 32, 3) := by decide +kernel
theorem dX1_least_63 : decode cX1_least 63 = .ok (.aload_n 0, 1) := by decide +kernel
theorem dX1_least_64 : decode cX1_least 64 = .ok (.lconst 0, 1) := by decide +kernel
theorem dX1_least_65 : decode cX1_least 65 = .ok (.putfield 36, 3) := by decide +kernel
theorem dX1_least_68 : decode cX1_least 68 = .ok (.iload 7, 2) := by decide +kernel
theorem dX1_least_70 : decode cX1_least 70 = .ok (.iconst 2, 1) := by decide +kernel
theorem dX1_least_71 : decode cX1_least 71 = .ok (.if_icmp .ne 50, 3) := by decide +kernel
theorem dX1_least_74 : decode cX1_least 74 = .ok (.aload_n 0, 1) := by decide +kernel
theorem dX1_least_75 : decode cX1_least 75 = .ok (.getfield 21, 3) := by decide +kernel
theorem dX1_least_78 : decode cX1_least 78 = .ok (.invokevirtual 81, 3) := by decide +kernel
theorem dX1_least_81 : decode cX1_least 81 = .ok (.aload_n 0, 1) := by decide +kernel
theorem dX1_least_82 : decode cX1_least 82 = .ok (.getfield 21, 3) := by decide +kernel
theorem dX1_least_85 : decode cX1_least 85 = .ok (.invokevirtual 85, 3) := by decide +kernel
theorem dX1_least_88 : decode cX1_least 88 = .ok (.invokestatic 88, 3) := by decide +kernel
theorem dX1_least_91 : decode cX1_least 91 = .ok (.lstore 8, 2) := by decide +kernel
theorem dX1_least_93 : decode cX1_least 93 = .ok (.aload_n 0, 1) := by decide +kernel
theorem dX1_least_94 : decode cX1_least 94 = .ok (.aload_n 0, 1) := by decide +kernel
theorem dX1_least_95 : decode cX1_least 95 = .ok (.getfield 21, 3) := by decide +kernel
theorem dX1_least_98 : decode cX1_least 98 = .ok (.invokevirtual 81, 3) := by decide +kernel
theorem dX1_least_101 : decode cX1_least 101 = .ok (.lload 8, 2) := by decide +kernel
theorem dX1_least_103 : decode cX1_least 103 = .ok (.ldiv, 1) := by decide +kernel
theorem dX1_least_104 : decode cX1_least 104 = .ok (.putfield 32, 3) := by decide +kernel
theorem dX1_least_107 : decode cX1_least 107 = .ok (.aload_n 0, 1) := by decide +kernel
theorem dX1_least_108 : decode cX1_least 108 = .ok (.aload_n 0, 1) := by decide +kernel
theorem dX1_least_109 : decode cX1_least 109 = .ok (.getfield 21, 3) := by decide +kernel
theorem dX1_least_112 : decode cX1_least 112 = .ok (.invokevirtual 85, 3) := by decide +kernel
theorem dX1_least_115 : decode cX1_least 115 = .ok (.lload 8, 2) := by decide +kernel
theorem dX1_least_117 : decode cX1_least 117 = .ok (.ldiv, 1) := by decide +kernel
theorem dX1_least_118 : decode cX1_least 118 = .ok (.putfield 36, 3) := by decide +kernel
theorem dX1_least_121 : decode cX1_least 121 = .ok (.iload 7, 2) := by decide +kernel
theorem dX1_least_123 : decode cX1_least 123 = .ok (.ireturn, 1) := by decide +kernel
theorem dX1_top_0 : decode cX1_top 0 = .ok (.aload_n 0, 1) := by decide +kernel
theorem dX1_top_1 : decode cX1_top 1 = .ok (.getfield 32, 3) := by decide +kernel
theorem dX1_top_4 : decode cX1_top 4 = .ok (.lreturn, 1) := by decide +kernel
theorem dX1_bottom_0 : decode cX1_bottom 0 = .ok (.aload_n 0, 1) := by decide +kernel
theorem dX1_bottom_1 : decode cX1_bottom 1 = .ok (.getfield 36, 3) := by decide +kernel
theorem dX1_bottom_4 : decode cX1_bottom 4 = .ok (.lreturn, 1) := by decide +kernel
theorem dX1_isRule_0 : decode cX1_isRule 0 = .ok (.iload_n 1, 1) := by decide +kernel
theorem dX1_isRule_1 : decode cX1_isRule 1 = .ok (.ifCond .lt 15, 3) := by decide +kernel
theorem dX1_isRule_4 : decode cX1_isRule 4 = .ok (.iload_n 1, 1) := by decide +kernel
theorem dX1_isRule_5 : decode cX1_isRule 5 = .ok (.aload_n 0, 1) := by decide +kernel
theorem dX1_isRule_6 : decode cX1_isRule 6 = .ok (.getfield 29, 3) := by decide +kernel
theorem dX1_isRule_9 : decode cX1_isRule 9 = .ok (.if_icmp .ge 7, 3) := by decide +kernel
theorem dX1_isRule_12 : decode cX1_isRule 12 = .ok (.iconst 1, 1) := by decide +kernel
theorem dX1_isRule_13 : decode cX1_isRule 13 = .ok (.goto 4, 3) := by decide +kernel
theorem dX1_isRule_16 : decode cX1_isRule 16 = .ok (.iconst 0, 1) := by decide +kernel
theorem dX1_isRule_17 : decode cX1_isRule 17 = .ok (.ireturn, 1) := by decide +kernel
theorem dX1_isWithin_0 : decode cX1_isWithin 0 = .ok (.iload_n 0, 1) := by decide +kernel
theorem dX1_isWithin_1 : decode cX1_isWithin 1 = .ok (.iload_n 1, 1) := by decide +kernel
theorem dX1_isWithin_2 : decode cX1_isWithin 2 = .ok (.ineg, 1) := by decide +kernel
theorem dX1_isWithin_3 : decode cX1_isWithin 3 = .ok (.if_icmp .lt 12, 3) := by decide +kernel
theorem dX1_isWithin_6 : decode cX1_isWithin 6 = .ok (.iload_n 0, 1) := by decide +kernel
theorem dX1_isWithin_7 : decode cX1_isWithin 7 = .ok (.iload_n 1, 1) := by decide +kernel
theorem dX1_isWithin_8 : decode cX1_isWithin 8 = .ok (.if_icmp .gt 7, 3) := by decide +kernel
theorem dX1_isWithin_11 : decode cX1_isWithin 11 = .ok (.iconst 1, 1) := by decide +kernel
theorem dX1_isWithin_12 : decode cX1_isWithin 12 = .ok (.goto 4, 3) := by decide +kernel
theorem dX1_isWithin_15 : decode cX1_isWithin 15 = .ok (.iconst 0, 1) := by decide +kernel
theorem dX1_isWithin_16 : decode cX1_isWithin 16 = .ok (.ireturn, 1) := by decide +kernel
set_option maxRecDepth 20000 in
theorem ggX1_areWithin_X1_isWithin : GoodIn wsX1_areWithin wsX1_isWithin := goodIn_r _ [4] (by decide +kernel) (by decide +kernel)
set_option maxRecDepth 20000 in
theorem gX1_areWithin_X1_isWithin : GoodIn wsX1_areWithin (va_wsS RX1 43 yX1_isWithin wsX1_isWithin) := goodIn_app (goodIn_of _ (by decide +kernel)) ggX1_areWithin_X1_isWithin
theorem dX1_areWithin_0 : decode cX1_areWithin 0 = .ok (.iload_n 0, 1) := by decide +kernel
theorem dX1_areWithin_1 : decode cX1_areWithin 1 = .ok (.iload_n 3, 1) := by decide +kernel
theorem dX1_areWithin_2 : decode cX1_areWithin 2 = .ok (.invokestatic 43, 3) := by decide +kernel
theorem dX1_areWithin_5 : decode cX1_areWithin 5 = .ok (.ifCond .eq 23, 3) := by decide +kernel
theorem dX1_areWithin_8 : decode cX1_areWithin 8 = .ok (.iload_n 1, 1) := by decide +kernel
theorem dX1_areWithin_9 : decode cX1_areWithin 9 = .ok (.iload_n 3, 1) := by decide +kernel
theorem dX1_areWithin_10 : decode cX1_areWithin 10 = .ok (.invokestatic 43, 3) := by decide +kernel
theorem dX1_areWithin_13 : decode cX1_areWithin 13 = .ok (.ifCond .eq 15, 3) := by decide +kernel
theorem dX1_areWithin_16 : decode cX1_areWithin 16 = .ok (.iload_n 2, 1) := by decide +kernel
theorem dX1_areWithin_17 : decode cX1_areWithin 17 = .ok (.iload_n 3, 1) := by decide +kernel
theorem dX1_areWithin_18 : decode cX1_areWithin 18 = .ok (.invokestatic 43, 3) := by decide +kernel
theorem dX1_areWithin_21 : decode cX1_areWithin 21 = .ok (.ifCond .eq 7, 3) := by decide +kernel
theorem dX1_areWithin_24 : decode cX1_areWithin 24 = .ok (.iconst 1, 1) := by decide +kernel
theorem dX1_areWithin_25 : decode cX1_areWithin 25 = .ok (.goto 4, 3) := by decide +kernel
theorem dX1_areWithin_28 : decode cX1_areWithin 28 = .ok (.iconst 0, 1) := by decide +kernel
theorem dX1_areWithin_29 : decode cX1_areWithin 29 = .ok (.ireturn, 1) := by decide +kernel
theorem dX1_fill_0 : decode cX1_fill 0 = .ok (.aload_n 0, 1) := by decide +kernel
theorem dX1_fill_1 : decode cX1_fill 1 = .ok (.iload_n 1, 1) := by decide +kernel
theorem dX1_fill_2 : decode cX1_fill 2 = .ok (.iload_n 2, 1) := by decide +kernel
theorem dX1_fill_3 : decode cX1_fill 3 = .ok (.iastore, 1) := by decide +kernel
theorem dX1_fill_4 : decode cX1_fill 4 = .ok (.aload_n 0, 1) := by decide +kernel
theorem dX1_fill_5 : decode cX1_fill 5 = .ok (.iload_n 1, 1) := by decide +kernel
theorem dX1_fill_6 : decode cX1_fill 6 = .ok (.iconst 1, 1) := by decide +kernel
theorem dX1_fill_7 : decode cX1_fill 7 = .ok (.iadd, 1) := by decide +kernel
theorem dX1_fill_8 : decode cX1_fill 8 = .ok (.iload_n 3, 1) := by decide +kernel
theorem dX1_fill_9 : decode cX1_fill 9 = .ok (.iastore, 1) := by decide +kernel
theorem dX1_fill_10 : decode cX1_fill 10 = .ok (.aload_n 0, 1) := by decide +kernel
theorem dX1_fill_11 : decode cX1_fill 11 = .ok (.iload_n 1, 1) := by decide +kernel
theorem dX1_fill_12 : decode cX1_fill 12 = .ok (.iconst 2, 1) := by decide +kernel
theorem dX1_fill_13 : decode cX1_fill 13 = .ok (.iadd, 1) := by decide +kernel
theorem dX1_fill_14 : decode cX1_fill 14 = .ok (.iload 4, 2) := by decide +kernel
theorem dX1_fill_16 : decode cX1_fill 16 = .ok (.iastore, 1) := by decide +kernel
theorem dX1_fill_17 : decode cX1_fill 17 = .ok (.return_, 1) := by decide +kernel
theorem dX1_partOf_0 : decode cX1_partOf 0 = .ok (.aload_n 0, 1) := by decide +kernel
theorem dX1_partOf_1 : decode cX1_partOf 1 = .ok (.getfield 11, 3) := by decide +kernel
theorem dX1_partOf_4 : decode cX1_partOf 4 = .ok (.iload_n 1, 1) := by decide +kernel
theorem dX1_partOf_5 : decode cX1_partOf 5 = .ok (.aaload, 1) := by decide +kernel
theorem dX1_partOf_6 : decode cX1_partOf 6 = .ok (.astore 9, 2) := by decide +kernel
theorem dX1_partOf_8 : decode cX1_partOf 8 = .ok (.aload 9, 2) := by decide +kernel
theorem dX1_partOf_10 : decode cX1_partOf 10 = .ok (.iload_n 2, 1) := by decide +kernel
theorem dX1_partOf_11 : decode cX1_partOf 11 = .ok (.iaload, 1) := by decide +kernel
theorem dX1_partOf_12 : decode cX1_partOf 12 = .ok (.i2l, 1) := by decide +kernel
theorem dX1_partOf_13 : decode cX1_partOf 13 = .ok (.lload_n 3, 1) := by decide +kernel
theorem dX1_partOf_14 : decode cX1_partOf 14 = .ok (.lmul, 1) := by decide +kernel
theorem dX1_partOf_15 : decode cX1_partOf 15 = .ok (.lstore 10, 2) := by decide +kernel
theorem dX1_partOf_17 : decode cX1_partOf 17 = .ok (.aload_n 0, 1) := by decide +kernel
theorem dX1_partOf_18 : decode cX1_partOf 18 = .ok (.getfield 25, 3) := by decide +kernel
theorem dX1_partOf_21 : decode cX1_partOf 21 = .ok (.iconst 1, 1) := by decide +kernel
theorem dX1_partOf_22 : decode cX1_partOf 22 = .ok (.if_icmp .le 18, 3) := by decide +kernel
theorem dX1_partOf_25 : decode cX1_partOf 25 = .ok (.lload 10, 2) := by decide +kernel
theorem dX1_partOf_27 : decode cX1_partOf 27 = .ok (.aload 9, 2) := by decide +kernel
theorem dX1_partOf_29 : decode cX1_partOf 29 = .ok (.iload_n 2, 1) := by decide +kernel
theorem dX1_partOf_30 : decode cX1_partOf 30 = .ok (.iconst 1, 1) := by decide +kernel
theorem dX1_partOf_31 : decode cX1_partOf 31 = .ok (.iadd, 1) := by decide +kernel
theorem dX1_partOf_32 : decode cX1_partOf 32 = .ok (.iaload, 1) := by decide +kernel
theorem dX1_partOf_33 : decode cX1_partOf 33 = .ok (.i2l, 1) := by decide +kernel
theorem dX1_partOf_34 : decode cX1_partOf 34 = .ok (.lload 5, 2) := by decide +kernel
theorem dX1_partOf_36 : decode cX1_partOf 36 = .ok (.lmul, 1) := by decide +kernel
theorem dX1_partOf_37 : decode cX1_partOf 37 = .ok (.ladd, 1) := by decide +kernel
theorem dX1_partOf_38 : decode cX1_partOf 38 = .ok (.lstore 10, 2) := by decide +kernel
theorem dX1_partOf_40 : decode cX1_partOf 40 = .ok (.aload_n 0, 1) := by decide +kernel
theorem dX1_partOf_41 : decode cX1_partOf 41 = .ok (.getfield 25, 3) := by decide +kernel
theorem dX1_partOf_44 : decode cX1_partOf 44 = .ok (.iconst 2, 1) := by decide +kernel
theorem dX1_partOf_45 : decode cX1_partOf 45 = .ok (.if_icmp .le 18, 3) := by decide +kernel
theorem dX1_partOf_48 : decode cX1_partOf 48 = .ok (.lload 10, 2) := by decide +kernel
theorem dX1_partOf_50 : decode cX1_partOf 50 = .ok (.aload 9, 2) := by decide +kernel
theorem dX1_partOf_52 : decode cX1_partOf 52 = .ok (.iload_n 2, 1) := by decide +kernel
theorem dX1_partOf_53 : decode cX1_partOf 53 = .ok (.iconst 2, 1) := by decide +kernel
theorem dX1_partOf_54 : decode cX1_partOf 54 = .ok (.iadd, 1) := by decide +kernel
theorem dX1_partOf_55 : decode cX1_partOf 55 = .ok (.iaload, 1) := by decide +kernel
theorem dX1_partOf_56 : decode cX1_partOf 56 = .ok (.i2l, 1) := by decide +kernel
theorem dX1_partOf_57 : decode cX1_partOf 57 = .ok (.lload 7, 2) := by decide +kernel
theorem dX1_partOf_59 : decode cX1_partOf 59 = .ok (.lmul, 1) := by decide +kernel
theorem dX1_partOf_60 : decode cX1_partOf 60 = .ok (.ladd, 1) := by decide +kernel
theorem dX1_partOf_61 : decode cX1_partOf 61 = .ok (.lstore 10, 2) := by decide +kernel
theorem dX1_partOf_63 : decode cX1_partOf 63 = .ok (.lload 10, 2) := by decide +kernel
theorem dX1_partOf_65 : decode cX1_partOf 65 = .ok (.lreturn, 1) := by decide +kernel
set_option maxRecDepth 20000 in
theorem ggX1_seekLeast_X1_weighGoal : GoodIn wsX1_seekLeast wsX1_weighGoal := goodIn_r _ [6, 1, 7, 8, 9, 10, 11, 12, 13, 14, 15, 16, 17, 18, 19, 20, 21, 22, 23, 24, 25, 26, 27, 28, 29, 30, 31, 32, 33, 34, 35, 36, 37, 38, 39, 40, 41, 42, 43, 44, 45, 46, 47, 48, 49, 50, 51, 52, 53, 54, 55, 56, 57, 120, 121, 122, 123, 124, 125, 126, 127, 128, 129, 130, 131, 132, 133] (by decide +kernel) (by decide +kernel)
set_option maxRecDepth 20000 in
theorem gX1_seekLeast_X1_weighGoal : GoodIn wsX1_seekLeast (wsV RX1 92 RX1 yX1_weighGoal wsX1_weighGoal) := goodIn_app (goodIn_of _ (by decide +kernel)) ggX1_seekLeast_X1_weighGoal
set_option maxRecDepth 20000 in
theorem ggX1_seekLeast_X0_fallsForEver : GoodIn wsX1_seekLeast wsX0_fallsForEver := goodIn_r _ [61, 62, 63, 64, 65, 14, 66, 20, 67, 68, 69, 70, 21, 22, 71, 72, 73, 74, 23, 75, 76, 77, 78, 79, 80, 81, 82, 83, 36, 38, 84, 85, 86, 87, 31, 32, 33, 34, 35, 37, 39, 40, 41, 42, 43, 44, 45, 88, 89, 90, 91, 92, 93, 94, 95, 96, 97, 98, 99, 127, 128, 129, 130, 131, 132, 133] (by decide +kernel) (by decide +kernel)
set_option maxRecDepth 20000 in
theorem gX1_seekLeast_X0_fallsForEver : GoodIn wsX1_seekLeast (wsV RX1 77 RX0 yX0_fallsForEver wsX0_fallsForEver) := goodIn_app (goodIn_of _ (by decide +kernel)) ggX1_seekLeast_X0_fallsForEver
set_option maxRecDepth 20000 in
theorem ggX1_seekLeast_X0_reachesRightSides : GoodIn wsX1_seekLeast wsX0_reachesRightSides := goodIn_r _ [103, 62, 104, 105, 106, 14, 107, 20, 23, 22, 21, 108, 109, 110, 111, 96, 97, 98, 99, 112, 113, 114, 115, 116, 117, 118, 119, 71, 72, 73, 74, 75, 76, 77, 78, 79, 80, 81, 82, 83, 36, 38, 84, 85, 86, 87, 31, 32, 33, 34, 35, 37, 39, 40, 41, 42, 43, 44, 45, 127, 128, 129, 130, 131, 132, 133] (by decide +kernel) (by decide +kernel)
set_option maxRecDepth 20000 in
theorem gX1_seekLeast_X0_reachesRightSides : GoodIn wsX1_seekLeast (wsV RX1 95 RX0 yX0_reachesRightSides wsX0_reachesRightSides) := goodIn_app (goodIn_of _ (by decide +kernel)) ggX1_seekLeast_X0_reachesRightSides
theorem dX1_seekLeast_0 : decode cX1_seekLeast 0 = .ok (.aload_n 0, 1) := by decide +kernel
theorem dX1_seekLeast_1 : decode cX1_seekLeast 1 = .ok (.invokevirtual 92, 3) := by decide +kernel
theorem dX1_seekLeast_4 : decode cX1_seekLeast 4 = .ok (.aload_n 0, 1) := by decide +kernel
theorem dX1_seekLeast_5 : decode cX1_seekLeast 5 = .ok (.getfield 21, 3) := by decide +kernel
theorem dX1_seekLeast_8 : decode cX1_seekLeast 8 = .ok (.invokevirtual 77, 3) := by decide +kernel
theorem dX1_seekLeast_11 : decode cX1_seekLeast 11 = .ok (.ifCond .eq 5, 3) := by decide +kernel
theorem dX1_seekLeast_14 : decode cX1_seekLeast 14 = .ok (.iconst 0, 1) := by decide +kernel
theorem dX1_seekLeast_15 : decode cX1_seekLeast 15 = .ok (.ireturn, 1) := by decide +kernel
theorem dX1_seekLeast_16 : decode cX1_seekLeast 16 = .ok (.aload_n 0, 1) := by decide +kernel
theorem dX1_seekLeast_17 : decode cX1_seekLeast 17 = .ok (.getfield 21, 3) := by decide +kernel
theorem dX1_seekLeast_20 : decode cX1_seekLeast 20 = .ok (.invokevirtual 95, 3) := by decide +kernel
theorem dX1_seekLeast_23 : decode cX1_seekLeast 23 = .ok (.ifCond .eq 7, 3) := by decide +kernel
theorem dX1_seekLeast_26 : decode cX1_seekLeast 26 = .ok (.iconst 2, 1) := by decide +kernel
theorem dX1_seekLeast_27 : decode cX1_seekLeast 27 = .ok (.goto 4, 3) := by decide +kernel
theorem dX1_seekLeast_30 : decode cX1_seekLeast 30 = .ok (.iconst 1, 1) := by decide +kernel
theorem dX1_seekLeast_31 : decode cX1_seekLeast 31 = .ok (.ireturn, 1) := by decide +kernel
set_option maxRecDepth 20000 in
theorem ggX1_weighGoal_X0_clear : GoodIn wsX1_weighGoal wsX0_clear := goodIn_r _ [10, 11, 12, 13, 14, 15, 16, 17, 18, 19, 20, 21, 22, 23, 24, 25, 26, 27, 28, 9, 29, 30, 31, 32, 33, 34, 35, 36, 37, 38, 39, 40, 60, 61, 62, 63, 64, 65, 66] (by decide +kernel) (by decide +kernel)
set_option maxRecDepth 20000 in
theorem gX1_weighGoal_X0_clear : GoodIn wsX1_weighGoal (wsV RX1 98 RX0 yX0_clear wsX0_clear) := goodIn_app (goodIn_of _ (by decide +kernel)) ggX1_weighGoal_X0_clear
set_option maxRecDepth 20000 in
theorem ggX1_weighGoal_X0_put : GoodIn wsX1_weighGoal wsX0_put := goodIn_r _ [44, 17, 60, 61, 62, 63, 64, 65, 66] (by decide +kernel) (by decide +kernel)
set_option maxRecDepth 20000 in
theorem gX1_weighGoal_X0_put : GoodIn wsX1_weighGoal (wsV RX1 102 RX0 yX0_put wsX0_put) := goodIn_app (goodIn_of _ (by decide +kernel)) ggX1_weighGoal_X0_put
set_option maxRecDepth 20000 in
theorem ggX1_weighGoal_X0_putRightSide : GoodIn wsX1_weighGoal wsX0_putRightSide := goodIn_r _ [48, 17, 16, 60, 61, 62, 63, 64, 65, 66] (by decide +kernel) (by decide +kernel)
set_option maxRecDepth 20000 in
theorem gX1_weighGoal_X0_putRightSide : GoodIn wsX1_weighGoal (wsV RX1 106 RX0 yX0_putRightSide wsX0_putRightSide) := goodIn_app (goodIn_of _ (by decide +kernel)) ggX1_weighGoal_X0_putRightSide
set_option maxRecDepth 20000 in
theorem ggX1_weighGoal_X0_putCost : GoodIn wsX1_weighGoal wsX0_putCost := goodIn_r _ [52, 17, 15, 60, 61, 62, 63, 64, 65, 66] (by decide +kernel) (by decide +kernel)
set_option maxRecDepth 20000 in
theorem gX1_weighGoal_X0_putCost : GoodIn wsX1_weighGoal (wsV RX1 109 RX0 yX0_putCost wsX0_putCost) := goodIn_app (goodIn_of _ (by decide +kernel)) ggX1_weighGoal_X0_putCost
theorem dX1_weighGoal_0 : decode cX1_weighGoal 0 = .ok (.aload_n 0, 1) := by decide +kernel
theorem dX1_weighGoal_1 : decode cX1_weighGoal 1 = .ok (.getfield 21, 3) := by decide +kernel
theorem dX1_weighGoal_4 : decode cX1_weighGoal 4 = .ok (.iconst 2, 1) := by decide +kernel
theorem dX1_weighGoal_5 : decode cX1_weighGoal 5 = .ok (.aload_n 0, 1) := by decide +kernel
theorem dX1_weighGoal_6 : decode cX1_weighGoal 6 = .ok (.getfield 25, 3) := by decide +kernel
theorem dX1_weighGoal_9 : decode cX1_weighGoal 9 = .ok (.imul, 1) := by decide +kernel
theorem dX1_weighGoal_10 : decode cX1_weighGoal 10 = .ok (.aload_n 0, 1) := by decide +kernel
theorem dX1_weighGoal_11 : decode cX1_weighGoal 11 = .ok (.getfield 29, 3) := by decide +kernel
theorem dX1_weighGoal_14 : decode cX1_weighGoal 14 = .ok (.invokevirtual 98, 3) := by decide +kernel
theorem dX1_weighGoal_17 : decode cX1_weighGoal 17 = .ok (.iconst 0, 1) := by decide +kernel
theorem dX1_weighGoal_18 : decode cX1_weighGoal 18 = .ok (.istore_n 1, 1) := by decide +kernel
theorem dX1_weighGoal_19 : decode cX1_weighGoal 19 = .ok (.iload_n 1, 1) := by decide +kernel
theorem dX1_weighGoal_20 : decode cX1_weighGoal 20 = .ok (.aload_n 0, 1) := by decide +kernel
theorem dX1_weighGoal_21 : decode cX1_weighGoal 21 = .ok (.getfield 25, 3) := by decide +kernel
theorem dX1_weighGoal_24 : decode cX1_weighGoal 24 = .ok (.if_icmp .ge 100, 3) := by decide +kernel
theorem dX1_weighGoal_27 : decode cX1_weighGoal 27 = .ok (.aload_n 0, 1) := by decide +kernel
theorem dX1_weighGoal_28 : decode cX1_weighGoal 28 = .ok (.getfield 25, 3) := by decide +kernel
theorem dX1_weighGoal_31 : decode cX1_weighGoal 31 = .ok (.iload_n 1, 1) := by decide +kernel
theorem dX1_weighGoal_32 : decode cX1_weighGoal 32 = .ok (.iadd, 1) := by decide +kernel
theorem dX1_weighGoal_33 : decode cX1_weighGoal 33 = .ok (.istore_n 2, 1) := by decide +kernel
theorem dX1_weighGoal_34 : decode cX1_weighGoal 34 = .ok (.iconst 0, 1) := by decide +kernel
theorem dX1_weighGoal_35 : decode cX1_weighGoal 35 = .ok (.istore_n 3, 1) := by decide +kernel
theorem dX1_weighGoal_36 : decode cX1_weighGoal 36 = .ok (.iload_n 3, 1) := by decide +kernel
theorem dX1_weighGoal_37 : decode cX1_weighGoal 37 = .ok (.aload_n 0, 1) := by decide +kernel
theorem dX1_weighGoal_38 : decode cX1_weighGoal 38 = .ok (.getfield 29, 3) := by decide +kernel
theorem dX1_weighGoal_41 : decode cX1_weighGoal 41 = .ok (.if_icmp .ge 45, 3) := by decide +kernel
theorem dX1_weighGoal_44 : decode cX1_weighGoal 44 = .ok (.aload_n 0, 1) := by decide +kernel
theorem dX1_weighGoal_45 : decode cX1_weighGoal 45 = .ok (.getfield 21, 3) := by decide +kernel
theorem dX1_weighGoal_48 : decode cX1_weighGoal 48 = .ok (.iload_n 1, 1) := by decide +kernel
theorem dX1_weighGoal_49 : decode cX1_weighGoal 49 = .ok (.iload_n 3, 1) := by decide +kernel
theorem dX1_weighGoal_50 : decode cX1_weighGoal 50 = .ok (.aload_n 0, 1) := by decide +kernel
theorem dX1_weighGoal_51 : decode cX1_weighGoal 51 = .ok (.getfield 11, 3) := by decide +kernel
theorem dX1_weighGoal_54 : decode cX1_weighGoal 54 = .ok (.iload_n 3, 1) := by decide +kernel
theorem dX1_weighGoal_55 : decode cX1_weighGoal 55 = .ok (.aaload, 1) := by decide +kernel
theorem dX1_weighGoal_56 : decode cX1_weighGoal 56 = .ok (.iload_n 1, 1) := by decide +kernel
theorem dX1_weighGoal_57 : decode cX1_weighGoal 57 = .ok (.iaload, 1) := by decide +kernel
theorem dX1_weighGoal_58 : decode cX1_weighGoal 58 = .ok (.invokevirtual 102, 3) := by decide +kernel
theorem dX1_weighGoal_61 : decode cX1_weighGoal 61 = .ok (.aload_n 0, 1) := by decide +kernel
theorem dX1_weighGoal_62 : decode cX1_weighGoal 62 = .ok (.getfield 21, 3) := by decide +kernel
theorem dX1_weighGoal_65 : decode cX1_weighGoal 65 = .ok (.iload_n 2, 1) := by decide +kernel
theorem dX1_weighGoal_66 : decode cX1_weighGoal 66 = .ok (.iload_n 3, 1) := by decide +kernel
theorem dX1_weighGoal_67 : decode cX1_weighGoal 67 = .ok (.aload_n 0, 1) := by decide +kernel
theorem dX1_weighGoal_68 : decode cX1_weighGoal 68 = .ok (.getfield 11, 3) := by decide +kernel
theorem dX1_weighGoal_71 : decode cX1_weighGoal 71 = .ok (.iload_n 3, 1) := by decide +kernel
theorem dX1_weighGoal_72 : decode cX1_weighGoal 72 = .ok (.aaload, 1) := by decide +kernel
theorem dX1_weighGoal_73 : decode cX1_weighGoal 73 = .ok (.iconst 3, 1) := by decide +kernel
theorem dX1_weighGoal_74 : decode cX1_weighGoal 74 = .ok (.iload_n 1, 1) := by decide +kernel
theorem dX1_weighGoal_75 : decode cX1_weighGoal 75 = .ok (.iadd, 1) := by decide +kernel
theorem dX1_weighGoal_76 : decode cX1_weighGoal 76 = .ok (.iaload, 1) := by decide +kernel
theorem dX1_weighGoal_77 : decode cX1_weighGoal 77 = .ok (.invokevirtual 102, 3) := by decide +kernel
theorem dX1_weighGoal_80 : decode cX1_weighGoal 80 = .ok (.iinc 3 1, 3) := by decide +kernel
theorem dX1_weighGoal_83 : decode cX1_weighGoal 83 = .ok (.goto (-47), 3) := by decide +kernel
theorem dX1_weighGoal_86 : decode cX1_weighGoal 86 = .ok (.aload_n 0, 1) := by decide +kernel
theorem dX1_weighGoal_87 : decode cX1_weighGoal 87 = .ok (.getfield 21, 3) := by decide +kernel
theorem dX1_weighGoal_90 : decode cX1_weighGoal 90 = .ok (.iload_n 1, 1) := by decide +kernel
theorem dX1_weighGoal_91 : decode cX1_weighGoal 91 = .ok (.aload_n 0, 1) := by decide +kernel
theorem dX1_weighGoal_92 : decode cX1_weighGoal 92 = .ok (.getfield 14, 3) := by decide +kernel
theorem dX1_weighGoal_95 : decode cX1_weighGoal 95 = .ok (.iload_n 1, 1) := by decide +kernel
theorem dX1_weighGoal_96 : decode cX1_weighGoal 96 = .ok (.iaload, 1) := by decide +kernel
theorem dX1_weighGoal_97 : decode cX1_weighGoal 97 = .ok (.ineg, 1) := by decide +kernel
theorem dX1_weighGoal_98 : decode cX1_weighGoal 98 = .ok (.invokevirtual 106, 3) := by decide +kernel
theorem dX1_weighGoal_101 : decode cX1_weighGoal 101 = .ok (.aload_n 0, 1) := by decide +kernel
theorem dX1_weighGoal_102 : decode cX1_weighGoal 102 = .ok (.getfield 21, 3) := by decide +kernel
theorem dX1_weighGoal_105 : decode cX1_weighGoal 105 = .ok (.iload_n 2, 1) := by decide +kernel
theorem dX1_weighGoal_106 : decode cX1_weighGoal 106 = .ok (.aload_n 0, 1) := by decide +kernel
theorem dX1_weighGoal_107 : decode cX1_weighGoal 107 = .ok (.getfield 14, 3) := by decide +kernel
theorem dX1_weighGoal_110 : decode cX1_weighGoal 110 = .ok (.iconst 3, 1) := by decide +kernel
theorem dX1_weighGoal_111 : decode cX1_weighGoal 111 = .ok (.iload_n 1, 1) := by decide +kernel
theorem dX1_weighGoal_112 : decode cX1_weighGoal 112 = .ok (.iadd, 1) := by decide +kernel
theorem dX1_weighGoal_113 : decode cX1_weighGoal 113 = .ok (.iaload, 1) := by decide +kernel
theorem dX1_weighGoal_114 : decode cX1_weighGoal 114 = .ok (.ineg, 1) := by decide +kernel
theorem dX1_weighGoal_115 : decode cX1_weighGoal 115 = .ok (.invokevirtual 106, 3) := by decide +kernel
theorem dX1_weighGoal_118 : decode cX1_weighGoal 118 = .ok (.iinc 1 1, 3) := by decide +kernel
theorem dX1_weighGoal_121 : decode cX1_weighGoal 121 = .ok (.goto (-102), 3) := by decide +kernel
theorem dX1_weighGoal_124 : decode cX1_weighGoal 124 = .ok (.iconst 0, 1) := by decide +kernel
theorem dX1_weighGoal_125 : decode cX1_weighGoal 125 = .ok (.istore_n 1, 1) := by decide +kernel
theorem dX1_weighGoal_126 : decode cX1_weighGoal 126 = .ok (.iload_n 1, 1) := by decide +kernel
theorem dX1_weighGoal_127 : decode cX1_weighGoal 127 = .ok (.aload_n 0, 1) := by decide +kernel
theorem dX1_weighGoal_128 : decode cX1_weighGoal 128 = .ok (.getfield 29, 3) := by decide +kernel
theorem dX1_weighGoal_131 : decode cX1_weighGoal 131 = .ok (.if_icmp .ge 26, 3) := by decide +kernel
theorem dX1_weighGoal_134 : decode cX1_weighGoal 134 = .ok (.aload_n 0, 1) := by decide +kernel
theorem dX1_weighGoal_135 : decode cX1_weighGoal 135 = .ok (.getfield 21, 3) := by decide +kernel
theorem dX1_weighGoal_138 : decode cX1_weighGoal 138 = .ok (.iload_n 1, 1) := by decide +kernel
theorem dX1_weighGoal_139 : decode cX1_weighGoal 139 = .ok (.aload_n 0, 1) := by decide +kernel
theorem dX1_weighGoal_140 : decode cX1_weighGoal 140 = .ok (.getfield 11, 3) := by decide +kernel
theorem dX1_weighGoal_143 : decode cX1_weighGoal 143 = .ok (.iload_n 1, 1) := by decide +kernel
theorem dX1_weighGoal_144 : decode cX1_weighGoal 144 = .ok (.aaload, 1) := by decide +kernel
theorem dX1_weighGoal_145 : decode cX1_weighGoal 145 = .ok (.bipush 6, 2) := by decide +kernel
theorem dX1_weighGoal_147 : decode cX1_weighGoal 147 = .ok (.iaload, 1) := by decide +kernel
theorem dX1_weighGoal_148 : decode cX1_weighGoal 148 = .ok (.invokevirtual 109, 3) := by decide +kernel
theorem dX1_weighGoal_151 : decode cX1_weighGoal 151 = .ok (.iinc 1 1, 3) := by decide +kernel
theorem dX1_weighGoal_154 : decode cX1_weighGoal 154 = .ok (.goto (-28), 3) := by decide +kernel
theorem dX1_weighGoal_157 : decode cX1_weighGoal 157 = .ok (.return_, 1) := by decide +kernel
set_option maxRecDepth 20000 in
theorem ggX1_weighRanking_X0_clear : GoodIn wsX1_weighRanking wsX0_clear := goodIn_r _ [9, 10, 11, 12, 13, 14, 15, 16, 17, 18, 19, 20, 21, 22, 23, 24, 25, 26, 27, 8, 28, 29, 30, 31, 32, 33, 34, 35, 36, 37, 38, 39, 55, 56, 57, 58, 59, 60, 61] (by decide +kernel) (by decide +kernel)
set_option maxRecDepth 20000 in
theorem gX1_weighRanking_X0_clear : GoodIn wsX1_weighRanking (wsV RX1 98 RX0 yX0_clear wsX0_clear) := goodIn_app (goodIn_of _ (by decide +kernel)) ggX1_weighRanking_X0_clear
set_option maxRecDepth 20000 in
theorem ggX1_weighRanking_X0_put : GoodIn wsX1_weighRanking wsX0_put := goodIn_r _ [43, 16, 55, 56, 57, 58, 59, 60, 61] (by decide +kernel) (by decide +kernel)
set_option maxRecDepth 20000 in
theorem gX1_weighRanking_X0_put : GoodIn wsX1_weighRanking (wsV RX1 102 RX0 yX0_put wsX0_put) := goodIn_app (goodIn_of _ (by decide +kernel)) ggX1_weighRanking_X0_put
set_option maxRecDepth 20000 in
theorem ggX1_weighRanking_X0_putCost : GoodIn wsX1_weighRanking wsX0_putCost := goodIn_r _ [47, 16, 14, 55, 56, 57, 58, 59, 60, 61] (by decide +kernel) (by decide +kernel)
set_option maxRecDepth 20000 in
theorem gX1_weighRanking_X0_putCost : GoodIn wsX1_weighRanking (wsV RX1 109 RX0 yX0_putCost wsX0_putCost) := goodIn_app (goodIn_of _ (by decide +kernel)) ggX1_weighRanking_X0_putCost
theorem dX1_weighRanking_0 : decode cX1_weighRanking 0 = .ok (.aload_n 0, 1) := by decide +kernel
theorem dX1_weighRanking_1 : decode cX1_weighRanking 1 = .ok (.getfield 21, 3) := by decide +kernel
theorem dX1_weighRanking_4 : decode cX1_weighRanking 4 = .ok (.iconst 3, 1) := by decide +kernel
theorem dX1_weighRanking_5 : decode cX1_weighRanking 5 = .ok (.aload_n 0, 1) := by decide +kernel
theorem dX1_weighRanking_6 : decode cX1_weighRanking 6 = .ok (.getfield 25, 3) := by decide +kernel
theorem dX1_weighRanking_9 : decode cX1_weighRanking 9 = .ok (.imul, 1) := by decide +kernel
theorem dX1_weighRanking_10 : decode cX1_weighRanking 10 = .ok (.iconst 2, 1) := by decide +kernel
theorem dX1_weighRanking_11 : decode cX1_weighRanking 11 = .ok (.aload_n 0, 1) := by decide +kernel
theorem dX1_weighRanking_12 : decode cX1_weighRanking 12 = .ok (.getfield 29, 3) := by decide +kernel
theorem dX1_weighRanking_15 : decode cX1_weighRanking 15 = .ok (.imul, 1) := by decide +kernel
theorem dX1_weighRanking_16 : decode cX1_weighRanking 16 = .ok (.invokevirtual 98, 3) := by decide +kernel
theorem dX1_weighRanking_19 : decode cX1_weighRanking 19 = .ok (.iconst 0, 1) := by decide +kernel
theorem dX1_weighRanking_20 : decode cX1_weighRanking 20 = .ok (.istore_n 1, 1) := by decide +kernel
theorem dX1_weighRanking_21 : decode cX1_weighRanking 21 = .ok (.iload_n 1, 1) := by decide +kernel
theorem dX1_weighRanking_22 : decode cX1_weighRanking 22 = .ok (.aload_n 0, 1) := by decide +kernel
theorem dX1_weighRanking_23 : decode cX1_weighRanking 23 = .ok (.getfield 25, 3) := by decide +kernel
theorem dX1_weighRanking_26 : decode cX1_weighRanking 26 = .ok (.if_icmp .ge 129, 3) := by decide +kernel
theorem dX1_weighRanking_29 : decode cX1_weighRanking 29 = .ok (.aload_n 0, 1) := by decide +kernel
theorem dX1_weighRanking_30 : decode cX1_weighRanking 30 = .ok (.getfield 25, 3) := by decide +kernel
theorem dX1_weighRanking_33 : decode cX1_weighRanking 33 = .ok (.iload_n 1, 1) := by decide +kernel
theorem dX1_weighRanking_34 : decode cX1_weighRanking 34 = .ok (.iadd, 1) := by decide +kernel
theorem dX1_weighRanking_35 : decode cX1_weighRanking 35 = .ok (.istore_n 2, 1) := by decide +kernel
theorem dX1_weighRanking_36 : decode cX1_weighRanking 36 = .ok (.iconst 2, 1) := by decide +kernel
theorem dX1_weighRanking_37 : decode cX1_weighRanking 37 = .ok (.aload_n 0, 1) := by decide +kernel
theorem dX1_weighRanking_38 : decode cX1_weighRanking 38 = .ok (.getfield 25, 3) := by decide +kernel
theorem dX1_weighRanking_41 : decode cX1_weighRanking 41 = .ok (.imul, 1) := by decide +kernel
theorem dX1_weighRanking_42 : decode cX1_weighRanking 42 = .ok (.iload_n 1, 1) := by decide +kernel
theorem dX1_weighRanking_43 : decode cX1_weighRanking 43 = .ok (.iadd, 1) := by decide +kernel
theorem dX1_weighRanking_44 : decode cX1_weighRanking 44 = .ok (.istore_n 3, 1) := by decide +kernel
theorem dX1_weighRanking_45 : decode cX1_weighRanking 45 = .ok (.iconst 0, 1) := by decide +kernel
theorem dX1_weighRanking_46 : decode cX1_weighRanking 46 = .ok (.istore 4, 2) := by decide +kernel
theorem dX1_weighRanking_48 : decode cX1_weighRanking 48 = .ok (.iload 4, 2) := by decide +kernel
theorem dX1_weighRanking_50 : decode cX1_weighRanking 50 = .ok (.aload_n 0, 1) := by decide +kernel
theorem dX1_weighRanking_51 : decode cX1_weighRanking 51 = .ok (.getfield 29, 3) := by decide +kernel
theorem dX1_weighRanking_54 : decode cX1_weighRanking 54 = .ok (.if_icmp .ge 95, 3) := by decide +kernel
theorem dX1_weighRanking_57 : decode cX1_weighRanking 57 = .ok (.aload_n 0, 1) := by decide +kernel
theorem dX1_weighRanking_58 : decode cX1_weighRanking 58 = .ok (.getfield 11, 3) := by decide +kernel
theorem dX1_weighRanking_61 : decode cX1_weighRanking 61 = .ok (.iload 4, 2) := by decide +kernel
theorem dX1_weighRanking_63 : decode cX1_weighRanking 63 = .ok (.aaload, 1) := by decide +kernel
theorem dX1_weighRanking_64 : decode cX1_weighRanking 64 = .ok (.iload_n 1, 1) := by decide +kernel
theorem dX1_weighRanking_65 : decode cX1_weighRanking 65 = .ok (.iaload, 1) := by decide +kernel
theorem dX1_weighRanking_66 : decode cX1_weighRanking 66 = .ok (.istore 5, 2) := by decide +kernel
theorem dX1_weighRanking_68 : decode cX1_weighRanking 68 = .ok (.aload_n 0, 1) := by decide +kernel
theorem dX1_weighRanking_69 : decode cX1_weighRanking 69 = .ok (.getfield 11, 3) := by decide +kernel
theorem dX1_weighRanking_72 : decode cX1_weighRanking 72 = .ok (.iload 4, 2) := by decide +kernel
theorem dX1_weighRanking_74 : decode cX1_weighRanking 74 = .ok (.aaload, 1) := by decide +kernel
theorem dX1_weighRanking_75 : decode cX1_weighRanking 75 = .ok (.iconst 3, 1) := by decide +kernel
theorem dX1_weighRanking_76 : decode cX1_weighRanking 76 = .ok (.iload_n 1, 1) := by decide +kernel
theorem dX1_weighRanking_77 : decode cX1_weighRanking 77 = .ok (.iadd, 1) := by decide +kernel
theorem dX1_weighRanking_78 : decode cX1_weighRanking 78 = .ok (.iaload, 1) := by decide +kernel
theorem dX1_weighRanking_79 : decode cX1_weighRanking 79 = .ok (.istore 6, 2) := by decide +kernel
theorem dX1_weighRanking_81 : decode cX1_weighRanking 81 = .ok (.aload_n 0, 1) := by decide +kernel
theorem dX1_weighRanking_82 : decode cX1_weighRanking 82 = .ok (.getfield 21, 3) := by decide +kernel
theorem dX1_weighRanking_85 : decode cX1_weighRanking 85 = .ok (.iload_n 1, 1) := by decide +kernel
theorem dX1_weighRanking_86 : decode cX1_weighRanking 86 = .ok (.iload 4, 2) := by decide +kernel
theorem dX1_weighRanking_88 : decode cX1_weighRanking 88 = .ok (.iload 6, 2) := by decide +kernel
theorem dX1_weighRanking_90 : decode cX1_weighRanking 90 = .ok (.invokevirtual 102, 3) := by decide +kernel
theorem dX1_weighRanking_93 : decode cX1_weighRanking 93 = .ok (.aload_n 0, 1) := by decide +kernel
theorem dX1_weighRanking_94 : decode cX1_weighRanking 94 = .ok (.getfield 21, 3) := by decide +kernel
theorem dX1_weighRanking_97 : decode cX1_weighRanking 97 = .ok (.iload_n 2, 1) := by decide +kernel
theorem dX1_weighRanking_98 : decode cX1_weighRanking 98 = .ok (.iload 4, 2) := by decide +kernel
theorem dX1_weighRanking_100 : decode cX1_weighRanking 100 = .ok (.iload 5, 2) := by decide +kernel
theorem dX1_weighRanking_102 : decode cX1_weighRanking 102 = .ok (.ineg, 1) := by decide +kernel
theorem dX1_weighRanking_103 : decode cX1_weighRanking 103 = .ok (.invokevirtual 102, 3) := by decide +kernel
theorem dX1_weighRanking_106 : decode cX1_weighRanking 106 = .ok (.aload_n 0, 1) := by decide +kernel
theorem dX1_weighRanking_107 : decode cX1_weighRanking 107 = .ok (.getfield 21, 3) := by decide +kernel
theorem dX1_weighRanking_110 : decode cX1_weighRanking 110 = .ok (.iload_n 2, 1) := by decide +kernel
theorem dX1_weighRanking_111 : decode cX1_weighRanking 111 = .ok (.aload_n 0, 1) := by decide +kernel
theorem dX1_weighRanking_112 : decode cX1_weighRanking 112 = .ok (.getfield 29, 3) := by decide +kernel
theorem dX1_weighRanking_115 : decode cX1_weighRanking 115 = .ok (.iload 4, 2) := by decide +kernel
theorem dX1_weighRanking_117 : decode cX1_weighRanking 117 = .ok (.iadd, 1) := by decide +kernel
theorem dX1_weighRanking_118 : decode cX1_weighRanking 118 = .ok (.iload 5, 2) := by decide +kernel
theorem dX1_weighRanking_120 : decode cX1_weighRanking 120 = .ok (.invokevirtual 102, 3) := by decide +kernel
theorem dX1_weighRanking_123 : decode cX1_weighRanking 123 = .ok (.aload_n 0, 1) := by decide +kernel
theorem dX1_weighRanking_124 : decode cX1_weighRanking 124 = .ok (.getfield 21, 3) := by decide +kernel
theorem dX1_weighRanking_127 : decode cX1_weighRanking 127 = .ok (.iload_n 3, 1) := by decide +kernel
theorem dX1_weighRanking_128 : decode cX1_weighRanking 128 = .ok (.aload_n 0, 1) := by decide +kernel
theorem dX1_weighRanking_129 : decode cX1_weighRanking 129 = .ok (.getfield 29, 3) := by decide +kernel
theorem dX1_weighRanking_132 : decode cX1_weighRanking 132 = .ok (.iload 4, 2) := by decide +kernel
theorem dX1_weighRanking_134 : decode cX1_weighRanking 134 = .ok (.iadd, 1) := by decide +kernel
theorem dX1_weighRanking_135 : decode cX1_weighRanking 135 = .ok (.iload 5, 2) := by decide +kernel
theorem dX1_weighRanking_137 : decode cX1_weighRanking 137 = .ok (.iload 6, 2) := by decide +kernel
theorem dX1_weighRanking_139 : decode cX1_weighRanking 139 = .ok (.iadd, 1) := by decide +kernel
theorem dX1_weighRanking_140 : decode cX1_weighRanking 140 = .ok (.invokevirtual 102, 3) := by decide +kernel
theorem dX1_weighRanking_143 : decode cX1_weighRanking 143 = .ok (.iinc 4 1, 3) := by decide +kernel
theorem dX1_weighRanking_146 : decode cX1_weighRanking 146 = .ok (.goto (-98), 3) := by decide +kernel
theorem dX1_weighRanking_149 : decode cX1_weighRanking 149 = .ok (.iinc 1 1, 3) := by decide +kernel
theorem dX1_weighRanking_152 : decode cX1_weighRanking 152 = .ok (.goto (-131), 3) := by decide +kernel
theorem dX1_weighRanking_155 : decode cX1_weighRanking 155 = .ok (.iconst 0, 1) := by decide +kernel
theorem dX1_weighRanking_156 : decode cX1_weighRanking 156 = .ok (.istore_n 1, 1) := by decide +kernel
theorem dX1_weighRanking_157 : decode cX1_weighRanking 157 = .ok (.iload_n 1, 1) := by decide +kernel
theorem dX1_weighRanking_158 : decode cX1_weighRanking 158 = .ok (.aload_n 0, 1) := by decide +kernel
theorem dX1_weighRanking_159 : decode cX1_weighRanking 159 = .ok (.getfield 29, 3) := by decide +kernel
theorem dX1_weighRanking_162 : decode cX1_weighRanking 162 = .ok (.if_icmp .ge 31, 3) := by decide +kernel
theorem dX1_weighRanking_165 : decode cX1_weighRanking 165 = .ok (.aload_n 0, 1) := by decide +kernel
theorem dX1_weighRanking_166 : decode cX1_weighRanking 166 = .ok (.getfield 21, 3) := by decide +kernel
theorem dX1_weighRanking_169 : decode cX1_weighRanking 169 = .ok (.aload_n 0, 1) := by decide +kernel
theorem dX1_weighRanking_170 : decode cX1_weighRanking 170 = .ok (.getfield 29, 3) := by decide +kernel
theorem dX1_weighRanking_173 : decode cX1_weighRanking 173 = .ok (.iload_n 1, 1) := by decide +kernel
theorem dX1_weighRanking_174 : decode cX1_weighRanking 174 = .ok (.iadd, 1) := by decide +kernel
theorem dX1_weighRanking_175 : decode cX1_weighRanking 175 = .ok (.aload_n 0, 1) := by decide +kernel
theorem dX1_weighRanking_176 : decode cX1_weighRanking 176 = .ok (.getfield 11, 3) := by decide +kernel
theorem dX1_weighRanking_179 : decode cX1_weighRanking 179 = .ok (.iload_n 1, 1) := by decide +kernel
theorem dX1_weighRanking_180 : decode cX1_weighRanking 180 = .ok (.aaload, 1) := by decide +kernel
theorem dX1_weighRanking_181 : decode cX1_weighRanking 181 = .ok (.bipush 6, 2) := by decide +kernel
theorem dX1_weighRanking_183 : decode cX1_weighRanking 183 = .ok (.iaload, 1) := by decide +kernel
theorem dX1_weighRanking_184 : decode cX1_weighRanking 184 = .ok (.invokevirtual 109, 3) := by decide +kernel
theorem dX1_weighRanking_187 : decode cX1_weighRanking 187 = .ok (.iinc 1 1, 3) := by decide +kernel
theorem dX1_weighRanking_190 : decode cX1_weighRanking 190 = .ok (.goto (-33), 3) := by decide +kernel
theorem dX1_weighRanking_193 : decode cX1_weighRanking 193 = .ok (.return_, 1) := by decide +kernel
theorem dX1_commonFactor_0 : decode cX1_commonFactor 0 = .ok (.lload_n 0, 1) := by decide +kernel
theorem dX1_commonFactor_1 : decode cX1_commonFactor 1 = .ok (.invokestatic 112, 3) := by decide +kernel
theorem dX1_commonFactor_4 : decode cX1_commonFactor 4 = .ok (.lstore 4, 2) := by decide +kernel
theorem dX1_commonFactor_6 : decode cX1_commonFactor 6 = .ok (.lload_n 2, 1) := by decide +kernel
theorem dX1_commonFactor_7 : decode cX1_commonFactor 7 = .ok (.invokestatic 112, 3) := by decide +kernel
theorem dX1_commonFactor_10 : decode cX1_commonFactor 10 = .ok (.lstore 6, 2) := by decide +kernel
theorem dX1_commonFactor_12 : decode cX1_commonFactor 12 = .ok (.iconst 0, 1) := by decide +kernel
theorem dX1_commonFactor_13 : decode cX1_commonFactor 13 = .ok (.istore 8, 2) := by decide +kernel
theorem dX1_commonFactor_15 : decode cX1_commonFactor 15 = .ok (.iload 8, 2) := by decide +kernel
theorem dX1_commonFactor_17 : decode cX1_commonFactor 17 = .ok (.sipush 1000, 3) := by decide +kernel
theorem dX1_commonFactor_20 : decode cX1_commonFactor 20 = .ok (.if_icmp .ge 31, 3) := by decide +kernel
theorem dX1_commonFactor_23 : decode cX1_commonFactor 23 = .ok (.lload 6, 2) := by decide +kernel
theorem dX1_commonFactor_25 : decode cX1_commonFactor 25 = .ok (.lconst 0, 1) := by decide +kernel
theorem dX1_commonFactor_26 : decode cX1_commonFactor 26 = .ok (.lcmp, 1) := by decide +kernel
theorem dX1_commonFactor_27 : decode cX1_commonFactor 27 = .ok (.ifCond .eq 24, 3) := by decide +kernel
theorem dX1_commonFactor_30 : decode cX1_commonFactor 30 = .ok (.lload 4, 2) := by decide +kernel
theorem dX1_commonFactor_32 : decode cX1_commonFactor 32 = .ok (.lload 6, 2) := by decide +kernel
theorem dX1_commonFactor_34 : decode cX1_commonFactor 34 = .ok (.lrem, 1) := by decide +kernel
theorem dX1_commonFactor_35 : decode cX1_commonFactor 35 = .ok (.lstore 9, 2) := by decide +kernel
theorem dX1_commonFactor_37 : decode cX1_commonFactor 37 = .ok (.lload 6, 2) := by decide +kernel
theorem dX1_commonFactor_39 : decode cX1_commonFactor 39 = .ok (.lstore 4, 2) := by decide +kernel
theorem dX1_commonFactor_41 : decode cX1_commonFactor 41 = .ok (.lload 9, 2) := by decide +kernel
theorem dX1_commonFactor_43 : decode cX1_commonFactor 43 = .ok (.lstore 6, 2) := by decide +kernel
theorem dX1_commonFactor_45 : decode cX1_commonFactor 45 = .ok (.iinc 8 1, 3) := by decide +kernel
theorem dX1_commonFactor_48 : decode cX1_commonFactor 48 = .ok (.goto (-33), 3) := by decide +kernel
theorem dX1_commonFactor_51 : decode cX1_commonFactor 51 = .ok (.lload 4, 2) := by decide +kernel
theorem dX1_commonFactor_53 : decode cX1_commonFactor 53 = .ok (.lconst 1, 1) := by decide +kernel
theorem dX1_commonFactor_54 : decode cX1_commonFactor 54 = .ok (.invokestatic 118, 3) := by decide +kernel
theorem dX1_commonFactor_57 : decode cX1_commonFactor 57 = .ok (.lreturn, 1) := by decide +kernel
