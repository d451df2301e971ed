theorem dX0_init_0 : decode cX0_init 0 = .ok (.aload_n 0, 1) := by decide +kernel
theorem dX0_init_1 : decode cX0_init 1 = .ok (.invokespecial 3, 3) := by decide +kernel
theorem dX0_init_4 : decode cX0_init 4 = .ok (.aload_n 0, 1) := by decide +kernel
theorem dX0_init_5 : decode cX0_init 5 = .ok (.bipush 10, 2) := by decide +kernel
theorem dX0_init_7 : decode cX0_init 7 = .ok (.bipush 17, 2) := by decide +kernel
theorem dX0_init_9 : decode cX0_init 9 = .ok (.multianewarray 11 2, 4) := by decide +kernel
theorem dX0_init_13 : decode cX0_init 13 = .ok (.putfield 13, 3) := by decide +kernel
theorem dX0_init_16 : decode cX0_init 16 = .ok (.aload_n 0, 1) := by decide +kernel
theorem dX0_init_17 : decode cX0_init 17 = .ok (.bipush 9, 2) := by decide +kernel
theorem dX0_init_19 : decode cX0_init 19 = .ok (.newarray .int, 2) := by decide +kernel
theorem dX0_init_21 : decode cX0_init 21 = .ok (.putfield 16, 3) := by decide +kernel
theorem dX0_init_24 : decode cX0_init 24 = .ok (.aload_n 0, 1) := by decide +kernel
theorem dX0_init_25 : decode cX0_init 25 = .ok (.iconst 0, 1) := by decide +kernel
theorem dX0_init_26 : decode cX0_init 26 = .ok (.putfield 20, 3) := by decide +kernel
theorem dX0_init_29 : decode cX0_init 29 = .ok (.aload_n 0, 1) := by decide +kernel
theorem dX0_init_30 : decode cX0_init 30 = .ok (.iconst 0, 1) := by decide +kernel
theorem dX0_init_31 : decode cX0_init 31 = .ok (.putfield 24, 3) := by decide +kernel
theorem dX0_init_34 : decode cX0_init 34 = .ok (.aload_n 0, 1) := by decide +kernel
theorem dX0_init_35 : decode cX0_init 35 = .ok (.lconst 1, 1) := by decide +kernel
theorem dX0_init_36 : decode cX0_init 36 = .ok (.putfield 27, 3) := by decide +kernel
theorem dX0_init_39 : decode cX0_init 39 = .ok (.aload_n 0, 1) := by decide +kernel
theorem dX0_init_40 : decode cX0_init 40 = .ok (.iconst 0, 1) := by decide +kernel
theorem dX0_init_41 : decode cX0_init 41 = .ok (.putfield 31, 3) := by decide +kernel
theorem dX0_init_44 : decode cX0_init 44 = .ok (.aload_n 0, 1) := by decide +kernel
theorem dX0_init_45 : decode cX0_init 45 = .ok (.lconst 1, 1) := by decide +kernel
theorem dX0_init_46 : decode cX0_init 46 = .ok (.putfield 34, 3) := by decide +kernel
theorem dX0_init_49 : decode cX0_init 49 = .ok (.return_, 1) := by decide +kernel
set_option maxRecDepth 20000 in
theorem ggX0_clear_J7_fill_d0a16 : GoodIn wsX0_clear wsJ7_fill_d0a16 := goodIn_r _ [12] (by decide +kernel) (by decide +kernel)
set_option maxRecDepth 20000 in
theorem gX0_clear_J7_fill_d0a16 : GoodIn wsX0_clear (va_wsS RX0 43 yJ7_fill_d0a16 wsJ7_fill_d0a16) := goodIn_app (goodIn_of _ (by decide +kernel)) ggX0_clear_J7_fill_d0a16
set_option maxRecDepth 20000 in
theorem ggX0_clear_J7_fill_53178 : GoodIn wsX0_clear wsJ7_fill_53178 := goodIn_r _ [15] (by decide +kernel) (by decide +kernel)
set_option maxRecDepth 20000 in
theorem gX0_clear_J7_fill_53178 : GoodIn wsX0_clear (va_wsS RX0 49 yJ7_fill_53178 wsJ7_fill_53178) := goodIn_app (goodIn_of _ (by decide +kernel)) ggX0_clear_J7_fill_53178
set_option maxRecDepth 20000 in
theorem ggX0_clear_X0_takeUnit : GoodIn wsX0_clear wsX0_takeUnit := goodIn_r _ [20, 21, 22, 23, 24, 25, 26, 27, 28, 29, 30, 31, 32, 33, 34, 35, 36, 37, 38] (by decide +kernel) (by decide +kernel)
set_option maxRecDepth 20000 in
theorem gX0_clear_X0_takeUnit : GoodIn wsX0_clear (wsV RX0 52 RX0 yX0_takeUnit wsX0_takeUnit) := goodIn_app (goodIn_of _ (by decide +kernel)) ggX0_clear_X0_takeUnit
theorem dX0_clear_0 : decode cX0_clear 0 = .ok (.aload_n 0, 1) := by decide +kernel
theorem dX0_clear_1 : decode cX0_clear 1 = .ok (.iload_n 1, 1) := by decide +kernel
theorem dX0_clear_2 : decode cX0_clear 2 = .ok (.bipush 9, 2) := by decide +kernel
theorem dX0_clear_4 : decode cX0_clear 4 = .ok (.invokestatic 37, 3) := by decide +kernel
theorem dX0_clear_7 : decode cX0_clear 7 = .ok (.putfield 20, 3) := by decide +kernel
theorem dX0_clear_10 : decode cX0_clear 10 = .ok (.aload_n 0, 1) := by decide +kernel
theorem dX0_clear_11 : decode cX0_clear 11 = .ok (.iload_n 2, 1) := by decide +kernel
theorem dX0_clear_12 : decode cX0_clear 12 = .ok (.bipush 16, 2) := by decide +kernel
theorem dX0_clear_14 : decode cX0_clear 14 = .ok (.invokestatic 37, 3) := by decide +kernel
theorem dX0_clear_17 : decode cX0_clear 17 = .ok (.putfield 24, 3) := by decide +kernel
theorem dX0_clear_20 : decode cX0_clear 20 = .ok (.iconst 0, 1) := by decide +kernel
theorem dX0_clear_21 : decode cX0_clear 21 = .ok (.istore_n 3, 1) := by decide +kernel
theorem dX0_clear_22 : decode cX0_clear 22 = .ok (.iload_n 3, 1) := by decide +kernel
theorem dX0_clear_23 : decode cX0_clear 23 = .ok (.aload_n 0, 1) := by decide +kernel
theorem dX0_clear_24 : decode cX0_clear 24 = .ok (.getfield 20, 3) := by decide +kernel
theorem dX0_clear_27 : decode cX0_clear 27 = .ok (.if_icmp .gt 19, 3) := by decide +kernel
theorem dX0_clear_30 : decode cX0_clear 30 = .ok (.aload_n 0, 1) := by decide +kernel
theorem dX0_clear_31 : decode cX0_clear 31 = .ok (.getfield 13, 3) := by decide +kernel
theorem dX0_clear_34 : decode cX0_clear 34 = .ok (.iload_n 3, 1) := by decide +kernel
theorem dX0_clear_35 : decode cX0_clear 35 = .ok (.aaload, 1) := by decide +kernel
theorem dX0_clear_36 : decode cX0_clear 36 = .ok (.lconst 0, 1) := by decide +kernel
theorem dX0_clear_37 : decode cX0_clear 37 = .ok (.invokestatic 43, 3) := by decide +kernel
theorem dX0_clear_40 : decode cX0_clear 40 = .ok (.iinc 3 1, 3) := by decide +kernel
theorem dX0_clear_43 : decode cX0_clear 43 = .ok (.goto (-21), 3) := by decide +kernel
theorem dX0_clear_46 : decode cX0_clear 46 = .ok (.aload_n 0, 1) := by decide +kernel
theorem dX0_clear_47 : decode cX0_clear 47 = .ok (.getfield 16, 3) := by decide +kernel
theorem dX0_clear_50 : decode cX0_clear 50 = .ok (.iconst (-1), 1) := by decide +kernel
theorem dX0_clear_51 : decode cX0_clear 51 = .ok (.invokestatic 49, 3) := by decide +kernel
theorem dX0_clear_54 : decode cX0_clear 54 = .ok (.aload_n 0, 1) := by decide +kernel
theorem dX0_clear_55 : decode cX0_clear 55 = .ok (.lconst 1, 1) := by decide +kernel
theorem dX0_clear_56 : decode cX0_clear 56 = .ok (.invokevirtual 52, 3) := by decide +kernel
theorem dX0_clear_59 : decode cX0_clear 59 = .ok (.return_, 1) := by decide +kernel
theorem dX0_put_0 : decode cX0_put 0 = .ok (.aload_n 0, 1) := by decide +kernel
theorem dX0_put_1 : decode cX0_put 1 = .ok (.getfield 13, 3) := by decide +kernel
theorem dX0_put_4 : decode cX0_put 4 = .ok (.iload_n 1, 1) := by decide +kernel
theorem dX0_put_5 : decode cX0_put 5 = .ok (.aaload, 1) := by decide +kernel
theorem dX0_put_6 : decode cX0_put 6 = .ok (.iload_n 2, 1) := by decide +kernel
theorem dX0_put_7 : decode cX0_put 7 = .ok (.iload_n 3, 1) := by decide +kernel
theorem dX0_put_8 : decode cX0_put 8 = .ok (.i2l, 1) := by decide +kernel
theorem dX0_put_9 : decode cX0_put 9 = .ok (.lastore, 1) := by decide +kernel
theorem dX0_put_10 : decode cX0_put 10 = .ok (.return_, 1) := by decide +kernel
theorem dX0_putRightSide_0 : decode cX0_putRightSide 0 = .ok (.aload_n 0, 1) := by decide +kernel
theorem dX0_putRightSide_1 : decode cX0_putRightSide 1 = .ok (.getfield 13, 3) := by decide +kernel
theorem dX0_putRightSide_4 : decode cX0_putRightSide 4 = .ok (.iload_n 1, 1) := by decide +kernel
theorem dX0_putRightSide_5 : decode cX0_putRightSide 5 = .ok (.aaload, 1) := by decide +kernel
theorem dX0_putRightSide_6 : decode cX0_putRightSide 6 = .ok (.aload_n 0, 1) := by decide +kernel
theorem dX0_putRightSide_7 : decode cX0_putRightSide 7 = .ok (.getfield 24, 3) := by decide +kernel
theorem dX0_putRightSide_10 : decode cX0_putRightSide 10 = .ok (.iload_n 2, 1) := by decide +kernel
theorem dX0_putRightSide_11 : decode cX0_putRightSide 11 = .ok (.i2l, 1) := by decide +kernel
theorem dX0_putRightSide_12 : decode cX0_putRightSide 12 = .ok (.lastore, 1) := by decide +kernel
theorem dX0_putRightSide_13 : decode cX0_putRightSide 13 = .ok (.return_, 1) := by decide +kernel
theorem dX0_putCost_0 : decode cX0_putCost 0 = .ok (.aload_n 0, 1) := by decide +kernel
theorem dX0_putCost_1 : decode cX0_putCost 1 = .ok (.getfield 13, 3) := by decide +kernel
theorem dX0_putCost_4 : decode cX0_putCost 4 = .ok (.aload_n 0, 1) := by decide +kernel
theorem dX0_putCost_5 : decode cX0_putCost 5 = .ok (.getfield 20, 3) := by decide +kernel
theorem dX0_putCost_8 : decode cX0_putCost 8 = .ok (.aaload, 1) := by decide +kernel
theorem dX0_putCost_9 : decode cX0_putCost 9 = .ok (.iload_n 1, 1) := by decide +kernel
theorem dX0_putCost_10 : decode cX0_putCost 10 = .ok (.iload_n 2, 1) := by decide +kernel
theorem dX0_putCost_11 : decode cX0_putCost 11 = .ok (.i2l, 1) := by decide +kernel
theorem dX0_putCost_12 : decode cX0_putCost 12 = .ok (.lastore, 1) := by decide +kernel
theorem dX0_putCost_13 : decode cX0_putCost 13 = .ok (.return_, 1) := by decide +kernel
theorem dX0_leastTop_0 : decode cX0_leastTop 0 = .ok (.aload_n 0, 1) := by decide +kernel
theorem dX0_leastTop_1 : decode cX0_leastTop 1 = .ok (.getfield 13, 3) := by decide +kernel
theorem dX0_leastTop_4 : decode cX0_leastTop 4 = .ok (.aload_n 0, 1) := by decide +kernel
theorem dX0_leastTop_5 : decode cX0_leastTop 5 = .ok (.getfield 20, 3) := by decide +kernel
theorem dX0_leastTop_8 : decode cX0_leastTop 8 = .ok (.aaload, 1) := by decide +kernel
theorem dX0_leastTop_9 : decode cX0_leastTop 9 = .ok (.aload_n 0, 1) := by decide +kernel
theorem dX0_leastTop_10 : decode cX0_leastTop 10 = .ok (.getfield 24, 3) := by decide +kernel
theorem dX0_leastTop_13 : decode cX0_leastTop 13 = .ok (.laload, 1) := by decide +kernel
theorem dX0_leastTop_14 : decode cX0_leastTop 14 = .ok (.lreturn, 1) := by decide +kernel
theorem dX0_leastBottom_0 : decode cX0_leastBottom 0 = .ok (.aload_n 0, 1) := by decide +kernel
theorem dX0_leastBottom_1 : decode cX0_leastBottom 1 = .ok (.getfield 27, 3) := by decide +kernel
theorem dX0_leastBottom_4 : decode cX0_leastBottom 4 = .ok (.lreturn, 1) := by decide +kernel
set_option maxRecDepth 20000 in
theorem ggX0_fallsForEver_X0_holdColumns : GoodIn wsX0_fallsForEver wsX0_holdColumns := goodIn_r _ [6, 7, 8, 9, 10, 5, 11, 12, 13, 14, 15, 16, 17, 18, 19, 20, 21, 22, 23, 24, 25, 26, 27, 28, 29, 30, 31, 32, 33, 34, 35, 36, 37, 38, 39, 40, 41, 42, 43, 44, 45, 46, 59, 60, 61, 62, 63, 64, 65] (by decide +kernel) (by decide +kernel)
set_option maxRecDepth 20000 in
theorem gX0_fallsForEver_X0_holdColumns : GoodIn wsX0_fallsForEver (wsV RX0 56 RX0 yX0_holdColumns wsX0_holdColumns) := goodIn_app (goodIn_of _ (by decide +kernel)) ggX0_fallsForEver_X0_holdColumns
set_option maxRecDepth 20000 in
theorem ggX0_fallsForEver_X0_columnThatSaves : GoodIn wsX0_fallsForEver wsX0_columnThatSaves := goodIn_r _ [50, 12, 13, 7, 59, 60, 61, 62, 63, 64, 65] (by decide +kernel) (by decide +kernel)
set_option maxRecDepth 20000 in
theorem gX0_fallsForEver_X0_columnThatSaves : GoodIn wsX0_fallsForEver (wsV RX0 60 RX0 yX0_columnThatSaves wsX0_columnThatSaves) := goodIn_app (goodIn_of _ (by decide +kernel)) ggX0_fallsForEver_X0_columnThatSaves
set_option maxRecDepth 20000 in
theorem ggX0_fallsForEver_X0_rowThatLimits : GoodIn wsX0_fallsForEver wsX0_rowThatLimits := goodIn_r _ [54, 7, 13, 55, 56, 57, 5, 58, 18, 59, 60, 61, 62, 63, 64, 65] (by decide +kernel) (by decide +kernel)
set_option maxRecDepth 20000 in
theorem gX0_fallsForEver_X0_rowThatLimits : GoodIn wsX0_fallsForEver (wsV RX0 64 RX0 yX0_rowThatLimits wsX0_rowThatLimits) := goodIn_app (goodIn_of _ (by decide +kernel)) ggX0_fallsForEver_X0_rowThatLimits
set_option maxRecDepth 20000 in
theorem ggX0_fallsForEver_X0_exchange : GoodIn wsX0_fallsForEver wsX0_exchange := goodIn_r _ [17, 13, 7, 12, 18, 19, 20, 21, 5, 22, 23, 24, 25, 26, 27, 28, 29, 30, 31, 32, 33, 34, 35, 36, 37, 38, 39, 40, 41, 42, 43, 44, 45, 46, 59, 60, 61, 62, 63, 64, 65] (by decide +kernel) (by decide +kernel)
set_option maxRecDepth 20000 in
theorem gX0_fallsForEver_X0_exchange : GoodIn wsX0_fallsForEver (wsV RX0 68 RX0 yX0_exchange wsX0_exchange) := goodIn_app (goodIn_of _ (by decide +kernel)) ggX0_fallsForEver_X0_exchange
theorem dX0_fallsForEver_0 : decode cX0_fallsForEver 0 = .ok (.aload_n 0, 1) := by decide +kernel
theorem dX0_fallsForEver_1 : decode cX0_fallsForEver 1 = .ok (.invokevirtual 56, 3) := by decide +kernel
theorem dX0_fallsForEver_4 : decode cX0_fallsForEver 4 = .ok (.iconst 0, 1) := by decide +kernel
theorem dX0_fallsForEver_5 : decode cX0_fallsForEver 5 = .ok (.istore_n 1, 1) := by decide +kernel
theorem dX0_fallsForEver_6 : decode cX0_fallsForEver 6 = .ok (.iload_n 1, 1) := by decide +kernel
theorem dX0_fallsForEver_7 : decode cX0_fallsForEver 7 = .ok (.ldc 59, 2) := by decide +kernel
theorem dX0_fallsForEver_9 : decode cX0_fallsForEver 9 = .ok (.if_icmp .ge 40, 3) := by decide +kernel
theorem dX0_fallsForEver_12 : decode cX0_fallsForEver 12 = .ok (.aload_n 0, 1) := by decide +kernel
theorem dX0_fallsForEver_13 : decode cX0_fallsForEver 13 = .ok (.invokevirtual 60, 3) := by decide +kernel
theorem dX0_fallsForEver_16 : decode cX0_fallsForEver 16 = .ok (.istore_n 2, 1) := by decide +kernel
theorem dX0_fallsForEver_17 : decode cX0_fallsForEver 17 = .ok (.iload_n 2, 1) := by decide +kernel
theorem dX0_fallsForEver_18 : decode cX0_fallsForEver 18 = .ok (.iconst (-1), 1) := by decide +kernel
theorem dX0_fallsForEver_19 : decode cX0_fallsForEver 19 = .ok (.if_icmp .ne 5, 3) := by decide +kernel
theorem dX0_fallsForEver_22 : decode cX0_fallsForEver 22 = .ok (.iconst 0, 1) := by decide +kernel
theorem dX0_fallsForEver_23 : decode cX0_fallsForEver 23 = .ok (.ireturn, 1) := by decide +kernel
theorem dX0_fallsForEver_24 : decode cX0_fallsForEver 24 = .ok (.aload_n 0, 1) := by decide +kernel
theorem dX0_fallsForEver_25 : decode cX0_fallsForEver 25 = .ok (.iload_n 2, 1) := by decide +kernel
theorem dX0_fallsForEver_26 : decode cX0_fallsForEver 26 = .ok (.invokevirtual 64, 3) := by decide +kernel
theorem dX0_fallsForEver_29 : decode cX0_fallsForEver 29 = .ok (.istore_n 3, 1) := by decide +kernel
theorem dX0_fallsForEver_30 : decode cX0_fallsForEver 30 = .ok (.iload_n 3, 1) := by decide +kernel
theorem dX0_fallsForEver_31 : decode cX0_fallsForEver 31 = .ok (.iconst (-1), 1) := by decide +kernel
theorem dX0_fallsForEver_32 : decode cX0_fallsForEver 32 = .ok (.if_icmp .ne 5, 3) := by decide +kernel
theorem dX0_fallsForEver_35 : decode cX0_fallsForEver 35 = .ok (.iconst 1, 1) := by decide +kernel
theorem dX0_fallsForEver_36 : decode cX0_fallsForEver 36 = .ok (.ireturn, 1) := by decide +kernel
theorem dX0_fallsForEver_37 : decode cX0_fallsForEver 37 = .ok (.aload_n 0, 1) := by decide +kernel
theorem dX0_fallsForEver_38 : decode cX0_fallsForEver 38 = .ok (.iload_n 3, 1) := by decide +kernel
theorem dX0_fallsForEver_39 : decode cX0_fallsForEver 39 = .ok (.iload_n 2, 1) := by decide +kernel
theorem dX0_fallsForEver_40 : decode cX0_fallsForEver 40 = .ok (.invokevirtual 68, 3) := by decide +kernel
theorem dX0_fallsForEver_43 : decode cX0_fallsForEver 43 = .ok (.iinc 1 1, 3) := by decide +kernel
theorem dX0_fallsForEver_46 : decode cX0_fallsForEver 46 = .ok (.goto (-40), 3) := by decide +kernel
theorem dX0_fallsForEver_49 : decode cX0_fallsForEver 49 = .ok (.iconst 0, 1) := by decide +kernel
theorem dX0_fallsForEver_50 : decode cX0_fallsForEver 50 = .ok (.ireturn, 1) := by decide +kernel
set_option maxRecDepth 20000 in
theorem ggX0_reachesRightSides_X0_hasBareContradiction : GoodIn wsX0_reachesRightSides wsX0_hasBareContradiction := goodIn_r _ [6, 7, 8, 9, 10, 59, 60, 61, 62, 63, 64, 65] (by decide +kernel) (by decide +kernel)
set_option maxRecDepth 20000 in
theorem gX0_reachesRightSides_X0_hasBareContradiction : GoodIn wsX0_reachesRightSides (wsV RX0 72 RX0 yX0_hasBareContradiction wsX0_hasBareContradiction) := goodIn_app (goodIn_of _ (by decide +kernel)) ggX0_reachesRightSides_X0_hasBareContradiction
set_option maxRecDepth 20000 in
theorem ggX0_reachesRightSides_X0_rowBelowZero : GoodIn wsX0_reachesRightSides wsX0_rowBelowZero := goodIn_r _ [14, 7, 9, 10, 15, 16, 17, 5, 18, 8, 59, 60, 61, 62, 63, 64, 65] (by decide +kernel) (by decide +kernel)
set_option maxRecDepth 20000 in
theorem gX0_reachesRightSides_X0_rowBelowZero : GoodIn wsX0_reachesRightSides (wsV RX0 76 RX0 yX0_rowBelowZero wsX0_rowBelowZero) := goodIn_app (goodIn_of _ (by decide +kernel)) ggX0_reachesRightSides_X0_rowBelowZero
set_option maxRecDepth 20000 in
theorem ggX0_reachesRightSides_X0_columnThatLifts : GoodIn wsX0_reachesRightSides wsX0_columnThatLifts := goodIn_r _ [22, 10, 9, 23, 24, 25, 5, 26, 7, 59, 60, 61, 62, 63, 64, 65] (by decide +kernel) (by decide +kernel)
set_option maxRecDepth 20000 in
theorem gX0_reachesRightSides_X0_columnThatLifts : GoodIn wsX0_reachesRightSides (wsV RX0 79 RX0 yX0_columnThatLifts wsX0_columnThatLifts) := goodIn_app (goodIn_of _ (by decide +kernel)) ggX0_reachesRightSides_X0_columnThatLifts
set_option maxRecDepth 20000 in
theorem ggX0_reachesRightSides_X0_exchange : GoodIn wsX0_reachesRightSides wsX0_exchange := goodIn_r _ [30, 9, 7, 10, 8, 31, 32, 33, 5, 34, 35, 36, 37, 38, 39, 40, 41, 42, 43, 44, 45, 46, 47, 48, 49, 50, 51, 52, 53, 54, 55, 56, 57, 58, 59, 60, 61, 62, 63, 64, 65] (by decide +kernel) (by decide +kernel)
set_option maxRecDepth 20000 in
theorem gX0_reachesRightSides_X0_exchange : GoodIn wsX0_reachesRightSides (wsV RX0 68 RX0 yX0_exchange wsX0_exchange) := goodIn_app (goodIn_of _ (by decide +kernel)) ggX0_reachesRightSides_X0_exchange
theorem dX0_reachesRightSides_0 : decode cX0_reachesRightSides 0 = .ok (.aload_n 0, 1) := by decide +kernel
theorem dX0_reachesRightSides_1 : decode cX0_reachesRightSides 1 = .ok (.invokevirtual 72, 3) := by decide +kernel
theorem dX0_reachesRightSides_4 : decode cX0_reachesRightSides 4 = .ok (.ifCond .eq 5, 3) := by decide +kernel
theorem dX0_reachesRightSides_7 : decode cX0_reachesRightSides 7 = .ok (.iconst 0, 1) := by decide +kernel
theorem dX0_reachesRightSides_8 : decode cX0_reachesRightSides 8 = .ok (.ireturn, 1) := by decide +kernel
theorem dX0_reachesRightSides_9 : decode cX0_reachesRightSides 9 = .ok (.iconst 0, 1) := by decide +kernel
theorem dX0_reachesRightSides_10 : decode cX0_reachesRightSides 10 = .ok (.istore_n 1, 1) := by decide +kernel
theorem dX0_reachesRightSides_11 : decode cX0_reachesRightSides 11 = .ok (.iload_n 1, 1) := by decide +kernel
theorem dX0_reachesRightSides_12 : decode cX0_reachesRightSides 12 = .ok (.ldc 59, 2) := by decide +kernel
theorem dX0_reachesRightSides_14 : decode cX0_reachesRightSides 14 = .ok (.if_icmp .ge 40, 3) := by decide +kernel
theorem dX0_reachesRightSides_17 : decode cX0_reachesRightSides 17 = .ok (.aload_n 0, 1) := by decide +kernel
theorem dX0_reachesRightSides_18 : decode cX0_reachesRightSides 18 = .ok (.invokevirtual 76, 3) := by decide +kernel
theorem dX0_reachesRightSides_21 : decode cX0_reachesRightSides 21 = .ok (.istore_n 2, 1) := by decide +kernel
theorem dX0_reachesRightSides_22 : decode cX0_reachesRightSides 22 = .ok (.iload_n 2, 1) := by decide +kernel
theorem dX0_reachesRightSides_23 : decode cX0_reachesRightSides 23 = .ok (.iconst (-1), 1) := by decide +kernel
theorem dX0_reachesRightSides_24 : decode cX0_reachesRightSides 24 = .ok (.if_icmp .ne 5, 3) := by decide +kernel
theorem dX0_reachesRightSides_27 : decode cX0_reachesRightSides 27 = .ok (.iconst 1, 1) := by decide +kernel
theorem dX0_reachesRightSides_28 : decode cX0_reachesRightSides 28 = .ok (.ireturn, 1) := by decide +kernel
theorem dX0_reachesRightSides_29 : decode cX0_reachesRightSides 29 = .ok (.aload_n 0, 1) := by decide +kernel
theorem dX0_reachesRightSides_30 : decode cX0_reachesRightSides 30 = .ok (.iload_n 2, 1) := by decide +kernel
theorem dX0_reachesRightSides_31 : decode cX0_reachesRightSides 31 = .ok (.invokevirtual 79, 3) := by decide +kernel
theorem dX0_reachesRightSides_34 : decode cX0_reachesRightSides 34 = .ok (.istore_n 3, 1) := by decide +kernel
theorem dX0_reachesRightSides_35 : decode cX0_reachesRightSides 35 = .ok (.iload_n 3, 1) := by decide +kernel
theorem dX0_reachesRightSides_36 : decode cX0_reachesRightSides 36 = .ok (.iconst (-1), 1) := by decide +kernel
theorem dX0_reachesRightSides_37 : decode cX0_reachesRightSides 37 = .ok (.if_icmp .ne 5, 3) := by decide +kernel
theorem dX0_reachesRightSides_40 : decode cX0_reachesRightSides 40 = .ok (.iconst 0, 1) := by decide +kernel
theorem dX0_reachesRightSides_41 : decode cX0_reachesRightSides 41 = .ok (.ireturn, 1) := by decide +kernel
theorem dX0_reachesRightSides_42 : decode cX0_reachesRightSides 42 = .ok (.aload_n 0, 1) := by decide +kernel
theorem dX0_reachesRightSides_43 : decode cX0_reachesRightSides 43 = .ok (.iload_n 2, 1) := by decide +kernel
theorem dX0_reachesRightSides_44 : decode cX0_reachesRightSides 44 = .ok (.iload_n 3, 1) := by decide +kernel
theorem dX0_reachesRightSides_45 : decode cX0_reachesRightSides 45 = .ok (.invokevirtual 68, 3) := by decide +kernel
theorem dX0_reachesRightSides_48 : decode cX0_reachesRightSides 48 = .ok (.iinc 1 1, 3) := by decide +kernel
theorem dX0_reachesRightSides_51 : decode cX0_reachesRightSides 51 = .ok (.goto (-40), 3) := by decide +kernel
theorem dX0_reachesRightSides_54 : decode cX0_reachesRightSides 54 = .ok (.iconst 0, 1) := by decide +kernel
theorem dX0_reachesRightSides_55 : decode cX0_reachesRightSides 55 = .ok (.ireturn, 1) := by decide +kernel
set_option maxRecDepth 20000 in
theorem ggX0_holdColumns_X0_firstColumnOf : GoodIn wsX0_holdColumns wsX0_firstColumnOf := goodIn_r _ [6, 7, 8, 42, 43, 44, 45, 46, 47, 48] (by decide +kernel) (by decide +kernel)
set_option maxRecDepth 20000 in
theorem gX0_holdColumns_X0_firstColumnOf : GoodIn wsX0_holdColumns (wsV RX0 82 RX0 yX0_firstColumnOf wsX0_firstColumnOf) := goodIn_app (goodIn_of _ (by decide +kernel)) ggX0_holdColumns_X0_firstColumnOf
set_option maxRecDepth 20000 in
theorem ggX0_holdColumns_X0_exchange : GoodIn wsX0_holdColumns wsX0_exchange := goodIn_r _ [12, 8, 1, 7, 13, 14, 15, 16, 5, 17, 18, 19, 20, 21, 22, 23, 24, 25, 26, 27, 28, 29, 30, 31, 32, 33, 34, 35, 36, 37, 38, 39, 40, 41, 42, 43, 44, 45, 46, 47, 48] (by decide +kernel) (by decide +kernel)
set_option maxRecDepth 20000 in
theorem gX0_holdColumns_X0_exchange : GoodIn wsX0_holdColumns (wsV RX0 68 RX0 yX0_exchange wsX0_exchange) := goodIn_app (goodIn_of _ (by decide +kernel)) ggX0_holdColumns_X0_exchange
theorem dX0_holdColumns_0 : decode cX0_holdColumns 0 = .ok (.iconst 0, 1) := by decide +kernel
theorem dX0_holdColumns_1 : decode cX0_holdColumns 1 = .ok (.istore_n 1, 1) := by decide +kernel
theorem dX0_holdColumns_2 : decode cX0_holdColumns 2 = .ok (.iload_n 1, 1) := by decide +kernel
theorem dX0_holdColumns_3 : decode cX0_holdColumns 3 = .ok (.aload_n 0, 1) := by decide +kernel
theorem dX0_holdColumns_4 : decode cX0_holdColumns 4 = .ok (.getfield 20, 3) := by decide +kernel
theorem dX0_holdColumns_7 : decode cX0_holdColumns 7 = .ok (.if_icmp .ge 26, 3) := by decide +kernel
theorem dX0_holdColumns_10 : decode cX0_holdColumns 10 = .ok (.aload_n 0, 1) := by decide +kernel
theorem dX0_holdColumns_11 : decode cX0_holdColumns 11 = .ok (.iload_n 1, 1) := by decide +kernel
theorem dX0_holdColumns_12 : decode cX0_holdColumns 12 = .ok (.invokevirtual 82, 3) := by decide +kernel
theorem dX0_holdColumns_15 : decode cX0_holdColumns 15 = .ok (.istore_n 2, 1) := by decide +kernel
theorem dX0_holdColumns_16 : decode cX0_holdColumns 16 = .ok (.iload_n 2, 1) := by decide +kernel
theorem dX0_holdColumns_17 : decode cX0_holdColumns 17 = .ok (.iconst (-1), 1) := by decide +kernel
theorem dX0_holdColumns_18 : decode cX0_holdColumns 18 = .ok (.if_icmp .eq 9, 3) := by decide +kernel
theorem dX0_holdColumns_21 : decode cX0_holdColumns 21 = .ok (.aload_n 0, 1) := by decide +kernel
theorem dX0_holdColumns_22 : decode cX0_holdColumns 22 = .ok (.iload_n 1, 1) := by decide +kernel
theorem dX0_holdColumns_23 : decode cX0_holdColumns 23 = .ok (.iload_n 2, 1) := by decide +kernel
theorem dX0_holdColumns_24 : decode cX0_holdColumns 24 = .ok (.invokevirtual 68, 3) := by decide +kernel
theorem dX0_holdColumns_27 : decode cX0_holdColumns 27 = .ok (.iinc 1 1, 3) := by decide +kernel
theorem dX0_holdColumns_30 : decode cX0_holdColumns 30 = .ok (.goto (-28), 3) := by decide +kernel
theorem dX0_holdColumns_33 : decode cX0_holdColumns 33 = .ok (.return_, 1) := by decide +kernel
theorem dX0_firstColumnOf_0 : decode cX0_firstColumnOf 0 = .ok (.iconst 0, 1) := by decide +kernel
theorem dX0_firstColumnOf_1 : decode cX0_firstColumnOf 1 = .ok (.istore_n 2, 1) := by decide +kernel
theorem dX0_firstColumnOf_2 : decode cX0_firstColumnOf 2 = .ok (.iload_n 2, 1) := by decide +kernel
theorem dX0_firstColumnOf_3 : decode cX0_firstColumnOf 3 = .ok (.aload_n 0, 1) := by decide +kernel
theorem dX0_firstColumnOf_4 : decode cX0_firstColumnOf 4 = .ok (.getfield 24, 3) := by decide +kernel
theorem dX0_firstColumnOf_7 : decode cX0_firstColumnOf 7 = .ok (.if_icmp .ge 24, 3) := by decide +kernel
theorem dX0_firstColumnOf_10 : decode cX0_firstColumnOf 10 = .ok (.aload_n 0, 1) := by decide +kernel
theorem dX0_firstColumnOf_11 : decode cX0_firstColumnOf 11 = .ok (.getfield 13, 3) := by decide +kernel
theorem dX0_firstColumnOf_14 : decode cX0_firstColumnOf 14 = .ok (.iload_n 1, 1) := by decide +kernel
theorem dX0_firstColumnOf_15 : decode cX0_firstColumnOf 15 = .ok (.aaload, 1) := by decide +kernel
theorem dX0_firstColumnOf_16 : decode cX0_firstColumnOf 16 = .ok (.iload_n 2, 1) := by decide +kernel
theorem dX0_firstColumnOf_17 : decode cX0_firstColumnOf 17 = .ok (.laload, 1) := by decide +kernel
theorem dX0_firstColumnOf_18 : decode cX0_firstColumnOf 18 = .ok (.lconst 0, 1) := by decide +kernel
theorem dX0_firstColumnOf_19 : decode cX0_firstColumnOf 19 = .ok (.lcmp, 1) := by decide +kernel
theorem dX0_firstColumnOf_20 : decode cX0_firstColumnOf 20 = .ok (.ifCond .eq 5, 3) := by decide +kernel
theorem dX0_firstColumnOf_23 : decode cX0_firstColumnOf 23 = .ok (.iload_n 2, 1) := by decide +kernel
theorem dX0_firstColumnOf_24 : decode cX0_firstColumnOf 24 = .ok (.ireturn, 1) := by decide +kernel
theorem dX0_firstColumnOf_25 : decode cX0_firstColumnOf 25 = .ok (.iinc 2 1, 3) := by decide +kernel
theorem dX0_firstColumnOf_28 : decode cX0_firstColumnOf 28 = .ok (.goto (-26), 3) := by decide +kernel
theorem dX0_firstColumnOf_31 : decode cX0_firstColumnOf 31 = .ok (.iconst (-1), 1) := by decide +kernel
theorem dX0_firstColumnOf_32 : decode cX0_firstColumnOf 32 = .ok (.ireturn, 1) := by decide +kernel
theorem dX0_hasBareContradiction_0 : decode cX0_hasBareContradiction 0 = .ok (.iconst 0, 1) := by decide +kernel
theorem dX0_hasBareContradiction_1 : decode cX0_hasBareContradiction 1 = .ok (.istore_n 1, 1) := by decide +kernel
theorem dX0_hasBareContradiction_2 : decode cX0_hasBareContradiction 2 = .ok (.iload_n 1, 1) := by decide +kernel
theorem dX0_hasBareContradiction_3 : decode cX0_hasBareContradiction 3 = .ok (.aload_n 0, 1) := by decide +kernel
theorem dX0_hasBareContradiction_4 : decode cX0_hasBareContradiction 4 = .ok (.getfield 20, 3) := by decide +kernel
theorem dX0_hasBareContradiction_7 : decode cX0_hasBareContradiction 7 = .ok (.if_icmp .ge 37, 3) := by decide +kernel
theorem dX0_hasBareContradiction_10 : decode cX0_hasBareContradiction 10 = .ok (.aload_n 0, 1) := by decide +kernel
theorem dX0_hasBareContradiction_11 : decode cX0_hasBareContradiction 11 = .ok (.getfield 16, 3) := by decide +kernel
theorem dX0_hasBareContradiction_14 : decode cX0_hasBareContradiction 14 = .ok (.iload_n 1, 1) := by decide +kernel
theorem dX0_hasBareContradiction_15 : decode cX0_hasBareContradiction 15 = .ok (.iaload, 1) := by decide +kernel
theorem dX0_hasBareContradiction_16 : decode cX0_hasBareContradiction 16 = .ok (.iconst (-1), 1) := by decide +kernel
theorem dX0_hasBareContradiction_17 : decode cX0_hasBareContradiction 17 = .ok (.if_icmp .ne 21, 3) := by decide +kernel
theorem dX0_hasBareContradiction_20 : decode cX0_hasBareContradiction 20 = .ok (.aload_n 0, 1) := by decide +kernel
theorem dX0_hasBareContradiction_21 : decode cX0_hasBareContradiction 21 = .ok (.getfield 13, 3) := by decide +kernel
theorem dX0_hasBareContradiction_24 : decode cX0_hasBareContradiction 24 = .ok (.iload_n 1, 1) := by decide +kernel
theorem dX0_hasBareContradiction_25 : decode cX0_hasBareContradiction 25 = .ok (.aaload, 1) := by decide +kernel
theorem dX0_hasBareContradiction_26 : decode cX0_hasBareContradiction 26 = .ok (.aload_n 0, 1) := by decide +kernel
theorem dX0_hasBareContradiction_27 : decode cX0_hasBareContradiction 27 = .ok (.getfield 24, 3) := by decide +kernel
theorem dX0_hasBareContradiction_30 : decode cX0_hasBareContradiction 30 = .ok (.laload, 1) := by decide +kernel
theorem dX0_hasBareContradiction_31 : decode cX0_hasBareContradiction 31 = .ok (.lconst 0, 1) := by decide +kernel
theorem dX0_hasBareContradiction_32 : decode cX0_hasBareContradiction 32 = .ok (.lcmp, 1) := by decide +kernel
theorem dX0_hasBareContradiction_33 : decode cX0_hasBareContradiction 33 = .ok (.ifCond .eq 5, 3) := by decide +kernel
theorem dX0_hasBareContradiction_36 : decode cX0_hasBareContradiction 36 = .ok (.iconst 1, 1) := by decide +kernel
theorem dX0_hasBareContradiction_37 : decode cX0_hasBareContradiction 37 = .ok (.ireturn, 1) := by decide +kernel
theorem dX0_hasBareContradiction_38 : decode cX0_hasBareContradiction 38 = .ok (.iinc 1 1, 3) := by decide +kernel
theorem dX0_hasBareContradiction_41 : decode cX0_hasBareContradiction 41 = .ok (.goto (-39), 3) := by decide +kernel
theorem dX0_hasBareContradiction_44 : decode cX0_hasBareContradiction 44 = .ok (.iconst 0, 1) := by decide +kernel
theorem dX0_hasBareContradiction_45 : decode cX0_hasBareContradiction 45 = .ok (.ireturn, 1) := by decide +kernel
theorem dX0_columnThatSaves_0 : decode cX0_columnThatSaves 0 = .ok (.iconst 0, 1) := by decide +kernel
theorem dX0_columnThatSaves_1 : decode cX0_columnThatSaves 1 = .ok (.istore_n 1, 1) := by decide +kernel
theorem dX0_columnThatSaves_2 : decode cX0_columnThatSaves 2 = .ok (.iload_n 1, 1) := by decide +kernel
theorem dX0_columnThatSaves_3 : decode cX0_columnThatSaves 3 = .ok (.aload_n 0, 1) := by decide +kernel
theorem dX0_columnThatSaves_4 : decode cX0_columnThatSaves 4 = .ok (.getfield 24, 3) := by decide +kernel
theorem dX0_columnThatSaves_7 : decode cX0_columnThatSaves 7 = .ok (.if_icmp .ge 27, 3) := by decide +kernel
theorem dX0_columnThatSaves_10 : decode cX0_columnThatSaves 10 = .ok (.aload_n 0, 1) := by decide +kernel
theorem dX0_columnThatSaves_11 : decode cX0_columnThatSaves 11 = .ok (.getfield 13, 3) := by decide +kernel
theorem dX0_columnThatSaves_14 : decode cX0_columnThatSaves 14 = .ok (.aload_n 0, 1) := by decide +kernel
theorem dX0_columnThatSaves_15 : decode cX0_columnThatSaves 15 = .ok (.getfield 20, 3) := by decide +kernel
theorem dX0_columnThatSaves_18 : decode cX0_columnThatSaves 18 = .ok (.aaload, 1) := by decide +kernel
theorem dX0_columnThatSaves_19 : decode cX0_columnThatSaves 19 = .ok (.iload_n 1, 1) := by decide +kernel
theorem dX0_columnThatSaves_20 : decode cX0_columnThatSaves 20 = .ok (.laload, 1) := by decide +kernel
theorem dX0_columnThatSaves_21 : decode cX0_columnThatSaves 21 = .ok (.lconst 0, 1) := by decide +kernel
theorem dX0_columnThatSaves_22 : decode cX0_columnThatSaves 22 = .ok (.lcmp, 1) := by decide +kernel
theorem dX0_columnThatSaves_23 : decode cX0_columnThatSaves 23 = .ok (.ifCond .ge 5, 3) := by decide +kernel
theorem dX0_columnThatSaves_26 : decode cX0_columnThatSaves 26 = .ok (.iload_n 1, 1) := by decide +kernel
theorem dX0_columnThatSaves_27 : decode cX0_columnThatSaves 27 = .ok (.ireturn, 1) := by decide +kernel
theorem dX0_columnThatSaves_28 : decode cX0_columnThatSaves 28 = .ok (.iinc 1 1, 3) := by decide +kernel
theorem dX0_columnThatSaves_31 : decode cX0_columnThatSaves 31 = .ok (.goto (-29), 3) := by decide +kernel
theorem dX0_columnThatSaves_34 : decode cX0_columnThatSaves 34 = .ok (.iconst (-1), 1) := by decide +kernel
theorem dX0_columnThatSaves_35 : decode cX0_columnThatSaves 35 = .ok (.ireturn, 1) := by decide +kernel
set_option maxRecDepth 20000 in
theorem ggX0_rowThatLimits_X0_holdsLess : GoodIn wsX0_rowThatLimits wsX0_holdsLess := goodIn_r _ [7, 8, 9, 10, 11, 12, 13, 14, 15] (by decide +kernel) (by decide +kernel)
set_option maxRecDepth 20000 in
theorem gX0_rowThatLimits_X0_holdsLess : GoodIn wsX0_rowThatLimits (wsV RX0 85 RX0 yX0_holdsLess wsX0_holdsLess) := goodIn_app (goodIn_of _ (by decide +kernel)) ggX0_rowThatLimits_X0_holdsLess
theorem dX0_rowThatLimits_0 : decode cX0_rowThatLimits 0 = .ok (.iconst (-1), 1) := by decide +kernel
theorem dX0_rowThatLimits_1 : decode cX0_rowThatLimits 1 = .ok (.istore_n 2, 1) := by decide +kernel
theorem dX0_rowThatLimits_2 : decode cX0_rowThatLimits 2 = .ok (.iconst 0, 1) := by decide +kernel
theorem dX0_rowThatLimits_3 : decode cX0_rowThatLimits 3 = .ok (.istore_n 3, 1) := by decide +kernel
theorem dX0_rowThatLimits_4 : decode cX0_rowThatLimits 4 = .ok (.iload_n 3, 1) := by decide +kernel
theorem dX0_rowThatLimits_5 : decode cX0_rowThatLimits 5 = .ok (.aload_n 0, 1) := by decide +kernel
theorem dX0_rowThatLimits_6 : decode cX0_rowThatLimits 6 = .ok (.getfield 20, 3) := by decide +kernel
theorem dX0_rowThatLimits_9 : decode cX0_rowThatLimits 9 = .ok (.if_icmp .ge 33, 3) := by decide +kernel
theorem dX0_rowThatLimits_12 : decode cX0_rowThatLimits 12 = .ok (.aload_n 0, 1) := by decide +kernel
theorem dX0_rowThatLimits_13 : decode cX0_rowThatLimits 13 = .ok (.getfield 13, 3) := by decide +kernel
theorem dX0_rowThatLimits_16 : decode cX0_rowThatLimits 16 = .ok (.iload_n 3, 1) := by decide +kernel
theorem dX0_rowThatLimits_17 : decode cX0_rowThatLimits 17 = .ok (.aaload, 1) := by decide +kernel
theorem dX0_rowThatLimits_18 : decode cX0_rowThatLimits 18 = .ok (.iload_n 1, 1) := by decide +kernel
theorem dX0_rowThatLimits_19 : decode cX0_rowThatLimits 19 = .ok (.laload, 1) := by decide +kernel
theorem dX0_rowThatLimits_20 : decode cX0_rowThatLimits 20 = .ok (.lconst 0, 1) := by decide +kernel
theorem dX0_rowThatLimits_21 : decode cX0_rowThatLimits 21 = .ok (.lcmp, 1) := by decide +kernel
theorem dX0_rowThatLimits_22 : decode cX0_rowThatLimits 22 = .ok (.ifCond .le 14, 3) := by decide +kernel
theorem dX0_rowThatLimits_25 : decode cX0_rowThatLimits 25 = .ok (.aload_n 0, 1) := by decide +kernel
theorem dX0_rowThatLimits_26 : decode cX0_rowThatLimits 26 = .ok (.iload_n 3, 1) := by decide +kernel
theorem dX0_rowThatLimits_27 : decode cX0_rowThatLimits 27 = .ok (.iload_n 2, 1) := by decide +kernel
theorem dX0_rowThatLimits_28 : decode cX0_rowThatLimits 28 = .ok (.invokevirtual 85, 3) := by decide +kernel
theorem dX0_rowThatLimits_31 : decode cX0_rowThatLimits 31 = .ok (.ifCond .eq 5, 3) := by decide +kernel
theorem dX0_rowThatLimits_34 : decode cX0_rowThatLimits 34 = .ok (.iload_n 3, 1) := by decide +kernel
theorem dX0_rowThatLimits_35 : decode cX0_rowThatLimits 35 = .ok (.istore_n 2, 1) := by decide +kernel
theorem dX0_rowThatLimits_36 : decode cX0_rowThatLimits 36 = .ok (.iinc 3 1, 3) := by decide +kernel
theorem dX0_rowThatLimits_39 : decode cX0_rowThatLimits 39 = .ok (.goto (-35), 3) := by decide +kernel
theorem dX0_rowThatLimits_42 : decode cX0_rowThatLimits 42 = .ok (.iload_n 2, 1) := by decide +kernel
theorem dX0_rowThatLimits_43 : decode cX0_rowThatLimits 43 = .ok (.ireturn, 1) := by decide +kernel
set_option maxRecDepth 20000 in
theorem ggX0_rowBelowZero_X0_holdsLess : GoodIn wsX0_rowBelowZero wsX0_holdsLess := goodIn_r _ [8, 9, 10, 11, 12, 13, 14, 15, 16] (by decide +kernel) (by decide +kernel)
set_option maxRecDepth 20000 in
theorem gX0_rowBelowZero_X0_holdsLess : GoodIn wsX0_rowBelowZero (wsV RX0 85 RX0 yX0_holdsLess wsX0_holdsLess) := goodIn_app (goodIn_of _ (by decide +kernel)) ggX0_rowBelowZero_X0_holdsLess
theorem dX0_rowBelowZero_0 : decode cX0_rowBelowZero 0 = .ok (.iconst (-1), 1) := by decide +kernel
theorem dX0_rowBelowZero_1 : decode cX0_rowBelowZero 1 = .ok (.istore_n 1, 1) := by decide +kernel
theorem dX0_rowBelowZero_2 : decode cX0_rowBelowZero 2 = .ok (.iconst 0, 1) := by decide +kernel
theorem dX0_rowBelowZero_3 : decode cX0_rowBelowZero 3 = .ok (.istore_n 2, 1) := by decide +kernel
theorem dX0_rowBelowZero_4 : decode cX0_rowBelowZero 4 = .ok (.iload_n 2, 1) := by decide +kernel
theorem dX0_rowBelowZero_5 : decode cX0_rowBelowZero 5 = .ok (.aload_n 0, 1) := by decide +kernel
theorem dX0_rowBelowZero_6 : decode cX0_rowBelowZero 6 = .ok (.getfield 20, 3) := by decide +kernel
theorem dX0_rowBelowZero_9 : decode cX0_rowBelowZero 9 = .ok (.if_icmp .ge 36, 3) := by decide +kernel
theorem dX0_rowBelowZero_12 : decode cX0_rowBelowZero 12 = .ok (.aload_n 0, 1) := by decide +kernel
theorem dX0_rowBelowZero_13 : decode cX0_rowBelowZero 13 = .ok (.getfield 13, 3) := by decide +kernel
theorem dX0_rowBelowZero_16 : decode cX0_rowBelowZero 16 = .ok (.iload_n 2, 1) := by decide +kernel
theorem dX0_rowBelowZero_17 : decode cX0_rowBelowZero 17 = .ok (.aaload, 1) := by decide +kernel
theorem dX0_rowBelowZero_18 : decode cX0_rowBelowZero 18 = .ok (.aload_n 0, 1) := by decide +kernel
theorem dX0_rowBelowZero_19 : decode cX0_rowBelowZero 19 = .ok (.getfield 24, 3) := by decide +kernel
theorem dX0_rowBelowZero_22 : decode cX0_rowBelowZero 22 = .ok (.laload, 1) := by decide +kernel
theorem dX0_rowBelowZero_23 : decode cX0_rowBelowZero 23 = .ok (.lconst 0, 1) := by decide +kernel
theorem dX0_rowBelowZero_24 : decode cX0_rowBelowZero 24 = .ok (.lcmp, 1) := by decide +kernel
theorem dX0_rowBelowZero_25 : decode cX0_rowBelowZero 25 = .ok (.ifCond .ge 14, 3) := by decide +kernel
theorem dX0_rowBelowZero_28 : decode cX0_rowBelowZero 28 = .ok (.aload_n 0, 1) := by decide +kernel
theorem dX0_rowBelowZero_29 : decode cX0_rowBelowZero 29 = .ok (.iload_n 2, 1) := by decide +kernel
theorem dX0_rowBelowZero_30 : decode cX0_rowBelowZero 30 = .ok (.iload_n 1, 1) := by decide +kernel
theorem dX0_rowBelowZero_31 : decode cX0_rowBelowZero 31 = .ok (.invokevirtual 85, 3) := by decide +kernel
theorem dX0_rowBelowZero_34 : decode cX0_rowBelowZero 34 = .ok (.ifCond .eq 5, 3) := by decide +kernel
theorem dX0_rowBelowZero_37 : decode cX0_rowBelowZero 37 = .ok (.iload_n 2, 1) := by decide +kernel
theorem dX0_rowBelowZero_38 : decode cX0_rowBelowZero 38 = .ok (.istore_n 1, 1) := by decide +kernel
theorem dX0_rowBelowZero_39 : decode cX0_rowBelowZero 39 = .ok (.iinc 2 1, 3) := by decide +kernel
theorem dX0_rowBelowZero_42 : decode cX0_rowBelowZero 42 = .ok (.goto (-38), 3) := by decide +kernel
theorem dX0_rowBelowZero_45 : decode cX0_rowBelowZero 45 = .ok (.iload_n 1, 1) := by decide +kernel
theorem dX0_rowBelowZero_46 : decode cX0_rowBelowZero 46 = .ok (.ireturn, 1) := by decide +kernel
theorem dX0_holdsLess_0 : decode cX0_holdsLess 0 = .ok (.aload_n 0, 1) := by decide +kernel
theorem dX0_holdsLess_1 : decode cX0_holdsLess 1 = .ok (.getfield 16, 3) := by decide +kernel
theorem dX0_holdsLess_4 : decode cX0_holdsLess 4 = .ok (.iload_n 1, 1) := by decide +kernel
theorem dX0_holdsLess_5 : decode cX0_holdsLess 5 = .ok (.iaload, 1) := by decide +kernel
theorem dX0_holdsLess_6 : decode cX0_holdsLess 6 = .ok (.iconst (-1), 1) := by decide +kernel
theorem dX0_holdsLess_7 : decode cX0_holdsLess 7 = .ok (.if_icmp .eq 27, 3) := by decide +kernel
theorem dX0_holdsLess_10 : decode cX0_holdsLess 10 = .ok (.iload_n 2, 1) := by decide +kernel
theorem dX0_holdsLess_11 : decode cX0_holdsLess 11 = .ok (.iconst (-1), 1) := by decide +kernel
theorem dX0_holdsLess_12 : decode cX0_holdsLess 12 = .ok (.if_icmp .eq 18, 3) := by decide +kernel
theorem dX0_holdsLess_15 : decode cX0_holdsLess 15 = .ok (.aload_n 0, 1) := by decide +kernel
theorem dX0_holdsLess_16 : decode cX0_holdsLess 16 = .ok (.getfield 16, 3) := by decide +kernel
theorem dX0_holdsLess_19 : decode cX0_holdsLess 19 = .ok (.iload_n 1, 1) := by decide +kernel
theorem dX0_holdsLess_20 : decode cX0_holdsLess 20 = .ok (.iaload, 1) := by decide +kernel
theorem dX0_holdsLess_21 : decode cX0_holdsLess 21 = .ok (.aload_n 0, 1) := by decide +kernel
theorem dX0_holdsLess_22 : decode cX0_holdsLess 22 = .ok (.getfield 16, 3) := by decide +kernel
theorem dX0_holdsLess_25 : decode cX0_holdsLess 25 = .ok (.iload_n 2, 1) := by decide +kernel
theorem dX0_holdsLess_26 : decode cX0_holdsLess 26 = .ok (.iaload, 1) := by decide +kernel
theorem dX0_holdsLess_27 : decode cX0_holdsLess 27 = .ok (.if_icmp .ge 7, 3) := by decide +kernel
theorem dX0_holdsLess_30 : decode cX0_holdsLess 30 = .ok (.iconst 1, 1) := by decide +kernel
theorem dX0_holdsLess_31 : decode cX0_holdsLess 31 = .ok (.goto 4, 3) := by decide +kernel
theorem dX0_holdsLess_34 : decode cX0_holdsLess 34 = .ok (.iconst 0, 1) := by decide +kernel
theorem dX0_holdsLess_35 : decode cX0_holdsLess 35 = .ok (.ireturn, 1) := by decide +kernel
set_option maxRecDepth 20000 in
theorem ggX0_columnThatLifts_X0_isCheaper : GoodIn wsX0_columnThatLifts wsX0_isCheaper := goodIn_r _ [7, 2, 8, 9, 10, 11, 12, 13, 14, 15] (by decide +kernel) (by decide +kernel)
set_option maxRecDepth 20000 in
theorem gX0_columnThatLifts_X0_isCheaper : GoodIn wsX0_columnThatLifts (wsV RX0 89 RX0 yX0_isCheaper wsX0_isCheaper) := goodIn_app (goodIn_of _ (by decide +kernel)) ggX0_columnThatLifts_X0_isCheaper
theorem dX0_columnThatLifts_0 : decode cX0_columnThatLifts 0 = .ok (.iconst (-1), 1) := by decide +kernel
theorem dX0_columnThatLifts_1 : decode cX0_columnThatLifts 1 = .ok (.istore_n 2, 1) := by decide +kernel
theorem dX0_columnThatLifts_2 : decode cX0_columnThatLifts 2 = .ok (.iconst 0, 1) := by decide +kernel
theorem dX0_columnThatLifts_3 : decode cX0_columnThatLifts 3 = .ok (.istore_n 3, 1) := by decide +kernel
theorem dX0_columnThatLifts_4 : decode cX0_columnThatLifts 4 = .ok (.iload_n 3, 1) := by decide +kernel
theorem dX0_columnThatLifts_5 : decode cX0_columnThatLifts 5 = .ok (.aload_n 0, 1) := by decide +kernel
theorem dX0_columnThatLifts_6 : decode cX0_columnThatLifts 6 = .ok (.getfield 24, 3) := by decide +kernel
theorem dX0_columnThatLifts_9 : decode cX0_columnThatLifts 9 = .ok (.if_icmp .ge 39, 3) := by decide +kernel
theorem dX0_columnThatLifts_12 : decode cX0_columnThatLifts 12 = .ok (.aload_n 0, 1) := by decide +kernel
theorem dX0_columnThatLifts_13 : decode cX0_columnThatLifts 13 = .ok (.getfield 13, 3) := by decide +kernel
theorem dX0_columnThatLifts_16 : decode cX0_columnThatLifts 16 = .ok (.iload_n 1, 1) := by decide +kernel
theorem dX0_columnThatLifts_17 : decode cX0_columnThatLifts 17 = .ok (.aaload, 1) := by decide +kernel
theorem dX0_columnThatLifts_18 : decode cX0_columnThatLifts 18 = .ok (.iload_n 3, 1) := by decide +kernel
theorem dX0_columnThatLifts_19 : decode cX0_columnThatLifts 19 = .ok (.laload, 1) := by decide +kernel
theorem dX0_columnThatLifts_20 : decode cX0_columnThatLifts 20 = .ok (.lconst 0, 1) := by decide +kernel
theorem dX0_columnThatLifts_21 : decode cX0_columnThatLifts 21 = .ok (.lcmp, 1) := by decide +kernel
theorem dX0_columnThatLifts_22 : decode cX0_columnThatLifts 22 = .ok (.ifCond .ge 20, 3) := by decide +kernel
theorem dX0_columnThatLifts_25 : decode cX0_columnThatLifts 25 = .ok (.iload_n 2, 1) := by decide +kernel
theorem dX0_columnThatLifts_26 : decode cX0_columnThatLifts 26 = .ok (.iconst (-1), 1) := by decide +kernel
theorem dX0_columnThatLifts_27 : decode cX0_columnThatLifts 27 = .ok (.if_icmp .eq 13, 3) := by decide +kernel
theorem dX0_columnThatLifts_30 : decode cX0_columnThatLifts 30 = .ok (.aload_n 0, 1) := by decide +kernel
theorem dX0_columnThatLifts_31 : decode cX0_columnThatLifts 31 = .ok (.iload_n 1, 1) := by decide +kernel
theorem dX0_columnThatLifts_32 : decode cX0_columnThatLifts 32 = .ok (.iload_n 3, 1) := by decide +kernel
theorem dX0_columnThatLifts_33 : decode cX0_columnThatLifts 33 = .ok (.iload_n 2, 1) := by decide +kernel
theorem dX0_columnThatLifts_34 : decode cX0_columnThatLifts 34 = .ok (.invokevirtual 89, 3) := by decide +kernel
theorem dX0_columnThatLifts_37 : decode cX0_columnThatLifts 37 = .ok (.ifCond .eq 5, 3) := by decide +kernel
theorem dX0_columnThatLifts_40 : decode cX0_columnThatLifts 40 = .ok (.iload_n 3, 1) := by decide +kernel
theorem dX0_columnThatLifts_41 : decode cX0_columnThatLifts 41 = .ok (.istore_n 2, 1) := by decide +kernel
theorem dX0_columnThatLifts_42 : decode cX0_columnThatLifts 42 = .ok (.iinc 3 1, 3) := by decide +kernel
theorem dX0_columnThatLifts_45 : decode cX0_columnThatLifts 45 = .ok (.goto (-41), 3) := by decide +kernel
theorem dX0_columnThatLifts_48 : decode cX0_columnThatLifts 48 = .ok (.iload_n 2, 1) := by decide +kernel
theorem dX0_columnThatLifts_49 : decode cX0_columnThatLifts 49 = .ok (.ireturn, 1) := by decide +kernel
theorem dX0_isCheaper_0 : decode cX0_isCheaper 0 = .ok (.aload_n 0, 1) := by decide +kernel
theorem dX0_isCheaper_1 : decode cX0_isCheaper 1 = .ok (.getfield 13, 3) := by decide +kernel
theorem dX0_isCheaper_4 : decode cX0_isCheaper 4 = .ok (.aload_n 0, 1) := by decide +kernel
theorem dX0_isCheaper_5 : decode cX0_isCheaper 5 = .ok (.getfield 20, 3) := by decide +kernel
theorem dX0_isCheaper_8 : decode cX0_isCheaper 8 = .ok (.aaload, 1) := by decide +kernel
theorem dX0_isCheaper_9 : decode cX0_isCheaper 9 = .ok (.astore 4, 2) := by decide +kernel
theorem dX0_isCheaper_11 : decode cX0_isCheaper 11 = .ok (.aload 4, 2) := by decide +kernel
theorem dX0_isCheaper_13 : decode cX0_isCheaper 13 = .ok (.iload_n 2, 1) := by decide +kernel
theorem dX0_isCheaper_14 : decode cX0_isCheaper 14 = .ok (.laload, 1) := by decide +kernel
theorem dX0_isCheaper_15 : decode cX0_isCheaper 15 = .ok (.aload_n 0, 1) := by decide +kernel
theorem dX0_isCheaper_16 : decode cX0_isCheaper 16 = .ok (.getfield 13, 3) := by decide +kernel
theorem dX0_isCheaper_19 : decode cX0_isCheaper 19 = .ok (.iload_n 1, 1) := by decide +kernel
theorem dX0_isCheaper_20 : decode cX0_isCheaper 20 = .ok (.aaload, 1) := by decide +kernel
theorem dX0_isCheaper_21 : decode cX0_isCheaper 21 = .ok (.iload_n 3, 1) := by decide +kernel
theorem dX0_isCheaper_22 : decode cX0_isCheaper 22 = .ok (.laload, 1) := by decide +kernel
theorem dX0_isCheaper_23 : decode cX0_isCheaper 23 = .ok (.lmul, 1) := by decide +kernel
theorem dX0_isCheaper_24 : decode cX0_isCheaper 24 = .ok (.aload 4, 2) := by decide +kernel
theorem dX0_isCheaper_26 : decode cX0_isCheaper 26 = .ok (.iload_n 3, 1) := by decide +kernel
theorem dX0_isCheaper_27 : decode cX0_isCheaper 27 = .ok (.laload, 1) := by decide +kernel
theorem dX0_isCheaper_28 : decode cX0_isCheaper 28 = .ok (.aload_n 0, 1) := by decide +kernel
theorem dX0_isCheaper_29 : decode cX0_isCheaper 29 = .ok (.getfield 13, 3) := by decide +kernel
theorem dX0_isCheaper_32 : decode cX0_isCheaper 32 = .ok (.iload_n 1, 1) := by decide +kernel
theorem dX0_isCheaper_33 : decode cX0_isCheaper 33 = .ok (.aaload, 1) := by decide +kernel
theorem dX0_isCheaper_34 : decode cX0_isCheaper 34 = .ok (.iload_n 2, 1) := by decide +kernel
theorem dX0_isCheaper_35 : decode cX0_isCheaper 35 = .ok (.laload, 1) := by decide +kernel
theorem dX0_isCheaper_36 : decode cX0_isCheaper 36 = .ok (.lmul, 1) := by decide +kernel
theorem dX0_isCheaper_37 : decode cX0_isCheaper 37 = .ok (.lcmp, 1) := by decide +kernel
theorem dX0_isCheaper_38 : decode cX0_isCheaper 38 = .ok (.ifCond .le 7, 3) := by decide +kernel
theorem dX0_isCheaper_41 : decode cX0_isCheaper 41 = .ok (.iconst 1, 1) := by decide +kernel
theorem dX0_isCheaper_42 : decode cX0_isCheaper 42 = .ok (.goto 4, 3) := by decide +kernel
theorem dX0_isCheaper_45 : decode cX0_isCheaper 45 = .ok (.iconst 0, 1) := by decide +kernel
theorem dX0_isCheaper_46 : decode cX0_isCheaper 46 = .ok (.ireturn, 1) := by decide +kernel
set_option maxRecDepth 20000 in
theorem ggX0_exchange_X0_negate : GoodIn wsX0_exchange wsX0_negate := goodIn_r _ [9, 3, 1, 34, 35, 36, 37, 38, 39, 40] (by decide +kernel) (by decide +kernel)
set_option maxRecDepth 20000 in
theorem gX0_exchange_X0_negate : GoodIn wsX0_exchange (wsV RX0 93 RX0 yX0_negate wsX0_negate) := goodIn_app (goodIn_of _ (by decide +kernel)) ggX0_exchange_X0_negate
set_option maxRecDepth 20000 in
theorem ggX0_exchange_X0_differenceByUnit : GoodIn wsX0_exchange wsX0_differenceByUnit := goodIn_r _ [13, 14, 15, 16, 17, 18, 8, 19, 20, 34, 35, 36, 37, 38, 39, 40] (by decide +kernel) (by decide +kernel)
set_option maxRecDepth 20000 in
theorem gX0_exchange_X0_differenceByUnit : GoodIn wsX0_exchange (wsV RX0 97 RX0 yX0_differenceByUnit wsX0_differenceByUnit) := goodIn_app (goodIn_of _ (by decide +kernel)) ggX0_exchange_X0_differenceByUnit
set_option maxRecDepth 20000 in
theorem ggX0_exchange_X0_takeUnit : GoodIn wsX0_exchange wsX0_takeUnit := goodIn_r _ [24, 25, 15, 26, 16, 27, 28, 29, 30, 31, 32, 33, 34, 35, 36, 37, 38, 39, 40] (by decide +kernel) (by decide +kernel)
set_option maxRecDepth 20000 in
theorem gX0_exchange_X0_takeUnit : GoodIn wsX0_exchange (wsV RX0 52 RX0 yX0_takeUnit wsX0_takeUnit) := goodIn_app (goodIn_of _ (by decide +kernel)) ggX0_exchange_X0_takeUnit
theorem dX0_exchange_0 : decode cX0_exchange 0 = .ok (.aload_n 0, 1) := by decide +kernel
theorem dX0_exchange_1 : decode cX0_exchange 1 = .ok (.getfield 13, 3) := by decide +kernel
theorem dX0_exchange_4 : decode cX0_exchange 4 = .ok (.iload_n 1, 1) := by decide +kernel
theorem dX0_exchange_5 : decode cX0_exchange 5 = .ok (.aaload, 1) := by decide +kernel
theorem dX0_exchange_6 : decode cX0_exchange 6 = .ok (.iload_n 2, 1) := by decide +kernel
theorem dX0_exchange_7 : decode cX0_exchange 7 = .ok (.laload, 1) := by decide +kernel
theorem dX0_exchange_8 : decode cX0_exchange 8 = .ok (.lconst 0, 1) := by decide +kernel
theorem dX0_exchange_9 : decode cX0_exchange 9 = .ok (.lcmp, 1) := by decide +kernel
theorem dX0_exchange_10 : decode cX0_exchange 10 = .ok (.ifCond .ge 8, 3) := by decide +kernel
theorem dX0_exchange_13 : decode cX0_exchange 13 = .ok (.aload_n 0, 1) := by decide +kernel
theorem dX0_exchange_14 : decode cX0_exchange 14 = .ok (.iload_n 1, 1) := by decide +kernel
theorem dX0_exchange_15 : decode cX0_exchange 15 = .ok (.invokevirtual 93, 3) := by decide +kernel
theorem dX0_exchange_18 : decode cX0_exchange 18 = .ok (.aload_n 0, 1) := by decide +kernel
theorem dX0_exchange_19 : decode cX0_exchange 19 = .ok (.getfield 13, 3) := by decide +kernel
theorem dX0_exchange_22 : decode cX0_exchange 22 = .ok (.iload_n 1, 1) := by decide +kernel
theorem dX0_exchange_23 : decode cX0_exchange 23 = .ok (.aaload, 1) := by decide +kernel
theorem dX0_exchange_24 : decode cX0_exchange 24 = .ok (.astore_n 3, 1) := by decide +kernel
theorem dX0_exchange_25 : decode cX0_exchange 25 = .ok (.iconst 0, 1) := by decide +kernel
theorem dX0_exchange_26 : decode cX0_exchange 26 = .ok (.istore 4, 2) := by decide +kernel
theorem dX0_exchange_28 : decode cX0_exchange 28 = .ok (.iload 4, 2) := by decide +kernel
theorem dX0_exchange_30 : decode cX0_exchange 30 = .ok (.aload_n 0, 1) := by decide +kernel
theorem dX0_exchange_31 : decode cX0_exchange 31 = .ok (.getfield 20, 3) := by decide +kernel
theorem dX0_exchange_34 : decode cX0_exchange 34 = .ok (.if_icmp .gt 71, 3) := by decide +kernel
theorem dX0_exchange_37 : decode cX0_exchange 37 = .ok (.iload 4, 2) := by decide +kernel
theorem dX0_exchange_39 : decode cX0_exchange 39 = .ok (.iload_n 1, 1) := by decide +kernel
theorem dX0_exchange_40 : decode cX0_exchange 40 = .ok (.if_icmp .eq 59, 3) := by decide +kernel
theorem dX0_exchange_43 : decode cX0_exchange 43 = .ok (.aload_n 0, 1) := by decide +kernel
theorem dX0_exchange_44 : decode cX0_exchange 44 = .ok (.getfield 13, 3) := by decide +kernel
theorem dX0_exchange_47 : decode cX0_exchange 47 = .ok (.iload 4, 2) := by decide +kernel
theorem dX0_exchange_49 : decode cX0_exchange 49 = .ok (.aaload, 1) := by decide +kernel
theorem dX0_exchange_50 : decode cX0_exchange 50 = .ok (.astore 5, 2) := by decide +kernel
theorem dX0_exchange_52 : decode cX0_exchange 52 = .ok (.aload 5, 2) := by decide +kernel
theorem dX0_exchange_54 : decode cX0_exchange 54 = .ok (.iload_n 2, 1) := by decide +kernel
theorem dX0_exchange_55 : decode cX0_exchange 55 = .ok (.laload, 1) := by decide +kernel
theorem dX0_exchange_56 : decode cX0_exchange 56 = .ok (.lstore 6, 2) := by decide +kernel
theorem dX0_exchange_58 : decode cX0_exchange 58 = .ok (.iconst 0, 1) := by decide +kernel
theorem dX0_exchange_59 : decode cX0_exchange 59 = .ok (.istore 8, 2) := by decide +kernel
theorem dX0_exchange_61 : decode cX0_exchange 61 = .ok (.iload 8, 2) := by decide +kernel
theorem dX0_exchange_63 : decode cX0_exchange 63 = .ok (.aload_n 0, 1) := by decide +kernel
theorem dX0_exchange_64 : decode cX0_exchange 64 = .ok (.getfield 24, 3) := by decide +kernel
theorem dX0_exchange_67 : decode cX0_exchange 67 = .ok (.if_icmp .gt 32, 3) := by decide +kernel
theorem dX0_exchange_70 : decode cX0_exchange 70 = .ok (.aload 5, 2) := by decide +kernel
theorem dX0_exchange_72 : decode cX0_exchange 72 = .ok (.iload 8, 2) := by decide +kernel
theorem dX0_exchange_74 : decode cX0_exchange 74 = .ok (.aload_n 0, 1) := by decide +kernel
theorem dX0_exchange_75 : decode cX0_exchange 75 = .ok (.aload_n 3, 1) := by decide +kernel
theorem dX0_exchange_76 : decode cX0_exchange 76 = .ok (.iload_n 2, 1) := by decide +kernel
theorem dX0_exchange_77 : decode cX0_exchange 77 = .ok (.laload, 1) := by decide +kernel
theorem dX0_exchange_78 : decode cX0_exchange 78 = .ok (.aload 5, 2) := by decide +kernel
theorem dX0_exchange_80 : decode cX0_exchange 80 = .ok (.iload 8, 2) := by decide +kernel
theorem dX0_exchange_82 : decode cX0_exchange 82 = .ok (.laload, 1) := by decide +kernel
theorem dX0_exchange_83 : decode cX0_exchange 83 = .ok (.lload 6, 2) := by decide +kernel
theorem dX0_exchange_85 : decode cX0_exchange 85 = .ok (.aload_n 3, 1) := by decide +kernel
theorem dX0_exchange_86 : decode cX0_exchange 86 = .ok (.iload 8, 2) := by decide +kernel
theorem dX0_exchange_88 : decode cX0_exchange 88 = .ok (.laload, 1) := by decide +kernel
theorem dX0_exchange_89 : decode cX0_exchange 89 = .ok (.invokevirtual 97, 3) := by decide +kernel
theorem dX0_exchange_92 : decode cX0_exchange 92 = .ok (.lastore, 1) := by decide +kernel
theorem dX0_exchange_93 : decode cX0_exchange 93 = .ok (.iinc 8 1, 3) := by decide +kernel
theorem dX0_exchange_96 : decode cX0_exchange 96 = .ok (.goto (-35), 3) := by decide +kernel
theorem dX0_exchange_99 : decode cX0_exchange 99 = .ok (.iinc 4 1, 3) := by decide +kernel
theorem dX0_exchange_102 : decode cX0_exchange 102 = .ok (.goto (-74), 3) := by decide +kernel
theorem dX0_exchange_105 : decode cX0_exchange 105 = .ok (.aload_n 0, 1) := by decide +kernel
theorem dX0_exchange_106 : decode cX0_exchange 106 = .ok (.getfield 16, 3) := by decide +kernel
theorem dX0_exchange_109 : decode cX0_exchange 109 = .ok (.iload_n 1, 1) := by decide +kernel
theorem dX0_exchange_110 : decode cX0_exchange 110 = .ok (.iload_n 2, 1) := by decide +kernel
theorem dX0_exchange_111 : decode cX0_exchange 111 = .ok (.iastore, 1) := by decide +kernel
theorem dX0_exchange_112 : decode cX0_exchange 112 = .ok (.aload_n 0, 1) := by decide +kernel
theorem dX0_exchange_113 : decode cX0_exchange 113 = .ok (.aload_n 3, 1) := by decide +kernel
theorem dX0_exchange_114 : decode cX0_exchange 114 = .ok (.iload_n 2, 1) := by decide +kernel
theorem dX0_exchange_115 : decode cX0_exchange 115 = .ok (.laload, 1) := by decide +kernel
theorem dX0_exchange_116 : decode cX0_exchange 116 = .ok (.invokevirtual 52, 3) := by decide +kernel
theorem dX0_exchange_119 : decode cX0_exchange 119 = .ok (.return_, 1) := by decide +kernel
theorem dX0_negate_0 : decode cX0_negate 0 = .ok (.iconst 0, 1) := by decide +kernel
theorem dX0_negate_1 : decode cX0_negate 1 = .ok (.istore_n 2, 1) := by decide +kernel
theorem dX0_negate_2 : decode cX0_negate 2 = .ok (.iload_n 2, 1) := by decide +kernel
theorem dX0_negate_3 : decode cX0_negate 3 = .ok (.aload_n 0, 1) := by decide +kernel
theorem dX0_negate_4 : decode cX0_negate 4 = .ok (.getfield 24, 3) := by decide +kernel
theorem dX0_negate_7 : decode cX0_negate 7 = .ok (.if_icmp .gt 26, 3) := by decide +kernel
theorem dX0_negate_10 : decode cX0_negate 10 = .ok (.aload_n 0, 1) := by decide +kernel
theorem dX0_negate_11 : decode cX0_negate 11 = .ok (.getfield 13, 3) := by decide +kernel
theorem dX0_negate_14 : decode cX0_negate 14 = .ok (.iload_n 1, 1) := by decide +kernel
theorem dX0_negate_15 : decode cX0_negate 15 = .ok (.aaload, 1) := by decide +kernel
theorem dX0_negate_16 : decode cX0_negate 16 = .ok (.iload_n 2, 1) := by decide +kernel
theorem dX0_negate_17 : decode cX0_negate 17 = .ok (.aload_n 0, 1) := by decide +kernel
theorem dX0_negate_18 : decode cX0_negate 18 = .ok (.getfield 13, 3) := by decide +kernel
theorem dX0_negate_21 : decode cX0_negate 21 = .ok (.iload_n 1, 1) := by decide +kernel
theorem dX0_negate_22 : decode cX0_negate 22 = .ok (.aaload, 1) := by decide +kernel
theorem dX0_negate_23 : decode cX0_negate 23 = .ok (.iload_n 2, 1) := by decide +kernel
theorem dX0_negate_24 : decode cX0_negate 24 = .ok (.laload, 1) := by decide +kernel
theorem dX0_negate_25 : decode cX0_negate 25 = .ok (.lneg, 1) := by decide +kernel
theorem dX0_negate_26 : decode cX0_negate 26 = .ok (.lastore, 1) := by decide +kernel
theorem dX0_negate_27 : decode cX0_negate 27 = .ok (.iinc 2 1, 3) := by decide +kernel
theorem dX0_negate_30 : decode cX0_negate 30 = .ok (.goto (-28), 3) := by decide +kernel
theorem dX0_negate_33 : decode cX0_negate 33 = .ok (.return_, 1) := by decide +kernel
set_option maxRecDepth 20000 in
theorem ggX0_takeUnit_J13_bitCount_95d88 : GoodIn wsX0_takeUnit wsJ13_bitCount_95d88 := goodIn_r _ [8, 9, 10, 11] (by decide +kernel) (by decide +kernel)
set_option maxRecDepth 20000 in
theorem gX0_takeUnit_J13_bitCount_95d88 : GoodIn wsX0_takeUnit (va_wsS RX0 101 yJ13_bitCount_95d88 wsJ13_bitCount_95d88) := goodIn_app (goodIn_of _ (by decide +kernel)) ggX0_takeUnit_J13_bitCount_95d88
theorem dX0_takeUnit_0 : decode cX0_takeUnit 0 = .ok (.aload_n 0, 1) := by decide +kernel
theorem dX0_takeUnit_1 : decode cX0_takeUnit 1 = .ok (.lload_n 1, 1) := by decide +kernel
theorem dX0_takeUnit_2 : decode cX0_takeUnit 2 = .ok (.putfield 27, 3) := by decide +kernel
theorem dX0_takeUnit_5 : decode cX0_takeUnit 5 = .ok (.aload_n 0, 1) := by decide +kernel
theorem dX0_takeUnit_6 : decode cX0_takeUnit 6 = .ok (.lload_n 1, 1) := by decide +kernel
theorem dX0_takeUnit_7 : decode cX0_takeUnit 7 = .ok (.lload_n 1, 1) := by decide +kernel
theorem dX0_takeUnit_8 : decode cX0_takeUnit 8 = .ok (.lneg, 1) := by decide +kernel
theorem dX0_takeUnit_9 : decode cX0_takeUnit 9 = .ok (.land, 1) := by decide +kernel
theorem dX0_takeUnit_10 : decode cX0_takeUnit 10 = .ok (.lconst 1, 1) := by decide +kernel
theorem dX0_takeUnit_11 : decode cX0_takeUnit 11 = .ok (.lsub, 1) := by decide +kernel
theorem dX0_takeUnit_12 : decode cX0_takeUnit 12 = .ok (.invokestatic 101, 3) := by decide +kernel
theorem dX0_takeUnit_15 : decode cX0_takeUnit 15 = .ok (.putfield 31, 3) := by decide +kernel
theorem dX0_takeUnit_18 : decode cX0_takeUnit 18 = .ok (.lload_n 1, 1) := by decide +kernel
theorem dX0_takeUnit_19 : decode cX0_takeUnit 19 = .ok (.aload_n 0, 1) := by decide +kernel
theorem dX0_takeUnit_20 : decode cX0_takeUnit 20 = .ok (.getfield 31, 3) := by decide +kernel
theorem dX0_takeUnit_23 : decode cX0_takeUnit 23 = .ok (.lshr, 1) := by decide +kernel
theorem dX0_takeUnit_24 : decode cX0_takeUnit 24 = .ok (.lstore_n 3, 1) := by decide +kernel
theorem dX0_takeUnit_25 : decode cX0_takeUnit 25 = .ok (.lload_n 3, 1) := by decide +kernel
theorem dX0_takeUnit_26 : decode cX0_takeUnit 26 = .ok (.lstore 5, 2) := by decide +kernel
theorem dX0_takeUnit_28 : decode cX0_takeUnit 28 = .ok (.iconst 0, 1) := by decide +kernel
theorem dX0_takeUnit_29 : decode cX0_takeUnit 29 = .ok (.istore 7, 2) := by decide +kernel
theorem dX0_takeUnit_31 : decode cX0_takeUnit 31 = .ok (.iload 7, 2) := by decide +kernel
theorem dX0_takeUnit_33 : decode cX0_takeUnit 33 = .ok (.iconst 5, 1) := by decide +kernel
theorem dX0_takeUnit_34 : decode cX0_takeUnit 34 = .ok (.if_icmp .ge 22, 3) := by decide +kernel
theorem dX0_takeUnit_37 : decode cX0_takeUnit 37 = .ok (.lload 5, 2) := by decide +kernel
theorem dX0_takeUnit_39 : decode cX0_takeUnit 39 = .ok (.ldc2_w 107, 3) := by decide +kernel
theorem dX0_takeUnit_42 : decode cX0_takeUnit 42 = .ok (.lload_n 3, 1) := by decide +kernel
theorem dX0_takeUnit_43 : decode cX0_takeUnit 43 = .ok (.lload 5, 2) := by decide +kernel
theorem dX0_takeUnit_45 : decode cX0_takeUnit 45 = .ok (.lmul, 1) := by decide +kernel
theorem dX0_takeUnit_46 : decode cX0_takeUnit 46 = .ok (.lsub, 1) := by decide +kernel
theorem dX0_takeUnit_47 : decode cX0_takeUnit 47 = .ok (.lmul, 1) := by decide +kernel
theorem dX0_takeUnit_48 : decode cX0_takeUnit 48 = .ok (.lstore 5, 2) := by decide +kernel
theorem dX0_takeUnit_50 : decode cX0_takeUnit 50 = .ok (.iinc 7 1, 3) := by decide +kernel
theorem dX0_takeUnit_53 : decode cX0_takeUnit 53 = .ok (.goto (-22), 3) := by decide +kernel
theorem dX0_takeUnit_56 : decode cX0_takeUnit 56 = .ok (.aload_n 0, 1) := by decide +kernel
theorem dX0_takeUnit_57 : decode cX0_takeUnit 57 = .ok (.lload 5, 2) := by decide +kernel
theorem dX0_takeUnit_59 : decode cX0_takeUnit 59 = .ok (.putfield 34, 3) := by decide +kernel
theorem dX0_takeUnit_62 : decode cX0_takeUnit 62 = .ok (.return_, 1) := by decide +kernel
set_option maxRecDepth 20000 in
theorem ggX0_differenceByUnit_X0_highProduct : GoodIn wsX0_differenceByUnit wsX0_highProduct := goodIn_r _ [7, 8] (by decide +kernel) (by decide +kernel)
set_option maxRecDepth 20000 in
theorem gX0_differenceByUnit_X0_highProduct : GoodIn wsX0_differenceByUnit (va_wsS RX0 109 yX0_highProduct wsX0_highProduct) := goodIn_app (goodIn_of _ (by decide +kernel)) ggX0_differenceByUnit_X0_highProduct
theorem dX0_differenceByUnit_0 : decode cX0_differenceByUnit 0 = .ok (.lload_n 1, 1) := by decide +kernel
theorem dX0_differenceByUnit_1 : decode cX0_differenceByUnit 1 = .ok (.lload_n 3, 1) := by decide +kernel
theorem dX0_differenceByUnit_2 : decode cX0_differenceByUnit 2 = .ok (.lmul, 1) := by decide +kernel
theorem dX0_differenceByUnit_3 : decode cX0_differenceByUnit 3 = .ok (.lstore 9, 2) := by decide +kernel
theorem dX0_differenceByUnit_5 : decode cX0_differenceByUnit 5 = .ok (.lload 5, 2) := by decide +kernel
theorem dX0_differenceByUnit_7 : decode cX0_differenceByUnit 7 = .ok (.lload 7, 2) := by decide +kernel
theorem dX0_differenceByUnit_9 : decode cX0_differenceByUnit 9 = .ok (.lmul, 1) := by decide +kernel
theorem dX0_differenceByUnit_10 : decode cX0_differenceByUnit 10 = .ok (.lstore 11, 2) := by decide +kernel
theorem dX0_differenceByUnit_12 : decode cX0_differenceByUnit 12 = .ok (.lload 9, 2) := by decide +kernel
theorem dX0_differenceByUnit_14 : decode cX0_differenceByUnit 14 = .ok (.lload 11, 2) := by decide +kernel
theorem dX0_differenceByUnit_16 : decode cX0_differenceByUnit 16 = .ok (.lsub, 1) := by decide +kernel
theorem dX0_differenceByUnit_17 : decode cX0_differenceByUnit 17 = .ok (.lstore 13, 2) := by decide +kernel
theorem dX0_differenceByUnit_19 : decode cX0_differenceByUnit 19 = .ok (.lload_n 1, 1) := by decide +kernel
theorem dX0_differenceByUnit_20 : decode cX0_differenceByUnit 20 = .ok (.lload_n 3, 1) := by decide +kernel
theorem dX0_differenceByUnit_21 : decode cX0_differenceByUnit 21 = .ok (.invokestatic 109, 3) := by decide +kernel
theorem dX0_differenceByUnit_24 : decode cX0_differenceByUnit 24 = .ok (.lload 5, 2) := by decide +kernel
theorem dX0_differenceByUnit_26 : decode cX0_differenceByUnit 26 = .ok (.lload 7, 2) := by decide +kernel
theorem dX0_differenceByUnit_28 : decode cX0_differenceByUnit 28 = .ok (.invokestatic 109, 3) := by decide +kernel
theorem dX0_differenceByUnit_31 : decode cX0_differenceByUnit 31 = .ok (.lsub, 1) := by decide +kernel
theorem dX0_differenceByUnit_32 : decode cX0_differenceByUnit 32 = .ok (.lstore 15, 2) := by decide +kernel
theorem dX0_differenceByUnit_34 : decode cX0_differenceByUnit 34 = .ok (.lload 9, 2) := by decide +kernel
theorem dX0_differenceByUnit_36 : decode cX0_differenceByUnit 36 = .ok (.ldc2_w 113, 3) := by decide +kernel
theorem dX0_differenceByUnit_39 : decode cX0_differenceByUnit 39 = .ok (.ladd, 1) := by decide +kernel
theorem dX0_differenceByUnit_40 : decode cX0_differenceByUnit 40 = .ok (.lload 11, 2) := by decide +kernel
theorem dX0_differenceByUnit_42 : decode cX0_differenceByUnit 42 = .ok (.ldc2_w 113, 3) := by decide +kernel
theorem dX0_differenceByUnit_45 : decode cX0_differenceByUnit 45 = .ok (.ladd, 1) := by decide +kernel
theorem dX0_differenceByUnit_46 : decode cX0_differenceByUnit 46 = .ok (.lcmp, 1) := by decide +kernel
theorem dX0_differenceByUnit_47 : decode cX0_differenceByUnit 47 = .ok (.ifCond .ge 9, 3) := by decide +kernel
theorem dX0_differenceByUnit_50 : decode cX0_differenceByUnit 50 = .ok (.lload 15, 2) := by decide +kernel
theorem dX0_differenceByUnit_52 : decode cX0_differenceByUnit 52 = .ok (.lconst 1, 1) := by decide +kernel
theorem dX0_differenceByUnit_53 : decode cX0_differenceByUnit 53 = .ok (.lsub, 1) := by decide +kernel
theorem dX0_differenceByUnit_54 : decode cX0_differenceByUnit 54 = .ok (.lstore 15, 2) := by decide +kernel
theorem dX0_differenceByUnit_56 : decode cX0_differenceByUnit 56 = .ok (.lload 13, 2) := by decide +kernel
theorem dX0_differenceByUnit_58 : decode cX0_differenceByUnit 58 = .ok (.aload_n 0, 1) := by decide +kernel
theorem dX0_differenceByUnit_59 : decode cX0_differenceByUnit 59 = .ok (.getfield 31, 3) := by decide +kernel
theorem dX0_differenceByUnit_62 : decode cX0_differenceByUnit 62 = .ok (.lushr, 1) := by decide +kernel
theorem dX0_differenceByUnit_63 : decode cX0_differenceByUnit 63 = .ok (.lload 15, 2) := by decide +kernel
theorem dX0_differenceByUnit_65 : decode cX0_differenceByUnit 65 = .ok (.iconst 1, 1) := by decide +kernel
theorem dX0_differenceByUnit_66 : decode cX0_differenceByUnit 66 = .ok (.lshl, 1) := by decide +kernel
theorem dX0_differenceByUnit_67 : decode cX0_differenceByUnit 67 = .ok (.bipush 63, 2) := by decide +kernel
theorem dX0_differenceByUnit_69 : decode cX0_differenceByUnit 69 = .ok (.aload_n 0, 1) := by decide +kernel
theorem dX0_differenceByUnit_70 : decode cX0_differenceByUnit 70 = .ok (.getfield 31, 3) := by decide +kernel
theorem dX0_differenceByUnit_73 : decode cX0_differenceByUnit 73 = .ok (.isub, 1) := by decide +kernel
theorem dX0_differenceByUnit_74 : decode cX0_differenceByUnit 74 = .ok (.lshl, 1) := by decide +kernel
theorem dX0_differenceByUnit_75 : decode cX0_differenceByUnit 75 = .ok (.lor, 1) := by decide +kernel
theorem dX0_differenceByUnit_76 : decode cX0_differenceByUnit 76 = .ok (.lstore 17, 2) := by decide +kernel
theorem dX0_differenceByUnit_78 : decode cX0_differenceByUnit 78 = .ok (.lload 17, 2) := by decide +kernel
theorem dX0_differenceByUnit_80 : decode cX0_differenceByUnit 80 = .ok (.aload_n 0, 1) := by decide +kernel
theorem dX0_differenceByUnit_81 : decode cX0_differenceByUnit 81 = .ok (.getfield 34, 3) := by decide +kernel
theorem dX0_differenceByUnit_84 : decode cX0_differenceByUnit 84 = .ok (.lmul, 1) := by decide +kernel
theorem dX0_differenceByUnit_85 : decode cX0_differenceByUnit 85 = .ok (.lreturn, 1) := by decide +kernel
theorem dX0_highProduct_0 : decode cX0_highProduct 0 = .ok (.lload_n 0, 1) := by decide +kernel
theorem dX0_highProduct_1 : decode cX0_highProduct 1 = .ok (.bipush 32, 2) := by decide +kernel
theorem dX0_highProduct_3 : decode cX0_highProduct 3 = .ok (.lshr, 1) := by decide +kernel
theorem dX0_highProduct_4 : decode cX0_highProduct 4 = .ok (.lstore 4, 2) := by decide +kernel
theorem dX0_highProduct_6 : decode cX0_highProduct 6 = .ok (.lload_n 0, 1) := by decide +kernel
theorem dX0_highProduct_7 : decode cX0_highProduct 7 = .ok (.ldc2_w 115, 3) := by decide +kernel
theorem dX0_highProduct_10 : decode cX0_highProduct 10 = .ok (.land, 1) := by decide +kernel
theorem dX0_highProduct_11 : decode cX0_highProduct 11 = .ok (.lstore 6, 2) := by decide +kernel
theorem dX0_highProduct_13 : decode cX0_highProduct 13 = .ok (.lload_n 2, 1) := by decide +kernel
theorem dX0_highProduct_14 : decode cX0_highProduct 14 = .ok (.bipush 32, 2) := by decide +kernel
theorem dX0_highProduct_16 : decode cX0_highProduct 16 = .ok (.lshr, 1) := by decide +kernel
theorem dX0_highProduct_17 : decode cX0_highProduct 17 = .ok (.lstore 8, 2) := by decide +kernel
theorem dX0_highProduct_19 : decode cX0_highProduct 19 = .ok (.lload_n 2, 1) := by decide +kernel
theorem dX0_highProduct_20 : decode cX0_highProduct 20 = .ok (.ldc2_w 115, 3) := by decide +kernel
theorem dX0_highProduct_23 : decode cX0_highProduct 23 = .ok (.land, 1) := by decide +kernel
theorem dX0_highProduct_24 : decode cX0_highProduct 24 = .ok (.lstore 10, 2) := by decide +kernel
theorem dX0_highProduct_26 : decode cX0_highProduct 26 = .ok (.lload 4, 2) := by decide +kernel
theorem dX0_highProduct_28 : decode cX0_highProduct 28 = .ok (.lload 10, 2) := by decide +kernel
theorem dX0_highProduct_30 : decode cX0_highProduct 30 = .ok (.lmul, 1) := by decide +kernel
theorem dX0_highProduct_31 : decode cX0_highProduct 31 = .ok (.lload 6, 2) := by decide +kernel
theorem dX0_highProduct_33 : decode cX0_highProduct 33 = .ok (.lload 10, 2) := by decide +kernel
theorem dX0_highProduct_35 : decode cX0_highProduct 35 = .ok (.lmul, 1) := by decide +kernel
theorem dX0_highProduct_36 : decode cX0_highProduct 36 = .ok (.bipush 32, 2) := by decide +kernel
theorem dX0_highProduct_38 : decode cX0_highProduct 38 = .ok (.lushr, 1) := by decide +kernel
theorem dX0_highProduct_39 : decode cX0_highProduct 39 = .ok (.ladd, 1) := by decide +kernel
theorem dX0_highProduct_40 : decode cX0_highProduct 40 = .ok (.lstore 12, 2) := by decide +kernel
theorem dX0_highProduct_42 : decode cX0_highProduct 42 = .ok (.lload 6, 2) := by decide +kernel
theorem dX0_highProduct_44 : decode cX0_highProduct 44 = .ok (.lload 8, 2) := by decide +kernel
theorem dX0_highProduct_46 : decode cX0_highProduct 46 = .ok (.lmul, 1) := by decide +kernel
theorem dX0_highProduct_47 : decode cX0_highProduct 47 = .ok (.lload 12, 2) := by decide +kernel
theorem dX0_highProduct_49 : decode cX0_highProduct 49 = .ok (.ldc2_w 115, 3) := by decide +kernel
theorem dX0_highProduct_52 : decode cX0_highProduct 52 = .ok (.land, 1) := by decide +kernel
theorem dX0_highProduct_53 : decode cX0_highProduct 53 = .ok (.ladd, 1) := by decide +kernel
theorem dX0_highProduct_54 : decode cX0_highProduct 54 = .ok (.lstore 14, 2) := by decide +kernel
theorem dX0_highProduct_56 : decode cX0_highProduct 56 = .ok (.lload 4, 2) := by decide +kernel
theorem dX0_highProduct_58 : decode cX0_highProduct 58 = .ok (.lload 8, 2) := by decide +kernel
theorem dX0_highProduct_60 : decode cX0_highProduct 60 = .ok (.lmul, 1) := by decide +kernel
theorem dX0_highProduct_61 : decode cX0_highProduct 61 = .ok (.lload 12, 2) := by decide +kernel
theorem dX0_highProduct_63 : decode cX0_highProduct 63 = .ok (.bipush 32, 2) := by decide +kernel
theorem dX0_highProduct_65 : decode cX0_highProduct 65 = .ok (.lshr, 1) := by decide +kernel
theorem dX0_highProduct_66 : decode cX0_highProduct 66 = .ok (.ladd, 1) := by decide +kernel
theorem dX0_highProduct_67 : decode cX0_highProduct 67 = .ok (.lload 14, 2) := by decide +kernel
theorem dX0_highProduct_69 : decode cX0_highProduct 69 = .ok (.bipush 32, 2) := by decide +kernel
theorem dX0_highProduct_71 : decode cX0_highProduct 71 = .ok (.lshr, 1) := by decide +kernel
theorem dX0_highProduct_72 : decode cX0_highProduct 72 = .ok (.ladd, 1) := by decide +kernel
theorem dX0_highProduct_73 : decode cX0_highProduct 73 = .ok (.lreturn, 1) := by decide +kernel
set_option maxRecDepth 20000 in
theorem ggX1_init_X0_init : GoodIn wsX1_init wsX0_init := goodIn_r _ [18, 19, 2, 3, 20, 21, 22, 5, 23, 24, 25, 26, 27, 28, 36, 37, 38, 39, 40, 41, 42] (by decide +kernel) (by decide +kernel)
set_option maxRecDepth 20000 in
theorem gX1_init_X0_init : GoodIn wsX1_init (wsX0_init) := ggX1_init_X0_init
