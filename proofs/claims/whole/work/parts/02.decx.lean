theorem dX0_init_0 : decode cX0_init 0 = .ok (.aload_n 0, 1) := by decide +kernel
theorem dX0_init_1 : decode cX0_init 1 = .ok (.invokespecial 3, 3) := by decide +kernel
theorem dX0_init_4 : decode cX0_init 4 = .ok (.aload_n 0, 1) := by decide +kernel
theorem dX0_init_5 : decode cX0_init 5 = .ok (.iconst 5, 1) := by decide +kernel
theorem dX0_init_6 : decode cX0_init 6 = .ok (.newarray .int, 2) := by decide +kernel
theorem dX0_init_8 : decode cX0_init 8 = .ok (.putfield 9, 3) := by decide +kernel
theorem dX0_init_11 : decode cX0_init 11 = .ok (.aload_n 0, 1) := by decide +kernel
theorem dX0_init_12 : decode cX0_init 12 = .ok (.iconst 5, 1) := by decide +kernel
theorem dX0_init_13 : decode cX0_init 13 = .ok (.newarray .int, 2) := by decide +kernel
theorem dX0_init_15 : decode cX0_init 15 = .ok (.putfield 15, 3) := by decide +kernel
theorem dX0_init_18 : decode cX0_init 18 = .ok (.aload_n 0, 1) := by decide +kernel
theorem dX0_init_19 : decode cX0_init 19 = .ok (.bipush 6, 2) := by decide +kernel
theorem dX0_init_21 : decode cX0_init 21 = .ok (.newarray .int, 2) := by decide +kernel
theorem dX0_init_23 : decode cX0_init 23 = .ok (.putfield 18, 3) := by decide +kernel
theorem dX0_init_26 : decode cX0_init 26 = .ok (.return_, 1) := by decide +kernel
set_option maxRecDepth 20000 in
theorem ggX0_findBest_X7_put : GoodIn wsX0_findBest wsX7_put := goodIn_r _ [7] (by decide +kernel) (by decide +kernel)
set_option maxRecDepth 20000 in
theorem gX0_findBest_X7_put_n36 : GoodIn wsX0_findBest (wsX7_put) := ggX0_findBest_X7_put
set_option maxRecDepth 20000 in
theorem ggX0_findBest_X7_at : GoodIn wsX0_findBest wsX7_at := goodIn_r _ [9] (by decide +kernel) (by decide +kernel)
set_option maxRecDepth 20000 in
theorem gX0_findBest_X7_at_n40 : GoodIn wsX0_findBest (wsX7_at) := ggX0_findBest_X7_at
set_option maxRecDepth 20000 in
theorem ggX0_findBest_X0_reachOf : GoodIn wsX0_findBest wsX0_reachOf := goodIn_r _ [13, 3, 14, 15, 16, 17, 18, 19, 20, 21, 6, 22, 23, 24, 25, 26, 27, 28, 29, 30, 31, 32, 33, 34, 35, 36, 37, 8, 9, 38, 39, 40, 41, 42, 43, 44, 45, 46, 47, 48, 49, 50, 51, 52, 53, 54, 55, 56, 57, 58, 59, 60, 61, 62, 63, 82, 83, 84, 85, 86, 87, 88, 89, 90, 91, 92, 93, 94, 95, 96, 97] (by decide +kernel) (by decide +kernel)
set_option maxRecDepth 20000 in
theorem gX0_findBest_X0_reachOf : GoodIn wsX0_findBest (va_wsS RX0 44 yX0_reachOf wsX0_reachOf) := goodIn_app (goodIn_of _ (by decide +kernel)) ggX0_findBest_X0_reachOf
set_option maxRecDepth 20000 in
theorem ggX0_findBest_X0_choose : GoodIn wsX0_findBest wsX0_choose := goodIn_r _ [66, 2, 1, 3, 4, 67, 68, 14, 8, 6, 9, 69, 70, 71, 72, 73, 74, 75, 76, 77, 15, 16, 17, 18, 19, 20, 21, 22, 5, 7, 23, 24, 25, 26, 27, 28, 29, 30, 31, 32, 33, 34, 35, 36, 37, 38, 39, 40, 41, 42, 43, 44, 45, 46, 47, 48, 49, 50, 51, 52, 53, 54, 55, 56, 57, 58, 59, 60, 61, 62, 63, 64, 65, 12, 78, 79, 80, 81, 82, 83, 84, 85, 86, 87, 88, 89, 90, 91, 92, 93, 94, 95, 96, 97] (by decide +kernel) (by decide +kernel)
set_option maxRecDepth 20000 in
theorem gX0_findBest_X0_choose : GoodIn wsX0_findBest (va_wsS RX0 48 yX0_choose wsX0_choose) := goodIn_app (goodIn_of _ (by decide +kernel)) ggX0_findBest_X0_choose
theorem dX0_findBest_0 : decode cX0_findBest 0 = .ok (.aload_n 0, 1) := by decide +kernel
theorem dX0_findBest_1 : decode cX0_findBest 1 = .ok (.iconst (-1), 1) := by decide +kernel
theorem dX0_findBest_2 : decode cX0_findBest 2 = .ok (.putfield 21, 3) := by decide +kernel
theorem dX0_findBest_5 : decode cX0_findBest 5 = .ok (.aload_n 0, 1) := by decide +kernel
theorem dX0_findBest_6 : decode cX0_findBest 6 = .ok (.getfield 18, 3) := by decide +kernel
theorem dX0_findBest_9 : decode cX0_findBest 9 = .ok (.aload_n 1, 1) := by decide +kernel
theorem dX0_findBest_10 : decode cX0_findBest 10 = .ok (.getfield 25, 3) := by decide +kernel
theorem dX0_findBest_13 : decode cX0_findBest 13 = .ok (.getfield 31, 3) := by decide +kernel
theorem dX0_findBest_16 : decode cX0_findBest 16 = .ok (.iconst 0, 1) := by decide +kernel
theorem dX0_findBest_17 : decode cX0_findBest 17 = .ok (.invokestatic 36, 3) := by decide +kernel
theorem dX0_findBest_20 : decode cX0_findBest 20 = .ok (.aload_n 1, 1) := by decide +kernel
theorem dX0_findBest_21 : decode cX0_findBest 21 = .ok (.getfield 25, 3) := by decide +kernel
theorem dX0_findBest_24 : decode cX0_findBest 24 = .ok (.getfield 31, 3) := by decide +kernel
theorem dX0_findBest_27 : decode cX0_findBest 27 = .ok (.iconst 1, 1) := by decide +kernel
theorem dX0_findBest_28 : decode cX0_findBest 28 = .ok (.isub, 1) := by decide +kernel
theorem dX0_findBest_29 : decode cX0_findBest 29 = .ok (.istore_n 2, 1) := by decide +kernel
theorem dX0_findBest_30 : decode cX0_findBest 30 = .ok (.iload_n 2, 1) := by decide +kernel
theorem dX0_findBest_31 : decode cX0_findBest 31 = .ok (.ifCond .lt 33, 3) := by decide +kernel
theorem dX0_findBest_34 : decode cX0_findBest 34 = .ok (.aload_n 0, 1) := by decide +kernel
theorem dX0_findBest_35 : decode cX0_findBest 35 = .ok (.getfield 18, 3) := by decide +kernel
theorem dX0_findBest_38 : decode cX0_findBest 38 = .ok (.iload_n 2, 1) := by decide +kernel
theorem dX0_findBest_39 : decode cX0_findBest 39 = .ok (.aload_n 0, 1) := by decide +kernel
theorem dX0_findBest_40 : decode cX0_findBest 40 = .ok (.getfield 18, 3) := by decide +kernel
theorem dX0_findBest_43 : decode cX0_findBest 43 = .ok (.iload_n 2, 1) := by decide +kernel
theorem dX0_findBest_44 : decode cX0_findBest 44 = .ok (.iconst 1, 1) := by decide +kernel
theorem dX0_findBest_45 : decode cX0_findBest 45 = .ok (.iadd, 1) := by decide +kernel
theorem dX0_findBest_46 : decode cX0_findBest 46 = .ok (.invokestatic 40, 3) := by decide +kernel
theorem dX0_findBest_49 : decode cX0_findBest 49 = .ok (.aload_n 1, 1) := by decide +kernel
theorem dX0_findBest_50 : decode cX0_findBest 50 = .ok (.iload_n 2, 1) := by decide +kernel
theorem dX0_findBest_51 : decode cX0_findBest 51 = .ok (.invokestatic 44, 3) := by decide +kernel
theorem dX0_findBest_54 : decode cX0_findBest 54 = .ok (.ior, 1) := by decide +kernel
theorem dX0_findBest_55 : decode cX0_findBest 55 = .ok (.invokestatic 36, 3) := by decide +kernel
theorem dX0_findBest_58 : decode cX0_findBest 58 = .ok (.iinc 2 (-1), 3) := by decide +kernel
theorem dX0_findBest_61 : decode cX0_findBest 61 = .ok (.goto (-31), 3) := by decide +kernel
theorem dX0_findBest_64 : decode cX0_findBest 64 = .ok (.aload_n 0, 1) := by decide +kernel
theorem dX0_findBest_65 : decode cX0_findBest 65 = .ok (.aload_n 1, 1) := by decide +kernel
theorem dX0_findBest_66 : decode cX0_findBest 66 = .ok (.iconst 0, 1) := by decide +kernel
theorem dX0_findBest_67 : decode cX0_findBest 67 = .ok (.iconst 0, 1) := by decide +kernel
theorem dX0_findBest_68 : decode cX0_findBest 68 = .ok (.iconst 0, 1) := by decide +kernel
theorem dX0_findBest_69 : decode cX0_findBest 69 = .ok (.invokestatic 48, 3) := by decide +kernel
theorem dX0_findBest_72 : decode cX0_findBest 72 = .ok (.return_, 1) := by decide +kernel
set_option maxRecDepth 20000 in
theorem ggX0_bestOf_X7_at : GoodIn wsX0_bestOf wsX7_at := goodIn_r _ [4] (by decide +kernel) (by decide +kernel)
set_option maxRecDepth 20000 in
theorem gX0_bestOf_X7_at_n40 : GoodIn wsX0_bestOf (wsX7_at) := ggX0_bestOf_X7_at
theorem dX0_bestOf_0 : decode cX0_bestOf 0 = .ok (.aload_n 0, 1) := by decide +kernel
theorem dX0_bestOf_1 : decode cX0_bestOf 1 = .ok (.getfield 15, 3) := by decide +kernel
theorem dX0_bestOf_4 : decode cX0_bestOf 4 = .ok (.iload_n 1, 1) := by decide +kernel
theorem dX0_bestOf_5 : decode cX0_bestOf 5 = .ok (.invokestatic 40, 3) := by decide +kernel
theorem dX0_bestOf_8 : decode cX0_bestOf 8 = .ok (.ireturn, 1) := by decide +kernel
set_option maxRecDepth 20000 in
theorem ggX0_reachOf_X1_isStill : GoodIn wsX0_reachOf wsX1_isStill := goodIn_r _ [7, 8, 9, 10, 11, 55, 56, 57, 58, 59, 60, 61, 62, 63] (by decide +kernel) (by decide +kernel)
set_option maxRecDepth 20000 in
theorem gX0_reachOf_X1_isStill : GoodIn wsX0_reachOf (wsV RX0 52 RX1 yX1_isStill wsX1_isStill) := goodIn_app (goodIn_of _ (by decide +kernel)) ggX0_reachOf_X1_isStill
set_option maxRecDepth 20000 in
theorem ggX0_reachOf_X1_worksOf : GoodIn wsX0_reachOf wsX1_worksOf := goodIn_r _ [15, 16, 17, 18, 19, 20, 6, 21, 22, 23, 24, 25, 26, 27, 10, 28, 29, 30, 31, 32, 33, 34, 35, 36, 37, 38, 39, 40, 41, 42, 43, 44, 45, 46, 47, 48, 49, 50, 51, 52, 53, 54, 9, 11, 55, 56, 57, 58, 59, 60, 61, 62, 63, 64, 65, 66, 67, 68, 69, 70] (by decide +kernel) (by decide +kernel)
set_option maxRecDepth 20000 in
theorem gX0_reachOf_X1_worksOf : GoodIn wsX0_reachOf (wsV RX0 56 RX1 yX1_worksOf wsX1_worksOf) := goodIn_app (goodIn_of _ (by decide +kernel)) ggX0_reachOf_X1_worksOf
theorem dX0_reachOf_0 : decode cX0_reachOf 0 = .ok (.aload_n 0, 1) := by decide +kernel
theorem dX0_reachOf_1 : decode cX0_reachOf 1 = .ok (.iload_n 1, 1) := by decide +kernel
theorem dX0_reachOf_2 : decode cX0_reachOf 2 = .ok (.invokevirtual 52, 3) := by decide +kernel
theorem dX0_reachOf_5 : decode cX0_reachOf 5 = .ok (.ifCond .eq 5, 3) := by decide +kernel
theorem dX0_reachOf_8 : decode cX0_reachOf 8 = .ok (.iconst 0, 1) := by decide +kernel
theorem dX0_reachOf_9 : decode cX0_reachOf 9 = .ok (.ireturn, 1) := by decide +kernel
theorem dX0_reachOf_10 : decode cX0_reachOf 10 = .ok (.aload_n 0, 1) := by decide +kernel
theorem dX0_reachOf_11 : decode cX0_reachOf 11 = .ok (.iload_n 1, 1) := by decide +kernel
theorem dX0_reachOf_12 : decode cX0_reachOf 12 = .ok (.bipush (-4), 2) := by decide +kernel
theorem dX0_reachOf_14 : decode cX0_reachOf 14 = .ok (.invokevirtual 56, 3) := by decide +kernel
theorem dX0_reachOf_17 : decode cX0_reachOf 17 = .ok (.istore_n 2, 1) := by decide +kernel
theorem dX0_reachOf_18 : decode cX0_reachOf 18 = .ok (.iconst 0, 1) := by decide +kernel
theorem dX0_reachOf_19 : decode cX0_reachOf 19 = .ok (.istore_n 3, 1) := by decide +kernel
theorem dX0_reachOf_20 : decode cX0_reachOf 20 = .ok (.iload_n 3, 1) := by decide +kernel
theorem dX0_reachOf_21 : decode cX0_reachOf 21 = .ok (.aload_n 0, 1) := by decide +kernel
theorem dX0_reachOf_22 : decode cX0_reachOf 22 = .ok (.getfield 25, 3) := by decide +kernel
theorem dX0_reachOf_25 : decode cX0_reachOf 25 = .ok (.getfield 60, 3) := by decide +kernel
theorem dX0_reachOf_28 : decode cX0_reachOf 28 = .ok (.if_icmp .ge 18, 3) := by decide +kernel
theorem dX0_reachOf_31 : decode cX0_reachOf 31 = .ok (.iload_n 2, 1) := by decide +kernel
theorem dX0_reachOf_32 : decode cX0_reachOf 32 = .ok (.aload_n 0, 1) := by decide +kernel
theorem dX0_reachOf_33 : decode cX0_reachOf 33 = .ok (.iload_n 1, 1) := by decide +kernel
theorem dX0_reachOf_34 : decode cX0_reachOf 34 = .ok (.iload_n 3, 1) := by decide +kernel
theorem dX0_reachOf_35 : decode cX0_reachOf 35 = .ok (.invokevirtual 56, 3) := by decide +kernel
theorem dX0_reachOf_38 : decode cX0_reachOf 38 = .ok (.ior, 1) := by decide +kernel
theorem dX0_reachOf_39 : decode cX0_reachOf 39 = .ok (.istore_n 2, 1) := by decide +kernel
theorem dX0_reachOf_40 : decode cX0_reachOf 40 = .ok (.iinc 3 1, 3) := by decide +kernel
theorem dX0_reachOf_43 : decode cX0_reachOf 43 = .ok (.goto (-23), 3) := by decide +kernel
theorem dX0_reachOf_46 : decode cX0_reachOf 46 = .ok (.iload_n 2, 1) := by decide +kernel
theorem dX0_reachOf_47 : decode cX0_reachOf 47 = .ok (.ireturn, 1) := by decide +kernel
set_option maxRecDepth 20000 in
theorem ggX0_choose_X7_at : GoodIn wsX0_choose wsX7_at := goodIn_r _ [10] (by decide +kernel) (by decide +kernel)
set_option maxRecDepth 20000 in
theorem gX0_choose_X7_at_n40 : GoodIn wsX0_choose (wsX7_at) := ggX0_choose_X7_at
set_option maxRecDepth 20000 in
theorem ggX0_choose_J6_bitCount_0f7a4 : GoodIn wsX0_choose wsJ6_bitCount_0f7a4 := goodIn_r _ [14, 15, 16, 17] (by decide +kernel) (by decide +kernel)
set_option maxRecDepth 20000 in
theorem gX0_choose_J6_bitCount_0f7a4 : GoodIn wsX0_choose (va_wsS RX0 63 yJ6_bitCount_0f7a4 wsJ6_bitCount_0f7a4) := goodIn_app (goodIn_of _ (by decide +kernel)) ggX0_choose_J6_bitCount_0f7a4
set_option maxRecDepth 20000 in
theorem ggX0_choose_X7_copyRow : GoodIn wsX0_choose wsX7_copyRow := goodIn_r _ [19] (by decide +kernel) (by decide +kernel)
set_option maxRecDepth 20000 in
theorem gX0_choose_X7_copyRow_n69 : GoodIn wsX0_choose (wsX7_copyRow) := ggX0_choose_X7_copyRow
set_option maxRecDepth 20000 in
theorem ggX0_choose_X1_isStill : GoodIn wsX0_choose wsX1_isStill := goodIn_r _ [24, 25, 26, 9, 27, 78, 79, 80, 81, 82, 83, 84, 85, 86] (by decide +kernel) (by decide +kernel)
set_option maxRecDepth 20000 in
theorem gX0_choose_X1_isStill : GoodIn wsX0_choose (wsV RX0 52 RX1 yX1_isStill wsX1_isStill) := goodIn_app (goodIn_of _ (by decide +kernel)) ggX0_choose_X1_isStill
set_option maxRecDepth 20000 in
theorem ggX0_choose_X7_hasBit : GoodIn wsX0_choose wsX7_hasBit := goodIn_r _ [27] (by decide +kernel) (by decide +kernel)
set_option maxRecDepth 20000 in
theorem gX0_choose_X7_hasBit_n73 : GoodIn wsX0_choose (wsX7_hasBit) := ggX0_choose_X7_hasBit
set_option maxRecDepth 20000 in
theorem ggX0_choose_X7_put : GoodIn wsX0_choose wsX7_put := goodIn_r _ [29] (by decide +kernel) (by decide +kernel)
set_option maxRecDepth 20000 in
theorem gX0_choose_X7_put_n36 : GoodIn wsX0_choose (wsX7_put) := ggX0_choose_X7_put
set_option maxRecDepth 20000 in
theorem ggX0_choose_X1_worksOf : GoodIn wsX0_choose wsX1_worksOf := goodIn_r _ [33, 34, 35, 36, 37, 38, 23, 39, 40, 41, 42, 43, 44, 8, 9, 10, 45, 46, 47, 48, 49, 50, 51, 52, 53, 54, 55, 56, 57, 58, 59, 60, 61, 62, 63, 64, 65, 66, 67, 68, 69, 70, 26, 27, 78, 79, 80, 81, 82, 83, 84, 85, 86, 87, 88, 89, 90, 91, 92, 93] (by decide +kernel) (by decide +kernel)
set_option maxRecDepth 20000 in
theorem gX0_choose_X1_worksOf : GoodIn wsX0_choose (wsV RX0 56 RX1 yX1_worksOf wsX1_worksOf) := goodIn_app (goodIn_of _ (by decide +kernel)) ggX0_choose_X1_worksOf
set_option maxRecDepth 20000 in
theorem ggX0_choose_X0_choose : GoodIn wsX0_choose wsX0_choose := goodIn_r _ [0, 1, 2, 3, 4, 5, 6, 7, 8, 9, 10, 11, 12, 13, 14, 15, 16, 17, 18, 19, 20, 21, 22, 23, 24, 25, 26, 27, 28, 29, 30, 31, 32, 33, 34, 35, 36, 37, 38, 39, 40, 41, 42, 43, 44, 45, 46, 47, 48, 49, 50, 51, 52, 53, 54, 55, 56, 57, 58, 59, 60, 61, 62, 63, 64, 65, 66, 67, 68, 69, 70, 71, 72, 73, 74, 75, 76, 77, 78, 79, 80, 81, 82, 83, 84, 85, 86, 87, 88, 89, 90, 91, 92, 93] (by decide +kernel) (by decide +kernel)
set_option maxRecDepth 20000 in
theorem gX0_choose_X0_choose : GoodIn wsX0_choose (va_wsS RX0 48 yX0_choose wsX0_choose) := goodIn_app (goodIn_of _ (by decide +kernel)) ggX0_choose_X0_choose
theorem dX0_choose_0 : decode cX0_choose 0 = .ok (.iload 4, 2) := by decide +kernel
theorem dX0_choose_2 : decode cX0_choose 2 = .ok (.aload_n 0, 1) := by decide +kernel
theorem dX0_choose_3 : decode cX0_choose 3 = .ok (.getfield 18, 3) := by decide +kernel
theorem dX0_choose_6 : decode cX0_choose 6 = .ok (.iload_n 2, 1) := by decide +kernel
theorem dX0_choose_7 : decode cX0_choose 7 = .ok (.invokestatic 40, 3) := by decide +kernel
theorem dX0_choose_10 : decode cX0_choose 10 = .ok (.ior, 1) := by decide +kernel
theorem dX0_choose_11 : decode cX0_choose 11 = .ok (.invokestatic 63, 3) := by decide +kernel
theorem dX0_choose_14 : decode cX0_choose 14 = .ok (.aload_n 0, 1) := by decide +kernel
theorem dX0_choose_15 : decode cX0_choose 15 = .ok (.getfield 21, 3) := by decide +kernel
theorem dX0_choose_18 : decode cX0_choose 18 = .ok (.if_icmp .gt 4, 3) := by decide +kernel
theorem dX0_choose_21 : decode cX0_choose 21 = .ok (.return_, 1) := by decide +kernel
theorem dX0_choose_22 : decode cX0_choose 22 = .ok (.iload_n 2, 1) := by decide +kernel
theorem dX0_choose_23 : decode cX0_choose 23 = .ok (.aload_n 1, 1) := by decide +kernel
theorem dX0_choose_24 : decode cX0_choose 24 = .ok (.getfield 25, 3) := by decide +kernel
theorem dX0_choose_27 : decode cX0_choose 27 = .ok (.getfield 31, 3) := by decide +kernel
theorem dX0_choose_30 : decode cX0_choose 30 = .ok (.if_icmp .ge 8, 3) := by decide +kernel
theorem dX0_choose_33 : decode cX0_choose 33 = .ok (.iload_n 2, 1) := by decide +kernel
theorem dX0_choose_34 : decode cX0_choose 34 = .ok (.iconst 5, 1) := by decide +kernel
theorem dX0_choose_35 : decode cX0_choose 35 = .ok (.if_icmp .lt 24, 3) := by decide +kernel
theorem dX0_choose_38 : decode cX0_choose 38 = .ok (.aload_n 0, 1) := by decide +kernel
theorem dX0_choose_39 : decode cX0_choose 39 = .ok (.iload 4, 2) := by decide +kernel
theorem dX0_choose_41 : decode cX0_choose 41 = .ok (.invokestatic 63, 3) := by decide +kernel
theorem dX0_choose_44 : decode cX0_choose 44 = .ok (.putfield 21, 3) := by decide +kernel
theorem dX0_choose_47 : decode cX0_choose 47 = .ok (.aload_n 0, 1) := by decide +kernel
theorem dX0_choose_48 : decode cX0_choose 48 = .ok (.getfield 9, 3) := by decide +kernel
theorem dX0_choose_51 : decode cX0_choose 51 = .ok (.aload_n 0, 1) := by decide +kernel
theorem dX0_choose_52 : decode cX0_choose 52 = .ok (.getfield 15, 3) := by decide +kernel
theorem dX0_choose_55 : decode cX0_choose 55 = .ok (.invokestatic 69, 3) := by decide +kernel
theorem dX0_choose_58 : decode cX0_choose 58 = .ok (.return_, 1) := by decide +kernel
theorem dX0_choose_59 : decode cX0_choose 59 = .ok (.iconst 0, 1) := by decide +kernel
theorem dX0_choose_60 : decode cX0_choose 60 = .ok (.istore 5, 2) := by decide +kernel
theorem dX0_choose_62 : decode cX0_choose 62 = .ok (.iload 5, 2) := by decide +kernel
theorem dX0_choose_64 : decode cX0_choose 64 = .ok (.aload_n 1, 1) := by decide +kernel
theorem dX0_choose_65 : decode cX0_choose 65 = .ok (.getfield 25, 3) := by decide +kernel
theorem dX0_choose_68 : decode cX0_choose 68 = .ok (.getfield 60, 3) := by decide +kernel
theorem dX0_choose_71 : decode cX0_choose 71 = .ok (.if_icmp .ge 60, 3) := by decide +kernel
theorem dX0_choose_74 : decode cX0_choose 74 = .ok (.aload_n 1, 1) := by decide +kernel
theorem dX0_choose_75 : decode cX0_choose 75 = .ok (.iload_n 2, 1) := by decide +kernel
theorem dX0_choose_76 : decode cX0_choose 76 = .ok (.invokevirtual 52, 3) := by decide +kernel
theorem dX0_choose_79 : decode cX0_choose 79 = .ok (.ifCond .ne 52, 3) := by decide +kernel
theorem dX0_choose_82 : decode cX0_choose 82 = .ok (.iload_n 3, 1) := by decide +kernel
theorem dX0_choose_83 : decode cX0_choose 83 = .ok (.iload 5, 2) := by decide +kernel
theorem dX0_choose_85 : decode cX0_choose 85 = .ok (.invokestatic 73, 3) := by decide +kernel
theorem dX0_choose_88 : decode cX0_choose 88 = .ok (.ifCond .ne 37, 3) := by decide +kernel
theorem dX0_choose_91 : decode cX0_choose 91 = .ok (.aload_n 0, 1) := by decide +kernel
theorem dX0_choose_92 : decode cX0_choose 92 = .ok (.getfield 9, 3) := by decide +kernel
theorem dX0_choose_95 : decode cX0_choose 95 = .ok (.iload_n 2, 1) := by decide +kernel
theorem dX0_choose_96 : decode cX0_choose 96 = .ok (.iload 5, 2) := by decide +kernel
theorem dX0_choose_98 : decode cX0_choose 98 = .ok (.invokestatic 36, 3) := by decide +kernel
theorem dX0_choose_101 : decode cX0_choose 101 = .ok (.aload_n 0, 1) := by decide +kernel
theorem dX0_choose_102 : decode cX0_choose 102 = .ok (.aload_n 1, 1) := by decide +kernel
theorem dX0_choose_103 : decode cX0_choose 103 = .ok (.iload_n 2, 1) := by decide +kernel
theorem dX0_choose_104 : decode cX0_choose 104 = .ok (.iconst 1, 1) := by decide +kernel
theorem dX0_choose_105 : decode cX0_choose 105 = .ok (.iadd, 1) := by decide +kernel
theorem dX0_choose_106 : decode cX0_choose 106 = .ok (.iload_n 3, 1) := by decide +kernel
theorem dX0_choose_107 : decode cX0_choose 107 = .ok (.iconst 1, 1) := by decide +kernel
theorem dX0_choose_108 : decode cX0_choose 108 = .ok (.iload 5, 2) := by decide +kernel
theorem dX0_choose_110 : decode cX0_choose 110 = .ok (.ishl, 1) := by decide +kernel
theorem dX0_choose_111 : decode cX0_choose 111 = .ok (.ior, 1) := by decide +kernel
theorem dX0_choose_112 : decode cX0_choose 112 = .ok (.iload 4, 2) := by decide +kernel
theorem dX0_choose_114 : decode cX0_choose 114 = .ok (.aload_n 1, 1) := by decide +kernel
theorem dX0_choose_115 : decode cX0_choose 115 = .ok (.iload_n 2, 1) := by decide +kernel
theorem dX0_choose_116 : decode cX0_choose 116 = .ok (.iload 5, 2) := by decide +kernel
theorem dX0_choose_118 : decode cX0_choose 118 = .ok (.invokevirtual 56, 3) := by decide +kernel
theorem dX0_choose_121 : decode cX0_choose 121 = .ok (.ior, 1) := by decide +kernel
theorem dX0_choose_122 : decode cX0_choose 122 = .ok (.invokestatic 48, 3) := by decide +kernel
theorem dX0_choose_125 : decode cX0_choose 125 = .ok (.iinc 5 1, 3) := by decide +kernel
theorem dX0_choose_128 : decode cX0_choose 128 = .ok (.goto (-66), 3) := by decide +kernel
theorem dX0_choose_131 : decode cX0_choose 131 = .ok (.aload_n 0, 1) := by decide +kernel
theorem dX0_choose_132 : decode cX0_choose 132 = .ok (.getfield 9, 3) := by decide +kernel
theorem dX0_choose_135 : decode cX0_choose 135 = .ok (.iload_n 2, 1) := by decide +kernel
theorem dX0_choose_136 : decode cX0_choose 136 = .ok (.bipush (-4), 2) := by decide +kernel
theorem dX0_choose_138 : decode cX0_choose 138 = .ok (.invokestatic 36, 3) := by decide +kernel
theorem dX0_choose_141 : decode cX0_choose 141 = .ok (.aload_n 0, 1) := by decide +kernel
theorem dX0_choose_142 : decode cX0_choose 142 = .ok (.aload_n 1, 1) := by decide +kernel
theorem dX0_choose_143 : decode cX0_choose 143 = .ok (.iload_n 2, 1) := by decide +kernel
theorem dX0_choose_144 : decode cX0_choose 144 = .ok (.iconst 1, 1) := by decide +kernel
theorem dX0_choose_145 : decode cX0_choose 145 = .ok (.iadd, 1) := by decide +kernel
theorem dX0_choose_146 : decode cX0_choose 146 = .ok (.iload_n 3, 1) := by decide +kernel
theorem dX0_choose_147 : decode cX0_choose 147 = .ok (.aload_n 1, 1) := by decide +kernel
theorem dX0_choose_148 : decode cX0_choose 148 = .ok (.iload_n 2, 1) := by decide +kernel
theorem dX0_choose_149 : decode cX0_choose 149 = .ok (.invokevirtual 52, 3) := by decide +kernel
theorem dX0_choose_152 : decode cX0_choose 152 = .ok (.ifCond .eq 8, 3) := by decide +kernel
theorem dX0_choose_155 : decode cX0_choose 155 = .ok (.iload 4, 2) := by decide +kernel
theorem dX0_choose_157 : decode cX0_choose 157 = .ok (.goto 13, 3) := by decide +kernel
theorem dX0_choose_160 : decode cX0_choose 160 = .ok (.iload 4, 2) := by decide +kernel
theorem dX0_choose_162 : decode cX0_choose 162 = .ok (.aload_n 1, 1) := by decide +kernel
theorem dX0_choose_163 : decode cX0_choose 163 = .ok (.iload_n 2, 1) := by decide +kernel
theorem dX0_choose_164 : decode cX0_choose 164 = .ok (.bipush (-4), 2) := by decide +kernel
theorem dX0_choose_166 : decode cX0_choose 166 = .ok (.invokevirtual 56, 3) := by decide +kernel
theorem dX0_choose_169 : decode cX0_choose 169 = .ok (.ior, 1) := by decide +kernel
theorem dX0_choose_170 : decode cX0_choose 170 = .ok (.invokestatic 48, 3) := by decide +kernel
theorem dX0_choose_173 : decode cX0_choose 173 = .ok (.return_, 1) := by decide +kernel
theorem dX1_init_0 : decode cX1_init 0 = .ok (.aload_n 0, 1) := by decide +kernel
theorem dX1_init_1 : decode cX1_init 1 = .ok (.invokespecial 3, 3) := by decide +kernel
theorem dX1_init_4 : decode cX1_init 4 = .ok (.aload_n 0, 1) := by decide +kernel
theorem dX1_init_5 : decode cX1_init 5 = .ok (.bipush 6, 2) := by decide +kernel
theorem dX1_init_7 : decode cX1_init 7 = .ok (.newarray .int, 2) := by decide +kernel
theorem dX1_init_9 : decode cX1_init 9 = .ok (.putfield 9, 3) := by decide +kernel
theorem dX1_init_12 : decode cX1_init 12 = .ok (.aload_n 0, 1) := by decide +kernel
theorem dX1_init_13 : decode cX1_init 13 = .ok (.bipush 6, 2) := by decide +kernel
theorem dX1_init_15 : decode cX1_init 15 = .ok (.newarray .int, 2) := by decide +kernel
theorem dX1_init_17 : decode cX1_init 17 = .ok (.putfield 15, 3) := by decide +kernel
theorem dX1_init_20 : decode cX1_init 20 = .ok (.aload_n 0, 1) := by decide +kernel
theorem dX1_init_21 : decode cX1_init 21 = .ok (.iconst 5, 1) := by decide +kernel
theorem dX1_init_22 : decode cX1_init 22 = .ok (.newarray .int, 2) := by decide +kernel
theorem dX1_init_24 : decode cX1_init 24 = .ok (.putfield 18, 3) := by decide +kernel
theorem dX1_init_27 : decode cX1_init 27 = .ok (.aload_n 0, 1) := by decide +kernel
theorem dX1_init_28 : decode cX1_init 28 = .ok (.iconst 5, 1) := by decide +kernel
theorem dX1_init_29 : decode cX1_init 29 = .ok (.newarray .int, 2) := by decide +kernel
theorem dX1_init_31 : decode cX1_init 31 = .ok (.putfield 21, 3) := by decide +kernel
theorem dX1_init_34 : decode cX1_init 34 = .ok (.aload_n 0, 1) := by decide +kernel
theorem dX1_init_35 : decode cX1_init 35 = .ok (.aload_n 1, 1) := by decide +kernel
theorem dX1_init_36 : decode cX1_init 36 = .ok (.putfield 24, 3) := by decide +kernel
theorem dX1_init_39 : decode cX1_init 39 = .ok (.return_, 1) := by decide +kernel
theorem dX1_clear_0 : decode cX1_clear 0 = .ok (.aload_n 0, 1) := by decide +kernel
theorem dX1_clear_1 : decode cX1_clear 1 = .ok (.iconst 0, 1) := by decide +kernel
theorem dX1_clear_2 : decode cX1_clear 2 = .ok (.putfield 28, 3) := by decide +kernel
theorem dX1_clear_5 : decode cX1_clear 5 = .ok (.aload_n 0, 1) := by decide +kernel
theorem dX1_clear_6 : decode cX1_clear 6 = .ok (.iconst 0, 1) := by decide +kernel
theorem dX1_clear_7 : decode cX1_clear 7 = .ok (.putfield 32, 3) := by decide +kernel
theorem dX1_clear_10 : decode cX1_clear 10 = .ok (.aload_n 0, 1) := by decide +kernel
theorem dX1_clear_11 : decode cX1_clear 11 = .ok (.iconst 0, 1) := by decide +kernel
theorem dX1_clear_12 : decode cX1_clear 12 = .ok (.putfield 35, 3) := by decide +kernel
theorem dX1_clear_15 : decode cX1_clear 15 = .ok (.aload_n 0, 1) := by decide +kernel
theorem dX1_clear_16 : decode cX1_clear 16 = .ok (.iconst 0, 1) := by decide +kernel
theorem dX1_clear_17 : decode cX1_clear 17 = .ok (.putfield 38, 3) := by decide +kernel
theorem dX1_clear_20 : decode cX1_clear 20 = .ok (.iconst 0, 1) := by decide +kernel
theorem dX1_clear_21 : decode cX1_clear 21 = .ok (.istore_n 1, 1) := by decide +kernel
theorem dX1_clear_22 : decode cX1_clear 22 = .ok (.iload_n 1, 1) := by decide +kernel
theorem dX1_clear_23 : decode cX1_clear 23 = .ok (.aload_n 0, 1) := by decide +kernel
theorem dX1_clear_24 : decode cX1_clear 24 = .ok (.getfield 21, 3) := by decide +kernel
theorem dX1_clear_27 : decode cX1_clear 27 = .ok (.arraylength, 1) := by decide +kernel
theorem dX1_clear_28 : decode cX1_clear 28 = .ok (.if_icmp .ge 17, 3) := by decide +kernel
theorem dX1_clear_31 : decode cX1_clear 31 = .ok (.aload_n 0, 1) := by decide +kernel
theorem dX1_clear_32 : decode cX1_clear 32 = .ok (.getfield 21, 3) := by decide +kernel
theorem dX1_clear_35 : decode cX1_clear 35 = .ok (.iload_n 1, 1) := by decide +kernel
theorem dX1_clear_36 : decode cX1_clear 36 = .ok (.bipush (-4), 2) := by decide +kernel
theorem dX1_clear_38 : decode cX1_clear 38 = .ok (.iastore, 1) := by decide +kernel
theorem dX1_clear_39 : decode cX1_clear 39 = .ok (.iinc 1 1, 3) := by decide +kernel
theorem dX1_clear_42 : decode cX1_clear 42 = .ok (.goto (-20), 3) := by decide +kernel
theorem dX1_clear_45 : decode cX1_clear 45 = .ok (.return_, 1) := by decide +kernel
set_option maxRecDepth 20000 in
theorem ggX1_copyFrom_X7_copyRow : GoodIn wsX1_copyFrom wsX7_copyRow := goodIn_r _ [11] (by decide +kernel) (by decide +kernel)
set_option maxRecDepth 20000 in
theorem gX1_copyFrom_X7_copyRow_n41 : GoodIn wsX1_copyFrom (wsX7_copyRow) := ggX1_copyFrom_X7_copyRow
theorem dX1_copyFrom_0 : decode cX1_copyFrom 0 = .ok (.aload_n 0, 1) := by decide +kernel
theorem dX1_copyFrom_1 : decode cX1_copyFrom 1 = .ok (.aload_n 1, 1) := by decide +kernel
theorem dX1_copyFrom_2 : decode cX1_copyFrom 2 = .ok (.getfield 28, 3) := by decide +kernel
theorem dX1_copyFrom_5 : decode cX1_copyFrom 5 = .ok (.putfield 28, 3) := by decide +kernel
theorem dX1_copyFrom_8 : decode cX1_copyFrom 8 = .ok (.aload_n 0, 1) := by decide +kernel
theorem dX1_copyFrom_9 : decode cX1_copyFrom 9 = .ok (.aload_n 1, 1) := by decide +kernel
theorem dX1_copyFrom_10 : decode cX1_copyFrom 10 = .ok (.getfield 32, 3) := by decide +kernel
theorem dX1_copyFrom_13 : decode cX1_copyFrom 13 = .ok (.putfield 32, 3) := by decide +kernel
theorem dX1_copyFrom_16 : decode cX1_copyFrom 16 = .ok (.aload_n 0, 1) := by decide +kernel
theorem dX1_copyFrom_17 : decode cX1_copyFrom 17 = .ok (.aload_n 1, 1) := by decide +kernel
theorem dX1_copyFrom_18 : decode cX1_copyFrom 18 = .ok (.getfield 35, 3) := by decide +kernel
theorem dX1_copyFrom_21 : decode cX1_copyFrom 21 = .ok (.putfield 35, 3) := by decide +kernel
theorem dX1_copyFrom_24 : decode cX1_copyFrom 24 = .ok (.aload_n 0, 1) := by decide +kernel
theorem dX1_copyFrom_25 : decode cX1_copyFrom 25 = .ok (.aload_n 1, 1) := by decide +kernel
theorem dX1_copyFrom_26 : decode cX1_copyFrom 26 = .ok (.getfield 38, 3) := by decide +kernel
theorem dX1_copyFrom_29 : decode cX1_copyFrom 29 = .ok (.putfield 38, 3) := by decide +kernel
theorem dX1_copyFrom_32 : decode cX1_copyFrom 32 = .ok (.aload_n 1, 1) := by decide +kernel
theorem dX1_copyFrom_33 : decode cX1_copyFrom 33 = .ok (.getfield 9, 3) := by decide +kernel
theorem dX1_copyFrom_36 : decode cX1_copyFrom 36 = .ok (.aload_n 0, 1) := by decide +kernel
theorem dX1_copyFrom_37 : decode cX1_copyFrom 37 = .ok (.getfield 9, 3) := by decide +kernel
theorem dX1_copyFrom_40 : decode cX1_copyFrom 40 = .ok (.invokestatic 41, 3) := by decide +kernel
theorem dX1_copyFrom_43 : decode cX1_copyFrom 43 = .ok (.aload_n 1, 1) := by decide +kernel
theorem dX1_copyFrom_44 : decode cX1_copyFrom 44 = .ok (.getfield 15, 3) := by decide +kernel
theorem dX1_copyFrom_47 : decode cX1_copyFrom 47 = .ok (.aload_n 0, 1) := by decide +kernel
theorem dX1_copyFrom_48 : decode cX1_copyFrom 48 = .ok (.getfield 15, 3) := by decide +kernel
theorem dX1_copyFrom_51 : decode cX1_copyFrom 51 = .ok (.invokestatic 41, 3) := by decide +kernel
theorem dX1_copyFrom_54 : decode cX1_copyFrom 54 = .ok (.aload_n 1, 1) := by decide +kernel
theorem dX1_copyFrom_55 : decode cX1_copyFrom 55 = .ok (.getfield 18, 3) := by decide +kernel
theorem dX1_copyFrom_58 : decode cX1_copyFrom 58 = .ok (.aload_n 0, 1) := by decide +kernel
theorem dX1_copyFrom_59 : decode cX1_copyFrom 59 = .ok (.getfield 18, 3) := by decide +kernel
theorem dX1_copyFrom_62 : decode cX1_copyFrom 62 = .ok (.invokestatic 41, 3) := by decide +kernel
theorem dX1_copyFrom_65 : decode cX1_copyFrom 65 = .ok (.aload_n 1, 1) := by decide +kernel
theorem dX1_copyFrom_66 : decode cX1_copyFrom 66 = .ok (.getfield 21, 3) := by decide +kernel
theorem dX1_copyFrom_69 : decode cX1_copyFrom 69 = .ok (.aload_n 0, 1) := by decide +kernel
theorem dX1_copyFrom_70 : decode cX1_copyFrom 70 = .ok (.getfield 21, 3) := by decide +kernel
theorem dX1_copyFrom_73 : decode cX1_copyFrom 73 = .ok (.invokestatic 41, 3) := by decide +kernel
theorem dX1_copyFrom_76 : decode cX1_copyFrom 76 = .ok (.return_, 1) := by decide +kernel
set_option maxRecDepth 20000 in
theorem ggX1_hourOf_X7_at : GoodIn wsX1_hourOf wsX7_at := goodIn_r _ [4] (by decide +kernel) (by decide +kernel)
set_option maxRecDepth 20000 in
theorem gX1_hourOf_X7_at_n45 : GoodIn wsX1_hourOf (wsX7_at) := ggX1_hourOf_X7_at
theorem dX1_hourOf_0 : decode cX1_hourOf 0 = .ok (.aload_n 0, 1) := by decide +kernel
theorem dX1_hourOf_1 : decode cX1_hourOf 1 = .ok (.getfield 9, 3) := by decide +kernel
theorem dX1_hourOf_4 : decode cX1_hourOf 4 = .ok (.iload_n 1, 1) := by decide +kernel
theorem dX1_hourOf_5 : decode cX1_hourOf 5 = .ok (.invokestatic 45, 3) := by decide +kernel
theorem dX1_hourOf_8 : decode cX1_hourOf 8 = .ok (.ireturn, 1) := by decide +kernel
set_option maxRecDepth 20000 in
theorem ggX1_wornOf_X7_at : GoodIn wsX1_wornOf wsX7_at := goodIn_r _ [4] (by decide +kernel) (by decide +kernel)
set_option maxRecDepth 20000 in
theorem gX1_wornOf_X7_at_n45 : GoodIn wsX1_wornOf (wsX7_at) := ggX1_wornOf_X7_at
theorem dX1_wornOf_0 : decode cX1_wornOf 0 = .ok (.aload_n 0, 1) := by decide +kernel
theorem dX1_wornOf_1 : decode cX1_wornOf 1 = .ok (.getfield 15, 3) := by decide +kernel
theorem dX1_wornOf_4 : decode cX1_wornOf 4 = .ok (.iload_n 1, 1) := by decide +kernel
theorem dX1_wornOf_5 : decode cX1_wornOf 5 = .ok (.invokestatic 45, 3) := by decide +kernel
theorem dX1_wornOf_8 : decode cX1_wornOf 8 = .ok (.ireturn, 1) := by decide +kernel
set_option maxRecDepth 20000 in
theorem ggX1_squareOf_X7_at : GoodIn wsX1_squareOf wsX7_at := goodIn_r _ [4] (by decide +kernel) (by decide +kernel)
set_option maxRecDepth 20000 in
theorem gX1_squareOf_X7_at_n45 : GoodIn wsX1_squareOf (wsX7_at) := ggX1_squareOf_X7_at
theorem dX1_squareOf_0 : decode cX1_squareOf 0 = .ok (.aload_n 0, 1) := by decide +kernel
theorem dX1_squareOf_1 : decode cX1_squareOf 1 = .ok (.getfield 18, 3) := by decide +kernel
theorem dX1_squareOf_4 : decode cX1_squareOf 4 = .ok (.iload_n 1, 1) := by decide +kernel
theorem dX1_squareOf_5 : decode cX1_squareOf 5 = .ok (.invokestatic 45, 3) := by decide +kernel
theorem dX1_squareOf_8 : decode cX1_squareOf 8 = .ok (.ireturn, 1) := by decide +kernel
set_option maxRecDepth 20000 in
theorem ggX1_parasolOf_X7_at : GoodIn wsX1_parasolOf wsX7_at := goodIn_r _ [4] (by decide +kernel) (by decide +kernel)
set_option maxRecDepth 20000 in
theorem gX1_parasolOf_X7_at_n45 : GoodIn wsX1_parasolOf (wsX7_at) := ggX1_parasolOf_X7_at
theorem dX1_parasolOf_0 : decode cX1_parasolOf 0 = .ok (.aload_n 0, 1) := by decide +kernel
theorem dX1_parasolOf_1 : decode cX1_parasolOf 1 = .ok (.getfield 21, 3) := by decide +kernel
theorem dX1_parasolOf_4 : decode cX1_parasolOf 4 = .ok (.iload_n 1, 1) := by decide +kernel
theorem dX1_parasolOf_5 : decode cX1_parasolOf 5 = .ok (.invokestatic 45, 3) := by decide +kernel
theorem dX1_parasolOf_8 : decode cX1_parasolOf 8 = .ok (.ireturn, 1) := by decide +kernel
set_option maxRecDepth 20000 in
theorem ggX1_isStill_X7_hasBit : GoodIn wsX1_isStill wsX7_hasBit := goodIn_r _ [4] (by decide +kernel) (by decide +kernel)
set_option maxRecDepth 20000 in
theorem gX1_isStill_X7_hasBit_n49 : GoodIn wsX1_isStill (wsX7_hasBit) := ggX1_isStill_X7_hasBit
theorem dX1_isStill_0 : decode cX1_isStill 0 = .ok (.aload_n 0, 1) := by decide +kernel
theorem dX1_isStill_1 : decode cX1_isStill 1 = .ok (.getfield 35, 3) := by decide +kernel
theorem dX1_isStill_4 : decode cX1_isStill 4 = .ok (.iload_n 1, 1) := by decide +kernel
theorem dX1_isStill_5 : decode cX1_isStill 5 = .ok (.invokestatic 49, 3) := by decide +kernel
theorem dX1_isStill_8 : decode cX1_isStill 8 = .ok (.ireturn, 1) := by decide +kernel
set_option maxRecDepth 20000 in
theorem ggX1_isDone_X7_hasBit : GoodIn wsX1_isDone wsX7_hasBit := goodIn_r _ [4] (by decide +kernel) (by decide +kernel)
set_option maxRecDepth 20000 in
theorem gX1_isDone_X7_hasBit_n49 : GoodIn wsX1_isDone (wsX7_hasBit) := ggX1_isDone_X7_hasBit
theorem dX1_isDone_0 : decode cX1_isDone 0 = .ok (.aload_n 0, 1) := by decide +kernel
theorem dX1_isDone_1 : decode cX1_isDone 1 = .ok (.getfield 38, 3) := by decide +kernel
theorem dX1_isDone_4 : decode cX1_isDone 4 = .ok (.iload_n 1, 1) := by decide +kernel
theorem dX1_isDone_5 : decode cX1_isDone 5 = .ok (.invokestatic 49, 3) := by decide +kernel
theorem dX1_isDone_8 : decode cX1_isDone 8 = .ok (.ireturn, 1) := by decide +kernel
set_option maxRecDepth 20000 in
theorem ggX1_bearersOf_X1_parasolOf : GoodIn wsX1_bearersOf wsX1_parasolOf := goodIn_r _ [7, 8, 9, 10, 11, 12, 13, 14, 15, 16, 17, 18, 19, 20] (by decide +kernel) (by decide +kernel)
set_option maxRecDepth 20000 in
theorem gX1_bearersOf_X1_parasolOf : GoodIn wsX1_bearersOf (wsV RX1 58 RX1 yX1_parasolOf wsX1_parasolOf) := goodIn_app (goodIn_of _ (by decide +kernel)) ggX1_bearersOf_X1_parasolOf
theorem dX1_bearersOf_0 : decode cX1_bearersOf 0 = .ok (.iconst 0, 1) := by decide +kernel
theorem dX1_bearersOf_1 : decode cX1_bearersOf 1 = .ok (.istore_n 2, 1) := by decide +kernel
theorem dX1_bearersOf_2 : decode cX1_bearersOf 2 = .ok (.iconst 0, 1) := by decide +kernel
theorem dX1_bearersOf_3 : decode cX1_bearersOf 3 = .ok (.istore_n 3, 1) := by decide +kernel
theorem dX1_bearersOf_4 : decode cX1_bearersOf 4 = .ok (.iload_n 3, 1) := by decide +kernel
theorem dX1_bearersOf_5 : decode cX1_bearersOf 5 = .ok (.aload_n 0, 1) := by decide +kernel
theorem dX1_bearersOf_6 : decode cX1_bearersOf 6 = .ok (.getfield 24, 3) := by decide +kernel
theorem dX1_bearersOf_9 : decode cX1_bearersOf 9 = .ok (.getfield 53, 3) := by decide +kernel
theorem dX1_bearersOf_12 : decode cX1_bearersOf 12 = .ok (.if_icmp .ge 24, 3) := by decide +kernel
theorem dX1_bearersOf_15 : decode cX1_bearersOf 15 = .ok (.aload_n 0, 1) := by decide +kernel
theorem dX1_bearersOf_16 : decode cX1_bearersOf 16 = .ok (.iload_n 3, 1) := by decide +kernel
theorem dX1_bearersOf_17 : decode cX1_bearersOf 17 = .ok (.invokevirtual 58, 3) := by decide +kernel
theorem dX1_bearersOf_20 : decode cX1_bearersOf 20 = .ok (.iload_n 1, 1) := by decide +kernel
theorem dX1_bearersOf_21 : decode cX1_bearersOf 21 = .ok (.if_icmp .ne 9, 3) := by decide +kernel
theorem dX1_bearersOf_24 : decode cX1_bearersOf 24 = .ok (.iload_n 2, 1) := by decide +kernel
theorem dX1_bearersOf_25 : decode cX1_bearersOf 25 = .ok (.iconst 1, 1) := by decide +kernel
theorem dX1_bearersOf_26 : decode cX1_bearersOf 26 = .ok (.iload_n 3, 1) := by decide +kernel
theorem dX1_bearersOf_27 : decode cX1_bearersOf 27 = .ok (.ishl, 1) := by decide +kernel
theorem dX1_bearersOf_28 : decode cX1_bearersOf 28 = .ok (.ior, 1) := by decide +kernel
theorem dX1_bearersOf_29 : decode cX1_bearersOf 29 = .ok (.istore_n 2, 1) := by decide +kernel
theorem dX1_bearersOf_30 : decode cX1_bearersOf 30 = .ok (.iinc 3 1, 3) := by decide +kernel
theorem dX1_bearersOf_33 : decode cX1_bearersOf 33 = .ok (.goto (-29), 3) := by decide +kernel
theorem dX1_bearersOf_36 : decode cX1_bearersOf 36 = .ok (.iload_n 2, 1) := by decide +kernel
theorem dX1_bearersOf_37 : decode cX1_bearersOf 37 = .ok (.ireturn, 1) := by decide +kernel
set_option maxRecDepth 20000 in
theorem ggX1_isInStand_X1_bearersOf : GoodIn wsX1_isInStand wsX1_bearersOf := goodIn_r _ [5, 6, 7, 8, 9, 10, 4, 11, 12, 13, 14, 15, 16, 17, 18, 19, 20, 21, 22, 23, 24, 25, 26, 27, 28, 29, 30, 31] (by decide +kernel) (by decide +kernel)
set_option maxRecDepth 20000 in
theorem gX1_isInStand_X1_bearersOf : GoodIn wsX1_isInStand (wsV RX1 62 RX1 yX1_bearersOf wsX1_bearersOf) := goodIn_app (goodIn_of _ (by decide +kernel)) ggX1_isInStand_X1_bearersOf
theorem dX1_isInStand_0 : decode cX1_isInStand 0 = .ok (.aload_n 0, 1) := by decide +kernel
theorem dX1_isInStand_1 : decode cX1_isInStand 1 = .ok (.iload_n 1, 1) := by decide +kernel
theorem dX1_isInStand_2 : decode cX1_isInStand 2 = .ok (.invokevirtual 62, 3) := by decide +kernel
theorem dX1_isInStand_5 : decode cX1_isInStand 5 = .ok (.ifCond .ne 7, 3) := by decide +kernel
theorem dX1_isInStand_8 : decode cX1_isInStand 8 = .ok (.iconst 1, 1) := by decide +kernel
theorem dX1_isInStand_9 : decode cX1_isInStand 9 = .ok (.goto 4, 3) := by decide +kernel
theorem dX1_isInStand_12 : decode cX1_isInStand 12 = .ok (.iconst 0, 1) := by decide +kernel
theorem dX1_isInStand_13 : decode cX1_isInStand 13 = .ok (.ireturn, 1) := by decide +kernel
set_option maxRecDepth 20000 in
theorem ggX1_parasolsInStand_X1_isInStand : GoodIn wsX1_parasolsInStand wsX1_isInStand := goodIn_r _ [7, 8, 9, 10, 6, 11, 1, 12, 13, 14, 15, 16, 17, 18, 19, 20, 21, 22, 23, 24, 25, 26, 27, 28, 29, 30, 31, 32, 33, 34, 35, 36] (by decide +kernel) (by decide +kernel)
set_option maxRecDepth 20000 in
theorem gX1_parasolsInStand_X1_isInStand : GoodIn wsX1_parasolsInStand (wsV RX1 68 RX1 yX1_isInStand wsX1_isInStand) := goodIn_app (goodIn_of _ (by decide +kernel)) ggX1_parasolsInStand_X1_isInStand
theorem dX1_parasolsInStand_0 : decode cX1_parasolsInStand 0 = .ok (.iconst 0, 1) := by decide +kernel
theorem dX1_parasolsInStand_1 : decode cX1_parasolsInStand 1 = .ok (.istore_n 1, 1) := by decide +kernel
theorem dX1_parasolsInStand_2 : decode cX1_parasolsInStand 2 = .ok (.iconst 0, 1) := by decide +kernel
theorem dX1_parasolsInStand_3 : decode cX1_parasolsInStand 3 = .ok (.istore_n 2, 1) := by decide +kernel
theorem dX1_parasolsInStand_4 : decode cX1_parasolsInStand 4 = .ok (.iload_n 2, 1) := by decide +kernel
theorem dX1_parasolsInStand_5 : decode cX1_parasolsInStand 5 = .ok (.aload_n 0, 1) := by decide +kernel
theorem dX1_parasolsInStand_6 : decode cX1_parasolsInStand 6 = .ok (.getfield 24, 3) := by decide +kernel
theorem dX1_parasolsInStand_9 : decode cX1_parasolsInStand 9 = .ok (.getfield 65, 3) := by decide +kernel
theorem dX1_parasolsInStand_12 : decode cX1_parasolsInStand 12 = .ok (.if_icmp .ge 20, 3) := by decide +kernel
theorem dX1_parasolsInStand_15 : decode cX1_parasolsInStand 15 = .ok (.aload_n 0, 1) := by decide +kernel
theorem dX1_parasolsInStand_16 : decode cX1_parasolsInStand 16 = .ok (.iload_n 2, 1) := by decide +kernel
theorem dX1_parasolsInStand_17 : decode cX1_parasolsInStand 17 = .ok (.invokevirtual 68, 3) := by decide +kernel
theorem dX1_parasolsInStand_20 : decode cX1_parasolsInStand 20 = .ok (.ifCond .eq 6, 3) := by decide +kernel
theorem dX1_parasolsInStand_23 : decode cX1_parasolsInStand 23 = .ok (.iinc 1 1, 3) := by decide +kernel
theorem dX1_parasolsInStand_26 : decode cX1_parasolsInStand 26 = .ok (.iinc 2 1, 3) := by decide +kernel
theorem dX1_parasolsInStand_29 : decode cX1_parasolsInStand 29 = .ok (.goto (-25), 3) := by decide +kernel
theorem dX1_parasolsInStand_32 : decode cX1_parasolsInStand 32 = .ok (.iload_n 1, 1) := by decide +kernel
theorem dX1_parasolsInStand_33 : decode cX1_parasolsInStand 33 = .ok (.ireturn, 1) := by decide +kernel
set_option maxRecDepth 20000 in
theorem ggX1_squareOfParasol_X1_parasolOf : GoodIn wsX1_squareOfParasol wsX1_parasolOf := goodIn_r _ [7, 8, 9, 10, 11, 17, 18, 19, 20, 21, 22, 23, 24, 25] (by decide +kernel) (by decide +kernel)
set_option maxRecDepth 20000 in
theorem gX1_squareOfParasol_X1_parasolOf : GoodIn wsX1_squareOfParasol (wsV RX1 58 RX1 yX1_parasolOf wsX1_parasolOf) := goodIn_app (goodIn_of _ (by decide +kernel)) ggX1_squareOfParasol_X1_parasolOf
set_option maxRecDepth 20000 in
theorem ggX1_squareOfParasol_X1_squareOf : GoodIn wsX1_squareOfParasol wsX1_squareOf := goodIn_r _ [15, 16, 9, 10, 11, 17, 18, 19, 20, 21, 22, 23, 24, 25] (by decide +kernel) (by decide +kernel)
set_option maxRecDepth 20000 in
theorem gX1_squareOfParasol_X1_squareOf : GoodIn wsX1_squareOfParasol (wsV RX1 72 RX1 yX1_squareOf wsX1_squareOf) := goodIn_app (goodIn_of _ (by decide +kernel)) ggX1_squareOfParasol_X1_squareOf
theorem dX1_squareOfParasol_0 : decode cX1_squareOfParasol 0 = .ok (.iconst 0, 1) := by decide +kernel
theorem dX1_squareOfParasol_1 : decode cX1_squareOfParasol 1 = .ok (.istore_n 2, 1) := by decide +kernel
theorem dX1_squareOfParasol_2 : decode cX1_squareOfParasol 2 = .ok (.iload_n 2, 1) := by decide +kernel
theorem dX1_squareOfParasol_3 : decode cX1_squareOfParasol 3 = .ok (.aload_n 0, 1) := by decide +kernel
theorem dX1_squareOfParasol_4 : decode cX1_squareOfParasol 4 = .ok (.getfield 24, 3) := by decide +kernel
theorem dX1_squareOfParasol_7 : decode cX1_squareOfParasol 7 = .ok (.getfield 53, 3) := by decide +kernel
theorem dX1_squareOfParasol_10 : decode cX1_squareOfParasol 10 = .ok (.if_icmp .ge 24, 3) := by decide +kernel
theorem dX1_squareOfParasol_13 : decode cX1_squareOfParasol 13 = .ok (.aload_n 0, 1) := by decide +kernel
theorem dX1_squareOfParasol_14 : decode cX1_squareOfParasol 14 = .ok (.iload_n 2, 1) := by decide +kernel
theorem dX1_squareOfParasol_15 : decode cX1_squareOfParasol 15 = .ok (.invokevirtual 58, 3) := by decide +kernel
theorem dX1_squareOfParasol_18 : decode cX1_squareOfParasol 18 = .ok (.iload_n 1, 1) := by decide +kernel
theorem dX1_squareOfParasol_19 : decode cX1_squareOfParasol 19 = .ok (.if_icmp .ne 9, 3) := by decide +kernel
theorem dX1_squareOfParasol_22 : decode cX1_squareOfParasol 22 = .ok (.aload_n 0, 1) := by decide +kernel
theorem dX1_squareOfParasol_23 : decode cX1_squareOfParasol 23 = .ok (.iload_n 2, 1) := by decide +kernel
theorem dX1_squareOfParasol_24 : decode cX1_squareOfParasol 24 = .ok (.invokevirtual 72, 3) := by decide +kernel
theorem dX1_squareOfParasol_27 : decode cX1_squareOfParasol 27 = .ok (.ireturn, 1) := by decide +kernel
theorem dX1_squareOfParasol_28 : decode cX1_squareOfParasol 28 = .ok (.iinc 2 1, 3) := by decide +kernel
theorem dX1_squareOfParasol_31 : decode cX1_squareOfParasol 31 = .ok (.goto (-29), 3) := by decide +kernel
theorem dX1_squareOfParasol_34 : decode cX1_squareOfParasol 34 = .ok (.iconst 0, 1) := by decide +kernel
theorem dX1_squareOfParasol_35 : decode cX1_squareOfParasol 35 = .ok (.ireturn, 1) := by decide +kernel
set_option maxRecDepth 20000 in
theorem ggX1_hasShade_X1_parasolOf : GoodIn wsX1_hasShade wsX1_parasolOf := goodIn_r _ [5, 6, 7, 8, 9, 20, 21, 22, 23, 24, 25, 26, 27, 28] (by decide +kernel) (by decide +kernel)
set_option maxRecDepth 20000 in
theorem gX1_hasShade_X1_parasolOf : GoodIn wsX1_hasShade (wsV RX1 58 RX1 yX1_parasolOf wsX1_parasolOf) := goodIn_app (goodIn_of _ (by decide +kernel)) ggX1_hasShade_X1_parasolOf
set_option maxRecDepth 20000 in
theorem ggX1_hasShade_X1_squareOf : GoodIn wsX1_hasShade wsX1_squareOf := goodIn_r _ [13, 14, 7, 8, 9, 20, 21, 22, 23, 24, 25, 26, 27, 28] (by decide +kernel) (by decide +kernel)
set_option maxRecDepth 20000 in
theorem gX1_hasShade_X1_squareOf : GoodIn wsX1_hasShade (wsV RX1 72 RX1 yX1_squareOf wsX1_squareOf) := goodIn_app (goodIn_of _ (by decide +kernel)) ggX1_hasShade_X1_squareOf
set_option maxRecDepth 20000 in
theorem ggX1_hasShade_X1_wornOf : GoodIn wsX1_hasShade wsX1_wornOf := goodIn_r _ [18, 19, 7, 8, 9, 20, 21, 22, 23, 24, 25, 26, 27, 28] (by decide +kernel) (by decide +kernel)
set_option maxRecDepth 20000 in
theorem gX1_hasShade_X1_wornOf : GoodIn wsX1_hasShade (wsV RX1 75 RX1 yX1_wornOf wsX1_wornOf) := goodIn_app (goodIn_of _ (by decide +kernel)) ggX1_hasShade_X1_wornOf
theorem dX1_hasShade_0 : decode cX1_hasShade 0 = .ok (.aload_n 0, 1) := by decide +kernel
theorem dX1_hasShade_1 : decode cX1_hasShade 1 = .ok (.iload_n 1, 1) := by decide +kernel
theorem dX1_hasShade_2 : decode cX1_hasShade 2 = .ok (.invokevirtual 58, 3) := by decide +kernel
theorem dX1_hasShade_5 : decode cX1_hasShade 5 = .ok (.istore_n 2, 1) := by decide +kernel
theorem dX1_hasShade_6 : decode cX1_hasShade 6 = .ok (.aload_n 0, 1) := by decide +kernel
theorem dX1_hasShade_7 : decode cX1_hasShade 7 = .ok (.iload_n 1, 1) := by decide +kernel
theorem dX1_hasShade_8 : decode cX1_hasShade 8 = .ok (.invokevirtual 72, 3) := by decide +kernel
theorem dX1_hasShade_11 : decode cX1_hasShade 11 = .ok (.ifCond .eq 19, 3) := by decide +kernel
theorem dX1_hasShade_14 : decode cX1_hasShade 14 = .ok (.iload_n 2, 1) := by decide +kernel
theorem dX1_hasShade_15 : decode cX1_hasShade 15 = .ok (.bipush (-4), 2) := by decide +kernel
theorem dX1_hasShade_17 : decode cX1_hasShade 17 = .ok (.if_icmp .eq 17, 3) := by decide +kernel
theorem dX1_hasShade_20 : decode cX1_hasShade 20 = .ok (.aload_n 0, 1) := by decide +kernel
theorem dX1_hasShade_21 : decode cX1_hasShade 21 = .ok (.iload_n 2, 1) := by decide +kernel
theorem dX1_hasShade_22 : decode cX1_hasShade 22 = .ok (.invokevirtual 75, 3) := by decide +kernel
theorem dX1_hasShade_25 : decode cX1_hasShade 25 = .ok (.bipush 12, 2) := by decide +kernel
theorem dX1_hasShade_27 : decode cX1_hasShade 27 = .ok (.if_icmp .gt 7, 3) := by decide +kernel
theorem dX1_hasShade_30 : decode cX1_hasShade 30 = .ok (.iconst 1, 1) := by decide +kernel
theorem dX1_hasShade_31 : decode cX1_hasShade 31 = .ok (.goto 4, 3) := by decide +kernel
theorem dX1_hasShade_34 : decode cX1_hasShade 34 = .ok (.iconst 0, 1) := by decide +kernel
theorem dX1_hasShade_35 : decode cX1_hasShade 35 = .ok (.ireturn, 1) := by decide +kernel
set_option maxRecDepth 20000 in
theorem ggX1_timeOf_X1_squareOf : GoodIn wsX1_timeOf wsX1_squareOf := goodIn_r _ [5, 6, 7, 8, 9, 20, 21, 22, 23, 24, 25, 26, 27, 28] (by decide +kernel) (by decide +kernel)
set_option maxRecDepth 20000 in
theorem gX1_timeOf_X1_squareOf : GoodIn wsX1_timeOf (wsV RX1 72 RX1 yX1_squareOf wsX1_squareOf) := goodIn_app (goodIn_of _ (by decide +kernel)) ggX1_timeOf_X1_squareOf
set_option maxRecDepth 20000 in
theorem ggX1_timeOf_X1_wornOf : GoodIn wsX1_timeOf wsX1_wornOf := goodIn_r _ [13, 14, 7, 8, 9, 20, 21, 22, 23, 24, 25, 26, 27, 28] (by decide +kernel) (by decide +kernel)
set_option maxRecDepth 20000 in
theorem gX1_timeOf_X1_wornOf : GoodIn wsX1_timeOf (wsV RX1 75 RX1 yX1_wornOf wsX1_wornOf) := goodIn_app (goodIn_of _ (by decide +kernel)) ggX1_timeOf_X1_wornOf
set_option maxRecDepth 20000 in
theorem ggX1_timeOf_X1_hourOf : GoodIn wsX1_timeOf wsX1_hourOf := goodIn_r _ [18, 19, 7, 8, 9, 20, 21, 22, 23, 24, 25, 26, 27, 28] (by decide +kernel) (by decide +kernel)
set_option maxRecDepth 20000 in
theorem gX1_timeOf_X1_hourOf : GoodIn wsX1_timeOf (wsV RX1 78 RX1 yX1_hourOf wsX1_hourOf) := goodIn_app (goodIn_of _ (by decide +kernel)) ggX1_timeOf_X1_hourOf
theorem dX1_timeOf_0 : decode cX1_timeOf 0 = .ok (.iload_n 2, 1) := by decide +kernel
theorem dX1_timeOf_1 : decode cX1_timeOf 1 = .ok (.bipush (-4), 2) := by decide +kernel
theorem dX1_timeOf_3 : decode cX1_timeOf 3 = .ok (.if_icmp .ne 19, 3) := by decide +kernel
theorem dX1_timeOf_6 : decode cX1_timeOf 6 = .ok (.aload_n 0, 1) := by decide +kernel
theorem dX1_timeOf_7 : decode cX1_timeOf 7 = .ok (.iload_n 1, 1) := by decide +kernel
theorem dX1_timeOf_8 : decode cX1_timeOf 8 = .ok (.invokevirtual 72, 3) := by decide +kernel
theorem dX1_timeOf_11 : decode cX1_timeOf 11 = .ok (.ifCond .ne 8, 3) := by decide +kernel
theorem dX1_timeOf_14 : decode cX1_timeOf 14 = .ok (.bipush (-4), 2) := by decide +kernel
theorem dX1_timeOf_16 : decode cX1_timeOf 16 = .ok (.goto 5, 3) := by decide +kernel
theorem dX1_timeOf_19 : decode cX1_timeOf 19 = .ok (.bipush 12, 2) := by decide +kernel
theorem dX1_timeOf_21 : decode cX1_timeOf 21 = .ok (.ireturn, 1) := by decide +kernel
theorem dX1_timeOf_22 : decode cX1_timeOf 22 = .ok (.aload_n 0, 1) := by decide +kernel
theorem dX1_timeOf_23 : decode cX1_timeOf 23 = .ok (.iload_n 2, 1) := by decide +kernel
theorem dX1_timeOf_24 : decode cX1_timeOf 24 = .ok (.invokevirtual 75, 3) := by decide +kernel
theorem dX1_timeOf_27 : decode cX1_timeOf 27 = .ok (.bipush 12, 2) := by decide +kernel
theorem dX1_timeOf_29 : decode cX1_timeOf 29 = .ok (.if_icmp .gt 11, 3) := by decide +kernel
theorem dX1_timeOf_32 : decode cX1_timeOf 32 = .ok (.aload_n 0, 1) := by decide +kernel
theorem dX1_timeOf_33 : decode cX1_timeOf 33 = .ok (.iload_n 2, 1) := by decide +kernel
theorem dX1_timeOf_34 : decode cX1_timeOf 34 = .ok (.invokevirtual 78, 3) := by decide +kernel
theorem dX1_timeOf_37 : decode cX1_timeOf 37 = .ok (.goto 5, 3) := by decide +kernel
theorem dX1_timeOf_40 : decode cX1_timeOf 40 = .ok (.bipush 12, 2) := by decide +kernel
theorem dX1_timeOf_42 : decode cX1_timeOf 42 = .ok (.ireturn, 1) := by decide +kernel
set_option maxRecDepth 20000 in
theorem ggX1_worksOf_X1_timeOf : GoodIn wsX1_worksOf wsX1_timeOf := goodIn_r _ [7, 8, 9, 10, 6, 11, 12, 13, 14, 15, 16, 17, 18, 19, 20, 21, 22, 23, 24, 25, 44, 45, 46, 47, 48, 49, 50, 51, 52] (by decide +kernel) (by decide +kernel)
set_option maxRecDepth 20000 in
theorem gX1_worksOf_X1_timeOf : GoodIn wsX1_worksOf (wsV RX1 81 RX1 yX1_timeOf wsX1_timeOf) := goodIn_app (goodIn_of _ (by decide +kernel)) ggX1_worksOf_X1_timeOf
set_option maxRecDepth 20000 in
theorem ggX1_worksOf_X2_workSquareOf : GoodIn wsX1_worksOf wsX2_workSquareOf := goodIn_r _ [30, 31, 13, 14, 15, 53, 54, 55, 56, 57, 58, 59] (by decide +kernel) (by decide +kernel)
set_option maxRecDepth 20000 in
theorem gX1_worksOf_X2_workSquareOf : GoodIn wsX1_worksOf (wsV RX1 88 RX2 yX2_workSquareOf wsX2_workSquareOf) := goodIn_app (goodIn_of _ (by decide +kernel)) ggX1_worksOf_X2_workSquareOf
set_option maxRecDepth 20000 in
theorem ggX1_worksOf_X1_squareOf : GoodIn wsX1_worksOf wsX1_squareOf := goodIn_r _ [11, 12, 13, 14, 15, 44, 45, 46, 47, 48, 49, 50, 51, 52] (by decide +kernel) (by decide +kernel)
set_option maxRecDepth 20000 in
theorem gX1_worksOf_X1_squareOf : GoodIn wsX1_worksOf (wsV RX1 72 RX1 yX1_squareOf wsX1_squareOf) := goodIn_app (goodIn_of _ (by decide +kernel)) ggX1_worksOf_X1_squareOf
set_option maxRecDepth 20000 in
theorem ggX1_worksOf_X2_workHourOf : GoodIn wsX1_worksOf wsX2_workHourOf := goodIn_r _ [35, 36, 13, 14, 15, 53, 54, 55, 56, 57, 58, 59] (by decide +kernel) (by decide +kernel)
set_option maxRecDepth 20000 in
theorem gX1_worksOf_X2_workHourOf : GoodIn wsX1_worksOf (wsV RX1 91 RX2 yX2_workHourOf wsX2_workHourOf) := goodIn_app (goodIn_of _ (by decide +kernel)) ggX1_worksOf_X2_workHourOf
set_option maxRecDepth 20000 in
theorem ggX1_worksOf_X1_isDone : GoodIn wsX1_worksOf wsX1_isDone := goodIn_r _ [40, 41, 42, 14, 43, 44, 45, 46, 47, 48, 49, 50, 51, 52] (by decide +kernel) (by decide +kernel)
set_option maxRecDepth 20000 in
theorem gX1_worksOf_X1_isDone : GoodIn wsX1_worksOf (wsV RX1 94 RX1 yX1_isDone wsX1_isDone) := goodIn_app (goodIn_of _ (by decide +kernel)) ggX1_worksOf_X1_isDone
theorem dX1_worksOf_0 : decode cX1_worksOf 0 = .ok (.aload_n 0, 1) := by decide +kernel
theorem dX1_worksOf_1 : decode cX1_worksOf 1 = .ok (.iload_n 1, 1) := by decide +kernel
theorem dX1_worksOf_2 : decode cX1_worksOf 2 = .ok (.iload_n 2, 1) := by decide +kernel
theorem dX1_worksOf_3 : decode cX1_worksOf 3 = .ok (.invokevirtual 81, 3) := by decide +kernel
theorem dX1_worksOf_6 : decode cX1_worksOf 6 = .ok (.istore_n 3, 1) := by decide +kernel
theorem dX1_worksOf_7 : decode cX1_worksOf 7 = .ok (.iconst 0, 1) := by decide +kernel
theorem dX1_worksOf_8 : decode cX1_worksOf 8 = .ok (.istore 4, 2) := by decide +kernel
theorem dX1_worksOf_10 : decode cX1_worksOf 10 = .ok (.iconst 0, 1) := by decide +kernel
theorem dX1_worksOf_11 : decode cX1_worksOf 11 = .ok (.istore 5, 2) := by decide +kernel
theorem dX1_worksOf_13 : decode cX1_worksOf 13 = .ok (.iload 5, 2) := by decide +kernel
theorem dX1_worksOf_15 : decode cX1_worksOf 15 = .ok (.aload_n 0, 1) := by decide +kernel
theorem dX1_worksOf_16 : decode cX1_worksOf 16 = .ok (.getfield 24, 3) := by decide +kernel
theorem dX1_worksOf_19 : decode cX1_worksOf 19 = .ok (.getfield 85, 3) := by decide +kernel
theorem dX1_worksOf_22 : decode cX1_worksOf 22 = .ok (.if_icmp .ge 69, 3) := by decide +kernel
theorem dX1_worksOf_25 : decode cX1_worksOf 25 = .ok (.aload_n 0, 1) := by decide +kernel
theorem dX1_worksOf_26 : decode cX1_worksOf 26 = .ok (.getfield 24, 3) := by decide +kernel
theorem dX1_worksOf_29 : decode cX1_worksOf 29 = .ok (.iload 5, 2) := by decide +kernel
theorem dX1_worksOf_31 : decode cX1_worksOf 31 = .ok (.invokevirtual 88, 3) := by decide +kernel
theorem dX1_worksOf_34 : decode cX1_worksOf 34 = .ok (.aload_n 0, 1) := by decide +kernel
theorem dX1_worksOf_35 : decode cX1_worksOf 35 = .ok (.iload_n 1, 1) := by decide +kernel
theorem dX1_worksOf_36 : decode cX1_worksOf 36 = .ok (.invokevirtual 72, 3) := by decide +kernel
theorem dX1_worksOf_39 : decode cX1_worksOf 39 = .ok (.if_icmp .ne 7, 3) := by decide +kernel
theorem dX1_worksOf_42 : decode cX1_worksOf 42 = .ok (.iconst 1, 1) := by decide +kernel
theorem dX1_worksOf_43 : decode cX1_worksOf 43 = .ok (.goto 4, 3) := by decide +kernel
theorem dX1_worksOf_46 : decode cX1_worksOf 46 = .ok (.iconst 0, 1) := by decide +kernel
theorem dX1_worksOf_47 : decode cX1_worksOf 47 = .ok (.istore 6, 2) := by decide +kernel
theorem dX1_worksOf_49 : decode cX1_worksOf 49 = .ok (.iload 6, 2) := by decide +kernel
theorem dX1_worksOf_51 : decode cX1_worksOf 51 = .ok (.ifCond .eq 34, 3) := by decide +kernel
theorem dX1_worksOf_54 : decode cX1_worksOf 54 = .ok (.aload_n 0, 1) := by decide +kernel
theorem dX1_worksOf_55 : decode cX1_worksOf 55 = .ok (.getfield 24, 3) := by decide +kernel
theorem dX1_worksOf_58 : decode cX1_worksOf 58 = .ok (.iload 5, 2) := by decide +kernel
theorem dX1_worksOf_60 : decode cX1_worksOf 60 = .ok (.invokevirtual 91, 3) := by decide +kernel
theorem dX1_worksOf_63 : decode cX1_worksOf 63 = .ok (.iload_n 3, 1) := by decide +kernel
theorem dX1_worksOf_64 : decode cX1_worksOf 64 = .ok (.if_icmp .ne 21, 3) := by decide +kernel
theorem dX1_worksOf_67 : decode cX1_worksOf 67 = .ok (.aload_n 0, 1) := by decide +kernel
theorem dX1_worksOf_68 : decode cX1_worksOf 68 = .ok (.iload 5, 2) := by decide +kernel
theorem dX1_worksOf_70 : decode cX1_worksOf 70 = .ok (.invokevirtual 94, 3) := by decide +kernel
theorem dX1_worksOf_73 : decode cX1_worksOf 73 = .ok (.ifCond .ne 12, 3) := by decide +kernel
theorem dX1_worksOf_76 : decode cX1_worksOf 76 = .ok (.iload 4, 2) := by decide +kernel
theorem dX1_worksOf_78 : decode cX1_worksOf 78 = .ok (.iconst 1, 1) := by decide +kernel
theorem dX1_worksOf_79 : decode cX1_worksOf 79 = .ok (.iload 5, 2) := by decide +kernel
theorem dX1_worksOf_81 : decode cX1_worksOf 81 = .ok (.ishl, 1) := by decide +kernel
theorem dX1_worksOf_82 : decode cX1_worksOf 82 = .ok (.ior, 1) := by decide +kernel
theorem dX1_worksOf_83 : decode cX1_worksOf 83 = .ok (.istore 4, 2) := by decide +kernel
theorem dX1_worksOf_85 : decode cX1_worksOf 85 = .ok (.iinc 5 1, 3) := by decide +kernel
theorem dX1_worksOf_88 : decode cX1_worksOf 88 = .ok (.goto (-75), 3) := by decide +kernel
theorem dX1_worksOf_91 : decode cX1_worksOf 91 = .ok (.iload 4, 2) := by decide +kernel
theorem dX1_worksOf_93 : decode cX1_worksOf 93 = .ok (.ireturn, 1) := by decide +kernel
set_option maxRecDepth 20000 in
theorem ggX1_canTake_X1_isStill : GoodIn wsX1_canTake wsX1_isStill := goodIn_r _ [5, 6, 7, 8, 9, 32, 33, 34, 35, 36, 37, 38, 39, 40] (by decide +kernel) (by decide +kernel)
set_option maxRecDepth 20000 in
theorem gX1_canTake_X1_isStill : GoodIn wsX1_canTake (wsV RX1 97 RX1 yX1_isStill wsX1_isStill) := goodIn_app (goodIn_of _ (by decide +kernel)) ggX1_canTake_X1_isStill
set_option maxRecDepth 20000 in
theorem ggX1_canTake_X1_squareOf : GoodIn wsX1_canTake wsX1_squareOf := goodIn_r _ [13, 14, 15, 8, 16, 32, 33, 34, 35, 36, 37, 38, 39, 40] (by decide +kernel) (by decide +kernel)
set_option maxRecDepth 20000 in
theorem gX1_canTake_X1_squareOf : GoodIn wsX1_canTake (wsV RX1 72 RX1 yX1_squareOf wsX1_squareOf) := goodIn_app (goodIn_of _ (by decide +kernel)) ggX1_canTake_X1_squareOf
set_option maxRecDepth 20000 in
theorem ggX1_canTake_X1_parasolOf : GoodIn wsX1_canTake wsX1_parasolOf := goodIn_r _ [20, 21, 15, 8, 16, 32, 33, 34, 35, 36, 37, 38, 39, 40] (by decide +kernel) (by decide +kernel)
set_option maxRecDepth 20000 in
theorem gX1_canTake_X1_parasolOf : GoodIn wsX1_canTake (wsV RX1 58 RX1 yX1_parasolOf wsX1_parasolOf) := goodIn_app (goodIn_of _ (by decide +kernel)) ggX1_canTake_X1_parasolOf
set_option maxRecDepth 20000 in
theorem ggX1_canTake_X1_isInStand : GoodIn wsX1_canTake wsX1_isInStand := goodIn_r _ [25, 26, 27, 28, 4, 29, 30, 31, 17, 18, 19, 20, 21, 15, 8, 16, 32, 33, 34, 35, 36, 37, 38, 39, 40, 41, 42, 43, 44, 45, 46, 47] (by decide +kernel) (by decide +kernel)
set_option maxRecDepth 20000 in
theorem gX1_canTake_X1_isInStand : GoodIn wsX1_canTake (wsV RX1 68 RX1 yX1_isInStand wsX1_isInStand) := goodIn_app (goodIn_of _ (by decide +kernel)) ggX1_canTake_X1_isInStand
theorem dX1_canTake_0 : decode cX1_canTake 0 = .ok (.aload_n 0, 1) := by decide +kernel
theorem dX1_canTake_1 : decode cX1_canTake 1 = .ok (.iload_n 1, 1) := by decide +kernel
theorem dX1_canTake_2 : decode cX1_canTake 2 = .ok (.invokevirtual 97, 3) := by decide +kernel
theorem dX1_canTake_5 : decode cX1_canTake 5 = .ok (.ifCond .ne 33, 3) := by decide +kernel
theorem dX1_canTake_8 : decode cX1_canTake 8 = .ok (.aload_n 0, 1) := by decide +kernel
theorem dX1_canTake_9 : decode cX1_canTake 9 = .ok (.iload_n 1, 1) := by decide +kernel
theorem dX1_canTake_10 : decode cX1_canTake 10 = .ok (.invokevirtual 72, 3) := by decide +kernel
theorem dX1_canTake_13 : decode cX1_canTake 13 = .ok (.ifCond .ne 25, 3) := by decide +kernel
theorem dX1_canTake_16 : decode cX1_canTake 16 = .ok (.aload_n 0, 1) := by decide +kernel
theorem dX1_canTake_17 : decode cX1_canTake 17 = .ok (.iload_n 1, 1) := by decide +kernel
theorem dX1_canTake_18 : decode cX1_canTake 18 = .ok (.invokevirtual 58, 3) := by decide +kernel
theorem dX1_canTake_21 : decode cX1_canTake 21 = .ok (.bipush (-4), 2) := by decide +kernel
theorem dX1_canTake_23 : decode cX1_canTake 23 = .ok (.if_icmp .ne 15, 3) := by decide +kernel
theorem dX1_canTake_26 : decode cX1_canTake 26 = .ok (.aload_n 0, 1) := by decide +kernel
theorem dX1_canTake_27 : decode cX1_canTake 27 = .ok (.iload_n 2, 1) := by decide +kernel
theorem dX1_canTake_28 : decode cX1_canTake 28 = .ok (.invokevirtual 68, 3) := by decide +kernel
theorem dX1_canTake_31 : decode cX1_canTake 31 = .ok (.ifCond .eq 7, 3) := by decide +kernel
theorem dX1_canTake_34 : decode cX1_canTake 34 = .ok (.iconst 1, 1) := by decide +kernel
theorem dX1_canTake_35 : decode cX1_canTake 35 = .ok (.goto 4, 3) := by decide +kernel
theorem dX1_canTake_38 : decode cX1_canTake 38 = .ok (.iconst 0, 1) := by decide +kernel
theorem dX1_canTake_39 : decode cX1_canTake 39 = .ok (.ireturn, 1) := by decide +kernel
set_option maxRecDepth 20000 in
theorem ggX1_doTake_X7_put : GoodIn wsX1_doTake wsX7_put := goodIn_r _ [4] (by decide +kernel) (by decide +kernel)
set_option maxRecDepth 20000 in
theorem gX1_doTake_X7_put_n100 : GoodIn wsX1_doTake (wsX7_put) := ggX1_doTake_X7_put
theorem dX1_doTake_0 : decode cX1_doTake 0 = .ok (.aload_n 0, 1) := by decide +kernel
theorem dX1_doTake_1 : decode cX1_doTake 1 = .ok (.getfield 21, 3) := by decide +kernel
theorem dX1_doTake_4 : decode cX1_doTake 4 = .ok (.iload_n 1, 1) := by decide +kernel
theorem dX1_doTake_5 : decode cX1_doTake 5 = .ok (.iload_n 2, 1) := by decide +kernel
theorem dX1_doTake_6 : decode cX1_doTake 6 = .ok (.invokestatic 100, 3) := by decide +kernel
theorem dX1_doTake_9 : decode cX1_doTake 9 = .ok (.return_, 1) := by decide +kernel
set_option maxRecDepth 20000 in
theorem ggX1_canShare_X1_parasolOf : GoodIn wsX1_canShare wsX1_parasolOf := goodIn_r _ [5, 6, 7, 8, 9, 28, 29, 30, 31, 32, 33, 34, 35, 36] (by decide +kernel) (by decide +kernel)
set_option maxRecDepth 20000 in
theorem gX1_canShare_X1_parasolOf : GoodIn wsX1_canShare (wsV RX1 58 RX1 yX1_parasolOf wsX1_parasolOf) := goodIn_app (goodIn_of _ (by decide +kernel)) ggX1_canShare_X1_parasolOf
set_option maxRecDepth 20000 in
theorem ggX1_canShare_X1_squareOf : GoodIn wsX1_canShare wsX1_squareOf := goodIn_r _ [13, 14, 7, 8, 9, 28, 29, 30, 31, 32, 33, 34, 35, 36] (by decide +kernel) (by decide +kernel)
set_option maxRecDepth 20000 in
theorem gX1_canShare_X1_squareOf : GoodIn wsX1_canShare (wsV RX1 72 RX1 yX1_squareOf wsX1_squareOf) := goodIn_app (goodIn_of _ (by decide +kernel)) ggX1_canShare_X1_squareOf
set_option maxRecDepth 20000 in
theorem ggX1_canShare_X1_bearersOf : GoodIn wsX1_canShare wsX1_bearersOf := goodIn_r _ [18, 19, 20, 1, 2, 3, 4, 5, 6, 7, 8, 9, 28, 29, 30, 31, 32, 33, 34, 35, 36, 37, 38, 39, 40, 41, 42, 43] (by decide +kernel) (by decide +kernel)
set_option maxRecDepth 20000 in
theorem gX1_canShare_X1_bearersOf : GoodIn wsX1_canShare (wsV RX1 62 RX1 yX1_bearersOf wsX1_bearersOf) := goodIn_app (goodIn_of _ (by decide +kernel)) ggX1_canShare_X1_bearersOf
set_option maxRecDepth 20000 in
theorem ggX1_canShare_J6_bitCount_0f7a4 : GoodIn wsX1_canShare wsJ6_bitCount_0f7a4 := goodIn_r _ [24, 25, 26, 27] (by decide +kernel) (by decide +kernel)
set_option maxRecDepth 20000 in
theorem gX1_canShare_J6_bitCount_0f7a4 : GoodIn wsX1_canShare (va_wsS RX1 104 yJ6_bitCount_0f7a4 wsJ6_bitCount_0f7a4) := goodIn_app (goodIn_of _ (by decide +kernel)) ggX1_canShare_J6_bitCount_0f7a4
theorem dX1_canShare_0 : decode cX1_canShare 0 = .ok (.aload_n 0, 1) := by decide +kernel
theorem dX1_canShare_1 : decode cX1_canShare 1 = .ok (.iload_n 2, 1) := by decide +kernel
theorem dX1_canShare_2 : decode cX1_canShare 2 = .ok (.invokevirtual 58, 3) := by decide +kernel
theorem dX1_canShare_5 : decode cX1_canShare 5 = .ok (.istore_n 3, 1) := by decide +kernel
theorem dX1_canShare_6 : decode cX1_canShare 6 = .ok (.iload_n 1, 1) := by decide +kernel
theorem dX1_canShare_7 : decode cX1_canShare 7 = .ok (.iload_n 2, 1) := by decide +kernel
theorem dX1_canShare_8 : decode cX1_canShare 8 = .ok (.if_icmp .eq 48, 3) := by decide +kernel
theorem dX1_canShare_11 : decode cX1_canShare 11 = .ok (.aload_n 0, 1) := by decide +kernel
theorem dX1_canShare_12 : decode cX1_canShare 12 = .ok (.iload_n 1, 1) := by decide +kernel
theorem dX1_canShare_13 : decode cX1_canShare 13 = .ok (.invokevirtual 58, 3) := by decide +kernel
theorem dX1_canShare_16 : decode cX1_canShare 16 = .ok (.bipush (-4), 2) := by decide +kernel
theorem dX1_canShare_18 : decode cX1_canShare 18 = .ok (.if_icmp .ne 38, 3) := by decide +kernel
theorem dX1_canShare_21 : decode cX1_canShare 21 = .ok (.iload_n 3, 1) := by decide +kernel
theorem dX1_canShare_22 : decode cX1_canShare 22 = .ok (.bipush (-4), 2) := by decide +kernel
theorem dX1_canShare_24 : decode cX1_canShare 24 = .ok (.if_icmp .eq 32, 3) := by decide +kernel
theorem dX1_canShare_27 : decode cX1_canShare 27 = .ok (.aload_n 0, 1) := by decide +kernel
theorem dX1_canShare_28 : decode cX1_canShare 28 = .ok (.iload_n 1, 1) := by decide +kernel
theorem dX1_canShare_29 : decode cX1_canShare 29 = .ok (.invokevirtual 72, 3) := by decide +kernel
theorem dX1_canShare_32 : decode cX1_canShare 32 = .ok (.aload_n 0, 1) := by decide +kernel
theorem dX1_canShare_33 : decode cX1_canShare 33 = .ok (.iload_n 2, 1) := by decide +kernel
theorem dX1_canShare_34 : decode cX1_canShare 34 = .ok (.invokevirtual 72, 3) := by decide +kernel
theorem dX1_canShare_37 : decode cX1_canShare 37 = .ok (.if_icmp .ne 19, 3) := by decide +kernel
theorem dX1_canShare_40 : decode cX1_canShare 40 = .ok (.aload_n 0, 1) := by decide +kernel
theorem dX1_canShare_41 : decode cX1_canShare 41 = .ok (.iload_n 3, 1) := by decide +kernel
theorem dX1_canShare_42 : decode cX1_canShare 42 = .ok (.invokevirtual 62, 3) := by decide +kernel
theorem dX1_canShare_45 : decode cX1_canShare 45 = .ok (.invokestatic 104, 3) := by decide +kernel
theorem dX1_canShare_48 : decode cX1_canShare 48 = .ok (.iconst 2, 1) := by decide +kernel
theorem dX1_canShare_49 : decode cX1_canShare 49 = .ok (.if_icmp .ge 7, 3) := by decide +kernel
theorem dX1_canShare_52 : decode cX1_canShare 52 = .ok (.iconst 1, 1) := by decide +kernel
theorem dX1_canShare_53 : decode cX1_canShare 53 = .ok (.goto 4, 3) := by decide +kernel
theorem dX1_canShare_56 : decode cX1_canShare 56 = .ok (.iconst 0, 1) := by decide +kernel
theorem dX1_canShare_57 : decode cX1_canShare 57 = .ok (.ireturn, 1) := by decide +kernel
set_option maxRecDepth 20000 in
theorem ggX1_doShare_X1_parasolOf : GoodIn wsX1_doShare wsX1_parasolOf := goodIn_r _ [7, 1, 8, 9, 10, 13, 14, 15, 16, 17, 18, 19, 20, 21] (by decide +kernel) (by decide +kernel)
set_option maxRecDepth 20000 in
theorem gX1_doShare_X1_parasolOf : GoodIn wsX1_doShare (wsV RX1 58 RX1 yX1_parasolOf wsX1_parasolOf) := goodIn_app (goodIn_of _ (by decide +kernel)) ggX1_doShare_X1_parasolOf
set_option maxRecDepth 20000 in
theorem ggX1_doShare_X7_put : GoodIn wsX1_doShare wsX7_put := goodIn_r _ [12] (by decide +kernel) (by decide +kernel)
set_option maxRecDepth 20000 in
theorem gX1_doShare_X7_put_n100 : GoodIn wsX1_doShare (wsX7_put) := ggX1_doShare_X7_put
theorem dX1_doShare_0 : decode cX1_doShare 0 = .ok (.aload_n 0, 1) := by decide +kernel
theorem dX1_doShare_1 : decode cX1_doShare 1 = .ok (.getfield 21, 3) := by decide +kernel
theorem dX1_doShare_4 : decode cX1_doShare 4 = .ok (.iload_n 1, 1) := by decide +kernel
theorem dX1_doShare_5 : decode cX1_doShare 5 = .ok (.aload_n 0, 1) := by decide +kernel
theorem dX1_doShare_6 : decode cX1_doShare 6 = .ok (.iload_n 2, 1) := by decide +kernel
theorem dX1_doShare_7 : decode cX1_doShare 7 = .ok (.invokevirtual 58, 3) := by decide +kernel
theorem dX1_doShare_10 : decode cX1_doShare 10 = .ok (.invokestatic 100, 3) := by decide +kernel
theorem dX1_doShare_13 : decode cX1_doShare 13 = .ok (.aload_n 0, 1) := by decide +kernel
theorem dX1_doShare_14 : decode cX1_doShare 14 = .ok (.dup, 1) := by decide +kernel
theorem dX1_doShare_15 : decode cX1_doShare 15 = .ok (.getfield 35, 3) := by decide +kernel
theorem dX1_doShare_18 : decode cX1_doShare 18 = .ok (.iconst 1, 1) := by decide +kernel
theorem dX1_doShare_19 : decode cX1_doShare 19 = .ok (.iload_n 1, 1) := by decide +kernel
theorem dX1_doShare_20 : decode cX1_doShare 20 = .ok (.ishl, 1) := by decide +kernel
theorem dX1_doShare_21 : decode cX1_doShare 21 = .ok (.iconst (-1), 1) := by decide +kernel
theorem dX1_doShare_22 : decode cX1_doShare 22 = .ok (.ixor, 1) := by decide +kernel
theorem dX1_doShare_23 : decode cX1_doShare 23 = .ok (.iand, 1) := by decide +kernel
theorem dX1_doShare_24 : decode cX1_doShare 24 = .ok (.putfield 35, 3) := by decide +kernel
theorem dX1_doShare_27 : decode cX1_doShare 27 = .ok (.return_, 1) := by decide +kernel
set_option maxRecDepth 20000 in
theorem ggX1_canGive_X1_parasolOf : GoodIn wsX1_canGive wsX1_parasolOf := goodIn_r _ [5, 6, 7, 8, 9, 28, 29, 30, 31, 32, 33, 34, 35, 36] (by decide +kernel) (by decide +kernel)
set_option maxRecDepth 20000 in
theorem gX1_canGive_X1_parasolOf : GoodIn wsX1_canGive (wsV RX1 58 RX1 yX1_parasolOf wsX1_parasolOf) := goodIn_app (goodIn_of _ (by decide +kernel)) ggX1_canGive_X1_parasolOf
set_option maxRecDepth 20000 in
theorem ggX1_canGive_X1_squareOf : GoodIn wsX1_canGive wsX1_squareOf := goodIn_r _ [13, 14, 7, 8, 9, 28, 29, 30, 31, 32, 33, 34, 35, 36] (by decide +kernel) (by decide +kernel)
set_option maxRecDepth 20000 in
theorem gX1_canGive_X1_squareOf : GoodIn wsX1_canGive (wsV RX1 72 RX1 yX1_squareOf wsX1_squareOf) := goodIn_app (goodIn_of _ (by decide +kernel)) ggX1_canGive_X1_squareOf
set_option maxRecDepth 20000 in
theorem ggX1_canGive_X1_bearersOf : GoodIn wsX1_canGive wsX1_bearersOf := goodIn_r _ [18, 19, 20, 1, 2, 3, 4, 5, 6, 7, 8, 9, 28, 29, 30, 31, 32, 33, 34, 35, 36, 37, 38, 39, 40, 41, 42, 43] (by decide +kernel) (by decide +kernel)
set_option maxRecDepth 20000 in
theorem gX1_canGive_X1_bearersOf : GoodIn wsX1_canGive (wsV RX1 62 RX1 yX1_bearersOf wsX1_bearersOf) := goodIn_app (goodIn_of _ (by decide +kernel)) ggX1_canGive_X1_bearersOf
set_option maxRecDepth 20000 in
theorem ggX1_canGive_J6_bitCount_0f7a4 : GoodIn wsX1_canGive wsJ6_bitCount_0f7a4 := goodIn_r _ [24, 25, 26, 27] (by decide +kernel) (by decide +kernel)
set_option maxRecDepth 20000 in
theorem gX1_canGive_J6_bitCount_0f7a4 : GoodIn wsX1_canGive (va_wsS RX1 104 yJ6_bitCount_0f7a4 wsJ6_bitCount_0f7a4) := goodIn_app (goodIn_of _ (by decide +kernel)) ggX1_canGive_J6_bitCount_0f7a4
theorem dX1_canGive_0 : decode cX1_canGive 0 = .ok (.aload_n 0, 1) := by decide +kernel
theorem dX1_canGive_1 : decode cX1_canGive 1 = .ok (.iload_n 1, 1) := by decide +kernel
theorem dX1_canGive_2 : decode cX1_canGive 2 = .ok (.invokevirtual 58, 3) := by decide +kernel
theorem dX1_canGive_5 : decode cX1_canGive 5 = .ok (.istore_n 2, 1) := by decide +kernel
theorem dX1_canGive_6 : decode cX1_canGive 6 = .ok (.iload_n 2, 1) := by decide +kernel
theorem dX1_canGive_7 : decode cX1_canGive 7 = .ok (.bipush (-4), 2) := by decide +kernel
theorem dX1_canGive_9 : decode cX1_canGive 9 = .ok (.if_icmp .eq 27, 3) := by decide +kernel
theorem dX1_canGive_12 : decode cX1_canGive 12 = .ok (.aload_n 0, 1) := by decide +kernel
theorem dX1_canGive_13 : decode cX1_canGive 13 = .ok (.iload_n 1, 1) := by decide +kernel
theorem dX1_canGive_14 : decode cX1_canGive 14 = .ok (.invokevirtual 72, 3) := by decide +kernel
theorem dX1_canGive_17 : decode cX1_canGive 17 = .ok (.ifCond .eq 15, 3) := by decide +kernel
theorem dX1_canGive_20 : decode cX1_canGive 20 = .ok (.aload_n 0, 1) := by decide +kernel
theorem dX1_canGive_21 : decode cX1_canGive 21 = .ok (.iload_n 2, 1) := by decide +kernel
theorem dX1_canGive_22 : decode cX1_canGive 22 = .ok (.invokevirtual 62, 3) := by decide +kernel
theorem dX1_canGive_25 : decode cX1_canGive 25 = .ok (.invokestatic 104, 3) := by decide +kernel
theorem dX1_canGive_28 : decode cX1_canGive 28 = .ok (.iconst 1, 1) := by decide +kernel
theorem dX1_canGive_29 : decode cX1_canGive 29 = .ok (.if_icmp .le 7, 3) := by decide +kernel
theorem dX1_canGive_32 : decode cX1_canGive 32 = .ok (.iconst 1, 1) := by decide +kernel
theorem dX1_canGive_33 : decode cX1_canGive 33 = .ok (.goto 4, 3) := by decide +kernel
theorem dX1_canGive_36 : decode cX1_canGive 36 = .ok (.iconst 0, 1) := by decide +kernel
theorem dX1_canGive_37 : decode cX1_canGive 37 = .ok (.ireturn, 1) := by decide +kernel
set_option maxRecDepth 20000 in
theorem ggX1_doGive_X7_put : GoodIn wsX1_doGive wsX7_put := goodIn_r _ [4] (by decide +kernel) (by decide +kernel)
set_option maxRecDepth 20000 in
theorem gX1_doGive_X7_put_n100 : GoodIn wsX1_doGive (wsX7_put) := ggX1_doGive_X7_put
theorem dX1_doGive_0 : decode cX1_doGive 0 = .ok (.aload_n 0, 1) := by decide +kernel
theorem dX1_doGive_1 : decode cX1_doGive 1 = .ok (.getfield 21, 3) := by decide +kernel
theorem dX1_doGive_4 : decode cX1_doGive 4 = .ok (.iload_n 1, 1) := by decide +kernel
theorem dX1_doGive_5 : decode cX1_doGive 5 = .ok (.bipush (-4), 2) := by decide +kernel
theorem dX1_doGive_7 : decode cX1_doGive 7 = .ok (.invokestatic 100, 3) := by decide +kernel
theorem dX1_doGive_10 : decode cX1_doGive 10 = .ok (.return_, 1) := by decide +kernel
set_option maxRecDepth 20000 in
theorem ggX1_canWalk_X1_isStill : GoodIn wsX1_canWalk wsX1_isStill := goodIn_r _ [6, 7, 8, 9, 10, 28, 29, 30, 31, 32, 33, 34, 35, 36] (by decide +kernel) (by decide +kernel)
set_option maxRecDepth 20000 in
theorem gX1_canWalk_X1_isStill : GoodIn wsX1_canWalk (wsV RX1 97 RX1 yX1_isStill wsX1_isStill) := goodIn_app (goodIn_of _ (by decide +kernel)) ggX1_canWalk_X1_isStill
set_option maxRecDepth 20000 in
theorem ggX1_canWalk_X1_nextSquareOf : GoodIn wsX1_canWalk wsX1_nextSquareOf := goodIn_r _ [14, 15, 16, 17, 5, 18, 19, 20, 9, 21, 28, 29, 30, 31, 32, 33, 34, 35, 36] (by decide +kernel) (by decide +kernel)
set_option maxRecDepth 20000 in
theorem gX1_canWalk_X1_nextSquareOf : GoodIn wsX1_canWalk (wsV RX1 109 RX1 yX1_nextSquareOf wsX1_nextSquareOf) := goodIn_app (goodIn_of _ (by decide +kernel)) ggX1_canWalk_X1_nextSquareOf
set_option maxRecDepth 20000 in
theorem ggX1_canWalk_X2_hasSquare : GoodIn wsX1_canWalk wsX2_hasSquare := goodIn_r _ [26, 27, 37, 38, 39, 40, 41, 42, 43] (by decide +kernel) (by decide +kernel)
set_option maxRecDepth 20000 in
theorem gX1_canWalk_X2_hasSquare : GoodIn wsX1_canWalk (wsV RX1 112 RX2 yX2_hasSquare wsX2_hasSquare) := goodIn_app (goodIn_of _ (by decide +kernel)) ggX1_canWalk_X2_hasSquare
theorem dX1_canWalk_0 : decode cX1_canWalk 0 = .ok (.aload_n 0, 1) := by decide +kernel
theorem dX1_canWalk_1 : decode cX1_canWalk 1 = .ok (.iload_n 1, 1) := by decide +kernel
theorem dX1_canWalk_2 : decode cX1_canWalk 2 = .ok (.invokevirtual 97, 3) := by decide +kernel
theorem dX1_canWalk_5 : decode cX1_canWalk 5 = .ok (.ifCond .ne 23, 3) := by decide +kernel
theorem dX1_canWalk_8 : decode cX1_canWalk 8 = .ok (.aload_n 0, 1) := by decide +kernel
theorem dX1_canWalk_9 : decode cX1_canWalk 9 = .ok (.getfield 24, 3) := by decide +kernel
theorem dX1_canWalk_12 : decode cX1_canWalk 12 = .ok (.aload_n 0, 1) := by decide +kernel
theorem dX1_canWalk_13 : decode cX1_canWalk 13 = .ok (.iload_n 1, 1) := by decide +kernel
theorem dX1_canWalk_14 : decode cX1_canWalk 14 = .ok (.iload_n 2, 1) := by decide +kernel
theorem dX1_canWalk_15 : decode cX1_canWalk 15 = .ok (.invokevirtual 109, 3) := by decide +kernel
theorem dX1_canWalk_18 : decode cX1_canWalk 18 = .ok (.invokevirtual 112, 3) := by decide +kernel
theorem dX1_canWalk_21 : decode cX1_canWalk 21 = .ok (.ifCond .eq 7, 3) := by decide +kernel
theorem dX1_canWalk_24 : decode cX1_canWalk 24 = .ok (.iconst 1, 1) := by decide +kernel
theorem dX1_canWalk_25 : decode cX1_canWalk 25 = .ok (.goto 4, 3) := by decide +kernel
theorem dX1_canWalk_28 : decode cX1_canWalk 28 = .ok (.iconst 0, 1) := by decide +kernel
theorem dX1_canWalk_29 : decode cX1_canWalk 29 = .ok (.ireturn, 1) := by decide +kernel
set_option maxRecDepth 20000 in
theorem ggX1_nextSquareOf_X1_squareOf : GoodIn wsX1_nextSquareOf wsX1_squareOf := goodIn_r _ [5, 6, 7, 8, 9, 10, 11, 12, 13, 14, 15, 16, 17, 18] (by decide +kernel) (by decide +kernel)
set_option maxRecDepth 20000 in
theorem gX1_nextSquareOf_X1_squareOf : GoodIn wsX1_nextSquareOf (wsV RX1 72 RX1 yX1_squareOf wsX1_squareOf) := goodIn_app (goodIn_of _ (by decide +kernel)) ggX1_nextSquareOf_X1_squareOf
theorem dX1_nextSquareOf_0 : decode cX1_nextSquareOf 0 = .ok (.iload_n 2, 1) := by decide +kernel
theorem dX1_nextSquareOf_1 : decode cX1_nextSquareOf 1 = .ok (.ifCond .ne 13, 3) := by decide +kernel
theorem dX1_nextSquareOf_4 : decode cX1_nextSquareOf 4 = .ok (.aload_n 0, 1) := by decide +kernel
theorem dX1_nextSquareOf_5 : decode cX1_nextSquareOf 5 = .ok (.iload_n 1, 1) := by decide +kernel
theorem dX1_nextSquareOf_6 : decode cX1_nextSquareOf 6 = .ok (.invokevirtual 72, 3) := by decide +kernel
theorem dX1_nextSquareOf_9 : decode cX1_nextSquareOf 9 = .ok (.iconst 1, 1) := by decide +kernel
theorem dX1_nextSquareOf_10 : decode cX1_nextSquareOf 10 = .ok (.iadd, 1) := by decide +kernel
theorem dX1_nextSquareOf_11 : decode cX1_nextSquareOf 11 = .ok (.goto 10, 3) := by decide +kernel
theorem dX1_nextSquareOf_14 : decode cX1_nextSquareOf 14 = .ok (.aload_n 0, 1) := by decide +kernel
theorem dX1_nextSquareOf_15 : decode cX1_nextSquareOf 15 = .ok (.iload_n 1, 1) := by decide +kernel
theorem dX1_nextSquareOf_16 : decode cX1_nextSquareOf 16 = .ok (.invokevirtual 72, 3) := by decide +kernel
theorem dX1_nextSquareOf_19 : decode cX1_nextSquareOf 19 = .ok (.iconst 1, 1) := by decide +kernel
theorem dX1_nextSquareOf_20 : decode cX1_nextSquareOf 20 = .ok (.isub, 1) := by decide +kernel
theorem dX1_nextSquareOf_21 : decode cX1_nextSquareOf 21 = .ok (.ireturn, 1) := by decide +kernel
set_option maxRecDepth 20000 in
theorem ggX1_doWalk_X1_nextSquareOf : GoodIn wsX1_doWalk wsX1_nextSquareOf := goodIn_r _ [9, 10, 11, 12, 8, 13, 3, 14, 15, 16, 30, 31, 32, 33, 34, 35, 36, 37, 38] (by decide +kernel) (by decide +kernel)
set_option maxRecDepth 20000 in
theorem gX1_doWalk_X1_nextSquareOf : GoodIn wsX1_doWalk (wsV RX1 109 RX1 yX1_nextSquareOf wsX1_nextSquareOf) := goodIn_app (goodIn_of _ (by decide +kernel)) ggX1_doWalk_X1_nextSquareOf
set_option maxRecDepth 20000 in
theorem ggX1_doWalk_X1_parasolOf : GoodIn wsX1_doWalk wsX1_parasolOf := goodIn_r _ [20, 21, 14, 15, 16, 30, 31, 32, 33, 34, 35, 36, 37, 38] (by decide +kernel) (by decide +kernel)
set_option maxRecDepth 20000 in
theorem gX1_doWalk_X1_parasolOf : GoodIn wsX1_doWalk (wsV RX1 58 RX1 yX1_parasolOf wsX1_parasolOf) := goodIn_app (goodIn_of _ (by decide +kernel)) ggX1_doWalk_X1_parasolOf
set_option maxRecDepth 20000 in
theorem ggX1_doWalk_X1_bearersOf : GoodIn wsX1_doWalk wsX1_bearersOf := goodIn_r _ [25, 1, 2, 17, 18, 19, 8, 20, 21, 14, 15, 16, 30, 31, 32, 33, 34, 35, 36, 37, 38, 39, 40, 41, 42, 43, 44, 45] (by decide +kernel) (by decide +kernel)
set_option maxRecDepth 20000 in
theorem gX1_doWalk_X1_bearersOf : GoodIn wsX1_doWalk (wsV RX1 62 RX1 yX1_bearersOf wsX1_bearersOf) := goodIn_app (goodIn_of _ (by decide +kernel)) ggX1_doWalk_X1_bearersOf
set_option maxRecDepth 20000 in
theorem ggX1_doWalk_X7_hasBit : GoodIn wsX1_doWalk wsX7_hasBit := goodIn_r _ [27] (by decide +kernel) (by decide +kernel)
set_option maxRecDepth 20000 in
theorem gX1_doWalk_X7_hasBit_n49 : GoodIn wsX1_doWalk (wsX7_hasBit) := ggX1_doWalk_X7_hasBit
set_option maxRecDepth 20000 in
theorem ggX1_doWalk_X7_put : GoodIn wsX1_doWalk wsX7_put := goodIn_r _ [29] (by decide +kernel) (by decide +kernel)
set_option maxRecDepth 20000 in
theorem gX1_doWalk_X7_put_n100 : GoodIn wsX1_doWalk (wsX7_put) := ggX1_doWalk_X7_put
theorem dX1_doWalk_0 : decode cX1_doWalk 0 = .ok (.aload_n 0, 1) := by decide +kernel
theorem dX1_doWalk_1 : decode cX1_doWalk 1 = .ok (.iload_n 1, 1) := by decide +kernel
theorem dX1_doWalk_2 : decode cX1_doWalk 2 = .ok (.iload_n 2, 1) := by decide +kernel
theorem dX1_doWalk_3 : decode cX1_doWalk 3 = .ok (.invokevirtual 109, 3) := by decide +kernel
theorem dX1_doWalk_6 : decode cX1_doWalk 6 = .ok (.istore_n 3, 1) := by decide +kernel
theorem dX1_doWalk_7 : decode cX1_doWalk 7 = .ok (.iconst 1, 1) := by decide +kernel
theorem dX1_doWalk_8 : decode cX1_doWalk 8 = .ok (.iload_n 1, 1) := by decide +kernel
theorem dX1_doWalk_9 : decode cX1_doWalk 9 = .ok (.ishl, 1) := by decide +kernel
theorem dX1_doWalk_10 : decode cX1_doWalk 10 = .ok (.istore 4, 2) := by decide +kernel
theorem dX1_doWalk_12 : decode cX1_doWalk 12 = .ok (.aload_n 0, 1) := by decide +kernel
theorem dX1_doWalk_13 : decode cX1_doWalk 13 = .ok (.iload_n 1, 1) := by decide +kernel
theorem dX1_doWalk_14 : decode cX1_doWalk 14 = .ok (.invokevirtual 58, 3) := by decide +kernel
theorem dX1_doWalk_17 : decode cX1_doWalk 17 = .ok (.bipush (-4), 2) := by decide +kernel
theorem dX1_doWalk_19 : decode cX1_doWalk 19 = .ok (.if_icmp .eq 17, 3) := by decide +kernel
theorem dX1_doWalk_22 : decode cX1_doWalk 22 = .ok (.iload 4, 2) := by decide +kernel
theorem dX1_doWalk_24 : decode cX1_doWalk 24 = .ok (.aload_n 0, 1) := by decide +kernel
theorem dX1_doWalk_25 : decode cX1_doWalk 25 = .ok (.aload_n 0, 1) := by decide +kernel
theorem dX1_doWalk_26 : decode cX1_doWalk 26 = .ok (.iload_n 1, 1) := by decide +kernel
theorem dX1_doWalk_27 : decode cX1_doWalk 27 = .ok (.invokevirtual 58, 3) := by decide +kernel
theorem dX1_doWalk_30 : decode cX1_doWalk 30 = .ok (.invokevirtual 62, 3) := by decide +kernel
theorem dX1_doWalk_33 : decode cX1_doWalk 33 = .ok (.ior, 1) := by decide +kernel
theorem dX1_doWalk_34 : decode cX1_doWalk 34 = .ok (.istore 4, 2) := by decide +kernel
theorem dX1_doWalk_36 : decode cX1_doWalk 36 = .ok (.iconst 0, 1) := by decide +kernel
theorem dX1_doWalk_37 : decode cX1_doWalk 37 = .ok (.istore 5, 2) := by decide +kernel
theorem dX1_doWalk_39 : decode cX1_doWalk 39 = .ok (.iload 5, 2) := by decide +kernel
theorem dX1_doWalk_41 : decode cX1_doWalk 41 = .ok (.aload_n 0, 1) := by decide +kernel
theorem dX1_doWalk_42 : decode cX1_doWalk 42 = .ok (.getfield 24, 3) := by decide +kernel
theorem dX1_doWalk_45 : decode cX1_doWalk 45 = .ok (.getfield 53, 3) := by decide +kernel
theorem dX1_doWalk_48 : decode cX1_doWalk 48 = .ok (.if_icmp .ge 29, 3) := by decide +kernel
theorem dX1_doWalk_51 : decode cX1_doWalk 51 = .ok (.iload 4, 2) := by decide +kernel
theorem dX1_doWalk_53 : decode cX1_doWalk 53 = .ok (.iload 5, 2) := by decide +kernel
theorem dX1_doWalk_55 : decode cX1_doWalk 55 = .ok (.invokestatic 49, 3) := by decide +kernel
theorem dX1_doWalk_58 : decode cX1_doWalk 58 = .ok (.ifCond .eq 13, 3) := by decide +kernel
theorem dX1_doWalk_61 : decode cX1_doWalk 61 = .ok (.aload_n 0, 1) := by decide +kernel
theorem dX1_doWalk_62 : decode cX1_doWalk 62 = .ok (.getfield 18, 3) := by decide +kernel
theorem dX1_doWalk_65 : decode cX1_doWalk 65 = .ok (.iload 5, 2) := by decide +kernel
theorem dX1_doWalk_67 : decode cX1_doWalk 67 = .ok (.iload_n 3, 1) := by decide +kernel
theorem dX1_doWalk_68 : decode cX1_doWalk 68 = .ok (.invokestatic 100, 3) := by decide +kernel
theorem dX1_doWalk_71 : decode cX1_doWalk 71 = .ok (.iinc 5 1, 3) := by decide +kernel
theorem dX1_doWalk_74 : decode cX1_doWalk 74 = .ok (.goto (-35), 3) := by decide +kernel
theorem dX1_doWalk_77 : decode cX1_doWalk 77 = .ok (.aload_n 0, 1) := by decide +kernel
theorem dX1_doWalk_78 : decode cX1_doWalk 78 = .ok (.dup, 1) := by decide +kernel
theorem dX1_doWalk_79 : decode cX1_doWalk 79 = .ok (.getfield 35, 3) := by decide +kernel
theorem dX1_doWalk_82 : decode cX1_doWalk 82 = .ok (.iload 4, 2) := by decide +kernel
theorem dX1_doWalk_84 : decode cX1_doWalk 84 = .ok (.iconst (-1), 1) := by decide +kernel
theorem dX1_doWalk_85 : decode cX1_doWalk 85 = .ok (.ixor, 1) := by decide +kernel
theorem dX1_doWalk_86 : decode cX1_doWalk 86 = .ok (.iand, 1) := by decide +kernel
theorem dX1_doWalk_87 : decode cX1_doWalk 87 = .ok (.putfield 35, 3) := by decide +kernel
theorem dX1_doWalk_90 : decode cX1_doWalk 90 = .ok (.return_, 1) := by decide +kernel
set_option maxRecDepth 20000 in
theorem ggX1_doMend_X7_put : GoodIn wsX1_doMend wsX7_put := goodIn_r _ [4] (by decide +kernel) (by decide +kernel)
set_option maxRecDepth 20000 in
theorem gX1_doMend_X7_put_n100 : GoodIn wsX1_doMend (wsX7_put) := ggX1_doMend_X7_put
theorem dX1_doMend_0 : decode cX1_doMend 0 = .ok (.aload_n 0, 1) := by decide +kernel
theorem dX1_doMend_1 : decode cX1_doMend 1 = .ok (.getfield 15, 3) := by decide +kernel
theorem dX1_doMend_4 : decode cX1_doMend 4 = .ok (.iload_n 1, 1) := by decide +kernel
theorem dX1_doMend_5 : decode cX1_doMend 5 = .ok (.iconst 0, 1) := by decide +kernel
theorem dX1_doMend_6 : decode cX1_doMend 6 = .ok (.invokestatic 100, 3) := by decide +kernel
theorem dX1_doMend_9 : decode cX1_doMend 9 = .ok (.return_, 1) := by decide +kernel
set_option maxRecDepth 20000 in
theorem ggX1_goOn_X1_doWorks : GoodIn wsX1_goOn wsX1_doWorks := goodIn_r _ [7, 8, 9, 10, 11, 12, 13, 6, 14, 15, 16, 17, 18, 19, 20, 21, 22, 23, 24, 25, 26, 27, 28, 29, 30, 31, 32, 33, 34, 35, 36, 37, 38, 39, 40, 41, 42, 43, 44, 45, 46, 47, 48, 49, 50, 51, 52, 53, 54, 55, 56, 57, 58, 59, 60, 61, 62, 63, 64, 126, 127, 128, 129, 130, 131, 132, 133, 134, 135, 136, 137, 138, 139, 140, 141] (by decide +kernel) (by decide +kernel)
set_option maxRecDepth 20000 in
theorem gX1_goOn_X1_doWorks : GoodIn wsX1_goOn (wsV RX1 115 RX1 yX1_doWorks wsX1_doWorks) := goodIn_app (goodIn_of _ (by decide +kernel)) ggX1_goOn_X1_doWorks
set_option maxRecDepth 20000 in
theorem ggX1_goOn_X1_appointments : GoodIn wsX1_goOn wsX1_appointments := goodIn_r _ [68, 8, 69, 45, 46, 47, 6, 48, 49, 24, 17, 25, 70, 71, 72, 73, 9, 19, 20, 21, 22, 23, 35, 36, 37, 38, 39, 74, 75, 76, 77, 78, 79, 80, 81, 126, 127, 128, 129, 130, 131, 132, 133, 134, 135, 136, 137, 138, 139, 140, 141] (by decide +kernel) (by decide +kernel)
set_option maxRecDepth 20000 in
theorem gX1_goOn_X1_appointments : GoodIn wsX1_goOn (wsV RX1 118 RX1 yX1_appointments wsX1_appointments) := goodIn_app (goodIn_of _ (by decide +kernel)) ggX1_goOn_X1_appointments
set_option maxRecDepth 20000 in
theorem ggX1_goOn_X1_standStill : GoodIn wsX1_goOn wsX1_standStill := goodIn_r _ [85, 8, 9, 15, 86, 87, 88, 6, 89, 19, 20, 21, 22, 23, 24, 17, 25, 35, 36, 37, 38, 39, 40, 41, 42, 43, 44, 126, 127, 128, 129, 130, 131, 132, 133, 134, 135, 136, 137, 138, 139, 140, 141] (by decide +kernel) (by decide +kernel)
set_option maxRecDepth 20000 in
theorem gX1_goOn_X1_standStill : GoodIn wsX1_goOn (wsV RX1 122 RX1 yX1_standStill wsX1_standStill) := goodIn_app (goodIn_of _ (by decide +kernel)) ggX1_goOn_X1_standStill
set_option maxRecDepth 20000 in
theorem ggX1_goOn_X1_turnParasols : GoodIn wsX1_goOn wsX1_turnParasols := goodIn_r _ [93, 8, 69, 49, 44, 74, 75, 76, 6, 77, 78, 79, 80, 81, 9, 19, 20, 21, 22, 23, 24, 17, 25, 94, 95, 96, 97, 45, 46, 47, 48, 98, 99, 100, 101, 2, 102, 103, 104, 53, 105, 106, 107, 108, 109, 110, 111, 112, 113, 114, 115, 116, 117, 118, 119, 120, 121, 122, 123, 40, 41, 42, 43, 124, 125, 126, 127, 128, 129, 130, 131, 132, 133, 134, 135, 136, 137, 138, 139, 140, 141] (by decide +kernel) (by decide +kernel)
set_option maxRecDepth 20000 in
theorem gX1_goOn_X1_turnParasols : GoodIn wsX1_goOn (wsV RX1 125 RX1 yX1_turnParasols wsX1_turnParasols) := goodIn_app (goodIn_of _ (by decide +kernel)) ggX1_goOn_X1_turnParasols
theorem dX1_goOn_0 : decode cX1_goOn 0 = .ok (.iconst 0, 1) := by decide +kernel
theorem dX1_goOn_1 : decode cX1_goOn 1 = .ok (.istore_n 2, 1) := by decide +kernel
theorem dX1_goOn_2 : decode cX1_goOn 2 = .ok (.iload_n 2, 1) := by decide +kernel
theorem dX1_goOn_3 : decode cX1_goOn 3 = .ok (.iload_n 1, 1) := by decide +kernel
theorem dX1_goOn_4 : decode cX1_goOn 4 = .ok (.if_icmp .ge 44, 3) := by decide +kernel
theorem dX1_goOn_7 : decode cX1_goOn 7 = .ok (.aload_n 0, 1) := by decide +kernel
theorem dX1_goOn_8 : decode cX1_goOn 8 = .ok (.invokevirtual 115, 3) := by decide +kernel
theorem dX1_goOn_11 : decode cX1_goOn 11 = .ok (.aload_n 0, 1) := by decide +kernel
theorem dX1_goOn_12 : decode cX1_goOn 12 = .ok (.dup, 1) := by decide +kernel
theorem dX1_goOn_13 : decode cX1_goOn 13 = .ok (.getfield 32, 3) := by decide +kernel
theorem dX1_goOn_16 : decode cX1_goOn 16 = .ok (.aload_n 0, 1) := by decide +kernel
theorem dX1_goOn_17 : decode cX1_goOn 17 = .ok (.invokevirtual 118, 3) := by decide +kernel
theorem dX1_goOn_20 : decode cX1_goOn 20 = .ok (.iadd, 1) := by decide +kernel
theorem dX1_goOn_21 : decode cX1_goOn 21 = .ok (.putfield 32, 3) := by decide +kernel
theorem dX1_goOn_24 : decode cX1_goOn 24 = .ok (.aload_n 0, 1) := by decide +kernel
theorem dX1_goOn_25 : decode cX1_goOn 25 = .ok (.invokevirtual 122, 3) := by decide +kernel
theorem dX1_goOn_28 : decode cX1_goOn 28 = .ok (.aload_n 0, 1) := by decide +kernel
theorem dX1_goOn_29 : decode cX1_goOn 29 = .ok (.invokevirtual 125, 3) := by decide +kernel
theorem dX1_goOn_32 : decode cX1_goOn 32 = .ok (.aload_n 0, 1) := by decide +kernel
theorem dX1_goOn_33 : decode cX1_goOn 33 = .ok (.dup, 1) := by decide +kernel
theorem dX1_goOn_34 : decode cX1_goOn 34 = .ok (.getfield 28, 3) := by decide +kernel
theorem dX1_goOn_37 : decode cX1_goOn 37 = .ok (.iconst 1, 1) := by decide +kernel
theorem dX1_goOn_38 : decode cX1_goOn 38 = .ok (.iadd, 1) := by decide +kernel
theorem dX1_goOn_39 : decode cX1_goOn 39 = .ok (.putfield 28, 3) := by decide +kernel
theorem dX1_goOn_42 : decode cX1_goOn 42 = .ok (.iinc 2 1, 3) := by decide +kernel
theorem dX1_goOn_45 : decode cX1_goOn 45 = .ok (.goto (-43), 3) := by decide +kernel
theorem dX1_goOn_48 : decode cX1_goOn 48 = .ok (.return_, 1) := by decide +kernel
set_option maxRecDepth 20000 in
theorem ggX1_doWorks_X1_isStill : GoodIn wsX1_doWorks wsX1_isStill := goodIn_r _ [8, 9, 10, 11, 12, 59, 60, 61, 62, 63, 64, 65, 66, 67] (by decide +kernel) (by decide +kernel)
set_option maxRecDepth 20000 in
theorem gX1_doWorks_X1_isStill : GoodIn wsX1_doWorks (wsV RX1 97 RX1 yX1_isStill wsX1_isStill) := goodIn_app (goodIn_of _ (by decide +kernel)) ggX1_doWorks_X1_isStill
set_option maxRecDepth 20000 in
theorem ggX1_doWorks_X1_parasolOf : GoodIn wsX1_doWorks wsX1_parasolOf := goodIn_r _ [16, 17, 18, 11, 19, 59, 60, 61, 62, 63, 64, 65, 66, 67] (by decide +kernel) (by decide +kernel)
set_option maxRecDepth 20000 in
theorem gX1_doWorks_X1_parasolOf : GoodIn wsX1_doWorks (wsV RX1 58 RX1 yX1_parasolOf wsX1_parasolOf) := goodIn_app (goodIn_of _ (by decide +kernel)) ggX1_doWorks_X1_parasolOf
set_option maxRecDepth 20000 in
theorem ggX1_doWorks_X1_worksOf : GoodIn wsX1_doWorks wsX1_worksOf := goodIn_r _ [23, 1, 24, 25, 26, 27, 7, 28, 29, 30, 31, 32, 33, 18, 11, 19, 34, 35, 36, 37, 38, 39, 40, 41, 42, 43, 44, 45, 46, 47, 48, 49, 50, 51, 52, 53, 54, 55, 56, 57, 58, 3, 10, 12, 59, 60, 61, 62, 63, 64, 65, 66, 67, 68, 69, 70, 71, 72, 73, 74] (by decide +kernel) (by decide +kernel)
set_option maxRecDepth 20000 in
theorem gX1_doWorks_X1_worksOf : GoodIn wsX1_doWorks (wsV RX1 128 RX1 yX1_worksOf wsX1_worksOf) := goodIn_app (goodIn_of _ (by decide +kernel)) ggX1_doWorks_X1_worksOf
theorem dX1_doWorks_0 : decode cX1_doWorks 0 = .ok (.iconst 0, 1) := by decide +kernel
theorem dX1_doWorks_1 : decode cX1_doWorks 1 = .ok (.istore_n 1, 1) := by decide +kernel
theorem dX1_doWorks_2 : decode cX1_doWorks 2 = .ok (.iload_n 1, 1) := by decide +kernel
theorem dX1_doWorks_3 : decode cX1_doWorks 3 = .ok (.aload_n 0, 1) := by decide +kernel
theorem dX1_doWorks_4 : decode cX1_doWorks 4 = .ok (.getfield 24, 3) := by decide +kernel
theorem dX1_doWorks_7 : decode cX1_doWorks 7 = .ok (.getfield 53, 3) := by decide +kernel
theorem dX1_doWorks_10 : decode cX1_doWorks 10 = .ok (.if_icmp .ge 36, 3) := by decide +kernel
theorem dX1_doWorks_13 : decode cX1_doWorks 13 = .ok (.aload_n 0, 1) := by decide +kernel
theorem dX1_doWorks_14 : decode cX1_doWorks 14 = .ok (.iload_n 1, 1) := by decide +kernel
theorem dX1_doWorks_15 : decode cX1_doWorks 15 = .ok (.invokevirtual 97, 3) := by decide +kernel
theorem dX1_doWorks_18 : decode cX1_doWorks 18 = .ok (.ifCond .ne 22, 3) := by decide +kernel
theorem dX1_doWorks_21 : decode cX1_doWorks 21 = .ok (.aload_n 0, 1) := by decide +kernel
theorem dX1_doWorks_22 : decode cX1_doWorks 22 = .ok (.dup, 1) := by decide +kernel
theorem dX1_doWorks_23 : decode cX1_doWorks 23 = .ok (.getfield 38, 3) := by decide +kernel
theorem dX1_doWorks_26 : decode cX1_doWorks 26 = .ok (.aload_n 0, 1) := by decide +kernel
theorem dX1_doWorks_27 : decode cX1_doWorks 27 = .ok (.iload_n 1, 1) := by decide +kernel
theorem dX1_doWorks_28 : decode cX1_doWorks 28 = .ok (.aload_n 0, 1) := by decide +kernel
theorem dX1_doWorks_29 : decode cX1_doWorks 29 = .ok (.iload_n 1, 1) := by decide +kernel
theorem dX1_doWorks_30 : decode cX1_doWorks 30 = .ok (.invokevirtual 58, 3) := by decide +kernel
theorem dX1_doWorks_33 : decode cX1_doWorks 33 = .ok (.invokevirtual 128, 3) := by decide +kernel
theorem dX1_doWorks_36 : decode cX1_doWorks 36 = .ok (.ior, 1) := by decide +kernel
theorem dX1_doWorks_37 : decode cX1_doWorks 37 = .ok (.putfield 38, 3) := by decide +kernel
theorem dX1_doWorks_40 : decode cX1_doWorks 40 = .ok (.iinc 1 1, 3) := by decide +kernel
theorem dX1_doWorks_43 : decode cX1_doWorks 43 = .ok (.goto (-41), 3) := by decide +kernel
theorem dX1_doWorks_46 : decode cX1_doWorks 46 = .ok (.return_, 1) := by decide +kernel
set_option maxRecDepth 20000 in
theorem ggX1_appointments_X1_hourOf : GoodIn wsX1_appointments wsX1_hourOf := goodIn_r _ [7, 8, 9, 10, 11, 35, 36, 37, 38, 39, 40, 41, 42, 43] (by decide +kernel) (by decide +kernel)
set_option maxRecDepth 20000 in
theorem gX1_appointments_X1_hourOf : GoodIn wsX1_appointments (wsV RX1 78 RX1 yX1_hourOf wsX1_hourOf) := goodIn_app (goodIn_of _ (by decide +kernel)) ggX1_appointments_X1_hourOf
set_option maxRecDepth 20000 in
theorem ggX1_appointments_X1_squareOfParasol : GoodIn wsX1_appointments wsX1_squareOfParasol := goodIn_r _ [15, 1, 16, 17, 18, 19, 6, 20, 21, 9, 10, 11, 22, 23, 24, 25, 26, 35, 36, 37, 38, 39, 40, 41, 42, 43, 44, 45, 46, 47, 48, 49, 50] (by decide +kernel) (by decide +kernel)
set_option maxRecDepth 20000 in
theorem gX1_appointments_X1_squareOfParasol : GoodIn wsX1_appointments (wsV RX1 131 RX1 yX1_squareOfParasol wsX1_squareOfParasol) := goodIn_app (goodIn_of _ (by decide +kernel)) ggX1_appointments_X1_squareOfParasol
set_option maxRecDepth 20000 in
theorem ggX1_appointments_X1_isInStand : GoodIn wsX1_appointments wsX1_isInStand := goodIn_r _ [30, 31, 32, 33, 6, 34, 1, 16, 17, 18, 19, 20, 21, 9, 10, 11, 35, 36, 37, 38, 39, 40, 41, 42, 43, 44, 45, 46, 47, 48, 49, 50] (by decide +kernel) (by decide +kernel)
set_option maxRecDepth 20000 in
theorem gX1_appointments_X1_isInStand : GoodIn wsX1_appointments (wsV RX1 68 RX1 yX1_isInStand wsX1_isInStand) := goodIn_app (goodIn_of _ (by decide +kernel)) ggX1_appointments_X1_isInStand
theorem dX1_appointments_0 : decode cX1_appointments 0 = .ok (.iconst 0, 1) := by decide +kernel
theorem dX1_appointments_1 : decode cX1_appointments 1 = .ok (.istore_n 1, 1) := by decide +kernel
theorem dX1_appointments_2 : decode cX1_appointments 2 = .ok (.iconst 0, 1) := by decide +kernel
theorem dX1_appointments_3 : decode cX1_appointments 3 = .ok (.istore_n 2, 1) := by decide +kernel
theorem dX1_appointments_4 : decode cX1_appointments 4 = .ok (.iload_n 2, 1) := by decide +kernel
theorem dX1_appointments_5 : decode cX1_appointments 5 = .ok (.aload_n 0, 1) := by decide +kernel
theorem dX1_appointments_6 : decode cX1_appointments 6 = .ok (.getfield 24, 3) := by decide +kernel
theorem dX1_appointments_9 : decode cX1_appointments 9 = .ok (.getfield 65, 3) := by decide +kernel
theorem dX1_appointments_12 : decode cX1_appointments 12 = .ok (.if_icmp .ge 75, 3) := by decide +kernel
theorem dX1_appointments_15 : decode cX1_appointments 15 = .ok (.iload_n 2, 1) := by decide +kernel
theorem dX1_appointments_16 : decode cX1_appointments 16 = .ok (.iconst 1, 1) := by decide +kernel
theorem dX1_appointments_17 : decode cX1_appointments 17 = .ok (.iadd, 1) := by decide +kernel
theorem dX1_appointments_18 : decode cX1_appointments 18 = .ok (.istore_n 3, 1) := by decide +kernel
theorem dX1_appointments_19 : decode cX1_appointments 19 = .ok (.iload_n 3, 1) := by decide +kernel
theorem dX1_appointments_20 : decode cX1_appointments 20 = .ok (.aload_n 0, 1) := by decide +kernel
theorem dX1_appointments_21 : decode cX1_appointments 21 = .ok (.getfield 24, 3) := by decide +kernel
theorem dX1_appointments_24 : decode cX1_appointments 24 = .ok (.getfield 65, 3) := by decide +kernel
theorem dX1_appointments_27 : decode cX1_appointments 27 = .ok (.if_icmp .ge 54, 3) := by decide +kernel
theorem dX1_appointments_30 : decode cX1_appointments 30 = .ok (.aload_n 0, 1) := by decide +kernel
theorem dX1_appointments_31 : decode cX1_appointments 31 = .ok (.iload_n 2, 1) := by decide +kernel
theorem dX1_appointments_32 : decode cX1_appointments 32 = .ok (.invokevirtual 78, 3) := by decide +kernel
theorem dX1_appointments_35 : decode cX1_appointments 35 = .ok (.aload_n 0, 1) := by decide +kernel
theorem dX1_appointments_36 : decode cX1_appointments 36 = .ok (.iload_n 3, 1) := by decide +kernel
theorem dX1_appointments_37 : decode cX1_appointments 37 = .ok (.invokevirtual 78, 3) := by decide +kernel
theorem dX1_appointments_40 : decode cX1_appointments 40 = .ok (.if_icmp .ne 35, 3) := by decide +kernel
theorem dX1_appointments_43 : decode cX1_appointments 43 = .ok (.aload_n 0, 1) := by decide +kernel
theorem dX1_appointments_44 : decode cX1_appointments 44 = .ok (.iload_n 2, 1) := by decide +kernel
theorem dX1_appointments_45 : decode cX1_appointments 45 = .ok (.invokevirtual 131, 3) := by decide +kernel
theorem dX1_appointments_48 : decode cX1_appointments 48 = .ok (.aload_n 0, 1) := by decide +kernel
theorem dX1_appointments_49 : decode cX1_appointments 49 = .ok (.iload_n 3, 1) := by decide +kernel
theorem dX1_appointments_50 : decode cX1_appointments 50 = .ok (.invokevirtual 131, 3) := by decide +kernel
theorem dX1_appointments_53 : decode cX1_appointments 53 = .ok (.if_icmp .ne 22, 3) := by decide +kernel
theorem dX1_appointments_56 : decode cX1_appointments 56 = .ok (.aload_n 0, 1) := by decide +kernel
theorem dX1_appointments_57 : decode cX1_appointments 57 = .ok (.iload_n 2, 1) := by decide +kernel
theorem dX1_appointments_58 : decode cX1_appointments 58 = .ok (.invokevirtual 68, 3) := by decide +kernel
theorem dX1_appointments_61 : decode cX1_appointments 61 = .ok (.ifCond .ne 14, 3) := by decide +kernel
theorem dX1_appointments_64 : decode cX1_appointments 64 = .ok (.aload_n 0, 1) := by decide +kernel
theorem dX1_appointments_65 : decode cX1_appointments 65 = .ok (.iload_n 3, 1) := by decide +kernel
theorem dX1_appointments_66 : decode cX1_appointments 66 = .ok (.invokevirtual 68, 3) := by decide +kernel
theorem dX1_appointments_69 : decode cX1_appointments 69 = .ok (.ifCond .ne 6, 3) := by decide +kernel
theorem dX1_appointments_72 : decode cX1_appointments 72 = .ok (.iinc 1 1, 3) := by decide +kernel
theorem dX1_appointments_75 : decode cX1_appointments 75 = .ok (.iinc 3 1, 3) := by decide +kernel
theorem dX1_appointments_78 : decode cX1_appointments 78 = .ok (.goto (-59), 3) := by decide +kernel
theorem dX1_appointments_81 : decode cX1_appointments 81 = .ok (.iinc 2 1, 3) := by decide +kernel
theorem dX1_appointments_84 : decode cX1_appointments 84 = .ok (.goto (-80), 3) := by decide +kernel
theorem dX1_appointments_87 : decode cX1_appointments 87 = .ok (.iload_n 1, 1) := by decide +kernel
theorem dX1_appointments_88 : decode cX1_appointments 88 = .ok (.ireturn, 1) := by decide +kernel
set_option maxRecDepth 20000 in
theorem ggX1_standStill_X1_hasShade : GoodIn wsX1_standStill wsX1_hasShade := goodIn_r _ [8, 9, 10, 11, 7, 12, 13, 14, 15, 16, 17, 18, 19, 20, 21, 22, 23, 24, 25, 26, 27, 28, 29, 30, 31, 32, 33, 34, 35] (by decide +kernel) (by decide +kernel)
set_option maxRecDepth 20000 in
theorem gX1_standStill_X1_hasShade : GoodIn wsX1_standStill (wsV RX1 134 RX1 yX1_hasShade wsX1_hasShade) := goodIn_app (goodIn_of _ (by decide +kernel)) ggX1_standStill_X1_hasShade
theorem dX1_standStill_0 : decode cX1_standStill 0 = .ok (.iconst 0, 1) := by decide +kernel
theorem dX1_standStill_1 : decode cX1_standStill 1 = .ok (.istore_n 1, 1) := by decide +kernel
theorem dX1_standStill_2 : decode cX1_standStill 2 = .ok (.iload_n 1, 1) := by decide +kernel
theorem dX1_standStill_3 : decode cX1_standStill 3 = .ok (.aload_n 0, 1) := by decide +kernel
theorem dX1_standStill_4 : decode cX1_standStill 4 = .ok (.getfield 24, 3) := by decide +kernel
theorem dX1_standStill_7 : decode cX1_standStill 7 = .ok (.getfield 53, 3) := by decide +kernel
theorem dX1_standStill_10 : decode cX1_standStill 10 = .ok (.if_icmp .ge 29, 3) := by decide +kernel
theorem dX1_standStill_13 : decode cX1_standStill 13 = .ok (.aload_n 0, 1) := by decide +kernel
theorem dX1_standStill_14 : decode cX1_standStill 14 = .ok (.iload_n 1, 1) := by decide +kernel
theorem dX1_standStill_15 : decode cX1_standStill 15 = .ok (.invokevirtual 134, 3) := by decide +kernel
theorem dX1_standStill_18 : decode cX1_standStill 18 = .ok (.ifCond .ne 15, 3) := by decide +kernel
theorem dX1_standStill_21 : decode cX1_standStill 21 = .ok (.aload_n 0, 1) := by decide +kernel
theorem dX1_standStill_22 : decode cX1_standStill 22 = .ok (.dup, 1) := by decide +kernel
theorem dX1_standStill_23 : decode cX1_standStill 23 = .ok (.getfield 35, 3) := by decide +kernel
theorem dX1_standStill_26 : decode cX1_standStill 26 = .ok (.iconst 1, 1) := by decide +kernel
theorem dX1_standStill_27 : decode cX1_standStill 27 = .ok (.iload_n 1, 1) := by decide +kernel
theorem dX1_standStill_28 : decode cX1_standStill 28 = .ok (.ishl, 1) := by decide +kernel
theorem dX1_standStill_29 : decode cX1_standStill 29 = .ok (.ior, 1) := by decide +kernel
theorem dX1_standStill_30 : decode cX1_standStill 30 = .ok (.putfield 35, 3) := by decide +kernel
theorem dX1_standStill_33 : decode cX1_standStill 33 = .ok (.iinc 1 1, 3) := by decide +kernel
theorem dX1_standStill_36 : decode cX1_standStill 36 = .ok (.goto (-34), 3) := by decide +kernel
theorem dX1_standStill_39 : decode cX1_standStill 39 = .ok (.return_, 1) := by decide +kernel
set_option maxRecDepth 20000 in
theorem ggX1_turnParasols_X1_isInStand : GoodIn wsX1_turnParasols wsX1_isInStand := goodIn_r _ [9, 10, 11, 12, 8, 13, 1, 14, 15, 16, 17, 18, 19, 20, 21, 22, 65, 66, 67, 68, 69, 70, 71, 72, 73, 74, 75, 76, 77, 78, 79, 80] (by decide +kernel) (by decide +kernel)
set_option maxRecDepth 20000 in
theorem gX1_turnParasols_X1_isInStand : GoodIn wsX1_turnParasols (wsV RX1 68 RX1 yX1_isInStand wsX1_isInStand) := goodIn_app (goodIn_of _ (by decide +kernel)) ggX1_turnParasols_X1_isInStand
set_option maxRecDepth 20000 in
theorem ggX1_turnParasols_X1_hourBehind : GoodIn wsX1_turnParasols wsX1_hourBehind := goodIn_r _ [26, 27, 28, 29, 8, 30, 3, 20, 21, 22, 31, 32, 33, 34, 1, 35, 36, 37, 38, 39, 40, 41, 42, 43, 44, 45, 46, 47, 48, 65, 66, 67, 68, 69, 70, 71, 72, 73, 74, 75, 76, 77, 78, 79, 80] (by decide +kernel) (by decide +kernel)
set_option maxRecDepth 20000 in
theorem gX1_turnParasols_X1_hourBehind : GoodIn wsX1_turnParasols (wsV RX1 137 RX1 yX1_hourBehind wsX1_hourBehind) := goodIn_app (goodIn_of _ (by decide +kernel)) ggX1_turnParasols_X1_hourBehind
set_option maxRecDepth 20000 in
theorem ggX1_turnParasols_X7_put : GoodIn wsX1_turnParasols wsX7_put := goodIn_r _ [50] (by decide +kernel) (by decide +kernel)
set_option maxRecDepth 20000 in
theorem gX1_turnParasols_X7_put_n100 : GoodIn wsX1_turnParasols (wsX7_put) := ggX1_turnParasols_X7_put
set_option maxRecDepth 20000 in
theorem ggX1_turnParasols_X1_wornBehind : GoodIn wsX1_turnParasols wsX1_wornBehind := goodIn_r _ [54, 1, 35, 55, 56, 57, 58, 59, 60, 61, 8, 62, 4, 20, 21, 22, 36, 37, 38, 39, 40, 41, 63, 64, 44, 45, 46, 65, 66, 67, 68, 69, 70, 71, 72, 73, 74, 75, 76, 77, 78, 79, 80] (by decide +kernel) (by decide +kernel)
set_option maxRecDepth 20000 in
theorem gX1_turnParasols_X1_wornBehind : GoodIn wsX1_turnParasols (wsV RX1 140 RX1 yX1_wornBehind wsX1_wornBehind) := goodIn_app (goodIn_of _ (by decide +kernel)) ggX1_turnParasols_X1_wornBehind
theorem dX1_turnParasols_0 : decode cX1_turnParasols 0 = .ok (.iconst 0, 1) := by decide +kernel
theorem dX1_turnParasols_1 : decode cX1_turnParasols 1 = .ok (.istore_n 1, 1) := by decide +kernel
theorem dX1_turnParasols_2 : decode cX1_turnParasols 2 = .ok (.iload_n 1, 1) := by decide +kernel
theorem dX1_turnParasols_3 : decode cX1_turnParasols 3 = .ok (.aload_n 0, 1) := by decide +kernel
theorem dX1_turnParasols_4 : decode cX1_turnParasols 4 = .ok (.getfield 24, 3) := by decide +kernel
theorem dX1_turnParasols_7 : decode cX1_turnParasols 7 = .ok (.getfield 65, 3) := by decide +kernel
theorem dX1_turnParasols_10 : decode cX1_turnParasols 10 = .ok (.if_icmp .ge 45, 3) := by decide +kernel
theorem dX1_turnParasols_13 : decode cX1_turnParasols 13 = .ok (.aload_n 0, 1) := by decide +kernel
theorem dX1_turnParasols_14 : decode cX1_turnParasols 14 = .ok (.iload_n 1, 1) := by decide +kernel
theorem dX1_turnParasols_15 : decode cX1_turnParasols 15 = .ok (.invokevirtual 68, 3) := by decide +kernel
theorem dX1_turnParasols_18 : decode cX1_turnParasols 18 = .ok (.ifCond .ne 31, 3) := by decide +kernel
theorem dX1_turnParasols_21 : decode cX1_turnParasols 21 = .ok (.aload_n 0, 1) := by decide +kernel
theorem dX1_turnParasols_22 : decode cX1_turnParasols 22 = .ok (.getfield 9, 3) := by decide +kernel
theorem dX1_turnParasols_25 : decode cX1_turnParasols 25 = .ok (.iload_n 1, 1) := by decide +kernel
theorem dX1_turnParasols_26 : decode cX1_turnParasols 26 = .ok (.aload_n 0, 1) := by decide +kernel
theorem dX1_turnParasols_27 : decode cX1_turnParasols 27 = .ok (.iload_n 1, 1) := by decide +kernel
theorem dX1_turnParasols_28 : decode cX1_turnParasols 28 = .ok (.iconst 1, 1) := by decide +kernel
theorem dX1_turnParasols_29 : decode cX1_turnParasols 29 = .ok (.invokevirtual 137, 3) := by decide +kernel
theorem dX1_turnParasols_32 : decode cX1_turnParasols 32 = .ok (.invokestatic 100, 3) := by decide +kernel
theorem dX1_turnParasols_35 : decode cX1_turnParasols 35 = .ok (.aload_n 0, 1) := by decide +kernel
theorem dX1_turnParasols_36 : decode cX1_turnParasols 36 = .ok (.getfield 15, 3) := by decide +kernel
theorem dX1_turnParasols_39 : decode cX1_turnParasols 39 = .ok (.iload_n 1, 1) := by decide +kernel
theorem dX1_turnParasols_40 : decode cX1_turnParasols 40 = .ok (.aload_n 0, 1) := by decide +kernel
theorem dX1_turnParasols_41 : decode cX1_turnParasols 41 = .ok (.iload_n 1, 1) := by decide +kernel
theorem dX1_turnParasols_42 : decode cX1_turnParasols 42 = .ok (.iconst 1, 1) := by decide +kernel
theorem dX1_turnParasols_43 : decode cX1_turnParasols 43 = .ok (.invokevirtual 140, 3) := by decide +kernel
theorem dX1_turnParasols_46 : decode cX1_turnParasols 46 = .ok (.invokestatic 100, 3) := by decide +kernel
theorem dX1_turnParasols_49 : decode cX1_turnParasols 49 = .ok (.iinc 1 1, 3) := by decide +kernel
theorem dX1_turnParasols_52 : decode cX1_turnParasols 52 = .ok (.goto (-50), 3) := by decide +kernel
theorem dX1_turnParasols_55 : decode cX1_turnParasols 55 = .ok (.return_, 1) := by decide +kernel
set_option maxRecDepth 20000 in
theorem ggX1_hourBehind_X1_hourOf : GoodIn wsX1_hourBehind wsX1_hourOf := goodIn_r _ [5, 6, 7, 8, 9, 29, 30, 31, 32, 33, 34, 35, 36, 37] (by decide +kernel) (by decide +kernel)
set_option maxRecDepth 20000 in
theorem gX1_hourBehind_X1_hourOf : GoodIn wsX1_hourBehind (wsV RX1 78 RX1 yX1_hourOf wsX1_hourOf) := goodIn_app (goodIn_of _ (by decide +kernel)) ggX1_hourBehind_X1_hourOf
set_option maxRecDepth 20000 in
theorem ggX1_hourBehind_X1_hourFrom : GoodIn wsX1_hourBehind wsX1_hourFrom := goodIn_r _ [13, 14, 15, 16, 17, 18, 19, 20, 21, 7, 8, 9, 22, 23, 24, 25, 26, 27, 28, 29, 30, 31, 32, 33, 34, 35, 36, 37, 38, 39, 40, 41, 42, 43, 44] (by decide +kernel) (by decide +kernel)
set_option maxRecDepth 20000 in
theorem gX1_hourBehind_X1_hourFrom : GoodIn wsX1_hourBehind (wsV RX1 143 RX1 yX1_hourFrom wsX1_hourFrom) := goodIn_app (goodIn_of _ (by decide +kernel)) ggX1_hourBehind_X1_hourFrom
theorem dX1_hourBehind_0 : decode cX1_hourBehind 0 = .ok (.aload_n 0, 1) := by decide +kernel
theorem dX1_hourBehind_1 : decode cX1_hourBehind 1 = .ok (.iload_n 1, 1) := by decide +kernel
theorem dX1_hourBehind_2 : decode cX1_hourBehind 2 = .ok (.aload_n 0, 1) := by decide +kernel
theorem dX1_hourBehind_3 : decode cX1_hourBehind 3 = .ok (.iload_n 1, 1) := by decide +kernel
theorem dX1_hourBehind_4 : decode cX1_hourBehind 4 = .ok (.invokevirtual 78, 3) := by decide +kernel
theorem dX1_hourBehind_7 : decode cX1_hourBehind 7 = .ok (.iload_n 2, 1) := by decide +kernel
theorem dX1_hourBehind_8 : decode cX1_hourBehind 8 = .ok (.invokevirtual 143, 3) := by decide +kernel
theorem dX1_hourBehind_11 : decode cX1_hourBehind 11 = .ok (.ireturn, 1) := by decide +kernel
set_option maxRecDepth 20000 in
theorem ggX1_hourFrom_X2_kindOf : GoodIn wsX1_hourFrom wsX2_kindOf := goodIn_r _ [7, 8, 9, 10, 11, 28, 29, 30, 31, 32, 33, 34] (by decide +kernel) (by decide +kernel)
set_option maxRecDepth 20000 in
theorem gX1_hourFrom_X2_kindOf : GoodIn wsX1_hourFrom (wsV RX1 147 RX2 yX2_kindOf wsX2_kindOf) := goodIn_app (goodIn_of _ (by decide +kernel)) ggX1_hourFrom_X2_kindOf
set_option maxRecDepth 20000 in
theorem ggX1_hourFrom_X7_turnsOf : GoodIn wsX1_hourFrom wsX7_turnsOf := goodIn_r _ [13, 14, 15, 10, 16] (by decide +kernel) (by decide +kernel)
set_option maxRecDepth 20000 in
theorem gX1_hourFrom_X7_turnsOf_n150 : GoodIn wsX1_hourFrom (wsX7_turnsOf) := ggX1_hourFrom_X7_turnsOf
set_option maxRecDepth 20000 in
theorem ggX1_hourFrom_X7_turnOf : GoodIn wsX1_hourFrom wsX7_turnOf := goodIn_r _ [18] (by decide +kernel) (by decide +kernel)
set_option maxRecDepth 20000 in
theorem gX1_hourFrom_X7_turnOf_n153 : GoodIn wsX1_hourFrom (wsX7_turnOf) := ggX1_hourFrom_X7_turnOf
theorem dX1_hourFrom_0 : decode cX1_hourFrom 0 = .ok (.aload_n 0, 1) := by decide +kernel
theorem dX1_hourFrom_1 : decode cX1_hourFrom 1 = .ok (.getfield 24, 3) := by decide +kernel
theorem dX1_hourFrom_4 : decode cX1_hourFrom 4 = .ok (.iload_n 1, 1) := by decide +kernel
theorem dX1_hourFrom_5 : decode cX1_hourFrom 5 = .ok (.invokevirtual 147, 3) := by decide +kernel
theorem dX1_hourFrom_8 : decode cX1_hourFrom 8 = .ok (.istore 4, 2) := by decide +kernel
theorem dX1_hourFrom_10 : decode cX1_hourFrom 10 = .ok (.iload_n 2, 1) := by decide +kernel
theorem dX1_hourFrom_11 : decode cX1_hourFrom 11 = .ok (.iload 4, 2) := by decide +kernel
theorem dX1_hourFrom_13 : decode cX1_hourFrom 13 = .ok (.aload_n 0, 1) := by decide +kernel
theorem dX1_hourFrom_14 : decode cX1_hourFrom 14 = .ok (.getfield 28, 3) := by decide +kernel
theorem dX1_hourFrom_17 : decode cX1_hourFrom 17 = .ok (.iload_n 3, 1) := by decide +kernel
theorem dX1_hourFrom_18 : decode cX1_hourFrom 18 = .ok (.invokestatic 150, 3) := by decide +kernel
theorem dX1_hourFrom_21 : decode cX1_hourFrom 21 = .ok (.iload 4, 2) := by decide +kernel
theorem dX1_hourFrom_23 : decode cX1_hourFrom 23 = .ok (.invokestatic 153, 3) := by decide +kernel
theorem dX1_hourFrom_26 : decode cX1_hourFrom 26 = .ok (.imul, 1) := by decide +kernel
theorem dX1_hourFrom_27 : decode cX1_hourFrom 27 = .ok (.iadd, 1) := by decide +kernel
theorem dX1_hourFrom_28 : decode cX1_hourFrom 28 = .ok (.bipush 24, 2) := by decide +kernel
theorem dX1_hourFrom_30 : decode cX1_hourFrom 30 = .ok (.irem, 1) := by decide +kernel
theorem dX1_hourFrom_31 : decode cX1_hourFrom 31 = .ok (.ireturn, 1) := by decide +kernel
set_option maxRecDepth 20000 in
theorem ggX1_wornBehind_X1_wornOf : GoodIn wsX1_wornBehind wsX1_wornOf := goodIn_r _ [11, 12, 13, 14, 15, 27, 28, 29, 30, 31, 32, 33, 34, 35] (by decide +kernel) (by decide +kernel)
set_option maxRecDepth 20000 in
theorem gX1_wornBehind_X1_wornOf : GoodIn wsX1_wornBehind (wsV RX1 75 RX1 yX1_wornOf wsX1_wornOf) := goodIn_app (goodIn_of _ (by decide +kernel)) ggX1_wornBehind_X1_wornOf
set_option maxRecDepth 20000 in
theorem ggX1_wornBehind_X2_kindOf : GoodIn wsX1_wornBehind wsX2_kindOf := goodIn_r _ [20, 21, 13, 14, 15, 36, 37, 38, 39, 40, 41, 42] (by decide +kernel) (by decide +kernel)
set_option maxRecDepth 20000 in
theorem gX1_wornBehind_X2_kindOf : GoodIn wsX1_wornBehind (wsV RX1 147 RX2 yX2_kindOf wsX2_kindOf) := goodIn_app (goodIn_of _ (by decide +kernel)) ggX1_wornBehind_X2_kindOf
set_option maxRecDepth 20000 in
theorem ggX1_wornBehind_X7_wearOf : GoodIn wsX1_wornBehind wsX7_wearOf := goodIn_r _ [23, 24, 25, 14, 26] (by decide +kernel) (by decide +kernel)
set_option maxRecDepth 20000 in
theorem gX1_wornBehind_X7_wearOf_n156 : GoodIn wsX1_wornBehind (wsX7_wearOf) := ggX1_wornBehind_X7_wearOf
theorem dX1_wornBehind_0 : decode cX1_wornBehind 0 = .ok (.bipush 20, 2) := by decide +kernel
theorem dX1_wornBehind_2 : decode cX1_wornBehind 2 = .ok (.aload_n 0, 1) := by decide +kernel
theorem dX1_wornBehind_3 : decode cX1_wornBehind 3 = .ok (.iload_n 1, 1) := by decide +kernel
theorem dX1_wornBehind_4 : decode cX1_wornBehind 4 = .ok (.invokevirtual 75, 3) := by decide +kernel
theorem dX1_wornBehind_7 : decode cX1_wornBehind 7 = .ok (.aload_n 0, 1) := by decide +kernel
theorem dX1_wornBehind_8 : decode cX1_wornBehind 8 = .ok (.getfield 24, 3) := by decide +kernel
theorem dX1_wornBehind_11 : decode cX1_wornBehind 11 = .ok (.iload_n 1, 1) := by decide +kernel
theorem dX1_wornBehind_12 : decode cX1_wornBehind 12 = .ok (.invokevirtual 147, 3) := by decide +kernel
theorem dX1_wornBehind_15 : decode cX1_wornBehind 15 = .ok (.aload_n 0, 1) := by decide +kernel
theorem dX1_wornBehind_16 : decode cX1_wornBehind 16 = .ok (.getfield 28, 3) := by decide +kernel
theorem dX1_wornBehind_19 : decode cX1_wornBehind 19 = .ok (.iload_n 2, 1) := by decide +kernel
theorem dX1_wornBehind_20 : decode cX1_wornBehind 20 = .ok (.invokestatic 156, 3) := by decide +kernel
theorem dX1_wornBehind_23 : decode cX1_wornBehind 23 = .ok (.iadd, 1) := by decide +kernel
theorem dX1_wornBehind_24 : decode cX1_wornBehind 24 = .ok (.invokestatic 159, 3) := by decide +kernel
theorem dX1_wornBehind_27 : decode cX1_wornBehind 27 = .ok (.ireturn, 1) := by decide +kernel
set_option maxRecDepth 20000 in
theorem ggX1_hoursUntil_X1_hourBehind : GoodIn wsX1_hoursUntil wsX1_hourBehind := goodIn_r _ [5, 6, 7, 8, 4, 9, 10, 11, 12, 13, 14, 15, 16, 17, 18, 19, 20, 21, 22, 23, 24, 25, 26, 27, 28, 29, 30, 31, 32, 33, 34, 35, 36, 37, 38, 39, 40, 41, 42, 43, 44, 45, 46, 47, 48] (by decide +kernel) (by decide +kernel)
set_option maxRecDepth 20000 in
theorem gX1_hoursUntil_X1_hourBehind : GoodIn wsX1_hoursUntil (wsV RX1 137 RX1 yX1_hourBehind wsX1_hourBehind) := goodIn_app (goodIn_of _ (by decide +kernel)) ggX1_hoursUntil_X1_hourBehind
theorem dX1_hoursUntil_0 : decode cX1_hoursUntil 0 = .ok (.iconst 0, 1) := by decide +kernel
theorem dX1_hoursUntil_1 : decode cX1_hoursUntil 1 = .ok (.istore_n 3, 1) := by decide +kernel
theorem dX1_hoursUntil_2 : decode cX1_hoursUntil 2 = .ok (.iload_n 3, 1) := by decide +kernel
theorem dX1_hoursUntil_3 : decode cX1_hoursUntil 3 = .ok (.bipush 48, 2) := by decide +kernel
theorem dX1_hoursUntil_5 : decode cX1_hoursUntil 5 = .ok (.if_icmp .gt 21, 3) := by decide +kernel
theorem dX1_hoursUntil_8 : decode cX1_hoursUntil 8 = .ok (.aload_n 0, 1) := by decide +kernel
theorem dX1_hoursUntil_9 : decode cX1_hoursUntil 9 = .ok (.iload_n 1, 1) := by decide +kernel
theorem dX1_hoursUntil_10 : decode cX1_hoursUntil 10 = .ok (.iload_n 3, 1) := by decide +kernel
theorem dX1_hoursUntil_11 : decode cX1_hoursUntil 11 = .ok (.invokevirtual 137, 3) := by decide +kernel
theorem dX1_hoursUntil_14 : decode cX1_hoursUntil 14 = .ok (.iload_n 2, 1) := by decide +kernel
theorem dX1_hoursUntil_15 : decode cX1_hoursUntil 15 = .ok (.if_icmp .ne 5, 3) := by decide +kernel
theorem dX1_hoursUntil_18 : decode cX1_hoursUntil 18 = .ok (.iload_n 3, 1) := by decide +kernel
theorem dX1_hoursUntil_19 : decode cX1_hoursUntil 19 = .ok (.ireturn, 1) := by decide +kernel
theorem dX1_hoursUntil_20 : decode cX1_hoursUntil 20 = .ok (.iinc 3 1, 3) := by decide +kernel
theorem dX1_hoursUntil_23 : decode cX1_hoursUntil 23 = .ok (.goto (-21), 3) := by decide +kernel
theorem dX1_hoursUntil_26 : decode cX1_hoursUntil 26 = .ok (.bipush (-4), 2) := by decide +kernel
theorem dX1_hoursUntil_28 : decode cX1_hoursUntil 28 = .ok (.ireturn, 1) := by decide +kernel
set_option maxRecDepth 20000 in
theorem ggX1_hoursUntilWork_X1_parasolOf : GoodIn wsX1_hoursUntilWork wsX1_parasolOf := goodIn_r _ [5, 6, 7, 8, 9, 64, 65, 66, 67, 68, 69, 70, 71, 72] (by decide +kernel) (by decide +kernel)
set_option maxRecDepth 20000 in
theorem gX1_hoursUntilWork_X1_parasolOf : GoodIn wsX1_hoursUntilWork (wsV RX1 58 RX1 yX1_parasolOf wsX1_parasolOf) := goodIn_app (goodIn_of _ (by decide +kernel)) ggX1_hoursUntilWork_X1_parasolOf
set_option maxRecDepth 20000 in
theorem ggX1_hoursUntilWork_X1_isStill : GoodIn wsX1_hoursUntilWork wsX1_isStill := goodIn_r _ [13, 14, 15, 8, 16, 64, 65, 66, 67, 68, 69, 70, 71, 72] (by decide +kernel) (by decide +kernel)
set_option maxRecDepth 20000 in
theorem gX1_hoursUntilWork_X1_isStill : GoodIn wsX1_hoursUntilWork (wsV RX1 97 RX1 yX1_isStill wsX1_isStill) := goodIn_app (goodIn_of _ (by decide +kernel)) ggX1_hoursUntilWork_X1_isStill
set_option maxRecDepth 20000 in
theorem ggX1_hoursUntilWork_X1_hoursUntil : GoodIn wsX1_hoursUntilWork wsX1_hoursUntil := goodIn_r _ [20, 21, 22, 23, 4, 24, 25, 26, 27, 28, 29, 7, 8, 9, 30, 31, 32, 33, 34, 35, 36, 37, 38, 39, 40, 41, 42, 43, 44, 45, 46, 47, 48, 64, 65, 66, 67, 68, 69, 70, 71, 72, 73, 74, 75, 76, 77, 78, 79] (by decide +kernel) (by decide +kernel)
set_option maxRecDepth 20000 in
theorem gX1_hoursUntilWork_X1_hoursUntil : GoodIn wsX1_hoursUntilWork (wsV RX1 164 RX1 yX1_hoursUntil wsX1_hoursUntil) := goodIn_app (goodIn_of _ (by decide +kernel)) ggX1_hoursUntilWork_X1_hoursUntil
set_option maxRecDepth 20000 in
theorem ggX1_hoursUntilWork_X1_wornBehind : GoodIn wsX1_hoursUntilWork wsX1_wornBehind := goodIn_r _ [52, 34, 35, 53, 54, 55, 56, 57, 58, 59, 4, 60, 61, 7, 8, 9, 36, 37, 38, 39, 40, 41, 62, 63, 44, 45, 46, 64, 65, 66, 67, 68, 69, 70, 71, 72, 73, 74, 75, 76, 77, 78, 79] (by decide +kernel) (by decide +kernel)
set_option maxRecDepth 20000 in
theorem gX1_hoursUntilWork_X1_wornBehind : GoodIn wsX1_hoursUntilWork (wsV RX1 140 RX1 yX1_wornBehind wsX1_wornBehind) := goodIn_app (goodIn_of _ (by decide +kernel)) ggX1_hoursUntilWork_X1_wornBehind
theorem dX1_hoursUntilWork_0 : decode cX1_hoursUntilWork 0 = .ok (.aload_n 0, 1) := by decide +kernel
theorem dX1_hoursUntilWork_1 : decode cX1_hoursUntilWork 1 = .ok (.iload_n 1, 1) := by decide +kernel
theorem dX1_hoursUntilWork_2 : decode cX1_hoursUntilWork 2 = .ok (.invokevirtual 58, 3) := by decide +kernel
theorem dX1_hoursUntilWork_5 : decode cX1_hoursUntilWork 5 = .ok (.istore_n 3, 1) := by decide +kernel
theorem dX1_hoursUntilWork_6 : decode cX1_hoursUntilWork 6 = .ok (.aload_n 0, 1) := by decide +kernel
theorem dX1_hoursUntilWork_7 : decode cX1_hoursUntilWork 7 = .ok (.iload_n 1, 1) := by decide +kernel
theorem dX1_hoursUntilWork_8 : decode cX1_hoursUntilWork 8 = .ok (.invokevirtual 97, 3) := by decide +kernel
theorem dX1_hoursUntilWork_11 : decode cX1_hoursUntilWork 11 = .ok (.ifCond .ne 9, 3) := by decide +kernel
theorem dX1_hoursUntilWork_14 : decode cX1_hoursUntilWork 14 = .ok (.iload_n 3, 1) := by decide +kernel
theorem dX1_hoursUntilWork_15 : decode cX1_hoursUntilWork 15 = .ok (.bipush (-4), 2) := by decide +kernel
theorem dX1_hoursUntilWork_17 : decode cX1_hoursUntilWork 17 = .ok (.if_icmp .ne 6, 3) := by decide +kernel
theorem dX1_hoursUntilWork_20 : decode cX1_hoursUntilWork 20 = .ok (.bipush (-4), 2) := by decide +kernel
theorem dX1_hoursUntilWork_22 : decode cX1_hoursUntilWork 22 = .ok (.ireturn, 1) := by decide +kernel
theorem dX1_hoursUntilWork_23 : decode cX1_hoursUntilWork 23 = .ok (.aload_n 0, 1) := by decide +kernel
theorem dX1_hoursUntilWork_24 : decode cX1_hoursUntilWork 24 = .ok (.iload_n 3, 1) := by decide +kernel
theorem dX1_hoursUntilWork_25 : decode cX1_hoursUntilWork 25 = .ok (.iload_n 2, 1) := by decide +kernel
theorem dX1_hoursUntilWork_26 : decode cX1_hoursUntilWork 26 = .ok (.invokevirtual 164, 3) := by decide +kernel
theorem dX1_hoursUntilWork_29 : decode cX1_hoursUntilWork 29 = .ok (.istore 4, 2) := by decide +kernel
theorem dX1_hoursUntilWork_31 : decode cX1_hoursUntilWork 31 = .ok (.iload 4, 2) := by decide +kernel
theorem dX1_hoursUntilWork_33 : decode cX1_hoursUntilWork 33 = .ok (.bipush (-4), 2) := by decide +kernel
theorem dX1_hoursUntilWork_35 : decode cX1_hoursUntilWork 35 = .ok (.if_icmp .eq 20, 3) := by decide +kernel
theorem dX1_hoursUntilWork_38 : decode cX1_hoursUntilWork 38 = .ok (.aload_n 0, 1) := by decide +kernel
theorem dX1_hoursUntilWork_39 : decode cX1_hoursUntilWork 39 = .ok (.iload_n 3, 1) := by decide +kernel
theorem dX1_hoursUntilWork_40 : decode cX1_hoursUntilWork 40 = .ok (.iload 4, 2) := by decide +kernel
theorem dX1_hoursUntilWork_42 : decode cX1_hoursUntilWork 42 = .ok (.invokevirtual 140, 3) := by decide +kernel
theorem dX1_hoursUntilWork_45 : decode cX1_hoursUntilWork 45 = .ok (.bipush 12, 2) := by decide +kernel
theorem dX1_hoursUntilWork_47 : decode cX1_hoursUntilWork 47 = .ok (.if_icmp .gt 8, 3) := by decide +kernel
theorem dX1_hoursUntilWork_50 : decode cX1_hoursUntilWork 50 = .ok (.iload 4, 2) := by decide +kernel
theorem dX1_hoursUntilWork_52 : decode cX1_hoursUntilWork 52 = .ok (.goto 5, 3) := by decide +kernel
theorem dX1_hoursUntilWork_55 : decode cX1_hoursUntilWork 55 = .ok (.bipush (-4), 2) := by decide +kernel
theorem dX1_hoursUntilWork_57 : decode cX1_hoursUntilWork 57 = .ok (.ireturn, 1) := by decide +kernel
set_option maxRecDepth 20000 in
theorem ggX1_sumOfHours_X7_hasBit : GoodIn wsX1_sumOfHours wsX7_hasBit := goodIn_r _ [5] (by decide +kernel) (by decide +kernel)
set_option maxRecDepth 20000 in
theorem gX1_sumOfHours_X7_hasBit_n49 : GoodIn wsX1_sumOfHours (wsX7_hasBit) := ggX1_sumOfHours_X7_hasBit
set_option maxRecDepth 20000 in
theorem ggX1_sumOfHours_X1_hourOf : GoodIn wsX1_sumOfHours wsX1_hourOf := goodIn_r _ [10, 11, 12, 4, 13, 14, 15, 16, 17, 18, 19, 20, 21, 22] (by decide +kernel) (by decide +kernel)
set_option maxRecDepth 20000 in
theorem gX1_sumOfHours_X1_hourOf : GoodIn wsX1_sumOfHours (wsV RX1 78 RX1 yX1_hourOf wsX1_hourOf) := goodIn_app (goodIn_of _ (by decide +kernel)) ggX1_sumOfHours_X1_hourOf
theorem dX1_sumOfHours_0 : decode cX1_sumOfHours 0 = .ok (.iconst 0, 1) := by decide +kernel
theorem dX1_sumOfHours_1 : decode cX1_sumOfHours 1 = .ok (.istore_n 2, 1) := by decide +kernel
theorem dX1_sumOfHours_2 : decode cX1_sumOfHours 2 = .ok (.iconst 0, 1) := by decide +kernel
theorem dX1_sumOfHours_3 : decode cX1_sumOfHours 3 = .ok (.istore_n 3, 1) := by decide +kernel
theorem dX1_sumOfHours_4 : decode cX1_sumOfHours 4 = .ok (.iload_n 3, 1) := by decide +kernel
theorem dX1_sumOfHours_5 : decode cX1_sumOfHours 5 = .ok (.aload_n 0, 1) := by decide +kernel
theorem dX1_sumOfHours_6 : decode cX1_sumOfHours 6 = .ok (.getfield 24, 3) := by decide +kernel
theorem dX1_sumOfHours_9 : decode cX1_sumOfHours 9 = .ok (.getfield 65, 3) := by decide +kernel
theorem dX1_sumOfHours_12 : decode cX1_sumOfHours 12 = .ok (.if_icmp .ge 25, 3) := by decide +kernel
theorem dX1_sumOfHours_15 : decode cX1_sumOfHours 15 = .ok (.iload_n 1, 1) := by decide +kernel
theorem dX1_sumOfHours_16 : decode cX1_sumOfHours 16 = .ok (.iload_n 3, 1) := by decide +kernel
theorem dX1_sumOfHours_17 : decode cX1_sumOfHours 17 = .ok (.invokestatic 49, 3) := by decide +kernel
theorem dX1_sumOfHours_20 : decode cX1_sumOfHours 20 = .ok (.ifCond .eq 11, 3) := by decide +kernel
theorem dX1_sumOfHours_23 : decode cX1_sumOfHours 23 = .ok (.iload_n 2, 1) := by decide +kernel
theorem dX1_sumOfHours_24 : decode cX1_sumOfHours 24 = .ok (.aload_n 0, 1) := by decide +kernel
theorem dX1_sumOfHours_25 : decode cX1_sumOfHours 25 = .ok (.iload_n 3, 1) := by decide +kernel
theorem dX1_sumOfHours_26 : decode cX1_sumOfHours 26 = .ok (.invokevirtual 78, 3) := by decide +kernel
theorem dX1_sumOfHours_29 : decode cX1_sumOfHours 29 = .ok (.iadd, 1) := by decide +kernel
theorem dX1_sumOfHours_30 : decode cX1_sumOfHours 30 = .ok (.istore_n 2, 1) := by decide +kernel
theorem dX1_sumOfHours_31 : decode cX1_sumOfHours 31 = .ok (.iinc 3 1, 3) := by decide +kernel
theorem dX1_sumOfHours_34 : decode cX1_sumOfHours 34 = .ok (.goto (-30), 3) := by decide +kernel
theorem dX1_sumOfHours_37 : decode cX1_sumOfHours 37 = .ok (.iload_n 2, 1) := by decide +kernel
theorem dX1_sumOfHours_38 : decode cX1_sumOfHours 38 = .ok (.ireturn, 1) := by decide +kernel
set_option maxRecDepth 20000 in
theorem ggX1_fleckedWays_X2_kindOf : GoodIn wsX1_fleckedWays wsX2_kindOf := goodIn_r _ [7, 8, 9, 10, 11, 38, 39, 40, 41, 42, 43, 44] (by decide +kernel) (by decide +kernel)
set_option maxRecDepth 20000 in
theorem gX1_fleckedWays_X2_kindOf : GoodIn wsX1_fleckedWays (wsV RX1 147 RX2 yX2_kindOf wsX2_kindOf) := goodIn_app (goodIn_of _ (by decide +kernel)) ggX1_fleckedWays_X2_kindOf
set_option maxRecDepth 20000 in
theorem ggX1_fleckedWays_X7_turnsOf : GoodIn wsX1_fleckedWays wsX7_turnsOf := goodIn_r _ [13, 14, 15, 10, 16] (by decide +kernel) (by decide +kernel)
set_option maxRecDepth 20000 in
theorem gX1_fleckedWays_X7_turnsOf_n150 : GoodIn wsX1_fleckedWays (wsX7_turnsOf) := ggX1_fleckedWays_X7_turnsOf
set_option maxRecDepth 20000 in
theorem ggX1_fleckedWays_X1_hourOf : GoodIn wsX1_fleckedWays wsX1_hourOf := goodIn_r _ [21, 22, 9, 10, 11, 29, 30, 31, 32, 33, 34, 35, 36, 37] (by decide +kernel) (by decide +kernel)
set_option maxRecDepth 20000 in
theorem gX1_fleckedWays_X1_hourOf : GoodIn wsX1_fleckedWays (wsV RX1 78 RX1 yX1_hourOf wsX1_hourOf) := goodIn_app (goodIn_of _ (by decide +kernel)) ggX1_fleckedWays_X1_hourOf
set_option maxRecDepth 20000 in
theorem ggX1_fleckedWays_X7_turnOf : GoodIn wsX1_fleckedWays wsX7_turnOf := goodIn_r _ [24] (by decide +kernel) (by decide +kernel)
set_option maxRecDepth 20000 in
theorem gX1_fleckedWays_X7_turnOf_n153 : GoodIn wsX1_fleckedWays (wsX7_turnOf) := ggX1_fleckedWays_X7_turnOf
set_option maxRecDepth 20000 in
theorem ggX1_fleckedWays_X7_choicesOf : GoodIn wsX1_fleckedWays wsX7_choicesOf := goodIn_r _ [26] (by decide +kernel) (by decide +kernel)
set_option maxRecDepth 20000 in
theorem gX1_fleckedWays_X7_choicesOf_n167 : GoodIn wsX1_fleckedWays (wsX7_choicesOf) := ggX1_fleckedWays_X7_choicesOf
set_option maxRecDepth 20000 in
theorem ggX1_fleckedWays_X7_power : GoodIn wsX1_fleckedWays wsX7_power := goodIn_r _ [28] (by decide +kernel) (by decide +kernel)
set_option maxRecDepth 20000 in
theorem gX1_fleckedWays_X7_power_n170 : GoodIn wsX1_fleckedWays (wsX7_power) := ggX1_fleckedWays_X7_power
theorem dX1_fleckedWays_0 : decode cX1_fleckedWays 0 = .ok (.aload_n 0, 1) := by decide +kernel
theorem dX1_fleckedWays_1 : decode cX1_fleckedWays 1 = .ok (.getfield 24, 3) := by decide +kernel
theorem dX1_fleckedWays_4 : decode cX1_fleckedWays 4 = .ok (.iload_n 1, 1) := by decide +kernel
theorem dX1_fleckedWays_5 : decode cX1_fleckedWays 5 = .ok (.invokevirtual 147, 3) := by decide +kernel
theorem dX1_fleckedWays_8 : decode cX1_fleckedWays 8 = .ok (.istore 5, 2) := by decide +kernel
theorem dX1_fleckedWays_10 : decode cX1_fleckedWays 10 = .ok (.iload 5, 2) := by decide +kernel
theorem dX1_fleckedWays_12 : decode cX1_fleckedWays 12 = .ok (.aload_n 0, 1) := by decide +kernel
theorem dX1_fleckedWays_13 : decode cX1_fleckedWays 13 = .ok (.getfield 28, 3) := by decide +kernel
theorem dX1_fleckedWays_16 : decode cX1_fleckedWays 16 = .ok (.iload_n 3, 1) := by decide +kernel
theorem dX1_fleckedWays_17 : decode cX1_fleckedWays 17 = .ok (.invokestatic 150, 3) := by decide +kernel
theorem dX1_fleckedWays_20 : decode cX1_fleckedWays 20 = .ok (.istore 6, 2) := by decide +kernel
theorem dX1_fleckedWays_22 : decode cX1_fleckedWays 22 = .ok (.iconst 0, 1) := by decide +kernel
theorem dX1_fleckedWays_23 : decode cX1_fleckedWays 23 = .ok (.istore 7, 2) := by decide +kernel
theorem dX1_fleckedWays_25 : decode cX1_fleckedWays 25 = .ok (.iconst 0, 1) := by decide +kernel
theorem dX1_fleckedWays_26 : decode cX1_fleckedWays 26 = .ok (.istore 8, 2) := by decide +kernel
theorem dX1_fleckedWays_28 : decode cX1_fleckedWays 28 = .ok (.iload 8, 2) := by decide +kernel
theorem dX1_fleckedWays_30 : decode cX1_fleckedWays 30 = .ok (.iload 6, 2) := by decide +kernel
theorem dX1_fleckedWays_32 : decode cX1_fleckedWays 32 = .ok (.if_icmp .gt 64, 3) := by decide +kernel
theorem dX1_fleckedWays_35 : decode cX1_fleckedWays 35 = .ok (.aload_n 0, 1) := by decide +kernel
theorem dX1_fleckedWays_36 : decode cX1_fleckedWays 36 = .ok (.iload_n 1, 1) := by decide +kernel
theorem dX1_fleckedWays_37 : decode cX1_fleckedWays 37 = .ok (.invokevirtual 78, 3) := by decide +kernel
theorem dX1_fleckedWays_40 : decode cX1_fleckedWays 40 = .ok (.iload 8, 2) := by decide +kernel
theorem dX1_fleckedWays_42 : decode cX1_fleckedWays 42 = .ok (.iload 5, 2) := by decide +kernel
theorem dX1_fleckedWays_44 : decode cX1_fleckedWays 44 = .ok (.invokestatic 153, 3) := by decide +kernel
theorem dX1_fleckedWays_47 : decode cX1_fleckedWays 47 = .ok (.imul, 1) := by decide +kernel
theorem dX1_fleckedWays_48 : decode cX1_fleckedWays 48 = .ok (.iadd, 1) := by decide +kernel
theorem dX1_fleckedWays_49 : decode cX1_fleckedWays 49 = .ok (.bipush 24, 2) := by decide +kernel
theorem dX1_fleckedWays_51 : decode cX1_fleckedWays 51 = .ok (.irem, 1) := by decide +kernel
theorem dX1_fleckedWays_52 : decode cX1_fleckedWays 52 = .ok (.iload_n 2, 1) := by decide +kernel
theorem dX1_fleckedWays_53 : decode cX1_fleckedWays 53 = .ok (.if_icmp .ne 37, 3) := by decide +kernel
theorem dX1_fleckedWays_56 : decode cX1_fleckedWays 56 = .ok (.iload 7, 2) := by decide +kernel
theorem dX1_fleckedWays_58 : decode cX1_fleckedWays 58 = .ok (.iload 8, 2) := by decide +kernel
theorem dX1_fleckedWays_60 : decode cX1_fleckedWays 60 = .ok (.iload 6, 2) := by decide +kernel
theorem dX1_fleckedWays_62 : decode cX1_fleckedWays 62 = .ok (.invokestatic 167, 3) := by decide +kernel
theorem dX1_fleckedWays_65 : decode cX1_fleckedWays 65 = .ok (.iload 4, 2) := by decide +kernel
theorem dX1_fleckedWays_67 : decode cX1_fleckedWays 67 = .ok (.iload 8, 2) := by decide +kernel
theorem dX1_fleckedWays_69 : decode cX1_fleckedWays 69 = .ok (.invokestatic 170, 3) := by decide +kernel
theorem dX1_fleckedWays_72 : decode cX1_fleckedWays 72 = .ok (.imul, 1) := by decide +kernel
theorem dX1_fleckedWays_73 : decode cX1_fleckedWays 73 = .ok (.bipush 10, 2) := by decide +kernel
theorem dX1_fleckedWays_75 : decode cX1_fleckedWays 75 = .ok (.iload 4, 2) := by decide +kernel
theorem dX1_fleckedWays_77 : decode cX1_fleckedWays 77 = .ok (.isub, 1) := by decide +kernel
theorem dX1_fleckedWays_78 : decode cX1_fleckedWays 78 = .ok (.iload 6, 2) := by decide +kernel
theorem dX1_fleckedWays_80 : decode cX1_fleckedWays 80 = .ok (.iload 8, 2) := by decide +kernel
theorem dX1_fleckedWays_82 : decode cX1_fleckedWays 82 = .ok (.isub, 1) := by decide +kernel
theorem dX1_fleckedWays_83 : decode cX1_fleckedWays 83 = .ok (.invokestatic 170, 3) := by decide +kernel
theorem dX1_fleckedWays_86 : decode cX1_fleckedWays 86 = .ok (.imul, 1) := by decide +kernel
theorem dX1_fleckedWays_87 : decode cX1_fleckedWays 87 = .ok (.iadd, 1) := by decide +kernel
theorem dX1_fleckedWays_88 : decode cX1_fleckedWays 88 = .ok (.istore 7, 2) := by decide +kernel
theorem dX1_fleckedWays_90 : decode cX1_fleckedWays 90 = .ok (.iinc 8 1, 3) := by decide +kernel
theorem dX1_fleckedWays_93 : decode cX1_fleckedWays 93 = .ok (.goto (-65), 3) := by decide +kernel
theorem dX1_fleckedWays_96 : decode cX1_fleckedWays 96 = .ok (.iload 7, 2) := by decide +kernel
theorem dX1_fleckedWays_98 : decode cX1_fleckedWays 98 = .ok (.bipush 10, 2) := by decide +kernel
theorem dX1_fleckedWays_100 : decode cX1_fleckedWays 100 = .ok (.iload_n 3, 1) := by decide +kernel
theorem dX1_fleckedWays_101 : decode cX1_fleckedWays 101 = .ok (.iload 6, 2) := by decide +kernel
theorem dX1_fleckedWays_103 : decode cX1_fleckedWays 103 = .ok (.isub, 1) := by decide +kernel
theorem dX1_fleckedWays_104 : decode cX1_fleckedWays 104 = .ok (.invokestatic 170, 3) := by decide +kernel
theorem dX1_fleckedWays_107 : decode cX1_fleckedWays 107 = .ok (.imul, 1) := by decide +kernel
theorem dX1_fleckedWays_108 : decode cX1_fleckedWays 108 = .ok (.ireturn, 1) := by decide +kernel
set_option maxRecDepth 20000 in
theorem ggX1_actByDraw_X7_modulo : GoodIn wsX1_actByDraw wsX7_modulo := goodIn_r _ [6] (by decide +kernel) (by decide +kernel)
set_option maxRecDepth 20000 in
theorem gX1_actByDraw_X7_modulo_n173 : GoodIn wsX1_actByDraw (wsX7_modulo) := ggX1_actByDraw_X7_modulo
set_option maxRecDepth 20000 in
theorem ggX1_actByDraw_X1_canTake : GoodIn wsX1_actByDraw wsX1_canTake := goodIn_r _ [11, 12, 13, 14, 10, 15, 16, 17, 5, 18, 19, 20, 21, 22, 23, 24, 25, 26, 27, 28, 29, 30, 31, 32, 33, 34, 35, 36, 37, 38, 1, 2, 91, 92, 93, 94, 95, 96, 97, 98, 99, 100, 101, 102, 103, 104, 105, 106] (by decide +kernel) (by decide +kernel)
set_option maxRecDepth 20000 in
theorem gX1_actByDraw_X1_canTake : GoodIn wsX1_actByDraw (wsV RX1 176 RX1 yX1_canTake wsX1_canTake) := goodIn_app (goodIn_of _ (by decide +kernel)) ggX1_actByDraw_X1_canTake
set_option maxRecDepth 20000 in
theorem ggX1_actByDraw_X1_doTake : GoodIn wsX1_actByDraw wsX1_doTake := goodIn_r _ [42, 30, 43, 5, 44, 91, 92, 93, 94, 95, 96, 97, 98, 99] (by decide +kernel) (by decide +kernel)
set_option maxRecDepth 20000 in
theorem gX1_actByDraw_X1_doTake : GoodIn wsX1_actByDraw (wsV RX1 179 RX1 yX1_doTake wsX1_doTake) := goodIn_app (goodIn_of _ (by decide +kernel)) ggX1_actByDraw_X1_doTake
set_option maxRecDepth 20000 in
theorem ggX1_actByDraw_X1_canShare : GoodIn wsX1_actByDraw wsX1_canShare := goodIn_r _ [48, 26, 27, 28, 10, 29, 30, 24, 5, 25, 19, 20, 21, 22, 23, 35, 36, 37, 38, 1, 2, 49, 50, 51, 52, 53, 54, 55, 91, 92, 93, 94, 95, 96, 97, 98, 99, 100, 101, 102, 103, 104, 105, 106] (by decide +kernel) (by decide +kernel)
set_option maxRecDepth 20000 in
theorem gX1_actByDraw_X1_canShare : GoodIn wsX1_actByDraw (wsV RX1 183 RX1 yX1_canShare wsX1_canShare) := goodIn_app (goodIn_of _ (by decide +kernel)) ggX1_actByDraw_X1_canShare
set_option maxRecDepth 20000 in
theorem ggX1_actByDraw_X1_doShare : GoodIn wsX1_actByDraw wsX1_doShare := goodIn_r _ [59, 30, 16, 26, 27, 28, 10, 29, 24, 5, 25, 43, 44, 91, 92, 93, 94, 95, 96, 97, 98, 99] (by decide +kernel) (by decide +kernel)
set_option maxRecDepth 20000 in
theorem gX1_actByDraw_X1_doShare : GoodIn wsX1_actByDraw (wsV RX1 186 RX1 yX1_doShare wsX1_doShare) := goodIn_app (goodIn_of _ (by decide +kernel)) ggX1_actByDraw_X1_doShare
set_option maxRecDepth 20000 in
theorem ggX1_actByDraw_X1_canGive : GoodIn wsX1_actByDraw wsX1_canGive := goodIn_r _ [63, 26, 27, 28, 10, 29, 30, 24, 5, 25, 19, 20, 21, 22, 23, 35, 36, 37, 38, 1, 2, 49, 50, 51, 52, 53, 54, 55, 91, 92, 93, 94, 95, 96, 97, 98, 99, 100, 101, 102, 103, 104, 105, 106] (by decide +kernel) (by decide +kernel)
set_option maxRecDepth 20000 in
theorem gX1_actByDraw_X1_canGive : GoodIn wsX1_actByDraw (wsV RX1 189 RX1 yX1_canGive wsX1_canGive) := goodIn_app (goodIn_of _ (by decide +kernel)) ggX1_actByDraw_X1_canGive
set_option maxRecDepth 20000 in
theorem ggX1_actByDraw_X1_doGive : GoodIn wsX1_actByDraw wsX1_doGive := goodIn_r _ [67, 30, 43, 5, 44, 91, 92, 93, 94, 95, 96, 97, 98, 99] (by decide +kernel) (by decide +kernel)
set_option maxRecDepth 20000 in
theorem gX1_actByDraw_X1_doGive : GoodIn wsX1_actByDraw (wsV RX1 192 RX1 yX1_doGive wsX1_doGive) := goodIn_app (goodIn_of _ (by decide +kernel)) ggX1_actByDraw_X1_doGive
set_option maxRecDepth 20000 in
theorem ggX1_actByDraw_X1_canWalk : GoodIn wsX1_actByDraw wsX1_canWalk := goodIn_r _ [71, 1, 12, 13, 14, 10, 15, 16, 17, 5, 18, 72, 73, 74, 75, 19, 20, 21, 22, 23, 24, 25, 76, 77, 78, 79, 80, 81, 91, 92, 93, 94, 95, 96, 97, 98, 99, 100, 101, 102, 103, 104, 105, 106] (by decide +kernel) (by decide +kernel)
set_option maxRecDepth 20000 in
theorem gX1_actByDraw_X1_canWalk : GoodIn wsX1_actByDraw (wsV RX1 196 RX1 yX1_canWalk wsX1_canWalk) := goodIn_app (goodIn_of _ (by decide +kernel)) ggX1_actByDraw_X1_canWalk
set_option maxRecDepth 20000 in
theorem ggX1_actByDraw_X1_doWalk : GoodIn wsX1_actByDraw wsX1_doWalk := goodIn_r _ [85, 1, 2, 23, 16, 72, 73, 74, 10, 75, 19, 20, 21, 22, 24, 5, 25, 26, 27, 28, 29, 30, 35, 36, 37, 38, 17, 18, 43, 44, 91, 92, 93, 94, 95, 96, 97, 98, 99, 100, 101, 102, 103, 104, 105, 106] (by decide +kernel) (by decide +kernel)
set_option maxRecDepth 20000 in
theorem gX1_actByDraw_X1_doWalk : GoodIn wsX1_actByDraw (wsV RX1 199 RX1 yX1_doWalk wsX1_doWalk) := goodIn_app (goodIn_of _ (by decide +kernel)) ggX1_actByDraw_X1_doWalk
set_option maxRecDepth 20000 in
theorem ggX1_actByDraw_X1_isInStand : GoodIn wsX1_actByDraw wsX1_isInStand := goodIn_r _ [34, 35, 36, 37, 10, 38, 1, 2, 26, 27, 28, 29, 30, 24, 5, 25, 91, 92, 93, 94, 95, 96, 97, 98, 99, 100, 101, 102, 103, 104, 105, 106] (by decide +kernel) (by decide +kernel)
set_option maxRecDepth 20000 in
theorem gX1_actByDraw_X1_isInStand : GoodIn wsX1_actByDraw (wsV RX1 68 RX1 yX1_isInStand wsX1_isInStand) := goodIn_app (goodIn_of _ (by decide +kernel)) ggX1_actByDraw_X1_isInStand
set_option maxRecDepth 20000 in
theorem ggX1_actByDraw_X1_doMend : GoodIn wsX1_actByDraw wsX1_doMend := goodIn_r _ [89, 90, 43, 5, 44, 91, 92, 93, 94, 95, 96, 97, 98, 99] (by decide +kernel) (by decide +kernel)
set_option maxRecDepth 20000 in
theorem gX1_actByDraw_X1_doMend : GoodIn wsX1_actByDraw (wsV RX1 202 RX1 yX1_doMend wsX1_doMend) := goodIn_app (goodIn_of _ (by decide +kernel)) ggX1_actByDraw_X1_doMend
theorem dX1_actByDraw_0 : decode cX1_actByDraw 0 = .ok (.iload_n 1, 1) := by decide +kernel
theorem dX1_actByDraw_1 : decode cX1_actByDraw 1 = .ok (.bipush 8, 2) := by decide +kernel
theorem dX1_actByDraw_3 : decode cX1_actByDraw 3 = .ok (.idiv, 1) := by decide +kernel
theorem dX1_actByDraw_4 : decode cX1_actByDraw 4 = .ok (.aload_n 0, 1) := by decide +kernel
theorem dX1_actByDraw_5 : decode cX1_actByDraw 5 = .ok (.getfield 24, 3) := by decide +kernel
theorem dX1_actByDraw_8 : decode cX1_actByDraw 8 = .ok (.getfield 53, 3) := by decide +kernel
theorem dX1_actByDraw_11 : decode cX1_actByDraw 11 = .ok (.invokestatic 173, 3) := by decide +kernel
theorem dX1_actByDraw_14 : decode cX1_actByDraw 14 = .ok (.istore_n 2, 1) := by decide +kernel
theorem dX1_actByDraw_15 : decode cX1_actByDraw 15 = .ok (.iload_n 1, 1) := by decide +kernel
theorem dX1_actByDraw_16 : decode cX1_actByDraw 16 = .ok (.bipush 64, 2) := by decide +kernel
theorem dX1_actByDraw_18 : decode cX1_actByDraw 18 = .ok (.idiv, 1) := by decide +kernel
theorem dX1_actByDraw_19 : decode cX1_actByDraw 19 = .ok (.istore_n 3, 1) := by decide +kernel
theorem dX1_actByDraw_20 : decode cX1_actByDraw 20 = .ok (.iload_n 3, 1) := by decide +kernel
theorem dX1_actByDraw_21 : decode cX1_actByDraw 21 = .ok (.aload_n 0, 1) := by decide +kernel
theorem dX1_actByDraw_22 : decode cX1_actByDraw 22 = .ok (.getfield 24, 3) := by decide +kernel
theorem dX1_actByDraw_25 : decode cX1_actByDraw 25 = .ok (.getfield 65, 3) := by decide +kernel
theorem dX1_actByDraw_28 : decode cX1_actByDraw 28 = .ok (.invokestatic 173, 3) := by decide +kernel
theorem dX1_actByDraw_31 : decode cX1_actByDraw 31 = .ok (.istore 4, 2) := by decide +kernel
theorem dX1_actByDraw_33 : decode cX1_actByDraw 33 = .ok (.iload_n 3, 1) := by decide +kernel
theorem dX1_actByDraw_34 : decode cX1_actByDraw 34 = .ok (.aload_n 0, 1) := by decide +kernel
theorem dX1_actByDraw_35 : decode cX1_actByDraw 35 = .ok (.getfield 24, 3) := by decide +kernel
theorem dX1_actByDraw_38 : decode cX1_actByDraw 38 = .ok (.getfield 53, 3) := by decide +kernel
theorem dX1_actByDraw_41 : decode cX1_actByDraw 41 = .ok (.invokestatic 173, 3) := by decide +kernel
theorem dX1_actByDraw_44 : decode cX1_actByDraw 44 = .ok (.istore 5, 2) := by decide +kernel
theorem dX1_actByDraw_46 : decode cX1_actByDraw 46 = .ok (.iload_n 1, 1) := by decide +kernel
theorem dX1_actByDraw_47 : decode cX1_actByDraw 47 = .ok (.bipush 8, 2) := by decide +kernel
theorem dX1_actByDraw_49 : decode cX1_actByDraw 49 = .ok (.irem, 1) := by decide +kernel
theorem dX1_actByDraw_50 : decode cX1_actByDraw 50 = .ok (.istore 6, 2) := by decide +kernel
theorem dX1_actByDraw_52 : decode cX1_actByDraw 52 = .ok (.iload 6, 2) := by decide +kernel
theorem dX1_actByDraw_54 : decode cX1_actByDraw 54 = .ok (.iconst 1, 1) := by decide +kernel
theorem dX1_actByDraw_55 : decode cX1_actByDraw 55 = .ok (.if_icmp .gt 23, 3) := by decide +kernel
theorem dX1_actByDraw_58 : decode cX1_actByDraw 58 = .ok (.aload_n 0, 1) := by decide +kernel
theorem dX1_actByDraw_59 : decode cX1_actByDraw 59 = .ok (.iload_n 2, 1) := by decide +kernel
theorem dX1_actByDraw_60 : decode cX1_actByDraw 60 = .ok (.iload 4, 2) := by decide +kernel
theorem dX1_actByDraw_62 : decode cX1_actByDraw 62 = .ok (.invokevirtual 176, 3) := by decide +kernel
theorem dX1_actByDraw_65 : decode cX1_actByDraw 65 = .ok (.ifCond .eq 13, 3) := by decide +kernel
theorem dX1_actByDraw_68 : decode cX1_actByDraw 68 = .ok (.aload_n 0, 1) := by decide +kernel
theorem dX1_actByDraw_69 : decode cX1_actByDraw 69 = .ok (.iload_n 2, 1) := by decide +kernel
theorem dX1_actByDraw_70 : decode cX1_actByDraw 70 = .ok (.iload 4, 2) := by decide +kernel
theorem dX1_actByDraw_72 : decode cX1_actByDraw 72 = .ok (.invokevirtual 179, 3) := by decide +kernel
theorem dX1_actByDraw_75 : decode cX1_actByDraw 75 = .ok (.goto 108, 3) := by decide +kernel
theorem dX1_actByDraw_78 : decode cX1_actByDraw 78 = .ok (.iload 6, 2) := by decide +kernel
theorem dX1_actByDraw_80 : decode cX1_actByDraw 80 = .ok (.iconst 2, 1) := by decide +kernel
theorem dX1_actByDraw_81 : decode cX1_actByDraw 81 = .ok (.if_icmp .ne 23, 3) := by decide +kernel
theorem dX1_actByDraw_84 : decode cX1_actByDraw 84 = .ok (.aload_n 0, 1) := by decide +kernel
theorem dX1_actByDraw_85 : decode cX1_actByDraw 85 = .ok (.iload_n 2, 1) := by decide +kernel
theorem dX1_actByDraw_86 : decode cX1_actByDraw 86 = .ok (.iload 5, 2) := by decide +kernel
theorem dX1_actByDraw_88 : decode cX1_actByDraw 88 = .ok (.invokevirtual 183, 3) := by decide +kernel
theorem dX1_actByDraw_91 : decode cX1_actByDraw 91 = .ok (.ifCond .eq 13, 3) := by decide +kernel
theorem dX1_actByDraw_94 : decode cX1_actByDraw 94 = .ok (.aload_n 0, 1) := by decide +kernel
theorem dX1_actByDraw_95 : decode cX1_actByDraw 95 = .ok (.iload_n 2, 1) := by decide +kernel
theorem dX1_actByDraw_96 : decode cX1_actByDraw 96 = .ok (.iload 5, 2) := by decide +kernel
theorem dX1_actByDraw_98 : decode cX1_actByDraw 98 = .ok (.invokevirtual 186, 3) := by decide +kernel
theorem dX1_actByDraw_101 : decode cX1_actByDraw 101 = .ok (.goto 82, 3) := by decide +kernel
theorem dX1_actByDraw_104 : decode cX1_actByDraw 104 = .ok (.iload 6, 2) := by decide +kernel
theorem dX1_actByDraw_106 : decode cX1_actByDraw 106 = .ok (.iconst 3, 1) := by decide +kernel
theorem dX1_actByDraw_107 : decode cX1_actByDraw 107 = .ok (.if_icmp .ne 19, 3) := by decide +kernel
theorem dX1_actByDraw_110 : decode cX1_actByDraw 110 = .ok (.aload_n 0, 1) := by decide +kernel
theorem dX1_actByDraw_111 : decode cX1_actByDraw 111 = .ok (.iload_n 2, 1) := by decide +kernel
theorem dX1_actByDraw_112 : decode cX1_actByDraw 112 = .ok (.invokevirtual 189, 3) := by decide +kernel
theorem dX1_actByDraw_115 : decode cX1_actByDraw 115 = .ok (.ifCond .eq 11, 3) := by decide +kernel
theorem dX1_actByDraw_118 : decode cX1_actByDraw 118 = .ok (.aload_n 0, 1) := by decide +kernel
theorem dX1_actByDraw_119 : decode cX1_actByDraw 119 = .ok (.iload_n 2, 1) := by decide +kernel
theorem dX1_actByDraw_120 : decode cX1_actByDraw 120 = .ok (.invokevirtual 192, 3) := by decide +kernel
theorem dX1_actByDraw_123 : decode cX1_actByDraw 123 = .ok (.goto 60, 3) := by decide +kernel
theorem dX1_actByDraw_126 : decode cX1_actByDraw 126 = .ok (.iload 6, 2) := by decide +kernel
theorem dX1_actByDraw_128 : decode cX1_actByDraw 128 = .ok (.iconst 4, 1) := by decide +kernel
theorem dX1_actByDraw_129 : decode cX1_actByDraw 129 = .ok (.if_icmp .lt 32, 3) := by decide +kernel
theorem dX1_actByDraw_132 : decode cX1_actByDraw 132 = .ok (.iload 6, 2) := by decide +kernel
theorem dX1_actByDraw_134 : decode cX1_actByDraw 134 = .ok (.bipush 6, 2) := by decide +kernel
theorem dX1_actByDraw_136 : decode cX1_actByDraw 136 = .ok (.if_icmp .gt 25, 3) := by decide +kernel
theorem dX1_actByDraw_139 : decode cX1_actByDraw 139 = .ok (.aload_n 0, 1) := by decide +kernel
theorem dX1_actByDraw_140 : decode cX1_actByDraw 140 = .ok (.iload_n 2, 1) := by decide +kernel
theorem dX1_actByDraw_141 : decode cX1_actByDraw 141 = .ok (.iload_n 3, 1) := by decide +kernel
theorem dX1_actByDraw_142 : decode cX1_actByDraw 142 = .ok (.iconst 2, 1) := by decide +kernel
theorem dX1_actByDraw_143 : decode cX1_actByDraw 143 = .ok (.irem, 1) := by decide +kernel
theorem dX1_actByDraw_144 : decode cX1_actByDraw 144 = .ok (.invokevirtual 196, 3) := by decide +kernel
theorem dX1_actByDraw_147 : decode cX1_actByDraw 147 = .ok (.ifCond .eq 14, 3) := by decide +kernel
theorem dX1_actByDraw_150 : decode cX1_actByDraw 150 = .ok (.aload_n 0, 1) := by decide +kernel
theorem dX1_actByDraw_151 : decode cX1_actByDraw 151 = .ok (.iload_n 2, 1) := by decide +kernel
theorem dX1_actByDraw_152 : decode cX1_actByDraw 152 = .ok (.iload_n 3, 1) := by decide +kernel
theorem dX1_actByDraw_153 : decode cX1_actByDraw 153 = .ok (.iconst 2, 1) := by decide +kernel
theorem dX1_actByDraw_154 : decode cX1_actByDraw 154 = .ok (.irem, 1) := by decide +kernel
theorem dX1_actByDraw_155 : decode cX1_actByDraw 155 = .ok (.invokevirtual 199, 3) := by decide +kernel
theorem dX1_actByDraw_158 : decode cX1_actByDraw 158 = .ok (.goto 25, 3) := by decide +kernel
theorem dX1_actByDraw_161 : decode cX1_actByDraw 161 = .ok (.iload 6, 2) := by decide +kernel
theorem dX1_actByDraw_163 : decode cX1_actByDraw 163 = .ok (.bipush 7, 2) := by decide +kernel
theorem dX1_actByDraw_165 : decode cX1_actByDraw 165 = .ok (.if_icmp .ne 18, 3) := by decide +kernel
theorem dX1_actByDraw_168 : decode cX1_actByDraw 168 = .ok (.aload_n 0, 1) := by decide +kernel
theorem dX1_actByDraw_169 : decode cX1_actByDraw 169 = .ok (.iload 4, 2) := by decide +kernel
theorem dX1_actByDraw_171 : decode cX1_actByDraw 171 = .ok (.invokevirtual 68, 3) := by decide +kernel
theorem dX1_actByDraw_174 : decode cX1_actByDraw 174 = .ok (.ifCond .eq 9, 3) := by decide +kernel
theorem dX1_actByDraw_177 : decode cX1_actByDraw 177 = .ok (.aload_n 0, 1) := by decide +kernel
theorem dX1_actByDraw_178 : decode cX1_actByDraw 178 = .ok (.iload 4, 2) := by decide +kernel
theorem dX1_actByDraw_180 : decode cX1_actByDraw 180 = .ok (.invokevirtual 202, 3) := by decide +kernel
theorem dX1_actByDraw_183 : decode cX1_actByDraw 183 = .ok (.return_, 1) := by decide +kernel
theorem dX2_init_0 : decode cX2_init 0 = .ok (.aload_n 0, 1) := by decide +kernel
theorem dX2_init_1 : decode cX2_init 1 = .ok (.invokespecial 3, 3) := by decide +kernel
theorem dX2_init_4 : decode cX2_init 4 = .ok (.aload_n 0, 1) := by decide +kernel
theorem dX2_init_5 : decode cX2_init 5 = .ok (.bipush 6, 2) := by decide +kernel
theorem dX2_init_7 : decode cX2_init 7 = .ok (.newarray .int, 2) := by decide +kernel
theorem dX2_init_9 : decode cX2_init 9 = .ok (.putfield 9, 3) := by decide +kernel
theorem dX2_init_12 : decode cX2_init 12 = .ok (.aload_n 0, 1) := by decide +kernel
theorem dX2_init_13 : decode cX2_init 13 = .ok (.bipush 6, 2) := by decide +kernel
theorem dX2_init_15 : decode cX2_init 15 = .ok (.newarray .int, 2) := by decide +kernel
theorem dX2_init_17 : decode cX2_init 17 = .ok (.putfield 15, 3) := by decide +kernel
theorem dX2_init_20 : decode cX2_init 20 = .ok (.aload_n 0, 1) := by decide +kernel
theorem dX2_init_21 : decode cX2_init 21 = .ok (.bipush 6, 2) := by decide +kernel
theorem dX2_init_23 : decode cX2_init 23 = .ok (.newarray .int, 2) := by decide +kernel
theorem dX2_init_25 : decode cX2_init 25 = .ok (.putfield 18, 3) := by decide +kernel
theorem dX2_init_28 : decode cX2_init 28 = .ok (.return_, 1) := by decide +kernel
set_option maxRecDepth 20000 in
theorem ggX2_copyFrom_X7_copyRow : GoodIn wsX2_copyFrom wsX7_copyRow := goodIn_r _ [10] (by decide +kernel) (by decide +kernel)
set_option maxRecDepth 20000 in
theorem gX2_copyFrom_X7_copyRow_n34 : GoodIn wsX2_copyFrom (wsX7_copyRow) := ggX2_copyFrom_X7_copyRow
theorem dX2_copyFrom_0 : decode cX2_copyFrom 0 = .ok (.aload_n 0, 1) := by decide +kernel
theorem dX2_copyFrom_1 : decode cX2_copyFrom 1 = .ok (.aload_n 1, 1) := by decide +kernel
theorem dX2_copyFrom_2 : decode cX2_copyFrom 2 = .ok (.getfield 21, 3) := by decide +kernel
theorem dX2_copyFrom_5 : decode cX2_copyFrom 5 = .ok (.putfield 21, 3) := by decide +kernel
theorem dX2_copyFrom_8 : decode cX2_copyFrom 8 = .ok (.aload_n 0, 1) := by decide +kernel
theorem dX2_copyFrom_9 : decode cX2_copyFrom 9 = .ok (.aload_n 1, 1) := by decide +kernel
theorem dX2_copyFrom_10 : decode cX2_copyFrom 10 = .ok (.getfield 25, 3) := by decide +kernel
theorem dX2_copyFrom_13 : decode cX2_copyFrom 13 = .ok (.putfield 25, 3) := by decide +kernel
theorem dX2_copyFrom_16 : decode cX2_copyFrom 16 = .ok (.aload_n 0, 1) := by decide +kernel
theorem dX2_copyFrom_17 : decode cX2_copyFrom 17 = .ok (.aload_n 1, 1) := by decide +kernel
theorem dX2_copyFrom_18 : decode cX2_copyFrom 18 = .ok (.getfield 28, 3) := by decide +kernel
theorem dX2_copyFrom_21 : decode cX2_copyFrom 21 = .ok (.putfield 28, 3) := by decide +kernel
theorem dX2_copyFrom_24 : decode cX2_copyFrom 24 = .ok (.aload_n 0, 1) := by decide +kernel
theorem dX2_copyFrom_25 : decode cX2_copyFrom 25 = .ok (.aload_n 1, 1) := by decide +kernel
theorem dX2_copyFrom_26 : decode cX2_copyFrom 26 = .ok (.getfield 31, 3) := by decide +kernel
theorem dX2_copyFrom_29 : decode cX2_copyFrom 29 = .ok (.putfield 31, 3) := by decide +kernel
theorem dX2_copyFrom_32 : decode cX2_copyFrom 32 = .ok (.aload_n 1, 1) := by decide +kernel
theorem dX2_copyFrom_33 : decode cX2_copyFrom 33 = .ok (.getfield 9, 3) := by decide +kernel
theorem dX2_copyFrom_36 : decode cX2_copyFrom 36 = .ok (.aload_n 0, 1) := by decide +kernel
theorem dX2_copyFrom_37 : decode cX2_copyFrom 37 = .ok (.getfield 9, 3) := by decide +kernel
theorem dX2_copyFrom_40 : decode cX2_copyFrom 40 = .ok (.invokestatic 34, 3) := by decide +kernel
theorem dX2_copyFrom_43 : decode cX2_copyFrom 43 = .ok (.aload_n 1, 1) := by decide +kernel
theorem dX2_copyFrom_44 : decode cX2_copyFrom 44 = .ok (.getfield 15, 3) := by decide +kernel
theorem dX2_copyFrom_47 : decode cX2_copyFrom 47 = .ok (.aload_n 0, 1) := by decide +kernel
theorem dX2_copyFrom_48 : decode cX2_copyFrom 48 = .ok (.getfield 15, 3) := by decide +kernel
theorem dX2_copyFrom_51 : decode cX2_copyFrom 51 = .ok (.invokestatic 34, 3) := by decide +kernel
theorem dX2_copyFrom_54 : decode cX2_copyFrom 54 = .ok (.aload_n 1, 1) := by decide +kernel
theorem dX2_copyFrom_55 : decode cX2_copyFrom 55 = .ok (.getfield 18, 3) := by decide +kernel
theorem dX2_copyFrom_58 : decode cX2_copyFrom 58 = .ok (.aload_n 0, 1) := by decide +kernel
theorem dX2_copyFrom_59 : decode cX2_copyFrom 59 = .ok (.getfield 18, 3) := by decide +kernel
theorem dX2_copyFrom_62 : decode cX2_copyFrom 62 = .ok (.invokestatic 34, 3) := by decide +kernel
theorem dX2_copyFrom_65 : decode cX2_copyFrom 65 = .ok (.return_, 1) := by decide +kernel
theorem dX2_hasSquare_0 : decode cX2_hasSquare 0 = .ok (.iload_n 1, 1) := by decide +kernel
theorem dX2_hasSquare_1 : decode cX2_hasSquare 1 = .ok (.ifCond .lt 15, 3) := by decide +kernel
theorem dX2_hasSquare_4 : decode cX2_hasSquare 4 = .ok (.iload_n 1, 1) := by decide +kernel
theorem dX2_hasSquare_5 : decode cX2_hasSquare 5 = .ok (.aload_n 0, 1) := by decide +kernel
theorem dX2_hasSquare_6 : decode cX2_hasSquare 6 = .ok (.getfield 21, 3) := by decide +kernel
theorem dX2_hasSquare_9 : decode cX2_hasSquare 9 = .ok (.if_icmp .ge 7, 3) := by decide +kernel
theorem dX2_hasSquare_12 : decode cX2_hasSquare 12 = .ok (.iconst 1, 1) := by decide +kernel
theorem dX2_hasSquare_13 : decode cX2_hasSquare 13 = .ok (.goto 4, 3) := by decide +kernel
theorem dX2_hasSquare_16 : decode cX2_hasSquare 16 = .ok (.iconst 0, 1) := by decide +kernel
theorem dX2_hasSquare_17 : decode cX2_hasSquare 17 = .ok (.ireturn, 1) := by decide +kernel
theorem dX2_hasParasol_0 : decode cX2_hasParasol 0 = .ok (.iload_n 1, 1) := by decide +kernel
theorem dX2_hasParasol_1 : decode cX2_hasParasol 1 = .ok (.ifCond .lt 15, 3) := by decide +kernel
theorem dX2_hasParasol_4 : decode cX2_hasParasol 4 = .ok (.iload_n 1, 1) := by decide +kernel
theorem dX2_hasParasol_5 : decode cX2_hasParasol 5 = .ok (.aload_n 0, 1) := by decide +kernel
theorem dX2_hasParasol_6 : decode cX2_hasParasol 6 = .ok (.getfield 25, 3) := by decide +kernel
theorem dX2_hasParasol_9 : decode cX2_hasParasol 9 = .ok (.if_icmp .ge 7, 3) := by decide +kernel
theorem dX2_hasParasol_12 : decode cX2_hasParasol 12 = .ok (.iconst 1, 1) := by decide +kernel
theorem dX2_hasParasol_13 : decode cX2_hasParasol 13 = .ok (.goto 4, 3) := by decide +kernel
theorem dX2_hasParasol_16 : decode cX2_hasParasol 16 = .ok (.iconst 0, 1) := by decide +kernel
theorem dX2_hasParasol_17 : decode cX2_hasParasol 17 = .ok (.ireturn, 1) := by decide +kernel
theorem dX2_hasPerson_0 : decode cX2_hasPerson 0 = .ok (.iload_n 1, 1) := by decide +kernel
theorem dX2_hasPerson_1 : decode cX2_hasPerson 1 = .ok (.ifCond .lt 15, 3) := by decide +kernel
theorem dX2_hasPerson_4 : decode cX2_hasPerson 4 = .ok (.iload_n 1, 1) := by decide +kernel
theorem dX2_hasPerson_5 : decode cX2_hasPerson 5 = .ok (.aload_n 0, 1) := by decide +kernel
theorem dX2_hasPerson_6 : decode cX2_hasPerson 6 = .ok (.getfield 28, 3) := by decide +kernel
theorem dX2_hasPerson_9 : decode cX2_hasPerson 9 = .ok (.if_icmp .ge 7, 3) := by decide +kernel
theorem dX2_hasPerson_12 : decode cX2_hasPerson 12 = .ok (.iconst 1, 1) := by decide +kernel
theorem dX2_hasPerson_13 : decode cX2_hasPerson 13 = .ok (.goto 4, 3) := by decide +kernel
theorem dX2_hasPerson_16 : decode cX2_hasPerson 16 = .ok (.iconst 0, 1) := by decide +kernel
theorem dX2_hasPerson_17 : decode cX2_hasPerson 17 = .ok (.ireturn, 1) := by decide +kernel
theorem dX2_hasWork_0 : decode cX2_hasWork 0 = .ok (.iload_n 1, 1) := by decide +kernel
theorem dX2_hasWork_1 : decode cX2_hasWork 1 = .ok (.ifCond .lt 15, 3) := by decide +kernel
theorem dX2_hasWork_4 : decode cX2_hasWork 4 = .ok (.iload_n 1, 1) := by decide +kernel
theorem dX2_hasWork_5 : decode cX2_hasWork 5 = .ok (.aload_n 0, 1) := by decide +kernel
theorem dX2_hasWork_6 : decode cX2_hasWork 6 = .ok (.getfield 31, 3) := by decide +kernel
theorem dX2_hasWork_9 : decode cX2_hasWork 9 = .ok (.if_icmp .ge 7, 3) := by decide +kernel
theorem dX2_hasWork_12 : decode cX2_hasWork 12 = .ok (.iconst 1, 1) := by decide +kernel
theorem dX2_hasWork_13 : decode cX2_hasWork 13 = .ok (.goto 4, 3) := by decide +kernel
theorem dX2_hasWork_16 : decode cX2_hasWork 16 = .ok (.iconst 0, 1) := by decide +kernel
theorem dX2_hasWork_17 : decode cX2_hasWork 17 = .ok (.ireturn, 1) := by decide +kernel
set_option maxRecDepth 20000 in
theorem ggX2_kindOf_X7_at : GoodIn wsX2_kindOf wsX7_at := goodIn_r _ [4] (by decide +kernel) (by decide +kernel)
set_option maxRecDepth 20000 in
theorem gX2_kindOf_X7_at_n38 : GoodIn wsX2_kindOf (wsX7_at) := ggX2_kindOf_X7_at
theorem dX2_kindOf_0 : decode cX2_kindOf 0 = .ok (.aload_n 0, 1) := by decide +kernel
theorem dX2_kindOf_1 : decode cX2_kindOf 1 = .ok (.getfield 9, 3) := by decide +kernel
theorem dX2_kindOf_4 : decode cX2_kindOf 4 = .ok (.iload_n 1, 1) := by decide +kernel
theorem dX2_kindOf_5 : decode cX2_kindOf 5 = .ok (.invokestatic 38, 3) := by decide +kernel
theorem dX2_kindOf_8 : decode cX2_kindOf 8 = .ok (.ireturn, 1) := by decide +kernel
set_option maxRecDepth 20000 in
theorem ggX2_workSquareOf_X7_at : GoodIn wsX2_workSquareOf wsX7_at := goodIn_r _ [4] (by decide +kernel) (by decide +kernel)
set_option maxRecDepth 20000 in
theorem gX2_workSquareOf_X7_at_n38 : GoodIn wsX2_workSquareOf (wsX7_at) := ggX2_workSquareOf_X7_at
theorem dX2_workSquareOf_0 : decode cX2_workSquareOf 0 = .ok (.aload_n 0, 1) := by decide +kernel
theorem dX2_workSquareOf_1 : decode cX2_workSquareOf 1 = .ok (.getfield 15, 3) := by decide +kernel
theorem dX2_workSquareOf_4 : decode cX2_workSquareOf 4 = .ok (.iload_n 1, 1) := by decide +kernel
theorem dX2_workSquareOf_5 : decode cX2_workSquareOf 5 = .ok (.invokestatic 38, 3) := by decide +kernel
theorem dX2_workSquareOf_8 : decode cX2_workSquareOf 8 = .ok (.ireturn, 1) := by decide +kernel
set_option maxRecDepth 20000 in
theorem ggX2_workHourOf_X7_at : GoodIn wsX2_workHourOf wsX7_at := goodIn_r _ [4] (by decide +kernel) (by decide +kernel)
set_option maxRecDepth 20000 in
theorem gX2_workHourOf_X7_at_n38 : GoodIn wsX2_workHourOf (wsX7_at) := ggX2_workHourOf_X7_at
theorem dX2_workHourOf_0 : decode cX2_workHourOf 0 = .ok (.aload_n 0, 1) := by decide +kernel
theorem dX2_workHourOf_1 : decode cX2_workHourOf 1 = .ok (.getfield 18, 3) := by decide +kernel
theorem dX2_workHourOf_4 : decode cX2_workHourOf 4 = .ok (.iload_n 1, 1) := by decide +kernel
theorem dX2_workHourOf_5 : decode cX2_workHourOf 5 = .ok (.invokestatic 38, 3) := by decide +kernel
theorem dX2_workHourOf_8 : decode cX2_workHourOf 8 = .ok (.ireturn, 1) := by decide +kernel
set_option maxRecDepth 20000 in
theorem ggX3_init_X2_init : GoodIn wsX3_init wsX2_init := goodIn_r _ [15, 16, 2, 3, 12, 17, 18, 19, 29, 30, 31, 32, 33, 34, 35] (by decide +kernel) (by decide +kernel)
set_option maxRecDepth 20000 in
theorem gX3_init_X2_init_n11 : GoodIn wsX3_init (wsX2_init) := ggX3_init_X2_init
set_option maxRecDepth 20000 in
theorem ggX3_init_X1_init : GoodIn wsX3_init wsX1_init := goodIn_r _ [22, 23, 2, 3, 12, 24, 25, 26, 27, 28, 39, 40, 41, 42, 43, 44, 45, 46, 47] (by decide +kernel) (by decide +kernel)
set_option maxRecDepth 20000 in
theorem gX3_init_X1_init : GoodIn wsX3_init (wsX1_init) := ggX3_init_X1_init
theorem dX3_init_0 : decode cX3_init 0 = .ok (.aload_n 0, 1) := by decide +kernel
theorem dX3_init_1 : decode cX3_init 1 = .ok (.invokespecial 3, 3) := by decide +kernel
theorem dX3_init_4 : decode cX3_init 4 = .ok (.aload_n 0, 1) := by decide +kernel
theorem dX3_init_5 : decode cX3_init 5 = .ok (.new 9, 3) := by decide +kernel
theorem dX3_init_8 : decode cX3_init 8 = .ok (.dup, 1) := by decide +kernel
theorem dX3_init_9 : decode cX3_init 9 = .ok (.invokespecial 11, 3) := by decide +kernel
theorem dX3_init_12 : decode cX3_init 12 = .ok (.putfield 12, 3) := by decide +kernel
theorem dX3_init_15 : decode cX3_init 15 = .ok (.aload_n 0, 1) := by decide +kernel
theorem dX3_init_16 : decode cX3_init 16 = .ok (.new 18, 3) := by decide +kernel
theorem dX3_init_19 : decode cX3_init 19 = .ok (.dup, 1) := by decide +kernel
theorem dX3_init_20 : decode cX3_init 20 = .ok (.aload_n 0, 1) := by decide +kernel
theorem dX3_init_21 : decode cX3_init 21 = .ok (.getfield 12, 3) := by decide +kernel
theorem dX3_init_24 : decode cX3_init 24 = .ok (.invokespecial 20, 3) := by decide +kernel
theorem dX3_init_27 : decode cX3_init 27 = .ok (.putfield 23, 3) := by decide +kernel
theorem dX3_init_30 : decode cX3_init 30 = .ok (.aload_n 0, 1) := by decide +kernel
theorem dX3_init_31 : decode cX3_init 31 = .ok (.iconst 3, 1) := by decide +kernel
theorem dX3_init_32 : decode cX3_init 32 = .ok (.newarray .int, 2) := by decide +kernel
theorem dX3_init_34 : decode cX3_init 34 = .ok (.putfield 27, 3) := by decide +kernel
theorem dX3_init_37 : decode cX3_init 37 = .ok (.return_, 1) := by decide +kernel
set_option maxRecDepth 20000 in
theorem ggX3_placeOfFault_X3_clear : GoodIn wsX3_placeOfFault wsX3_clear := goodIn_r _ [6, 7, 8, 9, 10, 11, 12, 13, 14, 15, 16, 17, 18, 19, 20, 21, 22, 86, 87, 88, 89, 90, 91, 92, 93, 94, 95, 96, 97, 98, 99, 100, 101, 102, 103, 104] (by decide +kernel) (by decide +kernel)
set_option maxRecDepth 20000 in
theorem gX3_placeOfFault_X3_clear : GoodIn wsX3_placeOfFault (wsV RX3 31 RX3 yX3_clear wsX3_clear) := goodIn_app (goodIn_of _ (by decide +kernel)) ggX3_placeOfFault_X3_clear
set_option maxRecDepth 20000 in
theorem ggX3_placeOfFault_X3_behindItem : GoodIn wsX3_placeOfFault wsX3_behindItem := goodIn_r _ [26, 27, 28, 29, 30, 31, 32, 33, 34, 35, 5, 36, 37, 38, 39, 40, 41, 42, 43, 44, 45, 46, 47, 48, 49, 50, 51, 52, 53, 54, 55, 7, 9, 10, 11, 8, 56, 57, 58, 59, 60, 61, 62, 12, 63, 64, 65, 66, 67, 68, 69, 70, 71, 72, 73, 74, 75, 76, 77, 78, 79, 80, 81, 82, 83, 84, 85, 86, 87, 88, 89, 90, 91, 92, 93, 94, 95, 96, 97, 98, 99, 100, 101, 102, 103, 104] (by decide +kernel) (by decide +kernel)
set_option maxRecDepth 20000 in
theorem gX3_placeOfFault_X3_behindItem : GoodIn wsX3_placeOfFault (wsV RX3 40 RX3 yX3_behindItem wsX3_behindItem) := goodIn_app (goodIn_of _ (by decide +kernel)) ggX3_placeOfFault_X3_behindItem
theorem dX3_placeOfFault_0 : decode cX3_placeOfFault 0 = .ok (.aload_n 0, 1) := by decide +kernel
theorem dX3_placeOfFault_1 : decode cX3_placeOfFault 1 = .ok (.invokevirtual 31, 3) := by decide +kernel
theorem dX3_placeOfFault_4 : decode cX3_placeOfFault 4 = .ok (.iconst 0, 1) := by decide +kernel
theorem dX3_placeOfFault_5 : decode cX3_placeOfFault 5 = .ok (.istore_n 2, 1) := by decide +kernel
theorem dX3_placeOfFault_6 : decode cX3_placeOfFault 6 = .ok (.iconst 0, 1) := by decide +kernel
theorem dX3_placeOfFault_7 : decode cX3_placeOfFault 7 = .ok (.istore_n 3, 1) := by decide +kernel
theorem dX3_placeOfFault_8 : decode cX3_placeOfFault 8 = .ok (.iload_n 3, 1) := by decide +kernel
theorem dX3_placeOfFault_9 : decode cX3_placeOfFault 9 = .ok (.sipush 200, 3) := by decide +kernel
theorem dX3_placeOfFault_12 : decode cX3_placeOfFault 12 = .ok (.if_icmp .ge 37, 3) := by decide +kernel
theorem dX3_placeOfFault_15 : decode cX3_placeOfFault 15 = .ok (.iload_n 2, 1) := by decide +kernel
theorem dX3_placeOfFault_16 : decode cX3_placeOfFault 16 = .ok (.aload_n 1, 1) := by decide +kernel
theorem dX3_placeOfFault_17 : decode cX3_placeOfFault 17 = .ok (.getfield 34, 3) := by decide +kernel
theorem dX3_placeOfFault_20 : decode cX3_placeOfFault 20 = .ok (.if_icmp .ge 29, 3) := by decide +kernel
theorem dX3_placeOfFault_23 : decode cX3_placeOfFault 23 = .ok (.aload_n 0, 1) := by decide +kernel
theorem dX3_placeOfFault_24 : decode cX3_placeOfFault 24 = .ok (.aload_n 1, 1) := by decide +kernel
theorem dX3_placeOfFault_25 : decode cX3_placeOfFault 25 = .ok (.iload_n 2, 1) := by decide +kernel
theorem dX3_placeOfFault_26 : decode cX3_placeOfFault 26 = .ok (.invokevirtual 40, 3) := by decide +kernel
theorem dX3_placeOfFault_29 : decode cX3_placeOfFault 29 = .ok (.istore 4, 2) := by decide +kernel
theorem dX3_placeOfFault_31 : decode cX3_placeOfFault 31 = .ok (.iload 4, 2) := by decide +kernel
theorem dX3_placeOfFault_33 : decode cX3_placeOfFault 33 = .ok (.bipush (-4), 2) := by decide +kernel
theorem dX3_placeOfFault_35 : decode cX3_placeOfFault 35 = .ok (.if_icmp .ne 5, 3) := by decide +kernel
theorem dX3_placeOfFault_38 : decode cX3_placeOfFault 38 = .ok (.iload_n 2, 1) := by decide +kernel
theorem dX3_placeOfFault_39 : decode cX3_placeOfFault 39 = .ok (.ireturn, 1) := by decide +kernel
theorem dX3_placeOfFault_40 : decode cX3_placeOfFault 40 = .ok (.iload 4, 2) := by decide +kernel
theorem dX3_placeOfFault_42 : decode cX3_placeOfFault 42 = .ok (.istore_n 2, 1) := by decide +kernel
theorem dX3_placeOfFault_43 : decode cX3_placeOfFault 43 = .ok (.iinc 3 1, 3) := by decide +kernel
theorem dX3_placeOfFault_46 : decode cX3_placeOfFault 46 = .ok (.goto (-38), 3) := by decide +kernel
theorem dX3_placeOfFault_49 : decode cX3_placeOfFault 49 = .ok (.bipush (-4), 2) := by decide +kernel
theorem dX3_placeOfFault_51 : decode cX3_placeOfFault 51 = .ok (.ireturn, 1) := by decide +kernel
set_option maxRecDepth 20000 in
theorem ggX3_clear_X1_clear : GoodIn wsX3_clear wsX1_clear := goodIn_r _ [11, 12, 13, 14, 15, 16, 27, 28, 29, 30, 31, 32, 33, 34, 35] (by decide +kernel) (by decide +kernel)
set_option maxRecDepth 20000 in
theorem gX3_clear_X1_clear : GoodIn wsX3_clear (wsV RX3 56 RX1 yX1_clear wsX1_clear) := goodIn_app (goodIn_of _ (by decide +kernel)) ggX3_clear_X1_clear
theorem dX3_clear_0 : decode cX3_clear 0 = .ok (.aload_n 0, 1) := by decide +kernel
theorem dX3_clear_1 : decode cX3_clear 1 = .ok (.getfield 12, 3) := by decide +kernel
theorem dX3_clear_4 : decode cX3_clear 4 = .ok (.bipush 6, 2) := by decide +kernel
theorem dX3_clear_6 : decode cX3_clear 6 = .ok (.putfield 44, 3) := by decide +kernel
theorem dX3_clear_9 : decode cX3_clear 9 = .ok (.aload_n 0, 1) := by decide +kernel
theorem dX3_clear_10 : decode cX3_clear 10 = .ok (.getfield 12, 3) := by decide +kernel
theorem dX3_clear_13 : decode cX3_clear 13 = .ok (.iconst 0, 1) := by decide +kernel
theorem dX3_clear_14 : decode cX3_clear 14 = .ok (.putfield 47, 3) := by decide +kernel
theorem dX3_clear_17 : decode cX3_clear 17 = .ok (.aload_n 0, 1) := by decide +kernel
theorem dX3_clear_18 : decode cX3_clear 18 = .ok (.getfield 12, 3) := by decide +kernel
theorem dX3_clear_21 : decode cX3_clear 21 = .ok (.iconst 0, 1) := by decide +kernel
theorem dX3_clear_22 : decode cX3_clear 22 = .ok (.putfield 50, 3) := by decide +kernel
theorem dX3_clear_25 : decode cX3_clear 25 = .ok (.aload_n 0, 1) := by decide +kernel
theorem dX3_clear_26 : decode cX3_clear 26 = .ok (.getfield 12, 3) := by decide +kernel
theorem dX3_clear_29 : decode cX3_clear 29 = .ok (.iconst 0, 1) := by decide +kernel
theorem dX3_clear_30 : decode cX3_clear 30 = .ok (.putfield 53, 3) := by decide +kernel
theorem dX3_clear_33 : decode cX3_clear 33 = .ok (.aload_n 0, 1) := by decide +kernel
theorem dX3_clear_34 : decode cX3_clear 34 = .ok (.getfield 23, 3) := by decide +kernel
theorem dX3_clear_37 : decode cX3_clear 37 = .ok (.invokevirtual 56, 3) := by decide +kernel
theorem dX3_clear_40 : decode cX3_clear 40 = .ok (.return_, 1) := by decide +kernel
set_option maxRecDepth 20000 in
theorem ggX3_behindItem_X6_letterAt : GoodIn wsX3_behindItem wsX6_letterAt := goodIn_r _ [5, 6, 7, 65, 66] (by decide +kernel) (by decide +kernel)
set_option maxRecDepth 20000 in
theorem gX3_behindItem_X6_letterAt : GoodIn wsX3_behindItem (wsV RX3 57 RX6 yX6_letterAt wsX6_letterAt) := goodIn_app (goodIn_of _ (by decide +kernel)) ggX3_behindItem_X6_letterAt
set_option maxRecDepth 20000 in
theorem ggX3_behindItem_X3_numbersOf : GoodIn wsX3_behindItem wsX3_numbersOf := goodIn_r _ [11] (by decide +kernel) (by decide +kernel)
set_option maxRecDepth 20000 in
theorem gX3_behindItem_X3_numbersOf : GoodIn wsX3_behindItem (va_wsS RX3 61 yX3_numbersOf wsX3_numbersOf) := goodIn_app (goodIn_of _ (by decide +kernel)) ggX3_behindItem_X3_numbersOf
set_option maxRecDepth 20000 in
theorem ggX3_behindItem_X3_behindNumber : GoodIn wsX3_behindItem wsX3_behindNumber := goodIn_r _ [15, 16, 1, 2, 3, 4, 5, 6, 7, 17, 18, 10, 19, 20, 21, 22, 67, 68, 69, 65, 66] (by decide +kernel) (by decide +kernel)
set_option maxRecDepth 20000 in
theorem gX3_behindItem_X3_behindNumber : GoodIn wsX3_behindItem (wsV RX3 65 RX3 yX3_behindNumber wsX3_behindNumber) := goodIn_app (goodIn_of _ (by decide +kernel)) ggX3_behindItem_X3_behindNumber
set_option maxRecDepth 20000 in
theorem ggX3_behindItem_X3_accepts : GoodIn wsX3_behindItem wsX3_accepts := goodIn_r _ [26, 27, 28, 29, 10, 30, 16, 31, 32, 33, 34, 35, 36, 21, 37, 38, 39, 40, 41, 42, 43, 44, 45, 46, 47, 20, 22, 48, 49, 50, 51, 52, 53, 54, 55, 56, 57, 58, 59, 60, 61, 62, 63, 64, 67, 68, 69, 70, 71, 72, 73, 74, 75, 76, 77, 78, 79, 80, 81, 82, 83, 84, 85] (by decide +kernel) (by decide +kernel)
set_option maxRecDepth 20000 in
theorem gX3_behindItem_X3_accepts : GoodIn wsX3_behindItem (wsV RX3 69 RX3 yX3_accepts wsX3_accepts) := goodIn_app (goodIn_of _ (by decide +kernel)) ggX3_behindItem_X3_accepts
theorem dX3_behindItem_0 : decode cX3_behindItem 0 = .ok (.aload_n 1, 1) := by decide +kernel
theorem dX3_behindItem_1 : decode cX3_behindItem 1 = .ok (.iload_n 2, 1) := by decide +kernel
theorem dX3_behindItem_2 : decode cX3_behindItem 2 = .ok (.invokevirtual 57, 3) := by decide +kernel
theorem dX3_behindItem_5 : decode cX3_behindItem 5 = .ok (.istore_n 3, 1) := by decide +kernel
theorem dX3_behindItem_6 : decode cX3_behindItem 6 = .ok (.iload_n 3, 1) := by decide +kernel
theorem dX3_behindItem_7 : decode cX3_behindItem 7 = .ok (.invokestatic 61, 3) := by decide +kernel
theorem dX3_behindItem_10 : decode cX3_behindItem 10 = .ok (.istore 4, 2) := by decide +kernel
theorem dX3_behindItem_12 : decode cX3_behindItem 12 = .ok (.iload_n 2, 1) := by decide +kernel
theorem dX3_behindItem_13 : decode cX3_behindItem 13 = .ok (.iconst 1, 1) := by decide +kernel
theorem dX3_behindItem_14 : decode cX3_behindItem 14 = .ok (.iadd, 1) := by decide +kernel
theorem dX3_behindItem_15 : decode cX3_behindItem 15 = .ok (.istore 5, 2) := by decide +kernel
theorem dX3_behindItem_17 : decode cX3_behindItem 17 = .ok (.iconst 0, 1) := by decide +kernel
theorem dX3_behindItem_18 : decode cX3_behindItem 18 = .ok (.istore 6, 2) := by decide +kernel
theorem dX3_behindItem_20 : decode cX3_behindItem 20 = .ok (.iload 6, 2) := by decide +kernel
theorem dX3_behindItem_22 : decode cX3_behindItem 22 = .ok (.iload 4, 2) := by decide +kernel
theorem dX3_behindItem_24 : decode cX3_behindItem 24 = .ok (.if_icmp .ge 46, 3) := by decide +kernel
theorem dX3_behindItem_27 : decode cX3_behindItem 27 = .ok (.aload_n 0, 1) := by decide +kernel
theorem dX3_behindItem_28 : decode cX3_behindItem 28 = .ok (.aload_n 1, 1) := by decide +kernel
theorem dX3_behindItem_29 : decode cX3_behindItem 29 = .ok (.iload 5, 2) := by decide +kernel
theorem dX3_behindItem_31 : decode cX3_behindItem 31 = .ok (.iload 6, 2) := by decide +kernel
theorem dX3_behindItem_33 : decode cX3_behindItem 33 = .ok (.iload 6, 2) := by decide +kernel
theorem dX3_behindItem_35 : decode cX3_behindItem 35 = .ok (.iload 4, 2) := by decide +kernel
theorem dX3_behindItem_37 : decode cX3_behindItem 37 = .ok (.iconst 1, 1) := by decide +kernel
theorem dX3_behindItem_38 : decode cX3_behindItem 38 = .ok (.isub, 1) := by decide +kernel
theorem dX3_behindItem_39 : decode cX3_behindItem 39 = .ok (.if_icmp .ne 8, 3) := by decide +kernel
theorem dX3_behindItem_42 : decode cX3_behindItem 42 = .ok (.bipush 59, 2) := by decide +kernel
theorem dX3_behindItem_44 : decode cX3_behindItem 44 = .ok (.goto 5, 3) := by decide +kernel
theorem dX3_behindItem_47 : decode cX3_behindItem 47 = .ok (.bipush 44, 2) := by decide +kernel
theorem dX3_behindItem_49 : decode cX3_behindItem 49 = .ok (.invokevirtual 65, 3) := by decide +kernel
theorem dX3_behindItem_52 : decode cX3_behindItem 52 = .ok (.istore 5, 2) := by decide +kernel
theorem dX3_behindItem_54 : decode cX3_behindItem 54 = .ok (.iload 5, 2) := by decide +kernel
theorem dX3_behindItem_56 : decode cX3_behindItem 56 = .ok (.bipush (-4), 2) := by decide +kernel
theorem dX3_behindItem_58 : decode cX3_behindItem 58 = .ok (.if_icmp .ne 6, 3) := by decide +kernel
theorem dX3_behindItem_61 : decode cX3_behindItem 61 = .ok (.bipush (-4), 2) := by decide +kernel
theorem dX3_behindItem_63 : decode cX3_behindItem 63 = .ok (.ireturn, 1) := by decide +kernel
theorem dX3_behindItem_64 : decode cX3_behindItem 64 = .ok (.iinc 6 1, 3) := by decide +kernel
theorem dX3_behindItem_67 : decode cX3_behindItem 67 = .ok (.goto (-47), 3) := by decide +kernel
theorem dX3_behindItem_70 : decode cX3_behindItem 70 = .ok (.aload_n 0, 1) := by decide +kernel
theorem dX3_behindItem_71 : decode cX3_behindItem 71 = .ok (.iload_n 3, 1) := by decide +kernel
theorem dX3_behindItem_72 : decode cX3_behindItem 72 = .ok (.invokevirtual 69, 3) := by decide +kernel
theorem dX3_behindItem_75 : decode cX3_behindItem 75 = .ok (.ifCond .eq 8, 3) := by decide +kernel
theorem dX3_behindItem_78 : decode cX3_behindItem 78 = .ok (.iload 5, 2) := by decide +kernel
theorem dX3_behindItem_80 : decode cX3_behindItem 80 = .ok (.goto 5, 3) := by decide +kernel
theorem dX3_behindItem_83 : decode cX3_behindItem 83 = .ok (.bipush (-4), 2) := by decide +kernel
theorem dX3_behindItem_85 : decode cX3_behindItem 85 = .ok (.ireturn, 1) := by decide +kernel
theorem dX3_numbersOf_0 : decode cX3_numbersOf 0 = .ok (.iload_n 0, 1) := by decide +kernel
theorem dX3_numbersOf_1 : decode cX3_numbersOf 1 = .ok (.bipush 117, 2) := by decide +kernel
theorem dX3_numbersOf_3 : decode cX3_numbersOf 3 = .ok (.if_icmp .ne 5, 3) := by decide +kernel
theorem dX3_numbersOf_6 : decode cX3_numbersOf 6 = .ok (.iconst 3, 1) := by decide +kernel
theorem dX3_numbersOf_7 : decode cX3_numbersOf 7 = .ok (.ireturn, 1) := by decide +kernel
theorem dX3_numbersOf_8 : decode cX3_numbersOf 8 = .ok (.iload_n 0, 1) := by decide +kernel
theorem dX3_numbersOf_9 : decode cX3_numbersOf 9 = .ok (.bipush 119, 2) := by decide +kernel
theorem dX3_numbersOf_11 : decode cX3_numbersOf 11 = .ok (.if_icmp .ne 5, 3) := by decide +kernel
theorem dX3_numbersOf_14 : decode cX3_numbersOf 14 = .ok (.iconst 2, 1) := by decide +kernel
theorem dX3_numbersOf_15 : decode cX3_numbersOf 15 = .ok (.ireturn, 1) := by decide +kernel
theorem dX3_numbersOf_16 : decode cX3_numbersOf 16 = .ok (.iload_n 0, 1) := by decide +kernel
theorem dX3_numbersOf_17 : decode cX3_numbersOf 17 = .ok (.bipush 113, 2) := by decide +kernel
theorem dX3_numbersOf_19 : decode cX3_numbersOf 19 = .ok (.if_icmp .eq 9, 3) := by decide +kernel
theorem dX3_numbersOf_22 : decode cX3_numbersOf 22 = .ok (.iload_n 0, 1) := by decide +kernel
theorem dX3_numbersOf_23 : decode cX3_numbersOf 23 = .ok (.bipush 112, 2) := by decide +kernel
theorem dX3_numbersOf_25 : decode cX3_numbersOf 25 = .ok (.if_icmp .ne 7, 3) := by decide +kernel
theorem dX3_numbersOf_28 : decode cX3_numbersOf 28 = .ok (.iconst 1, 1) := by decide +kernel
theorem dX3_numbersOf_29 : decode cX3_numbersOf 29 = .ok (.goto 4, 3) := by decide +kernel
theorem dX3_numbersOf_32 : decode cX3_numbersOf 32 = .ok (.iconst 0, 1) := by decide +kernel
theorem dX3_numbersOf_33 : decode cX3_numbersOf 33 = .ok (.ireturn, 1) := by decide +kernel
set_option maxRecDepth 20000 in
theorem ggX3_behindNumber_X6_letterAt : GoodIn wsX3_behindNumber wsX6_letterAt := goodIn_r _ [6, 7, 8, 19, 20] (by decide +kernel) (by decide +kernel)
set_option maxRecDepth 20000 in
theorem gX3_behindNumber_X6_letterAt : GoodIn wsX3_behindNumber (wsV RX3 57 RX6 yX6_letterAt wsX6_letterAt) := goodIn_app (goodIn_of _ (by decide +kernel)) ggX3_behindNumber_X6_letterAt
set_option maxRecDepth 20000 in
theorem ggX3_behindNumber_X3_isFigure : GoodIn wsX3_behindNumber wsX3_isFigure := goodIn_r _ [12] (by decide +kernel) (by decide +kernel)
set_option maxRecDepth 20000 in
theorem gX3_behindNumber_X3_isFigure : GoodIn wsX3_behindNumber (va_wsS RX3 73 yX3_isFigure wsX3_isFigure) := goodIn_app (goodIn_of _ (by decide +kernel)) ggX3_behindNumber_X3_isFigure
set_option maxRecDepth 20000 in
theorem ggX3_behindNumber_X7_put : GoodIn wsX3_behindNumber wsX7_put := goodIn_r _ [15] (by decide +kernel) (by decide +kernel)
set_option maxRecDepth 20000 in
theorem gX3_behindNumber_X7_put_n76 : GoodIn wsX3_behindNumber (wsX7_put) := ggX3_behindNumber_X7_put
theorem dX3_behindNumber_0 : decode cX3_behindNumber 0 = .ok (.iconst 0, 1) := by decide +kernel
theorem dX3_behindNumber_1 : decode cX3_behindNumber 1 = .ok (.istore 5, 2) := by decide +kernel
theorem dX3_behindNumber_3 : decode cX3_behindNumber 3 = .ok (.iload_n 2, 1) := by decide +kernel
theorem dX3_behindNumber_4 : decode cX3_behindNumber 4 = .ok (.istore 6, 2) := by decide +kernel
theorem dX3_behindNumber_6 : decode cX3_behindNumber 6 = .ok (.iload 6, 2) := by decide +kernel
theorem dX3_behindNumber_8 : decode cX3_behindNumber 8 = .ok (.iload_n 2, 1) := by decide +kernel
theorem dX3_behindNumber_9 : decode cX3_behindNumber 9 = .ok (.iconst 2, 1) := by decide +kernel
theorem dX3_behindNumber_10 : decode cX3_behindNumber 10 = .ok (.iadd, 1) := by decide +kernel
theorem dX3_behindNumber_11 : decode cX3_behindNumber 11 = .ok (.if_icmp .ge 38, 3) := by decide +kernel
theorem dX3_behindNumber_14 : decode cX3_behindNumber 14 = .ok (.aload_n 1, 1) := by decide +kernel
theorem dX3_behindNumber_15 : decode cX3_behindNumber 15 = .ok (.iload 6, 2) := by decide +kernel
theorem dX3_behindNumber_17 : decode cX3_behindNumber 17 = .ok (.invokevirtual 57, 3) := by decide +kernel
theorem dX3_behindNumber_20 : decode cX3_behindNumber 20 = .ok (.invokestatic 73, 3) := by decide +kernel
theorem dX3_behindNumber_23 : decode cX3_behindNumber 23 = .ok (.ifCond .eq 26, 3) := by decide +kernel
theorem dX3_behindNumber_26 : decode cX3_behindNumber 26 = .ok (.iload 5, 2) := by decide +kernel
theorem dX3_behindNumber_28 : decode cX3_behindNumber 28 = .ok (.bipush 10, 2) := by decide +kernel
theorem dX3_behindNumber_30 : decode cX3_behindNumber 30 = .ok (.imul, 1) := by decide +kernel
theorem dX3_behindNumber_31 : decode cX3_behindNumber 31 = .ok (.aload_n 1, 1) := by decide +kernel
theorem dX3_behindNumber_32 : decode cX3_behindNumber 32 = .ok (.iload 6, 2) := by decide +kernel
theorem dX3_behindNumber_34 : decode cX3_behindNumber 34 = .ok (.invokevirtual 57, 3) := by decide +kernel
theorem dX3_behindNumber_37 : decode cX3_behindNumber 37 = .ok (.bipush 48, 2) := by decide +kernel
theorem dX3_behindNumber_39 : decode cX3_behindNumber 39 = .ok (.isub, 1) := by decide +kernel
theorem dX3_behindNumber_40 : decode cX3_behindNumber 40 = .ok (.iadd, 1) := by decide +kernel
theorem dX3_behindNumber_41 : decode cX3_behindNumber 41 = .ok (.istore 5, 2) := by decide +kernel
theorem dX3_behindNumber_43 : decode cX3_behindNumber 43 = .ok (.iinc 6 1, 3) := by decide +kernel
theorem dX3_behindNumber_46 : decode cX3_behindNumber 46 = .ok (.goto (-40), 3) := by decide +kernel
theorem dX3_behindNumber_49 : decode cX3_behindNumber 49 = .ok (.iload 6, 2) := by decide +kernel
theorem dX3_behindNumber_51 : decode cX3_behindNumber 51 = .ok (.iload_n 2, 1) := by decide +kernel
theorem dX3_behindNumber_52 : decode cX3_behindNumber 52 = .ok (.if_icmp .eq 14, 3) := by decide +kernel
theorem dX3_behindNumber_55 : decode cX3_behindNumber 55 = .ok (.aload_n 1, 1) := by decide +kernel
theorem dX3_behindNumber_56 : decode cX3_behindNumber 56 = .ok (.iload 6, 2) := by decide +kernel
theorem dX3_behindNumber_58 : decode cX3_behindNumber 58 = .ok (.invokevirtual 57, 3) := by decide +kernel
theorem dX3_behindNumber_61 : decode cX3_behindNumber 61 = .ok (.iload 4, 2) := by decide +kernel
theorem dX3_behindNumber_63 : decode cX3_behindNumber 63 = .ok (.if_icmp .eq 6, 3) := by decide +kernel
theorem dX3_behindNumber_66 : decode cX3_behindNumber 66 = .ok (.bipush (-4), 2) := by decide +kernel
theorem dX3_behindNumber_68 : decode cX3_behindNumber 68 = .ok (.ireturn, 1) := by decide +kernel
theorem dX3_behindNumber_69 : decode cX3_behindNumber 69 = .ok (.aload_n 0, 1) := by decide +kernel
theorem dX3_behindNumber_70 : decode cX3_behindNumber 70 = .ok (.getfield 27, 3) := by decide +kernel
theorem dX3_behindNumber_73 : decode cX3_behindNumber 73 = .ok (.iload_n 3, 1) := by decide +kernel
theorem dX3_behindNumber_74 : decode cX3_behindNumber 74 = .ok (.iload 5, 2) := by decide +kernel
theorem dX3_behindNumber_76 : decode cX3_behindNumber 76 = .ok (.invokestatic 76, 3) := by decide +kernel
theorem dX3_behindNumber_79 : decode cX3_behindNumber 79 = .ok (.iload 6, 2) := by decide +kernel
theorem dX3_behindNumber_81 : decode cX3_behindNumber 81 = .ok (.iconst 1, 1) := by decide +kernel
theorem dX3_behindNumber_82 : decode cX3_behindNumber 82 = .ok (.iadd, 1) := by decide +kernel
theorem dX3_behindNumber_83 : decode cX3_behindNumber 83 = .ok (.ireturn, 1) := by decide +kernel
theorem dX3_isFigure_0 : decode cX3_isFigure 0 = .ok (.iload_n 0, 1) := by decide +kernel
theorem dX3_isFigure_1 : decode cX3_isFigure 1 = .ok (.bipush 48, 2) := by decide +kernel
theorem dX3_isFigure_3 : decode cX3_isFigure 3 = .ok (.if_icmp .lt 13, 3) := by decide +kernel
theorem dX3_isFigure_6 : decode cX3_isFigure 6 = .ok (.iload_n 0, 1) := by decide +kernel
theorem dX3_isFigure_7 : decode cX3_isFigure 7 = .ok (.bipush 57, 2) := by decide +kernel
theorem dX3_isFigure_9 : decode cX3_isFigure 9 = .ok (.if_icmp .gt 7, 3) := by decide +kernel
theorem dX3_isFigure_12 : decode cX3_isFigure 12 = .ok (.iconst 1, 1) := by decide +kernel
theorem dX3_isFigure_13 : decode cX3_isFigure 13 = .ok (.goto 4, 3) := by decide +kernel
theorem dX3_isFigure_16 : decode cX3_isFigure 16 = .ok (.iconst 0, 1) := by decide +kernel
theorem dX3_isFigure_17 : decode cX3_isFigure 17 = .ok (.ireturn, 1) := by decide +kernel
set_option maxRecDepth 20000 in
theorem ggX3_accepts_X3_acceptsSquares : GoodIn wsX3_accepts wsX3_acceptsSquares := goodIn_r _ [5, 6, 7, 8, 9, 10, 11, 12, 13, 14, 44, 45, 46, 47, 48, 49, 50, 51, 52, 53] (by decide +kernel) (by decide +kernel)
set_option maxRecDepth 20000 in
theorem gX3_accepts_X3_acceptsSquares : GoodIn wsX3_accepts (wsV RX3 80 RX3 yX3_acceptsSquares wsX3_acceptsSquares) := goodIn_app (goodIn_of _ (by decide +kernel)) ggX3_accepts_X3_acceptsSquares
set_option maxRecDepth 20000 in
theorem ggX3_accepts_X3_acceptsParasol : GoodIn wsX3_accepts wsX3_acceptsParasol := goodIn_r _ [18, 6, 7, 8, 19, 20, 21, 22, 12, 13, 14, 23, 24, 25, 26, 44, 45, 46, 47, 48, 49, 50, 51, 52, 53, 54, 55, 56, 57, 58, 59, 60, 61, 62] (by decide +kernel) (by decide +kernel)
set_option maxRecDepth 20000 in
theorem gX3_accepts_X3_acceptsParasol : GoodIn wsX3_accepts (wsV RX3 84 RX3 yX3_acceptsParasol wsX3_acceptsParasol) := goodIn_app (goodIn_of _ (by decide +kernel)) ggX3_accepts_X3_acceptsParasol
set_option maxRecDepth 20000 in
theorem ggX3_accepts_X3_acceptsPerson : GoodIn wsX3_accepts wsX3_acceptsPerson := goodIn_r _ [30, 6, 7, 9, 20, 31, 12, 13, 14, 32, 33, 34, 35, 36, 37, 25, 26, 44, 45, 46, 47, 48, 49, 50, 51, 52, 53, 54, 55, 56, 57, 58, 59, 60, 61, 62] (by decide +kernel) (by decide +kernel)
set_option maxRecDepth 20000 in
theorem gX3_accepts_X3_acceptsPerson : GoodIn wsX3_accepts (wsV RX3 87 RX3 yX3_acceptsPerson wsX3_acceptsPerson) := goodIn_app (goodIn_of _ (by decide +kernel)) ggX3_accepts_X3_acceptsPerson
set_option maxRecDepth 20000 in
theorem ggX3_accepts_X3_acceptsWork : GoodIn wsX3_accepts wsX3_acceptsWork := goodIn_r _ [41, 6, 7, 10, 42, 43, 12, 13, 14, 32, 33, 34, 35, 36, 37, 23, 24, 25, 26, 44, 45, 46, 47, 48, 49, 50, 51, 52, 53] (by decide +kernel) (by decide +kernel)
set_option maxRecDepth 20000 in
theorem gX3_accepts_X3_acceptsWork : GoodIn wsX3_accepts (wsV RX3 90 RX3 yX3_acceptsWork wsX3_acceptsWork) := goodIn_app (goodIn_of _ (by decide +kernel)) ggX3_accepts_X3_acceptsWork
theorem dX3_accepts_0 : decode cX3_accepts 0 = .ok (.iload_n 1, 1) := by decide +kernel
theorem dX3_accepts_1 : decode cX3_accepts 1 = .ok (.bipush 113, 2) := by decide +kernel
theorem dX3_accepts_3 : decode cX3_accepts 3 = .ok (.if_icmp .ne 10, 3) := by decide +kernel
theorem dX3_accepts_6 : decode cX3_accepts 6 = .ok (.aload_n 0, 1) := by decide +kernel
theorem dX3_accepts_7 : decode cX3_accepts 7 = .ok (.invokevirtual 80, 3) := by decide +kernel
theorem dX3_accepts_10 : decode cX3_accepts 10 = .ok (.ifCond .ne 42, 3) := by decide +kernel
theorem dX3_accepts_13 : decode cX3_accepts 13 = .ok (.iload_n 1, 1) := by decide +kernel
theorem dX3_accepts_14 : decode cX3_accepts 14 = .ok (.bipush 117, 2) := by decide +kernel
theorem dX3_accepts_16 : decode cX3_accepts 16 = .ok (.if_icmp .ne 10, 3) := by decide +kernel
theorem dX3_accepts_19 : decode cX3_accepts 19 = .ok (.aload_n 0, 1) := by decide +kernel
theorem dX3_accepts_20 : decode cX3_accepts 20 = .ok (.invokevirtual 84, 3) := by decide +kernel
theorem dX3_accepts_23 : decode cX3_accepts 23 = .ok (.ifCond .ne 29, 3) := by decide +kernel
theorem dX3_accepts_26 : decode cX3_accepts 26 = .ok (.iload_n 1, 1) := by decide +kernel
theorem dX3_accepts_27 : decode cX3_accepts 27 = .ok (.bipush 112, 2) := by decide +kernel
theorem dX3_accepts_29 : decode cX3_accepts 29 = .ok (.if_icmp .ne 10, 3) := by decide +kernel
theorem dX3_accepts_32 : decode cX3_accepts 32 = .ok (.aload_n 0, 1) := by decide +kernel
theorem dX3_accepts_33 : decode cX3_accepts 33 = .ok (.invokevirtual 87, 3) := by decide +kernel
theorem dX3_accepts_36 : decode cX3_accepts 36 = .ok (.ifCond .ne 16, 3) := by decide +kernel
theorem dX3_accepts_39 : decode cX3_accepts 39 = .ok (.iload_n 1, 1) := by decide +kernel
theorem dX3_accepts_40 : decode cX3_accepts 40 = .ok (.bipush 119, 2) := by decide +kernel
theorem dX3_accepts_42 : decode cX3_accepts 42 = .ok (.if_icmp .ne 14, 3) := by decide +kernel
theorem dX3_accepts_45 : decode cX3_accepts 45 = .ok (.aload_n 0, 1) := by decide +kernel
theorem dX3_accepts_46 : decode cX3_accepts 46 = .ok (.invokevirtual 90, 3) := by decide +kernel
theorem dX3_accepts_49 : decode cX3_accepts 49 = .ok (.ifCond .eq 7, 3) := by decide +kernel
theorem dX3_accepts_52 : decode cX3_accepts 52 = .ok (.iconst 1, 1) := by decide +kernel
theorem dX3_accepts_53 : decode cX3_accepts 53 = .ok (.goto 4, 3) := by decide +kernel
theorem dX3_accepts_56 : decode cX3_accepts 56 = .ok (.iconst 0, 1) := by decide +kernel
theorem dX3_accepts_57 : decode cX3_accepts 57 = .ok (.ireturn, 1) := by decide +kernel
set_option maxRecDepth 20000 in
theorem ggX3_acceptsSquares_X7_at : GoodIn wsX3_acceptsSquares wsX7_at := goodIn_r _ [9] (by decide +kernel) (by decide +kernel)
set_option maxRecDepth 20000 in
theorem gX3_acceptsSquares_X7_at_n93 : GoodIn wsX3_acceptsSquares (wsX7_at) := ggX3_acceptsSquares_X7_at
theorem dX3_acceptsSquares_0 : decode cX3_acceptsSquares 0 = .ok (.aload_n 0, 1) := by decide +kernel
theorem dX3_acceptsSquares_1 : decode cX3_acceptsSquares 1 = .ok (.getfield 27, 3) := by decide +kernel
theorem dX3_acceptsSquares_4 : decode cX3_acceptsSquares 4 = .ok (.iconst 0, 1) := by decide +kernel
theorem dX3_acceptsSquares_5 : decode cX3_acceptsSquares 5 = .ok (.invokestatic 93, 3) := by decide +kernel
theorem dX3_acceptsSquares_8 : decode cX3_acceptsSquares 8 = .ok (.istore_n 1, 1) := by decide +kernel
theorem dX3_acceptsSquares_9 : decode cX3_acceptsSquares 9 = .ok (.iload_n 1, 1) := by decide +kernel
theorem dX3_acceptsSquares_10 : decode cX3_acceptsSquares 10 = .ok (.iconst 1, 1) := by decide +kernel
theorem dX3_acceptsSquares_11 : decode cX3_acceptsSquares 11 = .ok (.if_icmp .lt 35, 3) := by decide +kernel
theorem dX3_acceptsSquares_14 : decode cX3_acceptsSquares 14 = .ok (.iload_n 1, 1) := by decide +kernel
theorem dX3_acceptsSquares_15 : decode cX3_acceptsSquares 15 = .ok (.bipush 9, 2) := by decide +kernel
theorem dX3_acceptsSquares_17 : decode cX3_acceptsSquares 17 = .ok (.if_icmp .gt 29, 3) := by decide +kernel
theorem dX3_acceptsSquares_20 : decode cX3_acceptsSquares 20 = .ok (.aload_n 0, 1) := by decide +kernel
theorem dX3_acceptsSquares_21 : decode cX3_acceptsSquares 21 = .ok (.getfield 12, 3) := by decide +kernel
theorem dX3_acceptsSquares_24 : decode cX3_acceptsSquares 24 = .ok (.getfield 47, 3) := by decide +kernel
theorem dX3_acceptsSquares_27 : decode cX3_acceptsSquares 27 = .ok (.aload_n 0, 1) := by decide +kernel
theorem dX3_acceptsSquares_28 : decode cX3_acceptsSquares 28 = .ok (.getfield 12, 3) := by decide +kernel
theorem dX3_acceptsSquares_31 : decode cX3_acceptsSquares 31 = .ok (.getfield 50, 3) := by decide +kernel
theorem dX3_acceptsSquares_34 : decode cX3_acceptsSquares 34 = .ok (.iadd, 1) := by decide +kernel
theorem dX3_acceptsSquares_35 : decode cX3_acceptsSquares 35 = .ok (.aload_n 0, 1) := by decide +kernel
theorem dX3_acceptsSquares_36 : decode cX3_acceptsSquares 36 = .ok (.getfield 12, 3) := by decide +kernel
theorem dX3_acceptsSquares_39 : decode cX3_acceptsSquares 39 = .ok (.getfield 53, 3) := by decide +kernel
theorem dX3_acceptsSquares_42 : decode cX3_acceptsSquares 42 = .ok (.iadd, 1) := by decide +kernel
theorem dX3_acceptsSquares_43 : decode cX3_acceptsSquares 43 = .ok (.ifCond .le 5, 3) := by decide +kernel
theorem dX3_acceptsSquares_46 : decode cX3_acceptsSquares 46 = .ok (.iconst 0, 1) := by decide +kernel
theorem dX3_acceptsSquares_47 : decode cX3_acceptsSquares 47 = .ok (.ireturn, 1) := by decide +kernel
theorem dX3_acceptsSquares_48 : decode cX3_acceptsSquares 48 = .ok (.aload_n 0, 1) := by decide +kernel
theorem dX3_acceptsSquares_49 : decode cX3_acceptsSquares 49 = .ok (.getfield 12, 3) := by decide +kernel
theorem dX3_acceptsSquares_52 : decode cX3_acceptsSquares 52 = .ok (.iload_n 1, 1) := by decide +kernel
theorem dX3_acceptsSquares_53 : decode cX3_acceptsSquares 53 = .ok (.putfield 44, 3) := by decide +kernel
theorem dX3_acceptsSquares_56 : decode cX3_acceptsSquares 56 = .ok (.iconst 1, 1) := by decide +kernel
theorem dX3_acceptsSquares_57 : decode cX3_acceptsSquares 57 = .ok (.ireturn, 1) := by decide +kernel
set_option maxRecDepth 20000 in
theorem ggX3_acceptsParasol_X7_at : GoodIn wsX3_acceptsParasol wsX7_at := goodIn_r _ [10] (by decide +kernel) (by decide +kernel)
set_option maxRecDepth 20000 in
theorem gX3_acceptsParasol_X7_at_n93 : GoodIn wsX3_acceptsParasol (wsX7_at) := ggX3_acceptsParasol_X7_at
set_option maxRecDepth 20000 in
theorem ggX3_acceptsParasol_X7_isHour : GoodIn wsX3_acceptsParasol wsX7_isHour := goodIn_r _ [12] (by decide +kernel) (by decide +kernel)
set_option maxRecDepth 20000 in
theorem gX3_acceptsParasol_X7_isHour_n97 : GoodIn wsX3_acceptsParasol (wsX7_isHour) := ggX3_acceptsParasol_X7_isHour
set_option maxRecDepth 20000 in
theorem ggX3_acceptsParasol_X7_put : GoodIn wsX3_acceptsParasol wsX7_put := goodIn_r _ [14] (by decide +kernel) (by decide +kernel)
set_option maxRecDepth 20000 in
theorem gX3_acceptsParasol_X7_put_n76 : GoodIn wsX3_acceptsParasol (wsX7_put) := ggX3_acceptsParasol_X7_put
theorem dX3_acceptsParasol_0 : decode cX3_acceptsParasol 0 = .ok (.aload_n 0, 1) := by decide +kernel
theorem dX3_acceptsParasol_1 : decode cX3_acceptsParasol 1 = .ok (.getfield 27, 3) := by decide +kernel
theorem dX3_acceptsParasol_4 : decode cX3_acceptsParasol 4 = .ok (.iconst 0, 1) := by decide +kernel
theorem dX3_acceptsParasol_5 : decode cX3_acceptsParasol 5 = .ok (.invokestatic 93, 3) := by decide +kernel
theorem dX3_acceptsParasol_8 : decode cX3_acceptsParasol 8 = .ok (.istore_n 1, 1) := by decide +kernel
theorem dX3_acceptsParasol_9 : decode cX3_acceptsParasol 9 = .ok (.aload_n 0, 1) := by decide +kernel
theorem dX3_acceptsParasol_10 : decode cX3_acceptsParasol 10 = .ok (.getfield 27, 3) := by decide +kernel
theorem dX3_acceptsParasol_13 : decode cX3_acceptsParasol 13 = .ok (.iconst 1, 1) := by decide +kernel
theorem dX3_acceptsParasol_14 : decode cX3_acceptsParasol 14 = .ok (.invokestatic 93, 3) := by decide +kernel
theorem dX3_acceptsParasol_17 : decode cX3_acceptsParasol 17 = .ok (.istore_n 2, 1) := by decide +kernel
theorem dX3_acceptsParasol_18 : decode cX3_acceptsParasol 18 = .ok (.aload_n 0, 1) := by decide +kernel
theorem dX3_acceptsParasol_19 : decode cX3_acceptsParasol 19 = .ok (.getfield 27, 3) := by decide +kernel
theorem dX3_acceptsParasol_22 : decode cX3_acceptsParasol 22 = .ok (.iconst 2, 1) := by decide +kernel
theorem dX3_acceptsParasol_23 : decode cX3_acceptsParasol 23 = .ok (.invokestatic 93, 3) := by decide +kernel
theorem dX3_acceptsParasol_26 : decode cX3_acceptsParasol 26 = .ok (.istore_n 3, 1) := by decide +kernel
theorem dX3_acceptsParasol_27 : decode cX3_acceptsParasol 27 = .ok (.iload_n 1, 1) := by decide +kernel
theorem dX3_acceptsParasol_28 : decode cX3_acceptsParasol 28 = .ok (.iconst 3, 1) := by decide +kernel
theorem dX3_acceptsParasol_29 : decode cX3_acceptsParasol 29 = .ok (.if_icmp .gt 28, 3) := by decide +kernel
theorem dX3_acceptsParasol_32 : decode cX3_acceptsParasol 32 = .ok (.iload_n 2, 1) := by decide +kernel
theorem dX3_acceptsParasol_33 : decode cX3_acceptsParasol 33 = .ok (.invokestatic 97, 3) := by decide +kernel
theorem dX3_acceptsParasol_36 : decode cX3_acceptsParasol 36 = .ok (.ifCond .eq 21, 3) := by decide +kernel
theorem dX3_acceptsParasol_39 : decode cX3_acceptsParasol 39 = .ok (.iload_n 3, 1) := by decide +kernel
theorem dX3_acceptsParasol_40 : decode cX3_acceptsParasol 40 = .ok (.bipush 12, 2) := by decide +kernel
theorem dX3_acceptsParasol_42 : decode cX3_acceptsParasol 42 = .ok (.if_icmp .gt 15, 3) := by decide +kernel
theorem dX3_acceptsParasol_45 : decode cX3_acceptsParasol 45 = .ok (.aload_n 0, 1) := by decide +kernel
theorem dX3_acceptsParasol_46 : decode cX3_acceptsParasol 46 = .ok (.getfield 12, 3) := by decide +kernel
theorem dX3_acceptsParasol_49 : decode cX3_acceptsParasol 49 = .ok (.getfield 47, 3) := by decide +kernel
theorem dX3_acceptsParasol_52 : decode cX3_acceptsParasol 52 = .ok (.bipush 6, 2) := by decide +kernel
theorem dX3_acceptsParasol_54 : decode cX3_acceptsParasol 54 = .ok (.if_icmp .lt 5, 3) := by decide +kernel
theorem dX3_acceptsParasol_57 : decode cX3_acceptsParasol 57 = .ok (.iconst 0, 1) := by decide +kernel
theorem dX3_acceptsParasol_58 : decode cX3_acceptsParasol 58 = .ok (.ireturn, 1) := by decide +kernel
theorem dX3_acceptsParasol_59 : decode cX3_acceptsParasol 59 = .ok (.aload_n 0, 1) := by decide +kernel
theorem dX3_acceptsParasol_60 : decode cX3_acceptsParasol 60 = .ok (.getfield 12, 3) := by decide +kernel
theorem dX3_acceptsParasol_63 : decode cX3_acceptsParasol 63 = .ok (.getfield 101, 3) := by decide +kernel
theorem dX3_acceptsParasol_66 : decode cX3_acceptsParasol 66 = .ok (.aload_n 0, 1) := by decide +kernel
theorem dX3_acceptsParasol_67 : decode cX3_acceptsParasol 67 = .ok (.getfield 12, 3) := by decide +kernel
theorem dX3_acceptsParasol_70 : decode cX3_acceptsParasol 70 = .ok (.getfield 47, 3) := by decide +kernel
theorem dX3_acceptsParasol_73 : decode cX3_acceptsParasol 73 = .ok (.iload_n 1, 1) := by decide +kernel
theorem dX3_acceptsParasol_74 : decode cX3_acceptsParasol 74 = .ok (.invokestatic 76, 3) := by decide +kernel
theorem dX3_acceptsParasol_77 : decode cX3_acceptsParasol 77 = .ok (.aload_n 0, 1) := by decide +kernel
theorem dX3_acceptsParasol_78 : decode cX3_acceptsParasol 78 = .ok (.getfield 23, 3) := by decide +kernel
theorem dX3_acceptsParasol_81 : decode cX3_acceptsParasol 81 = .ok (.getfield 104, 3) := by decide +kernel
theorem dX3_acceptsParasol_84 : decode cX3_acceptsParasol 84 = .ok (.aload_n 0, 1) := by decide +kernel
theorem dX3_acceptsParasol_85 : decode cX3_acceptsParasol 85 = .ok (.getfield 12, 3) := by decide +kernel
theorem dX3_acceptsParasol_88 : decode cX3_acceptsParasol 88 = .ok (.getfield 47, 3) := by decide +kernel
theorem dX3_acceptsParasol_91 : decode cX3_acceptsParasol 91 = .ok (.iload_n 2, 1) := by decide +kernel
theorem dX3_acceptsParasol_92 : decode cX3_acceptsParasol 92 = .ok (.invokestatic 76, 3) := by decide +kernel
theorem dX3_acceptsParasol_95 : decode cX3_acceptsParasol 95 = .ok (.aload_n 0, 1) := by decide +kernel
theorem dX3_acceptsParasol_96 : decode cX3_acceptsParasol 96 = .ok (.getfield 23, 3) := by decide +kernel
theorem dX3_acceptsParasol_99 : decode cX3_acceptsParasol 99 = .ok (.getfield 107, 3) := by decide +kernel
theorem dX3_acceptsParasol_102 : decode cX3_acceptsParasol 102 = .ok (.aload_n 0, 1) := by decide +kernel
theorem dX3_acceptsParasol_103 : decode cX3_acceptsParasol 103 = .ok (.getfield 12, 3) := by decide +kernel
theorem dX3_acceptsParasol_106 : decode cX3_acceptsParasol 106 = .ok (.getfield 47, 3) := by decide +kernel
theorem dX3_acceptsParasol_109 : decode cX3_acceptsParasol 109 = .ok (.iload_n 3, 1) := by decide +kernel
theorem dX3_acceptsParasol_110 : decode cX3_acceptsParasol 110 = .ok (.invokestatic 76, 3) := by decide +kernel
theorem dX3_acceptsParasol_113 : decode cX3_acceptsParasol 113 = .ok (.aload_n 0, 1) := by decide +kernel
theorem dX3_acceptsParasol_114 : decode cX3_acceptsParasol 114 = .ok (.getfield 12, 3) := by decide +kernel
theorem dX3_acceptsParasol_117 : decode cX3_acceptsParasol 117 = .ok (.dup, 1) := by decide +kernel
theorem dX3_acceptsParasol_118 : decode cX3_acceptsParasol 118 = .ok (.getfield 47, 3) := by decide +kernel
theorem dX3_acceptsParasol_121 : decode cX3_acceptsParasol 121 = .ok (.iconst 1, 1) := by decide +kernel
theorem dX3_acceptsParasol_122 : decode cX3_acceptsParasol 122 = .ok (.iadd, 1) := by decide +kernel
theorem dX3_acceptsParasol_123 : decode cX3_acceptsParasol 123 = .ok (.putfield 47, 3) := by decide +kernel
theorem dX3_acceptsParasol_126 : decode cX3_acceptsParasol 126 = .ok (.iconst 1, 1) := by decide +kernel
theorem dX3_acceptsParasol_127 : decode cX3_acceptsParasol 127 = .ok (.ireturn, 1) := by decide +kernel
set_option maxRecDepth 20000 in
theorem ggX3_acceptsPerson_X7_at : GoodIn wsX3_acceptsPerson wsX7_at := goodIn_r _ [8] (by decide +kernel) (by decide +kernel)
set_option maxRecDepth 20000 in
theorem gX3_acceptsPerson_X7_at_n93 : GoodIn wsX3_acceptsPerson (wsX7_at) := ggX3_acceptsPerson_X7_at
set_option maxRecDepth 20000 in
theorem ggX3_acceptsPerson_X2_hasSquare : GoodIn wsX3_acceptsPerson wsX2_hasSquare := goodIn_r _ [13, 14, 20, 21, 22, 23, 24, 25, 26] (by decide +kernel) (by decide +kernel)
set_option maxRecDepth 20000 in
theorem gX3_acceptsPerson_X2_hasSquare : GoodIn wsX3_acceptsPerson (wsV RX3 110 RX2 yX2_hasSquare wsX2_hasSquare) := goodIn_app (goodIn_of _ (by decide +kernel)) ggX3_acceptsPerson_X2_hasSquare
set_option maxRecDepth 20000 in
theorem ggX3_acceptsPerson_X7_put : GoodIn wsX3_acceptsPerson wsX7_put := goodIn_r _ [16] (by decide +kernel) (by decide +kernel)
set_option maxRecDepth 20000 in
theorem gX3_acceptsPerson_X7_put_n76 : GoodIn wsX3_acceptsPerson (wsX7_put) := ggX3_acceptsPerson_X7_put
theorem dX3_acceptsPerson_0 : decode cX3_acceptsPerson 0 = .ok (.aload_n 0, 1) := by decide +kernel
theorem dX3_acceptsPerson_1 : decode cX3_acceptsPerson 1 = .ok (.getfield 27, 3) := by decide +kernel
theorem dX3_acceptsPerson_4 : decode cX3_acceptsPerson 4 = .ok (.iconst 0, 1) := by decide +kernel
theorem dX3_acceptsPerson_5 : decode cX3_acceptsPerson 5 = .ok (.invokestatic 93, 3) := by decide +kernel
theorem dX3_acceptsPerson_8 : decode cX3_acceptsPerson 8 = .ok (.istore_n 1, 1) := by decide +kernel
theorem dX3_acceptsPerson_9 : decode cX3_acceptsPerson 9 = .ok (.aload_n 0, 1) := by decide +kernel
theorem dX3_acceptsPerson_10 : decode cX3_acceptsPerson 10 = .ok (.getfield 12, 3) := by decide +kernel
theorem dX3_acceptsPerson_13 : decode cX3_acceptsPerson 13 = .ok (.iload_n 1, 1) := by decide +kernel
theorem dX3_acceptsPerson_14 : decode cX3_acceptsPerson 14 = .ok (.invokevirtual 110, 3) := by decide +kernel
theorem dX3_acceptsPerson_17 : decode cX3_acceptsPerson 17 = .ok (.ifCond .eq 14, 3) := by decide +kernel
theorem dX3_acceptsPerson_20 : decode cX3_acceptsPerson 20 = .ok (.aload_n 0, 1) := by decide +kernel
theorem dX3_acceptsPerson_21 : decode cX3_acceptsPerson 21 = .ok (.getfield 12, 3) := by decide +kernel
theorem dX3_acceptsPerson_24 : decode cX3_acceptsPerson 24 = .ok (.getfield 50, 3) := by decide +kernel
theorem dX3_acceptsPerson_27 : decode cX3_acceptsPerson 27 = .ok (.iconst 5, 1) := by decide +kernel
theorem dX3_acceptsPerson_28 : decode cX3_acceptsPerson 28 = .ok (.if_icmp .lt 5, 3) := by decide +kernel
theorem dX3_acceptsPerson_31 : decode cX3_acceptsPerson 31 = .ok (.iconst 0, 1) := by decide +kernel
theorem dX3_acceptsPerson_32 : decode cX3_acceptsPerson 32 = .ok (.ireturn, 1) := by decide +kernel
theorem dX3_acceptsPerson_33 : decode cX3_acceptsPerson 33 = .ok (.aload_n 0, 1) := by decide +kernel
theorem dX3_acceptsPerson_34 : decode cX3_acceptsPerson 34 = .ok (.getfield 23, 3) := by decide +kernel
theorem dX3_acceptsPerson_37 : decode cX3_acceptsPerson 37 = .ok (.getfield 113, 3) := by decide +kernel
theorem dX3_acceptsPerson_40 : decode cX3_acceptsPerson 40 = .ok (.aload_n 0, 1) := by decide +kernel
theorem dX3_acceptsPerson_41 : decode cX3_acceptsPerson 41 = .ok (.getfield 12, 3) := by decide +kernel
theorem dX3_acceptsPerson_44 : decode cX3_acceptsPerson 44 = .ok (.getfield 50, 3) := by decide +kernel
theorem dX3_acceptsPerson_47 : decode cX3_acceptsPerson 47 = .ok (.iload_n 1, 1) := by decide +kernel
theorem dX3_acceptsPerson_48 : decode cX3_acceptsPerson 48 = .ok (.invokestatic 76, 3) := by decide +kernel
theorem dX3_acceptsPerson_51 : decode cX3_acceptsPerson 51 = .ok (.aload_n 0, 1) := by decide +kernel
theorem dX3_acceptsPerson_52 : decode cX3_acceptsPerson 52 = .ok (.getfield 12, 3) := by decide +kernel
theorem dX3_acceptsPerson_55 : decode cX3_acceptsPerson 55 = .ok (.dup, 1) := by decide +kernel
theorem dX3_acceptsPerson_56 : decode cX3_acceptsPerson 56 = .ok (.getfield 50, 3) := by decide +kernel
theorem dX3_acceptsPerson_59 : decode cX3_acceptsPerson 59 = .ok (.iconst 1, 1) := by decide +kernel
theorem dX3_acceptsPerson_60 : decode cX3_acceptsPerson 60 = .ok (.iadd, 1) := by decide +kernel
theorem dX3_acceptsPerson_61 : decode cX3_acceptsPerson 61 = .ok (.putfield 50, 3) := by decide +kernel
theorem dX3_acceptsPerson_64 : decode cX3_acceptsPerson 64 = .ok (.iconst 1, 1) := by decide +kernel
theorem dX3_acceptsPerson_65 : decode cX3_acceptsPerson 65 = .ok (.ireturn, 1) := by decide +kernel
set_option maxRecDepth 20000 in
theorem ggX3_acceptsWork_X7_at : GoodIn wsX3_acceptsWork wsX7_at := goodIn_r _ [8] (by decide +kernel) (by decide +kernel)
set_option maxRecDepth 20000 in
theorem gX3_acceptsWork_X7_at_n93 : GoodIn wsX3_acceptsWork (wsX7_at) := ggX3_acceptsWork_X7_at
set_option maxRecDepth 20000 in
theorem ggX3_acceptsWork_X2_hasSquare : GoodIn wsX3_acceptsWork wsX2_hasSquare := goodIn_r _ [13, 14, 22, 23, 24, 25, 26, 27, 28] (by decide +kernel) (by decide +kernel)
set_option maxRecDepth 20000 in
theorem gX3_acceptsWork_X2_hasSquare : GoodIn wsX3_acceptsWork (wsV RX3 110 RX2 yX2_hasSquare wsX2_hasSquare) := goodIn_app (goodIn_of _ (by decide +kernel)) ggX3_acceptsWork_X2_hasSquare
set_option maxRecDepth 20000 in
theorem ggX3_acceptsWork_X7_isHour : GoodIn wsX3_acceptsWork wsX7_isHour := goodIn_r _ [16] (by decide +kernel) (by decide +kernel)
set_option maxRecDepth 20000 in
theorem gX3_acceptsWork_X7_isHour_n97 : GoodIn wsX3_acceptsWork (wsX7_isHour) := ggX3_acceptsWork_X7_isHour
set_option maxRecDepth 20000 in
theorem ggX3_acceptsWork_X7_put : GoodIn wsX3_acceptsWork wsX7_put := goodIn_r _ [18] (by decide +kernel) (by decide +kernel)
set_option maxRecDepth 20000 in
theorem gX3_acceptsWork_X7_put_n76 : GoodIn wsX3_acceptsWork (wsX7_put) := ggX3_acceptsWork_X7_put
theorem dX3_acceptsWork_0 : decode cX3_acceptsWork 0 = .ok (.aload_n 0, 1) := by decide +kernel
theorem dX3_acceptsWork_1 : decode cX3_acceptsWork 1 = .ok (.getfield 27, 3) := by decide +kernel
theorem dX3_acceptsWork_4 : decode cX3_acceptsWork 4 = .ok (.iconst 0, 1) := by decide +kernel
theorem dX3_acceptsWork_5 : decode cX3_acceptsWork 5 = .ok (.invokestatic 93, 3) := by decide +kernel
theorem dX3_acceptsWork_8 : decode cX3_acceptsWork 8 = .ok (.istore_n 1, 1) := by decide +kernel
theorem dX3_acceptsWork_9 : decode cX3_acceptsWork 9 = .ok (.aload_n 0, 1) := by decide +kernel
theorem dX3_acceptsWork_10 : decode cX3_acceptsWork 10 = .ok (.getfield 27, 3) := by decide +kernel
theorem dX3_acceptsWork_13 : decode cX3_acceptsWork 13 = .ok (.iconst 1, 1) := by decide +kernel
theorem dX3_acceptsWork_14 : decode cX3_acceptsWork 14 = .ok (.invokestatic 93, 3) := by decide +kernel
theorem dX3_acceptsWork_17 : decode cX3_acceptsWork 17 = .ok (.istore_n 2, 1) := by decide +kernel
theorem dX3_acceptsWork_18 : decode cX3_acceptsWork 18 = .ok (.aload_n 0, 1) := by decide +kernel
theorem dX3_acceptsWork_19 : decode cX3_acceptsWork 19 = .ok (.getfield 12, 3) := by decide +kernel
theorem dX3_acceptsWork_22 : decode cX3_acceptsWork 22 = .ok (.iload_n 1, 1) := by decide +kernel
theorem dX3_acceptsWork_23 : decode cX3_acceptsWork 23 = .ok (.invokevirtual 110, 3) := by decide +kernel
theorem dX3_acceptsWork_26 : decode cX3_acceptsWork 26 = .ok (.ifCond .eq 22, 3) := by decide +kernel
theorem dX3_acceptsWork_29 : decode cX3_acceptsWork 29 = .ok (.iload_n 2, 1) := by decide +kernel
theorem dX3_acceptsWork_30 : decode cX3_acceptsWork 30 = .ok (.invokestatic 97, 3) := by decide +kernel
theorem dX3_acceptsWork_33 : decode cX3_acceptsWork 33 = .ok (.ifCond .eq 15, 3) := by decide +kernel
theorem dX3_acceptsWork_36 : decode cX3_acceptsWork 36 = .ok (.aload_n 0, 1) := by decide +kernel
theorem dX3_acceptsWork_37 : decode cX3_acceptsWork 37 = .ok (.getfield 12, 3) := by decide +kernel
theorem dX3_acceptsWork_40 : decode cX3_acceptsWork 40 = .ok (.getfield 53, 3) := by decide +kernel
theorem dX3_acceptsWork_43 : decode cX3_acceptsWork 43 = .ok (.bipush 6, 2) := by decide +kernel
theorem dX3_acceptsWork_45 : decode cX3_acceptsWork 45 = .ok (.if_icmp .lt 5, 3) := by decide +kernel
theorem dX3_acceptsWork_48 : decode cX3_acceptsWork 48 = .ok (.iconst 0, 1) := by decide +kernel
theorem dX3_acceptsWork_49 : decode cX3_acceptsWork 49 = .ok (.ireturn, 1) := by decide +kernel
theorem dX3_acceptsWork_50 : decode cX3_acceptsWork 50 = .ok (.aload_n 0, 1) := by decide +kernel
theorem dX3_acceptsWork_51 : decode cX3_acceptsWork 51 = .ok (.getfield 12, 3) := by decide +kernel
theorem dX3_acceptsWork_54 : decode cX3_acceptsWork 54 = .ok (.getfield 116, 3) := by decide +kernel
theorem dX3_acceptsWork_57 : decode cX3_acceptsWork 57 = .ok (.aload_n 0, 1) := by decide +kernel
theorem dX3_acceptsWork_58 : decode cX3_acceptsWork 58 = .ok (.getfield 12, 3) := by decide +kernel
theorem dX3_acceptsWork_61 : decode cX3_acceptsWork 61 = .ok (.getfield 53, 3) := by decide +kernel
theorem dX3_acceptsWork_64 : decode cX3_acceptsWork 64 = .ok (.iload_n 1, 1) := by decide +kernel
theorem dX3_acceptsWork_65 : decode cX3_acceptsWork 65 = .ok (.invokestatic 76, 3) := by decide +kernel
theorem dX3_acceptsWork_68 : decode cX3_acceptsWork 68 = .ok (.aload_n 0, 1) := by decide +kernel
theorem dX3_acceptsWork_69 : decode cX3_acceptsWork 69 = .ok (.getfield 12, 3) := by decide +kernel
theorem dX3_acceptsWork_72 : decode cX3_acceptsWork 72 = .ok (.getfield 119, 3) := by decide +kernel
theorem dX3_acceptsWork_75 : decode cX3_acceptsWork 75 = .ok (.aload_n 0, 1) := by decide +kernel
theorem dX3_acceptsWork_76 : decode cX3_acceptsWork 76 = .ok (.getfield 12, 3) := by decide +kernel
theorem dX3_acceptsWork_79 : decode cX3_acceptsWork 79 = .ok (.getfield 53, 3) := by decide +kernel
theorem dX3_acceptsWork_82 : decode cX3_acceptsWork 82 = .ok (.iload_n 2, 1) := by decide +kernel
theorem dX3_acceptsWork_83 : decode cX3_acceptsWork 83 = .ok (.invokestatic 76, 3) := by decide +kernel
theorem dX3_acceptsWork_86 : decode cX3_acceptsWork 86 = .ok (.aload_n 0, 1) := by decide +kernel
theorem dX3_acceptsWork_87 : decode cX3_acceptsWork 87 = .ok (.getfield 12, 3) := by decide +kernel
theorem dX3_acceptsWork_90 : decode cX3_acceptsWork 90 = .ok (.dup, 1) := by decide +kernel
theorem dX3_acceptsWork_91 : decode cX3_acceptsWork 91 = .ok (.getfield 53, 3) := by decide +kernel
theorem dX3_acceptsWork_94 : decode cX3_acceptsWork 94 = .ok (.iconst 1, 1) := by decide +kernel
theorem dX3_acceptsWork_95 : decode cX3_acceptsWork 95 = .ok (.iadd, 1) := by decide +kernel
theorem dX3_acceptsWork_96 : decode cX3_acceptsWork 96 = .ok (.putfield 53, 3) := by decide +kernel
theorem dX3_acceptsWork_99 : decode cX3_acceptsWork 99 = .ok (.iconst 1, 1) := by decide +kernel
theorem dX3_acceptsWork_100 : decode cX3_acceptsWork 100 = .ok (.ireturn, 1) := by decide +kernel
set_option maxRecDepth 20000 in
theorem ggX4_init_X1_init : GoodIn wsX4_init wsX1_init := goodIn_r _ [10, 11, 2, 3, 12, 13, 14, 15, 16, 17, 20, 21, 22, 23, 24, 25, 26, 27, 28] (by decide +kernel) (by decide +kernel)
set_option maxRecDepth 20000 in
theorem gX4_init_X1_init : GoodIn wsX4_init (wsX1_init) := ggX4_init_X1_init
theorem dX4_init_0 : decode cX4_init 0 = .ok (.aload_n 0, 1) := by decide +kernel
theorem dX4_init_1 : decode cX4_init 1 = .ok (.invokespecial 1, 3) := by decide +kernel
theorem dX4_init_4 : decode cX4_init 4 = .ok (.aload_n 0, 1) := by decide +kernel
theorem dX4_init_5 : decode cX4_init 5 = .ok (.iload_n 1, 1) := by decide +kernel
theorem dX4_init_6 : decode cX4_init 6 = .ok (.ifCond .ge 7, 3) := by decide +kernel
theorem dX4_init_9 : decode cX4_init 9 = .ok (.iconst 0, 1) := by decide +kernel
theorem dX4_init_10 : decode cX4_init 10 = .ok (.goto 4, 3) := by decide +kernel
theorem dX4_init_13 : decode cX4_init 13 = .ok (.iload_n 1, 1) := by decide +kernel
theorem dX4_init_14 : decode cX4_init 14 = .ok (.anewarray 7, 3) := by decide +kernel
theorem dX4_init_17 : decode cX4_init 17 = .ok (.putfield 9, 3) := by decide +kernel
theorem dX4_init_20 : decode cX4_init 20 = .ok (.iconst 0, 1) := by decide +kernel
theorem dX4_init_21 : decode cX4_init 21 = .ok (.istore_n 3, 1) := by decide +kernel
theorem dX4_init_22 : decode cX4_init 22 = .ok (.iload_n 3, 1) := by decide +kernel
theorem dX4_init_23 : decode cX4_init 23 = .ok (.aload_n 0, 1) := by decide +kernel
theorem dX4_init_24 : decode cX4_init 24 = .ok (.getfield 9, 3) := by decide +kernel
theorem dX4_init_27 : decode cX4_init 27 = .ok (.arraylength, 1) := by decide +kernel
theorem dX4_init_28 : decode cX4_init 28 = .ok (.if_icmp .ge 23, 3) := by decide +kernel
theorem dX4_init_31 : decode cX4_init 31 = .ok (.aload_n 0, 1) := by decide +kernel
theorem dX4_init_32 : decode cX4_init 32 = .ok (.getfield 9, 3) := by decide +kernel
theorem dX4_init_35 : decode cX4_init 35 = .ok (.iload_n 3, 1) := by decide +kernel
theorem dX4_init_36 : decode cX4_init 36 = .ok (.new 7, 3) := by decide +kernel
theorem dX4_init_39 : decode cX4_init 39 = .ok (.dup, 1) := by decide +kernel
theorem dX4_init_40 : decode cX4_init 40 = .ok (.aload_n 2, 1) := by decide +kernel
theorem dX4_init_41 : decode cX4_init 41 = .ok (.invokespecial 15, 3) := by decide +kernel
theorem dX4_init_44 : decode cX4_init 44 = .ok (.aastore, 1) := by decide +kernel
theorem dX4_init_45 : decode cX4_init 45 = .ok (.iinc 3 1, 3) := by decide +kernel
theorem dX4_init_48 : decode cX4_init 48 = .ok (.goto (-26), 3) := by decide +kernel
theorem dX4_init_51 : decode cX4_init 51 = .ok (.return_, 1) := by decide +kernel
theorem dX4_isEmpty_0 : decode cX4_isEmpty 0 = .ok (.aload_n 0, 1) := by decide +kernel
theorem dX4_isEmpty_1 : decode cX4_isEmpty 1 = .ok (.getfield 18, 3) := by decide +kernel
theorem dX4_isEmpty_4 : decode cX4_isEmpty 4 = .ok (.ifCond .gt 7, 3) := by decide +kernel
theorem dX4_isEmpty_7 : decode cX4_isEmpty 7 = .ok (.iconst 1, 1) := by decide +kernel
theorem dX4_isEmpty_8 : decode cX4_isEmpty 8 = .ok (.goto 4, 3) := by decide +kernel
theorem dX4_isEmpty_11 : decode cX4_isEmpty 11 = .ok (.iconst 0, 1) := by decide +kernel
theorem dX4_isEmpty_12 : decode cX4_isEmpty 12 = .ok (.ireturn, 1) := by decide +kernel
theorem dX4_isFull_0 : decode cX4_isFull 0 = .ok (.aload_n 0, 1) := by decide +kernel
theorem dX4_isFull_1 : decode cX4_isFull 1 = .ok (.getfield 18, 3) := by decide +kernel
theorem dX4_isFull_4 : decode cX4_isFull 4 = .ok (.aload_n 0, 1) := by decide +kernel
theorem dX4_isFull_5 : decode cX4_isFull 5 = .ok (.getfield 9, 3) := by decide +kernel
theorem dX4_isFull_8 : decode cX4_isFull 8 = .ok (.arraylength, 1) := by decide +kernel
theorem dX4_isFull_9 : decode cX4_isFull 9 = .ok (.if_icmp .lt 7, 3) := by decide +kernel
theorem dX4_isFull_12 : decode cX4_isFull 12 = .ok (.iconst 1, 1) := by decide +kernel
theorem dX4_isFull_13 : decode cX4_isFull 13 = .ok (.goto 4, 3) := by decide +kernel
theorem dX4_isFull_16 : decode cX4_isFull 16 = .ok (.iconst 0, 1) := by decide +kernel
theorem dX4_isFull_17 : decode cX4_isFull 17 = .ok (.ireturn, 1) := by decide +kernel
theorem dX4_clear_0 : decode cX4_clear 0 = .ok (.aload_n 0, 1) := by decide +kernel
theorem dX4_clear_1 : decode cX4_clear 1 = .ok (.iconst 0, 1) := by decide +kernel
theorem dX4_clear_2 : decode cX4_clear 2 = .ok (.putfield 18, 3) := by decide +kernel
theorem dX4_clear_5 : decode cX4_clear 5 = .ok (.return_, 1) := by decide +kernel
set_option maxRecDepth 20000 in
theorem ggX4_push_X4_isFull : GoodIn wsX4_push wsX4_isFull := goodIn_r _ [6, 1, 7, 32, 33] (by decide +kernel) (by decide +kernel)
set_option maxRecDepth 20000 in
theorem gX4_push_X4_isFull : GoodIn wsX4_push (wsV RX4 22 RX4 yX4_isFull wsX4_isFull) := goodIn_app (goodIn_of _ (by decide +kernel)) ggX4_push_X4_isFull
set_option maxRecDepth 20000 in
theorem ggX4_push_X4_dropFirst : GoodIn wsX4_push wsX4_dropFirst := goodIn_r _ [11, 7, 1, 12, 13, 14, 5, 15, 32, 33] (by decide +kernel) (by decide +kernel)
set_option maxRecDepth 20000 in
theorem gX4_push_X4_dropFirst : GoodIn wsX4_push (wsV RX4 26 RX4 yX4_dropFirst wsX4_dropFirst) := goodIn_app (goodIn_of _ (by decide +kernel)) ggX4_push_X4_dropFirst
set_option maxRecDepth 20000 in
theorem ggX4_push_X4_placeAt : GoodIn wsX4_push wsX4_placeAt := goodIn_r _ [15, 7, 32, 33] (by decide +kernel) (by decide +kernel)
set_option maxRecDepth 20000 in
theorem gX4_push_X4_placeAt : GoodIn wsX4_push (wsV RX4 29 RX4 yX4_placeAt wsX4_placeAt) := goodIn_app (goodIn_of _ (by decide +kernel)) ggX4_push_X4_placeAt
set_option maxRecDepth 20000 in
theorem ggX4_push_X1_copyFrom : GoodIn wsX4_push wsX1_copyFrom := goodIn_r _ [20, 21, 22, 23, 24, 25, 26, 27, 28, 29, 30, 31, 34, 35, 36, 37, 38, 39, 40, 41, 42] (by decide +kernel) (by decide +kernel)
set_option maxRecDepth 20000 in
theorem gX4_push_X1_copyFrom : GoodIn wsX4_push (wsV RX4 33 RX1 yX1_copyFrom wsX1_copyFrom) := goodIn_app (goodIn_of _ (by decide +kernel)) ggX4_push_X1_copyFrom
theorem dX4_push_0 : decode cX4_push 0 = .ok (.aload_n 0, 1) := by decide +kernel
theorem dX4_push_1 : decode cX4_push 1 = .ok (.invokevirtual 22, 3) := by decide +kernel
theorem dX4_push_4 : decode cX4_push 4 = .ok (.ifCond .eq 7, 3) := by decide +kernel
theorem dX4_push_7 : decode cX4_push 7 = .ok (.aload_n 0, 1) := by decide +kernel
theorem dX4_push_8 : decode cX4_push 8 = .ok (.invokevirtual 26, 3) := by decide +kernel
theorem dX4_push_11 : decode cX4_push 11 = .ok (.aload_n 0, 1) := by decide +kernel
theorem dX4_push_12 : decode cX4_push 12 = .ok (.aload_n 0, 1) := by decide +kernel
theorem dX4_push_13 : decode cX4_push 13 = .ok (.getfield 18, 3) := by decide +kernel
theorem dX4_push_16 : decode cX4_push 16 = .ok (.invokevirtual 29, 3) := by decide +kernel
theorem dX4_push_19 : decode cX4_push 19 = .ok (.astore_n 2, 1) := by decide +kernel
theorem dX4_push_20 : decode cX4_push 20 = .ok (.aload_n 2, 1) := by decide +kernel
theorem dX4_push_21 : decode cX4_push 21 = .ok (.ifnull 18, 3) := by decide +kernel
theorem dX4_push_24 : decode cX4_push 24 = .ok (.aload_n 2, 1) := by decide +kernel
theorem dX4_push_25 : decode cX4_push 25 = .ok (.aload_n 1, 1) := by decide +kernel
theorem dX4_push_26 : decode cX4_push 26 = .ok (.invokevirtual 33, 3) := by decide +kernel
theorem dX4_push_29 : decode cX4_push 29 = .ok (.aload_n 0, 1) := by decide +kernel
theorem dX4_push_30 : decode cX4_push 30 = .ok (.dup, 1) := by decide +kernel
theorem dX4_push_31 : decode cX4_push 31 = .ok (.getfield 18, 3) := by decide +kernel
theorem dX4_push_34 : decode cX4_push 34 = .ok (.iconst 1, 1) := by decide +kernel
theorem dX4_push_35 : decode cX4_push 35 = .ok (.iadd, 1) := by decide +kernel
theorem dX4_push_36 : decode cX4_push 36 = .ok (.putfield 18, 3) := by decide +kernel
theorem dX4_push_39 : decode cX4_push 39 = .ok (.return_, 1) := by decide +kernel
set_option maxRecDepth 20000 in
theorem ggX4_popInto_X4_placeAt : GoodIn wsX4_popInto wsX4_placeAt := goodIn_r _ [6, 7, 24, 25] (by decide +kernel) (by decide +kernel)
set_option maxRecDepth 20000 in
theorem gX4_popInto_X4_placeAt : GoodIn wsX4_popInto (wsV RX4 29 RX4 yX4_placeAt wsX4_placeAt) := goodIn_app (goodIn_of _ (by decide +kernel)) ggX4_popInto_X4_placeAt
set_option maxRecDepth 20000 in
theorem ggX4_popInto_X1_copyFrom : GoodIn wsX4_popInto wsX1_copyFrom := goodIn_r _ [12, 13, 14, 15, 16, 17, 18, 19, 20, 21, 22, 23, 26, 27, 28, 29, 30, 31, 32, 33, 34] (by decide +kernel) (by decide +kernel)
set_option maxRecDepth 20000 in
theorem gX4_popInto_X1_copyFrom : GoodIn wsX4_popInto (wsV RX4 33 RX1 yX1_copyFrom wsX1_copyFrom) := goodIn_app (goodIn_of _ (by decide +kernel)) ggX4_popInto_X1_copyFrom
theorem dX4_popInto_0 : decode cX4_popInto 0 = .ok (.aload_n 0, 1) := by decide +kernel
theorem dX4_popInto_1 : decode cX4_popInto 1 = .ok (.aload_n 0, 1) := by decide +kernel
theorem dX4_popInto_2 : decode cX4_popInto 2 = .ok (.getfield 18, 3) := by decide +kernel
theorem dX4_popInto_5 : decode cX4_popInto 5 = .ok (.iconst 1, 1) := by decide +kernel
theorem dX4_popInto_6 : decode cX4_popInto 6 = .ok (.isub, 1) := by decide +kernel
theorem dX4_popInto_7 : decode cX4_popInto 7 = .ok (.invokevirtual 29, 3) := by decide +kernel
theorem dX4_popInto_10 : decode cX4_popInto 10 = .ok (.astore_n 2, 1) := by decide +kernel
theorem dX4_popInto_11 : decode cX4_popInto 11 = .ok (.aload_n 2, 1) := by decide +kernel
theorem dX4_popInto_12 : decode cX4_popInto 12 = .ok (.ifnull 18, 3) := by decide +kernel
theorem dX4_popInto_15 : decode cX4_popInto 15 = .ok (.aload_n 1, 1) := by decide +kernel
theorem dX4_popInto_16 : decode cX4_popInto 16 = .ok (.aload_n 2, 1) := by decide +kernel
theorem dX4_popInto_17 : decode cX4_popInto 17 = .ok (.invokevirtual 33, 3) := by decide +kernel
theorem dX4_popInto_20 : decode cX4_popInto 20 = .ok (.aload_n 0, 1) := by decide +kernel
theorem dX4_popInto_21 : decode cX4_popInto 21 = .ok (.dup, 1) := by decide +kernel
theorem dX4_popInto_22 : decode cX4_popInto 22 = .ok (.getfield 18, 3) := by decide +kernel
theorem dX4_popInto_25 : decode cX4_popInto 25 = .ok (.iconst 1, 1) := by decide +kernel
theorem dX4_popInto_26 : decode cX4_popInto 26 = .ok (.isub, 1) := by decide +kernel
theorem dX4_popInto_27 : decode cX4_popInto 27 = .ok (.putfield 18, 3) := by decide +kernel
theorem dX4_popInto_30 : decode cX4_popInto 30 = .ok (.return_, 1) := by decide +kernel
theorem dX4_placeAt_0 : decode cX4_placeAt 0 = .ok (.iload_n 1, 1) := by decide +kernel
theorem dX4_placeAt_1 : decode cX4_placeAt 1 = .ok (.ifCond .lt 21, 3) := by decide +kernel
theorem dX4_placeAt_4 : decode cX4_placeAt 4 = .ok (.iload_n 1, 1) := by decide +kernel
theorem dX4_placeAt_5 : decode cX4_placeAt 5 = .ok (.aload_n 0, 1) := by decide +kernel
theorem dX4_placeAt_6 : decode cX4_placeAt 6 = .ok (.getfield 9, 3) := by decide +kernel
theorem dX4_placeAt_9 : decode cX4_placeAt 9 = .ok (.arraylength, 1) := by decide +kernel
theorem dX4_placeAt_10 : decode cX4_placeAt 10 = .ok (.if_icmp .ge 12, 3) := by decide +kernel
theorem dX4_placeAt_13 : decode cX4_placeAt 13 = .ok (.aload_n 0, 1) := by decide +kernel
theorem dX4_placeAt_14 : decode cX4_placeAt 14 = .ok (.getfield 9, 3) := by decide +kernel
theorem dX4_placeAt_17 : decode cX4_placeAt 17 = .ok (.iload_n 1, 1) := by decide +kernel
theorem dX4_placeAt_18 : decode cX4_placeAt 18 = .ok (.aaload, 1) := by decide +kernel
theorem dX4_placeAt_19 : decode cX4_placeAt 19 = .ok (.goto 4, 3) := by decide +kernel
theorem dX4_placeAt_22 : decode cX4_placeAt 22 = .ok (.aconst_null, 1) := by decide +kernel
theorem dX4_placeAt_23 : decode cX4_placeAt 23 = .ok (.areturn, 1) := by decide +kernel
set_option maxRecDepth 20000 in
theorem ggX4_dropFirst_X4_placeAt : GoodIn wsX4_dropFirst wsX4_placeAt := goodIn_r _ [7, 1, 8, 9] (by decide +kernel) (by decide +kernel)
set_option maxRecDepth 20000 in
theorem gX4_dropFirst_X4_placeAt : GoodIn wsX4_dropFirst (wsV RX4 29 RX4 yX4_placeAt wsX4_placeAt) := goodIn_app (goodIn_of _ (by decide +kernel)) ggX4_dropFirst_X4_placeAt
theorem dX4_dropFirst_0 : decode cX4_dropFirst 0 = .ok (.aload_n 0, 1) := by decide +kernel
theorem dX4_dropFirst_1 : decode cX4_dropFirst 1 = .ok (.iconst 0, 1) := by decide +kernel
theorem dX4_dropFirst_2 : decode cX4_dropFirst 2 = .ok (.invokevirtual 29, 3) := by decide +kernel
theorem dX4_dropFirst_5 : decode cX4_dropFirst 5 = .ok (.astore_n 1, 1) := by decide +kernel
theorem dX4_dropFirst_6 : decode cX4_dropFirst 6 = .ok (.iconst 0, 1) := by decide +kernel
theorem dX4_dropFirst_7 : decode cX4_dropFirst 7 = .ok (.istore_n 2, 1) := by decide +kernel
theorem dX4_dropFirst_8 : decode cX4_dropFirst 8 = .ok (.iload_n 2, 1) := by decide +kernel
theorem dX4_dropFirst_9 : decode cX4_dropFirst 9 = .ok (.iconst 1, 1) := by decide +kernel
theorem dX4_dropFirst_10 : decode cX4_dropFirst 10 = .ok (.iadd, 1) := by decide +kernel
theorem dX4_dropFirst_11 : decode cX4_dropFirst 11 = .ok (.aload_n 0, 1) := by decide +kernel
theorem dX4_dropFirst_12 : decode cX4_dropFirst 12 = .ok (.getfield 9, 3) := by decide +kernel
theorem dX4_dropFirst_15 : decode cX4_dropFirst 15 = .ok (.arraylength, 1) := by decide +kernel
theorem dX4_dropFirst_16 : decode cX4_dropFirst 16 = .ok (.if_icmp .ge 23, 3) := by decide +kernel
theorem dX4_dropFirst_19 : decode cX4_dropFirst 19 = .ok (.aload_n 0, 1) := by decide +kernel
theorem dX4_dropFirst_20 : decode cX4_dropFirst 20 = .ok (.getfield 9, 3) := by decide +kernel
theorem dX4_dropFirst_23 : decode cX4_dropFirst 23 = .ok (.iload_n 2, 1) := by decide +kernel
theorem dX4_dropFirst_24 : decode cX4_dropFirst 24 = .ok (.aload_n 0, 1) := by decide +kernel
theorem dX4_dropFirst_25 : decode cX4_dropFirst 25 = .ok (.getfield 9, 3) := by decide +kernel
theorem dX4_dropFirst_28 : decode cX4_dropFirst 28 = .ok (.iload_n 2, 1) := by decide +kernel
theorem dX4_dropFirst_29 : decode cX4_dropFirst 29 = .ok (.iconst 1, 1) := by decide +kernel
theorem dX4_dropFirst_30 : decode cX4_dropFirst 30 = .ok (.iadd, 1) := by decide +kernel
theorem dX4_dropFirst_31 : decode cX4_dropFirst 31 = .ok (.aaload, 1) := by decide +kernel
theorem dX4_dropFirst_32 : decode cX4_dropFirst 32 = .ok (.aastore, 1) := by decide +kernel
theorem dX4_dropFirst_33 : decode cX4_dropFirst 33 = .ok (.iinc 2 1, 3) := by decide +kernel
theorem dX4_dropFirst_36 : decode cX4_dropFirst 36 = .ok (.goto (-28), 3) := by decide +kernel
theorem dX4_dropFirst_39 : decode cX4_dropFirst 39 = .ok (.aload_n 0, 1) := by decide +kernel
theorem dX4_dropFirst_40 : decode cX4_dropFirst 40 = .ok (.getfield 9, 3) := by decide +kernel
theorem dX4_dropFirst_43 : decode cX4_dropFirst 43 = .ok (.arraylength, 1) := by decide +kernel
theorem dX4_dropFirst_44 : decode cX4_dropFirst 44 = .ok (.ifCond .le 27, 3) := by decide +kernel
theorem dX4_dropFirst_47 : decode cX4_dropFirst 47 = .ok (.aload_n 0, 1) := by decide +kernel
theorem dX4_dropFirst_48 : decode cX4_dropFirst 48 = .ok (.getfield 9, 3) := by decide +kernel
theorem dX4_dropFirst_51 : decode cX4_dropFirst 51 = .ok (.aload_n 0, 1) := by decide +kernel
theorem dX4_dropFirst_52 : decode cX4_dropFirst 52 = .ok (.getfield 9, 3) := by decide +kernel
theorem dX4_dropFirst_55 : decode cX4_dropFirst 55 = .ok (.arraylength, 1) := by decide +kernel
theorem dX4_dropFirst_56 : decode cX4_dropFirst 56 = .ok (.iconst 1, 1) := by decide +kernel
theorem dX4_dropFirst_57 : decode cX4_dropFirst 57 = .ok (.isub, 1) := by decide +kernel
theorem dX4_dropFirst_58 : decode cX4_dropFirst 58 = .ok (.aload_n 1, 1) := by decide +kernel
theorem dX4_dropFirst_59 : decode cX4_dropFirst 59 = .ok (.aastore, 1) := by decide +kernel
theorem dX4_dropFirst_60 : decode cX4_dropFirst 60 = .ok (.aload_n 0, 1) := by decide +kernel
theorem dX4_dropFirst_61 : decode cX4_dropFirst 61 = .ok (.aload_n 0, 1) := by decide +kernel
theorem dX4_dropFirst_62 : decode cX4_dropFirst 62 = .ok (.getfield 9, 3) := by decide +kernel
theorem dX4_dropFirst_65 : decode cX4_dropFirst 65 = .ok (.arraylength, 1) := by decide +kernel
theorem dX4_dropFirst_66 : decode cX4_dropFirst 66 = .ok (.iconst 1, 1) := by decide +kernel
theorem dX4_dropFirst_67 : decode cX4_dropFirst 67 = .ok (.isub, 1) := by decide +kernel
theorem dX4_dropFirst_68 : decode cX4_dropFirst 68 = .ok (.putfield 18, 3) := by decide +kernel
theorem dX4_dropFirst_71 : decode cX4_dropFirst 71 = .ok (.return_, 1) := by decide +kernel
theorem dX5_init_0 : decode cX5_init 0 = .ok (.aload_n 0, 1) := by decide +kernel
theorem dX5_init_1 : decode cX5_init 1 = .ok (.invokespecial 3, 3) := by decide +kernel
theorem dX5_init_4 : decode cX5_init 4 = .ok (.aload_n 0, 1) := by decide +kernel
theorem dX5_init_5 : decode cX5_init 5 = .ok (.bipush 6, 2) := by decide +kernel
theorem dX5_init_7 : decode cX5_init 7 = .ok (.newarray .int, 2) := by decide +kernel
theorem dX5_init_9 : decode cX5_init 9 = .ok (.putfield 9, 3) := by decide +kernel
theorem dX5_init_12 : decode cX5_init 12 = .ok (.aload_n 0, 1) := by decide +kernel
theorem dX5_init_13 : decode cX5_init 13 = .ok (.bipush 6, 2) := by decide +kernel
theorem dX5_init_15 : decode cX5_init 15 = .ok (.newarray .int, 2) := by decide +kernel
theorem dX5_init_17 : decode cX5_init 17 = .ok (.putfield 15, 3) := by decide +kernel
theorem dX5_init_20 : decode cX5_init 20 = .ok (.return_, 1) := by decide +kernel
theorem dX5_isFull_0 : decode cX5_isFull 0 = .ok (.aload_n 0, 1) := by decide +kernel
theorem dX5_isFull_1 : decode cX5_isFull 1 = .ok (.getfield 18, 3) := by decide +kernel
theorem dX5_isFull_4 : decode cX5_isFull 4 = .ok (.bipush 6, 2) := by decide +kernel
theorem dX5_isFull_6 : decode cX5_isFull 6 = .ok (.if_icmp .lt 7, 3) := by decide +kernel
theorem dX5_isFull_9 : decode cX5_isFull 9 = .ok (.iconst 1, 1) := by decide +kernel
theorem dX5_isFull_10 : decode cX5_isFull 10 = .ok (.goto 4, 3) := by decide +kernel
theorem dX5_isFull_13 : decode cX5_isFull 13 = .ok (.iconst 0, 1) := by decide +kernel
theorem dX5_isFull_14 : decode cX5_isFull 14 = .ok (.ireturn, 1) := by decide +kernel
set_option maxRecDepth 20000 in
theorem ggX5_add_X7_put : GoodIn wsX5_add wsX7_put := goodIn_r _ [6] (by decide +kernel) (by decide +kernel)
set_option maxRecDepth 20000 in
theorem gX5_add_X7_put_n22 : GoodIn wsX5_add (wsX7_put) := ggX5_add_X7_put
theorem dX5_add_0 : decode cX5_add 0 = .ok (.aload_n 0, 1) := by decide +kernel
theorem dX5_add_1 : decode cX5_add 1 = .ok (.getfield 9, 3) := by decide +kernel
theorem dX5_add_4 : decode cX5_add 4 = .ok (.aload_n 0, 1) := by decide +kernel
theorem dX5_add_5 : decode cX5_add 5 = .ok (.getfield 18, 3) := by decide +kernel
theorem dX5_add_8 : decode cX5_add 8 = .ok (.iload_n 1, 1) := by decide +kernel
theorem dX5_add_9 : decode cX5_add 9 = .ok (.invokestatic 22, 3) := by decide +kernel
theorem dX5_add_12 : decode cX5_add 12 = .ok (.aload_n 0, 1) := by decide +kernel
theorem dX5_add_13 : decode cX5_add 13 = .ok (.getfield 15, 3) := by decide +kernel
theorem dX5_add_16 : decode cX5_add 16 = .ok (.aload_n 0, 1) := by decide +kernel
theorem dX5_add_17 : decode cX5_add 17 = .ok (.getfield 18, 3) := by decide +kernel
theorem dX5_add_20 : decode cX5_add 20 = .ok (.iload_n 2, 1) := by decide +kernel
theorem dX5_add_21 : decode cX5_add 21 = .ok (.invokestatic 22, 3) := by decide +kernel
theorem dX5_add_24 : decode cX5_add 24 = .ok (.aload_n 0, 1) := by decide +kernel
theorem dX5_add_25 : decode cX5_add 25 = .ok (.dup, 1) := by decide +kernel
theorem dX5_add_26 : decode cX5_add 26 = .ok (.getfield 18, 3) := by decide +kernel
theorem dX5_add_29 : decode cX5_add 29 = .ok (.iconst 1, 1) := by decide +kernel
theorem dX5_add_30 : decode cX5_add 30 = .ok (.iadd, 1) := by decide +kernel
theorem dX5_add_31 : decode cX5_add 31 = .ok (.putfield 18, 3) := by decide +kernel
theorem dX5_add_34 : decode cX5_add 34 = .ok (.return_, 1) := by decide +kernel
theorem dX5_clear_0 : decode cX5_clear 0 = .ok (.aload_n 0, 1) := by decide +kernel
theorem dX5_clear_1 : decode cX5_clear 1 = .ok (.iconst 0, 1) := by decide +kernel
theorem dX5_clear_2 : decode cX5_clear 2 = .ok (.putfield 18, 3) := by decide +kernel
theorem dX5_clear_5 : decode cX5_clear 5 = .ok (.return_, 1) := by decide +kernel
set_option maxRecDepth 20000 in
theorem ggX5_fit_X7_at : GoodIn wsX5_fit wsX7_at := goodIn_r _ [6] (by decide +kernel) (by decide +kernel)
set_option maxRecDepth 20000 in
theorem gX5_fit_X7_at_n26 : GoodIn wsX5_fit (wsX7_at) := ggX5_fit_X7_at
set_option maxRecDepth 20000 in
theorem ggX5_fit_X1_hourFrom : GoodIn wsX5_fit wsX1_hourFrom := goodIn_r _ [11, 12, 13, 14, 15, 16, 17, 18, 19, 4, 5, 6, 20, 21, 22, 23, 24, 25, 26, 30, 31, 32, 33, 34, 35, 36, 37, 38, 39, 40, 41, 42, 43, 44, 45] (by decide +kernel) (by decide +kernel)
set_option maxRecDepth 20000 in
theorem gX5_fit_X1_hourFrom : GoodIn wsX5_fit (wsV RX5 30 RX1 yX1_hourFrom wsX1_hourFrom) := goodIn_app (goodIn_of _ (by decide +kernel)) ggX5_fit_X1_hourFrom
theorem dX5_fit_0 : decode cX5_fit 0 = .ok (.iconst 0, 1) := by decide +kernel
theorem dX5_fit_1 : decode cX5_fit 1 = .ok (.istore 4, 2) := by decide +kernel
theorem dX5_fit_3 : decode cX5_fit 3 = .ok (.iload 4, 2) := by decide +kernel
theorem dX5_fit_5 : decode cX5_fit 5 = .ok (.aload_n 0, 1) := by decide +kernel
theorem dX5_fit_6 : decode cX5_fit 6 = .ok (.getfield 18, 3) := by decide +kernel
theorem dX5_fit_9 : decode cX5_fit 9 = .ok (.if_icmp .ge 38, 3) := by decide +kernel
theorem dX5_fit_12 : decode cX5_fit 12 = .ok (.aload_n 1, 1) := by decide +kernel
theorem dX5_fit_13 : decode cX5_fit 13 = .ok (.iload_n 2, 1) := by decide +kernel
theorem dX5_fit_14 : decode cX5_fit 14 = .ok (.iload_n 3, 1) := by decide +kernel
theorem dX5_fit_15 : decode cX5_fit 15 = .ok (.aload_n 0, 1) := by decide +kernel
theorem dX5_fit_16 : decode cX5_fit 16 = .ok (.getfield 15, 3) := by decide +kernel
theorem dX5_fit_19 : decode cX5_fit 19 = .ok (.iload 4, 2) := by decide +kernel
theorem dX5_fit_21 : decode cX5_fit 21 = .ok (.invokestatic 26, 3) := by decide +kernel
theorem dX5_fit_24 : decode cX5_fit 24 = .ok (.invokevirtual 30, 3) := by decide +kernel
theorem dX5_fit_27 : decode cX5_fit 27 = .ok (.aload_n 0, 1) := by decide +kernel
theorem dX5_fit_28 : decode cX5_fit 28 = .ok (.getfield 9, 3) := by decide +kernel
theorem dX5_fit_31 : decode cX5_fit 31 = .ok (.iload 4, 2) := by decide +kernel
theorem dX5_fit_33 : decode cX5_fit 33 = .ok (.invokestatic 26, 3) := by decide +kernel
theorem dX5_fit_36 : decode cX5_fit 36 = .ok (.if_icmp .eq 5, 3) := by decide +kernel
theorem dX5_fit_39 : decode cX5_fit 39 = .ok (.iconst 0, 1) := by decide +kernel
theorem dX5_fit_40 : decode cX5_fit 40 = .ok (.ireturn, 1) := by decide +kernel
theorem dX5_fit_41 : decode cX5_fit 41 = .ok (.iinc 4 1, 3) := by decide +kernel
theorem dX5_fit_44 : decode cX5_fit 44 = .ok (.goto (-41), 3) := by decide +kernel
theorem dX5_fit_47 : decode cX5_fit 47 = .ok (.iconst 1, 1) := by decide +kernel
theorem dX5_fit_48 : decode cX5_fit 48 = .ok (.ireturn, 1) := by decide +kernel
theorem dX6_init_0 : decode cX6_init 0 = .ok (.aload_n 0, 1) := by decide +kernel
theorem dX6_init_1 : decode cX6_init 1 = .ok (.invokespecial 3, 3) := by decide +kernel
theorem dX6_init_4 : decode cX6_init 4 = .ok (.aload_n 0, 1) := by decide +kernel
theorem dX6_init_5 : decode cX6_init 5 = .ok (.sipush 200, 3) := by decide +kernel
theorem dX6_init_8 : decode cX6_init 8 = .ok (.newarray .char, 2) := by decide +kernel
theorem dX6_init_10 : decode cX6_init 10 = .ok (.putfield 9, 3) := by decide +kernel
theorem dX6_init_13 : decode cX6_init 13 = .ok (.return_, 1) := by decide +kernel
theorem dX6_isFull_0 : decode cX6_isFull 0 = .ok (.aload_n 0, 1) := by decide +kernel
theorem dX6_isFull_1 : decode cX6_isFull 1 = .ok (.getfield 15, 3) := by decide +kernel
theorem dX6_isFull_4 : decode cX6_isFull 4 = .ok (.sipush 200, 3) := by decide +kernel
theorem dX6_isFull_7 : decode cX6_isFull 7 = .ok (.if_icmp .lt 7, 3) := by decide +kernel
theorem dX6_isFull_10 : decode cX6_isFull 10 = .ok (.iconst 1, 1) := by decide +kernel
theorem dX6_isFull_11 : decode cX6_isFull 11 = .ok (.goto 4, 3) := by decide +kernel
theorem dX6_isFull_14 : decode cX6_isFull 14 = .ok (.iconst 0, 1) := by decide +kernel
theorem dX6_isFull_15 : decode cX6_isFull 15 = .ok (.ireturn, 1) := by decide +kernel
theorem dX6_append_0 : decode cX6_append 0 = .ok (.aload_n 0, 1) := by decide +kernel
theorem dX6_append_1 : decode cX6_append 1 = .ok (.getfield 15, 3) := by decide +kernel
theorem dX6_append_4 : decode cX6_append 4 = .ok (.ifCond .lt 35, 3) := by decide +kernel
theorem dX6_append_7 : decode cX6_append 7 = .ok (.aload_n 0, 1) := by decide +kernel
theorem dX6_append_8 : decode cX6_append 8 = .ok (.getfield 15, 3) := by decide +kernel
theorem dX6_append_11 : decode cX6_append 11 = .ok (.aload_n 0, 1) := by decide +kernel
theorem dX6_append_12 : decode cX6_append 12 = .ok (.getfield 9, 3) := by decide +kernel
theorem dX6_append_15 : decode cX6_append 15 = .ok (.arraylength, 1) := by decide +kernel
theorem dX6_append_16 : decode cX6_append 16 = .ok (.if_icmp .ge 23, 3) := by decide +kernel
theorem dX6_append_19 : decode cX6_append 19 = .ok (.aload_n 0, 1) := by decide +kernel
theorem dX6_append_20 : decode cX6_append 20 = .ok (.getfield 9, 3) := by decide +kernel
theorem dX6_append_23 : decode cX6_append 23 = .ok (.aload_n 0, 1) := by decide +kernel
theorem dX6_append_24 : decode cX6_append 24 = .ok (.getfield 15, 3) := by decide +kernel
theorem dX6_append_27 : decode cX6_append 27 = .ok (.iload_n 1, 1) := by decide +kernel
theorem dX6_append_28 : decode cX6_append 28 = .ok (.castore, 1) := by decide +kernel
theorem dX6_append_29 : decode cX6_append 29 = .ok (.aload_n 0, 1) := by decide +kernel
theorem dX6_append_30 : decode cX6_append 30 = .ok (.dup, 1) := by decide +kernel
theorem dX6_append_31 : decode cX6_append 31 = .ok (.getfield 15, 3) := by decide +kernel
theorem dX6_append_34 : decode cX6_append 34 = .ok (.iconst 1, 1) := by decide +kernel
theorem dX6_append_35 : decode cX6_append 35 = .ok (.iadd, 1) := by decide +kernel
theorem dX6_append_36 : decode cX6_append 36 = .ok (.putfield 15, 3) := by decide +kernel
theorem dX6_append_39 : decode cX6_append 39 = .ok (.return_, 1) := by decide +kernel
theorem dX6_clear_0 : decode cX6_clear 0 = .ok (.aload_n 0, 1) := by decide +kernel
theorem dX6_clear_1 : decode cX6_clear 1 = .ok (.iconst 0, 1) := by decide +kernel
theorem dX6_clear_2 : decode cX6_clear 2 = .ok (.putfield 15, 3) := by decide +kernel
theorem dX6_clear_5 : decode cX6_clear 5 = .ok (.return_, 1) := by decide +kernel
theorem dX6_letterAt_0 : decode cX6_letterAt 0 = .ok (.iload_n 1, 1) := by decide +kernel
theorem dX6_letterAt_1 : decode cX6_letterAt 1 = .ok (.ifCond .lt 29, 3) := by decide +kernel
theorem dX6_letterAt_4 : decode cX6_letterAt 4 = .ok (.iload_n 1, 1) := by decide +kernel
theorem dX6_letterAt_5 : decode cX6_letterAt 5 = .ok (.aload_n 0, 1) := by decide +kernel
theorem dX6_letterAt_6 : decode cX6_letterAt 6 = .ok (.getfield 15, 3) := by decide +kernel
theorem dX6_letterAt_9 : decode cX6_letterAt 9 = .ok (.if_icmp .ge 21, 3) := by decide +kernel
theorem dX6_letterAt_12 : decode cX6_letterAt 12 = .ok (.iload_n 1, 1) := by decide +kernel
theorem dX6_letterAt_13 : decode cX6_letterAt 13 = .ok (.aload_n 0, 1) := by decide +kernel
theorem dX6_letterAt_14 : decode cX6_letterAt 14 = .ok (.getfield 9, 3) := by decide +kernel
theorem dX6_letterAt_17 : decode cX6_letterAt 17 = .ok (.arraylength, 1) := by decide +kernel
theorem dX6_letterAt_18 : decode cX6_letterAt 18 = .ok (.if_icmp .ge 12, 3) := by decide +kernel
theorem dX6_letterAt_21 : decode cX6_letterAt 21 = .ok (.aload_n 0, 1) := by decide +kernel
theorem dX6_letterAt_22 : decode cX6_letterAt 22 = .ok (.getfield 9, 3) := by decide +kernel
theorem dX6_letterAt_25 : decode cX6_letterAt 25 = .ok (.iload_n 1, 1) := by decide +kernel
theorem dX6_letterAt_26 : decode cX6_letterAt 26 = .ok (.caload, 1) := by decide +kernel
theorem dX6_letterAt_27 : decode cX6_letterAt 27 = .ok (.goto 5, 3) := by decide +kernel
theorem dX6_letterAt_30 : decode cX6_letterAt 30 = .ok (.bipush 32, 2) := by decide +kernel
theorem dX6_letterAt_32 : decode cX6_letterAt 32 = .ok (.ireturn, 1) := by decide +kernel
set_option maxRecDepth 20000 in
theorem ggX7_init_X6_init : GoodIn wsX7_init wsX6_init := goodIn_r _ [35, 36, 2, 3, 37, 38, 246, 247] (by decide +kernel) (by decide +kernel)
set_option maxRecDepth 20000 in
theorem gX7_init_X6_init_n9 : GoodIn wsX7_init (wsX6_init) := ggX7_init_X6_init
set_option maxRecDepth 20000 in
theorem ggX7_init_X3_init : GoodIn wsX7_init wsX3_init := goodIn_r _ [40, 41, 2, 3, 42, 13, 14, 43, 44, 17, 18, 45, 46, 47, 48, 49, 50, 51, 52, 53, 54, 55, 56, 57, 58, 59, 60, 61, 62, 260, 261, 262, 263, 264, 265, 266, 257, 258, 259, 267, 268, 269, 270, 271, 272, 273, 274, 275] (by decide +kernel) (by decide +kernel)
set_option maxRecDepth 20000 in
theorem gX7_init_X3_init_n18 : GoodIn wsX7_init (wsX3_init) := ggX7_init_X3_init
set_option maxRecDepth 20000 in
theorem ggX7_init_X2_init : GoodIn wsX7_init wsX2_init := goodIn_r _ [49, 50, 2, 3, 46, 51, 52, 53, 260, 261, 262, 263, 264, 265, 266] (by decide +kernel) (by decide +kernel)
set_option maxRecDepth 20000 in
theorem gX7_init_X2_init_n25 : GoodIn wsX7_init (wsX2_init) := ggX7_init_X2_init
set_option maxRecDepth 20000 in
theorem ggX7_init_X1_init : GoodIn wsX7_init wsX1_init := goodIn_r _ [56, 57, 2, 3, 46, 58, 59, 60, 61, 62, 267, 268, 269, 270, 271, 272, 273, 274, 275] (by decide +kernel) (by decide +kernel)
set_option maxRecDepth 20000 in
theorem gX7_init_X1_init : GoodIn wsX7_init (wsX1_init) := ggX7_init_X1_init
set_option maxRecDepth 20000 in
theorem ggX7_init_X4_init : GoodIn wsX7_init wsX4_init := goodIn_r _ [66, 67, 2, 3, 68, 69, 17, 18, 70, 55, 56, 57, 46, 58, 59, 60, 61, 62, 276, 277, 267, 268, 269, 270, 271, 272, 273, 274, 275] (by decide +kernel) (by decide +kernel)
set_option maxRecDepth 20000 in
theorem gX7_init_X4_init : GoodIn wsX7_init (wsX4_init) := ggX7_init_X4_init
set_option maxRecDepth 20000 in
theorem ggX7_init_X5_init : GoodIn wsX7_init wsX5_init := goodIn_r _ [72, 73, 2, 3, 46, 74, 75, 278, 279, 280] (by decide +kernel) (by decide +kernel)
set_option maxRecDepth 20000 in
theorem gX7_init_X5_init_n56 : GoodIn wsX7_init (wsX5_init) := ggX7_init_X5_init
set_option maxRecDepth 20000 in
theorem ggX7_init_X0_init : GoodIn wsX7_init wsX0_init := goodIn_r _ [77, 78, 2, 3, 46, 79, 80, 81, 281, 282, 283, 284] (by decide +kernel) (by decide +kernel)
set_option maxRecDepth 20000 in
theorem gX7_init_X0_init_n63 : GoodIn wsX7_init (wsX0_init) := ggX7_init_X0_init
set_option maxRecDepth 20000 in
theorem ggX7_init_J0_length_8abf5 : GoodIn wsX7_init wsJ0_length_8abf5 := goodIn_r _ [86, 87, 88, 89, 90, 85, 91, 92, 93] (by decide +kernel) (by decide +kernel)
set_option maxRecDepth 20000 in
theorem gX7_init_J0_length_8abf5 : GoodIn wsX7_init (wsV RX7 70 RJ0 yJ0_length_8abf5 wsJ0_length_8abf5) := goodIn_app (goodIn_of _ (by decide +kernel)) ggX7_init_J0_length_8abf5
set_option maxRecDepth 20000 in
theorem ggX7_init_J0_charAt_5068e : GoodIn wsX7_init wsJ0_charAt_5068e := goodIn_r _ [97, 87, 98, 99, 100, 85, 101, 92, 93, 102, 103, 104, 105, 106, 107, 108, 109, 110, 111, 112, 113, 114, 115, 116, 117, 118, 119, 120, 121, 122, 123, 124, 125, 126, 127, 128, 129, 130] (by decide +kernel) (by decide +kernel)
set_option maxRecDepth 20000 in
theorem gX7_init_J0_charAt_5068e : GoodIn wsX7_init (wsV RX7 76 RJ0 yJ0_charAt_5068e wsJ0_charAt_5068e) := goodIn_app (goodIn_of _ (by decide +kernel)) ggX7_init_J0_charAt_5068e
set_option maxRecDepth 20000 in
theorem ggX7_init_X6_append : GoodIn wsX7_init wsX6_append := goodIn_r _ [134, 135, 38, 246, 247] (by decide +kernel) (by decide +kernel)
set_option maxRecDepth 20000 in
theorem gX7_init_X6_append : GoodIn wsX7_init (wsV RX7 80 RX6 yX6_append wsX6_append) := goodIn_app (goodIn_of _ (by decide +kernel)) ggX7_init_X6_append
set_option maxRecDepth 20000 in
theorem ggX7_init_X3_placeOfFault : GoodIn wsX7_init wsX3_placeOfFault := goodIn_r _ [139, 140, 141, 142, 143, 10, 144, 43, 145, 146, 147, 148, 45, 149, 150, 151, 18, 152, 153, 154, 155, 156, 61, 157, 158, 159, 160, 161, 162, 163, 6, 164, 135, 38, 165, 166, 167, 168, 169, 170, 171, 47, 172, 173, 174, 175, 176, 177, 178, 179, 180, 181, 182, 183, 184, 185, 186, 187, 188, 189, 190, 191, 192, 193, 194, 195, 196, 197, 198, 199, 200, 201, 202, 203, 204, 14, 205, 206, 207, 208, 209, 210, 211, 212, 246, 247, 257, 258, 259, 260, 261, 262, 263, 264, 265, 266, 267, 268, 269, 270, 271, 272, 273, 274, 275] (by decide +kernel) (by decide +kernel)
set_option maxRecDepth 20000 in
theorem gX7_init_X3_placeOfFault : GoodIn wsX7_init (wsV RX7 84 RX3 yX3_placeOfFault wsX3_placeOfFault) := goodIn_app (goodIn_of _ (by decide +kernel)) ggX7_init_X3_placeOfFault
set_option maxRecDepth 20000 in
theorem ggX7_init_X7_settle : GoodIn wsX7_init wsX7_settle := goodIn_r _ [216, 15, 11, 217, 19, 218, 24, 25, 29, 219, 220, 221, 14, 222, 206, 223, 224, 225, 51, 52, 53, 226, 176, 227, 228, 229, 230, 18, 231, 153, 154, 155, 156, 58, 59, 60, 61, 232, 233, 234, 23, 235, 236, 237, 238, 239, 28, 240, 241, 248, 249, 250, 251, 252, 253, 254, 255, 256, 257, 258, 259, 260, 261, 262, 263, 264, 265, 266, 267, 268, 269, 270, 271, 272, 273, 274, 275, 276, 277, 278, 279, 280] (by decide +kernel) (by decide +kernel)
set_option maxRecDepth 20000 in
theorem gX7_init_X7_settle : GoodIn wsX7_init (wsV RX7 88 RX7 yX7_settle wsX7_settle) := goodIn_app (goodIn_of _ (by decide +kernel)) ggX7_init_X7_settle
set_option maxRecDepth 20000 in
theorem ggX7_init_X6_clear : GoodIn wsX7_init wsX6_clear := goodIn_r _ [245, 135, 246, 247] (by decide +kernel) (by decide +kernel)
set_option maxRecDepth 20000 in
theorem gX7_init_X6_clear : GoodIn wsX7_init (wsV RX7 91 RX6 yX6_clear wsX6_clear) := goodIn_app (goodIn_of _ (by decide +kernel)) ggX7_init_X6_clear
theorem dX7_init_0 : decode cX7_init 0 = .ok (.aload_n 0, 1) := by decide +kernel
theorem dX7_init_1 : decode cX7_init 1 = .ok (.invokespecial 1, 3) := by decide +kernel
theorem dX7_init_4 : decode cX7_init 4 = .ok (.aload_n 0, 1) := by decide +kernel
theorem dX7_init_5 : decode cX7_init 5 = .ok (.new 7, 3) := by decide +kernel
theorem dX7_init_8 : decode cX7_init 8 = .ok (.dup, 1) := by decide +kernel
theorem dX7_init_9 : decode cX7_init 9 = .ok (.invokespecial 9, 3) := by decide +kernel
theorem dX7_init_12 : decode cX7_init 12 = .ok (.putfield 10, 3) := by decide +kernel
theorem dX7_init_15 : decode cX7_init 15 = .ok (.aload_n 0, 1) := by decide +kernel
theorem dX7_init_16 : decode cX7_init 16 = .ok (.new 16, 3) := by decide +kernel
theorem dX7_init_19 : decode cX7_init 19 = .ok (.dup, 1) := by decide +kernel
theorem dX7_init_20 : decode cX7_init 20 = .ok (.invokespecial 18, 3) := by decide +kernel
theorem dX7_init_23 : decode cX7_init 23 = .ok (.putfield 19, 3) := by decide +kernel
theorem dX7_init_26 : decode cX7_init 26 = .ok (.aload_n 0, 1) := by decide +kernel
theorem dX7_init_27 : decode cX7_init 27 = .ok (.new 23, 3) := by decide +kernel
theorem dX7_init_30 : decode cX7_init 30 = .ok (.dup, 1) := by decide +kernel
theorem dX7_init_31 : decode cX7_init 31 = .ok (.invokespecial 25, 3) := by decide +kernel
theorem dX7_init_34 : decode cX7_init 34 = .ok (.putfield 26, 3) := by decide +kernel
theorem dX7_init_37 : decode cX7_init 37 = .ok (.aload_n 0, 1) := by decide +kernel
theorem dX7_init_38 : decode cX7_init 38 = .ok (.new 30, 3) := by decide +kernel
theorem dX7_init_41 : decode cX7_init 41 = .ok (.dup, 1) := by decide +kernel
theorem dX7_init_42 : decode cX7_init 42 = .ok (.aload_n 0, 1) := by decide +kernel
theorem dX7_init_43 : decode cX7_init 43 = .ok (.getfield 26, 3) := by decide +kernel
theorem dX7_init_46 : decode cX7_init 46 = .ok (.invokespecial 32, 3) := by decide +kernel
theorem dX7_init_49 : decode cX7_init 49 = .ok (.putfield 35, 3) := by decide +kernel
theorem dX7_init_52 : decode cX7_init 52 = .ok (.aload_n 0, 1) := by decide +kernel
theorem dX7_init_53 : decode cX7_init 53 = .ok (.new 30, 3) := by decide +kernel
theorem dX7_init_56 : decode cX7_init 56 = .ok (.dup, 1) := by decide +kernel
theorem dX7_init_57 : decode cX7_init 57 = .ok (.aload_n 0, 1) := by decide +kernel
theorem dX7_init_58 : decode cX7_init 58 = .ok (.getfield 26, 3) := by decide +kernel
theorem dX7_init_61 : decode cX7_init 61 = .ok (.invokespecial 32, 3) := by decide +kernel
theorem dX7_init_64 : decode cX7_init 64 = .ok (.putfield 39, 3) := by decide +kernel
theorem dX7_init_67 : decode cX7_init 67 = .ok (.aload_n 0, 1) := by decide +kernel
theorem dX7_init_68 : decode cX7_init 68 = .ok (.new 42, 3) := by decide +kernel
theorem dX7_init_71 : decode cX7_init 71 = .ok (.dup, 1) := by decide +kernel
theorem dX7_init_72 : decode cX7_init 72 = .ok (.bipush 8, 2) := by decide +kernel
theorem dX7_init_74 : decode cX7_init 74 = .ok (.aload_n 0, 1) := by decide +kernel
theorem dX7_init_75 : decode cX7_init 75 = .ok (.getfield 26, 3) := by decide +kernel
theorem dX7_init_78 : decode cX7_init 78 = .ok (.invokespecial 44, 3) := by decide +kernel
theorem dX7_init_81 : decode cX7_init 81 = .ok (.putfield 47, 3) := by decide +kernel
theorem dX7_init_84 : decode cX7_init 84 = .ok (.aload_n 0, 1) := by decide +kernel
theorem dX7_init_85 : decode cX7_init 85 = .ok (.new 42, 3) := by decide +kernel
theorem dX7_init_88 : decode cX7_init 88 = .ok (.dup, 1) := by decide +kernel
theorem dX7_init_89 : decode cX7_init 89 = .ok (.iconst 2, 1) := by decide +kernel
theorem dX7_init_90 : decode cX7_init 90 = .ok (.aload_n 0, 1) := by decide +kernel
theorem dX7_init_91 : decode cX7_init 91 = .ok (.getfield 26, 3) := by decide +kernel
theorem dX7_init_94 : decode cX7_init 94 = .ok (.invokespecial 44, 3) := by decide +kernel
theorem dX7_init_97 : decode cX7_init 97 = .ok (.putfield 51, 3) := by decide +kernel
theorem dX7_init_100 : decode cX7_init 100 = .ok (.aload_n 0, 1) := by decide +kernel
theorem dX7_init_101 : decode cX7_init 101 = .ok (.new 54, 3) := by decide +kernel
theorem dX7_init_104 : decode cX7_init 104 = .ok (.dup, 1) := by decide +kernel
theorem dX7_init_105 : decode cX7_init 105 = .ok (.invokespecial 56, 3) := by decide +kernel
theorem dX7_init_108 : decode cX7_init 108 = .ok (.putfield 57, 3) := by decide +kernel
theorem dX7_init_111 : decode cX7_init 111 = .ok (.aload_n 0, 1) := by decide +kernel
theorem dX7_init_112 : decode cX7_init 112 = .ok (.new 61, 3) := by decide +kernel
theorem dX7_init_115 : decode cX7_init 115 = .ok (.dup, 1) := by decide +kernel
theorem dX7_init_116 : decode cX7_init 116 = .ok (.invokespecial 63, 3) := by decide +kernel
theorem dX7_init_119 : decode cX7_init 119 = .ok (.putfield 64, 3) := by decide +kernel
theorem dX7_init_122 : decode cX7_init 122 = .ok (.iconst 0, 1) := by decide +kernel
theorem dX7_init_123 : decode cX7_init 123 = .ok (.istore_n 1, 1) := by decide +kernel
theorem dX7_init_124 : decode cX7_init 124 = .ok (.iload_n 1, 1) := by decide +kernel
theorem dX7_init_125 : decode cX7_init 125 = .ok (.ldc 68, 2) := by decide +kernel
theorem dX7_init_127 : decode cX7_init 127 = .ok (.invokevirtual 70, 3) := by decide +kernel
theorem dX7_init_130 : decode cX7_init 130 = .ok (.if_icmp .ge 22, 3) := by decide +kernel
theorem dX7_init_133 : decode cX7_init 133 = .ok (.aload_n 0, 1) := by decide +kernel
theorem dX7_init_134 : decode cX7_init 134 = .ok (.getfield 10, 3) := by decide +kernel
theorem dX7_init_137 : decode cX7_init 137 = .ok (.ldc 68, 2) := by decide +kernel
theorem dX7_init_139 : decode cX7_init 139 = .ok (.iload_n 1, 1) := by decide +kernel
theorem dX7_init_140 : decode cX7_init 140 = .ok (.invokevirtual 76, 3) := by decide +kernel
theorem dX7_init_143 : decode cX7_init 143 = .ok (.invokevirtual 80, 3) := by decide +kernel
theorem dX7_init_146 : decode cX7_init 146 = .ok (.iinc 1 1, 3) := by decide +kernel
theorem dX7_init_149 : decode cX7_init 149 = .ok (.goto (-25), 3) := by decide +kernel
theorem dX7_init_152 : decode cX7_init 152 = .ok (.aload_n 0, 1) := by decide +kernel
theorem dX7_init_153 : decode cX7_init 153 = .ok (.getfield 19, 3) := by decide +kernel
theorem dX7_init_156 : decode cX7_init 156 = .ok (.aload_n 0, 1) := by decide +kernel
theorem dX7_init_157 : decode cX7_init 157 = .ok (.getfield 10, 3) := by decide +kernel
theorem dX7_init_160 : decode cX7_init 160 = .ok (.invokevirtual 84, 3) := by decide +kernel
theorem dX7_init_163 : decode cX7_init 163 = .ok (.pop, 1) := by decide +kernel
theorem dX7_init_164 : decode cX7_init 164 = .ok (.aload_n 0, 1) := by decide +kernel
theorem dX7_init_165 : decode cX7_init 165 = .ok (.invokevirtual 88, 3) := by decide +kernel
theorem dX7_init_168 : decode cX7_init 168 = .ok (.aload_n 0, 1) := by decide +kernel
theorem dX7_init_169 : decode cX7_init 169 = .ok (.getfield 10, 3) := by decide +kernel
theorem dX7_init_172 : decode cX7_init 172 = .ok (.invokevirtual 91, 3) := by decide +kernel
theorem dX7_init_175 : decode cX7_init 175 = .ok (.return_, 1) := by decide +kernel
set_option maxRecDepth 20000 in
theorem ggX7_write_X6_isFull : GoodIn wsX7_write wsX6_isFull := goodIn_r _ [7, 8, 23, 24] (by decide +kernel) (by decide +kernel)
set_option maxRecDepth 20000 in
theorem gX7_write_X6_isFull : GoodIn wsX7_write (wsV RX7 94 RX6 yX6_isFull wsX6_isFull) := goodIn_app (goodIn_of _ (by decide +kernel)) ggX7_write_X6_isFull
set_option maxRecDepth 20000 in
theorem ggX7_write_X6_append : GoodIn wsX7_write wsX6_append := goodIn_r _ [12, 8, 13, 23, 24] (by decide +kernel) (by decide +kernel)
set_option maxRecDepth 20000 in
theorem gX7_write_X6_append : GoodIn wsX7_write (wsV RX7 80 RX6 yX6_append wsX6_append) := goodIn_app (goodIn_of _ (by decide +kernel)) ggX7_write_X6_append
theorem dX7_write_0 : decode cX7_write 0 = .ok (.iload_n 1, 1) := by decide +kernel
theorem dX7_write_1 : decode cX7_write 1 = .ok (.bipush 32, 2) := by decide +kernel
theorem dX7_write_3 : decode cX7_write 3 = .ok (.if_icmp .lt 9, 3) := by decide +kernel
theorem dX7_write_6 : decode cX7_write 6 = .ok (.iload_n 1, 1) := by decide +kernel
theorem dX7_write_7 : decode cX7_write 7 = .ok (.bipush 126, 2) := by decide +kernel
theorem dX7_write_9 : decode cX7_write 9 = .ok (.if_icmp .le 5, 3) := by decide +kernel
theorem dX7_write_12 : decode cX7_write 12 = .ok (.iconst (-1), 1) := by decide +kernel
theorem dX7_write_13 : decode cX7_write 13 = .ok (.ireturn, 1) := by decide +kernel
theorem dX7_write_14 : decode cX7_write 14 = .ok (.aload_n 0, 1) := by decide +kernel
theorem dX7_write_15 : decode cX7_write 15 = .ok (.getfield 10, 3) := by decide +kernel
theorem dX7_write_18 : decode cX7_write 18 = .ok (.invokevirtual 94, 3) := by decide +kernel
theorem dX7_write_21 : decode cX7_write 21 = .ok (.ifCond .eq 6, 3) := by decide +kernel
theorem dX7_write_24 : decode cX7_write 24 = .ok (.bipush (-3), 2) := by decide +kernel
theorem dX7_write_26 : decode cX7_write 26 = .ok (.ireturn, 1) := by decide +kernel
theorem dX7_write_27 : decode cX7_write 27 = .ok (.aload_n 0, 1) := by decide +kernel
theorem dX7_write_28 : decode cX7_write 28 = .ok (.getfield 10, 3) := by decide +kernel
theorem dX7_write_31 : decode cX7_write 31 = .ok (.iload_n 1, 1) := by decide +kernel
theorem dX7_write_32 : decode cX7_write 32 = .ok (.i2c, 1) := by decide +kernel
theorem dX7_write_33 : decode cX7_write 33 = .ok (.invokevirtual 80, 3) := by decide +kernel
theorem dX7_write_36 : decode cX7_write 36 = .ok (.aload_n 0, 1) := by decide +kernel
theorem dX7_write_37 : decode cX7_write 37 = .ok (.getfield 10, 3) := by decide +kernel
theorem dX7_write_40 : decode cX7_write 40 = .ok (.getfield 98, 3) := by decide +kernel
theorem dX7_write_43 : decode cX7_write 43 = .ok (.ireturn, 1) := by decide +kernel
set_option maxRecDepth 20000 in
theorem ggX7_wipe_X6_clear : GoodIn wsX7_wipe wsX6_clear := goodIn_r _ [7, 8, 18, 19] (by decide +kernel) (by decide +kernel)
set_option maxRecDepth 20000 in
theorem gX7_wipe_X6_clear : GoodIn wsX7_wipe (wsV RX7 91 RX6 yX6_clear wsX6_clear) := goodIn_app (goodIn_of _ (by decide +kernel)) ggX7_wipe_X6_clear
theorem dX7_wipe_0 : decode cX7_wipe 0 = .ok (.aload_n 0, 1) := by decide +kernel
theorem dX7_wipe_1 : decode cX7_wipe 1 = .ok (.getfield 10, 3) := by decide +kernel
theorem dX7_wipe_4 : decode cX7_wipe 4 = .ok (.getfield 98, 3) := by decide +kernel
theorem dX7_wipe_7 : decode cX7_wipe 7 = .ok (.istore_n 1, 1) := by decide +kernel
theorem dX7_wipe_8 : decode cX7_wipe 8 = .ok (.aload_n 0, 1) := by decide +kernel
theorem dX7_wipe_9 : decode cX7_wipe 9 = .ok (.getfield 10, 3) := by decide +kernel
theorem dX7_wipe_12 : decode cX7_wipe 12 = .ok (.invokevirtual 91, 3) := by decide +kernel
theorem dX7_wipe_15 : decode cX7_wipe 15 = .ok (.iload_n 1, 1) := by decide +kernel
theorem dX7_wipe_16 : decode cX7_wipe 16 = .ok (.ireturn, 1) := by decide +kernel
set_option maxRecDepth 20000 in
theorem ggX7_fault_X3_placeOfFault : GoodIn wsX7_fault wsX3_placeOfFault := goodIn_r _ [7, 8, 9, 10, 11, 6, 12, 13, 14, 15, 16, 17, 18, 19, 20, 21, 22, 23, 24, 25, 26, 27, 28, 29, 30, 31, 32, 33, 34, 35, 36, 37, 38, 39, 40, 41, 42, 43, 44, 45, 46, 47, 48, 49, 50, 51, 52, 53, 54, 55, 56, 57, 58, 59, 60, 61, 62, 63, 64, 65, 66, 67, 68, 69, 70, 71, 72, 73, 74, 75, 76, 77, 78, 79, 80, 81, 82, 83, 84, 85, 86, 87, 88, 89, 99, 100, 101, 102, 103, 104, 105, 106, 107, 108, 109, 110, 111, 112, 113, 114, 115, 116, 117, 118, 119] (by decide +kernel) (by decide +kernel)
set_option maxRecDepth 20000 in
theorem gX7_fault_X3_placeOfFault : GoodIn wsX7_fault (wsV RX7 84 RX3 yX3_placeOfFault wsX3_placeOfFault) := goodIn_app (goodIn_of _ (by decide +kernel)) ggX7_fault_X3_placeOfFault
theorem dX7_fault_0 : decode cX7_fault 0 = .ok (.aload_n 0, 1) := by decide +kernel
theorem dX7_fault_1 : decode cX7_fault 1 = .ok (.getfield 19, 3) := by decide +kernel
theorem dX7_fault_4 : decode cX7_fault 4 = .ok (.aload_n 0, 1) := by decide +kernel
theorem dX7_fault_5 : decode cX7_fault 5 = .ok (.getfield 10, 3) := by decide +kernel
theorem dX7_fault_8 : decode cX7_fault 8 = .ok (.invokevirtual 84, 3) := by decide +kernel
theorem dX7_fault_11 : decode cX7_fault 11 = .ok (.ireturn, 1) := by decide +kernel
set_option maxRecDepth 20000 in
theorem ggX7_lay_X3_placeOfFault : GoodIn wsX7_lay wsX3_placeOfFault := goodIn_r _ [11, 12, 13, 14, 15, 10, 16, 17, 18, 19, 20, 21, 22, 23, 24, 25, 26, 27, 28, 29, 30, 31, 32, 33, 34, 35, 36, 37, 38, 39, 40, 41, 42, 43, 44, 45, 46, 47, 48, 49, 50, 51, 52, 53, 54, 55, 56, 57, 58, 59, 60, 61, 62, 63, 64, 65, 66, 67, 68, 69, 70, 71, 72, 73, 74, 75, 76, 77, 78, 79, 80, 81, 82, 83, 84, 85, 86, 87, 88, 89, 90, 91, 92, 93, 153, 154, 143, 144, 145, 146, 147, 148, 149, 150, 151, 152, 155, 156, 157, 158, 159, 160, 161, 162, 163] (by decide +kernel) (by decide +kernel)
set_option maxRecDepth 20000 in
theorem gX7_lay_X3_placeOfFault : GoodIn wsX7_lay (wsV RX7 84 RX3 yX3_placeOfFault wsX3_placeOfFault) := goodIn_app (goodIn_of _ (by decide +kernel)) ggX7_lay_X3_placeOfFault
set_option maxRecDepth 20000 in
theorem ggX7_lay_X7_settle : GoodIn wsX7_lay wsX7_settle := goodIn_r _ [97, 6, 1, 3, 98, 99, 100, 101, 102, 103, 104, 105, 85, 106, 87, 107, 108, 109, 110, 111, 112, 113, 56, 114, 115, 116, 117, 26, 118, 28, 29, 30, 31, 119, 120, 121, 32, 122, 123, 124, 125, 126, 127, 128, 129, 130, 131, 132, 133, 134, 135, 136, 137, 138, 139, 140, 141, 142, 143, 144, 145, 146, 147, 148, 149, 150, 151, 152, 155, 156, 157, 158, 159, 160, 161, 162, 163, 164, 165, 166, 167, 168] (by decide +kernel) (by decide +kernel)
set_option maxRecDepth 20000 in
theorem gX7_lay_X7_settle : GoodIn wsX7_lay (wsV RX7 88 RX7 yX7_settle wsX7_settle) := goodIn_app (goodIn_of _ (by decide +kernel)) ggX7_lay_X7_settle
theorem dX7_lay_0 : decode cX7_lay 0 = .ok (.aload_n 0, 1) := by decide +kernel
theorem dX7_lay_1 : decode cX7_lay 1 = .ok (.getfield 19, 3) := by decide +kernel
theorem dX7_lay_4 : decode cX7_lay 4 = .ok (.aload_n 0, 1) := by decide +kernel
theorem dX7_lay_5 : decode cX7_lay 5 = .ok (.getfield 10, 3) := by decide +kernel
theorem dX7_lay_8 : decode cX7_lay 8 = .ok (.invokevirtual 84, 3) := by decide +kernel
theorem dX7_lay_11 : decode cX7_lay 11 = .ok (.bipush (-4), 2) := by decide +kernel
theorem dX7_lay_13 : decode cX7_lay 13 = .ok (.if_icmp .ne 31, 3) := by decide +kernel
theorem dX7_lay_16 : decode cX7_lay 16 = .ok (.aload_n 0, 1) := by decide +kernel
theorem dX7_lay_17 : decode cX7_lay 17 = .ok (.getfield 19, 3) := by decide +kernel
theorem dX7_lay_20 : decode cX7_lay 20 = .ok (.getfield 101, 3) := by decide +kernel
theorem dX7_lay_23 : decode cX7_lay 23 = .ok (.getfield 102, 3) := by decide +kernel
theorem dX7_lay_26 : decode cX7_lay 26 = .ok (.iconst 1, 1) := by decide +kernel
theorem dX7_lay_27 : decode cX7_lay 27 = .ok (.if_icmp .lt 17, 3) := by decide +kernel
theorem dX7_lay_30 : decode cX7_lay 30 = .ok (.aload_n 0, 1) := by decide +kernel
theorem dX7_lay_31 : decode cX7_lay 31 = .ok (.getfield 19, 3) := by decide +kernel
theorem dX7_lay_34 : decode cX7_lay 34 = .ok (.getfield 101, 3) := by decide +kernel
theorem dX7_lay_37 : decode cX7_lay 37 = .ok (.getfield 105, 3) := by decide +kernel
theorem dX7_lay_40 : decode cX7_lay 40 = .ok (.iconst 1, 1) := by decide +kernel
theorem dX7_lay_41 : decode cX7_lay 41 = .ok (.if_icmp .ge 6, 3) := by decide +kernel
theorem dX7_lay_44 : decode cX7_lay 44 = .ok (.bipush (-2), 2) := by decide +kernel
theorem dX7_lay_46 : decode cX7_lay 46 = .ok (.ireturn, 1) := by decide +kernel
theorem dX7_lay_47 : decode cX7_lay 47 = .ok (.aload_n 0, 1) := by decide +kernel
theorem dX7_lay_48 : decode cX7_lay 48 = .ok (.invokevirtual 88, 3) := by decide +kernel
theorem dX7_lay_51 : decode cX7_lay 51 = .ok (.aload_n 0, 1) := by decide +kernel
theorem dX7_lay_52 : decode cX7_lay 52 = .ok (.getfield 26, 3) := by decide +kernel
theorem dX7_lay_55 : decode cX7_lay 55 = .ok (.getfield 105, 3) := by decide +kernel
theorem dX7_lay_58 : decode cX7_lay 58 = .ok (.ireturn, 1) := by decide +kernel
set_option maxRecDepth 20000 in
theorem ggX7_parasol_X2_hasParasol : GoodIn wsX7_parasol wsX2_hasParasol := goodIn_r _ [7, 8, 57, 58, 59, 60, 61, 62, 63] (by decide +kernel) (by decide +kernel)
set_option maxRecDepth 20000 in
theorem gX7_parasol_X2_hasParasol : GoodIn wsX7_parasol (wsV RX7 108 RX2 yX2_hasParasol wsX2_hasParasol) := goodIn_app (goodIn_of _ (by decide +kernel)) ggX7_parasol_X2_hasParasol
set_option maxRecDepth 20000 in
theorem ggX7_parasol_X2_kindOf : GoodIn wsX7_parasol wsX2_kindOf := goodIn_r _ [12, 13, 14, 15, 16, 57, 58, 59, 60, 61, 62, 63] (by decide +kernel) (by decide +kernel)
set_option maxRecDepth 20000 in
theorem gX7_parasol_X2_kindOf : GoodIn wsX7_parasol (wsV RX7 112 RX2 yX2_kindOf wsX2_kindOf) := goodIn_app (goodIn_of _ (by decide +kernel)) ggX7_parasol_X2_kindOf
set_option maxRecDepth 20000 in
theorem ggX7_parasol_X1_hourOf : GoodIn wsX7_parasol wsX1_hourOf := goodIn_r _ [21, 22, 14, 15, 16, 64, 65, 66, 67, 68, 69, 70, 71, 72] (by decide +kernel) (by decide +kernel)
set_option maxRecDepth 20000 in
theorem gX7_parasol_X1_hourOf : GoodIn wsX7_parasol (wsV RX7 116 RX1 yX1_hourOf wsX1_hourOf) := goodIn_app (goodIn_of _ (by decide +kernel)) ggX7_parasol_X1_hourOf
set_option maxRecDepth 20000 in
theorem ggX7_parasol_X1_wornOf : GoodIn wsX7_parasol wsX1_wornOf := goodIn_r _ [26, 27, 14, 15, 16, 64, 65, 66, 67, 68, 69, 70, 71, 72] (by decide +kernel) (by decide +kernel)
set_option maxRecDepth 20000 in
theorem gX7_parasol_X1_wornOf : GoodIn wsX7_parasol (wsV RX7 119 RX1 yX1_wornOf wsX1_wornOf) := goodIn_app (goodIn_of _ (by decide +kernel)) ggX7_parasol_X1_wornOf
set_option maxRecDepth 20000 in
theorem ggX7_parasol_X1_bearersOf : GoodIn wsX7_parasol wsX1_bearersOf := goodIn_r _ [31, 32, 33, 34, 35, 36, 20, 37, 38, 14, 15, 16, 64, 65, 66, 67, 68, 69, 70, 71, 72, 57, 58, 59, 60, 61, 62, 63] (by decide +kernel) (by decide +kernel)
set_option maxRecDepth 20000 in
theorem gX7_parasol_X1_bearersOf : GoodIn wsX7_parasol (wsV RX7 122 RX1 yX1_bearersOf wsX1_bearersOf) := goodIn_app (goodIn_of _ (by decide +kernel)) ggX7_parasol_X1_bearersOf
set_option maxRecDepth 20000 in
theorem ggX7_parasol_X1_squareOfParasol : GoodIn wsX7_parasol wsX1_squareOfParasol := goodIn_r _ [42, 32, 33, 34, 35, 36, 20, 37, 38, 14, 15, 16, 43, 44, 45, 46, 47, 64, 65, 66, 67, 68, 69, 70, 71, 72, 57, 58, 59, 60, 61, 62, 63] (by decide +kernel) (by decide +kernel)
set_option maxRecDepth 20000 in
theorem gX7_parasol_X1_squareOfParasol : GoodIn wsX7_parasol (wsV RX7 125 RX1 yX1_squareOfParasol wsX1_squareOfParasol) := goodIn_app (goodIn_of _ (by decide +kernel)) ggX7_parasol_X1_squareOfParasol
theorem dX7_parasol_0 : decode cX7_parasol 0 = .ok (.aload_n 0, 1) := by decide +kernel
theorem dX7_parasol_1 : decode cX7_parasol 1 = .ok (.getfield 26, 3) := by decide +kernel
theorem dX7_parasol_4 : decode cX7_parasol 4 = .ok (.iload_n 1, 1) := by decide +kernel
theorem dX7_parasol_5 : decode cX7_parasol 5 = .ok (.invokevirtual 108, 3) := by decide +kernel
theorem dX7_parasol_8 : decode cX7_parasol 8 = .ok (.ifCond .ne 5, 3) := by decide +kernel
theorem dX7_parasol_11 : decode cX7_parasol 11 = .ok (.iconst (-1), 1) := by decide +kernel
theorem dX7_parasol_12 : decode cX7_parasol 12 = .ok (.ireturn, 1) := by decide +kernel
theorem dX7_parasol_13 : decode cX7_parasol 13 = .ok (.iload_n 2, 1) := by decide +kernel
theorem dX7_parasol_14 : decode cX7_parasol 14 = .ok (.tableswitch 79 0 4 #[34, 43, 52, 61, 70], 34) := by decide +kernel
theorem dX7_parasol_48 : decode cX7_parasol 48 = .ok (.aload_n 0, 1) := by decide +kernel
theorem dX7_parasol_49 : decode cX7_parasol 49 = .ok (.getfield 26, 3) := by decide +kernel
theorem dX7_parasol_52 : decode cX7_parasol 52 = .ok (.iload_n 1, 1) := by decide +kernel
theorem dX7_parasol_53 : decode cX7_parasol 53 = .ok (.invokevirtual 112, 3) := by decide +kernel
theorem dX7_parasol_56 : decode cX7_parasol 56 = .ok (.ireturn, 1) := by decide +kernel
theorem dX7_parasol_57 : decode cX7_parasol 57 = .ok (.aload_n 0, 1) := by decide +kernel
theorem dX7_parasol_58 : decode cX7_parasol 58 = .ok (.getfield 35, 3) := by decide +kernel
theorem dX7_parasol_61 : decode cX7_parasol 61 = .ok (.iload_n 1, 1) := by decide +kernel
theorem dX7_parasol_62 : decode cX7_parasol 62 = .ok (.invokevirtual 116, 3) := by decide +kernel
theorem dX7_parasol_65 : decode cX7_parasol 65 = .ok (.ireturn, 1) := by decide +kernel
theorem dX7_parasol_66 : decode cX7_parasol 66 = .ok (.aload_n 0, 1) := by decide +kernel
theorem dX7_parasol_67 : decode cX7_parasol 67 = .ok (.getfield 35, 3) := by decide +kernel
theorem dX7_parasol_70 : decode cX7_parasol 70 = .ok (.iload_n 1, 1) := by decide +kernel
theorem dX7_parasol_71 : decode cX7_parasol 71 = .ok (.invokevirtual 119, 3) := by decide +kernel
theorem dX7_parasol_74 : decode cX7_parasol 74 = .ok (.ireturn, 1) := by decide +kernel
theorem dX7_parasol_75 : decode cX7_parasol 75 = .ok (.aload_n 0, 1) := by decide +kernel
theorem dX7_parasol_76 : decode cX7_parasol 76 = .ok (.getfield 35, 3) := by decide +kernel
theorem dX7_parasol_79 : decode cX7_parasol 79 = .ok (.iload_n 1, 1) := by decide +kernel
theorem dX7_parasol_80 : decode cX7_parasol 80 = .ok (.invokevirtual 122, 3) := by decide +kernel
theorem dX7_parasol_83 : decode cX7_parasol 83 = .ok (.ireturn, 1) := by decide +kernel
theorem dX7_parasol_84 : decode cX7_parasol 84 = .ok (.aload_n 0, 1) := by decide +kernel
theorem dX7_parasol_85 : decode cX7_parasol 85 = .ok (.getfield 35, 3) := by decide +kernel
theorem dX7_parasol_88 : decode cX7_parasol 88 = .ok (.iload_n 1, 1) := by decide +kernel
theorem dX7_parasol_89 : decode cX7_parasol 89 = .ok (.invokevirtual 125, 3) := by decide +kernel
theorem dX7_parasol_92 : decode cX7_parasol 92 = .ok (.ireturn, 1) := by decide +kernel
theorem dX7_parasol_93 : decode cX7_parasol 93 = .ok (.iconst (-1), 1) := by decide +kernel
theorem dX7_parasol_94 : decode cX7_parasol 94 = .ok (.ireturn, 1) := by decide +kernel
set_option maxRecDepth 20000 in
theorem ggX7_person_X2_hasPerson : GoodIn wsX7_person wsX2_hasPerson := goodIn_r _ [7, 8, 59, 60, 61, 62, 63, 64, 65] (by decide +kernel) (by decide +kernel)
set_option maxRecDepth 20000 in
theorem gX7_person_X2_hasPerson : GoodIn wsX7_person (wsV RX7 128 RX2 yX2_hasPerson wsX2_hasPerson) := goodIn_app (goodIn_of _ (by decide +kernel)) ggX7_person_X2_hasPerson
set_option maxRecDepth 20000 in
theorem ggX7_person_X1_squareOf : GoodIn wsX7_person wsX1_squareOf := goodIn_r _ [13, 14, 15, 16, 17, 66, 67, 68, 69, 70, 71, 72, 73, 74] (by decide +kernel) (by decide +kernel)
set_option maxRecDepth 20000 in
theorem gX7_person_X1_squareOf : GoodIn wsX7_person (wsV RX7 131 RX1 yX1_squareOf wsX1_squareOf) := goodIn_app (goodIn_of _ (by decide +kernel)) ggX7_person_X1_squareOf
set_option maxRecDepth 20000 in
theorem ggX7_person_X1_parasolOf : GoodIn wsX7_person wsX1_parasolOf := goodIn_r _ [21, 22, 15, 16, 17, 66, 67, 68, 69, 70, 71, 72, 73, 74] (by decide +kernel) (by decide +kernel)
set_option maxRecDepth 20000 in
theorem gX7_person_X1_parasolOf : GoodIn wsX7_person (wsV RX7 134 RX1 yX1_parasolOf wsX1_parasolOf) := goodIn_app (goodIn_of _ (by decide +kernel)) ggX7_person_X1_parasolOf
set_option maxRecDepth 20000 in
theorem ggX7_person_X1_timeOf : GoodIn wsX7_person wsX1_timeOf := goodIn_r _ [26, 27, 10, 11, 12, 13, 14, 15, 16, 17, 28, 29, 30, 31, 32, 33, 34, 35, 36, 37, 66, 67, 68, 69, 70, 71, 72, 73, 74] (by decide +kernel) (by decide +kernel)
set_option maxRecDepth 20000 in
theorem gX7_person_X1_timeOf : GoodIn wsX7_person (wsV RX7 137 RX1 yX1_timeOf wsX1_timeOf) := goodIn_app (goodIn_of _ (by decide +kernel)) ggX7_person_X1_timeOf
set_option maxRecDepth 20000 in
theorem ggX7_person_X1_isStill : GoodIn wsX7_person wsX1_isStill := goodIn_r _ [41, 42, 43, 16, 44, 66, 67, 68, 69, 70, 71, 72, 73, 74] (by decide +kernel) (by decide +kernel)
set_option maxRecDepth 20000 in
theorem gX7_person_X1_isStill : GoodIn wsX7_person (wsV RX7 141 RX1 yX1_isStill wsX1_isStill) := goodIn_app (goodIn_of _ (by decide +kernel)) ggX7_person_X1_isStill
set_option maxRecDepth 20000 in
theorem ggX7_person_X1_hasShade : GoodIn wsX7_person wsX1_hasShade := goodIn_r _ [48, 49, 19, 20, 12, 21, 22, 15, 16, 17, 27, 10, 11, 13, 14, 28, 29, 30, 31, 32, 66, 67, 68, 69, 70, 71, 72, 73, 74] (by decide +kernel) (by decide +kernel)
set_option maxRecDepth 20000 in
theorem gX7_person_X1_hasShade : GoodIn wsX7_person (wsV RX7 144 RX1 yX1_hasShade wsX1_hasShade) := goodIn_app (goodIn_of _ (by decide +kernel)) ggX7_person_X1_hasShade
theorem dX7_person_0 : decode cX7_person 0 = .ok (.aload_n 0, 1) := by decide +kernel
theorem dX7_person_1 : decode cX7_person 1 = .ok (.getfield 26, 3) := by decide +kernel
theorem dX7_person_4 : decode cX7_person 4 = .ok (.iload_n 1, 1) := by decide +kernel
theorem dX7_person_5 : decode cX7_person 5 = .ok (.invokevirtual 128, 3) := by decide +kernel
theorem dX7_person_8 : decode cX7_person 8 = .ok (.ifCond .ne 5, 3) := by decide +kernel
theorem dX7_person_11 : decode cX7_person 11 = .ok (.iconst (-1), 1) := by decide +kernel
theorem dX7_person_12 : decode cX7_person 12 = .ok (.ireturn, 1) := by decide +kernel
theorem dX7_person_13 : decode cX7_person 13 = .ok (.iload_n 2, 1) := by decide +kernel
theorem dX7_person_14 : decode cX7_person 14 = .ok (.tableswitch 103 0 4 #[34, 43, 52, 69, 86], 34) := by decide +kernel
theorem dX7_person_48 : decode cX7_person 48 = .ok (.aload_n 0, 1) := by decide +kernel
theorem dX7_person_49 : decode cX7_person 49 = .ok (.getfield 35, 3) := by decide +kernel
theorem dX7_person_52 : decode cX7_person 52 = .ok (.iload_n 1, 1) := by decide +kernel
theorem dX7_person_53 : decode cX7_person 53 = .ok (.invokevirtual 131, 3) := by decide +kernel
theorem dX7_person_56 : decode cX7_person 56 = .ok (.ireturn, 1) := by decide +kernel
theorem dX7_person_57 : decode cX7_person 57 = .ok (.aload_n 0, 1) := by decide +kernel
theorem dX7_person_58 : decode cX7_person 58 = .ok (.getfield 35, 3) := by decide +kernel
theorem dX7_person_61 : decode cX7_person 61 = .ok (.iload_n 1, 1) := by decide +kernel
theorem dX7_person_62 : decode cX7_person 62 = .ok (.invokevirtual 134, 3) := by decide +kernel
theorem dX7_person_65 : decode cX7_person 65 = .ok (.ireturn, 1) := by decide +kernel
theorem dX7_person_66 : decode cX7_person 66 = .ok (.aload_n 0, 1) := by decide +kernel
theorem dX7_person_67 : decode cX7_person 67 = .ok (.getfield 35, 3) := by decide +kernel
theorem dX7_person_70 : decode cX7_person 70 = .ok (.iload_n 1, 1) := by decide +kernel
theorem dX7_person_71 : decode cX7_person 71 = .ok (.aload_n 0, 1) := by decide +kernel
theorem dX7_person_72 : decode cX7_person 72 = .ok (.getfield 35, 3) := by decide +kernel
theorem dX7_person_75 : decode cX7_person 75 = .ok (.iload_n 1, 1) := by decide +kernel
theorem dX7_person_76 : decode cX7_person 76 = .ok (.invokevirtual 134, 3) := by decide +kernel
theorem dX7_person_79 : decode cX7_person 79 = .ok (.invokevirtual 137, 3) := by decide +kernel
theorem dX7_person_82 : decode cX7_person 82 = .ok (.ireturn, 1) := by decide +kernel
theorem dX7_person_83 : decode cX7_person 83 = .ok (.aload_n 0, 1) := by decide +kernel
theorem dX7_person_84 : decode cX7_person 84 = .ok (.getfield 35, 3) := by decide +kernel
theorem dX7_person_87 : decode cX7_person 87 = .ok (.iload_n 1, 1) := by decide +kernel
theorem dX7_person_88 : decode cX7_person 88 = .ok (.invokevirtual 141, 3) := by decide +kernel
theorem dX7_person_91 : decode cX7_person 91 = .ok (.ifCond .eq 7, 3) := by decide +kernel
theorem dX7_person_94 : decode cX7_person 94 = .ok (.iconst 1, 1) := by decide +kernel
theorem dX7_person_95 : decode cX7_person 95 = .ok (.goto 4, 3) := by decide +kernel
theorem dX7_person_98 : decode cX7_person 98 = .ok (.iconst 0, 1) := by decide +kernel
theorem dX7_person_99 : decode cX7_person 99 = .ok (.ireturn, 1) := by decide +kernel
theorem dX7_person_100 : decode cX7_person 100 = .ok (.aload_n 0, 1) := by decide +kernel
theorem dX7_person_101 : decode cX7_person 101 = .ok (.getfield 35, 3) := by decide +kernel
theorem dX7_person_104 : decode cX7_person 104 = .ok (.iload_n 1, 1) := by decide +kernel
theorem dX7_person_105 : decode cX7_person 105 = .ok (.invokevirtual 144, 3) := by decide +kernel
theorem dX7_person_108 : decode cX7_person 108 = .ok (.ifCond .eq 7, 3) := by decide +kernel
theorem dX7_person_111 : decode cX7_person 111 = .ok (.iconst 1, 1) := by decide +kernel
theorem dX7_person_112 : decode cX7_person 112 = .ok (.goto 4, 3) := by decide +kernel
theorem dX7_person_115 : decode cX7_person 115 = .ok (.iconst 0, 1) := by decide +kernel
theorem dX7_person_116 : decode cX7_person 116 = .ok (.ireturn, 1) := by decide +kernel
theorem dX7_person_117 : decode cX7_person 117 = .ok (.iconst (-1), 1) := by decide +kernel
theorem dX7_person_118 : decode cX7_person 118 = .ok (.ireturn, 1) := by decide +kernel
set_option maxRecDepth 20000 in
theorem ggX7_work_X2_hasWork : GoodIn wsX7_work wsX2_hasWork := goodIn_r _ [7, 8, 39, 40, 41, 42, 43, 44, 45] (by decide +kernel) (by decide +kernel)
set_option maxRecDepth 20000 in
theorem gX7_work_X2_hasWork : GoodIn wsX7_work (wsV RX7 147 RX2 yX2_hasWork wsX2_hasWork) := goodIn_app (goodIn_of _ (by decide +kernel)) ggX7_work_X2_hasWork
set_option maxRecDepth 20000 in
theorem ggX7_work_X2_workSquareOf : GoodIn wsX7_work wsX2_workSquareOf := goodIn_r _ [12, 13, 14, 15, 16, 39, 40, 41, 42, 43, 44, 45] (by decide +kernel) (by decide +kernel)
set_option maxRecDepth 20000 in
theorem gX7_work_X2_workSquareOf : GoodIn wsX7_work (wsV RX7 150 RX2 yX2_workSquareOf wsX2_workSquareOf) := goodIn_app (goodIn_of _ (by decide +kernel)) ggX7_work_X2_workSquareOf
set_option maxRecDepth 20000 in
theorem ggX7_work_X2_workHourOf : GoodIn wsX7_work wsX2_workHourOf := goodIn_r _ [20, 21, 14, 15, 16, 39, 40, 41, 42, 43, 44, 45] (by decide +kernel) (by decide +kernel)
set_option maxRecDepth 20000 in
theorem gX7_work_X2_workHourOf : GoodIn wsX7_work (wsV RX7 153 RX2 yX2_workHourOf wsX2_workHourOf) := goodIn_app (goodIn_of _ (by decide +kernel)) ggX7_work_X2_workHourOf
set_option maxRecDepth 20000 in
theorem ggX7_work_X1_isDone : GoodIn wsX7_work wsX1_isDone := goodIn_r _ [26, 27, 28, 15, 29, 46, 47, 48, 49, 50, 51, 52, 53, 54] (by decide +kernel) (by decide +kernel)
set_option maxRecDepth 20000 in
theorem gX7_work_X1_isDone : GoodIn wsX7_work (wsV RX7 156 RX1 yX1_isDone wsX1_isDone) := goodIn_app (goodIn_of _ (by decide +kernel)) ggX7_work_X1_isDone
theorem dX7_work_0 : decode cX7_work 0 = .ok (.aload_n 0, 1) := by decide +kernel
theorem dX7_work_1 : decode cX7_work 1 = .ok (.getfield 26, 3) := by decide +kernel
theorem dX7_work_4 : decode cX7_work 4 = .ok (.iload_n 1, 1) := by decide +kernel
theorem dX7_work_5 : decode cX7_work 5 = .ok (.invokevirtual 147, 3) := by decide +kernel
theorem dX7_work_8 : decode cX7_work 8 = .ok (.ifCond .ne 5, 3) := by decide +kernel
theorem dX7_work_11 : decode cX7_work 11 = .ok (.iconst (-1), 1) := by decide +kernel
theorem dX7_work_12 : decode cX7_work 12 = .ok (.ireturn, 1) := by decide +kernel
theorem dX7_work_13 : decode cX7_work 13 = .ok (.iload_n 2, 1) := by decide +kernel
theorem dX7_work_14 : decode cX7_work 14 = .ok (.tableswitch 61 0 2 #[26, 35, 44], 26) := by decide +kernel
theorem dX7_work_40 : decode cX7_work 40 = .ok (.aload_n 0, 1) := by decide +kernel
theorem dX7_work_41 : decode cX7_work 41 = .ok (.getfield 26, 3) := by decide +kernel
theorem dX7_work_44 : decode cX7_work 44 = .ok (.iload_n 1, 1) := by decide +kernel
theorem dX7_work_45 : decode cX7_work 45 = .ok (.invokevirtual 150, 3) := by decide +kernel
theorem dX7_work_48 : decode cX7_work 48 = .ok (.ireturn, 1) := by decide +kernel
theorem dX7_work_49 : decode cX7_work 49 = .ok (.aload_n 0, 1) := by decide +kernel
theorem dX7_work_50 : decode cX7_work 50 = .ok (.getfield 26, 3) := by decide +kernel
theorem dX7_work_53 : decode cX7_work 53 = .ok (.iload_n 1, 1) := by decide +kernel
theorem dX7_work_54 : decode cX7_work 54 = .ok (.invokevirtual 153, 3) := by decide +kernel
theorem dX7_work_57 : decode cX7_work 57 = .ok (.ireturn, 1) := by decide +kernel
theorem dX7_work_58 : decode cX7_work 58 = .ok (.aload_n 0, 1) := by decide +kernel
theorem dX7_work_59 : decode cX7_work 59 = .ok (.getfield 35, 3) := by decide +kernel
theorem dX7_work_62 : decode cX7_work 62 = .ok (.iload_n 1, 1) := by decide +kernel
theorem dX7_work_63 : decode cX7_work 63 = .ok (.invokevirtual 156, 3) := by decide +kernel
theorem dX7_work_66 : decode cX7_work 66 = .ok (.ifCond .eq 7, 3) := by decide +kernel
theorem dX7_work_69 : decode cX7_work 69 = .ok (.iconst 1, 1) := by decide +kernel
theorem dX7_work_70 : decode cX7_work 70 = .ok (.goto 4, 3) := by decide +kernel
theorem dX7_work_73 : decode cX7_work 73 = .ok (.iconst 0, 1) := by decide +kernel
theorem dX7_work_74 : decode cX7_work 74 = .ok (.ireturn, 1) := by decide +kernel
theorem dX7_work_75 : decode cX7_work 75 = .ok (.iconst (-1), 1) := by decide +kernel
theorem dX7_work_76 : decode cX7_work 76 = .ok (.ireturn, 1) := by decide +kernel
set_option maxRecDepth 20000 in
theorem ggX7_take_X2_hasPerson : GoodIn wsX7_take wsX2_hasPerson := goodIn_r _ [8, 9, 99, 100, 101, 102, 103, 104, 105] (by decide +kernel) (by decide +kernel)
set_option maxRecDepth 20000 in
theorem gX7_take_X2_hasPerson : GoodIn wsX7_take (wsV RX7 128 RX2 yX2_hasPerson wsX2_hasPerson) := goodIn_app (goodIn_of _ (by decide +kernel)) ggX7_take_X2_hasPerson
set_option maxRecDepth 20000 in
theorem ggX7_take_X2_hasParasol : GoodIn wsX7_take wsX2_hasParasol := goodIn_r _ [13, 14, 99, 100, 101, 102, 103, 104, 105] (by decide +kernel) (by decide +kernel)
set_option maxRecDepth 20000 in
theorem gX7_take_X2_hasParasol : GoodIn wsX7_take (wsV RX7 108 RX2 yX2_hasParasol wsX2_hasParasol) := goodIn_app (goodIn_of _ (by decide +kernel)) ggX7_take_X2_hasParasol
set_option maxRecDepth 20000 in
theorem ggX7_take_X1_canTake : GoodIn wsX7_take wsX1_canTake := goodIn_r _ [19, 20, 21, 22, 18, 23, 24, 25, 26, 27, 28, 29, 30, 31, 32, 33, 34, 35, 36, 37, 38, 39, 40, 41, 42, 43, 44, 45, 46, 47, 48, 49, 106, 107, 108, 109, 110, 111, 112, 113, 114, 99, 100, 101, 102, 103, 104, 105] (by decide +kernel) (by decide +kernel)
set_option maxRecDepth 20000 in
theorem gX7_take_X1_canTake : GoodIn wsX7_take (wsV RX7 159 RX1 yX1_canTake wsX1_canTake) := goodIn_app (goodIn_of _ (by decide +kernel)) ggX7_take_X1_canTake
set_option maxRecDepth 20000 in
theorem ggX7_take_X4_push : GoodIn wsX7_take wsX4_push := goodIn_r _ [54, 55, 56, 57, 58, 53, 59, 60, 61, 62, 63, 64, 65, 66, 67, 68, 69, 70, 71, 18, 72, 73, 74, 24, 75, 76, 77, 32, 39, 78, 26, 79, 115, 116, 106, 107, 108, 109, 110, 111, 112, 113, 114] (by decide +kernel) (by decide +kernel)
set_option maxRecDepth 20000 in
theorem gX7_take_X4_push : GoodIn wsX7_take (wsV RX7 163 RX4 yX4_push wsX4_push) := goodIn_app (goodIn_of _ (by decide +kernel)) ggX7_take_X4_push
set_option maxRecDepth 20000 in
theorem ggX7_take_X1_doTake : GoodIn wsX7_take wsX1_doTake := goodIn_r _ [83, 39, 84, 26, 85, 106, 107, 108, 109, 110, 111, 112, 113, 114] (by decide +kernel) (by decide +kernel)
set_option maxRecDepth 20000 in
theorem gX7_take_X1_doTake : GoodIn wsX7_take (wsV RX7 167 RX1 yX1_doTake wsX1_doTake) := goodIn_app (goodIn_of _ (by decide +kernel)) ggX7_take_X1_doTake
set_option maxRecDepth 20000 in
theorem ggX7_take_X1_hourOf : GoodIn wsX7_take wsX1_hourOf := goodIn_r _ [89, 76, 33, 26, 34, 106, 107, 108, 109, 110, 111, 112, 113, 114] (by decide +kernel) (by decide +kernel)
set_option maxRecDepth 20000 in
theorem gX7_take_X1_hourOf : GoodIn wsX7_take (wsV RX7 116 RX1 yX1_hourOf wsX1_hourOf) := goodIn_app (goodIn_of _ (by decide +kernel)) ggX7_take_X1_hourOf
theorem dX7_take_0 : decode cX7_take 0 = .ok (.aload_n 0, 1) := by decide +kernel
theorem dX7_take_1 : decode cX7_take 1 = .ok (.getfield 26, 3) := by decide +kernel
theorem dX7_take_4 : decode cX7_take 4 = .ok (.iload_n 1, 1) := by decide +kernel
theorem dX7_take_5 : decode cX7_take 5 = .ok (.invokevirtual 128, 3) := by decide +kernel
theorem dX7_take_8 : decode cX7_take 8 = .ok (.ifCond .eq 14, 3) := by decide +kernel
theorem dX7_take_11 : decode cX7_take 11 = .ok (.aload_n 0, 1) := by decide +kernel
theorem dX7_take_12 : decode cX7_take 12 = .ok (.getfield 26, 3) := by decide +kernel
theorem dX7_take_15 : decode cX7_take 15 = .ok (.iload_n 2, 1) := by decide +kernel
theorem dX7_take_16 : decode cX7_take 16 = .ok (.invokevirtual 108, 3) := by decide +kernel
theorem dX7_take_19 : decode cX7_take 19 = .ok (.ifCond .ne 5, 3) := by decide +kernel
theorem dX7_take_22 : decode cX7_take 22 = .ok (.iconst (-1), 1) := by decide +kernel
theorem dX7_take_23 : decode cX7_take 23 = .ok (.ireturn, 1) := by decide +kernel
theorem dX7_take_24 : decode cX7_take 24 = .ok (.aload_n 0, 1) := by decide +kernel
theorem dX7_take_25 : decode cX7_take 25 = .ok (.getfield 35, 3) := by decide +kernel
theorem dX7_take_28 : decode cX7_take 28 = .ok (.iload_n 1, 1) := by decide +kernel
theorem dX7_take_29 : decode cX7_take 29 = .ok (.iload_n 2, 1) := by decide +kernel
theorem dX7_take_30 : decode cX7_take 30 = .ok (.invokevirtual 159, 3) := by decide +kernel
theorem dX7_take_33 : decode cX7_take 33 = .ok (.ifCond .ne 6, 3) := by decide +kernel
theorem dX7_take_36 : decode cX7_take 36 = .ok (.bipush (-2), 2) := by decide +kernel
theorem dX7_take_38 : decode cX7_take 38 = .ok (.ireturn, 1) := by decide +kernel
theorem dX7_take_39 : decode cX7_take 39 = .ok (.aload_n 0, 1) := by decide +kernel
theorem dX7_take_40 : decode cX7_take 40 = .ok (.getfield 47, 3) := by decide +kernel
theorem dX7_take_43 : decode cX7_take 43 = .ok (.aload_n 0, 1) := by decide +kernel
theorem dX7_take_44 : decode cX7_take 44 = .ok (.getfield 35, 3) := by decide +kernel
theorem dX7_take_47 : decode cX7_take 47 = .ok (.invokevirtual 163, 3) := by decide +kernel
theorem dX7_take_50 : decode cX7_take 50 = .ok (.aload_n 0, 1) := by decide +kernel
theorem dX7_take_51 : decode cX7_take 51 = .ok (.getfield 35, 3) := by decide +kernel
theorem dX7_take_54 : decode cX7_take 54 = .ok (.iload_n 1, 1) := by decide +kernel
theorem dX7_take_55 : decode cX7_take 55 = .ok (.iload_n 2, 1) := by decide +kernel
theorem dX7_take_56 : decode cX7_take 56 = .ok (.invokevirtual 167, 3) := by decide +kernel
theorem dX7_take_59 : decode cX7_take 59 = .ok (.aload_n 0, 1) := by decide +kernel
theorem dX7_take_60 : decode cX7_take 60 = .ok (.getfield 35, 3) := by decide +kernel
theorem dX7_take_63 : decode cX7_take 63 = .ok (.iload_n 2, 1) := by decide +kernel
theorem dX7_take_64 : decode cX7_take 64 = .ok (.invokevirtual 116, 3) := by decide +kernel
theorem dX7_take_67 : decode cX7_take 67 = .ok (.ireturn, 1) := by decide +kernel
set_option maxRecDepth 20000 in
theorem ggX7_share_X2_hasPerson : GoodIn wsX7_share wsX2_hasPerson := goodIn_r _ [8, 9, 88, 89, 90, 91, 92, 93, 94] (by decide +kernel) (by decide +kernel)
set_option maxRecDepth 20000 in
theorem gX7_share_X2_hasPerson : GoodIn wsX7_share (wsV RX7 128 RX2 yX2_hasPerson wsX2_hasPerson) := goodIn_app (goodIn_of _ (by decide +kernel)) ggX7_share_X2_hasPerson
set_option maxRecDepth 20000 in
theorem ggX7_share_X1_canShare : GoodIn wsX7_share wsX1_canShare := goodIn_r _ [14, 15, 16, 17, 13, 18, 19, 20, 21, 22, 23, 24, 25, 26, 27, 28, 29, 30, 31, 32, 33, 34, 35, 36, 37, 38, 39, 40, 95, 96, 97, 98, 99, 100, 101, 102, 103, 88, 89, 90, 91, 92, 93, 94] (by decide +kernel) (by decide +kernel)
set_option maxRecDepth 20000 in
theorem gX7_share_X1_canShare : GoodIn wsX7_share (wsV RX7 171 RX1 yX1_canShare wsX1_canShare) := goodIn_app (goodIn_of _ (by decide +kernel)) ggX7_share_X1_canShare
set_option maxRecDepth 20000 in
theorem ggX7_share_X4_push : GoodIn wsX7_share wsX4_push := goodIn_r _ [45, 46, 47, 48, 49, 44, 50, 51, 52, 53, 54, 55, 56, 57, 58, 59, 60, 61, 62, 13, 63, 64, 65, 66, 67, 68, 69, 27, 19, 70, 21, 71, 104, 105, 95, 96, 97, 98, 99, 100, 101, 102, 103] (by decide +kernel) (by decide +kernel)
set_option maxRecDepth 20000 in
theorem gX7_share_X4_push : GoodIn wsX7_share (wsV RX7 163 RX4 yX4_push wsX4_push) := goodIn_app (goodIn_of _ (by decide +kernel)) ggX7_share_X4_push
set_option maxRecDepth 20000 in
theorem ggX7_share_X1_doShare : GoodIn wsX7_share wsX1_doShare := goodIn_r _ [75, 19, 66, 15, 16, 17, 13, 18, 20, 21, 22, 76, 77, 95, 96, 97, 98, 99, 100, 101, 102, 103] (by decide +kernel) (by decide +kernel)
set_option maxRecDepth 20000 in
theorem gX7_share_X1_doShare : GoodIn wsX7_share (wsV RX7 174 RX1 yX1_doShare wsX1_doShare) := goodIn_app (goodIn_of _ (by decide +kernel)) ggX7_share_X1_doShare
set_option maxRecDepth 20000 in
theorem ggX7_share_X1_parasolOf : GoodIn wsX7_share wsX1_parasolOf := goodIn_r _ [18, 19, 20, 21, 22, 95, 96, 97, 98, 99, 100, 101, 102, 103] (by decide +kernel) (by decide +kernel)
set_option maxRecDepth 20000 in
theorem gX7_share_X1_parasolOf : GoodIn wsX7_share (wsV RX7 134 RX1 yX1_parasolOf wsX1_parasolOf) := goodIn_app (goodIn_of _ (by decide +kernel)) ggX7_share_X1_parasolOf
theorem dX7_share_0 : decode cX7_share 0 = .ok (.aload_n 0, 1) := by decide +kernel
theorem dX7_share_1 : decode cX7_share 1 = .ok (.getfield 26, 3) := by decide +kernel
theorem dX7_share_4 : decode cX7_share 4 = .ok (.iload_n 1, 1) := by decide +kernel
theorem dX7_share_5 : decode cX7_share 5 = .ok (.invokevirtual 128, 3) := by decide +kernel
theorem dX7_share_8 : decode cX7_share 8 = .ok (.ifCond .eq 19, 3) := by decide +kernel
theorem dX7_share_11 : decode cX7_share 11 = .ok (.aload_n 0, 1) := by decide +kernel
theorem dX7_share_12 : decode cX7_share 12 = .ok (.getfield 26, 3) := by decide +kernel
theorem dX7_share_15 : decode cX7_share 15 = .ok (.iload_n 2, 1) := by decide +kernel
theorem dX7_share_16 : decode cX7_share 16 = .ok (.invokevirtual 128, 3) := by decide +kernel
theorem dX7_share_19 : decode cX7_share 19 = .ok (.ifCond .eq 8, 3) := by decide +kernel
theorem dX7_share_22 : decode cX7_share 22 = .ok (.iload_n 1, 1) := by decide +kernel
theorem dX7_share_23 : decode cX7_share 23 = .ok (.iload_n 2, 1) := by decide +kernel
theorem dX7_share_24 : decode cX7_share 24 = .ok (.if_icmp .ne 5, 3) := by decide +kernel
theorem dX7_share_27 : decode cX7_share 27 = .ok (.iconst (-1), 1) := by decide +kernel
theorem dX7_share_28 : decode cX7_share 28 = .ok (.ireturn, 1) := by decide +kernel
theorem dX7_share_29 : decode cX7_share 29 = .ok (.aload_n 0, 1) := by decide +kernel
theorem dX7_share_30 : decode cX7_share 30 = .ok (.getfield 35, 3) := by decide +kernel
theorem dX7_share_33 : decode cX7_share 33 = .ok (.iload_n 1, 1) := by decide +kernel
theorem dX7_share_34 : decode cX7_share 34 = .ok (.iload_n 2, 1) := by decide +kernel
theorem dX7_share_35 : decode cX7_share 35 = .ok (.invokevirtual 171, 3) := by decide +kernel
theorem dX7_share_38 : decode cX7_share 38 = .ok (.ifCond .ne 6, 3) := by decide +kernel
theorem dX7_share_41 : decode cX7_share 41 = .ok (.bipush (-2), 2) := by decide +kernel
theorem dX7_share_43 : decode cX7_share 43 = .ok (.ireturn, 1) := by decide +kernel
theorem dX7_share_44 : decode cX7_share 44 = .ok (.aload_n 0, 1) := by decide +kernel
theorem dX7_share_45 : decode cX7_share 45 = .ok (.getfield 47, 3) := by decide +kernel
theorem dX7_share_48 : decode cX7_share 48 = .ok (.aload_n 0, 1) := by decide +kernel
theorem dX7_share_49 : decode cX7_share 49 = .ok (.getfield 35, 3) := by decide +kernel
theorem dX7_share_52 : decode cX7_share 52 = .ok (.invokevirtual 163, 3) := by decide +kernel
theorem dX7_share_55 : decode cX7_share 55 = .ok (.aload_n 0, 1) := by decide +kernel
theorem dX7_share_56 : decode cX7_share 56 = .ok (.getfield 35, 3) := by decide +kernel
theorem dX7_share_59 : decode cX7_share 59 = .ok (.iload_n 1, 1) := by decide +kernel
theorem dX7_share_60 : decode cX7_share 60 = .ok (.iload_n 2, 1) := by decide +kernel
theorem dX7_share_61 : decode cX7_share 61 = .ok (.invokevirtual 174, 3) := by decide +kernel
theorem dX7_share_64 : decode cX7_share 64 = .ok (.aload_n 0, 1) := by decide +kernel
theorem dX7_share_65 : decode cX7_share 65 = .ok (.getfield 35, 3) := by decide +kernel
theorem dX7_share_68 : decode cX7_share 68 = .ok (.iload_n 1, 1) := by decide +kernel
theorem dX7_share_69 : decode cX7_share 69 = .ok (.invokevirtual 134, 3) := by decide +kernel
theorem dX7_share_72 : decode cX7_share 72 = .ok (.ireturn, 1) := by decide +kernel
set_option maxRecDepth 20000 in
theorem ggX7_give_X2_hasPerson : GoodIn wsX7_give wsX2_hasPerson := goodIn_r _ [8, 9, 88, 89, 90, 91, 92, 93, 94] (by decide +kernel) (by decide +kernel)
set_option maxRecDepth 20000 in
theorem gX7_give_X2_hasPerson : GoodIn wsX7_give (wsV RX7 128 RX2 yX2_hasPerson wsX2_hasPerson) := goodIn_app (goodIn_of _ (by decide +kernel)) ggX7_give_X2_hasPerson
set_option maxRecDepth 20000 in
theorem ggX7_give_X1_canGive : GoodIn wsX7_give wsX1_canGive := goodIn_r _ [14, 15, 16, 17, 13, 18, 19, 20, 21, 22, 23, 24, 25, 26, 27, 28, 29, 30, 31, 32, 33, 34, 35, 36, 37, 38, 39, 40, 95, 96, 97, 98, 99, 100, 101, 102, 103, 88, 89, 90, 91, 92, 93, 94] (by decide +kernel) (by decide +kernel)
set_option maxRecDepth 20000 in
theorem gX7_give_X1_canGive : GoodIn wsX7_give (wsV RX7 177 RX1 yX1_canGive wsX1_canGive) := goodIn_app (goodIn_of _ (by decide +kernel)) ggX7_give_X1_canGive
set_option maxRecDepth 20000 in
theorem ggX7_give_X1_parasolOf : GoodIn wsX7_give wsX1_parasolOf := goodIn_r _ [18, 19, 20, 21, 22, 95, 96, 97, 98, 99, 100, 101, 102, 103] (by decide +kernel) (by decide +kernel)
set_option maxRecDepth 20000 in
theorem gX7_give_X1_parasolOf : GoodIn wsX7_give (wsV RX7 134 RX1 yX1_parasolOf wsX1_parasolOf) := goodIn_app (goodIn_of _ (by decide +kernel)) ggX7_give_X1_parasolOf
set_option maxRecDepth 20000 in
theorem ggX7_give_X4_push : GoodIn wsX7_give wsX4_push := goodIn_r _ [46, 47, 48, 49, 50, 45, 51, 52, 53, 54, 55, 56, 57, 58, 59, 60, 61, 62, 63, 13, 64, 65, 66, 67, 68, 69, 70, 27, 19, 71, 21, 72, 104, 105, 95, 96, 97, 98, 99, 100, 101, 102, 103] (by decide +kernel) (by decide +kernel)
set_option maxRecDepth 20000 in
theorem gX7_give_X4_push : GoodIn wsX7_give (wsV RX7 163 RX4 yX4_push wsX4_push) := goodIn_app (goodIn_of _ (by decide +kernel)) ggX7_give_X4_push
set_option maxRecDepth 20000 in
theorem ggX7_give_X1_doGive : GoodIn wsX7_give wsX1_doGive := goodIn_r _ [76, 19, 77, 21, 78, 95, 96, 97, 98, 99, 100, 101, 102, 103] (by decide +kernel) (by decide +kernel)
set_option maxRecDepth 20000 in
theorem gX7_give_X1_doGive : GoodIn wsX7_give (wsV RX7 180 RX1 yX1_doGive wsX1_doGive) := goodIn_app (goodIn_of _ (by decide +kernel)) ggX7_give_X1_doGive
theorem dX7_give_0 : decode cX7_give 0 = .ok (.aload_n 0, 1) := by decide +kernel
theorem dX7_give_1 : decode cX7_give 1 = .ok (.getfield 26, 3) := by decide +kernel
theorem dX7_give_4 : decode cX7_give 4 = .ok (.iload_n 1, 1) := by decide +kernel
theorem dX7_give_5 : decode cX7_give 5 = .ok (.invokevirtual 128, 3) := by decide +kernel
theorem dX7_give_8 : decode cX7_give 8 = .ok (.ifCond .ne 5, 3) := by decide +kernel
theorem dX7_give_11 : decode cX7_give 11 = .ok (.iconst (-1), 1) := by decide +kernel
theorem dX7_give_12 : decode cX7_give 12 = .ok (.ireturn, 1) := by decide +kernel
theorem dX7_give_13 : decode cX7_give 13 = .ok (.aload_n 0, 1) := by decide +kernel
theorem dX7_give_14 : decode cX7_give 14 = .ok (.getfield 35, 3) := by decide +kernel
theorem dX7_give_17 : decode cX7_give 17 = .ok (.iload_n 1, 1) := by decide +kernel
theorem dX7_give_18 : decode cX7_give 18 = .ok (.invokevirtual 177, 3) := by decide +kernel
theorem dX7_give_21 : decode cX7_give 21 = .ok (.ifCond .ne 6, 3) := by decide +kernel
theorem dX7_give_24 : decode cX7_give 24 = .ok (.bipush (-2), 2) := by decide +kernel
theorem dX7_give_26 : decode cX7_give 26 = .ok (.ireturn, 1) := by decide +kernel
theorem dX7_give_27 : decode cX7_give 27 = .ok (.aload_n 0, 1) := by decide +kernel
theorem dX7_give_28 : decode cX7_give 28 = .ok (.getfield 35, 3) := by decide +kernel
theorem dX7_give_31 : decode cX7_give 31 = .ok (.iload_n 1, 1) := by decide +kernel
theorem dX7_give_32 : decode cX7_give 32 = .ok (.invokevirtual 134, 3) := by decide +kernel
theorem dX7_give_35 : decode cX7_give 35 = .ok (.istore_n 2, 1) := by decide +kernel
theorem dX7_give_36 : decode cX7_give 36 = .ok (.aload_n 0, 1) := by decide +kernel
theorem dX7_give_37 : decode cX7_give 37 = .ok (.getfield 47, 3) := by decide +kernel
theorem dX7_give_40 : decode cX7_give 40 = .ok (.aload_n 0, 1) := by decide +kernel
theorem dX7_give_41 : decode cX7_give 41 = .ok (.getfield 35, 3) := by decide +kernel
theorem dX7_give_44 : decode cX7_give 44 = .ok (.invokevirtual 163, 3) := by decide +kernel
theorem dX7_give_47 : decode cX7_give 47 = .ok (.aload_n 0, 1) := by decide +kernel
theorem dX7_give_48 : decode cX7_give 48 = .ok (.getfield 35, 3) := by decide +kernel
theorem dX7_give_51 : decode cX7_give 51 = .ok (.iload_n 1, 1) := by decide +kernel
theorem dX7_give_52 : decode cX7_give 52 = .ok (.invokevirtual 180, 3) := by decide +kernel
theorem dX7_give_55 : decode cX7_give 55 = .ok (.iload_n 2, 1) := by decide +kernel
theorem dX7_give_56 : decode cX7_give 56 = .ok (.ireturn, 1) := by decide +kernel
set_option maxRecDepth 20000 in
theorem ggX7_walk_X2_hasPerson : GoodIn wsX7_walk wsX2_hasPerson := goodIn_r _ [8, 9, 96, 97, 98, 99, 100, 101, 102] (by decide +kernel) (by decide +kernel)
set_option maxRecDepth 20000 in
theorem gX7_walk_X2_hasPerson : GoodIn wsX7_walk (wsV RX7 128 RX2 yX2_hasPerson wsX2_hasPerson) := goodIn_app (goodIn_of _ (by decide +kernel)) ggX7_walk_X2_hasPerson
set_option maxRecDepth 20000 in
theorem ggX7_walk_X1_canWalk : GoodIn wsX7_walk wsX1_canWalk := goodIn_r _ [14, 15, 16, 17, 18, 13, 19, 20, 21, 22, 23, 24, 25, 26, 27, 28, 29, 30, 31, 32, 33, 34, 35, 36, 37, 7, 38, 39, 103, 104, 105, 106, 107, 108, 109, 110, 111, 96, 97, 98, 99, 100, 101, 102] (by decide +kernel) (by decide +kernel)
set_option maxRecDepth 20000 in
theorem gX7_walk_X1_canWalk : GoodIn wsX7_walk (wsV RX7 184 RX1 yX1_canWalk wsX1_canWalk) := goodIn_app (goodIn_of _ (by decide +kernel)) ggX7_walk_X1_canWalk
set_option maxRecDepth 20000 in
theorem ggX7_walk_X4_push : GoodIn wsX7_walk wsX4_push := goodIn_r _ [44, 45, 46, 47, 48, 43, 49, 50, 51, 52, 53, 54, 55, 56, 57, 58, 59, 60, 61, 13, 62, 63, 64, 20, 65, 66, 67, 32, 68, 69, 22, 70, 112, 113, 103, 104, 105, 106, 107, 108, 109, 110, 111] (by decide +kernel) (by decide +kernel)
set_option maxRecDepth 20000 in
theorem gX7_walk_X4_push : GoodIn wsX7_walk (wsV RX7 163 RX4 yX4_push wsX4_push) := goodIn_app (goodIn_of _ (by decide +kernel)) ggX7_walk_X4_push
set_option maxRecDepth 20000 in
theorem ggX7_walk_X1_doWalk : GoodIn wsX7_walk wsX1_doWalk := goodIn_r _ [74, 15, 75, 32, 20, 24, 25, 26, 13, 27, 28, 29, 30, 31, 33, 22, 34, 76, 77, 78, 79, 68, 80, 81, 82, 83, 21, 23, 84, 85, 103, 104, 105, 106, 107, 108, 109, 110, 111, 96, 97, 98, 99, 100, 101, 102] (by decide +kernel) (by decide +kernel)
set_option maxRecDepth 20000 in
theorem gX7_walk_X1_doWalk : GoodIn wsX7_walk (wsV RX7 187 RX1 yX1_doWalk wsX1_doWalk) := goodIn_app (goodIn_of _ (by decide +kernel)) ggX7_walk_X1_doWalk
set_option maxRecDepth 20000 in
theorem ggX7_walk_X1_squareOf : GoodIn wsX7_walk wsX1_squareOf := goodIn_r _ [31, 32, 33, 22, 34, 103, 104, 105, 106, 107, 108, 109, 110, 111] (by decide +kernel) (by decide +kernel)
set_option maxRecDepth 20000 in
theorem gX7_walk_X1_squareOf : GoodIn wsX7_walk (wsV RX7 131 RX1 yX1_squareOf wsX1_squareOf) := goodIn_app (goodIn_of _ (by decide +kernel)) ggX7_walk_X1_squareOf
theorem dX7_walk_0 : decode cX7_walk 0 = .ok (.aload_n 0, 1) := by decide +kernel
theorem dX7_walk_1 : decode cX7_walk 1 = .ok (.getfield 26, 3) := by decide +kernel
theorem dX7_walk_4 : decode cX7_walk 4 = .ok (.iload_n 1, 1) := by decide +kernel
theorem dX7_walk_5 : decode cX7_walk 5 = .ok (.invokevirtual 128, 3) := by decide +kernel
theorem dX7_walk_8 : decode cX7_walk 8 = .ok (.ifCond .eq 12, 3) := by decide +kernel
theorem dX7_walk_11 : decode cX7_walk 11 = .ok (.iload_n 2, 1) := by decide +kernel
theorem dX7_walk_12 : decode cX7_walk 12 = .ok (.ifCond .lt 8, 3) := by decide +kernel
theorem dX7_walk_15 : decode cX7_walk 15 = .ok (.iload_n 2, 1) := by decide +kernel
theorem dX7_walk_16 : decode cX7_walk 16 = .ok (.iconst 1, 1) := by decide +kernel
theorem dX7_walk_17 : decode cX7_walk 17 = .ok (.if_icmp .le 5, 3) := by decide +kernel
theorem dX7_walk_20 : decode cX7_walk 20 = .ok (.iconst (-1), 1) := by decide +kernel
theorem dX7_walk_21 : decode cX7_walk 21 = .ok (.ireturn, 1) := by decide +kernel
theorem dX7_walk_22 : decode cX7_walk 22 = .ok (.aload_n 0, 1) := by decide +kernel
theorem dX7_walk_23 : decode cX7_walk 23 = .ok (.getfield 35, 3) := by decide +kernel
theorem dX7_walk_26 : decode cX7_walk 26 = .ok (.iload_n 1, 1) := by decide +kernel
theorem dX7_walk_27 : decode cX7_walk 27 = .ok (.iload_n 2, 1) := by decide +kernel
theorem dX7_walk_28 : decode cX7_walk 28 = .ok (.invokevirtual 184, 3) := by decide +kernel
theorem dX7_walk_31 : decode cX7_walk 31 = .ok (.ifCond .ne 6, 3) := by decide +kernel
theorem dX7_walk_34 : decode cX7_walk 34 = .ok (.bipush (-2), 2) := by decide +kernel
theorem dX7_walk_36 : decode cX7_walk 36 = .ok (.ireturn, 1) := by decide +kernel
theorem dX7_walk_37 : decode cX7_walk 37 = .ok (.aload_n 0, 1) := by decide +kernel
theorem dX7_walk_38 : decode cX7_walk 38 = .ok (.getfield 47, 3) := by decide +kernel
theorem dX7_walk_41 : decode cX7_walk 41 = .ok (.aload_n 0, 1) := by decide +kernel
theorem dX7_walk_42 : decode cX7_walk 42 = .ok (.getfield 35, 3) := by decide +kernel
theorem dX7_walk_45 : decode cX7_walk 45 = .ok (.invokevirtual 163, 3) := by decide +kernel
theorem dX7_walk_48 : decode cX7_walk 48 = .ok (.aload_n 0, 1) := by decide +kernel
theorem dX7_walk_49 : decode cX7_walk 49 = .ok (.getfield 35, 3) := by decide +kernel
theorem dX7_walk_52 : decode cX7_walk 52 = .ok (.iload_n 1, 1) := by decide +kernel
theorem dX7_walk_53 : decode cX7_walk 53 = .ok (.iload_n 2, 1) := by decide +kernel
theorem dX7_walk_54 : decode cX7_walk 54 = .ok (.invokevirtual 187, 3) := by decide +kernel
theorem dX7_walk_57 : decode cX7_walk 57 = .ok (.aload_n 0, 1) := by decide +kernel
theorem dX7_walk_58 : decode cX7_walk 58 = .ok (.getfield 35, 3) := by decide +kernel
theorem dX7_walk_61 : decode cX7_walk 61 = .ok (.iload_n 1, 1) := by decide +kernel
theorem dX7_walk_62 : decode cX7_walk 62 = .ok (.invokevirtual 131, 3) := by decide +kernel
theorem dX7_walk_65 : decode cX7_walk 65 = .ok (.ireturn, 1) := by decide +kernel
set_option maxRecDepth 20000 in
theorem ggX7_mend_X2_hasParasol : GoodIn wsX7_mend wsX2_hasParasol := goodIn_r _ [8, 9, 80, 81, 82, 83, 84, 85, 86] (by decide +kernel) (by decide +kernel)
set_option maxRecDepth 20000 in
theorem gX7_mend_X2_hasParasol : GoodIn wsX7_mend (wsV RX7 108 RX2 yX2_hasParasol wsX2_hasParasol) := goodIn_app (goodIn_of _ (by decide +kernel)) ggX7_mend_X2_hasParasol
set_option maxRecDepth 20000 in
theorem ggX7_mend_X1_isInStand : GoodIn wsX7_mend wsX1_isInStand := goodIn_r _ [14, 15, 16, 17, 13, 18, 19, 20, 21, 22, 23, 24, 25, 26, 27, 28, 87, 88, 89, 90, 91, 92, 93, 94, 95, 80, 81, 82, 83, 84, 85, 86] (by decide +kernel) (by decide +kernel)
set_option maxRecDepth 20000 in
theorem gX7_mend_X1_isInStand : GoodIn wsX7_mend (wsV RX7 190 RX1 yX1_isInStand wsX1_isInStand) := goodIn_app (goodIn_of _ (by decide +kernel)) ggX7_mend_X1_isInStand
set_option maxRecDepth 20000 in
theorem ggX7_mend_X1_wornOf : GoodIn wsX7_mend wsX1_wornOf := goodIn_r _ [32, 33, 26, 27, 28, 87, 88, 89, 90, 91, 92, 93, 94, 95] (by decide +kernel) (by decide +kernel)
set_option maxRecDepth 20000 in
theorem gX7_mend_X1_wornOf : GoodIn wsX7_mend (wsV RX7 119 RX1 yX1_wornOf wsX1_wornOf) := goodIn_app (goodIn_of _ (by decide +kernel)) ggX7_mend_X1_wornOf
set_option maxRecDepth 20000 in
theorem ggX7_mend_X4_push : GoodIn wsX7_mend wsX4_push := goodIn_r _ [38, 39, 40, 41, 42, 37, 43, 44, 45, 46, 47, 48, 49, 50, 51, 52, 53, 54, 55, 13, 56, 57, 58, 59, 60, 61, 33, 62, 25, 63, 27, 64, 96, 97, 87, 88, 89, 90, 91, 92, 93, 94, 95] (by decide +kernel) (by decide +kernel)
set_option maxRecDepth 20000 in
theorem gX7_mend_X4_push : GoodIn wsX7_mend (wsV RX7 163 RX4 yX4_push wsX4_push) := goodIn_app (goodIn_of _ (by decide +kernel)) ggX7_mend_X4_push
set_option maxRecDepth 20000 in
theorem ggX7_mend_X1_doMend : GoodIn wsX7_mend wsX1_doMend := goodIn_r _ [68, 33, 69, 27, 70, 87, 88, 89, 90, 91, 92, 93, 94, 95] (by decide +kernel) (by decide +kernel)
set_option maxRecDepth 20000 in
theorem gX7_mend_X1_doMend : GoodIn wsX7_mend (wsV RX7 193 RX1 yX1_doMend wsX1_doMend) := goodIn_app (goodIn_of _ (by decide +kernel)) ggX7_mend_X1_doMend
theorem dX7_mend_0 : decode cX7_mend 0 = .ok (.aload_n 0, 1) := by decide +kernel
theorem dX7_mend_1 : decode cX7_mend 1 = .ok (.getfield 26, 3) := by decide +kernel
theorem dX7_mend_4 : decode cX7_mend 4 = .ok (.iload_n 1, 1) := by decide +kernel
theorem dX7_mend_5 : decode cX7_mend 5 = .ok (.invokevirtual 108, 3) := by decide +kernel
theorem dX7_mend_8 : decode cX7_mend 8 = .ok (.ifCond .ne 5, 3) := by decide +kernel
theorem dX7_mend_11 : decode cX7_mend 11 = .ok (.iconst (-1), 1) := by decide +kernel
theorem dX7_mend_12 : decode cX7_mend 12 = .ok (.ireturn, 1) := by decide +kernel
theorem dX7_mend_13 : decode cX7_mend 13 = .ok (.aload_n 0, 1) := by decide +kernel
theorem dX7_mend_14 : decode cX7_mend 14 = .ok (.getfield 35, 3) := by decide +kernel
theorem dX7_mend_17 : decode cX7_mend 17 = .ok (.iload_n 1, 1) := by decide +kernel
theorem dX7_mend_18 : decode cX7_mend 18 = .ok (.invokevirtual 190, 3) := by decide +kernel
theorem dX7_mend_21 : decode cX7_mend 21 = .ok (.ifCond .ne 6, 3) := by decide +kernel
theorem dX7_mend_24 : decode cX7_mend 24 = .ok (.bipush (-2), 2) := by decide +kernel
theorem dX7_mend_26 : decode cX7_mend 26 = .ok (.ireturn, 1) := by decide +kernel
theorem dX7_mend_27 : decode cX7_mend 27 = .ok (.aload_n 0, 1) := by decide +kernel
theorem dX7_mend_28 : decode cX7_mend 28 = .ok (.getfield 35, 3) := by decide +kernel
theorem dX7_mend_31 : decode cX7_mend 31 = .ok (.iload_n 1, 1) := by decide +kernel
theorem dX7_mend_32 : decode cX7_mend 32 = .ok (.invokevirtual 119, 3) := by decide +kernel
theorem dX7_mend_35 : decode cX7_mend 35 = .ok (.istore_n 2, 1) := by decide +kernel
theorem dX7_mend_36 : decode cX7_mend 36 = .ok (.aload_n 0, 1) := by decide +kernel
theorem dX7_mend_37 : decode cX7_mend 37 = .ok (.getfield 47, 3) := by decide +kernel
theorem dX7_mend_40 : decode cX7_mend 40 = .ok (.aload_n 0, 1) := by decide +kernel
theorem dX7_mend_41 : decode cX7_mend 41 = .ok (.getfield 35, 3) := by decide +kernel
theorem dX7_mend_44 : decode cX7_mend 44 = .ok (.invokevirtual 163, 3) := by decide +kernel
theorem dX7_mend_47 : decode cX7_mend 47 = .ok (.aload_n 0, 1) := by decide +kernel
theorem dX7_mend_48 : decode cX7_mend 48 = .ok (.getfield 35, 3) := by decide +kernel
theorem dX7_mend_51 : decode cX7_mend 51 = .ok (.iload_n 1, 1) := by decide +kernel
theorem dX7_mend_52 : decode cX7_mend 52 = .ok (.invokevirtual 193, 3) := by decide +kernel
theorem dX7_mend_55 : decode cX7_mend 55 = .ok (.iload_n 2, 1) := by decide +kernel
theorem dX7_mend_56 : decode cX7_mend 56 = .ok (.ireturn, 1) := by decide +kernel
set_option maxRecDepth 20000 in
theorem ggX7_pass_X4_push : GoodIn wsX7_pass wsX4_push := goodIn_r _ [8, 9, 10, 11, 12, 7, 13, 14, 15, 16, 17, 18, 19, 20, 21, 22, 23, 24, 25, 26, 27, 28, 29, 30, 31, 32, 33, 34, 35, 36, 37, 38, 176, 177, 167, 168, 169, 170, 171, 172, 173, 174, 175] (by decide +kernel) (by decide +kernel)
set_option maxRecDepth 20000 in
theorem gX7_pass_X4_push : GoodIn wsX7_pass (wsV RX7 163 RX4 yX4_push wsX4_push) := goodIn_app (goodIn_of _ (by decide +kernel)) ggX7_pass_X4_push
set_option maxRecDepth 20000 in
theorem ggX7_pass_X1_goOn : GoodIn wsX7_pass wsX1_goOn := goodIn_r _ [42, 29, 28, 43, 44, 45, 26, 46, 47, 48, 31, 49, 50, 51, 52, 30, 53, 37, 54, 55, 56, 57, 58, 35, 59, 60, 61, 62, 63, 64, 65, 66, 67, 68, 69, 70, 71, 72, 73, 34, 74, 75, 76, 77, 33, 78, 79, 80, 81, 32, 82, 83, 84, 85, 86, 87, 88, 89, 90, 91, 92, 93, 94, 95, 96, 97, 98, 99, 100, 101, 102, 103, 104, 105, 106, 107, 108, 109, 110, 111, 112, 113, 114, 115, 116, 117, 118, 119, 120, 121, 122, 123, 124, 125, 126, 127, 128, 129, 130, 131, 132, 133, 134, 135, 136, 137, 138, 139, 140, 141, 142, 143, 144, 145, 146, 147, 148, 149, 150, 151, 152, 153, 154, 155, 156, 157, 167, 168, 169, 170, 171, 172, 173, 174, 175, 178, 179, 180, 181, 182, 183, 184] (by decide +kernel) (by decide +kernel)
set_option maxRecDepth 20000 in
theorem gX7_pass_X1_goOn : GoodIn wsX7_pass (wsV RX7 196 RX1 yX1_goOn wsX1_goOn) := goodIn_app (goodIn_of _ (by decide +kernel)) ggX7_pass_X1_goOn
theorem dX7_pass_0 : decode cX7_pass 0 = .ok (.iload_n 1, 1) := by decide +kernel
theorem dX7_pass_1 : decode cX7_pass 1 = .ok (.iconst 1, 1) := by decide +kernel
theorem dX7_pass_2 : decode cX7_pass 2 = .ok (.if_icmp .lt 9, 3) := by decide +kernel
theorem dX7_pass_5 : decode cX7_pass 5 = .ok (.iload_n 1, 1) := by decide +kernel
theorem dX7_pass_6 : decode cX7_pass 6 = .ok (.bipush 24, 2) := by decide +kernel
theorem dX7_pass_8 : decode cX7_pass 8 = .ok (.if_icmp .le 5, 3) := by decide +kernel
theorem dX7_pass_11 : decode cX7_pass 11 = .ok (.iconst (-1), 1) := by decide +kernel
theorem dX7_pass_12 : decode cX7_pass 12 = .ok (.ireturn, 1) := by decide +kernel
theorem dX7_pass_13 : decode cX7_pass 13 = .ok (.aload_n 0, 1) := by decide +kernel
theorem dX7_pass_14 : decode cX7_pass 14 = .ok (.getfield 47, 3) := by decide +kernel
theorem dX7_pass_17 : decode cX7_pass 17 = .ok (.aload_n 0, 1) := by decide +kernel
theorem dX7_pass_18 : decode cX7_pass 18 = .ok (.getfield 35, 3) := by decide +kernel
theorem dX7_pass_21 : decode cX7_pass 21 = .ok (.invokevirtual 163, 3) := by decide +kernel
theorem dX7_pass_24 : decode cX7_pass 24 = .ok (.aload_n 0, 1) := by decide +kernel
theorem dX7_pass_25 : decode cX7_pass 25 = .ok (.getfield 35, 3) := by decide +kernel
theorem dX7_pass_28 : decode cX7_pass 28 = .ok (.iload_n 1, 1) := by decide +kernel
theorem dX7_pass_29 : decode cX7_pass 29 = .ok (.invokevirtual 196, 3) := by decide +kernel
theorem dX7_pass_32 : decode cX7_pass 32 = .ok (.aload_n 0, 1) := by decide +kernel
theorem dX7_pass_33 : decode cX7_pass 33 = .ok (.getfield 35, 3) := by decide +kernel
theorem dX7_pass_36 : decode cX7_pass 36 = .ok (.getfield 199, 3) := by decide +kernel
theorem dX7_pass_39 : decode cX7_pass 39 = .ok (.ireturn, 1) := by decide +kernel
set_option maxRecDepth 20000 in
theorem ggX7_undo_X4_isEmpty : GoodIn wsX7_undo wsX4_isEmpty := goodIn_r _ [8, 9, 44, 45] (by decide +kernel) (by decide +kernel)
set_option maxRecDepth 20000 in
theorem gX7_undo_X4_isEmpty : GoodIn wsX7_undo (wsV RX7 202 RX4 yX4_isEmpty wsX4_isEmpty) := goodIn_app (goodIn_of _ (by decide +kernel)) ggX7_undo_X4_isEmpty
set_option maxRecDepth 20000 in
theorem ggX7_undo_X4_popInto : GoodIn wsX7_undo wsX4_popInto := goodIn_r _ [13, 9, 14, 15, 16, 7, 17, 18, 19, 20, 21, 22, 23, 24, 25, 26, 27, 28, 29, 30, 31, 32, 33, 34, 44, 45, 46, 47, 48, 49, 50, 51, 52, 53, 54] (by decide +kernel) (by decide +kernel)
set_option maxRecDepth 20000 in
theorem gX7_undo_X4_popInto : GoodIn wsX7_undo (wsV RX7 205 RX4 yX4_popInto wsX4_popInto) := goodIn_app (goodIn_of _ (by decide +kernel)) ggX7_undo_X4_popInto
theorem dX7_undo_0 : decode cX7_undo 0 = .ok (.aload_n 0, 1) := by decide +kernel
theorem dX7_undo_1 : decode cX7_undo 1 = .ok (.getfield 47, 3) := by decide +kernel
theorem dX7_undo_4 : decode cX7_undo 4 = .ok (.invokevirtual 202, 3) := by decide +kernel
theorem dX7_undo_7 : decode cX7_undo 7 = .ok (.ifCond .eq 6, 3) := by decide +kernel
theorem dX7_undo_10 : decode cX7_undo 10 = .ok (.bipush (-2), 2) := by decide +kernel
theorem dX7_undo_12 : decode cX7_undo 12 = .ok (.ireturn, 1) := by decide +kernel
theorem dX7_undo_13 : decode cX7_undo 13 = .ok (.aload_n 0, 1) := by decide +kernel
theorem dX7_undo_14 : decode cX7_undo 14 = .ok (.getfield 47, 3) := by decide +kernel
theorem dX7_undo_17 : decode cX7_undo 17 = .ok (.aload_n 0, 1) := by decide +kernel
theorem dX7_undo_18 : decode cX7_undo 18 = .ok (.getfield 35, 3) := by decide +kernel
theorem dX7_undo_21 : decode cX7_undo 21 = .ok (.invokevirtual 205, 3) := by decide +kernel
theorem dX7_undo_24 : decode cX7_undo 24 = .ok (.aload_n 0, 1) := by decide +kernel
theorem dX7_undo_25 : decode cX7_undo 25 = .ok (.getfield 47, 3) := by decide +kernel
theorem dX7_undo_28 : decode cX7_undo 28 = .ok (.getfield 208, 3) := by decide +kernel
theorem dX7_undo_31 : decode cX7_undo 31 = .ok (.ireturn, 1) := by decide +kernel
set_option maxRecDepth 20000 in
theorem ggX7_until_X2_hasParasol : GoodIn wsX7_until wsX2_hasParasol := goodIn_r _ [7, 8, 56, 57, 58, 59, 60, 61, 62] (by decide +kernel) (by decide +kernel)
set_option maxRecDepth 20000 in
theorem gX7_until_X2_hasParasol : GoodIn wsX7_until (wsV RX7 108 RX2 yX2_hasParasol wsX2_hasParasol) := goodIn_app (goodIn_of _ (by decide +kernel)) ggX7_until_X2_hasParasol
set_option maxRecDepth 20000 in
theorem ggX7_until_X7_isHour : GoodIn wsX7_until wsX7_isHour := goodIn_r _ [12] (by decide +kernel) (by decide +kernel)
set_option maxRecDepth 20000 in
theorem gX7_until_X7_isHour : GoodIn wsX7_until (va_wsS RX7 211 yX7_isHour wsX7_isHour) := goodIn_app (goodIn_of _ (by decide +kernel)) ggX7_until_X7_isHour
set_option maxRecDepth 20000 in
theorem ggX7_until_X1_hoursUntil : GoodIn wsX7_until wsX1_hoursUntil := goodIn_r _ [17, 18, 19, 20, 16, 21, 22, 23, 24, 25, 26, 27, 11, 28, 29, 30, 31, 32, 33, 34, 35, 36, 37, 6, 38, 39, 40, 41, 42, 43, 44, 45, 46, 63, 64, 65, 66, 67, 68, 69, 70, 71, 56, 57, 58, 59, 60, 61, 62] (by decide +kernel) (by decide +kernel)
set_option maxRecDepth 20000 in
theorem gX7_until_X1_hoursUntil : GoodIn wsX7_until (wsV RX7 214 RX1 yX1_hoursUntil wsX1_hoursUntil) := goodIn_app (goodIn_of _ (by decide +kernel)) ggX7_until_X1_hoursUntil
theorem dX7_until_0 : decode cX7_until 0 = .ok (.aload_n 0, 1) := by decide +kernel
theorem dX7_until_1 : decode cX7_until 1 = .ok (.getfield 26, 3) := by decide +kernel
theorem dX7_until_4 : decode cX7_until 4 = .ok (.iload_n 1, 1) := by decide +kernel
theorem dX7_until_5 : decode cX7_until 5 = .ok (.invokevirtual 108, 3) := by decide +kernel
theorem dX7_until_8 : decode cX7_until 8 = .ok (.ifCond .eq 10, 3) := by decide +kernel
theorem dX7_until_11 : decode cX7_until 11 = .ok (.iload_n 2, 1) := by decide +kernel
theorem dX7_until_12 : decode cX7_until 12 = .ok (.invokestatic 211, 3) := by decide +kernel
theorem dX7_until_15 : decode cX7_until 15 = .ok (.ifCond .ne 5, 3) := by decide +kernel
theorem dX7_until_18 : decode cX7_until 18 = .ok (.iconst (-1), 1) := by decide +kernel
theorem dX7_until_19 : decode cX7_until 19 = .ok (.ireturn, 1) := by decide +kernel
theorem dX7_until_20 : decode cX7_until 20 = .ok (.aload_n 0, 1) := by decide +kernel
theorem dX7_until_21 : decode cX7_until 21 = .ok (.getfield 35, 3) := by decide +kernel
theorem dX7_until_24 : decode cX7_until 24 = .ok (.iload_n 1, 1) := by decide +kernel
theorem dX7_until_25 : decode cX7_until 25 = .ok (.iload_n 2, 1) := by decide +kernel
theorem dX7_until_26 : decode cX7_until 26 = .ok (.invokevirtual 214, 3) := by decide +kernel
theorem dX7_until_29 : decode cX7_until 29 = .ok (.ireturn, 1) := by decide +kernel
set_option maxRecDepth 20000 in
theorem ggX7_agree_X2_hasParasol : GoodIn wsX7_agree wsX2_hasParasol := goodIn_r _ [7, 8, 49, 50, 51, 52, 53, 54, 55] (by decide +kernel) (by decide +kernel)
set_option maxRecDepth 20000 in
theorem gX7_agree_X2_hasParasol : GoodIn wsX7_agree (wsV RX7 108 RX2 yX2_hasParasol wsX2_hasParasol) := goodIn_app (goodIn_of _ (by decide +kernel)) ggX7_agree_X2_hasParasol
set_option maxRecDepth 20000 in
theorem ggX7_agree_X1_hourBehind : GoodIn wsX7_agree wsX1_hourBehind := goodIn_r _ [13, 14, 15, 16, 12, 17, 18, 19, 20, 21, 22, 23, 24, 25, 26, 27, 28, 29, 30, 6, 31, 32, 33, 34, 35, 36, 37, 38, 39, 56, 57, 58, 59, 60, 61, 62, 63, 64, 49, 50, 51, 52, 53, 54, 55] (by decide +kernel) (by decide +kernel)
set_option maxRecDepth 20000 in
theorem gX7_agree_X1_hourBehind : GoodIn wsX7_agree (wsV RX7 217 RX1 yX1_hourBehind wsX1_hourBehind) := goodIn_app (goodIn_of _ (by decide +kernel)) ggX7_agree_X1_hourBehind
theorem dX7_agree_0 : decode cX7_agree 0 = .ok (.aload_n 0, 1) := by decide +kernel
theorem dX7_agree_1 : decode cX7_agree 1 = .ok (.getfield 26, 3) := by decide +kernel
theorem dX7_agree_4 : decode cX7_agree 4 = .ok (.iload_n 1, 1) := by decide +kernel
theorem dX7_agree_5 : decode cX7_agree 5 = .ok (.invokevirtual 108, 3) := by decide +kernel
theorem dX7_agree_8 : decode cX7_agree 8 = .ok (.ifCond .eq 19, 3) := by decide +kernel
theorem dX7_agree_11 : decode cX7_agree 11 = .ok (.aload_n 0, 1) := by decide +kernel
theorem dX7_agree_12 : decode cX7_agree 12 = .ok (.getfield 26, 3) := by decide +kernel
theorem dX7_agree_15 : decode cX7_agree 15 = .ok (.iload_n 2, 1) := by decide +kernel
theorem dX7_agree_16 : decode cX7_agree 16 = .ok (.invokevirtual 108, 3) := by decide +kernel
theorem dX7_agree_19 : decode cX7_agree 19 = .ok (.ifCond .eq 8, 3) := by decide +kernel
theorem dX7_agree_22 : decode cX7_agree 22 = .ok (.iload_n 1, 1) := by decide +kernel
theorem dX7_agree_23 : decode cX7_agree 23 = .ok (.iload_n 2, 1) := by decide +kernel
theorem dX7_agree_24 : decode cX7_agree 24 = .ok (.if_icmp .ne 5, 3) := by decide +kernel
theorem dX7_agree_27 : decode cX7_agree 27 = .ok (.iconst (-1), 1) := by decide +kernel
theorem dX7_agree_28 : decode cX7_agree 28 = .ok (.ireturn, 1) := by decide +kernel
theorem dX7_agree_29 : decode cX7_agree 29 = .ok (.iconst 0, 1) := by decide +kernel
theorem dX7_agree_30 : decode cX7_agree 30 = .ok (.istore_n 3, 1) := by decide +kernel
theorem dX7_agree_31 : decode cX7_agree 31 = .ok (.iload_n 3, 1) := by decide +kernel
theorem dX7_agree_32 : decode cX7_agree 32 = .ok (.bipush 48, 2) := by decide +kernel
theorem dX7_agree_34 : decode cX7_agree 34 = .ok (.if_icmp .gt 32, 3) := by decide +kernel
theorem dX7_agree_37 : decode cX7_agree 37 = .ok (.aload_n 0, 1) := by decide +kernel
theorem dX7_agree_38 : decode cX7_agree 38 = .ok (.getfield 35, 3) := by decide +kernel
theorem dX7_agree_41 : decode cX7_agree 41 = .ok (.iload_n 1, 1) := by decide +kernel
theorem dX7_agree_42 : decode cX7_agree 42 = .ok (.iload_n 3, 1) := by decide +kernel
theorem dX7_agree_43 : decode cX7_agree 43 = .ok (.invokevirtual 217, 3) := by decide +kernel
theorem dX7_agree_46 : decode cX7_agree 46 = .ok (.aload_n 0, 1) := by decide +kernel
theorem dX7_agree_47 : decode cX7_agree 47 = .ok (.getfield 35, 3) := by decide +kernel
theorem dX7_agree_50 : decode cX7_agree 50 = .ok (.iload_n 2, 1) := by decide +kernel
theorem dX7_agree_51 : decode cX7_agree 51 = .ok (.iload_n 3, 1) := by decide +kernel
theorem dX7_agree_52 : decode cX7_agree 52 = .ok (.invokevirtual 217, 3) := by decide +kernel
theorem dX7_agree_55 : decode cX7_agree 55 = .ok (.if_icmp .ne 5, 3) := by decide +kernel
theorem dX7_agree_58 : decode cX7_agree 58 = .ok (.iload_n 3, 1) := by decide +kernel
theorem dX7_agree_59 : decode cX7_agree 59 = .ok (.ireturn, 1) := by decide +kernel
theorem dX7_agree_60 : decode cX7_agree 60 = .ok (.iinc 3 1, 3) := by decide +kernel
theorem dX7_agree_63 : decode cX7_agree 63 = .ok (.goto (-32), 3) := by decide +kernel
theorem dX7_agree_66 : decode cX7_agree 66 = .ok (.bipush (-4), 2) := by decide +kernel
theorem dX7_agree_68 : decode cX7_agree 68 = .ok (.ireturn, 1) := by decide +kernel
set_option maxRecDepth 20000 in
theorem ggX7_deal_X2_hasPerson : GoodIn wsX7_deal wsX2_hasPerson := goodIn_r _ [9, 10, 108, 109, 110, 111, 112, 113, 114] (by decide +kernel) (by decide +kernel)
set_option maxRecDepth 20000 in
theorem gX7_deal_X2_hasPerson : GoodIn wsX7_deal (wsV RX7 128 RX2 yX2_hasPerson wsX2_hasPerson) := goodIn_app (goodIn_of _ (by decide +kernel)) ggX7_deal_X2_hasPerson
set_option maxRecDepth 20000 in
theorem ggX7_deal_X0_findBest : GoodIn wsX7_deal wsX0_findBest := goodIn_r _ [15, 16, 17, 18, 19, 20, 21, 22, 23, 24, 25, 26, 14, 27, 28, 29, 30, 31, 32, 33, 34, 35, 36, 37, 38, 39, 40, 41, 42, 43, 44, 45, 46, 47, 48, 49, 50, 51, 52, 53, 54, 55, 56, 57, 58, 59, 60, 61, 62, 63, 64, 8, 65, 66, 67, 68, 69, 70, 71, 72, 73, 74, 75, 76, 77, 78, 79, 80, 81, 82, 83, 84, 85, 86, 87, 88, 89, 90, 104, 105, 106, 107, 115, 116, 117, 118, 119, 120, 121, 122, 123, 108, 109, 110, 111, 112, 113, 114] (by decide +kernel) (by decide +kernel)
set_option maxRecDepth 20000 in
theorem gX7_deal_X0_findBest : GoodIn wsX7_deal (wsV RX7 220 RX0 yX0_findBest wsX0_findBest) := goodIn_app (goodIn_of _ (by decide +kernel)) ggX7_deal_X0_findBest
set_option maxRecDepth 20000 in
theorem ggX7_deal_X0_bestOf : GoodIn wsX7_deal wsX0_bestOf := goodIn_r _ [94, 81, 23, 21, 24, 104, 105, 106, 107] (by decide +kernel) (by decide +kernel)
set_option maxRecDepth 20000 in
theorem gX7_deal_X0_bestOf : GoodIn wsX7_deal (wsV RX7 226 RX0 yX0_bestOf wsX0_bestOf) := goodIn_app (goodIn_of _ (by decide +kernel)) ggX7_deal_X0_bestOf
theorem dX7_deal_0 : decode cX7_deal 0 = .ok (.iload_n 1, 1) := by decide +kernel
theorem dX7_deal_1 : decode cX7_deal 1 = .ok (.iconst (-1), 1) := by decide +kernel
theorem dX7_deal_2 : decode cX7_deal 2 = .ok (.if_icmp .eq 16, 3) := by decide +kernel
theorem dX7_deal_5 : decode cX7_deal 5 = .ok (.aload_n 0, 1) := by decide +kernel
theorem dX7_deal_6 : decode cX7_deal 6 = .ok (.getfield 26, 3) := by decide +kernel
theorem dX7_deal_9 : decode cX7_deal 9 = .ok (.iload_n 1, 1) := by decide +kernel
theorem dX7_deal_10 : decode cX7_deal 10 = .ok (.invokevirtual 128, 3) := by decide +kernel
theorem dX7_deal_13 : decode cX7_deal 13 = .ok (.ifCond .ne 5, 3) := by decide +kernel
theorem dX7_deal_16 : decode cX7_deal 16 = .ok (.iconst (-1), 1) := by decide +kernel
theorem dX7_deal_17 : decode cX7_deal 17 = .ok (.ireturn, 1) := by decide +kernel
theorem dX7_deal_18 : decode cX7_deal 18 = .ok (.aload_n 0, 1) := by decide +kernel
theorem dX7_deal_19 : decode cX7_deal 19 = .ok (.getfield 64, 3) := by decide +kernel
theorem dX7_deal_22 : decode cX7_deal 22 = .ok (.aload_n 0, 1) := by decide +kernel
theorem dX7_deal_23 : decode cX7_deal 23 = .ok (.getfield 35, 3) := by decide +kernel
theorem dX7_deal_26 : decode cX7_deal 26 = .ok (.invokevirtual 220, 3) := by decide +kernel
theorem dX7_deal_29 : decode cX7_deal 29 = .ok (.iload_n 1, 1) := by decide +kernel
theorem dX7_deal_30 : decode cX7_deal 30 = .ok (.iconst (-1), 1) := by decide +kernel
theorem dX7_deal_31 : decode cX7_deal 31 = .ok (.if_icmp .ne 13, 3) := by decide +kernel
theorem dX7_deal_34 : decode cX7_deal 34 = .ok (.aload_n 0, 1) := by decide +kernel
theorem dX7_deal_35 : decode cX7_deal 35 = .ok (.getfield 64, 3) := by decide +kernel
theorem dX7_deal_38 : decode cX7_deal 38 = .ok (.getfield 223, 3) := by decide +kernel
theorem dX7_deal_41 : decode cX7_deal 41 = .ok (.goto 11, 3) := by decide +kernel
theorem dX7_deal_44 : decode cX7_deal 44 = .ok (.aload_n 0, 1) := by decide +kernel
theorem dX7_deal_45 : decode cX7_deal 45 = .ok (.getfield 64, 3) := by decide +kernel
theorem dX7_deal_48 : decode cX7_deal 48 = .ok (.iload_n 1, 1) := by decide +kernel
theorem dX7_deal_49 : decode cX7_deal 49 = .ok (.invokevirtual 226, 3) := by decide +kernel
theorem dX7_deal_52 : decode cX7_deal 52 = .ok (.ireturn, 1) := by decide +kernel
set_option maxRecDepth 20000 in
theorem ggX7_make_X7_isHour : GoodIn wsX7_make wsX7_isHour := goodIn_r _ [7] (by decide +kernel) (by decide +kernel)
set_option maxRecDepth 20000 in
theorem gX7_make_X7_isHour : GoodIn wsX7_make (va_wsS RX7 211 yX7_isHour wsX7_isHour) := goodIn_app (goodIn_of _ (by decide +kernel)) ggX7_make_X7_isHour
set_option maxRecDepth 20000 in
theorem ggX7_make_J6_bitCount_0f7a4 : GoodIn wsX7_make wsJ6_bitCount_0f7a4 := goodIn_r _ [11, 12, 13, 14] (by decide +kernel) (by decide +kernel)
set_option maxRecDepth 20000 in
theorem gX7_make_J6_bitCount_0f7a4 : GoodIn wsX7_make (va_wsS RX7 229 yJ6_bitCount_0f7a4 wsJ6_bitCount_0f7a4) := goodIn_app (goodIn_of _ (by decide +kernel)) ggX7_make_J6_bitCount_0f7a4
set_option maxRecDepth 20000 in
theorem ggX7_make_X1_sumOfHours : GoodIn wsX7_make wsX1_sumOfHours := goodIn_r _ [19, 20, 21, 22, 6, 23, 24, 25, 26, 18, 27, 28, 29, 30, 47, 48, 49, 50, 51, 52, 53, 54, 55, 40, 41, 42, 43, 44, 45, 46] (by decide +kernel) (by decide +kernel)
set_option maxRecDepth 20000 in
theorem gX7_make_X1_sumOfHours : GoodIn wsX7_make (wsV RX7 234 RX1 yX1_sumOfHours wsX1_sumOfHours) := goodIn_app (goodIn_of _ (by decide +kernel)) ggX7_make_X1_sumOfHours
theorem dX7_make_0 : decode cX7_make 0 = .ok (.iload_n 1, 1) := by decide +kernel
theorem dX7_make_1 : decode cX7_make 1 = .ok (.invokestatic 211, 3) := by decide +kernel
theorem dX7_make_4 : decode cX7_make 4 = .ok (.ifCond .ne 5, 3) := by decide +kernel
theorem dX7_make_7 : decode cX7_make 7 = .ok (.iconst (-1), 1) := by decide +kernel
theorem dX7_make_8 : decode cX7_make 8 = .ok (.ireturn, 1) := by decide +kernel
theorem dX7_make_9 : decode cX7_make 9 = .ok (.bipush (-4), 2) := by decide +kernel
theorem dX7_make_11 : decode cX7_make 11 = .ok (.istore_n 2, 1) := by decide +kernel
theorem dX7_make_12 : decode cX7_make 12 = .ok (.iconst 1, 1) := by decide +kernel
theorem dX7_make_13 : decode cX7_make 13 = .ok (.istore_n 3, 1) := by decide +kernel
theorem dX7_make_14 : decode cX7_make 14 = .ok (.iload_n 3, 1) := by decide +kernel
theorem dX7_make_15 : decode cX7_make 15 = .ok (.iconst 1, 1) := by decide +kernel
theorem dX7_make_16 : decode cX7_make 16 = .ok (.aload_n 0, 1) := by decide +kernel
theorem dX7_make_17 : decode cX7_make 17 = .ok (.getfield 26, 3) := by decide +kernel
theorem dX7_make_20 : decode cX7_make 20 = .ok (.getfield 102, 3) := by decide +kernel
theorem dX7_make_23 : decode cX7_make 23 = .ok (.ishl, 1) := by decide +kernel
theorem dX7_make_24 : decode cX7_make 24 = .ok (.if_icmp .ge 55, 3) := by decide +kernel
theorem dX7_make_27 : decode cX7_make 27 = .ok (.iload_n 2, 1) := by decide +kernel
theorem dX7_make_28 : decode cX7_make 28 = .ok (.bipush (-4), 2) := by decide +kernel
theorem dX7_make_30 : decode cX7_make 30 = .ok (.if_icmp .eq 14, 3) := by decide +kernel
theorem dX7_make_33 : decode cX7_make 33 = .ok (.iload_n 3, 1) := by decide +kernel
theorem dX7_make_34 : decode cX7_make 34 = .ok (.invokestatic 229, 3) := by decide +kernel
theorem dX7_make_37 : decode cX7_make 37 = .ok (.iload_n 2, 1) := by decide +kernel
theorem dX7_make_38 : decode cX7_make 38 = .ok (.invokestatic 229, 3) := by decide +kernel
theorem dX7_make_41 : decode cX7_make 41 = .ok (.if_icmp .ge 7, 3) := by decide +kernel
theorem dX7_make_44 : decode cX7_make 44 = .ok (.iconst 1, 1) := by decide +kernel
theorem dX7_make_45 : decode cX7_make 45 = .ok (.goto 4, 3) := by decide +kernel
theorem dX7_make_48 : decode cX7_make 48 = .ok (.iconst 0, 1) := by decide +kernel
theorem dX7_make_49 : decode cX7_make 49 = .ok (.istore 4, 2) := by decide +kernel
theorem dX7_make_51 : decode cX7_make 51 = .ok (.iload 4, 2) := by decide +kernel
theorem dX7_make_53 : decode cX7_make 53 = .ok (.ifCond .eq 20, 3) := by decide +kernel
theorem dX7_make_56 : decode cX7_make 56 = .ok (.aload_n 0, 1) := by decide +kernel
theorem dX7_make_57 : decode cX7_make 57 = .ok (.getfield 35, 3) := by decide +kernel
theorem dX7_make_60 : decode cX7_make 60 = .ok (.iload_n 3, 1) := by decide +kernel
theorem dX7_make_61 : decode cX7_make 61 = .ok (.invokevirtual 234, 3) := by decide +kernel
theorem dX7_make_64 : decode cX7_make 64 = .ok (.bipush 24, 2) := by decide +kernel
theorem dX7_make_66 : decode cX7_make 66 = .ok (.irem, 1) := by decide +kernel
theorem dX7_make_67 : decode cX7_make 67 = .ok (.iload_n 1, 1) := by decide +kernel
theorem dX7_make_68 : decode cX7_make 68 = .ok (.if_icmp .ne 5, 3) := by decide +kernel
theorem dX7_make_71 : decode cX7_make 71 = .ok (.iload_n 3, 1) := by decide +kernel
theorem dX7_make_72 : decode cX7_make 72 = .ok (.istore_n 2, 1) := by decide +kernel
theorem dX7_make_73 : decode cX7_make 73 = .ok (.iinc 3 1, 3) := by decide +kernel
theorem dX7_make_76 : decode cX7_make 76 = .ok (.goto (-62), 3) := by decide +kernel
theorem dX7_make_79 : decode cX7_make 79 = .ok (.iload_n 2, 1) := by decide +kernel
theorem dX7_make_80 : decode cX7_make 80 = .ok (.ireturn, 1) := by decide +kernel
set_option maxRecDepth 20000 in
theorem ggX7_still_X1_copyFrom : GoodIn wsX7_still wsX1_copyFrom := goodIn_r _ [8, 9, 10, 11, 12, 13, 14, 15, 16, 17, 18, 19, 148, 149, 150, 151, 152, 153, 154, 155, 156] (by decide +kernel) (by decide +kernel)
set_option maxRecDepth 20000 in
theorem gX7_still_X1_copyFrom : GoodIn wsX7_still (wsV RX7 237 RX1 yX1_copyFrom wsX1_copyFrom) := goodIn_app (goodIn_of _ (by decide +kernel)) ggX7_still_X1_copyFrom
set_option maxRecDepth 20000 in
theorem ggX7_still_X1_goOn : GoodIn wsX7_still wsX1_goOn := goodIn_r _ [23, 10, 9, 24, 25, 26, 7, 27, 28, 29, 12, 30, 31, 32, 33, 11, 34, 18, 35, 36, 37, 38, 39, 16, 40, 41, 42, 43, 44, 45, 46, 47, 48, 49, 50, 51, 52, 53, 54, 15, 55, 56, 57, 58, 14, 59, 60, 61, 62, 13, 63, 64, 65, 66, 67, 68, 69, 70, 71, 72, 73, 74, 75, 76, 77, 78, 79, 80, 81, 82, 83, 84, 85, 86, 87, 88, 89, 90, 91, 92, 93, 94, 95, 96, 97, 98, 99, 100, 101, 102, 103, 104, 105, 106, 107, 108, 109, 110, 111, 112, 113, 114, 115, 116, 117, 118, 119, 120, 121, 122, 123, 124, 125, 126, 127, 128, 129, 130, 131, 132, 133, 134, 135, 136, 137, 138, 148, 149, 150, 151, 152, 153, 154, 155, 156, 157, 158, 159, 160, 161, 162, 163] (by decide +kernel) (by decide +kernel)
set_option maxRecDepth 20000 in
theorem gX7_still_X1_goOn : GoodIn wsX7_still (wsV RX7 196 RX1 yX1_goOn wsX1_goOn) := goodIn_app (goodIn_of _ (by decide +kernel)) ggX7_still_X1_goOn
theorem dX7_still_0 : decode cX7_still 0 = .ok (.iload_n 1, 1) := by decide +kernel
theorem dX7_still_1 : decode cX7_still 1 = .ok (.ifCond .lt 9, 3) := by decide +kernel
theorem dX7_still_4 : decode cX7_still 4 = .ok (.iload_n 1, 1) := by decide +kernel
theorem dX7_still_5 : decode cX7_still 5 = .ok (.bipush 48, 2) := by decide +kernel
theorem dX7_still_7 : decode cX7_still 7 = .ok (.if_icmp .le 5, 3) := by decide +kernel
theorem dX7_still_10 : decode cX7_still 10 = .ok (.iconst (-1), 1) := by decide +kernel
theorem dX7_still_11 : decode cX7_still 11 = .ok (.ireturn, 1) := by decide +kernel
theorem dX7_still_12 : decode cX7_still 12 = .ok (.aload_n 0, 1) := by decide +kernel
theorem dX7_still_13 : decode cX7_still 13 = .ok (.getfield 39, 3) := by decide +kernel
theorem dX7_still_16 : decode cX7_still 16 = .ok (.aload_n 0, 1) := by decide +kernel
theorem dX7_still_17 : decode cX7_still 17 = .ok (.getfield 35, 3) := by decide +kernel
theorem dX7_still_20 : decode cX7_still 20 = .ok (.invokevirtual 237, 3) := by decide +kernel
theorem dX7_still_23 : decode cX7_still 23 = .ok (.aload_n 0, 1) := by decide +kernel
theorem dX7_still_24 : decode cX7_still 24 = .ok (.getfield 39, 3) := by decide +kernel
theorem dX7_still_27 : decode cX7_still 27 = .ok (.iload_n 1, 1) := by decide +kernel
theorem dX7_still_28 : decode cX7_still 28 = .ok (.invokevirtual 196, 3) := by decide +kernel
theorem dX7_still_31 : decode cX7_still 31 = .ok (.aload_n 0, 1) := by decide +kernel
theorem dX7_still_32 : decode cX7_still 32 = .ok (.getfield 39, 3) := by decide +kernel
theorem dX7_still_35 : decode cX7_still 35 = .ok (.getfield 240, 3) := by decide +kernel
theorem dX7_still_38 : decode cX7_still 38 = .ok (.ireturn, 1) := by decide +kernel
set_option maxRecDepth 20000 in
theorem ggX7_soonest_X2_hasWork : GoodIn wsX7_soonest wsX2_hasWork := goodIn_r _ [8, 9, 95, 96, 97, 98, 99, 100, 101] (by decide +kernel) (by decide +kernel)
set_option maxRecDepth 20000 in
theorem gX7_soonest_X2_hasWork : GoodIn wsX7_soonest (wsV RX7 147 RX2 yX2_hasWork wsX2_hasWork) := goodIn_app (goodIn_of _ (by decide +kernel)) ggX7_soonest_X2_hasWork
set_option maxRecDepth 20000 in
theorem ggX7_soonest_X1_isDone : GoodIn wsX7_soonest wsX1_isDone := goodIn_r _ [14, 15, 16, 17, 18, 102, 103, 104, 105, 106, 107, 108, 109, 110] (by decide +kernel) (by decide +kernel)
set_option maxRecDepth 20000 in
theorem gX7_soonest_X1_isDone : GoodIn wsX7_soonest (wsV RX7 156 RX1 yX1_isDone wsX1_isDone) := goodIn_app (goodIn_of _ (by decide +kernel)) ggX7_soonest_X1_isDone
set_option maxRecDepth 20000 in
theorem ggX7_soonest_X2_workHourOf : GoodIn wsX7_soonest wsX2_workHourOf := goodIn_r _ [22, 23, 24, 17, 25, 95, 96, 97, 98, 99, 100, 101] (by decide +kernel) (by decide +kernel)
set_option maxRecDepth 20000 in
theorem gX7_soonest_X2_workHourOf : GoodIn wsX7_soonest (wsV RX7 153 RX2 yX2_workHourOf wsX2_workHourOf) := goodIn_app (goodIn_of _ (by decide +kernel)) ggX7_soonest_X2_workHourOf
set_option maxRecDepth 20000 in
theorem ggX7_soonest_X1_hoursUntilWork : GoodIn wsX7_soonest wsX1_hoursUntilWork := goodIn_r _ [29, 30, 31, 32, 13, 33, 34, 24, 17, 25, 35, 36, 37, 38, 39, 16, 18, 40, 41, 42, 43, 44, 45, 46, 47, 48, 49, 50, 51, 52, 53, 54, 55, 56, 57, 58, 59, 60, 61, 7, 62, 63, 64, 65, 66, 67, 68, 69, 70, 71, 72, 73, 74, 75, 76, 77, 78, 79, 80, 81, 82, 83, 84, 85, 102, 103, 104, 105, 106, 107, 108, 109, 110, 95, 96, 97, 98, 99, 100, 101] (by decide +kernel) (by decide +kernel)
set_option maxRecDepth 20000 in
theorem gX7_soonest_X1_hoursUntilWork : GoodIn wsX7_soonest (wsV RX7 243 RX1 yX1_hoursUntilWork wsX1_hoursUntilWork) := goodIn_app (goodIn_of _ (by decide +kernel)) ggX7_soonest_X1_hoursUntilWork
theorem dX7_soonest_0 : decode cX7_soonest 0 = .ok (.aload_n 0, 1) := by decide +kernel
theorem dX7_soonest_1 : decode cX7_soonest 1 = .ok (.getfield 26, 3) := by decide +kernel
theorem dX7_soonest_4 : decode cX7_soonest 4 = .ok (.iload_n 1, 1) := by decide +kernel
theorem dX7_soonest_5 : decode cX7_soonest 5 = .ok (.invokevirtual 147, 3) := by decide +kernel
theorem dX7_soonest_8 : decode cX7_soonest 8 = .ok (.ifCond .eq 12, 3) := by decide +kernel
theorem dX7_soonest_11 : decode cX7_soonest 11 = .ok (.iload_n 2, 1) := by decide +kernel
theorem dX7_soonest_12 : decode cX7_soonest 12 = .ok (.ifCond .lt 8, 3) := by decide +kernel
theorem dX7_soonest_15 : decode cX7_soonest 15 = .ok (.iload_n 2, 1) := by decide +kernel
theorem dX7_soonest_16 : decode cX7_soonest 16 = .ok (.iconst 1, 1) := by decide +kernel
theorem dX7_soonest_17 : decode cX7_soonest 17 = .ok (.if_icmp .le 5, 3) := by decide +kernel
theorem dX7_soonest_20 : decode cX7_soonest 20 = .ok (.iconst (-1), 1) := by decide +kernel
theorem dX7_soonest_21 : decode cX7_soonest 21 = .ok (.ireturn, 1) := by decide +kernel
theorem dX7_soonest_22 : decode cX7_soonest 22 = .ok (.aload_n 0, 1) := by decide +kernel
theorem dX7_soonest_23 : decode cX7_soonest 23 = .ok (.getfield 35, 3) := by decide +kernel
theorem dX7_soonest_26 : decode cX7_soonest 26 = .ok (.iload_n 1, 1) := by decide +kernel
theorem dX7_soonest_27 : decode cX7_soonest 27 = .ok (.invokevirtual 156, 3) := by decide +kernel
theorem dX7_soonest_30 : decode cX7_soonest 30 = .ok (.ifCond .eq 6, 3) := by decide +kernel
theorem dX7_soonest_33 : decode cX7_soonest 33 = .ok (.bipush (-2), 2) := by decide +kernel
theorem dX7_soonest_35 : decode cX7_soonest 35 = .ok (.ireturn, 1) := by decide +kernel
theorem dX7_soonest_36 : decode cX7_soonest 36 = .ok (.bipush (-4), 2) := by decide +kernel
theorem dX7_soonest_38 : decode cX7_soonest 38 = .ok (.istore_n 3, 1) := by decide +kernel
theorem dX7_soonest_39 : decode cX7_soonest 39 = .ok (.bipush (-4), 2) := by decide +kernel
theorem dX7_soonest_41 : decode cX7_soonest 41 = .ok (.istore 4, 2) := by decide +kernel
theorem dX7_soonest_43 : decode cX7_soonest 43 = .ok (.iconst 0, 1) := by decide +kernel
theorem dX7_soonest_44 : decode cX7_soonest 44 = .ok (.istore 5, 2) := by decide +kernel
theorem dX7_soonest_46 : decode cX7_soonest 46 = .ok (.iload 5, 2) := by decide +kernel
theorem dX7_soonest_48 : decode cX7_soonest 48 = .ok (.aload_n 0, 1) := by decide +kernel
theorem dX7_soonest_49 : decode cX7_soonest 49 = .ok (.getfield 26, 3) := by decide +kernel
theorem dX7_soonest_52 : decode cX7_soonest 52 = .ok (.getfield 105, 3) := by decide +kernel
theorem dX7_soonest_55 : decode cX7_soonest 55 = .ok (.if_icmp .ge 55, 3) := by decide +kernel
theorem dX7_soonest_58 : decode cX7_soonest 58 = .ok (.aload_n 0, 1) := by decide +kernel
theorem dX7_soonest_59 : decode cX7_soonest 59 = .ok (.getfield 35, 3) := by decide +kernel
theorem dX7_soonest_62 : decode cX7_soonest 62 = .ok (.iload 5, 2) := by decide +kernel
theorem dX7_soonest_64 : decode cX7_soonest 64 = .ok (.aload_n 0, 1) := by decide +kernel
theorem dX7_soonest_65 : decode cX7_soonest 65 = .ok (.getfield 26, 3) := by decide +kernel
theorem dX7_soonest_68 : decode cX7_soonest 68 = .ok (.iload_n 1, 1) := by decide +kernel
theorem dX7_soonest_69 : decode cX7_soonest 69 = .ok (.invokevirtual 153, 3) := by decide +kernel
theorem dX7_soonest_72 : decode cX7_soonest 72 = .ok (.invokevirtual 243, 3) := by decide +kernel
theorem dX7_soonest_75 : decode cX7_soonest 75 = .ok (.istore 6, 2) := by decide +kernel
theorem dX7_soonest_77 : decode cX7_soonest 77 = .ok (.iload 6, 2) := by decide +kernel
theorem dX7_soonest_79 : decode cX7_soonest 79 = .ok (.bipush (-4), 2) := by decide +kernel
theorem dX7_soonest_81 : decode cX7_soonest 81 = .ok (.if_icmp .eq 23, 3) := by decide +kernel
theorem dX7_soonest_84 : decode cX7_soonest 84 = .ok (.iload_n 3, 1) := by decide +kernel
theorem dX7_soonest_85 : decode cX7_soonest 85 = .ok (.bipush (-4), 2) := by decide +kernel
theorem dX7_soonest_87 : decode cX7_soonest 87 = .ok (.if_icmp .eq 10, 3) := by decide +kernel
theorem dX7_soonest_90 : decode cX7_soonest 90 = .ok (.iload 6, 2) := by decide +kernel
theorem dX7_soonest_92 : decode cX7_soonest 92 = .ok (.iload 4, 2) := by decide +kernel
theorem dX7_soonest_94 : decode cX7_soonest 94 = .ok (.if_icmp .ge 10, 3) := by decide +kernel
theorem dX7_soonest_97 : decode cX7_soonest 97 = .ok (.iload 5, 2) := by decide +kernel
theorem dX7_soonest_99 : decode cX7_soonest 99 = .ok (.istore_n 3, 1) := by decide +kernel
theorem dX7_soonest_100 : decode cX7_soonest 100 = .ok (.iload 6, 2) := by decide +kernel
theorem dX7_soonest_102 : decode cX7_soonest 102 = .ok (.istore 4, 2) := by decide +kernel
theorem dX7_soonest_104 : decode cX7_soonest 104 = .ok (.iinc 5 1, 3) := by decide +kernel
theorem dX7_soonest_107 : decode cX7_soonest 107 = .ok (.goto (-61), 3) := by decide +kernel
theorem dX7_soonest_110 : decode cX7_soonest 110 = .ok (.iload_n 2, 1) := by decide +kernel
theorem dX7_soonest_111 : decode cX7_soonest 111 = .ok (.ifCond .ne 7, 3) := by decide +kernel
theorem dX7_soonest_114 : decode cX7_soonest 114 = .ok (.iload_n 3, 1) := by decide +kernel
theorem dX7_soonest_115 : decode cX7_soonest 115 = .ok (.goto 5, 3) := by decide +kernel
theorem dX7_soonest_118 : decode cX7_soonest 118 = .ok (.iload 4, 2) := by decide +kernel
theorem dX7_soonest_120 : decode cX7_soonest 120 = .ok (.ireturn, 1) := by decide +kernel
set_option maxRecDepth 20000 in
theorem ggX7_see_X7_isHour : GoodIn wsX7_see wsX7_isHour := goodIn_r _ [6] (by decide +kernel) (by decide +kernel)
set_option maxRecDepth 20000 in
theorem gX7_see_X7_isHour : GoodIn wsX7_see (va_wsS RX7 211 yX7_isHour wsX7_isHour) := goodIn_app (goodIn_of _ (by decide +kernel)) ggX7_see_X7_isHour
set_option maxRecDepth 20000 in
theorem ggX7_see_X5_isFull : GoodIn wsX7_see wsX5_isFull := goodIn_r _ [11, 12, 30, 31, 32] (by decide +kernel) (by decide +kernel)
set_option maxRecDepth 20000 in
theorem gX7_see_X5_isFull : GoodIn wsX7_see (wsV RX7 246 RX5 yX5_isFull wsX5_isFull) := goodIn_app (goodIn_of _ (by decide +kernel)) ggX7_see_X5_isFull
set_option maxRecDepth 20000 in
theorem ggX7_see_X5_add : GoodIn wsX7_see wsX5_add := goodIn_r _ [16, 17, 12, 18, 19, 5, 20, 30, 31, 32] (by decide +kernel) (by decide +kernel)
set_option maxRecDepth 20000 in
theorem gX7_see_X5_add : GoodIn wsX7_see (wsV RX7 247 RX5 yX5_add wsX5_add) := goodIn_app (goodIn_of _ (by decide +kernel)) ggX7_see_X5_add
theorem dX7_see_0 : decode cX7_see 0 = .ok (.iload_n 1, 1) := by decide +kernel
theorem dX7_see_1 : decode cX7_see 1 = .ok (.invokestatic 211, 3) := by decide +kernel
theorem dX7_see_4 : decode cX7_see 4 = .ok (.ifCond .eq 13, 3) := by decide +kernel
theorem dX7_see_7 : decode cX7_see 7 = .ok (.iload_n 2, 1) := by decide +kernel
theorem dX7_see_8 : decode cX7_see 8 = .ok (.ifCond .lt 9, 3) := by decide +kernel
theorem dX7_see_11 : decode cX7_see 11 = .ok (.iload_n 2, 1) := by decide +kernel
theorem dX7_see_12 : decode cX7_see 12 = .ok (.bipush 30, 2) := by decide +kernel
theorem dX7_see_14 : decode cX7_see 14 = .ok (.if_icmp .le 5, 3) := by decide +kernel
theorem dX7_see_17 : decode cX7_see 17 = .ok (.iconst (-1), 1) := by decide +kernel
theorem dX7_see_18 : decode cX7_see 18 = .ok (.ireturn, 1) := by decide +kernel
theorem dX7_see_19 : decode cX7_see 19 = .ok (.aload_n 0, 1) := by decide +kernel
theorem dX7_see_20 : decode cX7_see 20 = .ok (.getfield 57, 3) := by decide +kernel
theorem dX7_see_23 : decode cX7_see 23 = .ok (.invokevirtual 246, 3) := by decide +kernel
theorem dX7_see_26 : decode cX7_see 26 = .ok (.ifCond .eq 6, 3) := by decide +kernel
theorem dX7_see_29 : decode cX7_see 29 = .ok (.bipush (-3), 2) := by decide +kernel
theorem dX7_see_31 : decode cX7_see 31 = .ok (.ireturn, 1) := by decide +kernel
theorem dX7_see_32 : decode cX7_see 32 = .ok (.aload_n 0, 1) := by decide +kernel
theorem dX7_see_33 : decode cX7_see 33 = .ok (.getfield 57, 3) := by decide +kernel
theorem dX7_see_36 : decode cX7_see 36 = .ok (.iload_n 1, 1) := by decide +kernel
theorem dX7_see_37 : decode cX7_see 37 = .ok (.iload_n 2, 1) := by decide +kernel
theorem dX7_see_38 : decode cX7_see 38 = .ok (.invokevirtual 247, 3) := by decide +kernel
theorem dX7_see_41 : decode cX7_see 41 = .ok (.aload_n 0, 1) := by decide +kernel
theorem dX7_see_42 : decode cX7_see 42 = .ok (.getfield 57, 3) := by decide +kernel
theorem dX7_see_45 : decode cX7_see 45 = .ok (.getfield 250, 3) := by decide +kernel
theorem dX7_see_48 : decode cX7_see 48 = .ok (.ireturn, 1) := by decide +kernel
set_option maxRecDepth 20000 in
theorem ggX7_forget_X5_clear : GoodIn wsX7_forget wsX5_clear := goodIn_r _ [7, 8, 18, 19, 20] (by decide +kernel) (by decide +kernel)
set_option maxRecDepth 20000 in
theorem gX7_forget_X5_clear : GoodIn wsX7_forget (wsV RX7 251 RX5 yX5_clear wsX5_clear) := goodIn_app (goodIn_of _ (by decide +kernel)) ggX7_forget_X5_clear
theorem dX7_forget_0 : decode cX7_forget 0 = .ok (.aload_n 0, 1) := by decide +kernel
theorem dX7_forget_1 : decode cX7_forget 1 = .ok (.getfield 57, 3) := by decide +kernel
theorem dX7_forget_4 : decode cX7_forget 4 = .ok (.getfield 250, 3) := by decide +kernel
theorem dX7_forget_7 : decode cX7_forget 7 = .ok (.istore_n 1, 1) := by decide +kernel
theorem dX7_forget_8 : decode cX7_forget 8 = .ok (.aload_n 0, 1) := by decide +kernel
theorem dX7_forget_9 : decode cX7_forget 9 = .ok (.getfield 57, 3) := by decide +kernel
theorem dX7_forget_12 : decode cX7_forget 12 = .ok (.invokevirtual 251, 3) := by decide +kernel
theorem dX7_forget_15 : decode cX7_forget 15 = .ok (.iload_n 1, 1) := by decide +kernel
theorem dX7_forget_16 : decode cX7_forget 16 = .ok (.ireturn, 1) := by decide +kernel
set_option maxRecDepth 20000 in
theorem ggX7_which_X1_hourOf : GoodIn wsX7_which wsX1_hourOf := goodIn_r _ [9, 10, 11, 12, 13, 57, 58, 59, 60, 61, 62, 63, 64, 65] (by decide +kernel) (by decide +kernel)
set_option maxRecDepth 20000 in
theorem gX7_which_X1_hourOf : GoodIn wsX7_which (wsV RX7 116 RX1 yX1_hourOf wsX1_hourOf) := goodIn_app (goodIn_of _ (by decide +kernel)) ggX7_which_X1_hourOf
set_option maxRecDepth 20000 in
theorem ggX7_which_X5_fit : GoodIn wsX7_which wsX5_fit := goodIn_r _ [18, 19, 20, 21, 11, 12, 13, 22, 23, 24, 8, 25, 26, 27, 28, 29, 30, 31, 32, 33, 34, 35, 36, 37, 38, 39, 40, 66, 67, 68, 57, 58, 59, 60, 61, 62, 63, 64, 65, 50, 51, 52, 53, 54, 55, 56] (by decide +kernel) (by decide +kernel)
set_option maxRecDepth 20000 in
theorem gX7_which_X5_fit : GoodIn wsX7_which (wsV RX7 252 RX5 yX5_fit wsX5_fit) := goodIn_app (goodIn_of _ (by decide +kernel)) ggX7_which_X5_fit
theorem dX7_which_0 : decode cX7_which 0 = .ok (.iconst 0, 1) := by decide +kernel
theorem dX7_which_1 : decode cX7_which 1 = .ok (.istore_n 1, 1) := by decide +kernel
theorem dX7_which_2 : decode cX7_which 2 = .ok (.iconst 0, 1) := by decide +kernel
theorem dX7_which_3 : decode cX7_which 3 = .ok (.istore_n 2, 1) := by decide +kernel
theorem dX7_which_4 : decode cX7_which 4 = .ok (.iload_n 2, 1) := by decide +kernel
theorem dX7_which_5 : decode cX7_which 5 = .ok (.aload_n 0, 1) := by decide +kernel
theorem dX7_which_6 : decode cX7_which 6 = .ok (.getfield 26, 3) := by decide +kernel
theorem dX7_which_9 : decode cX7_which 9 = .ok (.getfield 102, 3) := by decide +kernel
theorem dX7_which_12 : decode cX7_which 12 = .ok (.if_icmp .ge 38, 3) := by decide +kernel
theorem dX7_which_15 : decode cX7_which 15 = .ok (.aload_n 0, 1) := by decide +kernel
theorem dX7_which_16 : decode cX7_which 16 = .ok (.getfield 57, 3) := by decide +kernel
theorem dX7_which_19 : decode cX7_which 19 = .ok (.aload_n 0, 1) := by decide +kernel
theorem dX7_which_20 : decode cX7_which 20 = .ok (.getfield 35, 3) := by decide +kernel
theorem dX7_which_23 : decode cX7_which 23 = .ok (.iload_n 2, 1) := by decide +kernel
theorem dX7_which_24 : decode cX7_which 24 = .ok (.aload_n 0, 1) := by decide +kernel
theorem dX7_which_25 : decode cX7_which 25 = .ok (.getfield 35, 3) := by decide +kernel
theorem dX7_which_28 : decode cX7_which 28 = .ok (.iload_n 2, 1) := by decide +kernel
theorem dX7_which_29 : decode cX7_which 29 = .ok (.invokevirtual 116, 3) := by decide +kernel
theorem dX7_which_32 : decode cX7_which 32 = .ok (.invokevirtual 252, 3) := by decide +kernel
theorem dX7_which_35 : decode cX7_which 35 = .ok (.ifCond .eq 9, 3) := by decide +kernel
theorem dX7_which_38 : decode cX7_which 38 = .ok (.iload_n 1, 1) := by decide +kernel
theorem dX7_which_39 : decode cX7_which 39 = .ok (.iconst 1, 1) := by decide +kernel
theorem dX7_which_40 : decode cX7_which 40 = .ok (.iload_n 2, 1) := by decide +kernel
theorem dX7_which_41 : decode cX7_which 41 = .ok (.ishl, 1) := by decide +kernel
theorem dX7_which_42 : decode cX7_which 42 = .ok (.ior, 1) := by decide +kernel
theorem dX7_which_43 : decode cX7_which 43 = .ok (.istore_n 1, 1) := by decide +kernel
theorem dX7_which_44 : decode cX7_which 44 = .ok (.iinc 2 1, 3) := by decide +kernel
theorem dX7_which_47 : decode cX7_which 47 = .ok (.goto (-43), 3) := by decide +kernel
theorem dX7_which_50 : decode cX7_which 50 = .ok (.iload_n 1, 1) := by decide +kernel
theorem dX7_which_51 : decode cX7_which 51 = .ok (.ireturn, 1) := by decide +kernel
set_option maxRecDepth 20000 in
theorem ggX7_set_X2_hasParasol : GoodIn wsX7_set wsX2_hasParasol := goodIn_r _ [8, 9, 49, 50, 51, 52, 53, 54, 55] (by decide +kernel) (by decide +kernel)
set_option maxRecDepth 20000 in
theorem gX7_set_X2_hasParasol : GoodIn wsX7_set (wsV RX7 108 RX2 yX2_hasParasol wsX2_hasParasol) := goodIn_app (goodIn_of _ (by decide +kernel)) ggX7_set_X2_hasParasol
set_option maxRecDepth 20000 in
theorem ggX7_set_X5_fit : GoodIn wsX7_set wsX5_fit := goodIn_r _ [14, 15, 16, 17, 18, 19, 20, 21, 22, 23, 24, 25, 26, 27, 28, 29, 30, 7, 31, 32, 33, 34, 35, 36, 37, 38, 39, 56, 57, 58, 59, 60, 61, 62, 63, 64, 65, 66, 67, 49, 50, 51, 52, 53, 54, 55] (by decide +kernel) (by decide +kernel)
set_option maxRecDepth 20000 in
theorem gX7_set_X5_fit : GoodIn wsX7_set (wsV RX7 252 RX5 yX5_fit wsX5_fit) := goodIn_app (goodIn_of _ (by decide +kernel)) ggX7_set_X5_fit
theorem dX7_set_0 : decode cX7_set 0 = .ok (.aload_n 0, 1) := by decide +kernel
theorem dX7_set_1 : decode cX7_set 1 = .ok (.getfield 26, 3) := by decide +kernel
theorem dX7_set_4 : decode cX7_set 4 = .ok (.iload_n 1, 1) := by decide +kernel
theorem dX7_set_5 : decode cX7_set 5 = .ok (.invokevirtual 108, 3) := by decide +kernel
theorem dX7_set_8 : decode cX7_set 8 = .ok (.ifCond .ne 5, 3) := by decide +kernel
theorem dX7_set_11 : decode cX7_set 11 = .ok (.iconst (-1), 1) := by decide +kernel
theorem dX7_set_12 : decode cX7_set 12 = .ok (.ireturn, 1) := by decide +kernel
theorem dX7_set_13 : decode cX7_set 13 = .ok (.iconst 0, 1) := by decide +kernel
theorem dX7_set_14 : decode cX7_set 14 = .ok (.istore_n 2, 1) := by decide +kernel
theorem dX7_set_15 : decode cX7_set 15 = .ok (.iconst 0, 1) := by decide +kernel
theorem dX7_set_16 : decode cX7_set 16 = .ok (.istore_n 3, 1) := by decide +kernel
theorem dX7_set_17 : decode cX7_set 17 = .ok (.iload_n 3, 1) := by decide +kernel
theorem dX7_set_18 : decode cX7_set 18 = .ok (.bipush 24, 2) := by decide +kernel
theorem dX7_set_20 : decode cX7_set 20 = .ok (.if_icmp .ge 31, 3) := by decide +kernel
theorem dX7_set_23 : decode cX7_set 23 = .ok (.aload_n 0, 1) := by decide +kernel
theorem dX7_set_24 : decode cX7_set 24 = .ok (.getfield 57, 3) := by decide +kernel
theorem dX7_set_27 : decode cX7_set 27 = .ok (.aload_n 0, 1) := by decide +kernel
theorem dX7_set_28 : decode cX7_set 28 = .ok (.getfield 35, 3) := by decide +kernel
theorem dX7_set_31 : decode cX7_set 31 = .ok (.iload_n 1, 1) := by decide +kernel
theorem dX7_set_32 : decode cX7_set 32 = .ok (.iload_n 3, 1) := by decide +kernel
theorem dX7_set_33 : decode cX7_set 33 = .ok (.invokevirtual 252, 3) := by decide +kernel
theorem dX7_set_36 : decode cX7_set 36 = .ok (.ifCond .eq 9, 3) := by decide +kernel
theorem dX7_set_39 : decode cX7_set 39 = .ok (.iload_n 2, 1) := by decide +kernel
theorem dX7_set_40 : decode cX7_set 40 = .ok (.iconst 1, 1) := by decide +kernel
theorem dX7_set_41 : decode cX7_set 41 = .ok (.iload_n 3, 1) := by decide +kernel
theorem dX7_set_42 : decode cX7_set 42 = .ok (.ishl, 1) := by decide +kernel
theorem dX7_set_43 : decode cX7_set 43 = .ok (.ior, 1) := by decide +kernel
theorem dX7_set_44 : decode cX7_set 44 = .ok (.istore_n 2, 1) := by decide +kernel
theorem dX7_set_45 : decode cX7_set 45 = .ok (.iinc 3 1, 3) := by decide +kernel
theorem dX7_set_48 : decode cX7_set 48 = .ok (.goto (-31), 3) := by decide +kernel
theorem dX7_set_51 : decode cX7_set 51 = .ok (.iload_n 2, 1) := by decide +kernel
theorem dX7_set_52 : decode cX7_set 52 = .ok (.ireturn, 1) := by decide +kernel
set_option maxRecDepth 20000 in
theorem ggX7_flecks_X2_hasParasol : GoodIn wsX7_flecks wsX2_hasParasol := goodIn_r _ [7, 8, 53, 54, 55, 56, 57, 58, 59] (by decide +kernel) (by decide +kernel)
set_option maxRecDepth 20000 in
theorem gX7_flecks_X2_hasParasol : GoodIn wsX7_flecks (wsV RX7 108 RX2 yX2_hasParasol wsX2_hasParasol) := goodIn_app (goodIn_of _ (by decide +kernel)) ggX7_flecks_X2_hasParasol
set_option maxRecDepth 20000 in
theorem ggX7_flecks_X7_isHour : GoodIn wsX7_flecks wsX7_isHour := goodIn_r _ [12] (by decide +kernel) (by decide +kernel)
set_option maxRecDepth 20000 in
theorem gX7_flecks_X7_isHour : GoodIn wsX7_flecks (va_wsS RX7 211 yX7_isHour wsX7_isHour) := goodIn_app (goodIn_of _ (by decide +kernel)) ggX7_flecks_X7_isHour
set_option maxRecDepth 20000 in
theorem ggX7_flecks_X1_fleckedWays : GoodIn wsX7_flecks wsX1_fleckedWays := goodIn_r _ [17, 18, 19, 20, 21, 22, 6, 23, 24, 25, 11, 26, 27, 28, 29, 30, 31, 32, 33, 34, 16, 35, 36, 37, 38, 39, 40, 41, 42, 60, 61, 62, 63, 64, 65, 66, 67, 68, 53, 54, 55, 56, 57, 58, 59] (by decide +kernel) (by decide +kernel)
set_option maxRecDepth 20000 in
theorem gX7_flecks_X1_fleckedWays : GoodIn wsX7_flecks (wsV RX7 256 RX1 yX1_fleckedWays wsX1_fleckedWays) := goodIn_app (goodIn_of _ (by decide +kernel)) ggX7_flecks_X1_fleckedWays
set_option maxRecDepth 20000 in
theorem ggX7_flecks_X7_power : GoodIn wsX7_flecks wsX7_power := goodIn_r _ [42] (by decide +kernel) (by decide +kernel)
set_option maxRecDepth 20000 in
theorem gX7_flecks_X7_power : GoodIn wsX7_flecks (va_wsS RX7 260 yX7_power wsX7_power) := goodIn_app (goodIn_of _ (by decide +kernel)) ggX7_flecks_X7_power
theorem dX7_flecks_0 : decode cX7_flecks 0 = .ok (.aload_n 0, 1) := by decide +kernel
theorem dX7_flecks_1 : decode cX7_flecks 1 = .ok (.getfield 26, 3) := by decide +kernel
theorem dX7_flecks_4 : decode cX7_flecks 4 = .ok (.iload_n 1, 1) := by decide +kernel
theorem dX7_flecks_5 : decode cX7_flecks 5 = .ok (.invokevirtual 108, 3) := by decide +kernel
theorem dX7_flecks_8 : decode cX7_flecks 8 = .ok (.ifCond .eq 43, 3) := by decide +kernel
theorem dX7_flecks_11 : decode cX7_flecks 11 = .ok (.iload_n 2, 1) := by decide +kernel
theorem dX7_flecks_12 : decode cX7_flecks 12 = .ok (.invokestatic 211, 3) := by decide +kernel
theorem dX7_flecks_15 : decode cX7_flecks 15 = .ok (.ifCond .eq 36, 3) := by decide +kernel
theorem dX7_flecks_18 : decode cX7_flecks 18 = .ok (.iload_n 3, 1) := by decide +kernel
theorem dX7_flecks_19 : decode cX7_flecks 19 = .ok (.ifCond .lt 32, 3) := by decide +kernel
theorem dX7_flecks_22 : decode cX7_flecks 22 = .ok (.iload_n 3, 1) := by decide +kernel
theorem dX7_flecks_23 : decode cX7_flecks 23 = .ok (.bipush 8, 2) := by decide +kernel
theorem dX7_flecks_25 : decode cX7_flecks 25 = .ok (.if_icmp .gt 26, 3) := by decide +kernel
theorem dX7_flecks_28 : decode cX7_flecks 28 = .ok (.iload 4, 2) := by decide +kernel
theorem dX7_flecks_30 : decode cX7_flecks 30 = .ok (.ifCond .lt 21, 3) := by decide +kernel
theorem dX7_flecks_33 : decode cX7_flecks 33 = .ok (.iload 4, 2) := by decide +kernel
theorem dX7_flecks_35 : decode cX7_flecks 35 = .ok (.bipush 10, 2) := by decide +kernel
theorem dX7_flecks_37 : decode cX7_flecks 37 = .ok (.if_icmp .gt 14, 3) := by decide +kernel
theorem dX7_flecks_40 : decode cX7_flecks 40 = .ok (.iload 5, 2) := by decide +kernel
theorem dX7_flecks_42 : decode cX7_flecks 42 = .ok (.ifCond .lt 9, 3) := by decide +kernel
theorem dX7_flecks_45 : decode cX7_flecks 45 = .ok (.iload 5, 2) := by decide +kernel
theorem dX7_flecks_47 : decode cX7_flecks 47 = .ok (.iconst 1, 1) := by decide +kernel
theorem dX7_flecks_48 : decode cX7_flecks 48 = .ok (.if_icmp .le 5, 3) := by decide +kernel
theorem dX7_flecks_51 : decode cX7_flecks 51 = .ok (.iconst (-1), 1) := by decide +kernel
theorem dX7_flecks_52 : decode cX7_flecks 52 = .ok (.ireturn, 1) := by decide +kernel
theorem dX7_flecks_53 : decode cX7_flecks 53 = .ok (.aload_n 0, 1) := by decide +kernel
theorem dX7_flecks_54 : decode cX7_flecks 54 = .ok (.getfield 35, 3) := by decide +kernel
theorem dX7_flecks_57 : decode cX7_flecks 57 = .ok (.iload_n 1, 1) := by decide +kernel
theorem dX7_flecks_58 : decode cX7_flecks 58 = .ok (.iload_n 2, 1) := by decide +kernel
theorem dX7_flecks_59 : decode cX7_flecks 59 = .ok (.iload_n 3, 1) := by decide +kernel
theorem dX7_flecks_60 : decode cX7_flecks 60 = .ok (.iload 4, 2) := by decide +kernel
theorem dX7_flecks_62 : decode cX7_flecks 62 = .ok (.invokevirtual 256, 3) := by decide +kernel
theorem dX7_flecks_65 : decode cX7_flecks 65 = .ok (.istore 6, 2) := by decide +kernel
theorem dX7_flecks_67 : decode cX7_flecks 67 = .ok (.bipush 10, 2) := by decide +kernel
theorem dX7_flecks_69 : decode cX7_flecks 69 = .ok (.iload_n 3, 1) := by decide +kernel
theorem dX7_flecks_70 : decode cX7_flecks 70 = .ok (.invokestatic 260, 3) := by decide +kernel
theorem dX7_flecks_73 : decode cX7_flecks 73 = .ok (.istore 7, 2) := by decide +kernel
theorem dX7_flecks_75 : decode cX7_flecks 75 = .ok (.iconst 0, 1) := by decide +kernel
theorem dX7_flecks_76 : decode cX7_flecks 76 = .ok (.istore 8, 2) := by decide +kernel
theorem dX7_flecks_78 : decode cX7_flecks 78 = .ok (.iload 8, 2) := by decide +kernel
theorem dX7_flecks_80 : decode cX7_flecks 80 = .ok (.iload_n 3, 1) := by decide +kernel
theorem dX7_flecks_81 : decode cX7_flecks 81 = .ok (.if_icmp .ge 61, 3) := by decide +kernel
theorem dX7_flecks_84 : decode cX7_flecks 84 = .ok (.iload 6, 2) := by decide +kernel
theorem dX7_flecks_86 : decode cX7_flecks 86 = .ok (.iconst 2, 1) := by decide +kernel
theorem dX7_flecks_87 : decode cX7_flecks 87 = .ok (.irem, 1) := by decide +kernel
theorem dX7_flecks_88 : decode cX7_flecks 88 = .ok (.ifCond .ne 22, 3) := by decide +kernel
theorem dX7_flecks_91 : decode cX7_flecks 91 = .ok (.iload 7, 2) := by decide +kernel
theorem dX7_flecks_93 : decode cX7_flecks 93 = .ok (.iconst 2, 1) := by decide +kernel
theorem dX7_flecks_94 : decode cX7_flecks 94 = .ok (.irem, 1) := by decide +kernel
theorem dX7_flecks_95 : decode cX7_flecks 95 = .ok (.ifCond .ne 15, 3) := by decide +kernel
theorem dX7_flecks_98 : decode cX7_flecks 98 = .ok (.iload 6, 2) := by decide +kernel
theorem dX7_flecks_100 : decode cX7_flecks 100 = .ok (.iconst 2, 1) := by decide +kernel
theorem dX7_flecks_101 : decode cX7_flecks 101 = .ok (.idiv, 1) := by decide +kernel
theorem dX7_flecks_102 : decode cX7_flecks 102 = .ok (.istore 6, 2) := by decide +kernel
theorem dX7_flecks_104 : decode cX7_flecks 104 = .ok (.iload 7, 2) := by decide +kernel
theorem dX7_flecks_106 : decode cX7_flecks 106 = .ok (.iconst 2, 1) := by decide +kernel
theorem dX7_flecks_107 : decode cX7_flecks 107 = .ok (.idiv, 1) := by decide +kernel
theorem dX7_flecks_108 : decode cX7_flecks 108 = .ok (.istore 7, 2) := by decide +kernel
theorem dX7_flecks_110 : decode cX7_flecks 110 = .ok (.iload 6, 2) := by decide +kernel
theorem dX7_flecks_112 : decode cX7_flecks 112 = .ok (.iconst 5, 1) := by decide +kernel
theorem dX7_flecks_113 : decode cX7_flecks 113 = .ok (.irem, 1) := by decide +kernel
theorem dX7_flecks_114 : decode cX7_flecks 114 = .ok (.ifCond .ne 22, 3) := by decide +kernel
theorem dX7_flecks_117 : decode cX7_flecks 117 = .ok (.iload 7, 2) := by decide +kernel
theorem dX7_flecks_119 : decode cX7_flecks 119 = .ok (.iconst 5, 1) := by decide +kernel
theorem dX7_flecks_120 : decode cX7_flecks 120 = .ok (.irem, 1) := by decide +kernel
theorem dX7_flecks_121 : decode cX7_flecks 121 = .ok (.ifCond .ne 15, 3) := by decide +kernel
theorem dX7_flecks_124 : decode cX7_flecks 124 = .ok (.iload 6, 2) := by decide +kernel
theorem dX7_flecks_126 : decode cX7_flecks 126 = .ok (.iconst 5, 1) := by decide +kernel
theorem dX7_flecks_127 : decode cX7_flecks 127 = .ok (.idiv, 1) := by decide +kernel
theorem dX7_flecks_128 : decode cX7_flecks 128 = .ok (.istore 6, 2) := by decide +kernel
theorem dX7_flecks_130 : decode cX7_flecks 130 = .ok (.iload 7, 2) := by decide +kernel
theorem dX7_flecks_132 : decode cX7_flecks 132 = .ok (.iconst 5, 1) := by decide +kernel
theorem dX7_flecks_133 : decode cX7_flecks 133 = .ok (.idiv, 1) := by decide +kernel
theorem dX7_flecks_134 : decode cX7_flecks 134 = .ok (.istore 7, 2) := by decide +kernel
theorem dX7_flecks_136 : decode cX7_flecks 136 = .ok (.iinc 8 1, 3) := by decide +kernel
theorem dX7_flecks_139 : decode cX7_flecks 139 = .ok (.goto (-61), 3) := by decide +kernel
theorem dX7_flecks_142 : decode cX7_flecks 142 = .ok (.iload 5, 2) := by decide +kernel
theorem dX7_flecks_144 : decode cX7_flecks 144 = .ok (.ifCond .ne 8, 3) := by decide +kernel
theorem dX7_flecks_147 : decode cX7_flecks 147 = .ok (.iload 6, 2) := by decide +kernel
theorem dX7_flecks_149 : decode cX7_flecks 149 = .ok (.goto 5, 3) := by decide +kernel
theorem dX7_flecks_152 : decode cX7_flecks 152 = .ok (.iload 7, 2) := by decide +kernel
theorem dX7_flecks_154 : decode cX7_flecks 154 = .ok (.ireturn, 1) := by decide +kernel
set_option maxRecDepth 20000 in
theorem ggX7_day_X1_copyFrom : GoodIn wsX7_day wsX1_copyFrom := goodIn_r _ [9, 10, 11, 12, 13, 14, 15, 16, 17, 18, 19, 20, 214, 215, 216, 217, 218, 219, 220, 221, 222] (by decide +kernel) (by decide +kernel)
set_option maxRecDepth 20000 in
theorem gX7_day_X1_copyFrom : GoodIn wsX7_day (wsV RX7 237 RX1 yX1_copyFrom wsX1_copyFrom) := goodIn_app (goodIn_of _ (by decide +kernel)) ggX7_day_X1_copyFrom
set_option maxRecDepth 20000 in
theorem ggX7_day_X7_drawOf : GoodIn wsX7_day wsX7_drawOf := goodIn_r _ [23, 24, 25, 26] (by decide +kernel) (by decide +kernel)
set_option maxRecDepth 20000 in
theorem gX7_day_X7_drawOf : GoodIn wsX7_day (va_wsS RX7 263 yX7_drawOf wsX7_drawOf) := goodIn_app (goodIn_of _ (by decide +kernel)) ggX7_day_X7_drawOf
set_option maxRecDepth 20000 in
theorem ggX7_day_X1_actByDraw : GoodIn wsX7_day wsX1_actByDraw := goodIn_r _ [30, 31, 32, 33, 34, 19, 35, 36, 37, 38, 8, 39, 40, 41, 42, 43, 12, 44, 45, 46, 47, 48, 49, 16, 50, 51, 52, 53, 54, 55, 17, 56, 57, 58, 59, 60, 61, 62, 63, 64, 65, 66, 67, 68, 69, 70, 71, 72, 73, 74, 75, 76, 77, 78, 79, 80, 81, 82, 83, 84, 85, 86, 87, 88, 89, 90, 91, 92, 93, 94, 95, 96, 97, 98, 99, 100, 101, 102, 103, 104, 105, 106, 107, 108, 109, 110, 111, 112, 113, 114, 15, 214, 215, 216, 217, 218, 219, 220, 221, 222, 223, 224, 225, 226, 227, 228, 229] (by decide +kernel) (by decide +kernel)
set_option maxRecDepth 20000 in
theorem gX7_day_X1_actByDraw : GoodIn wsX7_day (wsV RX7 266 RX1 yX1_actByDraw wsX1_actByDraw) := goodIn_app (goodIn_of _ (by decide +kernel)) ggX7_day_X1_actByDraw
set_option maxRecDepth 20000 in
theorem ggX7_day_X1_goOn : GoodIn wsX7_day wsX1_goOn := goodIn_r _ [118, 11, 10, 119, 120, 121, 8, 122, 31, 32, 13, 40, 41, 42, 43, 12, 44, 19, 45, 52, 53, 54, 55, 17, 50, 51, 123, 124, 125, 126, 127, 128, 129, 130, 131, 46, 47, 48, 49, 16, 132, 133, 134, 135, 15, 136, 137, 138, 139, 14, 140, 141, 142, 104, 143, 144, 145, 146, 147, 148, 149, 150, 151, 152, 153, 154, 155, 156, 157, 33, 158, 159, 160, 161, 56, 57, 58, 59, 60, 61, 62, 63, 162, 163, 164, 165, 166, 167, 168, 169, 170, 171, 172, 173, 174, 175, 176, 177, 178, 179, 180, 181, 182, 183, 184, 185, 186, 187, 188, 189, 190, 191, 192, 193, 68, 69, 194, 195, 196, 197, 198, 199, 200, 201, 202, 203, 214, 215, 216, 217, 218, 219, 220, 221, 222, 223, 224, 225, 226, 227, 228, 229] (by decide +kernel) (by decide +kernel)
set_option maxRecDepth 20000 in
theorem gX7_day_X1_goOn : GoodIn wsX7_day (wsV RX7 196 RX1 yX1_goOn wsX1_goOn) := goodIn_app (goodIn_of _ (by decide +kernel)) ggX7_day_X1_goOn
set_option maxRecDepth 20000 in
theorem ggX7_day_J6_bitCount_0f7a4 : GoodIn wsX7_day wsJ6_bitCount_0f7a4 := goodIn_r _ [77, 78, 79, 80] (by decide +kernel) (by decide +kernel)
set_option maxRecDepth 20000 in
theorem gX7_day_J6_bitCount_0f7a4 : GoodIn wsX7_day (va_wsS RX7 229 yJ6_bitCount_0f7a4 wsJ6_bitCount_0f7a4) := goodIn_app (goodIn_of _ (by decide +kernel)) ggX7_day_J6_bitCount_0f7a4
theorem dX7_day_0 : decode cX7_day 0 = .ok (.iload_n 1, 1) := by decide +kernel
theorem dX7_day_1 : decode cX7_day 1 = .ok (.ifCond .lt 30, 3) := by decide +kernel
theorem dX7_day_4 : decode cX7_day 4 = .ok (.iload_n 1, 1) := by decide +kernel
theorem dX7_day_5 : decode cX7_day 5 = .ok (.sipush 9999, 3) := by decide +kernel
theorem dX7_day_8 : decode cX7_day 8 = .ok (.if_icmp .gt 23, 3) := by decide +kernel
theorem dX7_day_11 : decode cX7_day 11 = .ok (.iload_n 2, 1) := by decide +kernel
theorem dX7_day_12 : decode cX7_day 12 = .ok (.iconst 1, 1) := by decide +kernel
theorem dX7_day_13 : decode cX7_day 13 = .ok (.if_icmp .lt 18, 3) := by decide +kernel
theorem dX7_day_16 : decode cX7_day 16 = .ok (.iload_n 2, 1) := by decide +kernel
theorem dX7_day_17 : decode cX7_day 17 = .ok (.bipush 60, 2) := by decide +kernel
theorem dX7_day_19 : decode cX7_day 19 = .ok (.if_icmp .gt 12, 3) := by decide +kernel
theorem dX7_day_22 : decode cX7_day 22 = .ok (.iload_n 3, 1) := by decide +kernel
theorem dX7_day_23 : decode cX7_day 23 = .ok (.ifCond .lt 8, 3) := by decide +kernel
theorem dX7_day_26 : decode cX7_day 26 = .ok (.iload_n 3, 1) := by decide +kernel
theorem dX7_day_27 : decode cX7_day 27 = .ok (.iconst 1, 1) := by decide +kernel
theorem dX7_day_28 : decode cX7_day 28 = .ok (.if_icmp .le 5, 3) := by decide +kernel
theorem dX7_day_31 : decode cX7_day 31 = .ok (.iconst (-1), 1) := by decide +kernel
theorem dX7_day_32 : decode cX7_day 32 = .ok (.ireturn, 1) := by decide +kernel
theorem dX7_day_33 : decode cX7_day 33 = .ok (.aload_n 0, 1) := by decide +kernel
theorem dX7_day_34 : decode cX7_day 34 = .ok (.getfield 39, 3) := by decide +kernel
theorem dX7_day_37 : decode cX7_day 37 = .ok (.aload_n 0, 1) := by decide +kernel
theorem dX7_day_38 : decode cX7_day 38 = .ok (.getfield 35, 3) := by decide +kernel
theorem dX7_day_41 : decode cX7_day 41 = .ok (.invokevirtual 237, 3) := by decide +kernel
theorem dX7_day_44 : decode cX7_day 44 = .ok (.iconst 0, 1) := by decide +kernel
theorem dX7_day_45 : decode cX7_day 45 = .ok (.istore 4, 2) := by decide +kernel
theorem dX7_day_47 : decode cX7_day 47 = .ok (.iload 4, 2) := by decide +kernel
theorem dX7_day_49 : decode cX7_day 49 = .ok (.iload_n 2, 1) := by decide +kernel
theorem dX7_day_50 : decode cX7_day 50 = .ok (.if_icmp .ge 30, 3) := by decide +kernel
theorem dX7_day_53 : decode cX7_day 53 = .ok (.aload_n 0, 1) := by decide +kernel
theorem dX7_day_54 : decode cX7_day 54 = .ok (.getfield 39, 3) := by decide +kernel
theorem dX7_day_57 : decode cX7_day 57 = .ok (.iload_n 1, 1) := by decide +kernel
theorem dX7_day_58 : decode cX7_day 58 = .ok (.iload 4, 2) := by decide +kernel
theorem dX7_day_60 : decode cX7_day 60 = .ok (.invokestatic 263, 3) := by decide +kernel
theorem dX7_day_63 : decode cX7_day 63 = .ok (.invokevirtual 266, 3) := by decide +kernel
theorem dX7_day_66 : decode cX7_day 66 = .ok (.aload_n 0, 1) := by decide +kernel
theorem dX7_day_67 : decode cX7_day 67 = .ok (.getfield 39, 3) := by decide +kernel
theorem dX7_day_70 : decode cX7_day 70 = .ok (.iconst 1, 1) := by decide +kernel
theorem dX7_day_71 : decode cX7_day 71 = .ok (.invokevirtual 196, 3) := by decide +kernel
theorem dX7_day_74 : decode cX7_day 74 = .ok (.iinc 4 1, 3) := by decide +kernel
theorem dX7_day_77 : decode cX7_day 77 = .ok (.goto (-30), 3) := by decide +kernel
theorem dX7_day_80 : decode cX7_day 80 = .ok (.iload_n 3, 1) := by decide +kernel
theorem dX7_day_81 : decode cX7_day 81 = .ok (.ifCond .ne 16, 3) := by decide +kernel
theorem dX7_day_84 : decode cX7_day 84 = .ok (.aload_n 0, 1) := by decide +kernel
theorem dX7_day_85 : decode cX7_day 85 = .ok (.getfield 39, 3) := by decide +kernel
theorem dX7_day_88 : decode cX7_day 88 = .ok (.getfield 269, 3) := by decide +kernel
theorem dX7_day_91 : decode cX7_day 91 = .ok (.invokestatic 229, 3) := by decide +kernel
theorem dX7_day_94 : decode cX7_day 94 = .ok (.goto 18, 3) := by decide +kernel
theorem dX7_day_97 : decode cX7_day 97 = .ok (.aload_n 0, 1) := by decide +kernel
theorem dX7_day_98 : decode cX7_day 98 = .ok (.getfield 39, 3) := by decide +kernel
theorem dX7_day_101 : decode cX7_day 101 = .ok (.getfield 272, 3) := by decide +kernel
theorem dX7_day_104 : decode cX7_day 104 = .ok (.aload_n 0, 1) := by decide +kernel
theorem dX7_day_105 : decode cX7_day 105 = .ok (.getfield 35, 3) := by decide +kernel
theorem dX7_day_108 : decode cX7_day 108 = .ok (.getfield 272, 3) := by decide +kernel
theorem dX7_day_111 : decode cX7_day 111 = .ok (.isub, 1) := by decide +kernel
theorem dX7_day_112 : decode cX7_day 112 = .ok (.ireturn, 1) := by decide +kernel
set_option maxRecDepth 20000 in
theorem ggX7_keep_X4_isFull : GoodIn wsX7_keep wsX4_isFull := goodIn_r _ [8, 9, 10, 49, 50] (by decide +kernel) (by decide +kernel)
set_option maxRecDepth 20000 in
theorem gX7_keep_X4_isFull : GoodIn wsX7_keep (wsV RX7 275 RX4 yX4_isFull wsX4_isFull) := goodIn_app (goodIn_of _ (by decide +kernel)) ggX7_keep_X4_isFull
set_option maxRecDepth 20000 in
theorem ggX7_keep_X4_push : GoodIn wsX7_keep wsX4_push := goodIn_r _ [14, 9, 15, 5, 6, 7, 8, 10, 16, 17, 18, 19, 20, 21, 22, 23, 24, 25, 26, 27, 28, 29, 30, 31, 32, 33, 34, 35, 36, 37, 38, 39, 49, 50, 51, 52, 53, 54, 55, 56, 57, 58, 59] (by decide +kernel) (by decide +kernel)
set_option maxRecDepth 20000 in
theorem gX7_keep_X4_push : GoodIn wsX7_keep (wsV RX7 163 RX4 yX4_push wsX4_push) := goodIn_app (goodIn_of _ (by decide +kernel)) ggX7_keep_X4_push
theorem dX7_keep_0 : decode cX7_keep 0 = .ok (.aload_n 0, 1) := by decide +kernel
theorem dX7_keep_1 : decode cX7_keep 1 = .ok (.getfield 51, 3) := by decide +kernel
theorem dX7_keep_4 : decode cX7_keep 4 = .ok (.invokevirtual 275, 3) := by decide +kernel
theorem dX7_keep_7 : decode cX7_keep 7 = .ok (.ifCond .eq 6, 3) := by decide +kernel
theorem dX7_keep_10 : decode cX7_keep 10 = .ok (.bipush (-3), 2) := by decide +kernel
theorem dX7_keep_12 : decode cX7_keep 12 = .ok (.ireturn, 1) := by decide +kernel
theorem dX7_keep_13 : decode cX7_keep 13 = .ok (.aload_n 0, 1) := by decide +kernel
theorem dX7_keep_14 : decode cX7_keep 14 = .ok (.getfield 51, 3) := by decide +kernel
theorem dX7_keep_17 : decode cX7_keep 17 = .ok (.aload_n 0, 1) := by decide +kernel
theorem dX7_keep_18 : decode cX7_keep 18 = .ok (.getfield 35, 3) := by decide +kernel
theorem dX7_keep_21 : decode cX7_keep 21 = .ok (.invokevirtual 163, 3) := by decide +kernel
theorem dX7_keep_24 : decode cX7_keep 24 = .ok (.aload_n 0, 1) := by decide +kernel
theorem dX7_keep_25 : decode cX7_keep 25 = .ok (.getfield 51, 3) := by decide +kernel
theorem dX7_keep_28 : decode cX7_keep 28 = .ok (.getfield 208, 3) := by decide +kernel
theorem dX7_keep_31 : decode cX7_keep 31 = .ok (.ireturn, 1) := by decide +kernel
set_option maxRecDepth 20000 in
theorem ggX7_back_X4_isEmpty : GoodIn wsX7_back wsX4_isEmpty := goodIn_r _ [9, 10, 49, 50] (by decide +kernel) (by decide +kernel)
set_option maxRecDepth 20000 in
theorem gX7_back_X4_isEmpty : GoodIn wsX7_back (wsV RX7 202 RX4 yX4_isEmpty wsX4_isEmpty) := goodIn_app (goodIn_of _ (by decide +kernel)) ggX7_back_X4_isEmpty
set_option maxRecDepth 20000 in
theorem ggX7_back_X4_popInto : GoodIn wsX7_back wsX4_popInto := goodIn_r _ [14, 10, 15, 16, 17, 8, 18, 19, 20, 21, 22, 23, 24, 25, 26, 27, 28, 29, 30, 31, 32, 33, 34, 35, 49, 50, 51, 52, 53, 54, 55, 56, 57, 58, 59] (by decide +kernel) (by decide +kernel)
set_option maxRecDepth 20000 in
theorem gX7_back_X4_popInto : GoodIn wsX7_back (wsV RX7 205 RX4 yX4_popInto wsX4_popInto) := goodIn_app (goodIn_of _ (by decide +kernel)) ggX7_back_X4_popInto
set_option maxRecDepth 20000 in
theorem ggX7_back_X4_clear : GoodIn wsX7_back wsX4_clear := goodIn_r _ [39, 10, 49, 50] (by decide +kernel) (by decide +kernel)
set_option maxRecDepth 20000 in
theorem gX7_back_X4_clear : GoodIn wsX7_back (wsV RX7 276 RX4 yX4_clear wsX4_clear) := goodIn_app (goodIn_of _ (by decide +kernel)) ggX7_back_X4_clear
theorem dX7_back_0 : decode cX7_back 0 = .ok (.aload_n 0, 1) := by decide +kernel
theorem dX7_back_1 : decode cX7_back 1 = .ok (.getfield 51, 3) := by decide +kernel
theorem dX7_back_4 : decode cX7_back 4 = .ok (.invokevirtual 202, 3) := by decide +kernel
theorem dX7_back_7 : decode cX7_back 7 = .ok (.ifCond .eq 6, 3) := by decide +kernel
theorem dX7_back_10 : decode cX7_back 10 = .ok (.bipush (-2), 2) := by decide +kernel
theorem dX7_back_12 : decode cX7_back 12 = .ok (.ireturn, 1) := by decide +kernel
theorem dX7_back_13 : decode cX7_back 13 = .ok (.aload_n 0, 1) := by decide +kernel
theorem dX7_back_14 : decode cX7_back 14 = .ok (.getfield 51, 3) := by decide +kernel
theorem dX7_back_17 : decode cX7_back 17 = .ok (.aload_n 0, 1) := by decide +kernel
theorem dX7_back_18 : decode cX7_back 18 = .ok (.getfield 35, 3) := by decide +kernel
theorem dX7_back_21 : decode cX7_back 21 = .ok (.invokevirtual 205, 3) := by decide +kernel
theorem dX7_back_24 : decode cX7_back 24 = .ok (.aload_n 0, 1) := by decide +kernel
theorem dX7_back_25 : decode cX7_back 25 = .ok (.getfield 47, 3) := by decide +kernel
theorem dX7_back_28 : decode cX7_back 28 = .ok (.invokevirtual 276, 3) := by decide +kernel
theorem dX7_back_31 : decode cX7_back 31 = .ok (.aload_n 0, 1) := by decide +kernel
theorem dX7_back_32 : decode cX7_back 32 = .ok (.getfield 51, 3) := by decide +kernel
theorem dX7_back_35 : decode cX7_back 35 = .ok (.getfield 208, 3) := by decide +kernel
theorem dX7_back_38 : decode cX7_back 38 = .ok (.ireturn, 1) := by decide +kernel
set_option maxRecDepth 20000 in
theorem ggX7_count_J6_bitCount_0f7a4 : GoodIn wsX7_count wsJ6_bitCount_0f7a4 := goodIn_r _ [21, 22, 23, 24] (by decide +kernel) (by decide +kernel)
set_option maxRecDepth 20000 in
theorem gX7_count_J6_bitCount_0f7a4 : GoodIn wsX7_count (va_wsS RX7 229 yJ6_bitCount_0f7a4 wsJ6_bitCount_0f7a4) := goodIn_app (goodIn_of _ (by decide +kernel)) ggX7_count_J6_bitCount_0f7a4
set_option maxRecDepth 20000 in
theorem ggX7_count_X1_parasolsInStand : GoodIn wsX7_count wsX1_parasolsInStand := goodIn_r _ [29, 30, 31, 32, 33, 34, 28, 35, 36, 37, 38, 39, 40, 41, 42, 43, 44, 45, 46, 47, 48, 65, 66, 67, 68, 69, 70, 71, 72, 73, 58, 59, 60, 61, 62, 63, 64] (by decide +kernel) (by decide +kernel)
set_option maxRecDepth 20000 in
theorem gX7_count_X1_parasolsInStand : GoodIn wsX7_count (wsV RX7 283 RX1 yX1_parasolsInStand wsX1_parasolsInStand) := goodIn_app (goodIn_of _ (by decide +kernel)) ggX7_count_X1_parasolsInStand
theorem dX7_count_0 : decode cX7_count 0 = .ok (.iload_n 1, 1) := by decide +kernel
theorem dX7_count_1 : decode cX7_count 1 = .ok (.tableswitch 177 0 12 #[67, 75, 83, 91, 99, 107, 118, 126, 137, 145, 153, 161, 169], 67) := by decide +kernel
theorem dX7_count_68 : decode cX7_count 68 = .ok (.aload_n 0, 1) := by decide +kernel
theorem dX7_count_69 : decode cX7_count 69 = .ok (.getfield 26, 3) := by decide +kernel
theorem dX7_count_72 : decode cX7_count 72 = .ok (.getfield 277, 3) := by decide +kernel
theorem dX7_count_75 : decode cX7_count 75 = .ok (.ireturn, 1) := by decide +kernel
theorem dX7_count_76 : decode cX7_count 76 = .ok (.aload_n 0, 1) := by decide +kernel
theorem dX7_count_77 : decode cX7_count 77 = .ok (.getfield 26, 3) := by decide +kernel
theorem dX7_count_80 : decode cX7_count 80 = .ok (.getfield 102, 3) := by decide +kernel
theorem dX7_count_83 : decode cX7_count 83 = .ok (.ireturn, 1) := by decide +kernel
theorem dX7_count_84 : decode cX7_count 84 = .ok (.aload_n 0, 1) := by decide +kernel
theorem dX7_count_85 : decode cX7_count 85 = .ok (.getfield 26, 3) := by decide +kernel
theorem dX7_count_88 : decode cX7_count 88 = .ok (.getfield 105, 3) := by decide +kernel
theorem dX7_count_91 : decode cX7_count 91 = .ok (.ireturn, 1) := by decide +kernel
theorem dX7_count_92 : decode cX7_count 92 = .ok (.aload_n 0, 1) := by decide +kernel
theorem dX7_count_93 : decode cX7_count 93 = .ok (.getfield 26, 3) := by decide +kernel
theorem dX7_count_96 : decode cX7_count 96 = .ok (.getfield 280, 3) := by decide +kernel
theorem dX7_count_99 : decode cX7_count 99 = .ok (.ireturn, 1) := by decide +kernel
theorem dX7_count_100 : decode cX7_count 100 = .ok (.aload_n 0, 1) := by decide +kernel
theorem dX7_count_101 : decode cX7_count 101 = .ok (.getfield 35, 3) := by decide +kernel
theorem dX7_count_104 : decode cX7_count 104 = .ok (.getfield 199, 3) := by decide +kernel
theorem dX7_count_107 : decode cX7_count 107 = .ok (.ireturn, 1) := by decide +kernel
theorem dX7_count_108 : decode cX7_count 108 = .ok (.aload_n 0, 1) := by decide +kernel
theorem dX7_count_109 : decode cX7_count 109 = .ok (.getfield 35, 3) := by decide +kernel
theorem dX7_count_112 : decode cX7_count 112 = .ok (.getfield 269, 3) := by decide +kernel
theorem dX7_count_115 : decode cX7_count 115 = .ok (.invokestatic 229, 3) := by decide +kernel
theorem dX7_count_118 : decode cX7_count 118 = .ok (.ireturn, 1) := by decide +kernel
theorem dX7_count_119 : decode cX7_count 119 = .ok (.aload_n 0, 1) := by decide +kernel
theorem dX7_count_120 : decode cX7_count 120 = .ok (.getfield 35, 3) := by decide +kernel
theorem dX7_count_123 : decode cX7_count 123 = .ok (.getfield 272, 3) := by decide +kernel
theorem dX7_count_126 : decode cX7_count 126 = .ok (.ireturn, 1) := by decide +kernel
theorem dX7_count_127 : decode cX7_count 127 = .ok (.aload_n 0, 1) := by decide +kernel
theorem dX7_count_128 : decode cX7_count 128 = .ok (.getfield 35, 3) := by decide +kernel
theorem dX7_count_131 : decode cX7_count 131 = .ok (.getfield 240, 3) := by decide +kernel
theorem dX7_count_134 : decode cX7_count 134 = .ok (.invokestatic 229, 3) := by decide +kernel
theorem dX7_count_137 : decode cX7_count 137 = .ok (.ireturn, 1) := by decide +kernel
theorem dX7_count_138 : decode cX7_count 138 = .ok (.aload_n 0, 1) := by decide +kernel
theorem dX7_count_139 : decode cX7_count 139 = .ok (.getfield 35, 3) := by decide +kernel
theorem dX7_count_142 : decode cX7_count 142 = .ok (.invokevirtual 283, 3) := by decide +kernel
theorem dX7_count_145 : decode cX7_count 145 = .ok (.ireturn, 1) := by decide +kernel
theorem dX7_count_146 : decode cX7_count 146 = .ok (.aload_n 0, 1) := by decide +kernel
theorem dX7_count_147 : decode cX7_count 147 = .ok (.getfield 57, 3) := by decide +kernel
theorem dX7_count_150 : decode cX7_count 150 = .ok (.getfield 250, 3) := by decide +kernel
theorem dX7_count_153 : decode cX7_count 153 = .ok (.ireturn, 1) := by decide +kernel
theorem dX7_count_154 : decode cX7_count 154 = .ok (.aload_n 0, 1) := by decide +kernel
theorem dX7_count_155 : decode cX7_count 155 = .ok (.getfield 47, 3) := by decide +kernel
theorem dX7_count_158 : decode cX7_count 158 = .ok (.getfield 208, 3) := by decide +kernel
theorem dX7_count_161 : decode cX7_count 161 = .ok (.ireturn, 1) := by decide +kernel
theorem dX7_count_162 : decode cX7_count 162 = .ok (.aload_n 0, 1) := by decide +kernel
theorem dX7_count_163 : decode cX7_count 163 = .ok (.getfield 51, 3) := by decide +kernel
theorem dX7_count_166 : decode cX7_count 166 = .ok (.getfield 208, 3) := by decide +kernel
theorem dX7_count_169 : decode cX7_count 169 = .ok (.ireturn, 1) := by decide +kernel
theorem dX7_count_170 : decode cX7_count 170 = .ok (.aload_n 0, 1) := by decide +kernel
theorem dX7_count_171 : decode cX7_count 171 = .ok (.getfield 10, 3) := by decide +kernel
theorem dX7_count_174 : decode cX7_count 174 = .ok (.getfield 98, 3) := by decide +kernel
theorem dX7_count_177 : decode cX7_count 177 = .ok (.ireturn, 1) := by decide +kernel
theorem dX7_count_178 : decode cX7_count 178 = .ok (.iconst (-1), 1) := by decide +kernel
theorem dX7_count_179 : decode cX7_count 179 = .ok (.ireturn, 1) := by decide +kernel
set_option maxRecDepth 20000 in
theorem ggX7_settle_X2_copyFrom : GoodIn wsX7_settle wsX2_copyFrom := goodIn_r _ [13, 14, 15, 16, 17, 18, 19, 20, 21, 22, 23, 61, 62, 63, 64, 65, 66, 67] (by decide +kernel) (by decide +kernel)
set_option maxRecDepth 20000 in
theorem gX7_settle_X2_copyFrom : GoodIn wsX7_settle (wsV RX7 286 RX2 yX2_copyFrom wsX2_copyFrom) := goodIn_app (goodIn_of _ (by decide +kernel)) ggX7_settle_X2_copyFrom
set_option maxRecDepth 20000 in
theorem ggX7_settle_X1_copyFrom : GoodIn wsX7_settle wsX1_copyFrom := goodIn_r _ [28, 29, 30, 31, 32, 33, 34, 35, 36, 21, 22, 23, 68, 69, 70, 71, 72, 73, 74, 75, 76] (by decide +kernel) (by decide +kernel)
set_option maxRecDepth 20000 in
theorem gX7_settle_X1_copyFrom : GoodIn wsX7_settle (wsV RX7 237 RX1 yX1_copyFrom wsX1_copyFrom) := goodIn_app (goodIn_of _ (by decide +kernel)) ggX7_settle_X1_copyFrom
set_option maxRecDepth 20000 in
theorem ggX7_settle_X4_clear : GoodIn wsX7_settle wsX4_clear := goodIn_r _ [41, 42, 77, 78] (by decide +kernel) (by decide +kernel)
set_option maxRecDepth 20000 in
theorem gX7_settle_X4_clear : GoodIn wsX7_settle (wsV RX7 276 RX4 yX4_clear wsX4_clear) := goodIn_app (goodIn_of _ (by decide +kernel)) ggX7_settle_X4_clear
set_option maxRecDepth 20000 in
theorem ggX7_settle_X5_clear : GoodIn wsX7_settle wsX5_clear := goodIn_r _ [47, 48, 79, 80, 81] (by decide +kernel) (by decide +kernel)
set_option maxRecDepth 20000 in
theorem gX7_settle_X5_clear : GoodIn wsX7_settle (wsV RX7 251 RX5 yX5_clear wsX5_clear) := goodIn_app (goodIn_of _ (by decide +kernel)) ggX7_settle_X5_clear
theorem dX7_settle_0 : decode cX7_settle 0 = .ok (.aload_n 0, 1) := by decide +kernel
theorem dX7_settle_1 : decode cX7_settle 1 = .ok (.getfield 26, 3) := by decide +kernel
theorem dX7_settle_4 : decode cX7_settle 4 = .ok (.aload_n 0, 1) := by decide +kernel
theorem dX7_settle_5 : decode cX7_settle 5 = .ok (.getfield 19, 3) := by decide +kernel
theorem dX7_settle_8 : decode cX7_settle 8 = .ok (.getfield 101, 3) := by decide +kernel
theorem dX7_settle_11 : decode cX7_settle 11 = .ok (.invokevirtual 286, 3) := by decide +kernel
theorem dX7_settle_14 : decode cX7_settle 14 = .ok (.aload_n 0, 1) := by decide +kernel
theorem dX7_settle_15 : decode cX7_settle 15 = .ok (.getfield 35, 3) := by decide +kernel
theorem dX7_settle_18 : decode cX7_settle 18 = .ok (.aload_n 0, 1) := by decide +kernel
theorem dX7_settle_19 : decode cX7_settle 19 = .ok (.getfield 19, 3) := by decide +kernel
theorem dX7_settle_22 : decode cX7_settle 22 = .ok (.getfield 288, 3) := by decide +kernel
theorem dX7_settle_25 : decode cX7_settle 25 = .ok (.invokevirtual 237, 3) := by decide +kernel
theorem dX7_settle_28 : decode cX7_settle 28 = .ok (.aload_n 0, 1) := by decide +kernel
theorem dX7_settle_29 : decode cX7_settle 29 = .ok (.getfield 47, 3) := by decide +kernel
theorem dX7_settle_32 : decode cX7_settle 32 = .ok (.invokevirtual 276, 3) := by decide +kernel
theorem dX7_settle_35 : decode cX7_settle 35 = .ok (.aload_n 0, 1) := by decide +kernel
theorem dX7_settle_36 : decode cX7_settle 36 = .ok (.getfield 51, 3) := by decide +kernel
theorem dX7_settle_39 : decode cX7_settle 39 = .ok (.invokevirtual 276, 3) := by decide +kernel
theorem dX7_settle_42 : decode cX7_settle 42 = .ok (.aload_n 0, 1) := by decide +kernel
theorem dX7_settle_43 : decode cX7_settle 43 = .ok (.getfield 57, 3) := by decide +kernel
theorem dX7_settle_46 : decode cX7_settle 46 = .ok (.invokevirtual 251, 3) := by decide +kernel
theorem dX7_settle_49 : decode cX7_settle 49 = .ok (.return_, 1) := by decide +kernel
theorem dX7_isHour_0 : decode cX7_isHour 0 = .ok (.iload_n 0, 1) := by decide +kernel
theorem dX7_isHour_1 : decode cX7_isHour 1 = .ok (.ifCond .lt 13, 3) := by decide +kernel
theorem dX7_isHour_4 : decode cX7_isHour 4 = .ok (.iload_n 0, 1) := by decide +kernel
theorem dX7_isHour_5 : decode cX7_isHour 5 = .ok (.bipush 24, 2) := by decide +kernel
theorem dX7_isHour_7 : decode cX7_isHour 7 = .ok (.if_icmp .ge 7, 3) := by decide +kernel
theorem dX7_isHour_10 : decode cX7_isHour 10 = .ok (.iconst 1, 1) := by decide +kernel
theorem dX7_isHour_11 : decode cX7_isHour 11 = .ok (.goto 4, 3) := by decide +kernel
theorem dX7_isHour_14 : decode cX7_isHour 14 = .ok (.iconst 0, 1) := by decide +kernel
theorem dX7_isHour_15 : decode cX7_isHour 15 = .ok (.ireturn, 1) := by decide +kernel
theorem dX7_at_0 : decode cX7_at 0 = .ok (.iload_n 1, 1) := by decide +kernel
theorem dX7_at_1 : decode cX7_at 1 = .ok (.ifCond .lt 15, 3) := by decide +kernel
theorem dX7_at_4 : decode cX7_at 4 = .ok (.iload_n 1, 1) := by decide +kernel
theorem dX7_at_5 : decode cX7_at 5 = .ok (.aload_n 0, 1) := by decide +kernel
theorem dX7_at_6 : decode cX7_at 6 = .ok (.arraylength, 1) := by decide +kernel
theorem dX7_at_7 : decode cX7_at 7 = .ok (.if_icmp .ge 9, 3) := by decide +kernel
theorem dX7_at_10 : decode cX7_at 10 = .ok (.aload_n 0, 1) := by decide +kernel
theorem dX7_at_11 : decode cX7_at 11 = .ok (.iload_n 1, 1) := by decide +kernel
theorem dX7_at_12 : decode cX7_at 12 = .ok (.iaload, 1) := by decide +kernel
theorem dX7_at_13 : decode cX7_at 13 = .ok (.goto 4, 3) := by decide +kernel
theorem dX7_at_16 : decode cX7_at 16 = .ok (.iconst 0, 1) := by decide +kernel
theorem dX7_at_17 : decode cX7_at 17 = .ok (.ireturn, 1) := by decide +kernel
theorem dX7_put_0 : decode cX7_put 0 = .ok (.iload_n 1, 1) := by decide +kernel
theorem dX7_put_1 : decode cX7_put 1 = .ok (.ifCond .lt 13, 3) := by decide +kernel
theorem dX7_put_4 : decode cX7_put 4 = .ok (.iload_n 1, 1) := by decide +kernel
theorem dX7_put_5 : decode cX7_put 5 = .ok (.aload_n 0, 1) := by decide +kernel
theorem dX7_put_6 : decode cX7_put 6 = .ok (.arraylength, 1) := by decide +kernel
theorem dX7_put_7 : decode cX7_put 7 = .ok (.if_icmp .ge 7, 3) := by decide +kernel
theorem dX7_put_10 : decode cX7_put 10 = .ok (.aload_n 0, 1) := by decide +kernel
theorem dX7_put_11 : decode cX7_put 11 = .ok (.iload_n 1, 1) := by decide +kernel
theorem dX7_put_12 : decode cX7_put 12 = .ok (.iload_n 2, 1) := by decide +kernel
theorem dX7_put_13 : decode cX7_put 13 = .ok (.iastore, 1) := by decide +kernel
theorem dX7_put_14 : decode cX7_put 14 = .ok (.return_, 1) := by decide +kernel
theorem dX7_copyRow_0 : decode cX7_copyRow 0 = .ok (.iconst 0, 1) := by decide +kernel
theorem dX7_copyRow_1 : decode cX7_copyRow 1 = .ok (.istore_n 2, 1) := by decide +kernel
theorem dX7_copyRow_2 : decode cX7_copyRow 2 = .ok (.iload_n 2, 1) := by decide +kernel
theorem dX7_copyRow_3 : decode cX7_copyRow 3 = .ok (.aload_n 0, 1) := by decide +kernel
theorem dX7_copyRow_4 : decode cX7_copyRow 4 = .ok (.arraylength, 1) := by decide +kernel
theorem dX7_copyRow_5 : decode cX7_copyRow 5 = .ok (.if_icmp .ge 21, 3) := by decide +kernel
theorem dX7_copyRow_8 : decode cX7_copyRow 8 = .ok (.iload_n 2, 1) := by decide +kernel
theorem dX7_copyRow_9 : decode cX7_copyRow 9 = .ok (.aload_n 1, 1) := by decide +kernel
theorem dX7_copyRow_10 : decode cX7_copyRow 10 = .ok (.arraylength, 1) := by decide +kernel
theorem dX7_copyRow_11 : decode cX7_copyRow 11 = .ok (.if_icmp .ge 15, 3) := by decide +kernel
theorem dX7_copyRow_14 : decode cX7_copyRow 14 = .ok (.aload_n 1, 1) := by decide +kernel
theorem dX7_copyRow_15 : decode cX7_copyRow 15 = .ok (.iload_n 2, 1) := by decide +kernel
theorem dX7_copyRow_16 : decode cX7_copyRow 16 = .ok (.aload_n 0, 1) := by decide +kernel
theorem dX7_copyRow_17 : decode cX7_copyRow 17 = .ok (.iload_n 2, 1) := by decide +kernel
theorem dX7_copyRow_18 : decode cX7_copyRow 18 = .ok (.iaload, 1) := by decide +kernel
theorem dX7_copyRow_19 : decode cX7_copyRow 19 = .ok (.iastore, 1) := by decide +kernel
theorem dX7_copyRow_20 : decode cX7_copyRow 20 = .ok (.iinc 2 1, 3) := by decide +kernel
theorem dX7_copyRow_23 : decode cX7_copyRow 23 = .ok (.goto (-21), 3) := by decide +kernel
theorem dX7_copyRow_26 : decode cX7_copyRow 26 = .ok (.return_, 1) := by decide +kernel
theorem dX7_hasBit_0 : decode cX7_hasBit 0 = .ok (.iload_n 0, 1) := by decide +kernel
theorem dX7_hasBit_1 : decode cX7_hasBit 1 = .ok (.iload_n 1, 1) := by decide +kernel
theorem dX7_hasBit_2 : decode cX7_hasBit 2 = .ok (.ishr, 1) := by decide +kernel
theorem dX7_hasBit_3 : decode cX7_hasBit 3 = .ok (.iconst 1, 1) := by decide +kernel
theorem dX7_hasBit_4 : decode cX7_hasBit 4 = .ok (.iand, 1) := by decide +kernel
theorem dX7_hasBit_5 : decode cX7_hasBit 5 = .ok (.iconst 1, 1) := by decide +kernel
theorem dX7_hasBit_6 : decode cX7_hasBit 6 = .ok (.if_icmp .ne 7, 3) := by decide +kernel
theorem dX7_hasBit_9 : decode cX7_hasBit 9 = .ok (.iconst 1, 1) := by decide +kernel
theorem dX7_hasBit_10 : decode cX7_hasBit 10 = .ok (.goto 4, 3) := by decide +kernel
theorem dX7_hasBit_13 : decode cX7_hasBit 13 = .ok (.iconst 0, 1) := by decide +kernel
theorem dX7_hasBit_14 : decode cX7_hasBit 14 = .ok (.ireturn, 1) := by decide +kernel
theorem dX7_modulo_0 : decode cX7_modulo 0 = .ok (.iload_n 1, 1) := by decide +kernel
theorem dX7_modulo_1 : decode cX7_modulo 1 = .ok (.ifCond .le 9, 3) := by decide +kernel
theorem dX7_modulo_4 : decode cX7_modulo 4 = .ok (.iload_n 0, 1) := by decide +kernel
theorem dX7_modulo_5 : decode cX7_modulo 5 = .ok (.iload_n 1, 1) := by decide +kernel
theorem dX7_modulo_6 : decode cX7_modulo 6 = .ok (.irem, 1) := by decide +kernel
theorem dX7_modulo_7 : decode cX7_modulo 7 = .ok (.goto 4, 3) := by decide +kernel
theorem dX7_modulo_10 : decode cX7_modulo 10 = .ok (.iconst 0, 1) := by decide +kernel
theorem dX7_modulo_11 : decode cX7_modulo 11 = .ok (.ireturn, 1) := by decide +kernel
theorem dX7_evenHours_0 : decode cX7_evenHours 0 = .ok (.iload_n 1, 1) := by decide +kernel
theorem dX7_evenHours_1 : decode cX7_evenHours 1 = .ok (.iconst 1, 1) := by decide +kernel
theorem dX7_evenHours_2 : decode cX7_evenHours 2 = .ok (.iadd, 1) := by decide +kernel
theorem dX7_evenHours_3 : decode cX7_evenHours 3 = .ok (.iload_n 0, 1) := by decide +kernel
theorem dX7_evenHours_4 : decode cX7_evenHours 4 = .ok (.iconst 2, 1) := by decide +kernel
theorem dX7_evenHours_5 : decode cX7_evenHours 5 = .ok (.irem, 1) := by decide +kernel
theorem dX7_evenHours_6 : decode cX7_evenHours 6 = .ok (.isub, 1) := by decide +kernel
theorem dX7_evenHours_7 : decode cX7_evenHours 7 = .ok (.iconst 2, 1) := by decide +kernel
theorem dX7_evenHours_8 : decode cX7_evenHours 8 = .ok (.idiv, 1) := by decide +kernel
theorem dX7_evenHours_9 : decode cX7_evenHours 9 = .ok (.ireturn, 1) := by decide +kernel
set_option maxRecDepth 20000 in
theorem ggX7_turnsOf_X7_evenHours : GoodIn wsX7_turnsOf wsX7_evenHours := goodIn_r _ [4] (by decide +kernel) (by decide +kernel)
set_option maxRecDepth 20000 in
theorem gX7_turnsOf_X7_evenHours : GoodIn wsX7_turnsOf (va_wsS RX7 291 yX7_evenHours wsX7_evenHours) := goodIn_app (goodIn_of _ (by decide +kernel)) ggX7_turnsOf_X7_evenHours
theorem dX7_turnsOf_0 : decode cX7_turnsOf 0 = .ok (.iload_n 0, 1) := by decide +kernel
theorem dX7_turnsOf_1 : decode cX7_turnsOf 1 = .ok (.iconst 2, 1) := by decide +kernel
theorem dX7_turnsOf_2 : decode cX7_turnsOf 2 = .ok (.if_icmp .ne 11, 3) := by decide +kernel
theorem dX7_turnsOf_5 : decode cX7_turnsOf 5 = .ok (.iload_n 1, 1) := by decide +kernel
theorem dX7_turnsOf_6 : decode cX7_turnsOf 6 = .ok (.iload_n 2, 1) := by decide +kernel
theorem dX7_turnsOf_7 : decode cX7_turnsOf 7 = .ok (.invokestatic 291, 3) := by decide +kernel
theorem dX7_turnsOf_10 : decode cX7_turnsOf 10 = .ok (.goto 4, 3) := by decide +kernel
theorem dX7_turnsOf_13 : decode cX7_turnsOf 13 = .ok (.iload_n 2, 1) := by decide +kernel
theorem dX7_turnsOf_14 : decode cX7_turnsOf 14 = .ok (.ireturn, 1) := by decide +kernel
theorem dX7_turnOf_0 : decode cX7_turnOf 0 = .ok (.iload_n 0, 1) := by decide +kernel
theorem dX7_turnOf_1 : decode cX7_turnOf 1 = .ok (.iconst 3, 1) := by decide +kernel
theorem dX7_turnOf_2 : decode cX7_turnOf 2 = .ok (.if_icmp .ne 7, 3) := by decide +kernel
theorem dX7_turnOf_5 : decode cX7_turnOf 5 = .ok (.iconst 2, 1) := by decide +kernel
theorem dX7_turnOf_6 : decode cX7_turnOf 6 = .ok (.goto 4, 3) := by decide +kernel
theorem dX7_turnOf_9 : decode cX7_turnOf 9 = .ok (.iconst 1, 1) := by decide +kernel
theorem dX7_turnOf_10 : decode cX7_turnOf 10 = .ok (.ireturn, 1) := by decide +kernel
set_option maxRecDepth 20000 in
theorem ggX7_wearOf_X7_evenHours : GoodIn wsX7_wearOf wsX7_evenHours := goodIn_r _ [4] (by decide +kernel) (by decide +kernel)
set_option maxRecDepth 20000 in
theorem gX7_wearOf_X7_evenHours : GoodIn wsX7_wearOf (va_wsS RX7 291 yX7_evenHours wsX7_evenHours) := goodIn_app (goodIn_of _ (by decide +kernel)) ggX7_wearOf_X7_evenHours
theorem dX7_wearOf_0 : decode cX7_wearOf 0 = .ok (.iload_n 0, 1) := by decide +kernel
theorem dX7_wearOf_1 : decode cX7_wearOf 1 = .ok (.iconst 1, 1) := by decide +kernel
theorem dX7_wearOf_2 : decode cX7_wearOf 2 = .ok (.if_icmp .ne 11, 3) := by decide +kernel
theorem dX7_wearOf_5 : decode cX7_wearOf 5 = .ok (.iload_n 1, 1) := by decide +kernel
theorem dX7_wearOf_6 : decode cX7_wearOf 6 = .ok (.iload_n 2, 1) := by decide +kernel
theorem dX7_wearOf_7 : decode cX7_wearOf 7 = .ok (.invokestatic 291, 3) := by decide +kernel
theorem dX7_wearOf_10 : decode cX7_wearOf 10 = .ok (.goto 4, 3) := by decide +kernel
theorem dX7_wearOf_13 : decode cX7_wearOf 13 = .ok (.iload_n 2, 1) := by decide +kernel
theorem dX7_wearOf_14 : decode cX7_wearOf 14 = .ok (.ireturn, 1) := by decide +kernel
theorem dX7_drawOf_0 : decode cX7_drawOf 0 = .ok (.ldc2_w 294, 3) := by decide +kernel
theorem dX7_drawOf_3 : decode cX7_drawOf 3 = .ok (.iload_n 0, 1) := by decide +kernel
theorem dX7_drawOf_4 : decode cX7_drawOf 4 = .ok (.i2l, 1) := by decide +kernel
theorem dX7_drawOf_5 : decode cX7_drawOf 5 = .ok (.lmul, 1) := by decide +kernel
theorem dX7_drawOf_6 : decode cX7_drawOf 6 = .ok (.ldc2_w 296, 3) := by decide +kernel
theorem dX7_drawOf_9 : decode cX7_drawOf 9 = .ok (.iload_n 1, 1) := by decide +kernel
theorem dX7_drawOf_10 : decode cX7_drawOf 10 = .ok (.i2l, 1) := by decide +kernel
theorem dX7_drawOf_11 : decode cX7_drawOf 11 = .ok (.lmul, 1) := by decide +kernel
theorem dX7_drawOf_12 : decode cX7_drawOf 12 = .ok (.ladd, 1) := by decide +kernel
theorem dX7_drawOf_13 : decode cX7_drawOf 13 = .ok (.lconst 1, 1) := by decide +kernel
theorem dX7_drawOf_14 : decode cX7_drawOf 14 = .ok (.ladd, 1) := by decide +kernel
theorem dX7_drawOf_15 : decode cX7_drawOf 15 = .ok (.lstore_n 2, 1) := by decide +kernel
theorem dX7_drawOf_16 : decode cX7_drawOf 16 = .ok (.lload_n 2, 1) := by decide +kernel
theorem dX7_drawOf_17 : decode cX7_drawOf 17 = .ok (.lload_n 2, 1) := by decide +kernel
theorem dX7_drawOf_18 : decode cX7_drawOf 18 = .ok (.lmul, 1) := by decide +kernel
theorem dX7_drawOf_19 : decode cX7_drawOf 19 = .ok (.ldc2_w 298, 3) := by decide +kernel
theorem dX7_drawOf_22 : decode cX7_drawOf 22 = .ok (.lrem, 1) := by decide +kernel
theorem dX7_drawOf_23 : decode cX7_drawOf 23 = .ok (.l2i, 1) := by decide +kernel
theorem dX7_drawOf_24 : decode cX7_drawOf 24 = .ok (.ireturn, 1) := by decide +kernel
theorem dX7_power_0 : decode cX7_power 0 = .ok (.iconst 1, 1) := by decide +kernel
theorem dX7_power_1 : decode cX7_power 1 = .ok (.istore_n 2, 1) := by decide +kernel
theorem dX7_power_2 : decode cX7_power 2 = .ok (.iconst 0, 1) := by decide +kernel
theorem dX7_power_3 : decode cX7_power 3 = .ok (.istore_n 3, 1) := by decide +kernel
theorem dX7_power_4 : decode cX7_power 4 = .ok (.iload_n 3, 1) := by decide +kernel
theorem dX7_power_5 : decode cX7_power 5 = .ok (.iload_n 1, 1) := by decide +kernel
theorem dX7_power_6 : decode cX7_power 6 = .ok (.if_icmp .ge 13, 3) := by decide +kernel
theorem dX7_power_9 : decode cX7_power 9 = .ok (.iload_n 2, 1) := by decide +kernel
theorem dX7_power_10 : decode cX7_power 10 = .ok (.iload_n 0, 1) := by decide +kernel
theorem dX7_power_11 : decode cX7_power 11 = .ok (.imul, 1) := by decide +kernel
theorem dX7_power_12 : decode cX7_power 12 = .ok (.istore_n 2, 1) := by decide +kernel
theorem dX7_power_13 : decode cX7_power 13 = .ok (.iinc 3 1, 3) := by decide +kernel
theorem dX7_power_16 : decode cX7_power 16 = .ok (.goto (-12), 3) := by decide +kernel
theorem dX7_power_19 : decode cX7_power 19 = .ok (.iload_n 2, 1) := by decide +kernel
theorem dX7_power_20 : decode cX7_power 20 = .ok (.ireturn, 1) := by decide +kernel
theorem dX7_choicesOf_0 : decode cX7_choicesOf 0 = .ok (.iconst 1, 1) := by decide +kernel
theorem dX7_choicesOf_1 : decode cX7_choicesOf 1 = .ok (.istore_n 2, 1) := by decide +kernel
theorem dX7_choicesOf_2 : decode cX7_choicesOf 2 = .ok (.iconst 0, 1) := by decide +kernel
theorem dX7_choicesOf_3 : decode cX7_choicesOf 3 = .ok (.istore_n 3, 1) := by decide +kernel
theorem dX7_choicesOf_4 : decode cX7_choicesOf 4 = .ok (.iload_n 3, 1) := by decide +kernel
theorem dX7_choicesOf_5 : decode cX7_choicesOf 5 = .ok (.iload_n 0, 1) := by decide +kernel
theorem dX7_choicesOf_6 : decode cX7_choicesOf 6 = .ok (.if_icmp .ge 19, 3) := by decide +kernel
theorem dX7_choicesOf_9 : decode cX7_choicesOf 9 = .ok (.iload_n 2, 1) := by decide +kernel
theorem dX7_choicesOf_10 : decode cX7_choicesOf 10 = .ok (.iload_n 1, 1) := by decide +kernel
theorem dX7_choicesOf_11 : decode cX7_choicesOf 11 = .ok (.iload_n 3, 1) := by decide +kernel
theorem dX7_choicesOf_12 : decode cX7_choicesOf 12 = .ok (.isub, 1) := by decide +kernel
theorem dX7_choicesOf_13 : decode cX7_choicesOf 13 = .ok (.imul, 1) := by decide +kernel
theorem dX7_choicesOf_14 : decode cX7_choicesOf 14 = .ok (.iload_n 3, 1) := by decide +kernel
theorem dX7_choicesOf_15 : decode cX7_choicesOf 15 = .ok (.iconst 1, 1) := by decide +kernel
theorem dX7_choicesOf_16 : decode cX7_choicesOf 16 = .ok (.iadd, 1) := by decide +kernel
theorem dX7_choicesOf_17 : decode cX7_choicesOf 17 = .ok (.idiv, 1) := by decide +kernel
theorem dX7_choicesOf_18 : decode cX7_choicesOf 18 = .ok (.istore_n 2, 1) := by decide +kernel
theorem dX7_choicesOf_19 : decode cX7_choicesOf 19 = .ok (.iinc 3 1, 3) := by decide +kernel
theorem dX7_choicesOf_22 : decode cX7_choicesOf 22 = .ok (.goto (-18), 3) := by decide +kernel
theorem dX7_choicesOf_25 : decode cX7_choicesOf 25 = .ok (.iload_n 2, 1) := by decide +kernel
theorem dX7_choicesOf_26 : decode cX7_choicesOf 26 = .ok (.ireturn, 1) := by decide +kernel
