theorem dX4_largestRemainder_16 : decode cX4_largestRemainder 16 = .ok (.iload_n 2, 1) := by decide +kernel
theorem dX4_largestRemainder_17 : decode cX4_largestRemainder 17 = .ok (.iaload, 1) := by decide +kernel
theorem dX4_largestRemainder_18 : decode cX4_largestRemainder 18 = .ok (.aload_n 0, 1) := by decide +kernel
theorem dX4_largestRemainder_19 : decode cX4_largestRemainder 19 = .ok (.getfield 15, 3) := by decide +kernel
theorem dX4_largestRemainder_22 : decode cX4_largestRemainder 22 = .ok (.iload_n 1, 1) := by decide +kernel
theorem dX4_largestRemainder_23 : decode cX4_largestRemainder 23 = .ok (.iaload, 1) := by decide +kernel
theorem dX4_largestRemainder_24 : decode cX4_largestRemainder 24 = .ok (.if_icmp .le 5, 3) := by decide +kernel
theorem dX4_largestRemainder_27 : decode cX4_largestRemainder 27 = .ok (.iload_n 2, 1) := by decide +kernel
theorem dX4_largestRemainder_28 : decode cX4_largestRemainder 28 = .ok (.istore_n 1, 1) := by decide +kernel
theorem dX4_largestRemainder_29 : decode cX4_largestRemainder 29 = .ok (.iinc 2 1, 3) := by decide +kernel
theorem dX4_largestRemainder_32 : decode cX4_largestRemainder 32 = .ok (.goto (-28), 3) := by decide +kernel
theorem dX4_largestRemainder_35 : decode cX4_largestRemainder 35 = .ok (.iload_n 1, 1) := by decide +kernel
theorem dX4_largestRemainder_36 : decode cX4_largestRemainder 36 = .ok (.ireturn, 1) := by decide +kernel
theorem dX5_init_0 : decode cX5_init 0 = .ok (.aload_n 0, 1) := by decide +kernel
theorem dX5_init_1 : decode cX5_init 1 = .ok (.invokespecial 3, 3) := by decide +kernel
theorem dX5_init_4 : decode cX5_init 4 = .ok (.aload_n 0, 1) := by decide +kernel
theorem dX5_init_5 : decode cX5_init 5 = .ok (.bipush 24, 2) := by decide +kernel
theorem dX5_init_7 : decode cX5_init 7 = .ok (.newarray .int, 2) := by decide +kernel
theorem dX5_init_9 : decode cX5_init 9 = .ok (.putfield 9, 3) := by decide +kernel
theorem dX5_init_12 : decode cX5_init 12 = .ok (.aload_n 0, 1) := by decide +kernel
theorem dX5_init_13 : decode cX5_init 13 = .ok (.bipush 24, 2) := by decide +kernel
theorem dX5_init_15 : decode cX5_init 15 = .ok (.newarray .int, 2) := by decide +kernel
theorem dX5_init_17 : decode cX5_init 17 = .ok (.putfield 15, 3) := by decide +kernel
theorem dX5_init_20 : decode cX5_init 20 = .ok (.aload_n 0, 1) := by decide +kernel
theorem dX5_init_21 : decode cX5_init 21 = .ok (.iconst 1, 1) := by decide +kernel
theorem dX5_init_22 : decode cX5_init 22 = .ok (.putfield 18, 3) := by decide +kernel
theorem dX5_init_25 : decode cX5_init 25 = .ok (.aload_n 0, 1) := by decide +kernel
theorem dX5_init_26 : decode cX5_init 26 = .ok (.bipush 100, 2) := by decide +kernel
theorem dX5_init_28 : decode cX5_init 28 = .ok (.putfield 22, 3) := by decide +kernel
theorem dX5_init_31 : decode cX5_init 31 = .ok (.aload_n 0, 1) := by decide +kernel
theorem dX5_init_32 : decode cX5_init 32 = .ok (.bipush 60, 2) := by decide +kernel
theorem dX5_init_34 : decode cX5_init 34 = .ok (.putfield 25, 3) := by decide +kernel
theorem dX5_init_37 : decode cX5_init 37 = .ok (.aload_n 0, 1) := by decide +kernel
theorem dX5_init_38 : decode cX5_init 38 = .ok (.iconst 0, 1) := by decide +kernel
theorem dX5_init_39 : decode cX5_init 39 = .ok (.putfield 28, 3) := by decide +kernel
theorem dX5_init_42 : decode cX5_init 42 = .ok (.aload_n 0, 1) := by decide +kernel
theorem dX5_init_43 : decode cX5_init 43 = .ok (.iconst 1, 1) := by decide +kernel
theorem dX5_init_44 : decode cX5_init 44 = .ok (.putfield 31, 3) := by decide +kernel
theorem dX5_init_47 : decode cX5_init 47 = .ok (.aload_n 0, 1) := by decide +kernel
theorem dX5_init_48 : decode cX5_init 48 = .ok (.getfield 9, 3) := by decide +kernel
theorem dX5_init_51 : decode cX5_init 51 = .ok (.iconst 0, 1) := by decide +kernel
theorem dX5_init_52 : decode cX5_init 52 = .ok (.iconst 1, 1) := by decide +kernel
theorem dX5_init_53 : decode cX5_init 53 = .ok (.iastore, 1) := by decide +kernel
theorem dX5_init_54 : decode cX5_init 54 = .ok (.aload_n 0, 1) := by decide +kernel
theorem dX5_init_55 : decode cX5_init 55 = .ok (.getfield 15, 3) := by decide +kernel
theorem dX5_init_58 : decode cX5_init 58 = .ok (.iconst 0, 1) := by decide +kernel
theorem dX5_init_59 : decode cX5_init 59 = .ok (.iconst (-1), 1) := by decide +kernel
theorem dX5_init_60 : decode cX5_init 60 = .ok (.iastore, 1) := by decide +kernel
theorem dX5_init_61 : decode cX5_init 61 = .ok (.return_, 1) := by decide +kernel
theorem dX5_copyFrom_0 : decode cX5_copyFrom 0 = .ok (.aload_n 1, 1) := by decide +kernel
theorem dX5_copyFrom_1 : decode cX5_copyFrom 1 = .ok (.getfield 9, 3) := by decide +kernel
theorem dX5_copyFrom_4 : decode cX5_copyFrom 4 = .ok (.iconst 0, 1) := by decide +kernel
theorem dX5_copyFrom_5 : decode cX5_copyFrom 5 = .ok (.aload_n 0, 1) := by decide +kernel
theorem dX5_copyFrom_6 : decode cX5_copyFrom 6 = .ok (.getfield 9, 3) := by decide +kernel
theorem dX5_copyFrom_9 : decode cX5_copyFrom 9 = .ok (.iconst 0, 1) := by decide +kernel
theorem dX5_copyFrom_10 : decode cX5_copyFrom 10 = .ok (.bipush 24, 2) := by decide +kernel
theorem dX5_copyFrom_12 : decode cX5_copyFrom 12 = .ok (.invokestatic 34, 3) := by decide +kernel
theorem dX5_copyFrom_15 : decode cX5_copyFrom 15 = .ok (.aload_n 1, 1) := by decide +kernel
theorem dX5_copyFrom_16 : decode cX5_copyFrom 16 = .ok (.getfield 15, 3) := by decide +kernel
theorem dX5_copyFrom_19 : decode cX5_copyFrom 19 = .ok (.iconst 0, 1) := by decide +kernel
theorem dX5_copyFrom_20 : decode cX5_copyFrom 20 = .ok (.aload_n 0, 1) := by decide +kernel
theorem dX5_copyFrom_21 : decode cX5_copyFrom 21 = .ok (.getfield 15, 3) := by decide +kernel
theorem dX5_copyFrom_24 : decode cX5_copyFrom 24 = .ok (.iconst 0, 1) := by decide +kernel
theorem dX5_copyFrom_25 : decode cX5_copyFrom 25 = .ok (.bipush 24, 2) := by decide +kernel
theorem dX5_copyFrom_27 : decode cX5_copyFrom 27 = .ok (.invokestatic 34, 3) := by decide +kernel
theorem dX5_copyFrom_30 : decode cX5_copyFrom 30 = .ok (.aload_n 0, 1) := by decide +kernel
theorem dX5_copyFrom_31 : decode cX5_copyFrom 31 = .ok (.aload_n 1, 1) := by decide +kernel
theorem dX5_copyFrom_32 : decode cX5_copyFrom 32 = .ok (.getfield 18, 3) := by decide +kernel
theorem dX5_copyFrom_35 : decode cX5_copyFrom 35 = .ok (.putfield 18, 3) := by decide +kernel
theorem dX5_copyFrom_38 : decode cX5_copyFrom 38 = .ok (.aload_n 0, 1) := by decide +kernel
theorem dX5_copyFrom_39 : decode cX5_copyFrom 39 = .ok (.aload_n 1, 1) := by decide +kernel
theorem dX5_copyFrom_40 : decode cX5_copyFrom 40 = .ok (.getfield 22, 3) := by decide +kernel
theorem dX5_copyFrom_43 : decode cX5_copyFrom 43 = .ok (.putfield 22, 3) := by decide +kernel
theorem dX5_copyFrom_46 : decode cX5_copyFrom 46 = .ok (.aload_n 0, 1) := by decide +kernel
theorem dX5_copyFrom_47 : decode cX5_copyFrom 47 = .ok (.aload_n 1, 1) := by decide +kernel
theorem dX5_copyFrom_48 : decode cX5_copyFrom 48 = .ok (.getfield 25, 3) := by decide +kernel
theorem dX5_copyFrom_51 : decode cX5_copyFrom 51 = .ok (.putfield 25, 3) := by decide +kernel
theorem dX5_copyFrom_54 : decode cX5_copyFrom 54 = .ok (.aload_n 0, 1) := by decide +kernel
theorem dX5_copyFrom_55 : decode cX5_copyFrom 55 = .ok (.aload_n 1, 1) := by decide +kernel
theorem dX5_copyFrom_56 : decode cX5_copyFrom 56 = .ok (.getfield 28, 3) := by decide +kernel
theorem dX5_copyFrom_59 : decode cX5_copyFrom 59 = .ok (.putfield 28, 3) := by decide +kernel
theorem dX5_copyFrom_62 : decode cX5_copyFrom 62 = .ok (.aload_n 0, 1) := by decide +kernel
theorem dX5_copyFrom_63 : decode cX5_copyFrom 63 = .ok (.aload_n 1, 1) := by decide +kernel
theorem dX5_copyFrom_64 : decode cX5_copyFrom 64 = .ok (.getfield 31, 3) := by decide +kernel
theorem dX5_copyFrom_67 : decode cX5_copyFrom 67 = .ok (.putfield 31, 3) := by decide +kernel
theorem dX5_copyFrom_70 : decode cX5_copyFrom 70 = .ok (.return_, 1) := by decide +kernel
theorem dX5_has_0 : decode cX5_has 0 = .ok (.iload_n 1, 1) := by decide +kernel
theorem dX5_has_1 : decode cX5_has 1 = .ok (.ifCond .lt 15, 3) := by decide +kernel
theorem dX5_has_4 : decode cX5_has 4 = .ok (.iload_n 1, 1) := by decide +kernel
theorem dX5_has_5 : decode cX5_has 5 = .ok (.aload_n 0, 1) := by decide +kernel
theorem dX5_has_6 : decode cX5_has 6 = .ok (.getfield 18, 3) := by decide +kernel
theorem dX5_has_9 : decode cX5_has 9 = .ok (.if_icmp .ge 7, 3) := by decide +kernel
theorem dX5_has_12 : decode cX5_has 12 = .ok (.iconst 1, 1) := by decide +kernel
theorem dX5_has_13 : decode cX5_has 13 = .ok (.goto 4, 3) := by decide +kernel
theorem dX5_has_16 : decode cX5_has 16 = .ok (.iconst 0, 1) := by decide +kernel
theorem dX5_has_17 : decode cX5_has 17 = .ok (.ireturn, 1) := by decide +kernel
set_option maxRecDepth 20000 in
theorem ggX5_isWithin_X5_has : GoodIn wsX5_isWithin wsX5_has := goodIn_r _ [6, 7, 8, 9, 10, 11, 12, 13, 14] (by decide +kernel) (by decide +kernel)
set_option maxRecDepth 20000 in
theorem gX5_isWithin_X5_has : GoodIn wsX5_isWithin (wsV RX5 40 RX5 yX5_has wsX5_has) := goodIn_app (goodIn_of _ (by decide +kernel)) ggX5_isWithin_X5_has
theorem dX5_isWithin_0 : decode cX5_isWithin 0 = .ok (.iload_n 1, 1) := by decide +kernel
theorem dX5_isWithin_1 : decode cX5_isWithin 1 = .ok (.istore_n 3, 1) := by decide +kernel
theorem dX5_isWithin_2 : decode cX5_isWithin 2 = .ok (.iconst 0, 1) := by decide +kernel
theorem dX5_isWithin_3 : decode cX5_isWithin 3 = .ok (.istore 4, 2) := by decide +kernel
theorem dX5_isWithin_5 : decode cX5_isWithin 5 = .ok (.iload 4, 2) := by decide +kernel
theorem dX5_isWithin_7 : decode cX5_isWithin 7 = .ok (.bipush 24, 2) := by decide +kernel
theorem dX5_isWithin_9 : decode cX5_isWithin 9 = .ok (.if_icmp .ge 31, 3) := by decide +kernel
theorem dX5_isWithin_12 : decode cX5_isWithin 12 = .ok (.aload_n 0, 1) := by decide +kernel
theorem dX5_isWithin_13 : decode cX5_isWithin 13 = .ok (.iload_n 3, 1) := by decide +kernel
theorem dX5_isWithin_14 : decode cX5_isWithin 14 = .ok (.invokevirtual 40, 3) := by decide +kernel
theorem dX5_isWithin_17 : decode cX5_isWithin 17 = .ok (.ifCond .eq 23, 3) := by decide +kernel
theorem dX5_isWithin_20 : decode cX5_isWithin 20 = .ok (.iload_n 3, 1) := by decide +kernel
theorem dX5_isWithin_21 : decode cX5_isWithin 21 = .ok (.iload_n 2, 1) := by decide +kernel
theorem dX5_isWithin_22 : decode cX5_isWithin 22 = .ok (.if_icmp .ne 5, 3) := by decide +kernel
theorem dX5_isWithin_25 : decode cX5_isWithin 25 = .ok (.iconst 1, 1) := by decide +kernel
theorem dX5_isWithin_26 : decode cX5_isWithin 26 = .ok (.ireturn, 1) := by decide +kernel
theorem dX5_isWithin_27 : decode cX5_isWithin 27 = .ok (.aload_n 0, 1) := by decide +kernel
theorem dX5_isWithin_28 : decode cX5_isWithin 28 = .ok (.getfield 15, 3) := by decide +kernel
theorem dX5_isWithin_31 : decode cX5_isWithin 31 = .ok (.iload_n 3, 1) := by decide +kernel
theorem dX5_isWithin_32 : decode cX5_isWithin 32 = .ok (.iaload, 1) := by decide +kernel
theorem dX5_isWithin_33 : decode cX5_isWithin 33 = .ok (.istore_n 3, 1) := by decide +kernel
theorem dX5_isWithin_34 : decode cX5_isWithin 34 = .ok (.iinc 4 1, 3) := by decide +kernel
theorem dX5_isWithin_37 : decode cX5_isWithin 37 = .ok (.goto (-32), 3) := by decide +kernel
theorem dX5_isWithin_40 : decode cX5_isWithin 40 = .ok (.iconst 0, 1) := by decide +kernel
theorem dX5_isWithin_41 : decode cX5_isWithin 41 = .ok (.ireturn, 1) := by decide +kernel
theorem dX5_append_0 : decode cX5_append 0 = .ok (.aload_n 0, 1) := by decide +kernel
theorem dX5_append_1 : decode cX5_append 1 = .ok (.getfield 18, 3) := by decide +kernel
theorem dX5_append_4 : decode cX5_append 4 = .ok (.bipush 24, 2) := by decide +kernel
theorem dX5_append_6 : decode cX5_append 6 = .ok (.if_icmp .ge 33, 3) := by decide +kernel
theorem dX5_append_9 : decode cX5_append 9 = .ok (.aload_n 0, 1) := by decide +kernel
theorem dX5_append_10 : decode cX5_append 10 = .ok (.getfield 9, 3) := by decide +kernel
theorem dX5_append_13 : decode cX5_append 13 = .ok (.aload_n 0, 1) := by decide +kernel
theorem dX5_append_14 : decode cX5_append 14 = .ok (.getfield 18, 3) := by decide +kernel
theorem dX5_append_17 : decode cX5_append 17 = .ok (.iload_n 2, 1) := by decide +kernel
theorem dX5_append_18 : decode cX5_append 18 = .ok (.iastore, 1) := by decide +kernel
theorem dX5_append_19 : decode cX5_append 19 = .ok (.aload_n 0, 1) := by decide +kernel
theorem dX5_append_20 : decode cX5_append 20 = .ok (.getfield 15, 3) := by decide +kernel
theorem dX5_append_23 : decode cX5_append 23 = .ok (.aload_n 0, 1) := by decide +kernel
theorem dX5_append_24 : decode cX5_append 24 = .ok (.getfield 18, 3) := by decide +kernel
theorem dX5_append_27 : decode cX5_append 27 = .ok (.iload_n 1, 1) := by decide +kernel
theorem dX5_append_28 : decode cX5_append 28 = .ok (.iastore, 1) := by decide +kernel
theorem dX5_append_29 : decode cX5_append 29 = .ok (.aload_n 0, 1) := by decide +kernel
theorem dX5_append_30 : decode cX5_append 30 = .ok (.dup, 1) := by decide +kernel
theorem dX5_append_31 : decode cX5_append 31 = .ok (.getfield 18, 3) := by decide +kernel
theorem dX5_append_34 : decode cX5_append 34 = .ok (.iconst 1, 1) := by decide +kernel
theorem dX5_append_35 : decode cX5_append 35 = .ok (.iadd, 1) := by decide +kernel
theorem dX5_append_36 : decode cX5_append 36 = .ok (.putfield 18, 3) := by decide +kernel
theorem dX5_append_39 : decode cX5_append 39 = .ok (.return_, 1) := by decide +kernel
set_option maxRecDepth 20000 in
theorem ggX5_takeOut_X5_has : GoodIn wsX5_takeOut wsX5_has := goodIn_r _ [8, 1, 9, 10, 11, 12, 13, 14, 15] (by decide +kernel) (by decide +kernel)
set_option maxRecDepth 20000 in
theorem gX5_takeOut_X5_has : GoodIn wsX5_takeOut (wsV RX5 40 RX5 yX5_has wsX5_has) := goodIn_app (goodIn_of _ (by decide +kernel)) ggX5_takeOut_X5_has
theorem dX5_takeOut_0 : decode cX5_takeOut 0 = .ok (.aload_n 0, 1) := by decide +kernel
theorem dX5_takeOut_1 : decode cX5_takeOut 1 = .ok (.iload_n 1, 1) := by decide +kernel
theorem dX5_takeOut_2 : decode cX5_takeOut 2 = .ok (.invokevirtual 40, 3) := by decide +kernel
theorem dX5_takeOut_5 : decode cX5_takeOut 5 = .ok (.ifCond .eq 7, 3) := by decide +kernel
theorem dX5_takeOut_8 : decode cX5_takeOut 8 = .ok (.iload_n 1, 1) := by decide +kernel
theorem dX5_takeOut_9 : decode cX5_takeOut 9 = .ok (.ifCond .ne 4, 3) := by decide +kernel
theorem dX5_takeOut_12 : decode cX5_takeOut 12 = .ok (.return_, 1) := by decide +kernel
theorem dX5_takeOut_13 : decode cX5_takeOut 13 = .ok (.iload_n 1, 1) := by decide +kernel
theorem dX5_takeOut_14 : decode cX5_takeOut 14 = .ok (.iconst 1, 1) := by decide +kernel
theorem dX5_takeOut_15 : decode cX5_takeOut 15 = .ok (.iadd, 1) := by decide +kernel
theorem dX5_takeOut_16 : decode cX5_takeOut 16 = .ok (.istore_n 2, 1) := by decide +kernel
theorem dX5_takeOut_17 : decode cX5_takeOut 17 = .ok (.iload_n 2, 1) := by decide +kernel
theorem dX5_takeOut_18 : decode cX5_takeOut 18 = .ok (.aload_n 0, 1) := by decide +kernel
theorem dX5_takeOut_19 : decode cX5_takeOut 19 = .ok (.getfield 18, 3) := by decide +kernel
theorem dX5_takeOut_22 : decode cX5_takeOut 22 = .ok (.if_icmp .ge 37, 3) := by decide +kernel
theorem dX5_takeOut_25 : decode cX5_takeOut 25 = .ok (.aload_n 0, 1) := by decide +kernel
theorem dX5_takeOut_26 : decode cX5_takeOut 26 = .ok (.getfield 9, 3) := by decide +kernel
theorem dX5_takeOut_29 : decode cX5_takeOut 29 = .ok (.iload_n 2, 1) := by decide +kernel
theorem dX5_takeOut_30 : decode cX5_takeOut 30 = .ok (.iconst 1, 1) := by decide +kernel
theorem dX5_takeOut_31 : decode cX5_takeOut 31 = .ok (.isub, 1) := by decide +kernel
theorem dX5_takeOut_32 : decode cX5_takeOut 32 = .ok (.aload_n 0, 1) := by decide +kernel
theorem dX5_takeOut_33 : decode cX5_takeOut 33 = .ok (.getfield 9, 3) := by decide +kernel
theorem dX5_takeOut_36 : decode cX5_takeOut 36 = .ok (.iload_n 2, 1) := by decide +kernel
theorem dX5_takeOut_37 : decode cX5_takeOut 37 = .ok (.iaload, 1) := by decide +kernel
theorem dX5_takeOut_38 : decode cX5_takeOut 38 = .ok (.iastore, 1) := by decide +kernel
theorem dX5_takeOut_39 : decode cX5_takeOut 39 = .ok (.aload_n 0, 1) := by decide +kernel
theorem dX5_takeOut_40 : decode cX5_takeOut 40 = .ok (.getfield 15, 3) := by decide +kernel
theorem dX5_takeOut_43 : decode cX5_takeOut 43 = .ok (.iload_n 2, 1) := by decide +kernel
theorem dX5_takeOut_44 : decode cX5_takeOut 44 = .ok (.iconst 1, 1) := by decide +kernel
theorem dX5_takeOut_45 : decode cX5_takeOut 45 = .ok (.isub, 1) := by decide +kernel
theorem dX5_takeOut_46 : decode cX5_takeOut 46 = .ok (.aload_n 0, 1) := by decide +kernel
theorem dX5_takeOut_47 : decode cX5_takeOut 47 = .ok (.getfield 15, 3) := by decide +kernel
theorem dX5_takeOut_50 : decode cX5_takeOut 50 = .ok (.iload_n 2, 1) := by decide +kernel
theorem dX5_takeOut_51 : decode cX5_takeOut 51 = .ok (.iaload, 1) := by decide +kernel
theorem dX5_takeOut_52 : decode cX5_takeOut 52 = .ok (.iastore, 1) := by decide +kernel
theorem dX5_takeOut_53 : decode cX5_takeOut 53 = .ok (.iinc 2 1, 3) := by decide +kernel
theorem dX5_takeOut_56 : decode cX5_takeOut 56 = .ok (.goto (-39), 3) := by decide +kernel
theorem dX5_takeOut_59 : decode cX5_takeOut 59 = .ok (.aload_n 0, 1) := by decide +kernel
theorem dX5_takeOut_60 : decode cX5_takeOut 60 = .ok (.dup, 1) := by decide +kernel
theorem dX5_takeOut_61 : decode cX5_takeOut 61 = .ok (.getfield 18, 3) := by decide +kernel
theorem dX5_takeOut_64 : decode cX5_takeOut 64 = .ok (.iconst 1, 1) := by decide +kernel
theorem dX5_takeOut_65 : decode cX5_takeOut 65 = .ok (.isub, 1) := by decide +kernel
theorem dX5_takeOut_66 : decode cX5_takeOut 66 = .ok (.putfield 18, 3) := by decide +kernel
theorem dX5_takeOut_69 : decode cX5_takeOut 69 = .ok (.iconst 0, 1) := by decide +kernel
theorem dX5_takeOut_70 : decode cX5_takeOut 70 = .ok (.istore_n 2, 1) := by decide +kernel
theorem dX5_takeOut_71 : decode cX5_takeOut 71 = .ok (.iload_n 2, 1) := by decide +kernel
theorem dX5_takeOut_72 : decode cX5_takeOut 72 = .ok (.aload_n 0, 1) := by decide +kernel
theorem dX5_takeOut_73 : decode cX5_takeOut 73 = .ok (.getfield 18, 3) := by decide +kernel
theorem dX5_takeOut_76 : decode cX5_takeOut 76 = .ok (.if_icmp .ge 29, 3) := by decide +kernel
theorem dX5_takeOut_79 : decode cX5_takeOut 79 = .ok (.aload_n 0, 1) := by decide +kernel
theorem dX5_takeOut_80 : decode cX5_takeOut 80 = .ok (.getfield 15, 3) := by decide +kernel
theorem dX5_takeOut_83 : decode cX5_takeOut 83 = .ok (.iload_n 2, 1) := by decide +kernel
theorem dX5_takeOut_84 : decode cX5_takeOut 84 = .ok (.iaload, 1) := by decide +kernel
theorem dX5_takeOut_85 : decode cX5_takeOut 85 = .ok (.iload_n 1, 1) := by decide +kernel
theorem dX5_takeOut_86 : decode cX5_takeOut 86 = .ok (.if_icmp .le 13, 3) := by decide +kernel
theorem dX5_takeOut_89 : decode cX5_takeOut 89 = .ok (.aload_n 0, 1) := by decide +kernel
theorem dX5_takeOut_90 : decode cX5_takeOut 90 = .ok (.getfield 15, 3) := by decide +kernel
theorem dX5_takeOut_93 : decode cX5_takeOut 93 = .ok (.iload_n 2, 1) := by decide +kernel
theorem dX5_takeOut_94 : decode cX5_takeOut 94 = .ok (.dup2, 1) := by decide +kernel
theorem dX5_takeOut_95 : decode cX5_takeOut 95 = .ok (.iaload, 1) := by decide +kernel
theorem dX5_takeOut_96 : decode cX5_takeOut 96 = .ok (.iconst 1, 1) := by decide +kernel
theorem dX5_takeOut_97 : decode cX5_takeOut 97 = .ok (.isub, 1) := by decide +kernel
theorem dX5_takeOut_98 : decode cX5_takeOut 98 = .ok (.iastore, 1) := by decide +kernel
theorem dX5_takeOut_99 : decode cX5_takeOut 99 = .ok (.iinc 2 1, 3) := by decide +kernel
theorem dX5_takeOut_102 : decode cX5_takeOut 102 = .ok (.goto (-31), 3) := by decide +kernel
theorem dX5_takeOut_105 : decode cX5_takeOut 105 = .ok (.return_, 1) := by decide +kernel
set_option maxRecDepth 20000 in
theorem ggX6_init_X5_init : GoodIn wsX6_init wsX5_init := goodIn_r _ [10, 11, 2, 3, 12, 13, 14, 15, 16, 17, 18, 19, 23, 24, 25, 26, 27, 28, 29] (by decide +kernel) (by decide +kernel)
set_option maxRecDepth 20000 in
theorem gX6_init_X5_init : GoodIn wsX6_init (wsX5_init) := ggX6_init_X5_init
theorem dX6_init_0 : decode cX6_init 0 = .ok (.aload_n 0, 1) := by decide +kernel
theorem dX6_init_1 : decode cX6_init 1 = .ok (.invokespecial 3, 3) := by decide +kernel
theorem dX6_init_4 : decode cX6_init 4 = .ok (.aload_n 0, 1) := by decide +kernel
theorem dX6_init_5 : decode cX6_init 5 = .ok (.iconst 4, 1) := by decide +kernel
theorem dX6_init_6 : decode cX6_init 6 = .ok (.anewarray 9, 3) := by decide +kernel
theorem dX6_init_9 : decode cX6_init 9 = .ok (.putfield 11, 3) := by decide +kernel
theorem dX6_init_12 : decode cX6_init 12 = .ok (.iconst 0, 1) := by decide +kernel
theorem dX6_init_13 : decode cX6_init 13 = .ok (.istore_n 1, 1) := by decide +kernel
theorem dX6_init_14 : decode cX6_init 14 = .ok (.iload_n 1, 1) := by decide +kernel
theorem dX6_init_15 : decode cX6_init 15 = .ok (.iconst 4, 1) := by decide +kernel
theorem dX6_init_16 : decode cX6_init 16 = .ok (.if_icmp .ge 22, 3) := by decide +kernel
theorem dX6_init_19 : decode cX6_init 19 = .ok (.aload_n 0, 1) := by decide +kernel
theorem dX6_init_20 : decode cX6_init 20 = .ok (.getfield 11, 3) := by decide +kernel
theorem dX6_init_23 : decode cX6_init 23 = .ok (.iload_n 1, 1) := by decide +kernel
theorem dX6_init_24 : decode cX6_init 24 = .ok (.new 9, 3) := by decide +kernel
theorem dX6_init_27 : decode cX6_init 27 = .ok (.dup, 1) := by decide +kernel
theorem dX6_init_28 : decode cX6_init 28 = .ok (.invokespecial 17, 3) := by decide +kernel
theorem dX6_init_31 : decode cX6_init 31 = .ok (.aastore, 1) := by decide +kernel
theorem dX6_init_32 : decode cX6_init 32 = .ok (.iinc 1 1, 3) := by decide +kernel
theorem dX6_init_35 : decode cX6_init 35 = .ok (.goto (-21), 3) := by decide +kernel
theorem dX6_init_38 : decode cX6_init 38 = .ok (.return_, 1) := by decide +kernel
set_option maxRecDepth 20000 in
theorem ggX6_push_X5_copyFrom : GoodIn wsX6_push wsX5_copyFrom := goodIn_r _ [8, 9, 10, 11, 12, 13, 14, 15, 16, 17, 18, 19, 23, 24, 25, 26, 27, 28, 29] (by decide +kernel) (by decide +kernel)
set_option maxRecDepth 20000 in
theorem gX6_push_X5_copyFrom : GoodIn wsX6_push (wsV RX6 22 RX5 yX5_copyFrom wsX5_copyFrom) := goodIn_app (goodIn_of _ (by decide +kernel)) ggX6_push_X5_copyFrom
theorem dX6_push_0 : decode cX6_push 0 = .ok (.aload_n 0, 1) := by decide +kernel
theorem dX6_push_1 : decode cX6_push 1 = .ok (.getfield 11, 3) := by decide +kernel
theorem dX6_push_4 : decode cX6_push 4 = .ok (.aload_n 0, 1) := by decide +kernel
theorem dX6_push_5 : decode cX6_push 5 = .ok (.getfield 18, 3) := by decide +kernel
theorem dX6_push_8 : decode cX6_push 8 = .ok (.aaload, 1) := by decide +kernel
theorem dX6_push_9 : decode cX6_push 9 = .ok (.aload_n 1, 1) := by decide +kernel
theorem dX6_push_10 : decode cX6_push 10 = .ok (.invokevirtual 22, 3) := by decide +kernel
theorem dX6_push_13 : decode cX6_push 13 = .ok (.aload_n 0, 1) := by decide +kernel
theorem dX6_push_14 : decode cX6_push 14 = .ok (.aload_n 0, 1) := by decide +kernel
theorem dX6_push_15 : decode cX6_push 15 = .ok (.getfield 18, 3) := by decide +kernel
theorem dX6_push_18 : decode cX6_push 18 = .ok (.iconst 1, 1) := by decide +kernel
theorem dX6_push_19 : decode cX6_push 19 = .ok (.iadd, 1) := by decide +kernel
theorem dX6_push_20 : decode cX6_push 20 = .ok (.iconst 4, 1) := by decide +kernel
theorem dX6_push_21 : decode cX6_push 21 = .ok (.if_icmp .ge 12, 3) := by decide +kernel
theorem dX6_push_24 : decode cX6_push 24 = .ok (.aload_n 0, 1) := by decide +kernel
theorem dX6_push_25 : decode cX6_push 25 = .ok (.getfield 18, 3) := by decide +kernel
theorem dX6_push_28 : decode cX6_push 28 = .ok (.iconst 1, 1) := by decide +kernel
theorem dX6_push_29 : decode cX6_push 29 = .ok (.iadd, 1) := by decide +kernel
theorem dX6_push_30 : decode cX6_push 30 = .ok (.goto 4, 3) := by decide +kernel
theorem dX6_push_33 : decode cX6_push 33 = .ok (.iconst 0, 1) := by decide +kernel
theorem dX6_push_34 : decode cX6_push 34 = .ok (.putfield 18, 3) := by decide +kernel
theorem dX6_push_37 : decode cX6_push 37 = .ok (.aload_n 0, 1) := by decide +kernel
theorem dX6_push_38 : decode cX6_push 38 = .ok (.aload_n 0, 1) := by decide +kernel
theorem dX6_push_39 : decode cX6_push 39 = .ok (.getfield 26, 3) := by decide +kernel
theorem dX6_push_42 : decode cX6_push 42 = .ok (.iconst 4, 1) := by decide +kernel
theorem dX6_push_43 : decode cX6_push 43 = .ok (.if_icmp .ge 12, 3) := by decide +kernel
theorem dX6_push_46 : decode cX6_push 46 = .ok (.aload_n 0, 1) := by decide +kernel
theorem dX6_push_47 : decode cX6_push 47 = .ok (.getfield 26, 3) := by decide +kernel
theorem dX6_push_50 : decode cX6_push 50 = .ok (.iconst 1, 1) := by decide +kernel
theorem dX6_push_51 : decode cX6_push 51 = .ok (.iadd, 1) := by decide +kernel
theorem dX6_push_52 : decode cX6_push 52 = .ok (.goto 4, 3) := by decide +kernel
theorem dX6_push_55 : decode cX6_push 55 = .ok (.iconst 4, 1) := by decide +kernel
theorem dX6_push_56 : decode cX6_push 56 = .ok (.putfield 26, 3) := by decide +kernel
theorem dX6_push_59 : decode cX6_push 59 = .ok (.return_, 1) := by decide +kernel
set_option maxRecDepth 20000 in
theorem ggX6_popInto_X5_copyFrom : GoodIn wsX6_popInto wsX5_copyFrom := goodIn_r _ [8, 9, 10, 11, 12, 13, 14, 15, 16, 17, 18, 19, 23, 24, 25, 26, 27, 28, 29] (by decide +kernel) (by decide +kernel)
set_option maxRecDepth 20000 in
theorem gX6_popInto_X5_copyFrom : GoodIn wsX6_popInto (wsV RX6 22 RX5 yX5_copyFrom wsX5_copyFrom) := goodIn_app (goodIn_of _ (by decide +kernel)) ggX6_popInto_X5_copyFrom
theorem dX6_popInto_0 : decode cX6_popInto 0 = .ok (.aload_n 0, 1) := by decide +kernel
theorem dX6_popInto_1 : decode cX6_popInto 1 = .ok (.getfield 26, 3) := by decide +kernel
theorem dX6_popInto_4 : decode cX6_popInto 4 = .ok (.ifCond .le 47, 3) := by decide +kernel
theorem dX6_popInto_7 : decode cX6_popInto 7 = .ok (.aload_n 0, 1) := by decide +kernel
theorem dX6_popInto_8 : decode cX6_popInto 8 = .ok (.aload_n 0, 1) := by decide +kernel
theorem dX6_popInto_9 : decode cX6_popInto 9 = .ok (.getfield 18, 3) := by decide +kernel
theorem dX6_popInto_12 : decode cX6_popInto 12 = .ok (.ifCond .le 12, 3) := by decide +kernel
theorem dX6_popInto_15 : decode cX6_popInto 15 = .ok (.aload_n 0, 1) := by decide +kernel
theorem dX6_popInto_16 : decode cX6_popInto 16 = .ok (.getfield 18, 3) := by decide +kernel
theorem dX6_popInto_19 : decode cX6_popInto 19 = .ok (.iconst 1, 1) := by decide +kernel
theorem dX6_popInto_20 : decode cX6_popInto 20 = .ok (.isub, 1) := by decide +kernel
theorem dX6_popInto_21 : decode cX6_popInto 21 = .ok (.goto 4, 3) := by decide +kernel
theorem dX6_popInto_24 : decode cX6_popInto 24 = .ok (.iconst 3, 1) := by decide +kernel
theorem dX6_popInto_25 : decode cX6_popInto 25 = .ok (.putfield 18, 3) := by decide +kernel
theorem dX6_popInto_28 : decode cX6_popInto 28 = .ok (.aload_n 0, 1) := by decide +kernel
theorem dX6_popInto_29 : decode cX6_popInto 29 = .ok (.dup, 1) := by decide +kernel
theorem dX6_popInto_30 : decode cX6_popInto 30 = .ok (.getfield 26, 3) := by decide +kernel
theorem dX6_popInto_33 : decode cX6_popInto 33 = .ok (.iconst 1, 1) := by decide +kernel
theorem dX6_popInto_34 : decode cX6_popInto 34 = .ok (.isub, 1) := by decide +kernel
theorem dX6_popInto_35 : decode cX6_popInto 35 = .ok (.putfield 26, 3) := by decide +kernel
theorem dX6_popInto_38 : decode cX6_popInto 38 = .ok (.aload_n 1, 1) := by decide +kernel
theorem dX6_popInto_39 : decode cX6_popInto 39 = .ok (.aload_n 0, 1) := by decide +kernel
theorem dX6_popInto_40 : decode cX6_popInto 40 = .ok (.getfield 11, 3) := by decide +kernel
theorem dX6_popInto_43 : decode cX6_popInto 43 = .ok (.aload_n 0, 1) := by decide +kernel
theorem dX6_popInto_44 : decode cX6_popInto 44 = .ok (.getfield 18, 3) := by decide +kernel
theorem dX6_popInto_47 : decode cX6_popInto 47 = .ok (.aaload, 1) := by decide +kernel
theorem dX6_popInto_48 : decode cX6_popInto 48 = .ok (.invokevirtual 22, 3) := by decide +kernel
theorem dX6_popInto_51 : decode cX6_popInto 51 = .ok (.return_, 1) := by decide +kernel
set_option maxRecDepth 20000 in
theorem ggX7_init_X5_init : GoodIn wsX7_init wsX5_init := goodIn_r _ [20, 21, 2, 3, 22, 23, 24, 25, 26, 27, 28, 29, 237, 238, 239, 240, 241, 242, 243] (by decide +kernel) (by decide +kernel)
set_option maxRecDepth 20000 in
theorem gX7_init_X5_init : GoodIn wsX7_init (wsX5_init) := ggX7_init_X5_init
set_option maxRecDepth 20000 in
theorem ggX7_init_X1_init : GoodIn wsX7_init wsX1_init := goodIn_r _ [31, 32, 2, 3, 22, 33, 34, 35, 36, 37, 38, 39, 40, 41, 42, 43, 44, 45, 46, 47, 48, 49, 50, 51, 52, 53, 54, 55, 56, 57, 58, 59, 60, 61, 62, 63, 64, 65, 66, 67, 68, 69, 70, 71, 72, 73, 74, 75, 76, 77, 78, 79, 252, 253, 254, 255, 256, 257, 258, 259, 263, 264, 265, 266, 267, 268, 269, 270, 271, 272, 273, 274, 275, 276, 277, 278, 279, 280, 281, 282] (by decide +kernel) (by decide +kernel)
set_option maxRecDepth 20000 in
theorem gX7_init_X1_init_n18 : GoodIn wsX7_init (wsX1_init) := ggX7_init_X1_init
set_option maxRecDepth 20000 in
theorem ggX7_init_X6_init : GoodIn wsX7_init wsX6_init := goodIn_r _ [82, 83, 2, 3, 84, 85, 5, 6, 86, 19, 20, 21, 22, 23, 24, 25, 26, 27, 28, 29, 260, 261, 262, 237, 238, 239, 240, 241, 242, 243] (by decide +kernel) (by decide +kernel)
set_option maxRecDepth 20000 in
theorem gX7_init_X6_init : GoodIn wsX7_init (wsX6_init) := ggX7_init_X6_init
set_option maxRecDepth 20000 in
theorem ggX7_init_X1_arrange : GoodIn wsX7_init wsX1_arrange := goodIn_r _ [90, 40, 91, 92, 36, 93, 41, 94, 95, 96, 10, 97, 34, 42, 98, 43, 99, 100, 101, 102, 33, 103, 104, 105, 106, 107, 108, 109, 110, 39, 111, 51, 52, 53, 54, 112, 113, 114, 115, 116, 47, 117, 118, 119, 120, 121, 122, 123, 124, 46, 125, 126, 63, 127, 128, 129, 62, 130, 131, 132, 133, 134, 135, 136, 137, 138, 139, 140, 141, 142, 143, 144, 145, 146, 58, 59, 147, 148, 149, 150, 64, 151, 152, 153, 154, 155, 156, 157, 158, 68, 159, 160, 161, 162, 67, 163, 164, 165, 166, 167, 168, 77, 169, 170, 171, 172, 79, 78, 173, 174, 175, 176, 177, 178, 179, 180, 181, 69, 182, 70, 183, 184, 185, 186, 187, 188, 189, 190, 191, 192, 193, 194, 195, 196, 197, 198, 199, 200, 201, 202, 203, 204, 205, 206, 207, 208, 209, 210, 211, 212, 213, 214, 215, 216, 217, 218, 219, 220, 221, 222, 223, 224, 225, 226, 227, 228, 229, 230, 231, 232, 233, 234, 235, 236, 252, 253, 254, 255, 256, 257, 258, 259, 237, 238, 239, 240, 241, 242, 243, 263, 264, 265, 266, 267, 268, 269, 270, 271, 272, 273, 274, 275, 276, 277, 278, 279, 280, 281, 282] (by decide +kernel) (by decide +kernel)
set_option maxRecDepth 20000 in
theorem gX7_init_X1_arrange : GoodIn wsX7_init (wsV RX7 36 RX1 yX1_arrange wsX1_arrange) := goodIn_app (goodIn_of _ (by decide +kernel)) ggX7_init_X1_arrange
theorem dX7_init_0 : decode cX7_init 0 = .ok (.aload_n 0, 1) := by decide +kernel
theorem dX7_init_1 : decode cX7_init 1 = .ok (.invokespecial 1, 3) := by decide +kernel
theorem dX7_init_4 : decode cX7_init 4 = .ok (.aload_n 0, 1) := by decide +kernel
theorem dX7_init_5 : decode cX7_init 5 = .ok (.new 7, 3) := by decide +kernel
theorem dX7_init_8 : decode cX7_init 8 = .ok (.dup, 1) := by decide +kernel
theorem dX7_init_9 : decode cX7_init 9 = .ok (.invokespecial 9, 3) := by decide +kernel
theorem dX7_init_12 : decode cX7_init 12 = .ok (.putfield 10, 3) := by decide +kernel
theorem dX7_init_15 : decode cX7_init 15 = .ok (.aload_n 0, 1) := by decide +kernel
theorem dX7_init_16 : decode cX7_init 16 = .ok (.new 16, 3) := by decide +kernel
theorem dX7_init_19 : decode cX7_init 19 = .ok (.dup, 1) := by decide +kernel
theorem dX7_init_20 : decode cX7_init 20 = .ok (.invokespecial 18, 3) := by decide +kernel
theorem dX7_init_23 : decode cX7_init 23 = .ok (.putfield 19, 3) := by decide +kernel
theorem dX7_init_26 : decode cX7_init 26 = .ok (.aload_n 0, 1) := by decide +kernel
theorem dX7_init_27 : decode cX7_init 27 = .ok (.new 23, 3) := by decide +kernel
theorem dX7_init_30 : decode cX7_init 30 = .ok (.dup, 1) := by decide +kernel
theorem dX7_init_31 : decode cX7_init 31 = .ok (.invokespecial 25, 3) := by decide +kernel
theorem dX7_init_34 : decode cX7_init 34 = .ok (.putfield 26, 3) := by decide +kernel
theorem dX7_init_37 : decode cX7_init 37 = .ok (.aload_n 0, 1) := by decide +kernel
theorem dX7_init_38 : decode cX7_init 38 = .ok (.new 7, 3) := by decide +kernel
theorem dX7_init_41 : decode cX7_init 41 = .ok (.dup, 1) := by decide +kernel
theorem dX7_init_42 : decode cX7_init 42 = .ok (.invokespecial 9, 3) := by decide +kernel
theorem dX7_init_45 : decode cX7_init 45 = .ok (.putfield 30, 3) := by decide +kernel
theorem dX7_init_48 : decode cX7_init 48 = .ok (.aload_n 0, 1) := by decide +kernel
theorem dX7_init_49 : decode cX7_init 49 = .ok (.new 16, 3) := by decide +kernel
theorem dX7_init_52 : decode cX7_init 52 = .ok (.dup, 1) := by decide +kernel
theorem dX7_init_53 : decode cX7_init 53 = .ok (.invokespecial 18, 3) := by decide +kernel
theorem dX7_init_56 : decode cX7_init 56 = .ok (.putfield 33, 3) := by decide +kernel
theorem dX7_init_59 : decode cX7_init 59 = .ok (.aload_n 0, 1) := by decide +kernel
theorem dX7_init_60 : decode cX7_init 60 = .ok (.getfield 19, 3) := by decide +kernel
theorem dX7_init_63 : decode cX7_init 63 = .ok (.aload_n 0, 1) := by decide +kernel
theorem dX7_init_64 : decode cX7_init 64 = .ok (.getfield 10, 3) := by decide +kernel
theorem dX7_init_67 : decode cX7_init 67 = .ok (.invokevirtual 36, 3) := by decide +kernel
theorem dX7_init_70 : decode cX7_init 70 = .ok (.return_, 1) := by decide +kernel
set_option maxRecDepth 20000 in
theorem ggX7_addNode_X5_has : GoodIn wsX7_addNode wsX5_has := goodIn_r _ [9, 10, 236, 237, 238, 239, 240, 241, 242] (by decide +kernel) (by decide +kernel)
set_option maxRecDepth 20000 in
theorem gX7_addNode_X5_has : GoodIn wsX7_addNode (wsV RX7 40 RX5 yX5_has wsX5_has) := goodIn_app (goodIn_of _ (by decide +kernel)) ggX7_addNode_X5_has
set_option maxRecDepth 20000 in
theorem ggX7_addNode_X7_isSize : GoodIn wsX7_addNode wsX7_isSize := goodIn_r _ [14] (by decide +kernel) (by decide +kernel)
set_option maxRecDepth 20000 in
theorem gX7_addNode_X7_isSize : GoodIn wsX7_addNode (va_wsS RX7 44 yX7_isSize wsX7_isSize) := goodIn_app (goodIn_of _ (by decide +kernel)) ggX7_addNode_X7_isSize
set_option maxRecDepth 20000 in
theorem ggX7_addNode_X7_failInvalid : GoodIn wsX7_addNode wsX7_failInvalid := goodIn_r _ [18, 19, 228, 229, 230, 231, 232, 233, 234, 235] (by decide +kernel) (by decide +kernel)
set_option maxRecDepth 20000 in
theorem gX7_addNode_X7_failInvalid : GoodIn wsX7_addNode (wsV RX7 47 RX7 yX7_failInvalid wsX7_failInvalid) := goodIn_app (goodIn_of _ (by decide +kernel)) ggX7_addNode_X7_failInvalid
set_option maxRecDepth 20000 in
theorem ggX7_addNode_X7_failFull : GoodIn wsX7_addNode wsX7_failFull := goodIn_r _ [23, 24, 228, 229, 230, 231, 232, 233, 234, 235] (by decide +kernel) (by decide +kernel)
set_option maxRecDepth 20000 in
theorem gX7_addNode_X7_failFull : GoodIn wsX7_addNode (wsV RX7 55 RX7 yX7_failFull wsX7_failFull) := goodIn_app (goodIn_of _ (by decide +kernel)) ggX7_addNode_X7_failFull
set_option maxRecDepth 20000 in
theorem ggX7_addNode_X6_push : GoodIn wsX7_addNode wsX6_push := goodIn_r _ [29, 30, 31, 32, 33, 34, 35, 8, 36, 37, 38, 39, 40, 41, 42, 10, 43, 44, 45, 46, 243, 244, 245, 236, 237, 238, 239, 240, 241, 242] (by decide +kernel) (by decide +kernel)
set_option maxRecDepth 20000 in
theorem gX7_addNode_X6_push : GoodIn wsX7_addNode (wsV RX7 58 RX6 yX6_push wsX6_push) := goodIn_app (goodIn_of _ (by decide +kernel)) ggX7_addNode_X6_push
set_option maxRecDepth 20000 in
theorem ggX7_addNode_X5_append : GoodIn wsX7_addNode wsX5_append := goodIn_r _ [50, 10, 37, 42, 236, 237, 238, 239, 240, 241, 242] (by decide +kernel) (by decide +kernel)
set_option maxRecDepth 20000 in
theorem gX7_addNode_X5_append : GoodIn wsX7_addNode (wsV RX7 61 RX5 yX5_append wsX5_append) := goodIn_app (goodIn_of _ (by decide +kernel)) ggX7_addNode_X5_append
set_option maxRecDepth 20000 in
theorem ggX7_addNode_X1_arrange : GoodIn wsX7_addNode wsX1_arrange := goodIn_r _ [55, 56, 57, 58, 59, 60, 61, 62, 63, 64, 54, 65, 66, 67, 68, 69, 70, 71, 72, 73, 74, 75, 76, 77, 78, 79, 80, 81, 82, 83, 84, 85, 86, 87, 88, 89, 90, 91, 92, 93, 94, 95, 96, 97, 98, 99, 100, 101, 102, 103, 104, 105, 106, 107, 108, 109, 110, 111, 112, 113, 114, 115, 116, 117, 118, 119, 120, 121, 122, 123, 124, 125, 126, 127, 128, 129, 130, 131, 132, 133, 134, 135, 136, 137, 138, 139, 140, 141, 142, 143, 144, 145, 146, 147, 148, 149, 150, 151, 152, 153, 154, 155, 156, 157, 158, 159, 160, 161, 162, 163, 164, 165, 166, 167, 168, 169, 170, 171, 172, 173, 174, 175, 176, 177, 178, 179, 180, 181, 182, 183, 184, 185, 186, 187, 188, 189, 190, 191, 192, 193, 194, 195, 196, 197, 198, 199, 200, 201, 202, 203, 204, 205, 206, 207, 208, 209, 210, 211, 212, 213, 214, 215, 216, 217, 218, 219, 220, 221, 222, 223, 224, 225, 226, 227, 246, 247, 248, 249, 250, 251, 252, 253, 236, 237, 238, 239, 240, 241, 242, 254, 255, 256, 257, 258, 259, 260, 261, 262, 263, 264, 265, 266, 267, 268, 269, 270, 271, 272, 273] (by decide +kernel) (by decide +kernel)
set_option maxRecDepth 20000 in
theorem gX7_addNode_X1_arrange : GoodIn wsX7_addNode (wsV RX7 36 RX1 yX1_arrange wsX1_arrange) := goodIn_app (goodIn_of _ (by decide +kernel)) ggX7_addNode_X1_arrange
theorem dX7_addNode_0 : decode cX7_addNode 0 = .ok (.aload_n 0, 1) := by decide +kernel
theorem dX7_addNode_1 : decode cX7_addNode 1 = .ok (.getfield 10, 3) := by decide +kernel
theorem dX7_addNode_4 : decode cX7_addNode 4 = .ok (.iload_n 1, 1) := by decide +kernel
theorem dX7_addNode_5 : decode cX7_addNode 5 = .ok (.invokevirtual 40, 3) := by decide +kernel
theorem dX7_addNode_8 : decode cX7_addNode 8 = .ok (.ifCond .eq 10, 3) := by decide +kernel
theorem dX7_addNode_11 : decode cX7_addNode 11 = .ok (.iload_n 2, 1) := by decide +kernel
theorem dX7_addNode_12 : decode cX7_addNode 12 = .ok (.invokestatic 44, 3) := by decide +kernel
theorem dX7_addNode_15 : decode cX7_addNode 15 = .ok (.ifCond .ne 8, 3) := by decide +kernel
theorem dX7_addNode_18 : decode cX7_addNode 18 = .ok (.aload_n 0, 1) := by decide +kernel
theorem dX7_addNode_19 : decode cX7_addNode 19 = .ok (.invokevirtual 47, 3) := by decide +kernel
theorem dX7_addNode_22 : decode cX7_addNode 22 = .ok (.ireturn, 1) := by decide +kernel
theorem dX7_addNode_23 : decode cX7_addNode 23 = .ok (.aload_n 0, 1) := by decide +kernel
theorem dX7_addNode_24 : decode cX7_addNode 24 = .ok (.getfield 10, 3) := by decide +kernel
theorem dX7_addNode_27 : decode cX7_addNode 27 = .ok (.getfield 51, 3) := by decide +kernel
theorem dX7_addNode_30 : decode cX7_addNode 30 = .ok (.bipush 24, 2) := by decide +kernel
theorem dX7_addNode_32 : decode cX7_addNode 32 = .ok (.if_icmp .lt 8, 3) := by decide +kernel
theorem dX7_addNode_35 : decode cX7_addNode 35 = .ok (.aload_n 0, 1) := by decide +kernel
theorem dX7_addNode_36 : decode cX7_addNode 36 = .ok (.invokevirtual 55, 3) := by decide +kernel
theorem dX7_addNode_39 : decode cX7_addNode 39 = .ok (.ireturn, 1) := by decide +kernel
theorem dX7_addNode_40 : decode cX7_addNode 40 = .ok (.aload_n 0, 1) := by decide +kernel
theorem dX7_addNode_41 : decode cX7_addNode 41 = .ok (.getfield 26, 3) := by decide +kernel
theorem dX7_addNode_44 : decode cX7_addNode 44 = .ok (.aload_n 0, 1) := by decide +kernel
theorem dX7_addNode_45 : decode cX7_addNode 45 = .ok (.getfield 10, 3) := by decide +kernel
theorem dX7_addNode_48 : decode cX7_addNode 48 = .ok (.invokevirtual 58, 3) := by decide +kernel
theorem dX7_addNode_51 : decode cX7_addNode 51 = .ok (.aload_n 0, 1) := by decide +kernel
theorem dX7_addNode_52 : decode cX7_addNode 52 = .ok (.getfield 10, 3) := by decide +kernel
theorem dX7_addNode_55 : decode cX7_addNode 55 = .ok (.iload_n 1, 1) := by decide +kernel
theorem dX7_addNode_56 : decode cX7_addNode 56 = .ok (.iload_n 2, 1) := by decide +kernel
theorem dX7_addNode_57 : decode cX7_addNode 57 = .ok (.invokevirtual 61, 3) := by decide +kernel
theorem dX7_addNode_60 : decode cX7_addNode 60 = .ok (.aload_n 0, 1) := by decide +kernel
theorem dX7_addNode_61 : decode cX7_addNode 61 = .ok (.getfield 19, 3) := by decide +kernel
theorem dX7_addNode_64 : decode cX7_addNode 64 = .ok (.aload_n 0, 1) := by decide +kernel
theorem dX7_addNode_65 : decode cX7_addNode 65 = .ok (.getfield 10, 3) := by decide +kernel
theorem dX7_addNode_68 : decode cX7_addNode 68 = .ok (.invokevirtual 36, 3) := by decide +kernel
theorem dX7_addNode_71 : decode cX7_addNode 71 = .ok (.aload_n 0, 1) := by decide +kernel
theorem dX7_addNode_72 : decode cX7_addNode 72 = .ok (.getfield 10, 3) := by decide +kernel
theorem dX7_addNode_75 : decode cX7_addNode 75 = .ok (.getfield 51, 3) := by decide +kernel
theorem dX7_addNode_78 : decode cX7_addNode 78 = .ok (.iconst 1, 1) := by decide +kernel
theorem dX7_addNode_79 : decode cX7_addNode 79 = .ok (.isub, 1) := by decide +kernel
theorem dX7_addNode_80 : decode cX7_addNode 80 = .ok (.ireturn, 1) := by decide +kernel
set_option maxRecDepth 20000 in
theorem ggX7_setSize_X5_has : GoodIn wsX7_setSize wsX5_has := goodIn_r _ [9, 10, 227, 228, 229, 230, 231, 232, 233] (by decide +kernel) (by decide +kernel)
set_option maxRecDepth 20000 in
theorem gX7_setSize_X5_has : GoodIn wsX7_setSize (wsV RX7 40 RX5 yX5_has wsX5_has) := goodIn_app (goodIn_of _ (by decide +kernel)) ggX7_setSize_X5_has
set_option maxRecDepth 20000 in
theorem ggX7_setSize_X7_isSize : GoodIn wsX7_setSize wsX7_isSize := goodIn_r _ [14] (by decide +kernel) (by decide +kernel)
set_option maxRecDepth 20000 in
theorem gX7_setSize_X7_isSize : GoodIn wsX7_setSize (va_wsS RX7 44 yX7_isSize wsX7_isSize) := goodIn_app (goodIn_of _ (by decide +kernel)) ggX7_setSize_X7_isSize
set_option maxRecDepth 20000 in
theorem ggX7_setSize_X7_failInvalid : GoodIn wsX7_setSize wsX7_failInvalid := goodIn_r _ [18, 19, 219, 220, 221, 222, 223, 224, 225, 226] (by decide +kernel) (by decide +kernel)
set_option maxRecDepth 20000 in
theorem gX7_setSize_X7_failInvalid : GoodIn wsX7_setSize (wsV RX7 47 RX7 yX7_failInvalid wsX7_failInvalid) := goodIn_app (goodIn_of _ (by decide +kernel)) ggX7_setSize_X7_failInvalid
set_option maxRecDepth 20000 in
theorem ggX7_setSize_X6_push : GoodIn wsX7_setSize wsX6_push := goodIn_r _ [24, 25, 26, 27, 28, 29, 30, 8, 31, 32, 33, 34, 35, 36, 37, 10, 38, 39, 40, 41, 234, 235, 236, 227, 228, 229, 230, 231, 232, 233] (by decide +kernel) (by decide +kernel)
set_option maxRecDepth 20000 in
theorem gX7_setSize_X6_push : GoodIn wsX7_setSize (wsV RX7 58 RX6 yX6_push wsX6_push) := goodIn_app (goodIn_of _ (by decide +kernel)) ggX7_setSize_X6_push
set_option maxRecDepth 20000 in
theorem ggX7_setSize_X1_arrange : GoodIn wsX7_setSize wsX1_arrange := goodIn_r _ [46, 47, 48, 49, 50, 51, 52, 53, 54, 55, 45, 56, 57, 58, 59, 60, 61, 62, 63, 64, 65, 66, 67, 68, 69, 70, 71, 72, 73, 74, 75, 76, 77, 78, 79, 80, 81, 82, 83, 84, 85, 86, 87, 88, 89, 90, 91, 92, 93, 94, 95, 96, 97, 98, 99, 100, 101, 102, 103, 104, 105, 106, 107, 108, 109, 110, 111, 112, 113, 114, 115, 116, 117, 118, 119, 120, 121, 122, 123, 124, 125, 126, 127, 128, 129, 130, 131, 132, 133, 134, 135, 136, 137, 138, 139, 140, 141, 142, 143, 144, 145, 146, 147, 148, 149, 150, 151, 152, 153, 154, 155, 156, 157, 158, 159, 160, 161, 162, 163, 164, 165, 166, 167, 168, 169, 170, 171, 172, 173, 174, 175, 176, 177, 178, 179, 180, 181, 182, 183, 184, 185, 186, 187, 188, 189, 190, 191, 192, 193, 194, 195, 196, 197, 198, 199, 200, 201, 202, 203, 204, 205, 206, 207, 208, 209, 210, 211, 212, 213, 214, 215, 216, 217, 218, 237, 238, 239, 240, 241, 242, 243, 244, 227, 228, 229, 230, 231, 232, 233, 245, 246, 247, 248, 249, 250, 251, 252, 253, 254, 255, 256, 257, 258, 259, 260, 261, 262, 263, 264] (by decide +kernel) (by decide +kernel)
set_option maxRecDepth 20000 in
theorem gX7_setSize_X1_arrange : GoodIn wsX7_setSize (wsV RX7 36 RX1 yX1_arrange wsX1_arrange) := goodIn_app (goodIn_of _ (by decide +kernel)) ggX7_setSize_X1_arrange
theorem dX7_setSize_0 : decode cX7_setSize 0 = .ok (.aload_n 0, 1) := by decide +kernel
theorem dX7_setSize_1 : decode cX7_setSize 1 = .ok (.getfield 10, 3) := by decide +kernel
theorem dX7_setSize_4 : decode cX7_setSize 4 = .ok (.iload_n 1, 1) := by decide +kernel
theorem dX7_setSize_5 : decode cX7_setSize 5 = .ok (.invokevirtual 40, 3) := by decide +kernel
theorem dX7_setSize_8 : decode cX7_setSize 8 = .ok (.ifCond .eq 10, 3) := by decide +kernel
theorem dX7_setSize_11 : decode cX7_setSize 11 = .ok (.iload_n 2, 1) := by decide +kernel
theorem dX7_setSize_12 : decode cX7_setSize 12 = .ok (.invokestatic 44, 3) := by decide +kernel
theorem dX7_setSize_15 : decode cX7_setSize 15 = .ok (.ifCond .ne 8, 3) := by decide +kernel
theorem dX7_setSize_18 : decode cX7_setSize 18 = .ok (.aload_n 0, 1) := by decide +kernel
theorem dX7_setSize_19 : decode cX7_setSize 19 = .ok (.invokevirtual 47, 3) := by decide +kernel
theorem dX7_setSize_22 : decode cX7_setSize 22 = .ok (.ireturn, 1) := by decide +kernel
theorem dX7_setSize_23 : decode cX7_setSize 23 = .ok (.aload_n 0, 1) := by decide +kernel
theorem dX7_setSize_24 : decode cX7_setSize 24 = .ok (.getfield 26, 3) := by decide +kernel
theorem dX7_setSize_27 : decode cX7_setSize 27 = .ok (.aload_n 0, 1) := by decide +kernel
theorem dX7_setSize_28 : decode cX7_setSize 28 = .ok (.getfield 10, 3) := by decide +kernel
theorem dX7_setSize_31 : decode cX7_setSize 31 = .ok (.invokevirtual 58, 3) := by decide +kernel
theorem dX7_setSize_34 : decode cX7_setSize 34 = .ok (.aload_n 0, 1) := by decide +kernel
theorem dX7_setSize_35 : decode cX7_setSize 35 = .ok (.getfield 10, 3) := by decide +kernel
theorem dX7_setSize_38 : decode cX7_setSize 38 = .ok (.getfield 65, 3) := by decide +kernel
theorem dX7_setSize_41 : decode cX7_setSize 41 = .ok (.iload_n 1, 1) := by decide +kernel
theorem dX7_setSize_42 : decode cX7_setSize 42 = .ok (.iaload, 1) := by decide +kernel
theorem dX7_setSize_43 : decode cX7_setSize 43 = .ok (.istore_n 3, 1) := by decide +kernel
theorem dX7_setSize_44 : decode cX7_setSize 44 = .ok (.aload_n 0, 1) := by decide +kernel
theorem dX7_setSize_45 : decode cX7_setSize 45 = .ok (.getfield 10, 3) := by decide +kernel
theorem dX7_setSize_48 : decode cX7_setSize 48 = .ok (.getfield 65, 3) := by decide +kernel
theorem dX7_setSize_51 : decode cX7_setSize 51 = .ok (.iload_n 1, 1) := by decide +kernel
theorem dX7_setSize_52 : decode cX7_setSize 52 = .ok (.iload_n 2, 1) := by decide +kernel
theorem dX7_setSize_53 : decode cX7_setSize 53 = .ok (.iastore, 1) := by decide +kernel
theorem dX7_setSize_54 : decode cX7_setSize 54 = .ok (.aload_n 0, 1) := by decide +kernel
theorem dX7_setSize_55 : decode cX7_setSize 55 = .ok (.getfield 19, 3) := by decide +kernel
theorem dX7_setSize_58 : decode cX7_setSize 58 = .ok (.aload_n 0, 1) := by decide +kernel
theorem dX7_setSize_59 : decode cX7_setSize 59 = .ok (.getfield 10, 3) := by decide +kernel
theorem dX7_setSize_62 : decode cX7_setSize 62 = .ok (.invokevirtual 36, 3) := by decide +kernel
theorem dX7_setSize_65 : decode cX7_setSize 65 = .ok (.iload_n 3, 1) := by decide +kernel
theorem dX7_setSize_66 : decode cX7_setSize 66 = .ok (.ireturn, 1) := by decide +kernel
set_option maxRecDepth 20000 in
theorem ggX7_removeLeaf_X5_has : GoodIn wsX7_removeLeaf wsX5_has := goodIn_r _ [9, 10, 235, 236, 237, 238, 239, 240, 241] (by decide +kernel) (by decide +kernel)
set_option maxRecDepth 20000 in
theorem gX7_removeLeaf_X5_has : GoodIn wsX7_removeLeaf (wsV RX7 40 RX5 yX5_has wsX5_has) := goodIn_app (goodIn_of _ (by decide +kernel)) ggX7_removeLeaf_X5_has
set_option maxRecDepth 20000 in
theorem ggX7_removeLeaf_X7_failInvalid : GoodIn wsX7_removeLeaf wsX7_failInvalid := goodIn_r _ [15, 16, 227, 228, 229, 230, 231, 232, 233, 234] (by decide +kernel) (by decide +kernel)
set_option maxRecDepth 20000 in
theorem gX7_removeLeaf_X7_failInvalid : GoodIn wsX7_removeLeaf (wsV RX7 47 RX7 yX7_failInvalid wsX7_failInvalid) := goodIn_app (goodIn_of _ (by decide +kernel)) ggX7_removeLeaf_X7_failInvalid
set_option maxRecDepth 20000 in
theorem ggX7_removeLeaf_X1_isLeaf : GoodIn wsX7_removeLeaf wsX1_isLeaf := goodIn_r _ [21, 22, 242, 243, 244, 245, 246, 247, 248, 249] (by decide +kernel) (by decide +kernel)
set_option maxRecDepth 20000 in
theorem gX7_removeLeaf_X1_isLeaf : GoodIn wsX7_removeLeaf (wsV RX7 69 RX1 yX1_isLeaf wsX1_isLeaf) := goodIn_app (goodIn_of _ (by decide +kernel)) ggX7_removeLeaf_X1_isLeaf
set_option maxRecDepth 20000 in
theorem ggX7_removeLeaf_X7_failRejected : GoodIn wsX7_removeLeaf wsX7_failRejected := goodIn_r _ [26, 27, 227, 228, 229, 230, 231, 232, 233, 234] (by decide +kernel) (by decide +kernel)
set_option maxRecDepth 20000 in
theorem gX7_removeLeaf_X7_failRejected : GoodIn wsX7_removeLeaf (wsV RX7 72 RX7 yX7_failRejected wsX7_failRejected) := goodIn_app (goodIn_of _ (by decide +kernel)) ggX7_removeLeaf_X7_failRejected
set_option maxRecDepth 20000 in
theorem ggX7_removeLeaf_X6_push : GoodIn wsX7_removeLeaf wsX6_push := goodIn_r _ [32, 33, 34, 35, 36, 37, 38, 8, 39, 40, 41, 42, 43, 44, 45, 10, 46, 47, 48, 49, 250, 251, 252, 235, 236, 237, 238, 239, 240, 241] (by decide +kernel) (by decide +kernel)
set_option maxRecDepth 20000 in
theorem gX7_removeLeaf_X6_push : GoodIn wsX7_removeLeaf (wsV RX7 58 RX6 yX6_push wsX6_push) := goodIn_app (goodIn_of _ (by decide +kernel)) ggX7_removeLeaf_X6_push
set_option maxRecDepth 20000 in
theorem ggX7_removeLeaf_X5_takeOut : GoodIn wsX7_removeLeaf wsX5_takeOut := goodIn_r _ [53, 10, 40, 45, 54, 6, 7, 8, 9, 235, 236, 237, 238, 239, 240, 241] (by decide +kernel) (by decide +kernel)
set_option maxRecDepth 20000 in
theorem gX7_removeLeaf_X5_takeOut : GoodIn wsX7_removeLeaf (wsV RX7 75 RX5 yX5_takeOut wsX5_takeOut) := goodIn_app (goodIn_of _ (by decide +kernel)) ggX7_removeLeaf_X5_takeOut
set_option maxRecDepth 20000 in
theorem ggX7_removeLeaf_X1_arrange : GoodIn wsX7_removeLeaf wsX1_arrange := goodIn_r _ [58, 59, 60, 61, 62, 63, 64, 65, 66, 67, 20, 68, 69, 70, 71, 22, 72, 73, 74, 75, 76, 77, 78, 18, 19, 21, 79, 80, 81, 82, 83, 84, 85, 86, 87, 88, 89, 90, 91, 92, 93, 94, 95, 96, 97, 98, 99, 100, 101, 102, 103, 104, 105, 106, 107, 108, 109, 110, 111, 112, 113, 114, 115, 116, 117, 118, 119, 120, 121, 122, 123, 124, 125, 126, 127, 128, 129, 130, 131, 132, 133, 134, 135, 136, 137, 138, 139, 140, 141, 142, 143, 144, 145, 146, 147, 148, 149, 150, 151, 152, 153, 154, 155, 156, 157, 158, 159, 160, 161, 162, 163, 164, 165, 166, 167, 168, 169, 170, 171, 172, 173, 174, 175, 176, 177, 178, 179, 180, 181, 182, 183, 184, 185, 186, 187, 188, 189, 190, 191, 192, 193, 194, 195, 196, 197, 198, 199, 200, 201, 202, 203, 204, 205, 206, 207, 208, 209, 210, 211, 212, 213, 214, 215, 216, 217, 218, 219, 220, 221, 222, 223, 224, 225, 226, 242, 243, 244, 245, 246, 247, 248, 249, 235, 236, 237, 238, 239, 240, 241, 253, 254, 255, 256, 257, 258, 259, 260, 261, 262, 263, 264, 265, 266, 267, 268, 269, 270, 271, 272] (by decide +kernel) (by decide +kernel)
set_option maxRecDepth 20000 in
theorem gX7_removeLeaf_X1_arrange : GoodIn wsX7_removeLeaf (wsV RX7 36 RX1 yX1_arrange wsX1_arrange) := goodIn_app (goodIn_of _ (by decide +kernel)) ggX7_removeLeaf_X1_arrange
theorem dX7_removeLeaf_0 : decode cX7_removeLeaf 0 = .ok (.aload_n 0, 1) := by decide +kernel
theorem dX7_removeLeaf_1 : decode cX7_removeLeaf 1 = .ok (.getfield 10, 3) := by decide +kernel
theorem dX7_removeLeaf_4 : decode cX7_removeLeaf 4 = .ok (.iload_n 1, 1) := by decide +kernel
theorem dX7_removeLeaf_5 : decode cX7_removeLeaf 5 = .ok (.invokevirtual 40, 3) := by decide +kernel
theorem dX7_removeLeaf_8 : decode cX7_removeLeaf 8 = .ok (.ifCond .ne 8, 3) := by decide +kernel
theorem dX7_removeLeaf_11 : decode cX7_removeLeaf 11 = .ok (.aload_n 0, 1) := by decide +kernel
theorem dX7_removeLeaf_12 : decode cX7_removeLeaf 12 = .ok (.invokevirtual 47, 3) := by decide +kernel
theorem dX7_removeLeaf_15 : decode cX7_removeLeaf 15 = .ok (.ireturn, 1) := by decide +kernel
theorem dX7_removeLeaf_16 : decode cX7_removeLeaf 16 = .ok (.iload_n 1, 1) := by decide +kernel
theorem dX7_removeLeaf_17 : decode cX7_removeLeaf 17 = .ok (.ifCond .eq 14, 3) := by decide +kernel
theorem dX7_removeLeaf_20 : decode cX7_removeLeaf 20 = .ok (.aload_n 0, 1) := by decide +kernel
theorem dX7_removeLeaf_21 : decode cX7_removeLeaf 21 = .ok (.getfield 19, 3) := by decide +kernel
theorem dX7_removeLeaf_24 : decode cX7_removeLeaf 24 = .ok (.iload_n 1, 1) := by decide +kernel
theorem dX7_removeLeaf_25 : decode cX7_removeLeaf 25 = .ok (.invokevirtual 69, 3) := by decide +kernel
theorem dX7_removeLeaf_28 : decode cX7_removeLeaf 28 = .ok (.ifCond .ne 8, 3) := by decide +kernel
theorem dX7_removeLeaf_31 : decode cX7_removeLeaf 31 = .ok (.aload_n 0, 1) := by decide +kernel
theorem dX7_removeLeaf_32 : decode cX7_removeLeaf 32 = .ok (.invokevirtual 72, 3) := by decide +kernel
theorem dX7_removeLeaf_35 : decode cX7_removeLeaf 35 = .ok (.ireturn, 1) := by decide +kernel
theorem dX7_removeLeaf_36 : decode cX7_removeLeaf 36 = .ok (.aload_n 0, 1) := by decide +kernel
theorem dX7_removeLeaf_37 : decode cX7_removeLeaf 37 = .ok (.getfield 26, 3) := by decide +kernel
theorem dX7_removeLeaf_40 : decode cX7_removeLeaf 40 = .ok (.aload_n 0, 1) := by decide +kernel
theorem dX7_removeLeaf_41 : decode cX7_removeLeaf 41 = .ok (.getfield 10, 3) := by decide +kernel
theorem dX7_removeLeaf_44 : decode cX7_removeLeaf 44 = .ok (.invokevirtual 58, 3) := by decide +kernel
theorem dX7_removeLeaf_47 : decode cX7_removeLeaf 47 = .ok (.aload_n 0, 1) := by decide +kernel
theorem dX7_removeLeaf_48 : decode cX7_removeLeaf 48 = .ok (.getfield 10, 3) := by decide +kernel
theorem dX7_removeLeaf_51 : decode cX7_removeLeaf 51 = .ok (.iload_n 1, 1) := by decide +kernel
theorem dX7_removeLeaf_52 : decode cX7_removeLeaf 52 = .ok (.invokevirtual 75, 3) := by decide +kernel
theorem dX7_removeLeaf_55 : decode cX7_removeLeaf 55 = .ok (.aload_n 0, 1) := by decide +kernel
theorem dX7_removeLeaf_56 : decode cX7_removeLeaf 56 = .ok (.getfield 19, 3) := by decide +kernel
theorem dX7_removeLeaf_59 : decode cX7_removeLeaf 59 = .ok (.aload_n 0, 1) := by decide +kernel
theorem dX7_removeLeaf_60 : decode cX7_removeLeaf 60 = .ok (.getfield 10, 3) := by decide +kernel
theorem dX7_removeLeaf_63 : decode cX7_removeLeaf 63 = .ok (.invokevirtual 36, 3) := by decide +kernel
theorem dX7_removeLeaf_66 : decode cX7_removeLeaf 66 = .ok (.aload_n 0, 1) := by decide +kernel
theorem dX7_removeLeaf_67 : decode cX7_removeLeaf 67 = .ok (.getfield 10, 3) := by decide +kernel
theorem dX7_removeLeaf_70 : decode cX7_removeLeaf 70 = .ok (.getfield 51, 3) := by decide +kernel
theorem dX7_removeLeaf_73 : decode cX7_removeLeaf 73 = .ok (.ireturn, 1) := by decide +kernel
set_option maxRecDepth 20000 in
theorem ggX7_setParent_X5_has : GoodIn wsX7_setParent wsX5_has := goodIn_r _ [9, 10, 234, 235, 236, 237, 238, 239, 240] (by decide +kernel) (by decide +kernel)
set_option maxRecDepth 20000 in
theorem gX7_setParent_X5_has : GoodIn wsX7_setParent (wsV RX7 40 RX5 yX5_has wsX5_has) := goodIn_app (goodIn_of _ (by decide +kernel)) ggX7_setParent_X5_has
set_option maxRecDepth 20000 in
theorem ggX7_setParent_X7_failInvalid : GoodIn wsX7_setParent wsX7_failInvalid := goodIn_r _ [15, 16, 226, 227, 228, 229, 230, 231, 232, 233] (by decide +kernel) (by decide +kernel)
set_option maxRecDepth 20000 in
theorem gX7_setParent_X7_failInvalid : GoodIn wsX7_setParent (wsV RX7 47 RX7 yX7_failInvalid wsX7_failInvalid) := goodIn_app (goodIn_of _ (by decide +kernel)) ggX7_setParent_X7_failInvalid
set_option maxRecDepth 20000 in
theorem ggX7_setParent_X5_isWithin : GoodIn wsX7_setParent wsX5_isWithin := goodIn_r _ [20, 21, 22, 6, 7, 8, 9, 10, 234, 235, 236, 237, 238, 239, 240] (by decide +kernel) (by decide +kernel)
set_option maxRecDepth 20000 in
theorem gX7_setParent_X5_isWithin : GoodIn wsX7_setParent (wsV RX7 79 RX5 yX5_isWithin wsX5_isWithin) := goodIn_app (goodIn_of _ (by decide +kernel)) ggX7_setParent_X5_isWithin
set_option maxRecDepth 20000 in
theorem ggX7_setParent_X7_failRejected : GoodIn wsX7_setParent wsX7_failRejected := goodIn_r _ [26, 27, 226, 227, 228, 229, 230, 231, 232, 233] (by decide +kernel) (by decide +kernel)
set_option maxRecDepth 20000 in
theorem gX7_setParent_X7_failRejected : GoodIn wsX7_setParent (wsV RX7 72 RX7 yX7_failRejected wsX7_failRejected) := goodIn_app (goodIn_of _ (by decide +kernel)) ggX7_setParent_X7_failRejected
set_option maxRecDepth 20000 in
theorem ggX7_setParent_X6_push : GoodIn wsX7_setParent wsX6_push := goodIn_r _ [32, 33, 34, 35, 36, 37, 38, 8, 39, 40, 41, 42, 43, 44, 21, 10, 45, 46, 47, 48, 241, 242, 243, 234, 235, 236, 237, 238, 239, 240] (by decide +kernel) (by decide +kernel)
set_option maxRecDepth 20000 in
theorem gX7_setParent_X6_push : GoodIn wsX7_setParent (wsV RX7 58 RX6 yX6_push wsX6_push) := goodIn_app (goodIn_of _ (by decide +kernel)) ggX7_setParent_X6_push
set_option maxRecDepth 20000 in
theorem ggX7_setParent_X1_arrange : GoodIn wsX7_setParent wsX1_arrange := goodIn_r _ [53, 54, 55, 56, 57, 58, 59, 60, 61, 62, 52, 63, 64, 65, 66, 67, 68, 69, 70, 71, 72, 73, 74, 75, 76, 77, 78, 79, 80, 81, 82, 83, 84, 85, 86, 87, 88, 89, 90, 91, 92, 93, 94, 95, 96, 97, 98, 99, 100, 101, 102, 103, 104, 105, 106, 107, 108, 109, 110, 111, 112, 113, 114, 115, 116, 117, 118, 119, 120, 121, 122, 123, 124, 125, 126, 127, 128, 129, 130, 131, 132, 133, 134, 135, 136, 137, 138, 139, 140, 141, 142, 143, 144, 145, 146, 147, 148, 149, 150, 151, 152, 153, 154, 155, 156, 157, 158, 159, 160, 161, 162, 163, 164, 165, 166, 167, 168, 169, 170, 171, 172, 173, 174, 175, 176, 177, 178, 179, 180, 181, 182, 183, 184, 185, 186, 187, 188, 189, 190, 191, 192, 193, 194, 195, 196, 197, 198, 199, 200, 201, 202, 203, 204, 205, 206, 207, 208, 209, 210, 211, 212, 213, 214, 215, 216, 217, 218, 219, 220, 221, 222, 223, 224, 225, 244, 245, 246, 247, 248, 249, 250, 251, 234, 235, 236, 237, 238, 239, 240, 252, 253, 254, 255, 256, 257, 258, 259, 260, 261, 262, 263, 264, 265, 266, 267, 268, 269, 270, 271] (by decide +kernel) (by decide +kernel)
set_option maxRecDepth 20000 in
theorem gX7_setParent_X1_arrange : GoodIn wsX7_setParent (wsV RX7 36 RX1 yX1_arrange wsX1_arrange) := goodIn_app (goodIn_of _ (by decide +kernel)) ggX7_setParent_X1_arrange
theorem dX7_setParent_0 : decode cX7_setParent 0 = .ok (.aload_n 0, 1) := by decide +kernel
theorem dX7_setParent_1 : decode cX7_setParent 1 = .ok (.getfield 10, 3) := by decide +kernel
theorem dX7_setParent_4 : decode cX7_setParent 4 = .ok (.iload_n 1, 1) := by decide +kernel
theorem dX7_setParent_5 : decode cX7_setParent 5 = .ok (.invokevirtual 40, 3) := by decide +kernel
theorem dX7_setParent_8 : decode cX7_setParent 8 = .ok (.ifCond .eq 14, 3) := by decide +kernel
theorem dX7_setParent_11 : decode cX7_setParent 11 = .ok (.aload_n 0, 1) := by decide +kernel
theorem dX7_setParent_12 : decode cX7_setParent 12 = .ok (.getfield 10, 3) := by decide +kernel
theorem dX7_setParent_15 : decode cX7_setParent 15 = .ok (.iload_n 2, 1) := by decide +kernel
theorem dX7_setParent_16 : decode cX7_setParent 16 = .ok (.invokevirtual 40, 3) := by decide +kernel
theorem dX7_setParent_19 : decode cX7_setParent 19 = .ok (.ifCond .ne 8, 3) := by decide +kernel
theorem dX7_setParent_22 : decode cX7_setParent 22 = .ok (.aload_n 0, 1) := by decide +kernel
theorem dX7_setParent_23 : decode cX7_setParent 23 = .ok (.invokevirtual 47, 3) := by decide +kernel
theorem dX7_setParent_26 : decode cX7_setParent 26 = .ok (.ireturn, 1) := by decide +kernel
theorem dX7_setParent_27 : decode cX7_setParent 27 = .ok (.iload_n 1, 1) := by decide +kernel
theorem dX7_setParent_28 : decode cX7_setParent 28 = .ok (.ifCond .eq 15, 3) := by decide +kernel
theorem dX7_setParent_31 : decode cX7_setParent 31 = .ok (.aload_n 0, 1) := by decide +kernel
theorem dX7_setParent_32 : decode cX7_setParent 32 = .ok (.getfield 10, 3) := by decide +kernel
theorem dX7_setParent_35 : decode cX7_setParent 35 = .ok (.iload_n 2, 1) := by decide +kernel
theorem dX7_setParent_36 : decode cX7_setParent 36 = .ok (.iload_n 1, 1) := by decide +kernel
theorem dX7_setParent_37 : decode cX7_setParent 37 = .ok (.invokevirtual 79, 3) := by decide +kernel
theorem dX7_setParent_40 : decode cX7_setParent 40 = .ok (.ifCond .eq 8, 3) := by decide +kernel
theorem dX7_setParent_43 : decode cX7_setParent 43 = .ok (.aload_n 0, 1) := by decide +kernel
theorem dX7_setParent_44 : decode cX7_setParent 44 = .ok (.invokevirtual 72, 3) := by decide +kernel
theorem dX7_setParent_47 : decode cX7_setParent 47 = .ok (.ireturn, 1) := by decide +kernel
theorem dX7_setParent_48 : decode cX7_setParent 48 = .ok (.aload_n 0, 1) := by decide +kernel
theorem dX7_setParent_49 : decode cX7_setParent 49 = .ok (.getfield 26, 3) := by decide +kernel
theorem dX7_setParent_52 : decode cX7_setParent 52 = .ok (.aload_n 0, 1) := by decide +kernel
theorem dX7_setParent_53 : decode cX7_setParent 53 = .ok (.getfield 10, 3) := by decide +kernel
theorem dX7_setParent_56 : decode cX7_setParent 56 = .ok (.invokevirtual 58, 3) := by decide +kernel
theorem dX7_setParent_59 : decode cX7_setParent 59 = .ok (.aload_n 0, 1) := by decide +kernel
theorem dX7_setParent_60 : decode cX7_setParent 60 = .ok (.getfield 10, 3) := by decide +kernel
theorem dX7_setParent_63 : decode cX7_setParent 63 = .ok (.getfield 83, 3) := by decide +kernel
theorem dX7_setParent_66 : decode cX7_setParent 66 = .ok (.iload_n 1, 1) := by decide +kernel
theorem dX7_setParent_67 : decode cX7_setParent 67 = .ok (.iaload, 1) := by decide +kernel
theorem dX7_setParent_68 : decode cX7_setParent 68 = .ok (.istore_n 3, 1) := by decide +kernel
theorem dX7_setParent_69 : decode cX7_setParent 69 = .ok (.aload_n 0, 1) := by decide +kernel
theorem dX7_setParent_70 : decode cX7_setParent 70 = .ok (.getfield 10, 3) := by decide +kernel
theorem dX7_setParent_73 : decode cX7_setParent 73 = .ok (.getfield 83, 3) := by decide +kernel
theorem dX7_setParent_76 : decode cX7_setParent 76 = .ok (.iload_n 1, 1) := by decide +kernel
theorem dX7_setParent_77 : decode cX7_setParent 77 = .ok (.iload_n 2, 1) := by decide +kernel
theorem dX7_setParent_78 : decode cX7_setParent 78 = .ok (.iastore, 1) := by decide +kernel
theorem dX7_setParent_79 : decode cX7_setParent 79 = .ok (.aload_n 0, 1) := by decide +kernel
theorem dX7_setParent_80 : decode cX7_setParent 80 = .ok (.getfield 19, 3) := by decide +kernel
theorem dX7_setParent_83 : decode cX7_setParent 83 = .ok (.aload_n 0, 1) := by decide +kernel
theorem dX7_setParent_84 : decode cX7_setParent 84 = .ok (.getfield 10, 3) := by decide +kernel
theorem dX7_setParent_87 : decode cX7_setParent 87 = .ok (.invokevirtual 36, 3) := by decide +kernel
theorem dX7_setParent_90 : decode cX7_setParent 90 = .ok (.iload_n 3, 1) := by decide +kernel
theorem dX7_setParent_91 : decode cX7_setParent 91 = .ok (.ireturn, 1) := by decide +kernel
set_option maxRecDepth 20000 in
theorem ggX7_setCanvas_X7_isSide : GoodIn wsX7_setCanvas wsX7_isSide := goodIn_r _ [9] (by decide +kernel) (by decide +kernel)
set_option maxRecDepth 20000 in
theorem gX7_setCanvas_X7_isSide : GoodIn wsX7_setCanvas (va_wsS RX7 86 yX7_isSide wsX7_isSide) := goodIn_app (goodIn_of _ (by decide +kernel)) ggX7_setCanvas_X7_isSide
set_option maxRecDepth 20000 in
theorem ggX7_setCanvas_X7_failInvalid : GoodIn wsX7_setCanvas wsX7_failInvalid := goodIn_r _ [13, 14, 216, 217, 218, 219, 220, 221, 222, 223] (by decide +kernel) (by decide +kernel)
set_option maxRecDepth 20000 in
theorem gX7_setCanvas_X7_failInvalid : GoodIn wsX7_setCanvas (wsV RX7 47 RX7 yX7_failInvalid wsX7_failInvalid) := goodIn_app (goodIn_of _ (by decide +kernel)) ggX7_setCanvas_X7_failInvalid
set_option maxRecDepth 20000 in
theorem ggX7_setCanvas_X6_push : GoodIn wsX7_setCanvas wsX6_push := goodIn_r _ [19, 20, 21, 22, 23, 24, 25, 26, 27, 28, 29, 30, 31, 32, 33, 34, 35, 36, 37, 38, 231, 232, 233, 224, 225, 226, 227, 228, 229, 230] (by decide +kernel) (by decide +kernel)
set_option maxRecDepth 20000 in
theorem gX7_setCanvas_X6_push : GoodIn wsX7_setCanvas (wsV RX7 58 RX6 yX6_push wsX6_push) := goodIn_app (goodIn_of _ (by decide +kernel)) ggX7_setCanvas_X6_push
set_option maxRecDepth 20000 in
theorem ggX7_setCanvas_X1_arrange : GoodIn wsX7_setCanvas wsX1_arrange := goodIn_r _ [43, 44, 45, 46, 47, 48, 49, 50, 51, 52, 42, 53, 54, 55, 56, 57, 58, 59, 60, 61, 62, 63, 64, 65, 66, 67, 68, 69, 70, 71, 72, 73, 74, 75, 76, 77, 78, 79, 80, 81, 82, 83, 84, 85, 86, 87, 88, 89, 90, 91, 92, 93, 94, 95, 96, 97, 98, 99, 100, 101, 102, 103, 104, 105, 106, 107, 108, 109, 110, 111, 112, 113, 114, 115, 116, 117, 118, 119, 120, 121, 122, 123, 124, 125, 126, 127, 128, 129, 130, 131, 132, 133, 134, 135, 136, 137, 138, 139, 140, 141, 142, 143, 144, 145, 146, 147, 148, 149, 150, 151, 152, 153, 154, 155, 156, 157, 158, 159, 160, 161, 162, 163, 164, 165, 166, 167, 168, 169, 170, 171, 172, 173, 174, 175, 176, 177, 178, 179, 180, 181, 182, 183, 184, 185, 186, 187, 188, 189, 190, 191, 192, 193, 194, 195, 196, 197, 198, 199, 200, 201, 202, 203, 204, 205, 206, 207, 208, 209, 210, 211, 212, 213, 214, 215, 234, 235, 236, 237, 238, 239, 240, 241, 224, 225, 226, 227, 228, 229, 230, 242, 243, 244, 245, 246, 247, 248, 249, 250, 251, 252, 253, 254, 255, 256, 257, 258, 259, 260, 261] (by decide +kernel) (by decide +kernel)
set_option maxRecDepth 20000 in
theorem gX7_setCanvas_X1_arrange : GoodIn wsX7_setCanvas (wsV RX7 36 RX1 yX1_arrange wsX1_arrange) := goodIn_app (goodIn_of _ (by decide +kernel)) ggX7_setCanvas_X1_arrange
theorem dX7_setCanvas_0 : decode cX7_setCanvas 0 = .ok (.iload_n 1, 1) := by decide +kernel
theorem dX7_setCanvas_1 : decode cX7_setCanvas 1 = .ok (.invokestatic 86, 3) := by decide +kernel
theorem dX7_setCanvas_4 : decode cX7_setCanvas 4 = .ok (.ifCond .eq 10, 3) := by decide +kernel
theorem dX7_setCanvas_7 : decode cX7_setCanvas 7 = .ok (.iload_n 2, 1) := by decide +kernel
theorem dX7_setCanvas_8 : decode cX7_setCanvas 8 = .ok (.invokestatic 86, 3) := by decide +kernel
theorem dX7_setCanvas_11 : decode cX7_setCanvas 11 = .ok (.ifCond .ne 8, 3) := by decide +kernel
theorem dX7_setCanvas_14 : decode cX7_setCanvas 14 = .ok (.aload_n 0, 1) := by decide +kernel
theorem dX7_setCanvas_15 : decode cX7_setCanvas 15 = .ok (.invokevirtual 47, 3) := by decide +kernel
theorem dX7_setCanvas_18 : decode cX7_setCanvas 18 = .ok (.ireturn, 1) := by decide +kernel
theorem dX7_setCanvas_19 : decode cX7_setCanvas 19 = .ok (.aload_n 0, 1) := by decide +kernel
theorem dX7_setCanvas_20 : decode cX7_setCanvas 20 = .ok (.getfield 26, 3) := by decide +kernel
theorem dX7_setCanvas_23 : decode cX7_setCanvas 23 = .ok (.aload_n 0, 1) := by decide +kernel
theorem dX7_setCanvas_24 : decode cX7_setCanvas 24 = .ok (.getfield 10, 3) := by decide +kernel
theorem dX7_setCanvas_27 : decode cX7_setCanvas 27 = .ok (.invokevirtual 58, 3) := by decide +kernel
theorem dX7_setCanvas_30 : decode cX7_setCanvas 30 = .ok (.sipush 1000, 3) := by decide +kernel
theorem dX7_setCanvas_33 : decode cX7_setCanvas 33 = .ok (.aload_n 0, 1) := by decide +kernel
theorem dX7_setCanvas_34 : decode cX7_setCanvas 34 = .ok (.getfield 10, 3) := by decide +kernel
theorem dX7_setCanvas_37 : decode cX7_setCanvas 37 = .ok (.getfield 89, 3) := by decide +kernel
theorem dX7_setCanvas_40 : decode cX7_setCanvas 40 = .ok (.imul, 1) := by decide +kernel
theorem dX7_setCanvas_41 : decode cX7_setCanvas 41 = .ok (.aload_n 0, 1) := by decide +kernel
theorem dX7_setCanvas_42 : decode cX7_setCanvas 42 = .ok (.getfield 10, 3) := by decide +kernel
theorem dX7_setCanvas_45 : decode cX7_setCanvas 45 = .ok (.getfield 92, 3) := by decide +kernel
theorem dX7_setCanvas_48 : decode cX7_setCanvas 48 = .ok (.iadd, 1) := by decide +kernel
theorem dX7_setCanvas_49 : decode cX7_setCanvas 49 = .ok (.istore_n 3, 1) := by decide +kernel
theorem dX7_setCanvas_50 : decode cX7_setCanvas 50 = .ok (.aload_n 0, 1) := by decide +kernel
theorem dX7_setCanvas_51 : decode cX7_setCanvas 51 = .ok (.getfield 10, 3) := by decide +kernel
theorem dX7_setCanvas_54 : decode cX7_setCanvas 54 = .ok (.iload_n 1, 1) := by decide +kernel
theorem dX7_setCanvas_55 : decode cX7_setCanvas 55 = .ok (.putfield 89, 3) := by decide +kernel
theorem dX7_setCanvas_58 : decode cX7_setCanvas 58 = .ok (.aload_n 0, 1) := by decide +kernel
theorem dX7_setCanvas_59 : decode cX7_setCanvas 59 = .ok (.getfield 10, 3) := by decide +kernel
theorem dX7_setCanvas_62 : decode cX7_setCanvas 62 = .ok (.iload_n 2, 1) := by decide +kernel
theorem dX7_setCanvas_63 : decode cX7_setCanvas 63 = .ok (.putfield 92, 3) := by decide +kernel
theorem dX7_setCanvas_66 : decode cX7_setCanvas 66 = .ok (.aload_n 0, 1) := by decide +kernel
theorem dX7_setCanvas_67 : decode cX7_setCanvas 67 = .ok (.getfield 19, 3) := by decide +kernel
theorem dX7_setCanvas_70 : decode cX7_setCanvas 70 = .ok (.aload_n 0, 1) := by decide +kernel
theorem dX7_setCanvas_71 : decode cX7_setCanvas 71 = .ok (.getfield 10, 3) := by decide +kernel
theorem dX7_setCanvas_74 : decode cX7_setCanvas 74 = .ok (.invokevirtual 36, 3) := by decide +kernel
theorem dX7_setCanvas_77 : decode cX7_setCanvas 77 = .ok (.iload_n 3, 1) := by decide +kernel
theorem dX7_setCanvas_78 : decode cX7_setCanvas 78 = .ok (.ireturn, 1) := by decide +kernel
set_option maxRecDepth 20000 in
theorem ggX7_setPadding_X7_failInvalid : GoodIn wsX7_setPadding wsX7_failInvalid := goodIn_r _ [9, 10, 212, 213, 214, 215, 216, 217, 218, 219] (by decide +kernel) (by decide +kernel)
set_option maxRecDepth 20000 in
theorem gX7_setPadding_X7_failInvalid : GoodIn wsX7_setPadding (wsV RX7 47 RX7 yX7_failInvalid wsX7_failInvalid) := goodIn_app (goodIn_of _ (by decide +kernel)) ggX7_setPadding_X7_failInvalid
set_option maxRecDepth 20000 in
theorem ggX7_setPadding_X6_push : GoodIn wsX7_setPadding wsX6_push := goodIn_r _ [15, 16, 17, 18, 19, 20, 21, 22, 23, 24, 25, 26, 27, 28, 29, 30, 31, 32, 33, 34, 227, 228, 229, 220, 221, 222, 223, 224, 225, 226] (by decide +kernel) (by decide +kernel)
set_option maxRecDepth 20000 in
theorem gX7_setPadding_X6_push : GoodIn wsX7_setPadding (wsV RX7 58 RX6 yX6_push wsX6_push) := goodIn_app (goodIn_of _ (by decide +kernel)) ggX7_setPadding_X6_push
set_option maxRecDepth 20000 in
theorem ggX7_setPadding_X1_arrange : GoodIn wsX7_setPadding wsX1_arrange := goodIn_r _ [39, 40, 41, 42, 43, 44, 45, 46, 47, 48, 38, 49, 50, 51, 52, 53, 54, 55, 56, 57, 58, 59, 60, 61, 62, 63, 64, 65, 66, 67, 68, 69, 70, 71, 72, 73, 74, 75, 76, 77, 78, 79, 80, 81, 82, 83, 84, 85, 86, 87, 88, 89, 90, 91, 92, 93, 94, 95, 96, 97, 98, 99, 100, 101, 102, 103, 104, 105, 106, 107, 108, 109, 110, 111, 112, 113, 114, 115, 116, 117, 118, 119, 120, 121, 122, 123, 124, 125, 126, 127, 128, 129, 130, 131, 132, 133, 134, 135, 136, 137, 138, 139, 140, 141, 142, 143, 144, 145, 146, 147, 148, 149, 150, 151, 152, 153, 154, 155, 156, 157, 158, 159, 160, 161, 162, 163, 164, 165, 166, 167, 168, 169, 170, 171, 172, 173, 174, 175, 176, 177, 178, 179, 180, 181, 182, 183, 184, 185, 186, 187, 188, 189, 190, 191, 192, 193, 194, 195, 196, 197, 198, 199, 200, 201, 202, 203, 204, 205, 206, 207, 208, 209, 210, 211, 230, 231, 232, 233, 234, 235, 236, 237, 220, 221, 222, 223, 224, 225, 226, 238, 239, 240, 241, 242, 243, 244, 245, 246, 247, 248, 249, 250, 251, 252, 253, 254, 255, 256, 257] (by decide +kernel) (by decide +kernel)
set_option maxRecDepth 20000 in
theorem gX7_setPadding_X1_arrange : GoodIn wsX7_setPadding (wsV RX7 36 RX1 yX1_arrange wsX1_arrange) := goodIn_app (goodIn_of _ (by decide +kernel)) ggX7_setPadding_X1_arrange
theorem dX7_setPadding_0 : decode cX7_setPadding 0 = .ok (.iload_n 1, 1) := by decide +kernel
theorem dX7_setPadding_1 : decode cX7_setPadding 1 = .ok (.ifCond .lt 8, 3) := by decide +kernel
theorem dX7_setPadding_4 : decode cX7_setPadding 4 = .ok (.iload_n 1, 1) := by decide +kernel
theorem dX7_setPadding_5 : decode cX7_setPadding 5 = .ok (.iconst 3, 1) := by decide +kernel
theorem dX7_setPadding_6 : decode cX7_setPadding 6 = .ok (.if_icmp .le 8, 3) := by decide +kernel
theorem dX7_setPadding_9 : decode cX7_setPadding 9 = .ok (.aload_n 0, 1) := by decide +kernel
theorem dX7_setPadding_10 : decode cX7_setPadding 10 = .ok (.invokevirtual 47, 3) := by decide +kernel
theorem dX7_setPadding_13 : decode cX7_setPadding 13 = .ok (.ireturn, 1) := by decide +kernel
theorem dX7_setPadding_14 : decode cX7_setPadding 14 = .ok (.aload_n 0, 1) := by decide +kernel
theorem dX7_setPadding_15 : decode cX7_setPadding 15 = .ok (.getfield 26, 3) := by decide +kernel
theorem dX7_setPadding_18 : decode cX7_setPadding 18 = .ok (.aload_n 0, 1) := by decide +kernel
theorem dX7_setPadding_19 : decode cX7_setPadding 19 = .ok (.getfield 10, 3) := by decide +kernel
theorem dX7_setPadding_22 : decode cX7_setPadding 22 = .ok (.invokevirtual 58, 3) := by decide +kernel
theorem dX7_setPadding_25 : decode cX7_setPadding 25 = .ok (.aload_n 0, 1) := by decide +kernel
theorem dX7_setPadding_26 : decode cX7_setPadding 26 = .ok (.getfield 10, 3) := by decide +kernel
theorem dX7_setPadding_29 : decode cX7_setPadding 29 = .ok (.getfield 95, 3) := by decide +kernel
theorem dX7_setPadding_32 : decode cX7_setPadding 32 = .ok (.istore_n 2, 1) := by decide +kernel
theorem dX7_setPadding_33 : decode cX7_setPadding 33 = .ok (.aload_n 0, 1) := by decide +kernel
theorem dX7_setPadding_34 : decode cX7_setPadding 34 = .ok (.getfield 10, 3) := by decide +kernel
theorem dX7_setPadding_37 : decode cX7_setPadding 37 = .ok (.iload_n 1, 1) := by decide +kernel
theorem dX7_setPadding_38 : decode cX7_setPadding 38 = .ok (.putfield 95, 3) := by decide +kernel
theorem dX7_setPadding_41 : decode cX7_setPadding 41 = .ok (.aload_n 0, 1) := by decide +kernel
theorem dX7_setPadding_42 : decode cX7_setPadding 42 = .ok (.getfield 19, 3) := by decide +kernel
theorem dX7_setPadding_45 : decode cX7_setPadding 45 = .ok (.aload_n 0, 1) := by decide +kernel
theorem dX7_setPadding_46 : decode cX7_setPadding 46 = .ok (.getfield 10, 3) := by decide +kernel
theorem dX7_setPadding_49 : decode cX7_setPadding 49 = .ok (.invokevirtual 36, 3) := by decide +kernel
theorem dX7_setPadding_52 : decode cX7_setPadding 52 = .ok (.iload_n 2, 1) := by decide +kernel
theorem dX7_setPadding_53 : decode cX7_setPadding 53 = .ok (.ireturn, 1) := by decide +kernel
set_option maxRecDepth 20000 in
theorem ggX7_setMode_X7_failInvalid : GoodIn wsX7_setMode wsX7_failInvalid := goodIn_r _ [9, 10, 212, 213, 214, 215, 216, 217, 218, 219] (by decide +kernel) (by decide +kernel)
set_option maxRecDepth 20000 in
theorem gX7_setMode_X7_failInvalid : GoodIn wsX7_setMode (wsV RX7 47 RX7 yX7_failInvalid wsX7_failInvalid) := goodIn_app (goodIn_of _ (by decide +kernel)) ggX7_setMode_X7_failInvalid
set_option maxRecDepth 20000 in
theorem ggX7_setMode_X6_push : GoodIn wsX7_setMode wsX6_push := goodIn_r _ [15, 16, 17, 18, 19, 20, 21, 22, 23, 24, 25, 26, 27, 28, 29, 30, 31, 32, 33, 34, 227, 228, 229, 220, 221, 222, 223, 224, 225, 226] (by decide +kernel) (by decide +kernel)
set_option maxRecDepth 20000 in
theorem gX7_setMode_X6_push : GoodIn wsX7_setMode (wsV RX7 58 RX6 yX6_push wsX6_push) := goodIn_app (goodIn_of _ (by decide +kernel)) ggX7_setMode_X6_push
set_option maxRecDepth 20000 in
theorem ggX7_setMode_X1_arrange : GoodIn wsX7_setMode wsX1_arrange := goodIn_r _ [39, 40, 41, 42, 43, 44, 45, 46, 47, 48, 38, 49, 50, 51, 52, 53, 54, 55, 56, 57, 58, 59, 60, 61, 62, 63, 64, 65, 66, 67, 68, 69, 70, 71, 72, 73, 74, 75, 76, 77, 78, 79, 80, 81, 82, 83, 84, 85, 86, 87, 88, 89, 90, 91, 92, 93, 94, 95, 96, 97, 98, 99, 100, 101, 102, 103, 104, 105, 106, 107, 108, 109, 110, 111, 112, 113, 114, 115, 116, 117, 118, 119, 120, 121, 122, 123, 124, 125, 126, 127, 128, 129, 130, 131, 132, 133, 134, 135, 136, 137, 138, 139, 140, 141, 142, 143, 144, 145, 146, 147, 148, 149, 150, 151, 152, 153, 154, 155, 156, 157, 158, 159, 160, 161, 162, 163, 164, 165, 166, 167, 168, 169, 170, 171, 172, 173, 174, 175, 176, 177, 178, 179, 180, 181, 182, 183, 184, 185, 186, 187, 188, 189, 190, 191, 192, 193, 194, 195, 196, 197, 198, 199, 200, 201, 202, 203, 204, 205, 206, 207, 208, 209, 210, 211, 230, 231, 232, 233, 234, 235, 236, 237, 220, 221, 222, 223, 224, 225, 226, 238, 239, 240, 241, 242, 243, 244, 245, 246, 247, 248, 249, 250, 251, 252, 253, 254, 255, 256, 257] (by decide +kernel) (by decide +kernel)
set_option maxRecDepth 20000 in
theorem gX7_setMode_X1_arrange : GoodIn wsX7_setMode (wsV RX7 36 RX1 yX1_arrange wsX1_arrange) := goodIn_app (goodIn_of _ (by decide +kernel)) ggX7_setMode_X1_arrange
theorem dX7_setMode_0 : decode cX7_setMode 0 = .ok (.iload_n 1, 1) := by decide +kernel
theorem dX7_setMode_1 : decode cX7_setMode 1 = .ok (.ifCond .eq 18, 3) := by decide +kernel
theorem dX7_setMode_4 : decode cX7_setMode 4 = .ok (.iload_n 1, 1) := by decide +kernel
theorem dX7_setMode_5 : decode cX7_setMode 5 = .ok (.iconst 1, 1) := by decide +kernel
theorem dX7_setMode_6 : decode cX7_setMode 6 = .ok (.if_icmp .eq 13, 3) := by decide +kernel
theorem dX7_setMode_9 : decode cX7_setMode 9 = .ok (.iload_n 1, 1) := by decide +kernel
theorem dX7_setMode_10 : decode cX7_setMode 10 = .ok (.iconst 2, 1) := by decide +kernel
theorem dX7_setMode_11 : decode cX7_setMode 11 = .ok (.if_icmp .eq 8, 3) := by decide +kernel
theorem dX7_setMode_14 : decode cX7_setMode 14 = .ok (.aload_n 0, 1) := by decide +kernel
theorem dX7_setMode_15 : decode cX7_setMode 15 = .ok (.invokevirtual 47, 3) := by decide +kernel
theorem dX7_setMode_18 : decode cX7_setMode 18 = .ok (.ireturn, 1) := by decide +kernel
theorem dX7_setMode_19 : decode cX7_setMode 19 = .ok (.aload_n 0, 1) := by decide +kernel
theorem dX7_setMode_20 : decode cX7_setMode 20 = .ok (.getfield 26, 3) := by decide +kernel
theorem dX7_setMode_23 : decode cX7_setMode 23 = .ok (.aload_n 0, 1) := by decide +kernel
theorem dX7_setMode_24 : decode cX7_setMode 24 = .ok (.getfield 10, 3) := by decide +kernel
theorem dX7_setMode_27 : decode cX7_setMode 27 = .ok (.invokevirtual 58, 3) := by decide +kernel
theorem dX7_setMode_30 : decode cX7_setMode 30 = .ok (.aload_n 0, 1) := by decide +kernel
theorem dX7_setMode_31 : decode cX7_setMode 31 = .ok (.getfield 10, 3) := by decide +kernel
theorem dX7_setMode_34 : decode cX7_setMode 34 = .ok (.getfield 98, 3) := by decide +kernel
theorem dX7_setMode_37 : decode cX7_setMode 37 = .ok (.istore_n 2, 1) := by decide +kernel
theorem dX7_setMode_38 : decode cX7_setMode 38 = .ok (.aload_n 0, 1) := by decide +kernel
theorem dX7_setMode_39 : decode cX7_setMode 39 = .ok (.getfield 10, 3) := by decide +kernel
theorem dX7_setMode_42 : decode cX7_setMode 42 = .ok (.iload_n 1, 1) := by decide +kernel
theorem dX7_setMode_43 : decode cX7_setMode 43 = .ok (.putfield 98, 3) := by decide +kernel
theorem dX7_setMode_46 : decode cX7_setMode 46 = .ok (.aload_n 0, 1) := by decide +kernel
theorem dX7_setMode_47 : decode cX7_setMode 47 = .ok (.getfield 19, 3) := by decide +kernel
theorem dX7_setMode_50 : decode cX7_setMode 50 = .ok (.aload_n 0, 1) := by decide +kernel
theorem dX7_setMode_51 : decode cX7_setMode 51 = .ok (.getfield 10, 3) := by decide +kernel
theorem dX7_setMode_54 : decode cX7_setMode 54 = .ok (.invokevirtual 36, 3) := by decide +kernel
theorem dX7_setMode_57 : decode cX7_setMode 57 = .ok (.iload_n 2, 1) := by decide +kernel
theorem dX7_setMode_58 : decode cX7_setMode 58 = .ok (.ireturn, 1) := by decide +kernel
theorem dX7_nodeCount_0 : decode cX7_nodeCount 0 = .ok (.aload_n 0, 1) := by decide +kernel
theorem dX7_nodeCount_1 : decode cX7_nodeCount 1 = .ok (.getfield 10, 3) := by decide +kernel
theorem dX7_nodeCount_4 : decode cX7_nodeCount 4 = .ok (.getfield 51, 3) := by decide +kernel
theorem dX7_nodeCount_7 : decode cX7_nodeCount 7 = .ok (.ireturn, 1) := by decide +kernel
set_option maxRecDepth 20000 in
theorem ggX7_size_X5_has : GoodIn wsX7_size wsX5_has := goodIn_r _ [8, 9, 32, 33, 34, 35, 36, 37, 38] (by decide +kernel) (by decide +kernel)
set_option maxRecDepth 20000 in
theorem gX7_size_X5_has : GoodIn wsX7_size (wsV RX7 40 RX5 yX5_has wsX5_has) := goodIn_app (goodIn_of _ (by decide +kernel)) ggX7_size_X5_has
set_option maxRecDepth 20000 in
theorem ggX7_size_X7_failInvalid : GoodIn wsX7_size wsX7_failInvalid := goodIn_r _ [14, 15, 16, 17, 18, 19, 20, 21, 22, 23] (by decide +kernel) (by decide +kernel)
set_option maxRecDepth 20000 in
theorem gX7_size_X7_failInvalid : GoodIn wsX7_size (wsV RX7 47 RX7 yX7_failInvalid wsX7_failInvalid) := goodIn_app (goodIn_of _ (by decide +kernel)) ggX7_size_X7_failInvalid
theorem dX7_size_0 : decode cX7_size 0 = .ok (.aload_n 0, 1) := by decide +kernel
theorem dX7_size_1 : decode cX7_size 1 = .ok (.getfield 10, 3) := by decide +kernel
theorem dX7_size_4 : decode cX7_size 4 = .ok (.iload_n 1, 1) := by decide +kernel
theorem dX7_size_5 : decode cX7_size 5 = .ok (.invokevirtual 40, 3) := by decide +kernel
theorem dX7_size_8 : decode cX7_size 8 = .ok (.ifCond .eq 15, 3) := by decide +kernel
theorem dX7_size_11 : decode cX7_size 11 = .ok (.aload_n 0, 1) := by decide +kernel
theorem dX7_size_12 : decode cX7_size 12 = .ok (.getfield 19, 3) := by decide +kernel
theorem dX7_size_15 : decode cX7_size 15 = .ok (.getfield 101, 3) := by decide +kernel
theorem dX7_size_18 : decode cX7_size 18 = .ok (.iload_n 1, 1) := by decide +kernel
theorem dX7_size_19 : decode cX7_size 19 = .ok (.iaload, 1) := by decide +kernel
theorem dX7_size_20 : decode cX7_size 20 = .ok (.goto 7, 3) := by decide +kernel
theorem dX7_size_23 : decode cX7_size 23 = .ok (.aload_n 0, 1) := by decide +kernel
theorem dX7_size_24 : decode cX7_size 24 = .ok (.invokevirtual 47, 3) := by decide +kernel
theorem dX7_size_27 : decode cX7_size 27 = .ok (.ireturn, 1) := by decide +kernel
set_option maxRecDepth 20000 in
theorem ggX7_parent_X5_has : GoodIn wsX7_parent wsX5_has := goodIn_r _ [7, 8, 23, 24, 25, 26, 27, 28, 29] (by decide +kernel) (by decide +kernel)
set_option maxRecDepth 20000 in
theorem gX7_parent_X5_has : GoodIn wsX7_parent (wsV RX7 40 RX5 yX5_has wsX5_has) := goodIn_app (goodIn_of _ (by decide +kernel)) ggX7_parent_X5_has
set_option maxRecDepth 20000 in
theorem ggX7_parent_X7_failInvalid : GoodIn wsX7_parent wsX7_failInvalid := goodIn_r _ [13, 14, 15, 16, 17, 18, 19, 20, 21, 22] (by decide +kernel) (by decide +kernel)
set_option maxRecDepth 20000 in
theorem gX7_parent_X7_failInvalid : GoodIn wsX7_parent (wsV RX7 47 RX7 yX7_failInvalid wsX7_failInvalid) := goodIn_app (goodIn_of _ (by decide +kernel)) ggX7_parent_X7_failInvalid
theorem dX7_parent_0 : decode cX7_parent 0 = .ok (.aload_n 0, 1) := by decide +kernel
theorem dX7_parent_1 : decode cX7_parent 1 = .ok (.getfield 10, 3) := by decide +kernel
theorem dX7_parent_4 : decode cX7_parent 4 = .ok (.iload_n 1, 1) := by decide +kernel
theorem dX7_parent_5 : decode cX7_parent 5 = .ok (.invokevirtual 40, 3) := by decide +kernel
theorem dX7_parent_8 : decode cX7_parent 8 = .ok (.ifCond .eq 15, 3) := by decide +kernel
theorem dX7_parent_11 : decode cX7_parent 11 = .ok (.aload_n 0, 1) := by decide +kernel
theorem dX7_parent_12 : decode cX7_parent 12 = .ok (.getfield 10, 3) := by decide +kernel
theorem dX7_parent_15 : decode cX7_parent 15 = .ok (.getfield 83, 3) := by decide +kernel
theorem dX7_parent_18 : decode cX7_parent 18 = .ok (.iload_n 1, 1) := by decide +kernel
theorem dX7_parent_19 : decode cX7_parent 19 = .ok (.iaload, 1) := by decide +kernel
theorem dX7_parent_20 : decode cX7_parent 20 = .ok (.goto 7, 3) := by decide +kernel
theorem dX7_parent_23 : decode cX7_parent 23 = .ok (.aload_n 0, 1) := by decide +kernel
theorem dX7_parent_24 : decode cX7_parent 24 = .ok (.invokevirtual 47, 3) := by decide +kernel
theorem dX7_parent_27 : decode cX7_parent 27 = .ok (.ireturn, 1) := by decide +kernel
set_option maxRecDepth 20000 in
theorem ggX7_depth_X5_has : GoodIn wsX7_depth wsX5_has := goodIn_r _ [8, 9, 32, 33, 34, 35, 36, 37, 38] (by decide +kernel) (by decide +kernel)
set_option maxRecDepth 20000 in
theorem gX7_depth_X5_has : GoodIn wsX7_depth (wsV RX7 40 RX5 yX5_has wsX5_has) := goodIn_app (goodIn_of _ (by decide +kernel)) ggX7_depth_X5_has
set_option maxRecDepth 20000 in
theorem ggX7_depth_X7_failInvalid : GoodIn wsX7_depth wsX7_failInvalid := goodIn_r _ [14, 15, 16, 17, 18, 19, 20, 21, 22, 23] (by decide +kernel) (by decide +kernel)
set_option maxRecDepth 20000 in
theorem gX7_depth_X7_failInvalid : GoodIn wsX7_depth (wsV RX7 47 RX7 yX7_failInvalid wsX7_failInvalid) := goodIn_app (goodIn_of _ (by decide +kernel)) ggX7_depth_X7_failInvalid
theorem dX7_depth_0 : decode cX7_depth 0 = .ok (.aload_n 0, 1) := by decide +kernel
theorem dX7_depth_1 : decode cX7_depth 1 = .ok (.getfield 10, 3) := by decide +kernel
theorem dX7_depth_4 : decode cX7_depth 4 = .ok (.iload_n 1, 1) := by decide +kernel
theorem dX7_depth_5 : decode cX7_depth 5 = .ok (.invokevirtual 40, 3) := by decide +kernel
theorem dX7_depth_8 : decode cX7_depth 8 = .ok (.ifCond .eq 15, 3) := by decide +kernel
theorem dX7_depth_11 : decode cX7_depth 11 = .ok (.aload_n 0, 1) := by decide +kernel
theorem dX7_depth_12 : decode cX7_depth 12 = .ok (.getfield 19, 3) := by decide +kernel
theorem dX7_depth_15 : decode cX7_depth 15 = .ok (.getfield 104, 3) := by decide +kernel
theorem dX7_depth_18 : decode cX7_depth 18 = .ok (.iload_n 1, 1) := by decide +kernel
theorem dX7_depth_19 : decode cX7_depth 19 = .ok (.iaload, 1) := by decide +kernel
theorem dX7_depth_20 : decode cX7_depth 20 = .ok (.goto 7, 3) := by decide +kernel
theorem dX7_depth_23 : decode cX7_depth 23 = .ok (.aload_n 0, 1) := by decide +kernel
theorem dX7_depth_24 : decode cX7_depth 24 = .ok (.invokevirtual 47, 3) := by decide +kernel
theorem dX7_depth_27 : decode cX7_depth 27 = .ok (.ireturn, 1) := by decide +kernel
set_option maxRecDepth 20000 in
theorem ggX7_leafCount_X1_isLeaf : GoodIn wsX7_leafCount wsX1_isLeaf := goodIn_r _ [8, 9, 25, 26, 27, 28, 29, 30, 31, 32] (by decide +kernel) (by decide +kernel)
set_option maxRecDepth 20000 in
theorem gX7_leafCount_X1_isLeaf : GoodIn wsX7_leafCount (wsV RX7 69 RX1 yX1_isLeaf wsX1_isLeaf) := goodIn_app (goodIn_of _ (by decide +kernel)) ggX7_leafCount_X1_isLeaf
theorem dX7_leafCount_0 : decode cX7_leafCount 0 = .ok (.iconst 0, 1) := by decide +kernel
theorem dX7_leafCount_1 : decode cX7_leafCount 1 = .ok (.istore_n 1, 1) := by decide +kernel
theorem dX7_leafCount_2 : decode cX7_leafCount 2 = .ok (.iconst 0, 1) := by decide +kernel
theorem dX7_leafCount_3 : decode cX7_leafCount 3 = .ok (.istore_n 2, 1) := by decide +kernel
theorem dX7_leafCount_4 : decode cX7_leafCount 4 = .ok (.iload_n 2, 1) := by decide +kernel
theorem dX7_leafCount_5 : decode cX7_leafCount 5 = .ok (.aload_n 0, 1) := by decide +kernel
theorem dX7_leafCount_6 : decode cX7_leafCount 6 = .ok (.getfield 10, 3) := by decide +kernel
theorem dX7_leafCount_9 : decode cX7_leafCount 9 = .ok (.getfield 51, 3) := by decide +kernel
theorem dX7_leafCount_12 : decode cX7_leafCount 12 = .ok (.if_icmp .ge 23, 3) := by decide +kernel
theorem dX7_leafCount_15 : decode cX7_leafCount 15 = .ok (.aload_n 0, 1) := by decide +kernel
theorem dX7_leafCount_16 : decode cX7_leafCount 16 = .ok (.getfield 19, 3) := by decide +kernel
theorem dX7_leafCount_19 : decode cX7_leafCount 19 = .ok (.iload_n 2, 1) := by decide +kernel
theorem dX7_leafCount_20 : decode cX7_leafCount 20 = .ok (.invokevirtual 69, 3) := by decide +kernel
theorem dX7_leafCount_23 : decode cX7_leafCount 23 = .ok (.ifCond .eq 6, 3) := by decide +kernel
theorem dX7_leafCount_26 : decode cX7_leafCount 26 = .ok (.iinc 1 1, 3) := by decide +kernel
theorem dX7_leafCount_29 : decode cX7_leafCount 29 = .ok (.iinc 2 1, 3) := by decide +kernel
theorem dX7_leafCount_32 : decode cX7_leafCount 32 = .ok (.goto (-28), 3) := by decide +kernel
theorem dX7_leafCount_35 : decode cX7_leafCount 35 = .ok (.iload_n 1, 1) := by decide +kernel
theorem dX7_leafCount_36 : decode cX7_leafCount 36 = .ok (.ireturn, 1) := by decide +kernel
set_option maxRecDepth 20000 in
theorem ggX7_x_X5_has : GoodIn wsX7_x wsX5_has := goodIn_r _ [9, 10, 37, 38, 39, 40, 41, 42, 43] (by decide +kernel) (by decide +kernel)
set_option maxRecDepth 20000 in
theorem gX7_x_X5_has : GoodIn wsX7_x (wsV RX7 40 RX5 yX5_has wsX5_has) := goodIn_app (goodIn_of _ (by decide +kernel)) ggX7_x_X5_has
set_option maxRecDepth 20000 in
theorem ggX7_x_X7_failInvalid : GoodIn wsX7_x wsX7_failInvalid := goodIn_r _ [15, 16, 17, 18, 19, 20, 21, 22, 23, 24] (by decide +kernel) (by decide +kernel)
set_option maxRecDepth 20000 in
theorem gX7_x_X7_failInvalid : GoodIn wsX7_x (wsV RX7 47 RX7 yX7_failInvalid wsX7_failInvalid) := goodIn_app (goodIn_of _ (by decide +kernel)) ggX7_x_X7_failInvalid
theorem dX7_x_0 : decode cX7_x 0 = .ok (.aload_n 0, 1) := by decide +kernel
theorem dX7_x_1 : decode cX7_x 1 = .ok (.getfield 10, 3) := by decide +kernel
theorem dX7_x_4 : decode cX7_x 4 = .ok (.iload_n 1, 1) := by decide +kernel
theorem dX7_x_5 : decode cX7_x 5 = .ok (.invokevirtual 40, 3) := by decide +kernel
theorem dX7_x_8 : decode cX7_x 8 = .ok (.ifCond .eq 18, 3) := by decide +kernel
theorem dX7_x_11 : decode cX7_x 11 = .ok (.aload_n 0, 1) := by decide +kernel
theorem dX7_x_12 : decode cX7_x 12 = .ok (.getfield 19, 3) := by decide +kernel
theorem dX7_x_15 : decode cX7_x 15 = .ok (.getfield 107, 3) := by decide +kernel
theorem dX7_x_18 : decode cX7_x 18 = .ok (.getfield 111, 3) := by decide +kernel
theorem dX7_x_21 : decode cX7_x 21 = .ok (.iload_n 1, 1) := by decide +kernel
theorem dX7_x_22 : decode cX7_x 22 = .ok (.iaload, 1) := by decide +kernel
theorem dX7_x_23 : decode cX7_x 23 = .ok (.goto 7, 3) := by decide +kernel
theorem dX7_x_26 : decode cX7_x 26 = .ok (.aload_n 0, 1) := by decide +kernel
theorem dX7_x_27 : decode cX7_x 27 = .ok (.invokevirtual 47, 3) := by decide +kernel
theorem dX7_x_30 : decode cX7_x 30 = .ok (.ireturn, 1) := by decide +kernel
set_option maxRecDepth 20000 in
theorem ggX7_y_X5_has : GoodIn wsX7_y wsX5_has := goodIn_r _ [9, 10, 37, 38, 39, 40, 41, 42, 43] (by decide +kernel) (by decide +kernel)
set_option maxRecDepth 20000 in
theorem gX7_y_X5_has : GoodIn wsX7_y (wsV RX7 40 RX5 yX5_has wsX5_has) := goodIn_app (goodIn_of _ (by decide +kernel)) ggX7_y_X5_has
set_option maxRecDepth 20000 in
theorem ggX7_y_X7_failInvalid : GoodIn wsX7_y wsX7_failInvalid := goodIn_r _ [15, 16, 17, 18, 19, 20, 21, 22, 23, 24] (by decide +kernel) (by decide +kernel)
set_option maxRecDepth 20000 in
theorem gX7_y_X7_failInvalid : GoodIn wsX7_y (wsV RX7 47 RX7 yX7_failInvalid wsX7_failInvalid) := goodIn_app (goodIn_of _ (by decide +kernel)) ggX7_y_X7_failInvalid
theorem dX7_y_0 : decode cX7_y 0 = .ok (.aload_n 0, 1) := by decide +kernel
theorem dX7_y_1 : decode cX7_y 1 = .ok (.getfield 10, 3) := by decide +kernel
theorem dX7_y_4 : decode cX7_y 4 = .ok (.iload_n 1, 1) := by decide +kernel
theorem dX7_y_5 : decode cX7_y 5 = .ok (.invokevirtual 40, 3) := by decide +kernel
theorem dX7_y_8 : decode cX7_y 8 = .ok (.ifCond .eq 18, 3) := by decide +kernel
theorem dX7_y_11 : decode cX7_y 11 = .ok (.aload_n 0, 1) := by decide +kernel
theorem dX7_y_12 : decode cX7_y 12 = .ok (.getfield 19, 3) := by decide +kernel
theorem dX7_y_15 : decode cX7_y 15 = .ok (.getfield 107, 3) := by decide +kernel
theorem dX7_y_18 : decode cX7_y 18 = .ok (.getfield 116, 3) := by decide +kernel
theorem dX7_y_21 : decode cX7_y 21 = .ok (.iload_n 1, 1) := by decide +kernel
theorem dX7_y_22 : decode cX7_y 22 = .ok (.iaload, 1) := by decide +kernel
theorem dX7_y_23 : decode cX7_y 23 = .ok (.goto 7, 3) := by decide +kernel
theorem dX7_y_26 : decode cX7_y 26 = .ok (.aload_n 0, 1) := by decide +kernel
theorem dX7_y_27 : decode cX7_y 27 = .ok (.invokevirtual 47, 3) := by decide +kernel
theorem dX7_y_30 : decode cX7_y 30 = .ok (.ireturn, 1) := by decide +kernel
set_option maxRecDepth 20000 in
theorem ggX7_width_X5_has : GoodIn wsX7_width wsX5_has := goodIn_r _ [9, 10, 37, 38, 39, 40, 41, 42, 43] (by decide +kernel) (by decide +kernel)
set_option maxRecDepth 20000 in
theorem gX7_width_X5_has : GoodIn wsX7_width (wsV RX7 40 RX5 yX5_has wsX5_has) := goodIn_app (goodIn_of _ (by decide +kernel)) ggX7_width_X5_has
set_option maxRecDepth 20000 in
theorem ggX7_width_X7_failInvalid : GoodIn wsX7_width wsX7_failInvalid := goodIn_r _ [15, 16, 17, 18, 19, 20, 21, 22, 23, 24] (by decide +kernel) (by decide +kernel)
set_option maxRecDepth 20000 in
theorem gX7_width_X7_failInvalid : GoodIn wsX7_width (wsV RX7 47 RX7 yX7_failInvalid wsX7_failInvalid) := goodIn_app (goodIn_of _ (by decide +kernel)) ggX7_width_X7_failInvalid
theorem dX7_width_0 : decode cX7_width 0 = .ok (.aload_n 0, 1) := by decide +kernel
theorem dX7_width_1 : decode cX7_width 1 = .ok (.getfield 10, 3) := by decide +kernel
theorem dX7_width_4 : decode cX7_width 4 = .ok (.iload_n 1, 1) := by decide +kernel
theorem dX7_width_5 : decode cX7_width 5 = .ok (.invokevirtual 40, 3) := by decide +kernel
theorem dX7_width_8 : decode cX7_width 8 = .ok (.ifCond .eq 18, 3) := by decide +kernel
theorem dX7_width_11 : decode cX7_width 11 = .ok (.aload_n 0, 1) := by decide +kernel
theorem dX7_width_12 : decode cX7_width 12 = .ok (.getfield 19, 3) := by decide +kernel
theorem dX7_width_15 : decode cX7_width 15 = .ok (.getfield 107, 3) := by decide +kernel
theorem dX7_width_18 : decode cX7_width 18 = .ok (.getfield 119, 3) := by decide +kernel
theorem dX7_width_21 : decode cX7_width 21 = .ok (.iload_n 1, 1) := by decide +kernel
theorem dX7_width_22 : decode cX7_width 22 = .ok (.iaload, 1) := by decide +kernel
theorem dX7_width_23 : decode cX7_width 23 = .ok (.goto 7, 3) := by decide +kernel
theorem dX7_width_26 : decode cX7_width 26 = .ok (.aload_n 0, 1) := by decide +kernel
theorem dX7_width_27 : decode cX7_width 27 = .ok (.invokevirtual 47, 3) := by decide +kernel
theorem dX7_width_30 : decode cX7_width 30 = .ok (.ireturn, 1) := by decide +kernel
set_option maxRecDepth 20000 in
theorem ggX7_height_X5_has : GoodIn wsX7_height wsX5_has := goodIn_r _ [9, 10, 37, 38, 39, 40, 41, 42, 43] (by decide +kernel) (by decide +kernel)
set_option maxRecDepth 20000 in
theorem gX7_height_X5_has : GoodIn wsX7_height (wsV RX7 40 RX5 yX5_has wsX5_has) := goodIn_app (goodIn_of _ (by decide +kernel)) ggX7_height_X5_has
set_option maxRecDepth 20000 in
theorem ggX7_height_X7_failInvalid : GoodIn wsX7_height wsX7_failInvalid := goodIn_r _ [15, 16, 17, 18, 19, 20, 21, 22, 23, 24] (by decide +kernel) (by decide +kernel)
set_option maxRecDepth 20000 in
theorem gX7_height_X7_failInvalid : GoodIn wsX7_height (wsV RX7 47 RX7 yX7_failInvalid wsX7_failInvalid) := goodIn_app (goodIn_of _ (by decide +kernel)) ggX7_height_X7_failInvalid
theorem dX7_height_0 : decode cX7_height 0 = .ok (.aload_n 0, 1) := by decide +kernel
theorem dX7_height_1 : decode cX7_height 1 = .ok (.getfield 10, 3) := by decide +kernel
theorem dX7_height_4 : decode cX7_height 4 = .ok (.iload_n 1, 1) := by decide +kernel
theorem dX7_height_5 : decode cX7_height 5 = .ok (.invokevirtual 40, 3) := by decide +kernel
theorem dX7_height_8 : decode cX7_height 8 = .ok (.ifCond .eq 18, 3) := by decide +kernel
theorem dX7_height_11 : decode cX7_height 11 = .ok (.aload_n 0, 1) := by decide +kernel
theorem dX7_height_12 : decode cX7_height 12 = .ok (.getfield 19, 3) := by decide +kernel
theorem dX7_height_15 : decode cX7_height 15 = .ok (.getfield 107, 3) := by decide +kernel
theorem dX7_height_18 : decode cX7_height 18 = .ok (.getfield 122, 3) := by decide +kernel
theorem dX7_height_21 : decode cX7_height 21 = .ok (.iload_n 1, 1) := by decide +kernel
theorem dX7_height_22 : decode cX7_height 22 = .ok (.iaload, 1) := by decide +kernel
theorem dX7_height_23 : decode cX7_height 23 = .ok (.goto 7, 3) := by decide +kernel
theorem dX7_height_26 : decode cX7_height 26 = .ok (.aload_n 0, 1) := by decide +kernel
theorem dX7_height_27 : decode cX7_height 27 = .ok (.invokevirtual 47, 3) := by decide +kernel
theorem dX7_height_30 : decode cX7_height 30 = .ok (.ireturn, 1) := by decide +kernel
set_option maxRecDepth 20000 in
theorem ggX7_isHidden_X5_has : GoodIn wsX7_isHidden wsX5_has := goodIn_r _ [6, 7, 28, 29, 30, 31, 32, 33, 34] (by decide +kernel) (by decide +kernel)
set_option maxRecDepth 20000 in
theorem gX7_isHidden_X5_has : GoodIn wsX7_isHidden (wsV RX7 40 RX5 yX5_has wsX5_has) := goodIn_app (goodIn_of _ (by decide +kernel)) ggX7_isHidden_X5_has
set_option maxRecDepth 20000 in
theorem ggX7_isHidden_X7_hiddenFlag : GoodIn wsX7_isHidden wsX7_hiddenFlag := goodIn_r _ [12, 13, 14, 20, 21, 22, 23, 24, 25, 26, 27, 35, 36, 37, 38, 39, 40, 41, 42] (by decide +kernel) (by decide +kernel)
set_option maxRecDepth 20000 in
theorem gX7_isHidden_X7_hiddenFlag : GoodIn wsX7_isHidden (wsV RX7 125 RX7 yX7_hiddenFlag wsX7_hiddenFlag) := goodIn_app (goodIn_of _ (by decide +kernel)) ggX7_isHidden_X7_hiddenFlag
set_option maxRecDepth 20000 in
theorem ggX7_isHidden_X7_failInvalid : GoodIn wsX7_isHidden wsX7_failInvalid := goodIn_r _ [18, 19, 20, 21, 22, 23, 24, 25, 26, 27] (by decide +kernel) (by decide +kernel)
set_option maxRecDepth 20000 in
theorem gX7_isHidden_X7_failInvalid : GoodIn wsX7_isHidden (wsV RX7 47 RX7 yX7_failInvalid wsX7_failInvalid) := goodIn_app (goodIn_of _ (by decide +kernel)) ggX7_isHidden_X7_failInvalid
theorem dX7_isHidden_0 : decode cX7_isHidden 0 = .ok (.aload_n 0, 1) := by decide +kernel
theorem dX7_isHidden_1 : decode cX7_isHidden 1 = .ok (.getfield 10, 3) := by decide +kernel
theorem dX7_isHidden_4 : decode cX7_isHidden 4 = .ok (.iload_n 1, 1) := by decide +kernel
theorem dX7_isHidden_5 : decode cX7_isHidden 5 = .ok (.invokevirtual 40, 3) := by decide +kernel
theorem dX7_isHidden_8 : decode cX7_isHidden 8 = .ok (.ifCond .eq 11, 3) := by decide +kernel
theorem dX7_isHidden_11 : decode cX7_isHidden 11 = .ok (.aload_n 0, 1) := by decide +kernel
theorem dX7_isHidden_12 : decode cX7_isHidden 12 = .ok (.iload_n 1, 1) := by decide +kernel
theorem dX7_isHidden_13 : decode cX7_isHidden 13 = .ok (.invokevirtual 125, 3) := by decide +kernel
theorem dX7_isHidden_16 : decode cX7_isHidden 16 = .ok (.goto 7, 3) := by decide +kernel
theorem dX7_isHidden_19 : decode cX7_isHidden 19 = .ok (.aload_n 0, 1) := by decide +kernel
theorem dX7_isHidden_20 : decode cX7_isHidden 20 = .ok (.invokevirtual 47, 3) := by decide +kernel
theorem dX7_isHidden_23 : decode cX7_isHidden 23 = .ok (.ireturn, 1) := by decide +kernel
set_option maxRecDepth 20000 in
theorem ggX7_nodeAt_X7_failInvalid : GoodIn wsX7_nodeAt wsX7_failInvalid := goodIn_r _ [12, 13, 23, 24, 25, 26, 27, 28, 29, 30] (by decide +kernel) (by decide +kernel)
set_option maxRecDepth 20000 in
theorem gX7_nodeAt_X7_failInvalid : GoodIn wsX7_nodeAt (wsV RX7 47 RX7 yX7_failInvalid wsX7_failInvalid) := goodIn_app (goodIn_of _ (by decide +kernel)) ggX7_nodeAt_X7_failInvalid
set_option maxRecDepth 20000 in
theorem ggX7_nodeAt_X3_contain : GoodIn wsX7_nodeAt wsX3_contain := goodIn_r _ [18, 19, 20, 21, 22, 46, 47, 48, 49] (by decide +kernel) (by decide +kernel)
set_option maxRecDepth 20000 in
theorem gX7_nodeAt_X3_contain : GoodIn wsX7_nodeAt (wsV RX7 129 RX3 yX3_contain wsX3_contain) := goodIn_app (goodIn_of _ (by decide +kernel)) ggX7_nodeAt_X3_contain
theorem dX7_nodeAt_0 : decode cX7_nodeAt 0 = .ok (.iload_n 1, 1) := by decide +kernel
theorem dX7_nodeAt_1 : decode cX7_nodeAt 1 = .ok (.ifCond .lt 29, 3) := by decide +kernel
theorem dX7_nodeAt_4 : decode cX7_nodeAt 4 = .ok (.iload_n 1, 1) := by decide +kernel
theorem dX7_nodeAt_5 : decode cX7_nodeAt 5 = .ok (.aload_n 0, 1) := by decide +kernel
theorem dX7_nodeAt_6 : decode cX7_nodeAt 6 = .ok (.getfield 10, 3) := by decide +kernel
theorem dX7_nodeAt_9 : decode cX7_nodeAt 9 = .ok (.getfield 89, 3) := by decide +kernel
theorem dX7_nodeAt_12 : decode cX7_nodeAt 12 = .ok (.if_icmp .ge 18, 3) := by decide +kernel
theorem dX7_nodeAt_15 : decode cX7_nodeAt 15 = .ok (.iload_n 2, 1) := by decide +kernel
theorem dX7_nodeAt_16 : decode cX7_nodeAt 16 = .ok (.ifCond .lt 14, 3) := by decide +kernel
theorem dX7_nodeAt_19 : decode cX7_nodeAt 19 = .ok (.iload_n 2, 1) := by decide +kernel
theorem dX7_nodeAt_20 : decode cX7_nodeAt 20 = .ok (.aload_n 0, 1) := by decide +kernel
theorem dX7_nodeAt_21 : decode cX7_nodeAt 21 = .ok (.getfield 10, 3) := by decide +kernel
theorem dX7_nodeAt_24 : decode cX7_nodeAt 24 = .ok (.getfield 92, 3) := by decide +kernel
theorem dX7_nodeAt_27 : decode cX7_nodeAt 27 = .ok (.if_icmp .lt 8, 3) := by decide +kernel
theorem dX7_nodeAt_30 : decode cX7_nodeAt 30 = .ok (.aload_n 0, 1) := by decide +kernel
theorem dX7_nodeAt_31 : decode cX7_nodeAt 31 = .ok (.invokevirtual 47, 3) := by decide +kernel
theorem dX7_nodeAt_34 : decode cX7_nodeAt 34 = .ok (.ireturn, 1) := by decide +kernel
theorem dX7_nodeAt_35 : decode cX7_nodeAt 35 = .ok (.iconst 0, 1) := by decide +kernel
theorem dX7_nodeAt_36 : decode cX7_nodeAt 36 = .ok (.istore_n 3, 1) := by decide +kernel
theorem dX7_nodeAt_37 : decode cX7_nodeAt 37 = .ok (.iconst 0, 1) := by decide +kernel
theorem dX7_nodeAt_38 : decode cX7_nodeAt 38 = .ok (.istore 4, 2) := by decide +kernel
theorem dX7_nodeAt_40 : decode cX7_nodeAt 40 = .ok (.iload 4, 2) := by decide +kernel
theorem dX7_nodeAt_42 : decode cX7_nodeAt 42 = .ok (.aload_n 0, 1) := by decide +kernel
theorem dX7_nodeAt_43 : decode cX7_nodeAt 43 = .ok (.getfield 10, 3) := by decide +kernel
theorem dX7_nodeAt_46 : decode cX7_nodeAt 46 = .ok (.getfield 51, 3) := by decide +kernel
theorem dX7_nodeAt_49 : decode cX7_nodeAt 49 = .ok (.if_icmp .ge 51, 3) := by decide +kernel
theorem dX7_nodeAt_52 : decode cX7_nodeAt 52 = .ok (.aload_n 0, 1) := by decide +kernel
theorem dX7_nodeAt_53 : decode cX7_nodeAt 53 = .ok (.getfield 19, 3) := by decide +kernel
theorem dX7_nodeAt_56 : decode cX7_nodeAt 56 = .ok (.getfield 107, 3) := by decide +kernel
theorem dX7_nodeAt_59 : decode cX7_nodeAt 59 = .ok (.iload 4, 2) := by decide +kernel
theorem dX7_nodeAt_61 : decode cX7_nodeAt 61 = .ok (.iload_n 1, 1) := by decide +kernel
theorem dX7_nodeAt_62 : decode cX7_nodeAt 62 = .ok (.iload_n 2, 1) := by decide +kernel
theorem dX7_nodeAt_63 : decode cX7_nodeAt 63 = .ok (.invokevirtual 129, 3) := by decide +kernel
theorem dX7_nodeAt_66 : decode cX7_nodeAt 66 = .ok (.ifCond .eq 28, 3) := by decide +kernel
theorem dX7_nodeAt_69 : decode cX7_nodeAt 69 = .ok (.aload_n 0, 1) := by decide +kernel
theorem dX7_nodeAt_70 : decode cX7_nodeAt 70 = .ok (.getfield 19, 3) := by decide +kernel
theorem dX7_nodeAt_73 : decode cX7_nodeAt 73 = .ok (.getfield 104, 3) := by decide +kernel
theorem dX7_nodeAt_76 : decode cX7_nodeAt 76 = .ok (.iload 4, 2) := by decide +kernel
theorem dX7_nodeAt_78 : decode cX7_nodeAt 78 = .ok (.iaload, 1) := by decide +kernel
theorem dX7_nodeAt_79 : decode cX7_nodeAt 79 = .ok (.aload_n 0, 1) := by decide +kernel
theorem dX7_nodeAt_80 : decode cX7_nodeAt 80 = .ok (.getfield 19, 3) := by decide +kernel
theorem dX7_nodeAt_83 : decode cX7_nodeAt 83 = .ok (.getfield 104, 3) := by decide +kernel
theorem dX7_nodeAt_86 : decode cX7_nodeAt 86 = .ok (.iload_n 3, 1) := by decide +kernel
theorem dX7_nodeAt_87 : decode cX7_nodeAt 87 = .ok (.iaload, 1) := by decide +kernel
theorem dX7_nodeAt_88 : decode cX7_nodeAt 88 = .ok (.if_icmp .le 6, 3) := by decide +kernel
theorem dX7_nodeAt_91 : decode cX7_nodeAt 91 = .ok (.iload 4, 2) := by decide +kernel
theorem dX7_nodeAt_93 : decode cX7_nodeAt 93 = .ok (.istore_n 3, 1) := by decide +kernel
theorem dX7_nodeAt_94 : decode cX7_nodeAt 94 = .ok (.iinc 4 1, 3) := by decide +kernel
theorem dX7_nodeAt_97 : decode cX7_nodeAt 97 = .ok (.goto (-57), 3) := by decide +kernel
theorem dX7_nodeAt_100 : decode cX7_nodeAt 100 = .ok (.iload_n 3, 1) := by decide +kernel
theorem dX7_nodeAt_101 : decode cX7_nodeAt 101 = .ok (.ireturn, 1) := by decide +kernel
set_option maxRecDepth 20000 in
theorem ggX7_leafPixels_X1_isLeaf : GoodIn wsX7_leafPixels wsX1_isLeaf := goodIn_r _ [9, 10, 33, 34, 35, 36, 37, 38, 39, 40] (by decide +kernel) (by decide +kernel)
set_option maxRecDepth 20000 in
theorem gX7_leafPixels_X1_isLeaf : GoodIn wsX7_leafPixels (wsV RX7 69 RX1 yX1_isLeaf wsX1_isLeaf) := goodIn_app (goodIn_of _ (by decide +kernel)) ggX7_leafPixels_X1_isLeaf
set_option maxRecDepth 20000 in
theorem ggX7_leafPixels_X3_area : GoodIn wsX7_leafPixels wsX3_area := goodIn_r _ [15, 16, 17, 41, 42, 43, 44] (by decide +kernel) (by decide +kernel)
set_option maxRecDepth 20000 in
theorem gX7_leafPixels_X3_area : GoodIn wsX7_leafPixels (wsV RX7 133 RX3 yX3_area wsX3_area) := goodIn_app (goodIn_of _ (by decide +kernel)) ggX7_leafPixels_X3_area
theorem dX7_leafPixels_0 : decode cX7_leafPixels 0 = .ok (.iconst 0, 1) := by decide +kernel
theorem dX7_leafPixels_1 : decode cX7_leafPixels 1 = .ok (.istore_n 1, 1) := by decide +kernel
theorem dX7_leafPixels_2 : decode cX7_leafPixels 2 = .ok (.iconst 0, 1) := by decide +kernel
theorem dX7_leafPixels_3 : decode cX7_leafPixels 3 = .ok (.istore_n 2, 1) := by decide +kernel
theorem dX7_leafPixels_4 : decode cX7_leafPixels 4 = .ok (.iload_n 2, 1) := by decide +kernel
theorem dX7_leafPixels_5 : decode cX7_leafPixels 5 = .ok (.aload_n 0, 1) := by decide +kernel
theorem dX7_leafPixels_6 : decode cX7_leafPixels 6 = .ok (.getfield 10, 3) := by decide +kernel
theorem dX7_leafPixels_9 : decode cX7_leafPixels 9 = .ok (.getfield 51, 3) := by decide +kernel
theorem dX7_leafPixels_12 : decode cX7_leafPixels 12 = .ok (.if_icmp .ge 34, 3) := by decide +kernel
theorem dX7_leafPixels_15 : decode cX7_leafPixels 15 = .ok (.aload_n 0, 1) := by decide +kernel
theorem dX7_leafPixels_16 : decode cX7_leafPixels 16 = .ok (.getfield 19, 3) := by decide +kernel
theorem dX7_leafPixels_19 : decode cX7_leafPixels 19 = .ok (.iload_n 2, 1) := by decide +kernel
theorem dX7_leafPixels_20 : decode cX7_leafPixels 20 = .ok (.invokevirtual 69, 3) := by decide +kernel
theorem dX7_leafPixels_23 : decode cX7_leafPixels 23 = .ok (.ifCond .eq 17, 3) := by decide +kernel
theorem dX7_leafPixels_26 : decode cX7_leafPixels 26 = .ok (.iload_n 1, 1) := by decide +kernel
theorem dX7_leafPixels_27 : decode cX7_leafPixels 27 = .ok (.aload_n 0, 1) := by decide +kernel
theorem dX7_leafPixels_28 : decode cX7_leafPixels 28 = .ok (.getfield 19, 3) := by decide +kernel
theorem dX7_leafPixels_31 : decode cX7_leafPixels 31 = .ok (.getfield 107, 3) := by decide +kernel
theorem dX7_leafPixels_34 : decode cX7_leafPixels 34 = .ok (.iload_n 2, 1) := by decide +kernel
theorem dX7_leafPixels_35 : decode cX7_leafPixels 35 = .ok (.invokevirtual 133, 3) := by decide +kernel
theorem dX7_leafPixels_38 : decode cX7_leafPixels 38 = .ok (.iadd, 1) := by decide +kernel
theorem dX7_leafPixels_39 : decode cX7_leafPixels 39 = .ok (.istore_n 1, 1) := by decide +kernel
theorem dX7_leafPixels_40 : decode cX7_leafPixels 40 = .ok (.iinc 2 1, 3) := by decide +kernel
theorem dX7_leafPixels_43 : decode cX7_leafPixels 43 = .ok (.goto (-39), 3) := by decide +kernel
theorem dX7_leafPixels_46 : decode cX7_leafPixels 46 = .ok (.iload_n 1, 1) := by decide +kernel
theorem dX7_leafPixels_47 : decode cX7_leafPixels 47 = .ok (.ireturn, 1) := by decide +kernel
set_option maxRecDepth 20000 in
theorem ggX7_worstAspect_X1_isLeafWithArea : GoodIn wsX7_worstAspect wsX1_isLeafWithArea := goodIn_r _ [9, 10, 11, 12, 13, 8, 14, 15, 16, 17, 18, 19, 20, 21, 22, 55, 56, 57, 58, 59, 60, 61, 62, 63, 64, 65, 66] (by decide +kernel) (by decide +kernel)
set_option maxRecDepth 20000 in
theorem gX7_worstAspect_X1_isLeafWithArea : GoodIn wsX7_worstAspect (wsV RX7 136 RX1 yX1_isLeafWithArea wsX1_isLeafWithArea) := goodIn_app (goodIn_of _ (by decide +kernel)) ggX7_worstAspect_X1_isLeafWithArea
set_option maxRecDepth 20000 in
theorem ggX7_worstAspect_X3_aspect : GoodIn wsX7_worstAspect wsX3_aspect := goodIn_r _ [26, 21, 22, 27, 28, 29, 30, 31, 32, 33, 63, 64, 65, 66] (by decide +kernel) (by decide +kernel)
set_option maxRecDepth 20000 in
theorem gX7_worstAspect_X3_aspect : GoodIn wsX7_worstAspect (wsV RX7 139 RX3 yX3_aspect wsX3_aspect) := goodIn_app (goodIn_of _ (by decide +kernel)) ggX7_worstAspect_X3_aspect
set_option maxRecDepth 20000 in
theorem ggX7_worstAspect_X7_floatBits : GoodIn wsX7_worstAspect wsX7_floatBits := goodIn_r _ [37, 38, 39] (by decide +kernel) (by decide +kernel)
set_option maxRecDepth 20000 in
theorem gX7_worstAspect_X7_floatBits : GoodIn wsX7_worstAspect (va_wsS RX7 143 yX7_floatBits wsX7_floatBits) := goodIn_app (goodIn_of _ (by decide +kernel)) ggX7_worstAspect_X7_floatBits
theorem dX7_worstAspect_0 : decode cX7_worstAspect 0 = .ok (.fconst 0, 1) := by decide +kernel
theorem dX7_worstAspect_1 : decode cX7_worstAspect 1 = .ok (.fstore_n 1, 1) := by decide +kernel
theorem dX7_worstAspect_2 : decode cX7_worstAspect 2 = .ok (.iconst 0, 1) := by decide +kernel
theorem dX7_worstAspect_3 : decode cX7_worstAspect 3 = .ok (.istore_n 2, 1) := by decide +kernel
theorem dX7_worstAspect_4 : decode cX7_worstAspect 4 = .ok (.iload_n 2, 1) := by decide +kernel
theorem dX7_worstAspect_5 : decode cX7_worstAspect 5 = .ok (.aload_n 0, 1) := by decide +kernel
theorem dX7_worstAspect_6 : decode cX7_worstAspect 6 = .ok (.getfield 10, 3) := by decide +kernel
theorem dX7_worstAspect_9 : decode cX7_worstAspect 9 = .ok (.getfield 51, 3) := by decide +kernel
theorem dX7_worstAspect_12 : decode cX7_worstAspect 12 = .ok (.if_icmp .ge 44, 3) := by decide +kernel
theorem dX7_worstAspect_15 : decode cX7_worstAspect 15 = .ok (.aload_n 0, 1) := by decide +kernel
theorem dX7_worstAspect_16 : decode cX7_worstAspect 16 = .ok (.getfield 19, 3) := by decide +kernel
theorem dX7_worstAspect_19 : decode cX7_worstAspect 19 = .ok (.iload_n 2, 1) := by decide +kernel
theorem dX7_worstAspect_20 : decode cX7_worstAspect 20 = .ok (.invokevirtual 136, 3) := by decide +kernel
theorem dX7_worstAspect_23 : decode cX7_worstAspect 23 = .ok (.ifCond .eq 27, 3) := by decide +kernel
theorem dX7_worstAspect_26 : decode cX7_worstAspect 26 = .ok (.aload_n 0, 1) := by decide +kernel
theorem dX7_worstAspect_27 : decode cX7_worstAspect 27 = .ok (.getfield 19, 3) := by decide +kernel
theorem dX7_worstAspect_30 : decode cX7_worstAspect 30 = .ok (.getfield 107, 3) := by decide +kernel
theorem dX7_worstAspect_33 : decode cX7_worstAspect 33 = .ok (.iload_n 2, 1) := by decide +kernel
theorem dX7_worstAspect_34 : decode cX7_worstAspect 34 = .ok (.invokevirtual 139, 3) := by decide +kernel
theorem dX7_worstAspect_37 : decode cX7_worstAspect 37 = .ok (.fstore_n 3, 1) := by decide +kernel
theorem dX7_worstAspect_38 : decode cX7_worstAspect 38 = .ok (.fload_n 3, 1) := by decide +kernel
theorem dX7_worstAspect_39 : decode cX7_worstAspect 39 = .ok (.fload_n 1, 1) := by decide +kernel
theorem dX7_worstAspect_40 : decode cX7_worstAspect 40 = .ok (.fcmp .l, 1) := by decide +kernel
theorem dX7_worstAspect_41 : decode cX7_worstAspect 41 = .ok (.ifCond .lt 7, 3) := by decide +kernel
theorem dX7_worstAspect_44 : decode cX7_worstAspect 44 = .ok (.fload_n 3, 1) := by decide +kernel
theorem dX7_worstAspect_45 : decode cX7_worstAspect 45 = .ok (.goto 4, 3) := by decide +kernel
theorem dX7_worstAspect_48 : decode cX7_worstAspect 48 = .ok (.fload_n 1, 1) := by decide +kernel
theorem dX7_worstAspect_49 : decode cX7_worstAspect 49 = .ok (.fstore_n 1, 1) := by decide +kernel
theorem dX7_worstAspect_50 : decode cX7_worstAspect 50 = .ok (.iinc 2 1, 3) := by decide +kernel
theorem dX7_worstAspect_53 : decode cX7_worstAspect 53 = .ok (.goto (-49), 3) := by decide +kernel
theorem dX7_worstAspect_56 : decode cX7_worstAspect 56 = .ok (.fload_n 1, 1) := by decide +kernel
theorem dX7_worstAspect_57 : decode cX7_worstAspect 57 = .ok (.fconst 0, 1) := by decide +kernel
theorem dX7_worstAspect_58 : decode cX7_worstAspect 58 = .ok (.fcmp .l, 1) := by decide +kernel
theorem dX7_worstAspect_59 : decode cX7_worstAspect 59 = .ok (.ifCond .le 10, 3) := by decide +kernel
theorem dX7_worstAspect_62 : decode cX7_worstAspect 62 = .ok (.fload_n 1, 1) := by decide +kernel
theorem dX7_worstAspect_63 : decode cX7_worstAspect 63 = .ok (.invokestatic 143, 3) := by decide +kernel
theorem dX7_worstAspect_66 : decode cX7_worstAspect 66 = .ok (.goto 4, 3) := by decide +kernel
theorem dX7_worstAspect_69 : decode cX7_worstAspect 69 = .ok (.iconst (-1), 1) := by decide +kernel
theorem dX7_worstAspect_70 : decode cX7_worstAspect 70 = .ok (.ireturn, 1) := by decide +kernel
set_option maxRecDepth 20000 in
theorem ggX7_averageAspect_X1_isLeafWithArea : GoodIn wsX7_averageAspect wsX1_isLeafWithArea := goodIn_r _ [9, 10, 11, 12, 13, 8, 14, 15, 16, 17, 18, 19, 20, 21, 22, 55, 56, 57, 58, 59, 60, 61, 62, 63, 64, 65, 66] (by decide +kernel) (by decide +kernel)
set_option maxRecDepth 20000 in
theorem gX7_averageAspect_X1_isLeafWithArea : GoodIn wsX7_averageAspect (wsV RX7 136 RX1 yX1_isLeafWithArea wsX1_isLeafWithArea) := goodIn_app (goodIn_of _ (by decide +kernel)) ggX7_averageAspect_X1_isLeafWithArea
set_option maxRecDepth 20000 in
theorem ggX7_averageAspect_X3_aspect : GoodIn wsX7_averageAspect wsX3_aspect := goodIn_r _ [26, 21, 22, 27, 28, 29, 30, 31, 32, 33, 63, 64, 65, 66] (by decide +kernel) (by decide +kernel)
set_option maxRecDepth 20000 in
theorem gX7_averageAspect_X3_aspect : GoodIn wsX7_averageAspect (wsV RX7 139 RX3 yX3_aspect wsX3_aspect) := goodIn_app (goodIn_of _ (by decide +kernel)) ggX7_averageAspect_X3_aspect
set_option maxRecDepth 20000 in
theorem ggX7_averageAspect_X7_floatBits : GoodIn wsX7_averageAspect wsX7_floatBits := goodIn_r _ [37, 38, 39] (by decide +kernel) (by decide +kernel)
set_option maxRecDepth 20000 in
theorem gX7_averageAspect_X7_floatBits : GoodIn wsX7_averageAspect (va_wsS RX7 143 yX7_floatBits wsX7_floatBits) := goodIn_app (goodIn_of _ (by decide +kernel)) ggX7_averageAspect_X7_floatBits
theorem dX7_averageAspect_0 : decode cX7_averageAspect 0 = .ok (.fconst 0, 1) := by decide +kernel
theorem dX7_averageAspect_1 : decode cX7_averageAspect 1 = .ok (.fstore_n 1, 1) := by decide +kernel
theorem dX7_averageAspect_2 : decode cX7_averageAspect 2 = .ok (.iconst 0, 1) := by decide +kernel
theorem dX7_averageAspect_3 : decode cX7_averageAspect 3 = .ok (.istore_n 2, 1) := by decide +kernel
theorem dX7_averageAspect_4 : decode cX7_averageAspect 4 = .ok (.iconst 0, 1) := by decide +kernel
theorem dX7_averageAspect_5 : decode cX7_averageAspect 5 = .ok (.istore_n 3, 1) := by decide +kernel
theorem dX7_averageAspect_6 : decode cX7_averageAspect 6 = .ok (.iload_n 3, 1) := by decide +kernel
theorem dX7_averageAspect_7 : decode cX7_averageAspect 7 = .ok (.aload_n 0, 1) := by decide +kernel
theorem dX7_averageAspect_8 : decode cX7_averageAspect 8 = .ok (.getfield 10, 3) := by decide +kernel
theorem dX7_averageAspect_11 : decode cX7_averageAspect 11 = .ok (.getfield 51, 3) := by decide +kernel
theorem dX7_averageAspect_14 : decode cX7_averageAspect 14 = .ok (.if_icmp .ge 37, 3) := by decide +kernel
theorem dX7_averageAspect_17 : decode cX7_averageAspect 17 = .ok (.aload_n 0, 1) := by decide +kernel
theorem dX7_averageAspect_18 : decode cX7_averageAspect 18 = .ok (.getfield 19, 3) := by decide +kernel
theorem dX7_averageAspect_21 : decode cX7_averageAspect 21 = .ok (.iload_n 3, 1) := by decide +kernel
theorem dX7_averageAspect_22 : decode cX7_averageAspect 22 = .ok (.invokevirtual 136, 3) := by decide +kernel
theorem dX7_averageAspect_25 : decode cX7_averageAspect 25 = .ok (.ifCond .eq 20, 3) := by decide +kernel
theorem dX7_averageAspect_28 : decode cX7_averageAspect 28 = .ok (.fload_n 1, 1) := by decide +kernel
theorem dX7_averageAspect_29 : decode cX7_averageAspect 29 = .ok (.aload_n 0, 1) := by decide +kernel
theorem dX7_averageAspect_30 : decode cX7_averageAspect 30 = .ok (.getfield 19, 3) := by decide +kernel
theorem dX7_averageAspect_33 : decode cX7_averageAspect 33 = .ok (.getfield 107, 3) := by decide +kernel
theorem dX7_averageAspect_36 : decode cX7_averageAspect 36 = .ok (.iload_n 3, 1) := by decide +kernel
theorem dX7_averageAspect_37 : decode cX7_averageAspect 37 = .ok (.invokevirtual 139, 3) := by decide +kernel
theorem dX7_averageAspect_40 : decode cX7_averageAspect 40 = .ok (.fadd, 1) := by decide +kernel
theorem dX7_averageAspect_41 : decode cX7_averageAspect 41 = .ok (.fstore_n 1, 1) := by decide +kernel
theorem dX7_averageAspect_42 : decode cX7_averageAspect 42 = .ok (.iinc 2 1, 3) := by decide +kernel
theorem dX7_averageAspect_45 : decode cX7_averageAspect 45 = .ok (.iinc 3 1, 3) := by decide +kernel
theorem dX7_averageAspect_48 : decode cX7_averageAspect 48 = .ok (.goto (-42), 3) := by decide +kernel
theorem dX7_averageAspect_51 : decode cX7_averageAspect 51 = .ok (.iload_n 2, 1) := by decide +kernel
theorem dX7_averageAspect_52 : decode cX7_averageAspect 52 = .ok (.ifCond .le 13, 3) := by decide +kernel
theorem dX7_averageAspect_55 : decode cX7_averageAspect 55 = .ok (.fload_n 1, 1) := by decide +kernel
theorem dX7_averageAspect_56 : decode cX7_averageAspect 56 = .ok (.iload_n 2, 1) := by decide +kernel
theorem dX7_averageAspect_57 : decode cX7_averageAspect 57 = .ok (.i2f, 1) := by decide +kernel
theorem dX7_averageAspect_58 : decode cX7_averageAspect 58 = .ok (.fdiv, 1) := by decide +kernel
theorem dX7_averageAspect_59 : decode cX7_averageAspect 59 = .ok (.invokestatic 143, 3) := by decide +kernel
theorem dX7_averageAspect_62 : decode cX7_averageAspect 62 = .ok (.goto 4, 3) := by decide +kernel
theorem dX7_averageAspect_65 : decode cX7_averageAspect 65 = .ok (.iconst (-1), 1) := by decide +kernel
theorem dX7_averageAspect_66 : decode cX7_averageAspect 66 = .ok (.ireturn, 1) := by decide +kernel
set_option maxRecDepth 20000 in
theorem ggX7_changeBy_X5_has : GoodIn wsX7_changeBy wsX5_has := goodIn_r _ [12, 13, 229, 230, 231, 232, 233, 234, 235] (by decide +kernel) (by decide +kernel)
set_option maxRecDepth 20000 in
theorem gX7_changeBy_X5_has : GoodIn wsX7_changeBy (wsV RX7 40 RX5 yX5_has wsX5_has) := goodIn_app (goodIn_of _ (by decide +kernel)) ggX7_changeBy_X5_has
set_option maxRecDepth 20000 in
theorem ggX7_changeBy_X7_isSize : GoodIn wsX7_changeBy wsX7_isSize := goodIn_r _ [17] (by decide +kernel) (by decide +kernel)
set_option maxRecDepth 20000 in
theorem gX7_changeBy_X7_isSize : GoodIn wsX7_changeBy (va_wsS RX7 44 yX7_isSize wsX7_isSize) := goodIn_app (goodIn_of _ (by decide +kernel)) ggX7_changeBy_X7_isSize
set_option maxRecDepth 20000 in
theorem ggX7_changeBy_X7_failInvalid : GoodIn wsX7_changeBy wsX7_failInvalid := goodIn_r _ [21, 22, 221, 222, 223, 224, 225, 226, 227, 228] (by decide +kernel) (by decide +kernel)
set_option maxRecDepth 20000 in
theorem gX7_changeBy_X7_failInvalid : GoodIn wsX7_changeBy (wsV RX7 47 RX7 yX7_failInvalid wsX7_failInvalid) := goodIn_app (goodIn_of _ (by decide +kernel)) ggX7_changeBy_X7_failInvalid
set_option maxRecDepth 20000 in
theorem ggX7_changeBy_X5_copyFrom : GoodIn wsX7_changeBy wsX5_copyFrom := goodIn_r _ [26, 27, 28, 29, 30, 31, 32, 13, 33, 34, 35, 36, 229, 230, 231, 232, 233, 234, 235] (by decide +kernel) (by decide +kernel)
set_option maxRecDepth 20000 in
theorem gX7_changeBy_X5_copyFrom : GoodIn wsX7_changeBy (wsV RX7 147 RX5 yX5_copyFrom wsX5_copyFrom) := goodIn_app (goodIn_of _ (by decide +kernel)) ggX7_changeBy_X5_copyFrom
set_option maxRecDepth 20000 in
theorem ggX7_changeBy_X1_arrange : GoodIn wsX7_changeBy wsX1_arrange := goodIn_r _ [41, 42, 43, 44, 45, 46, 47, 48, 49, 50, 40, 51, 52, 53, 54, 55, 56, 57, 58, 59, 60, 61, 62, 63, 64, 65, 66, 67, 68, 69, 70, 71, 72, 73, 74, 75, 76, 77, 78, 79, 80, 81, 82, 83, 84, 85, 86, 87, 88, 89, 90, 91, 92, 93, 94, 95, 96, 97, 98, 99, 100, 101, 102, 103, 104, 105, 106, 107, 108, 109, 110, 111, 112, 113, 114, 115, 116, 117, 118, 119, 120, 121, 122, 123, 124, 125, 126, 127, 128, 129, 130, 131, 132, 133, 134, 135, 136, 137, 138, 139, 140, 141, 142, 143, 144, 145, 146, 147, 148, 149, 150, 151, 152, 153, 154, 155, 156, 157, 158, 159, 160, 161, 162, 163, 164, 165, 166, 167, 168, 169, 170, 171, 172, 173, 174, 175, 176, 177, 178, 179, 180, 181, 182, 183, 184, 185, 186, 187, 188, 189, 190, 191, 192, 193, 194, 195, 196, 197, 198, 199, 200, 201, 202, 203, 204, 205, 206, 207, 208, 209, 210, 211, 212, 213, 236, 237, 238, 239, 240, 241, 242, 243, 229, 230, 231, 232, 233, 234, 235, 244, 245, 246, 247, 248, 249, 250, 251, 252, 253, 254, 255, 256, 257, 258, 259, 260, 261, 262, 263] (by decide +kernel) (by decide +kernel)
set_option maxRecDepth 20000 in
theorem gX7_changeBy_X1_arrange : GoodIn wsX7_changeBy (wsV RX7 36 RX1 yX1_arrange wsX1_arrange) := goodIn_app (goodIn_of _ (by decide +kernel)) ggX7_changeBy_X1_arrange
set_option maxRecDepth 20000 in
theorem ggX7_changeBy_X3_difference : GoodIn wsX7_changeBy wsX3_difference := goodIn_r _ [217, 71, 218, 219, 200, 220, 72, 73, 74, 244, 245, 246, 247] (by decide +kernel) (by decide +kernel)
set_option maxRecDepth 20000 in
theorem gX7_changeBy_X3_difference : GoodIn wsX7_changeBy (wsV RX7 150 RX3 yX3_difference wsX3_difference) := goodIn_app (goodIn_of _ (by decide +kernel)) ggX7_changeBy_X3_difference
theorem dX7_changeBy_0 : decode cX7_changeBy 0 = .ok (.aload_n 0, 1) := by decide +kernel
theorem dX7_changeBy_1 : decode cX7_changeBy 1 = .ok (.getfield 10, 3) := by decide +kernel
theorem dX7_changeBy_4 : decode cX7_changeBy 4 = .ok (.iload_n 1, 1) := by decide +kernel
theorem dX7_changeBy_5 : decode cX7_changeBy 5 = .ok (.invokevirtual 40, 3) := by decide +kernel
theorem dX7_changeBy_8 : decode cX7_changeBy 8 = .ok (.ifCond .eq 10, 3) := by decide +kernel
theorem dX7_changeBy_11 : decode cX7_changeBy 11 = .ok (.iload_n 2, 1) := by decide +kernel
theorem dX7_changeBy_12 : decode cX7_changeBy 12 = .ok (.invokestatic 44, 3) := by decide +kernel
theorem dX7_changeBy_15 : decode cX7_changeBy 15 = .ok (.ifCond .ne 8, 3) := by decide +kernel
theorem dX7_changeBy_18 : decode cX7_changeBy 18 = .ok (.aload_n 0, 1) := by decide +kernel
theorem dX7_changeBy_19 : decode cX7_changeBy 19 = .ok (.invokevirtual 47, 3) := by decide +kernel
theorem dX7_changeBy_22 : decode cX7_changeBy 22 = .ok (.ireturn, 1) := by decide +kernel
theorem dX7_changeBy_23 : decode cX7_changeBy 23 = .ok (.aload_n 0, 1) := by decide +kernel
theorem dX7_changeBy_24 : decode cX7_changeBy 24 = .ok (.getfield 30, 3) := by decide +kernel
theorem dX7_changeBy_27 : decode cX7_changeBy 27 = .ok (.aload_n 0, 1) := by decide +kernel
theorem dX7_changeBy_28 : decode cX7_changeBy 28 = .ok (.getfield 10, 3) := by decide +kernel
theorem dX7_changeBy_31 : decode cX7_changeBy 31 = .ok (.invokevirtual 147, 3) := by decide +kernel
theorem dX7_changeBy_34 : decode cX7_changeBy 34 = .ok (.aload_n 0, 1) := by decide +kernel
theorem dX7_changeBy_35 : decode cX7_changeBy 35 = .ok (.getfield 30, 3) := by decide +kernel
theorem dX7_changeBy_38 : decode cX7_changeBy 38 = .ok (.getfield 65, 3) := by decide +kernel
theorem dX7_changeBy_41 : decode cX7_changeBy 41 = .ok (.iload_n 1, 1) := by decide +kernel
theorem dX7_changeBy_42 : decode cX7_changeBy 42 = .ok (.iload_n 2, 1) := by decide +kernel
theorem dX7_changeBy_43 : decode cX7_changeBy 43 = .ok (.iastore, 1) := by decide +kernel
theorem dX7_changeBy_44 : decode cX7_changeBy 44 = .ok (.aload_n 0, 1) := by decide +kernel
theorem dX7_changeBy_45 : decode cX7_changeBy 45 = .ok (.getfield 33, 3) := by decide +kernel
theorem dX7_changeBy_48 : decode cX7_changeBy 48 = .ok (.aload_n 0, 1) := by decide +kernel
theorem dX7_changeBy_49 : decode cX7_changeBy 49 = .ok (.getfield 30, 3) := by decide +kernel
theorem dX7_changeBy_52 : decode cX7_changeBy 52 = .ok (.invokevirtual 36, 3) := by decide +kernel
theorem dX7_changeBy_55 : decode cX7_changeBy 55 = .ok (.iconst 0, 1) := by decide +kernel
theorem dX7_changeBy_56 : decode cX7_changeBy 56 = .ok (.istore_n 3, 1) := by decide +kernel
theorem dX7_changeBy_57 : decode cX7_changeBy 57 = .ok (.iconst 0, 1) := by decide +kernel
theorem dX7_changeBy_58 : decode cX7_changeBy 58 = .ok (.istore 4, 2) := by decide +kernel
theorem dX7_changeBy_60 : decode cX7_changeBy 60 = .ok (.iload 4, 2) := by decide +kernel
theorem dX7_changeBy_62 : decode cX7_changeBy 62 = .ok (.aload_n 0, 1) := by decide +kernel
theorem dX7_changeBy_63 : decode cX7_changeBy 63 = .ok (.getfield 10, 3) := by decide +kernel
theorem dX7_changeBy_66 : decode cX7_changeBy 66 = .ok (.getfield 51, 3) := by decide +kernel
theorem dX7_changeBy_69 : decode cX7_changeBy 69 = .ok (.if_icmp .ge 31, 3) := by decide +kernel
theorem dX7_changeBy_72 : decode cX7_changeBy 72 = .ok (.iload_n 3, 1) := by decide +kernel
theorem dX7_changeBy_73 : decode cX7_changeBy 73 = .ok (.aload_n 0, 1) := by decide +kernel
theorem dX7_changeBy_74 : decode cX7_changeBy 74 = .ok (.getfield 19, 3) := by decide +kernel
theorem dX7_changeBy_77 : decode cX7_changeBy 77 = .ok (.getfield 107, 3) := by decide +kernel
theorem dX7_changeBy_80 : decode cX7_changeBy 80 = .ok (.iload 4, 2) := by decide +kernel
theorem dX7_changeBy_82 : decode cX7_changeBy 82 = .ok (.aload_n 0, 1) := by decide +kernel
theorem dX7_changeBy_83 : decode cX7_changeBy 83 = .ok (.getfield 33, 3) := by decide +kernel
theorem dX7_changeBy_86 : decode cX7_changeBy 86 = .ok (.getfield 107, 3) := by decide +kernel
theorem dX7_changeBy_89 : decode cX7_changeBy 89 = .ok (.invokevirtual 150, 3) := by decide +kernel
theorem dX7_changeBy_92 : decode cX7_changeBy 92 = .ok (.iadd, 1) := by decide +kernel
theorem dX7_changeBy_93 : decode cX7_changeBy 93 = .ok (.istore_n 3, 1) := by decide +kernel
theorem dX7_changeBy_94 : decode cX7_changeBy 94 = .ok (.iinc 4 1, 3) := by decide +kernel
theorem dX7_changeBy_97 : decode cX7_changeBy 97 = .ok (.goto (-37), 3) := by decide +kernel
theorem dX7_changeBy_100 : decode cX7_changeBy 100 = .ok (.iload_n 3, 1) := by decide +kernel
theorem dX7_changeBy_101 : decode cX7_changeBy 101 = .ok (.ireturn, 1) := by decide +kernel
set_option maxRecDepth 20000 in
theorem ggX7_undo_X7_failRejected : GoodIn wsX7_undo wsX7_failRejected := goodIn_r _ [9, 10, 212, 213, 214, 215, 216, 217, 218, 219] (by decide +kernel) (by decide +kernel)
set_option maxRecDepth 20000 in
theorem gX7_undo_X7_failRejected : GoodIn wsX7_undo (wsV RX7 72 RX7 yX7_failRejected wsX7_failRejected) := goodIn_app (goodIn_of _ (by decide +kernel)) ggX7_undo_X7_failRejected
set_option maxRecDepth 20000 in
theorem ggX7_undo_X6_popInto : GoodIn wsX7_undo wsX6_popInto := goodIn_r _ [15, 16, 17, 18, 19, 20, 21, 22, 23, 24, 25, 26, 27, 28, 29, 30, 31, 32, 33, 34, 220, 221, 222, 223, 224, 225, 226, 227, 228, 229] (by decide +kernel) (by decide +kernel)
set_option maxRecDepth 20000 in
theorem gX7_undo_X6_popInto : GoodIn wsX7_undo (wsV RX7 155 RX6 yX6_popInto wsX6_popInto) := goodIn_app (goodIn_of _ (by decide +kernel)) ggX7_undo_X6_popInto
set_option maxRecDepth 20000 in
theorem ggX7_undo_X1_arrange : GoodIn wsX7_undo wsX1_arrange := goodIn_r _ [39, 40, 41, 42, 43, 44, 45, 46, 47, 48, 38, 49, 50, 51, 52, 53, 54, 55, 56, 57, 58, 59, 60, 61, 62, 63, 64, 65, 66, 67, 68, 69, 70, 71, 72, 73, 74, 75, 76, 77, 78, 79, 80, 81, 82, 83, 84, 85, 86, 87, 88, 89, 90, 91, 92, 93, 94, 95, 96, 97, 98, 99, 100, 101, 102, 103, 104, 105, 106, 107, 108, 109, 110, 111, 112, 113, 114, 115, 116, 117, 118, 119, 120, 121, 122, 123, 124, 125, 126, 127, 128, 129, 130, 131, 132, 133, 134, 135, 136, 137, 138, 139, 140, 141, 142, 143, 144, 145, 146, 147, 148, 149, 150, 151, 152, 153, 154, 155, 156, 157, 158, 159, 160, 161, 162, 163, 164, 165, 166, 167, 168, 169, 170, 171, 172, 173, 174, 175, 176, 177, 178, 179, 180, 181, 182, 183, 184, 185, 186, 187, 188, 189, 190, 191, 192, 193, 194, 195, 196, 197, 198, 199, 200, 201, 202, 203, 204, 205, 206, 207, 208, 209, 210, 211, 230, 231, 232, 233, 234, 235, 236, 237, 223, 224, 225, 226, 227, 228, 229, 238, 239, 240, 241, 242, 243, 244, 245, 246, 247, 248, 249, 250, 251, 252, 253, 254, 255, 256, 257] (by decide +kernel) (by decide +kernel)
set_option maxRecDepth 20000 in
theorem gX7_undo_X1_arrange : GoodIn wsX7_undo (wsV RX7 36 RX1 yX1_arrange wsX1_arrange) := goodIn_app (goodIn_of _ (by decide +kernel)) ggX7_undo_X1_arrange
theorem dX7_undo_0 : decode cX7_undo 0 = .ok (.aload_n 0, 1) := by decide +kernel
theorem dX7_undo_1 : decode cX7_undo 1 = .ok (.getfield 26, 3) := by decide +kernel
theorem dX7_undo_4 : decode cX7_undo 4 = .ok (.getfield 154, 3) := by decide +kernel
theorem dX7_undo_7 : decode cX7_undo 7 = .ok (.ifCond .gt 8, 3) := by decide +kernel
theorem dX7_undo_10 : decode cX7_undo 10 = .ok (.aload_n 0, 1) := by decide +kernel
theorem dX7_undo_11 : decode cX7_undo 11 = .ok (.invokevirtual 72, 3) := by decide +kernel
theorem dX7_undo_14 : decode cX7_undo 14 = .ok (.ireturn, 1) := by decide +kernel
theorem dX7_undo_15 : decode cX7_undo 15 = .ok (.aload_n 0, 1) := by decide +kernel
theorem dX7_undo_16 : decode cX7_undo 16 = .ok (.getfield 26, 3) := by decide +kernel
theorem dX7_undo_19 : decode cX7_undo 19 = .ok (.aload_n 0, 1) := by decide +kernel
theorem dX7_undo_20 : decode cX7_undo 20 = .ok (.getfield 10, 3) := by decide +kernel
theorem dX7_undo_23 : decode cX7_undo 23 = .ok (.invokevirtual 155, 3) := by decide +kernel
theorem dX7_undo_26 : decode cX7_undo 26 = .ok (.aload_n 0, 1) := by decide +kernel
theorem dX7_undo_27 : decode cX7_undo 27 = .ok (.getfield 19, 3) := by decide +kernel
theorem dX7_undo_30 : decode cX7_undo 30 = .ok (.aload_n 0, 1) := by decide +kernel
theorem dX7_undo_31 : decode cX7_undo 31 = .ok (.getfield 10, 3) := by decide +kernel
theorem dX7_undo_34 : decode cX7_undo 34 = .ok (.invokevirtual 36, 3) := by decide +kernel
theorem dX7_undo_37 : decode cX7_undo 37 = .ok (.aload_n 0, 1) := by decide +kernel
theorem dX7_undo_38 : decode cX7_undo 38 = .ok (.getfield 26, 3) := by decide +kernel
theorem dX7_undo_41 : decode cX7_undo 41 = .ok (.getfield 154, 3) := by decide +kernel
theorem dX7_undo_44 : decode cX7_undo 44 = .ok (.ireturn, 1) := by decide +kernel
set_option maxRecDepth 20000 in
theorem ggX7_errorCount_X7_failInvalid : GoodIn wsX7_errorCount wsX7_failInvalid := goodIn_r _ [8, 1, 9, 10, 11, 12, 13, 14, 15, 16] (by decide +kernel) (by decide +kernel)
set_option maxRecDepth 20000 in
theorem gX7_errorCount_X7_failInvalid : GoodIn wsX7_errorCount (wsV RX7 47 RX7 yX7_failInvalid wsX7_failInvalid) := goodIn_app (goodIn_of _ (by decide +kernel)) ggX7_errorCount_X7_failInvalid
theorem dX7_errorCount_0 : decode cX7_errorCount 0 = .ok (.iload_n 1, 1) := by decide +kernel
theorem dX7_errorCount_1 : decode cX7_errorCount 1 = .ok (.tableswitch 42 0 2 #[27, 32, 37], 27) := by decide +kernel
theorem dX7_errorCount_28 : decode cX7_errorCount 28 = .ok (.aload_n 0, 1) := by decide +kernel
theorem dX7_errorCount_29 : decode cX7_errorCount 29 = .ok (.getfield 158, 3) := by decide +kernel
theorem dX7_errorCount_32 : decode cX7_errorCount 32 = .ok (.ireturn, 1) := by decide +kernel
theorem dX7_errorCount_33 : decode cX7_errorCount 33 = .ok (.aload_n 0, 1) := by decide +kernel
theorem dX7_errorCount_34 : decode cX7_errorCount 34 = .ok (.getfield 161, 3) := by decide +kernel
theorem dX7_errorCount_37 : decode cX7_errorCount 37 = .ok (.ireturn, 1) := by decide +kernel
theorem dX7_errorCount_38 : decode cX7_errorCount 38 = .ok (.aload_n 0, 1) := by decide +kernel
theorem dX7_errorCount_39 : decode cX7_errorCount 39 = .ok (.getfield 164, 3) := by decide +kernel
theorem dX7_errorCount_42 : decode cX7_errorCount 42 = .ok (.ireturn, 1) := by decide +kernel
theorem dX7_errorCount_43 : decode cX7_errorCount 43 = .ok (.aload_n 0, 1) := by decide +kernel
theorem dX7_errorCount_44 : decode cX7_errorCount 44 = .ok (.invokevirtual 47, 3) := by decide +kernel
theorem dX7_errorCount_47 : decode cX7_errorCount 47 = .ok (.ireturn, 1) := by decide +kernel
set_option maxRecDepth 20000 in
theorem ggX7_digest_X7_mix : GoodIn wsX7_digest wsX7_mix := goodIn_r _ [16, 17] (by decide +kernel) (by decide +kernel)
set_option maxRecDepth 20000 in
theorem gX7_digest_X7_mix : GoodIn wsX7_digest (va_wsS RX7 169 yX7_mix wsX7_mix) := goodIn_app (goodIn_of _ (by decide +kernel)) ggX7_digest_X7_mix
set_option maxRecDepth 20000 in
theorem ggX7_digest_X7_mixNode : GoodIn wsX7_digest wsX7_mixNode := goodIn_r _ [21, 7, 22, 23, 24, 25, 26, 27, 28, 29, 30, 13, 14, 15, 16, 17, 31, 32, 33, 34, 35, 84, 85, 86, 87, 88, 89, 90, 91, 95, 96, 97, 98, 99, 100, 101, 102, 103, 104, 105, 106, 107, 108, 109, 110, 111, 112, 113] (by decide +kernel) (by decide +kernel)
set_option maxRecDepth 20000 in
theorem gX7_digest_X7_mixNode : GoodIn wsX7_digest (wsV RX7 173 RX7 yX7_mixNode wsX7_mixNode) := goodIn_app (goodIn_of _ (by decide +kernel)) ggX7_digest_X7_mixNode
set_option maxRecDepth 20000 in
theorem ggX7_digest_X7_leafPixels : GoodIn wsX7_digest wsX7_leafPixels := goodIn_r _ [39, 7, 12, 23, 26, 40, 41, 42, 43, 44, 45, 46, 47, 48, 49, 50, 51, 52, 84, 85, 86, 87, 88, 89, 90, 91, 95, 96, 97, 98, 99, 100, 101, 102, 103, 104, 105, 106, 107, 108, 109, 110, 111, 112, 113] (by decide +kernel) (by decide +kernel)
set_option maxRecDepth 20000 in
theorem gX7_digest_X7_leafPixels : GoodIn wsX7_digest (wsV RX7 176 RX7 yX7_leafPixels wsX7_leafPixels) := goodIn_app (goodIn_of _ (by decide +kernel)) ggX7_digest_X7_leafPixels
set_option maxRecDepth 20000 in
theorem ggX7_digest_X7_worstAspect : GoodIn wsX7_digest wsX7_worstAspect := goodIn_r _ [56, 7, 12, 23, 26, 57, 58, 59, 43, 60, 61, 62, 41, 42, 44, 45, 63, 47, 48, 49, 50, 51, 52, 64, 65, 66, 67, 68, 69, 70, 71, 72, 73, 74, 75, 76, 15, 77, 78, 79, 84, 85, 86, 87, 88, 89, 90, 91, 95, 96, 97, 98, 99, 100, 101, 102, 103, 104, 105, 106, 107, 108, 109, 110, 111, 112, 113] (by decide +kernel) (by decide +kernel)
