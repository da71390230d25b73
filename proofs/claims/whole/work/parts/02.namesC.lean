theorem dX3_init_0 : decode cX3_init 0 = .ok (.aload_n 0, 1) := by decide +kernel
theorem dX3_init_1 : decode cX3_init 1 = .ok (.invokespecial 1, 3) := by decide +kernel
theorem dX3_init_4 : decode cX3_init 4 = .ok (.aload_n 0, 1) := by decide +kernel
theorem dX3_init_5 : decode cX3_init 5 = .ok (.iconst 5, 1) := by decide +kernel
theorem dX3_init_6 : decode cX3_init 6 = .ok (.newarray .int, 2) := by decide +kernel
theorem dX3_init_8 : decode cX3_init 8 = .ok (.putfield 7, 3) := by decide +kernel
theorem dX3_init_11 : decode cX3_init 11 = .ok (.aload_n 0, 1) := by decide +kernel
theorem dX3_init_12 : decode cX3_init 12 = .ok (.bipush 80, 2) := by decide +kernel
theorem dX3_init_14 : decode cX3_init 14 = .ok (.newarray .int, 2) := by decide +kernel
theorem dX3_init_16 : decode cX3_init 16 = .ok (.putfield 13, 3) := by decide +kernel
theorem dX3_init_19 : decode cX3_init 19 = .ok (.aload_n 0, 1) := by decide +kernel
theorem dX3_init_20 : decode cX3_init 20 = .ok (.bipush 12, 2) := by decide +kernel
theorem dX3_init_22 : decode cX3_init 22 = .ok (.newarray .int, 2) := by decide +kernel
theorem dX3_init_24 : decode cX3_init 24 = .ok (.putfield 16, 3) := by decide +kernel
theorem dX3_init_27 : decode cX3_init 27 = .ok (.aload_n 0, 1) := by decide +kernel
theorem dX3_init_28 : decode cX3_init 28 = .ok (.sipush 128, 3) := by decide +kernel
theorem dX3_init_31 : decode cX3_init 31 = .ok (.newarray .int, 2) := by decide +kernel
theorem dX3_init_33 : decode cX3_init 33 = .ok (.putfield 19, 3) := by decide +kernel
theorem dX3_init_36 : decode cX3_init 36 = .ok (.aload_n 0, 1) := by decide +kernel
theorem dX3_init_37 : decode cX3_init 37 = .ok (.bipush 8, 2) := by decide +kernel
theorem dX3_init_39 : decode cX3_init 39 = .ok (.newarray .int, 2) := by decide +kernel
theorem dX3_init_41 : decode cX3_init 41 = .ok (.putfield 22, 3) := by decide +kernel
theorem dX3_init_44 : decode cX3_init 44 = .ok (.aload_n 0, 1) := by decide +kernel
theorem dX3_init_45 : decode cX3_init 45 = .ok (.bipush 8, 2) := by decide +kernel
theorem dX3_init_47 : decode cX3_init 47 = .ok (.newarray .int, 2) := by decide +kernel
theorem dX3_init_49 : decode cX3_init 49 = .ok (.putfield 25, 3) := by decide +kernel
theorem dX3_init_52 : decode cX3_init 52 = .ok (.aload_n 0, 1) := by decide +kernel
theorem dX3_init_53 : decode cX3_init 53 = .ok (.bipush 8, 2) := by decide +kernel
theorem dX3_init_55 : decode cX3_init 55 = .ok (.newarray .int, 2) := by decide +kernel
theorem dX3_init_57 : decode cX3_init 57 = .ok (.putfield 28, 3) := by decide +kernel
theorem dX3_init_60 : decode cX3_init 60 = .ok (.iconst 0, 1) := by decide +kernel
theorem dX3_init_61 : decode cX3_init 61 = .ok (.istore_n 1, 1) := by decide +kernel
theorem dX3_init_62 : decode cX3_init 62 = .ok (.iload_n 1, 1) := by decide +kernel
theorem dX3_init_63 : decode cX3_init 63 = .ok (.iconst 4, 1) := by decide +kernel
theorem dX3_init_64 : decode cX3_init 64 = .ok (.if_icmp .ge 26, 3) := by decide +kernel
theorem dX3_init_67 : decode cX3_init 67 = .ok (.aload_n 0, 1) := by decide +kernel
theorem dX3_init_68 : decode cX3_init 68 = .ok (.getfield 7, 3) := by decide +kernel
theorem dX3_init_71 : decode cX3_init 71 = .ok (.iload_n 1, 1) := by decide +kernel
theorem dX3_init_72 : decode cX3_init 72 = .ok (.iconst 1, 1) := by decide +kernel
theorem dX3_init_73 : decode cX3_init 73 = .ok (.iastore, 1) := by decide +kernel
theorem dX3_init_74 : decode cX3_init 74 = .ok (.aload_n 0, 1) := by decide +kernel
theorem dX3_init_75 : decode cX3_init 75 = .ok (.getfield 13, 3) := by decide +kernel
theorem dX3_init_78 : decode cX3_init 78 = .ok (.bipush 16, 2) := by decide +kernel
theorem dX3_init_80 : decode cX3_init 80 = .ok (.iload_n 1, 1) := by decide +kernel
theorem dX3_init_81 : decode cX3_init 81 = .ok (.imul, 1) := by decide +kernel
theorem dX3_init_82 : decode cX3_init 82 = .ok (.iconst 1, 1) := by decide +kernel
theorem dX3_init_83 : decode cX3_init 83 = .ok (.iastore, 1) := by decide +kernel
theorem dX3_init_84 : decode cX3_init 84 = .ok (.iinc 1 1, 3) := by decide +kernel
theorem dX3_init_87 : decode cX3_init 87 = .ok (.goto (-25), 3) := by decide +kernel
theorem dX3_init_90 : decode cX3_init 90 = .ok (.return_, 1) := by decide +kernel
theorem dX3_in_0 : decode cX3_in 0 = .ok (.iload_n 0, 1) := by decide +kernel
theorem dX3_in_1 : decode cX3_in 1 = .ok (.iload_n 1, 1) := by decide +kernel
theorem dX3_in_2 : decode cX3_in 2 = .ok (.if_icmp .lt 12, 3) := by decide +kernel
theorem dX3_in_5 : decode cX3_in 5 = .ok (.iload_n 0, 1) := by decide +kernel
theorem dX3_in_6 : decode cX3_in 6 = .ok (.iload_n 2, 1) := by decide +kernel
theorem dX3_in_7 : decode cX3_in 7 = .ok (.if_icmp .gt 7, 3) := by decide +kernel
theorem dX3_in_10 : decode cX3_in 10 = .ok (.iconst 1, 1) := by decide +kernel
theorem dX3_in_11 : decode cX3_in 11 = .ok (.goto 4, 3) := by decide +kernel
theorem dX3_in_14 : decode cX3_in 14 = .ok (.iconst 0, 1) := by decide +kernel
theorem dX3_in_15 : decode cX3_in 15 = .ok (.ireturn, 1) := by decide +kernel
set_option maxRecDepth 20000 in
theorem ggX3_isSlot_X3_in : GoodIn wsX3_isSlot wsX3_in := goodIn_r _ [4] (by decide +kernel) (by decide +kernel)
set_option maxRecDepth 20000 in
theorem gX3_isSlot_X3_in : GoodIn wsX3_isSlot (va_wsS RX3 31 yX3_in wsX3_in) := goodIn_app (goodIn_of _ (by decide +kernel)) ggX3_isSlot_X3_in
theorem dX3_isSlot_0 : decode cX3_isSlot 0 = .ok (.iload_n 0, 1) := by decide +kernel
theorem dX3_isSlot_1 : decode cX3_isSlot 1 = .ok (.iconst 0, 1) := by decide +kernel
theorem dX3_isSlot_2 : decode cX3_isSlot 2 = .ok (.iconst 3, 1) := by decide +kernel
theorem dX3_isSlot_3 : decode cX3_isSlot 3 = .ok (.invokestatic 31, 3) := by decide +kernel
theorem dX3_isSlot_6 : decode cX3_isSlot 6 = .ok (.ireturn, 1) := by decide +kernel
theorem dX3_numbers_0 : decode cX3_numbers 0 = .ok (.iconst 1, 1) := by decide +kernel
theorem dX3_numbers_1 : decode cX3_numbers 1 = .ok (.aload_n 0, 1) := by decide +kernel
theorem dX3_numbers_2 : decode cX3_numbers 2 = .ok (.getfield 7, 3) := by decide +kernel
theorem dX3_numbers_5 : decode cX3_numbers 5 = .ok (.iload_n 1, 1) := by decide +kernel
theorem dX3_numbers_6 : decode cX3_numbers 6 = .ok (.iaload, 1) := by decide +kernel
theorem dX3_numbers_7 : decode cX3_numbers 7 = .ok (.ishl, 1) := by decide +kernel
theorem dX3_numbers_8 : decode cX3_numbers 8 = .ok (.ireturn, 1) := by decide +kernel
set_option maxRecDepth 20000 in
theorem ggX3_isNumber_X3_numbers : GoodIn wsX3_isNumber wsX3_numbers := goodIn_r _ [5, 6, 10, 11, 12, 13, 14, 15, 16] (by decide +kernel) (by decide +kernel)
set_option maxRecDepth 20000 in
theorem gX3_isNumber_X3_numbers : GoodIn wsX3_isNumber (wsV RX3 35 RX3 yX3_numbers wsX3_numbers) := goodIn_app (goodIn_of _ (by decide +kernel)) ggX3_isNumber_X3_numbers
set_option maxRecDepth 20000 in
theorem ggX3_isNumber_X3_in : GoodIn wsX3_isNumber wsX3_in := goodIn_r _ [9] (by decide +kernel) (by decide +kernel)
set_option maxRecDepth 20000 in
theorem gX3_isNumber_X3_in : GoodIn wsX3_isNumber (va_wsS RX3 31 yX3_in wsX3_in) := goodIn_app (goodIn_of _ (by decide +kernel)) ggX3_isNumber_X3_in
theorem dX3_isNumber_0 : decode cX3_isNumber 0 = .ok (.iload_n 2, 1) := by decide +kernel
theorem dX3_isNumber_1 : decode cX3_isNumber 1 = .ok (.iconst 0, 1) := by decide +kernel
theorem dX3_isNumber_2 : decode cX3_isNumber 2 = .ok (.aload_n 0, 1) := by decide +kernel
theorem dX3_isNumber_3 : decode cX3_isNumber 3 = .ok (.iload_n 1, 1) := by decide +kernel
theorem dX3_isNumber_4 : decode cX3_isNumber 4 = .ok (.invokevirtual 35, 3) := by decide +kernel
theorem dX3_isNumber_7 : decode cX3_isNumber 7 = .ok (.iconst 1, 1) := by decide +kernel
theorem dX3_isNumber_8 : decode cX3_isNumber 8 = .ok (.isub, 1) := by decide +kernel
theorem dX3_isNumber_9 : decode cX3_isNumber 9 = .ok (.invokestatic 31, 3) := by decide +kernel
theorem dX3_isNumber_12 : decode cX3_isNumber 12 = .ok (.ireturn, 1) := by decide +kernel
theorem dX3_clear_0 : decode cX3_clear 0 = .ok (.aload_n 0, 1) := by decide +kernel
theorem dX3_clear_1 : decode cX3_clear 1 = .ok (.getfield 7, 3) := by decide +kernel
theorem dX3_clear_4 : decode cX3_clear 4 = .ok (.iload_n 1, 1) := by decide +kernel
theorem dX3_clear_5 : decode cX3_clear 5 = .ok (.iload_n 2, 1) := by decide +kernel
theorem dX3_clear_6 : decode cX3_clear 6 = .ok (.iastore, 1) := by decide +kernel
theorem dX3_clear_7 : decode cX3_clear 7 = .ok (.iconst 0, 1) := by decide +kernel
theorem dX3_clear_8 : decode cX3_clear 8 = .ok (.istore_n 3, 1) := by decide +kernel
theorem dX3_clear_9 : decode cX3_clear 9 = .ok (.iload_n 3, 1) := by decide +kernel
theorem dX3_clear_10 : decode cX3_clear 10 = .ok (.bipush 16, 2) := by decide +kernel
theorem dX3_clear_12 : decode cX3_clear 12 = .ok (.if_icmp .ge 21, 3) := by decide +kernel
theorem dX3_clear_15 : decode cX3_clear 15 = .ok (.aload_n 0, 1) := by decide +kernel
theorem dX3_clear_16 : decode cX3_clear 16 = .ok (.getfield 13, 3) := by decide +kernel
theorem dX3_clear_19 : decode cX3_clear 19 = .ok (.bipush 16, 2) := by decide +kernel
theorem dX3_clear_21 : decode cX3_clear 21 = .ok (.iload_n 1, 1) := by decide +kernel
theorem dX3_clear_22 : decode cX3_clear 22 = .ok (.imul, 1) := by decide +kernel
theorem dX3_clear_23 : decode cX3_clear 23 = .ok (.iload_n 3, 1) := by decide +kernel
theorem dX3_clear_24 : decode cX3_clear 24 = .ok (.iadd, 1) := by decide +kernel
theorem dX3_clear_25 : decode cX3_clear 25 = .ok (.iconst 0, 1) := by decide +kernel
theorem dX3_clear_26 : decode cX3_clear 26 = .ok (.iastore, 1) := by decide +kernel
theorem dX3_clear_27 : decode cX3_clear 27 = .ok (.iinc 3 1, 3) := by decide +kernel
theorem dX3_clear_30 : decode cX3_clear 30 = .ok (.goto (-21), 3) := by decide +kernel
theorem dX3_clear_33 : decode cX3_clear 33 = .ok (.return_, 1) := by decide +kernel
set_option maxRecDepth 20000 in
theorem ggX3_world_X3_isSlot : GoodIn wsX3_world wsX3_isSlot := goodIn_r _ [4, 5, 6, 3, 7] (by decide +kernel) (by decide +kernel)
set_option maxRecDepth 20000 in
theorem gX3_world_X3_isSlot : GoodIn wsX3_world (va_wsS RX3 39 yX3_isSlot wsX3_isSlot) := goodIn_app (goodIn_of _ (by decide +kernel)) ggX3_world_X3_isSlot
set_option maxRecDepth 20000 in
theorem ggX3_world_X3_in : GoodIn wsX3_world wsX3_in := goodIn_r _ [7] (by decide +kernel) (by decide +kernel)
set_option maxRecDepth 20000 in
theorem gX3_world_X3_in : GoodIn wsX3_world (va_wsS RX3 31 yX3_in wsX3_in) := goodIn_app (goodIn_of _ (by decide +kernel)) ggX3_world_X3_in
set_option maxRecDepth 20000 in
theorem ggX3_world_X3_clear : GoodIn wsX3_world wsX3_clear := goodIn_r _ [11, 12, 13, 14, 15, 16, 17, 18, 19, 20] (by decide +kernel) (by decide +kernel)
set_option maxRecDepth 20000 in
theorem gX3_world_X3_clear : GoodIn wsX3_world (wsV RX3 43 RX3 yX3_clear wsX3_clear) := goodIn_app (goodIn_of _ (by decide +kernel)) ggX3_world_X3_clear
theorem dX3_world_0 : decode cX3_world 0 = .ok (.iload_n 1, 1) := by decide +kernel
theorem dX3_world_1 : decode cX3_world 1 = .ok (.invokestatic 39, 3) := by decide +kernel
theorem dX3_world_4 : decode cX3_world 4 = .ok (.ifCond .ne 5, 3) := by decide +kernel
theorem dX3_world_7 : decode cX3_world 7 = .ok (.iconst (-1), 1) := by decide +kernel
theorem dX3_world_8 : decode cX3_world 8 = .ok (.ireturn, 1) := by decide +kernel
theorem dX3_world_9 : decode cX3_world 9 = .ok (.iload_n 2, 1) := by decide +kernel
theorem dX3_world_10 : decode cX3_world 10 = .ok (.iconst 1, 1) := by decide +kernel
theorem dX3_world_11 : decode cX3_world 11 = .ok (.iconst 4, 1) := by decide +kernel
theorem dX3_world_12 : decode cX3_world 12 = .ok (.invokestatic 31, 3) := by decide +kernel
theorem dX3_world_15 : decode cX3_world 15 = .ok (.ifCond .ne 6, 3) := by decide +kernel
theorem dX3_world_18 : decode cX3_world 18 = .ok (.bipush (-2), 2) := by decide +kernel
theorem dX3_world_20 : decode cX3_world 20 = .ok (.ireturn, 1) := by decide +kernel
theorem dX3_world_21 : decode cX3_world 21 = .ok (.aload_n 0, 1) := by decide +kernel
theorem dX3_world_22 : decode cX3_world 22 = .ok (.iload_n 1, 1) := by decide +kernel
theorem dX3_world_23 : decode cX3_world 23 = .ok (.iload_n 2, 1) := by decide +kernel
theorem dX3_world_24 : decode cX3_world 24 = .ok (.invokevirtual 43, 3) := by decide +kernel
theorem dX3_world_27 : decode cX3_world 27 = .ok (.iconst 1, 1) := by decide +kernel
theorem dX3_world_28 : decode cX3_world 28 = .ok (.iload_n 2, 1) := by decide +kernel
theorem dX3_world_29 : decode cX3_world 29 = .ok (.ishl, 1) := by decide +kernel
theorem dX3_world_30 : decode cX3_world 30 = .ok (.ireturn, 1) := by decide +kernel
set_option maxRecDepth 20000 in
theorem ggX3_put_X3_isSlot : GoodIn wsX3_put wsX3_isSlot := goodIn_r _ [6, 7, 8, 5, 9] (by decide +kernel) (by decide +kernel)
set_option maxRecDepth 20000 in
theorem gX3_put_X3_isSlot : GoodIn wsX3_put (va_wsS RX3 39 yX3_isSlot wsX3_isSlot) := goodIn_app (goodIn_of _ (by decide +kernel)) ggX3_put_X3_isSlot
set_option maxRecDepth 20000 in
theorem ggX3_put_X3_isNumber : GoodIn wsX3_put wsX3_isNumber := goodIn_r _ [13, 14, 15, 16, 5, 17, 1, 7, 8, 9, 18, 19, 20, 21, 22, 23, 24] (by decide +kernel) (by decide +kernel)
set_option maxRecDepth 20000 in
theorem gX3_put_X3_isNumber : GoodIn wsX3_put (wsV RX3 47 RX3 yX3_isNumber wsX3_isNumber) := goodIn_app (goodIn_of _ (by decide +kernel)) ggX3_put_X3_isNumber
set_option maxRecDepth 20000 in
theorem ggX3_put_X3_in : GoodIn wsX3_put wsX3_in := goodIn_r _ [9] (by decide +kernel) (by decide +kernel)
set_option maxRecDepth 20000 in
theorem gX3_put_X3_in : GoodIn wsX3_put (va_wsS RX3 31 yX3_in wsX3_in) := goodIn_app (goodIn_of _ (by decide +kernel)) ggX3_put_X3_in
theorem dX3_put_0 : decode cX3_put 0 = .ok (.iload_n 1, 1) := by decide +kernel
theorem dX3_put_1 : decode cX3_put 1 = .ok (.invokestatic 39, 3) := by decide +kernel
theorem dX3_put_4 : decode cX3_put 4 = .ok (.ifCond .eq 13, 3) := by decide +kernel
theorem dX3_put_7 : decode cX3_put 7 = .ok (.aload_n 0, 1) := by decide +kernel
theorem dX3_put_8 : decode cX3_put 8 = .ok (.iload_n 1, 1) := by decide +kernel
theorem dX3_put_9 : decode cX3_put 9 = .ok (.iload 4, 2) := by decide +kernel
theorem dX3_put_11 : decode cX3_put 11 = .ok (.invokevirtual 47, 3) := by decide +kernel
theorem dX3_put_14 : decode cX3_put 14 = .ok (.ifCond .ne 5, 3) := by decide +kernel
theorem dX3_put_17 : decode cX3_put 17 = .ok (.iconst (-1), 1) := by decide +kernel
theorem dX3_put_18 : decode cX3_put 18 = .ok (.ireturn, 1) := by decide +kernel
theorem dX3_put_19 : decode cX3_put 19 = .ok (.iload_n 2, 1) := by decide +kernel
theorem dX3_put_20 : decode cX3_put 20 = .ok (.iconst 0, 1) := by decide +kernel
theorem dX3_put_21 : decode cX3_put 21 = .ok (.aload_n 0, 1) := by decide +kernel
theorem dX3_put_22 : decode cX3_put 22 = .ok (.getfield 7, 3) := by decide +kernel
theorem dX3_put_25 : decode cX3_put 25 = .ok (.iload_n 1, 1) := by decide +kernel
theorem dX3_put_26 : decode cX3_put 26 = .ok (.iaload, 1) := by decide +kernel
theorem dX3_put_27 : decode cX3_put 27 = .ok (.iconst 1, 1) := by decide +kernel
theorem dX3_put_28 : decode cX3_put 28 = .ok (.isub, 1) := by decide +kernel
theorem dX3_put_29 : decode cX3_put 29 = .ok (.invokestatic 31, 3) := by decide +kernel
theorem dX3_put_32 : decode cX3_put 32 = .ok (.ifCond .eq 19, 3) := by decide +kernel
theorem dX3_put_35 : decode cX3_put 35 = .ok (.iload_n 3, 1) := by decide +kernel
theorem dX3_put_36 : decode cX3_put 36 = .ok (.iconst 0, 1) := by decide +kernel
theorem dX3_put_37 : decode cX3_put 37 = .ok (.aload_n 0, 1) := by decide +kernel
theorem dX3_put_38 : decode cX3_put 38 = .ok (.getfield 7, 3) := by decide +kernel
theorem dX3_put_41 : decode cX3_put 41 = .ok (.iload_n 1, 1) := by decide +kernel
theorem dX3_put_42 : decode cX3_put 42 = .ok (.iaload, 1) := by decide +kernel
theorem dX3_put_43 : decode cX3_put 43 = .ok (.iconst 1, 1) := by decide +kernel
theorem dX3_put_44 : decode cX3_put 44 = .ok (.isub, 1) := by decide +kernel
theorem dX3_put_45 : decode cX3_put 45 = .ok (.invokestatic 31, 3) := by decide +kernel
theorem dX3_put_48 : decode cX3_put 48 = .ok (.ifCond .ne 6, 3) := by decide +kernel
theorem dX3_put_51 : decode cX3_put 51 = .ok (.bipush (-2), 2) := by decide +kernel
theorem dX3_put_53 : decode cX3_put 53 = .ok (.ireturn, 1) := by decide +kernel
theorem dX3_put_54 : decode cX3_put 54 = .ok (.bipush 16, 2) := by decide +kernel
theorem dX3_put_56 : decode cX3_put 56 = .ok (.iload_n 1, 1) := by decide +kernel
theorem dX3_put_57 : decode cX3_put 57 = .ok (.imul, 1) := by decide +kernel
theorem dX3_put_58 : decode cX3_put 58 = .ok (.iconst 4, 1) := by decide +kernel
theorem dX3_put_59 : decode cX3_put 59 = .ok (.iload_n 2, 1) := by decide +kernel
theorem dX3_put_60 : decode cX3_put 60 = .ok (.imul, 1) := by decide +kernel
theorem dX3_put_61 : decode cX3_put 61 = .ok (.iadd, 1) := by decide +kernel
theorem dX3_put_62 : decode cX3_put 62 = .ok (.iload_n 3, 1) := by decide +kernel
theorem dX3_put_63 : decode cX3_put 63 = .ok (.iadd, 1) := by decide +kernel
theorem dX3_put_64 : decode cX3_put 64 = .ok (.istore 5, 2) := by decide +kernel
theorem dX3_put_66 : decode cX3_put 66 = .ok (.aload_n 0, 1) := by decide +kernel
theorem dX3_put_67 : decode cX3_put 67 = .ok (.getfield 13, 3) := by decide +kernel
theorem dX3_put_70 : decode cX3_put 70 = .ok (.iload 5, 2) := by decide +kernel
theorem dX3_put_72 : decode cX3_put 72 = .ok (.iaload, 1) := by decide +kernel
theorem dX3_put_73 : decode cX3_put 73 = .ok (.istore 6, 2) := by decide +kernel
theorem dX3_put_75 : decode cX3_put 75 = .ok (.aload_n 0, 1) := by decide +kernel
theorem dX3_put_76 : decode cX3_put 76 = .ok (.getfield 13, 3) := by decide +kernel
theorem dX3_put_79 : decode cX3_put 79 = .ok (.iload 5, 2) := by decide +kernel
theorem dX3_put_81 : decode cX3_put 81 = .ok (.iload 4, 2) := by decide +kernel
theorem dX3_put_83 : decode cX3_put 83 = .ok (.iastore, 1) := by decide +kernel
theorem dX3_put_84 : decode cX3_put 84 = .ok (.iload 6, 2) := by decide +kernel
theorem dX3_put_86 : decode cX3_put 86 = .ok (.ireturn, 1) := by decide +kernel
set_option maxRecDepth 20000 in
theorem ggX3_field_X3_isSlot : GoodIn wsX3_field wsX3_isSlot := goodIn_r _ [5, 6, 7, 4, 8] (by decide +kernel) (by decide +kernel)
set_option maxRecDepth 20000 in
theorem gX3_field_X3_isSlot : GoodIn wsX3_field (va_wsS RX3 39 yX3_isSlot wsX3_isSlot) := goodIn_app (goodIn_of _ (by decide +kernel)) ggX3_field_X3_isSlot
set_option maxRecDepth 20000 in
theorem ggX3_field_X3_in : GoodIn wsX3_field wsX3_in := goodIn_r _ [8] (by decide +kernel) (by decide +kernel)
set_option maxRecDepth 20000 in
theorem gX3_field_X3_in : GoodIn wsX3_field (va_wsS RX3 31 yX3_in wsX3_in) := goodIn_app (goodIn_of _ (by decide +kernel)) ggX3_field_X3_in
set_option maxRecDepth 20000 in
theorem ggX3_field_X3_clear : GoodIn wsX3_field wsX3_clear := goodIn_r _ [12, 13, 1, 14, 15, 16, 17, 18, 19, 20] (by decide +kernel) (by decide +kernel)
set_option maxRecDepth 20000 in
theorem gX3_field_X3_clear : GoodIn wsX3_field (wsV RX3 43 RX3 yX3_clear wsX3_clear) := goodIn_app (goodIn_of _ (by decide +kernel)) ggX3_field_X3_clear
theorem dX3_field_0 : decode cX3_field 0 = .ok (.iload_n 1, 1) := by decide +kernel
theorem dX3_field_1 : decode cX3_field 1 = .ok (.invokestatic 39, 3) := by decide +kernel
theorem dX3_field_4 : decode cX3_field 4 = .ok (.ifCond .ne 5, 3) := by decide +kernel
theorem dX3_field_7 : decode cX3_field 7 = .ok (.iconst (-1), 1) := by decide +kernel
theorem dX3_field_8 : decode cX3_field 8 = .ok (.ireturn, 1) := by decide +kernel
theorem dX3_field_9 : decode cX3_field 9 = .ok (.iload_n 2, 1) := by decide +kernel
theorem dX3_field_10 : decode cX3_field 10 = .ok (.iconst 1, 1) := by decide +kernel
theorem dX3_field_11 : decode cX3_field 11 = .ok (.iconst 4, 1) := by decide +kernel
theorem dX3_field_12 : decode cX3_field 12 = .ok (.invokestatic 31, 3) := by decide +kernel
theorem dX3_field_15 : decode cX3_field 15 = .ok (.ifCond .ne 6, 3) := by decide +kernel
theorem dX3_field_18 : decode cX3_field 18 = .ok (.bipush (-2), 2) := by decide +kernel
theorem dX3_field_20 : decode cX3_field 20 = .ok (.ireturn, 1) := by decide +kernel
theorem dX3_field_21 : decode cX3_field 21 = .ok (.aload_n 0, 1) := by decide +kernel
theorem dX3_field_22 : decode cX3_field 22 = .ok (.iload_n 1, 1) := by decide +kernel
theorem dX3_field_23 : decode cX3_field 23 = .ok (.iload_n 2, 1) := by decide +kernel
theorem dX3_field_24 : decode cX3_field 24 = .ok (.invokevirtual 43, 3) := by decide +kernel
theorem dX3_field_27 : decode cX3_field 27 = .ok (.iconst 0, 1) := by decide +kernel
theorem dX3_field_28 : decode cX3_field 28 = .ok (.istore_n 3, 1) := by decide +kernel
theorem dX3_field_29 : decode cX3_field 29 = .ok (.iload_n 3, 1) := by decide +kernel
theorem dX3_field_30 : decode cX3_field 30 = .ok (.iload_n 2, 1) := by decide +kernel
theorem dX3_field_31 : decode cX3_field 31 = .ok (.if_icmp .ge 98, 3) := by decide +kernel
theorem dX3_field_34 : decode cX3_field 34 = .ok (.iconst 0, 1) := by decide +kernel
theorem dX3_field_35 : decode cX3_field 35 = .ok (.istore 4, 2) := by decide +kernel
theorem dX3_field_37 : decode cX3_field 37 = .ok (.iload 4, 2) := by decide +kernel
theorem dX3_field_39 : decode cX3_field 39 = .ok (.iload_n 2, 1) := by decide +kernel
theorem dX3_field_40 : decode cX3_field 40 = .ok (.if_icmp .ge 83, 3) := by decide +kernel
theorem dX3_field_43 : decode cX3_field 43 = .ok (.iconst 1, 1) := by decide +kernel
theorem dX3_field_44 : decode cX3_field 44 = .ok (.iload_n 3, 1) := by decide +kernel
theorem dX3_field_45 : decode cX3_field 45 = .ok (.iload 4, 2) := by decide +kernel
theorem dX3_field_47 : decode cX3_field 47 = .ok (.iadd, 1) := by decide +kernel
theorem dX3_field_48 : decode cX3_field 48 = .ok (.ishl, 1) := by decide +kernel
theorem dX3_field_49 : decode cX3_field 49 = .ok (.istore 5, 2) := by decide +kernel
theorem dX3_field_51 : decode cX3_field 51 = .ok (.bipush 6, 2) := by decide +kernel
theorem dX3_field_53 : decode cX3_field 53 = .ok (.istore 6, 2) := by decide +kernel
theorem dX3_field_55 : decode cX3_field 55 = .ok (.iload 6, 2) := by decide +kernel
theorem dX3_field_57 : decode cX3_field 57 = .ok (.iload_n 2, 1) := by decide +kernel
theorem dX3_field_58 : decode cX3_field 58 = .ok (.if_icmp .lt 41, 3) := by decide +kernel
theorem dX3_field_61 : decode cX3_field 61 = .ok (.iload 5, 2) := by decide +kernel
theorem dX3_field_63 : decode cX3_field 63 = .ok (.iload 6, 2) := by decide +kernel
theorem dX3_field_65 : decode cX3_field 65 = .ok (.ishr, 1) := by decide +kernel
theorem dX3_field_66 : decode cX3_field 66 = .ok (.iconst 1, 1) := by decide +kernel
theorem dX3_field_67 : decode cX3_field 67 = .ok (.iand, 1) := by decide +kernel
theorem dX3_field_68 : decode cX3_field 68 = .ok (.iconst 1, 1) := by decide +kernel
theorem dX3_field_69 : decode cX3_field 69 = .ok (.if_icmp .ne 20, 3) := by decide +kernel
theorem dX3_field_72 : decode cX3_field 72 = .ok (.iload 5, 2) := by decide +kernel
theorem dX3_field_74 : decode cX3_field 74 = .ok (.iconst 1, 1) := by decide +kernel
theorem dX3_field_75 : decode cX3_field 75 = .ok (.iload 6, 2) := by decide +kernel
theorem dX3_field_77 : decode cX3_field 77 = .ok (.ishl, 1) := by decide +kernel
theorem dX3_field_78 : decode cX3_field 78 = .ok (.ixor, 1) := by decide +kernel
theorem dX3_field_79 : decode cX3_field 79 = .ok (.iconst 3, 1) := by decide +kernel
theorem dX3_field_80 : decode cX3_field 80 = .ok (.iload 6, 2) := by decide +kernel
theorem dX3_field_82 : decode cX3_field 82 = .ok (.iload_n 2, 1) := by decide +kernel
theorem dX3_field_83 : decode cX3_field 83 = .ok (.isub, 1) := by decide +kernel
theorem dX3_field_84 : decode cX3_field 84 = .ok (.ishl, 1) := by decide +kernel
theorem dX3_field_85 : decode cX3_field 85 = .ok (.ixor, 1) := by decide +kernel
theorem dX3_field_86 : decode cX3_field 86 = .ok (.goto 5, 3) := by decide +kernel
theorem dX3_field_89 : decode cX3_field 89 = .ok (.iload 5, 2) := by decide +kernel
theorem dX3_field_91 : decode cX3_field 91 = .ok (.istore 5, 2) := by decide +kernel
theorem dX3_field_93 : decode cX3_field 93 = .ok (.iinc 6 (-1), 3) := by decide +kernel
theorem dX3_field_96 : decode cX3_field 96 = .ok (.goto (-41), 3) := by decide +kernel
theorem dX3_field_99 : decode cX3_field 99 = .ok (.aload_n 0, 1) := by decide +kernel
theorem dX3_field_100 : decode cX3_field 100 = .ok (.getfield 13, 3) := by decide +kernel
theorem dX3_field_103 : decode cX3_field 103 = .ok (.bipush 16, 2) := by decide +kernel
theorem dX3_field_105 : decode cX3_field 105 = .ok (.iload_n 1, 1) := by decide +kernel
theorem dX3_field_106 : decode cX3_field 106 = .ok (.imul, 1) := by decide +kernel
theorem dX3_field_107 : decode cX3_field 107 = .ok (.iconst 4, 1) := by decide +kernel
theorem dX3_field_108 : decode cX3_field 108 = .ok (.iload_n 3, 1) := by decide +kernel
theorem dX3_field_109 : decode cX3_field 109 = .ok (.imul, 1) := by decide +kernel
theorem dX3_field_110 : decode cX3_field 110 = .ok (.iadd, 1) := by decide +kernel
theorem dX3_field_111 : decode cX3_field 111 = .ok (.iload 4, 2) := by decide +kernel
theorem dX3_field_113 : decode cX3_field 113 = .ok (.iadd, 1) := by decide +kernel
theorem dX3_field_114 : decode cX3_field 114 = .ok (.iload 5, 2) := by decide +kernel
theorem dX3_field_116 : decode cX3_field 116 = .ok (.iastore, 1) := by decide +kernel
theorem dX3_field_117 : decode cX3_field 117 = .ok (.iinc 4 1, 3) := by decide +kernel
theorem dX3_field_120 : decode cX3_field 120 = .ok (.goto (-83), 3) := by decide +kernel
theorem dX3_field_123 : decode cX3_field 123 = .ok (.iinc 3 1, 3) := by decide +kernel
theorem dX3_field_126 : decode cX3_field 126 = .ok (.goto (-97), 3) := by decide +kernel
theorem dX3_field_129 : decode cX3_field 129 = .ok (.iconst 1, 1) := by decide +kernel
theorem dX3_field_130 : decode cX3_field 130 = .ok (.iload_n 2, 1) := by decide +kernel
theorem dX3_field_131 : decode cX3_field 131 = .ok (.ishl, 1) := by decide +kernel
theorem dX3_field_132 : decode cX3_field 132 = .ok (.ireturn, 1) := by decide +kernel
theorem dX3_times_0 : decode cX3_times 0 = .ok (.iconst 0, 1) := by decide +kernel
theorem dX3_times_1 : decode cX3_times 1 = .ok (.istore 4, 2) := by decide +kernel
theorem dX3_times_3 : decode cX3_times 3 = .ok (.iconst 0, 1) := by decide +kernel
theorem dX3_times_4 : decode cX3_times 4 = .ok (.istore 5, 2) := by decide +kernel
theorem dX3_times_6 : decode cX3_times 6 = .ok (.iload 5, 2) := by decide +kernel
theorem dX3_times_8 : decode cX3_times 8 = .ok (.aload_n 0, 1) := by decide +kernel
theorem dX3_times_9 : decode cX3_times 9 = .ok (.getfield 7, 3) := by decide +kernel
theorem dX3_times_12 : decode cX3_times 12 = .ok (.iload_n 1, 1) := by decide +kernel
theorem dX3_times_13 : decode cX3_times 13 = .ok (.iaload, 1) := by decide +kernel
theorem dX3_times_14 : decode cX3_times 14 = .ok (.if_icmp .ge 70, 3) := by decide +kernel
theorem dX3_times_17 : decode cX3_times 17 = .ok (.iconst 0, 1) := by decide +kernel
theorem dX3_times_18 : decode cX3_times 18 = .ok (.istore 6, 2) := by decide +kernel
theorem dX3_times_20 : decode cX3_times 20 = .ok (.iload 6, 2) := by decide +kernel
theorem dX3_times_22 : decode cX3_times 22 = .ok (.aload_n 0, 1) := by decide +kernel
theorem dX3_times_23 : decode cX3_times 23 = .ok (.getfield 7, 3) := by decide +kernel
theorem dX3_times_26 : decode cX3_times 26 = .ok (.iload_n 1, 1) := by decide +kernel
theorem dX3_times_27 : decode cX3_times 27 = .ok (.iaload, 1) := by decide +kernel
theorem dX3_times_28 : decode cX3_times 28 = .ok (.if_icmp .ge 50, 3) := by decide +kernel
theorem dX3_times_31 : decode cX3_times 31 = .ok (.iload 4, 2) := by decide +kernel
theorem dX3_times_33 : decode cX3_times 33 = .ok (.iload_n 2, 1) := by decide +kernel
theorem dX3_times_34 : decode cX3_times 34 = .ok (.iload 5, 2) := by decide +kernel
theorem dX3_times_36 : decode cX3_times 36 = .ok (.ishr, 1) := by decide +kernel
theorem dX3_times_37 : decode cX3_times 37 = .ok (.iload_n 3, 1) := by decide +kernel
theorem dX3_times_38 : decode cX3_times 38 = .ok (.iload 6, 2) := by decide +kernel
theorem dX3_times_40 : decode cX3_times 40 = .ok (.ishr, 1) := by decide +kernel
theorem dX3_times_41 : decode cX3_times 41 = .ok (.iand, 1) := by decide +kernel
theorem dX3_times_42 : decode cX3_times 42 = .ok (.iconst 1, 1) := by decide +kernel
theorem dX3_times_43 : decode cX3_times 43 = .ok (.iand, 1) := by decide +kernel
theorem dX3_times_44 : decode cX3_times 44 = .ok (.iconst 1, 1) := by decide +kernel
theorem dX3_times_45 : decode cX3_times 45 = .ok (.if_icmp .ne 23, 3) := by decide +kernel
theorem dX3_times_48 : decode cX3_times 48 = .ok (.aload_n 0, 1) := by decide +kernel
theorem dX3_times_49 : decode cX3_times 49 = .ok (.getfield 13, 3) := by decide +kernel
theorem dX3_times_52 : decode cX3_times 52 = .ok (.bipush 16, 2) := by decide +kernel
theorem dX3_times_54 : decode cX3_times 54 = .ok (.iload_n 1, 1) := by decide +kernel
theorem dX3_times_55 : decode cX3_times 55 = .ok (.imul, 1) := by decide +kernel
theorem dX3_times_56 : decode cX3_times 56 = .ok (.iconst 4, 1) := by decide +kernel
theorem dX3_times_57 : decode cX3_times 57 = .ok (.iload 5, 2) := by decide +kernel
theorem dX3_times_59 : decode cX3_times 59 = .ok (.imul, 1) := by decide +kernel
theorem dX3_times_60 : decode cX3_times 60 = .ok (.iadd, 1) := by decide +kernel
theorem dX3_times_61 : decode cX3_times 61 = .ok (.iload 6, 2) := by decide +kernel
theorem dX3_times_63 : decode cX3_times 63 = .ok (.iadd, 1) := by decide +kernel
theorem dX3_times_64 : decode cX3_times 64 = .ok (.iaload, 1) := by decide +kernel
theorem dX3_times_65 : decode cX3_times 65 = .ok (.goto 4, 3) := by decide +kernel
theorem dX3_times_68 : decode cX3_times 68 = .ok (.iconst 0, 1) := by decide +kernel
theorem dX3_times_69 : decode cX3_times 69 = .ok (.ixor, 1) := by decide +kernel
theorem dX3_times_70 : decode cX3_times 70 = .ok (.istore 4, 2) := by decide +kernel
theorem dX3_times_72 : decode cX3_times 72 = .ok (.iinc 6 1, 3) := by decide +kernel
theorem dX3_times_75 : decode cX3_times 75 = .ok (.goto (-55), 3) := by decide +kernel
theorem dX3_times_78 : decode cX3_times 78 = .ok (.iinc 5 1, 3) := by decide +kernel
theorem dX3_times_81 : decode cX3_times 81 = .ok (.goto (-75), 3) := by decide +kernel
theorem dX3_times_84 : decode cX3_times 84 = .ok (.iload 4, 2) := by decide +kernel
theorem dX3_times_86 : decode cX3_times 86 = .ok (.ireturn, 1) := by decide +kernel
set_option maxRecDepth 20000 in
theorem ggX3_product_X3_isSlot : GoodIn wsX3_product wsX3_isSlot := goodIn_r _ [4, 5, 6, 3, 7] (by decide +kernel) (by decide +kernel)
set_option maxRecDepth 20000 in
theorem gX3_product_X3_isSlot : GoodIn wsX3_product (va_wsS RX3 39 yX3_isSlot wsX3_isSlot) := goodIn_app (goodIn_of _ (by decide +kernel)) ggX3_product_X3_isSlot
set_option maxRecDepth 20000 in
theorem ggX3_product_X3_isNumber : GoodIn wsX3_product wsX3_isNumber := goodIn_r _ [11, 12, 13, 14, 3, 15, 16, 5, 6, 7, 22, 23, 24, 25, 26, 27, 28] (by decide +kernel) (by decide +kernel)
set_option maxRecDepth 20000 in
theorem gX3_product_X3_isNumber : GoodIn wsX3_product (wsV RX3 47 RX3 yX3_isNumber wsX3_isNumber) := goodIn_app (goodIn_of _ (by decide +kernel)) ggX3_product_X3_isNumber
set_option maxRecDepth 20000 in
theorem ggX3_product_X3_times : GoodIn wsX3_product wsX3_times := goodIn_r _ [20, 16, 21, 22, 23, 24, 25, 26, 27, 28] (by decide +kernel) (by decide +kernel)
set_option maxRecDepth 20000 in
theorem gX3_product_X3_times : GoodIn wsX3_product (wsV RX3 51 RX3 yX3_times wsX3_times) := goodIn_app (goodIn_of _ (by decide +kernel)) ggX3_product_X3_times
theorem dX3_product_0 : decode cX3_product 0 = .ok (.iload_n 1, 1) := by decide +kernel
theorem dX3_product_1 : decode cX3_product 1 = .ok (.invokestatic 39, 3) := by decide +kernel
theorem dX3_product_4 : decode cX3_product 4 = .ok (.ifCond .eq 31, 3) := by decide +kernel
theorem dX3_product_7 : decode cX3_product 7 = .ok (.aload_n 0, 1) := by decide +kernel
theorem dX3_product_8 : decode cX3_product 8 = .ok (.iload_n 1, 1) := by decide +kernel
theorem dX3_product_9 : decode cX3_product 9 = .ok (.iload_n 2, 1) := by decide +kernel
theorem dX3_product_10 : decode cX3_product 10 = .ok (.invokevirtual 47, 3) := by decide +kernel
theorem dX3_product_13 : decode cX3_product 13 = .ok (.ifCond .eq 22, 3) := by decide +kernel
theorem dX3_product_16 : decode cX3_product 16 = .ok (.aload_n 0, 1) := by decide +kernel
theorem dX3_product_17 : decode cX3_product 17 = .ok (.iload_n 1, 1) := by decide +kernel
theorem dX3_product_18 : decode cX3_product 18 = .ok (.iload_n 3, 1) := by decide +kernel
theorem dX3_product_19 : decode cX3_product 19 = .ok (.invokevirtual 47, 3) := by decide +kernel
theorem dX3_product_22 : decode cX3_product 22 = .ok (.ifCond .eq 13, 3) := by decide +kernel
theorem dX3_product_25 : decode cX3_product 25 = .ok (.aload_n 0, 1) := by decide +kernel
theorem dX3_product_26 : decode cX3_product 26 = .ok (.iload_n 1, 1) := by decide +kernel
theorem dX3_product_27 : decode cX3_product 27 = .ok (.iload_n 2, 1) := by decide +kernel
theorem dX3_product_28 : decode cX3_product 28 = .ok (.iload_n 3, 1) := by decide +kernel
theorem dX3_product_29 : decode cX3_product 29 = .ok (.invokevirtual 51, 3) := by decide +kernel
theorem dX3_product_32 : decode cX3_product 32 = .ok (.goto 4, 3) := by decide +kernel
theorem dX3_product_35 : decode cX3_product 35 = .ok (.iconst (-1), 1) := by decide +kernel
theorem dX3_product_36 : decode cX3_product 36 = .ok (.ireturn, 1) := by decide +kernel
set_option maxRecDepth 20000 in
theorem ggX3_firstBroken_X3_numbers : GoodIn wsX3_firstBroken wsX3_numbers := goodIn_r _ [5, 6, 12, 13, 14, 15, 16, 17, 18] (by decide +kernel) (by decide +kernel)
set_option maxRecDepth 20000 in
theorem gX3_firstBroken_X3_numbers : GoodIn wsX3_firstBroken (wsV RX3 35 RX3 yX3_numbers wsX3_numbers) := goodIn_app (goodIn_of _ (by decide +kernel)) ggX3_firstBroken_X3_numbers
set_option maxRecDepth 20000 in
theorem ggX3_firstBroken_X3_times : GoodIn wsX3_firstBroken wsX3_times := goodIn_r _ [10, 6, 11, 12, 13, 14, 15, 16, 17, 18] (by decide +kernel) (by decide +kernel)
set_option maxRecDepth 20000 in
theorem gX3_firstBroken_X3_times : GoodIn wsX3_firstBroken (wsV RX3 51 RX3 yX3_times wsX3_times) := goodIn_app (goodIn_of _ (by decide +kernel)) ggX3_firstBroken_X3_times
theorem dX3_firstBroken_0 : decode cX3_firstBroken 0 = .ok (.iconst 1, 1) := by decide +kernel
theorem dX3_firstBroken_1 : decode cX3_firstBroken 1 = .ok (.istore_n 2, 1) := by decide +kernel
theorem dX3_firstBroken_2 : decode cX3_firstBroken 2 = .ok (.iload_n 2, 1) := by decide +kernel
theorem dX3_firstBroken_3 : decode cX3_firstBroken 3 = .ok (.aload_n 0, 1) := by decide +kernel
theorem dX3_firstBroken_4 : decode cX3_firstBroken 4 = .ok (.iload_n 1, 1) := by decide +kernel
theorem dX3_firstBroken_5 : decode cX3_firstBroken 5 = .ok (.invokevirtual 35, 3) := by decide +kernel
theorem dX3_firstBroken_8 : decode cX3_firstBroken 8 = .ok (.if_icmp .ge 43, 3) := by decide +kernel
theorem dX3_firstBroken_11 : decode cX3_firstBroken 11 = .ok (.iconst 1, 1) := by decide +kernel
theorem dX3_firstBroken_12 : decode cX3_firstBroken 12 = .ok (.istore_n 3, 1) := by decide +kernel
theorem dX3_firstBroken_13 : decode cX3_firstBroken 13 = .ok (.iload_n 3, 1) := by decide +kernel
theorem dX3_firstBroken_14 : decode cX3_firstBroken 14 = .ok (.aload_n 0, 1) := by decide +kernel
theorem dX3_firstBroken_15 : decode cX3_firstBroken 15 = .ok (.iload_n 1, 1) := by decide +kernel
theorem dX3_firstBroken_16 : decode cX3_firstBroken 16 = .ok (.invokevirtual 35, 3) := by decide +kernel
theorem dX3_firstBroken_19 : decode cX3_firstBroken 19 = .ok (.if_icmp .ge 26, 3) := by decide +kernel
theorem dX3_firstBroken_22 : decode cX3_firstBroken 22 = .ok (.aload_n 0, 1) := by decide +kernel
theorem dX3_firstBroken_23 : decode cX3_firstBroken 23 = .ok (.iload_n 1, 1) := by decide +kernel
theorem dX3_firstBroken_24 : decode cX3_firstBroken 24 = .ok (.iload_n 2, 1) := by decide +kernel
theorem dX3_firstBroken_25 : decode cX3_firstBroken 25 = .ok (.iload_n 3, 1) := by decide +kernel
theorem dX3_firstBroken_26 : decode cX3_firstBroken 26 = .ok (.invokevirtual 51, 3) := by decide +kernel
theorem dX3_firstBroken_29 : decode cX3_firstBroken 29 = .ok (.ifCond .ne 10, 3) := by decide +kernel
theorem dX3_firstBroken_32 : decode cX3_firstBroken 32 = .ok (.bipush 16, 2) := by decide +kernel
theorem dX3_firstBroken_34 : decode cX3_firstBroken 34 = .ok (.iload_n 2, 1) := by decide +kernel
theorem dX3_firstBroken_35 : decode cX3_firstBroken 35 = .ok (.imul, 1) := by decide +kernel
theorem dX3_firstBroken_36 : decode cX3_firstBroken 36 = .ok (.iload_n 3, 1) := by decide +kernel
theorem dX3_firstBroken_37 : decode cX3_firstBroken 37 = .ok (.iadd, 1) := by decide +kernel
theorem dX3_firstBroken_38 : decode cX3_firstBroken 38 = .ok (.ireturn, 1) := by decide +kernel
theorem dX3_firstBroken_39 : decode cX3_firstBroken 39 = .ok (.iinc 3 1, 3) := by decide +kernel
theorem dX3_firstBroken_42 : decode cX3_firstBroken 42 = .ok (.goto (-29), 3) := by decide +kernel
theorem dX3_firstBroken_45 : decode cX3_firstBroken 45 = .ok (.iinc 2 1, 3) := by decide +kernel
theorem dX3_firstBroken_48 : decode cX3_firstBroken 48 = .ok (.goto (-46), 3) := by decide +kernel
theorem dX3_firstBroken_51 : decode cX3_firstBroken 51 = .ok (.bipush (-9), 2) := by decide +kernel
theorem dX3_firstBroken_53 : decode cX3_firstBroken 53 = .ok (.ireturn, 1) := by decide +kernel
set_option maxRecDepth 20000 in
theorem ggX3_divides_X3_isSlot : GoodIn wsX3_divides wsX3_isSlot := goodIn_r _ [4, 5, 6, 3, 7] (by decide +kernel) (by decide +kernel)
set_option maxRecDepth 20000 in
theorem gX3_divides_X3_isSlot : GoodIn wsX3_divides (va_wsS RX3 39 yX3_isSlot wsX3_isSlot) := goodIn_app (goodIn_of _ (by decide +kernel)) ggX3_divides_X3_isSlot
set_option maxRecDepth 20000 in
theorem ggX3_divides_X3_firstBroken : GoodIn wsX3_divides wsX3_firstBroken := goodIn_r _ [11, 12, 13, 14, 3, 15, 16, 17, 18, 19, 20, 21, 22, 23, 24, 25, 26, 27, 28] (by decide +kernel) (by decide +kernel)
set_option maxRecDepth 20000 in
theorem gX3_divides_X3_firstBroken : GoodIn wsX3_divides (wsV RX3 55 RX3 yX3_firstBroken wsX3_firstBroken) := goodIn_app (goodIn_of _ (by decide +kernel)) ggX3_divides_X3_firstBroken
theorem dX3_divides_0 : decode cX3_divides 0 = .ok (.iload_n 1, 1) := by decide +kernel
theorem dX3_divides_1 : decode cX3_divides 1 = .ok (.invokestatic 39, 3) := by decide +kernel
theorem dX3_divides_4 : decode cX3_divides 4 = .ok (.ifCond .ne 7, 3) := by decide +kernel
theorem dX3_divides_7 : decode cX3_divides 7 = .ok (.iconst (-1), 1) := by decide +kernel
theorem dX3_divides_8 : decode cX3_divides 8 = .ok (.goto 18, 3) := by decide +kernel
theorem dX3_divides_11 : decode cX3_divides 11 = .ok (.aload_n 0, 1) := by decide +kernel
theorem dX3_divides_12 : decode cX3_divides 12 = .ok (.iload_n 1, 1) := by decide +kernel
theorem dX3_divides_13 : decode cX3_divides 13 = .ok (.invokevirtual 55, 3) := by decide +kernel
theorem dX3_divides_16 : decode cX3_divides 16 = .ok (.bipush (-9), 2) := by decide +kernel
theorem dX3_divides_18 : decode cX3_divides 18 = .ok (.if_icmp .ne 7, 3) := by decide +kernel
theorem dX3_divides_21 : decode cX3_divides 21 = .ok (.iconst 1, 1) := by decide +kernel
theorem dX3_divides_22 : decode cX3_divides 22 = .ok (.goto 4, 3) := by decide +kernel
theorem dX3_divides_25 : decode cX3_divides 25 = .ok (.iconst 0, 1) := by decide +kernel
theorem dX3_divides_26 : decode cX3_divides 26 = .ok (.ireturn, 1) := by decide +kernel
set_option maxRecDepth 20000 in
theorem ggX3_broken_X3_isSlot : GoodIn wsX3_broken wsX3_isSlot := goodIn_r _ [4, 5, 6, 3, 7] (by decide +kernel) (by decide +kernel)
set_option maxRecDepth 20000 in
theorem gX3_broken_X3_isSlot : GoodIn wsX3_broken (va_wsS RX3 39 yX3_isSlot wsX3_isSlot) := goodIn_app (goodIn_of _ (by decide +kernel)) ggX3_broken_X3_isSlot
set_option maxRecDepth 20000 in
theorem ggX3_broken_X3_firstBroken : GoodIn wsX3_broken wsX3_firstBroken := goodIn_r _ [11, 12, 13, 14, 3, 15, 16, 17, 18, 19, 20, 21, 22, 23, 24, 25, 26, 27, 28] (by decide +kernel) (by decide +kernel)
set_option maxRecDepth 20000 in
theorem gX3_broken_X3_firstBroken : GoodIn wsX3_broken (wsV RX3 55 RX3 yX3_firstBroken wsX3_firstBroken) := goodIn_app (goodIn_of _ (by decide +kernel)) ggX3_broken_X3_firstBroken
theorem dX3_broken_0 : decode cX3_broken 0 = .ok (.iload_n 1, 1) := by decide +kernel
theorem dX3_broken_1 : decode cX3_broken 1 = .ok (.invokestatic 39, 3) := by decide +kernel
theorem dX3_broken_4 : decode cX3_broken 4 = .ok (.ifCond .ne 5, 3) := by decide +kernel
theorem dX3_broken_7 : decode cX3_broken 7 = .ok (.iconst (-1), 1) := by decide +kernel
theorem dX3_broken_8 : decode cX3_broken 8 = .ok (.ireturn, 1) := by decide +kernel
theorem dX3_broken_9 : decode cX3_broken 9 = .ok (.aload_n 0, 1) := by decide +kernel
theorem dX3_broken_10 : decode cX3_broken 10 = .ok (.iload_n 1, 1) := by decide +kernel
theorem dX3_broken_11 : decode cX3_broken 11 = .ok (.invokevirtual 55, 3) := by decide +kernel
theorem dX3_broken_14 : decode cX3_broken 14 = .ok (.istore_n 3, 1) := by decide +kernel
theorem dX3_broken_15 : decode cX3_broken 15 = .ok (.iload_n 3, 1) := by decide +kernel
theorem dX3_broken_16 : decode cX3_broken 16 = .ok (.bipush (-9), 2) := by decide +kernel
theorem dX3_broken_18 : decode cX3_broken 18 = .ok (.if_icmp .ne 8, 3) := by decide +kernel
theorem dX3_broken_21 : decode cX3_broken 21 = .ok (.bipush (-9), 2) := by decide +kernel
theorem dX3_broken_23 : decode cX3_broken 23 = .ok (.goto 18, 3) := by decide +kernel
theorem dX3_broken_26 : decode cX3_broken 26 = .ok (.iload_n 2, 1) := by decide +kernel
theorem dX3_broken_27 : decode cX3_broken 27 = .ok (.ifCond .eq 10, 3) := by decide +kernel
theorem dX3_broken_30 : decode cX3_broken 30 = .ok (.iload_n 3, 1) := by decide +kernel
theorem dX3_broken_31 : decode cX3_broken 31 = .ok (.bipush 16, 2) := by decide +kernel
theorem dX3_broken_33 : decode cX3_broken 33 = .ok (.irem, 1) := by decide +kernel
theorem dX3_broken_34 : decode cX3_broken 34 = .ok (.goto 7, 3) := by decide +kernel
theorem dX3_broken_37 : decode cX3_broken 37 = .ok (.iload_n 3, 1) := by decide +kernel
theorem dX3_broken_38 : decode cX3_broken 38 = .ok (.bipush 16, 2) := by decide +kernel
theorem dX3_broken_40 : decode cX3_broken 40 = .ok (.idiv, 1) := by decide +kernel
theorem dX3_broken_41 : decode cX3_broken 41 = .ok (.ireturn, 1) := by decide +kernel
set_option maxRecDepth 20000 in
theorem ggX3_one_X3_isSlot : GoodIn wsX3_one wsX3_isSlot := goodIn_r _ [4, 5, 6, 3, 7] (by decide +kernel) (by decide +kernel)
set_option maxRecDepth 20000 in
theorem gX3_one_X3_isSlot : GoodIn wsX3_one (va_wsS RX3 39 yX3_isSlot wsX3_isSlot) := goodIn_app (goodIn_of _ (by decide +kernel)) ggX3_one_X3_isSlot
set_option maxRecDepth 20000 in
theorem ggX3_one_X3_numbers : GoodIn wsX3_one wsX3_numbers := goodIn_r _ [11, 12, 18, 19, 20, 21, 22, 23, 24] (by decide +kernel) (by decide +kernel)
set_option maxRecDepth 20000 in
theorem gX3_one_X3_numbers : GoodIn wsX3_one (wsV RX3 35 RX3 yX3_numbers wsX3_numbers) := goodIn_app (goodIn_of _ (by decide +kernel)) ggX3_one_X3_numbers
set_option maxRecDepth 20000 in
theorem ggX3_one_X3_times : GoodIn wsX3_one wsX3_times := goodIn_r _ [16, 12, 17, 18, 19, 20, 21, 22, 23, 24] (by decide +kernel) (by decide +kernel)
set_option maxRecDepth 20000 in
theorem gX3_one_X3_times : GoodIn wsX3_one (wsV RX3 51 RX3 yX3_times wsX3_times) := goodIn_app (goodIn_of _ (by decide +kernel)) ggX3_one_X3_times
theorem dX3_one_0 : decode cX3_one 0 = .ok (.iload_n 1, 1) := by decide +kernel
theorem dX3_one_1 : decode cX3_one 1 = .ok (.invokestatic 39, 3) := by decide +kernel
theorem dX3_one_4 : decode cX3_one 4 = .ok (.ifCond .ne 5, 3) := by decide +kernel
theorem dX3_one_7 : decode cX3_one 7 = .ok (.iconst (-1), 1) := by decide +kernel
theorem dX3_one_8 : decode cX3_one 8 = .ok (.ireturn, 1) := by decide +kernel
theorem dX3_one_9 : decode cX3_one 9 = .ok (.iconst 0, 1) := by decide +kernel
theorem dX3_one_10 : decode cX3_one 10 = .ok (.istore_n 2, 1) := by decide +kernel
theorem dX3_one_11 : decode cX3_one 11 = .ok (.iload_n 2, 1) := by decide +kernel
theorem dX3_one_12 : decode cX3_one 12 = .ok (.aload_n 0, 1) := by decide +kernel
theorem dX3_one_13 : decode cX3_one 13 = .ok (.iload_n 1, 1) := by decide +kernel
theorem dX3_one_14 : decode cX3_one 14 = .ok (.invokevirtual 35, 3) := by decide +kernel
theorem dX3_one_17 : decode cX3_one 17 = .ok (.if_icmp .ge 72, 3) := by decide +kernel
theorem dX3_one_20 : decode cX3_one 20 = .ok (.iconst 1, 1) := by decide +kernel
theorem dX3_one_21 : decode cX3_one 21 = .ok (.istore_n 3, 1) := by decide +kernel
theorem dX3_one_22 : decode cX3_one 22 = .ok (.iconst 0, 1) := by decide +kernel
theorem dX3_one_23 : decode cX3_one 23 = .ok (.istore 4, 2) := by decide +kernel
theorem dX3_one_25 : decode cX3_one 25 = .ok (.iload 4, 2) := by decide +kernel
theorem dX3_one_27 : decode cX3_one 27 = .ok (.aload_n 0, 1) := by decide +kernel
theorem dX3_one_28 : decode cX3_one 28 = .ok (.iload_n 1, 1) := by decide +kernel
theorem dX3_one_29 : decode cX3_one 29 = .ok (.invokevirtual 35, 3) := by decide +kernel
theorem dX3_one_32 : decode cX3_one 32 = .ok (.if_icmp .ge 45, 3) := by decide +kernel
theorem dX3_one_35 : decode cX3_one 35 = .ok (.iload_n 3, 1) := by decide +kernel
theorem dX3_one_36 : decode cX3_one 36 = .ok (.ifCond .eq 41, 3) := by decide +kernel
theorem dX3_one_39 : decode cX3_one 39 = .ok (.aload_n 0, 1) := by decide +kernel
theorem dX3_one_40 : decode cX3_one 40 = .ok (.iload_n 1, 1) := by decide +kernel
theorem dX3_one_41 : decode cX3_one 41 = .ok (.iload_n 2, 1) := by decide +kernel
theorem dX3_one_42 : decode cX3_one 42 = .ok (.iload 4, 2) := by decide +kernel
theorem dX3_one_44 : decode cX3_one 44 = .ok (.invokevirtual 51, 3) := by decide +kernel
theorem dX3_one_47 : decode cX3_one 47 = .ok (.iload 4, 2) := by decide +kernel
theorem dX3_one_49 : decode cX3_one 49 = .ok (.if_icmp .ne 20, 3) := by decide +kernel
theorem dX3_one_52 : decode cX3_one 52 = .ok (.aload_n 0, 1) := by decide +kernel
theorem dX3_one_53 : decode cX3_one 53 = .ok (.iload_n 1, 1) := by decide +kernel
theorem dX3_one_54 : decode cX3_one 54 = .ok (.iload 4, 2) := by decide +kernel
theorem dX3_one_56 : decode cX3_one 56 = .ok (.iload_n 2, 1) := by decide +kernel
theorem dX3_one_57 : decode cX3_one 57 = .ok (.invokevirtual 51, 3) := by decide +kernel
theorem dX3_one_60 : decode cX3_one 60 = .ok (.iload 4, 2) := by decide +kernel
theorem dX3_one_62 : decode cX3_one 62 = .ok (.if_icmp .ne 7, 3) := by decide +kernel
theorem dX3_one_65 : decode cX3_one 65 = .ok (.iconst 1, 1) := by decide +kernel
theorem dX3_one_66 : decode cX3_one 66 = .ok (.goto 4, 3) := by decide +kernel
theorem dX3_one_69 : decode cX3_one 69 = .ok (.iconst 0, 1) := by decide +kernel
theorem dX3_one_70 : decode cX3_one 70 = .ok (.istore_n 3, 1) := by decide +kernel
theorem dX3_one_71 : decode cX3_one 71 = .ok (.iinc 4 1, 3) := by decide +kernel
theorem dX3_one_74 : decode cX3_one 74 = .ok (.goto (-49), 3) := by decide +kernel
theorem dX3_one_77 : decode cX3_one 77 = .ok (.iload_n 3, 1) := by decide +kernel
theorem dX3_one_78 : decode cX3_one 78 = .ok (.ifCond .eq 5, 3) := by decide +kernel
theorem dX3_one_81 : decode cX3_one 81 = .ok (.iload_n 2, 1) := by decide +kernel
theorem dX3_one_82 : decode cX3_one 82 = .ok (.ireturn, 1) := by decide +kernel
theorem dX3_one_83 : decode cX3_one 83 = .ok (.iinc 2 1, 3) := by decide +kernel
theorem dX3_one_86 : decode cX3_one 86 = .ok (.goto (-75), 3) := by decide +kernel
theorem dX3_one_89 : decode cX3_one 89 = .ok (.bipush (-9), 2) := by decide +kernel
theorem dX3_one_91 : decode cX3_one 91 = .ok (.ireturn, 1) := by decide +kernel
set_option maxRecDepth 20000 in
theorem ggX3_quotient_X3_isSlot : GoodIn wsX3_quotient wsX3_isSlot := goodIn_r _ [4, 5, 6, 3, 7] (by decide +kernel) (by decide +kernel)
set_option maxRecDepth 20000 in
theorem gX3_quotient_X3_isSlot : GoodIn wsX3_quotient (va_wsS RX3 39 yX3_isSlot wsX3_isSlot) := goodIn_app (goodIn_of _ (by decide +kernel)) ggX3_quotient_X3_isSlot
set_option maxRecDepth 20000 in
theorem ggX3_quotient_X3_isNumber : GoodIn wsX3_quotient wsX3_isNumber := goodIn_r _ [11, 12, 13, 14, 3, 15, 16, 5, 6, 7, 22, 23, 24, 25, 26, 27, 28] (by decide +kernel) (by decide +kernel)
set_option maxRecDepth 20000 in
theorem gX3_quotient_X3_isNumber : GoodIn wsX3_quotient (wsV RX3 47 RX3 yX3_isNumber wsX3_isNumber) := goodIn_app (goodIn_of _ (by decide +kernel)) ggX3_quotient_X3_isNumber
set_option maxRecDepth 20000 in
theorem ggX3_quotient_X3_numbers : GoodIn wsX3_quotient wsX3_numbers := goodIn_r _ [15, 16, 22, 23, 24, 25, 26, 27, 28] (by decide +kernel) (by decide +kernel)
set_option maxRecDepth 20000 in
theorem gX3_quotient_X3_numbers : GoodIn wsX3_quotient (wsV RX3 35 RX3 yX3_numbers wsX3_numbers) := goodIn_app (goodIn_of _ (by decide +kernel)) ggX3_quotient_X3_numbers
set_option maxRecDepth 20000 in
theorem ggX3_quotient_X3_times : GoodIn wsX3_quotient wsX3_times := goodIn_r _ [20, 16, 21, 22, 23, 24, 25, 26, 27, 28] (by decide +kernel) (by decide +kernel)
set_option maxRecDepth 20000 in
theorem gX3_quotient_X3_times : GoodIn wsX3_quotient (wsV RX3 51 RX3 yX3_times wsX3_times) := goodIn_app (goodIn_of _ (by decide +kernel)) ggX3_quotient_X3_times
theorem dX3_quotient_0 : decode cX3_quotient 0 = .ok (.iload_n 1, 1) := by decide +kernel
theorem dX3_quotient_1 : decode cX3_quotient 1 = .ok (.invokestatic 39, 3) := by decide +kernel
theorem dX3_quotient_4 : decode cX3_quotient 4 = .ok (.ifCond .eq 21, 3) := by decide +kernel
theorem dX3_quotient_7 : decode cX3_quotient 7 = .ok (.aload_n 0, 1) := by decide +kernel
theorem dX3_quotient_8 : decode cX3_quotient 8 = .ok (.iload_n 1, 1) := by decide +kernel
theorem dX3_quotient_9 : decode cX3_quotient 9 = .ok (.iload_n 2, 1) := by decide +kernel
theorem dX3_quotient_10 : decode cX3_quotient 10 = .ok (.invokevirtual 47, 3) := by decide +kernel
theorem dX3_quotient_13 : decode cX3_quotient 13 = .ok (.ifCond .eq 12, 3) := by decide +kernel
theorem dX3_quotient_16 : decode cX3_quotient 16 = .ok (.aload_n 0, 1) := by decide +kernel
theorem dX3_quotient_17 : decode cX3_quotient 17 = .ok (.iload_n 1, 1) := by decide +kernel
theorem dX3_quotient_18 : decode cX3_quotient 18 = .ok (.iload_n 3, 1) := by decide +kernel
theorem dX3_quotient_19 : decode cX3_quotient 19 = .ok (.invokevirtual 47, 3) := by decide +kernel
theorem dX3_quotient_22 : decode cX3_quotient 22 = .ok (.ifCond .ne 5, 3) := by decide +kernel
theorem dX3_quotient_25 : decode cX3_quotient 25 = .ok (.iconst (-1), 1) := by decide +kernel
theorem dX3_quotient_26 : decode cX3_quotient 26 = .ok (.ireturn, 1) := by decide +kernel
theorem dX3_quotient_27 : decode cX3_quotient 27 = .ok (.bipush (-9), 2) := by decide +kernel
theorem dX3_quotient_29 : decode cX3_quotient 29 = .ok (.istore 5, 2) := by decide +kernel
theorem dX3_quotient_31 : decode cX3_quotient 31 = .ok (.iconst 0, 1) := by decide +kernel
theorem dX3_quotient_32 : decode cX3_quotient 32 = .ok (.istore 6, 2) := by decide +kernel
theorem dX3_quotient_34 : decode cX3_quotient 34 = .ok (.iconst 0, 1) := by decide +kernel
theorem dX3_quotient_35 : decode cX3_quotient 35 = .ok (.istore 7, 2) := by decide +kernel
theorem dX3_quotient_37 : decode cX3_quotient 37 = .ok (.iload 7, 2) := by decide +kernel
theorem dX3_quotient_39 : decode cX3_quotient 39 = .ok (.aload_n 0, 1) := by decide +kernel
theorem dX3_quotient_40 : decode cX3_quotient 40 = .ok (.iload_n 1, 1) := by decide +kernel
theorem dX3_quotient_41 : decode cX3_quotient 41 = .ok (.invokevirtual 35, 3) := by decide +kernel
theorem dX3_quotient_44 : decode cX3_quotient 44 = .ok (.if_icmp .ge 44, 3) := by decide +kernel
theorem dX3_quotient_47 : decode cX3_quotient 47 = .ok (.iload 4, 2) := by decide +kernel
theorem dX3_quotient_49 : decode cX3_quotient 49 = .ok (.ifCond .eq 14, 3) := by decide +kernel
theorem dX3_quotient_52 : decode cX3_quotient 52 = .ok (.aload_n 0, 1) := by decide +kernel
theorem dX3_quotient_53 : decode cX3_quotient 53 = .ok (.iload_n 1, 1) := by decide +kernel
theorem dX3_quotient_54 : decode cX3_quotient 54 = .ok (.iload_n 2, 1) := by decide +kernel
theorem dX3_quotient_55 : decode cX3_quotient 55 = .ok (.iload 7, 2) := by decide +kernel
theorem dX3_quotient_57 : decode cX3_quotient 57 = .ok (.invokevirtual 51, 3) := by decide +kernel
theorem dX3_quotient_60 : decode cX3_quotient 60 = .ok (.goto 11, 3) := by decide +kernel
theorem dX3_quotient_63 : decode cX3_quotient 63 = .ok (.aload_n 0, 1) := by decide +kernel
theorem dX3_quotient_64 : decode cX3_quotient 64 = .ok (.iload_n 1, 1) := by decide +kernel
theorem dX3_quotient_65 : decode cX3_quotient 65 = .ok (.iload 7, 2) := by decide +kernel
theorem dX3_quotient_67 : decode cX3_quotient 67 = .ok (.iload_n 2, 1) := by decide +kernel
theorem dX3_quotient_68 : decode cX3_quotient 68 = .ok (.invokevirtual 51, 3) := by decide +kernel
theorem dX3_quotient_71 : decode cX3_quotient 71 = .ok (.iload_n 3, 1) := by decide +kernel
theorem dX3_quotient_72 : decode cX3_quotient 72 = .ok (.if_icmp .ne 10, 3) := by decide +kernel
theorem dX3_quotient_75 : decode cX3_quotient 75 = .ok (.iload 7, 2) := by decide +kernel
theorem dX3_quotient_77 : decode cX3_quotient 77 = .ok (.istore 5, 2) := by decide +kernel
theorem dX3_quotient_79 : decode cX3_quotient 79 = .ok (.iinc 6 1, 3) := by decide +kernel
theorem dX3_quotient_82 : decode cX3_quotient 82 = .ok (.iinc 7 1, 3) := by decide +kernel
theorem dX3_quotient_85 : decode cX3_quotient 85 = .ok (.goto (-48), 3) := by decide +kernel
theorem dX3_quotient_88 : decode cX3_quotient 88 = .ok (.iload 6, 2) := by decide +kernel
theorem dX3_quotient_90 : decode cX3_quotient 90 = .ok (.iconst 1, 1) := by decide +kernel
theorem dX3_quotient_91 : decode cX3_quotient 91 = .ok (.if_icmp .ne 8, 3) := by decide +kernel
theorem dX3_quotient_94 : decode cX3_quotient 94 = .ok (.iload 5, 2) := by decide +kernel
theorem dX3_quotient_96 : decode cX3_quotient 96 = .ok (.goto 5, 3) := by decide +kernel
theorem dX3_quotient_99 : decode cX3_quotient 99 = .ok (.bipush (-9), 2) := by decide +kernel
theorem dX3_quotient_101 : decode cX3_quotient 101 = .ok (.ireturn, 1) := by decide +kernel
theorem dX3_bit_0 : decode cX3_bit 0 = .ok (.aload_n 0, 1) := by decide +kernel
theorem dX3_bit_1 : decode cX3_bit 1 = .ok (.getfield 13, 3) := by decide +kernel
theorem dX3_bit_4 : decode cX3_bit 4 = .ok (.bipush 16, 2) := by decide +kernel
theorem dX3_bit_6 : decode cX3_bit 6 = .ok (.iload_n 1, 1) := by decide +kernel
theorem dX3_bit_7 : decode cX3_bit 7 = .ok (.imul, 1) := by decide +kernel
theorem dX3_bit_8 : decode cX3_bit 8 = .ok (.iconst 4, 1) := by decide +kernel
theorem dX3_bit_9 : decode cX3_bit 9 = .ok (.iload_n 2, 1) := by decide +kernel
theorem dX3_bit_10 : decode cX3_bit 10 = .ok (.imul, 1) := by decide +kernel
theorem dX3_bit_11 : decode cX3_bit 11 = .ok (.iadd, 1) := by decide +kernel
theorem dX3_bit_12 : decode cX3_bit 12 = .ok (.iload_n 3, 1) := by decide +kernel
theorem dX3_bit_13 : decode cX3_bit 13 = .ok (.iadd, 1) := by decide +kernel
theorem dX3_bit_14 : decode cX3_bit 14 = .ok (.iaload, 1) := by decide +kernel
theorem dX3_bit_15 : decode cX3_bit 15 = .ok (.iload 4, 2) := by decide +kernel
theorem dX3_bit_17 : decode cX3_bit 17 = .ok (.ishr, 1) := by decide +kernel
theorem dX3_bit_18 : decode cX3_bit 18 = .ok (.iconst 1, 1) := by decide +kernel
theorem dX3_bit_19 : decode cX3_bit 19 = .ok (.iand, 1) := by decide +kernel
theorem dX3_bit_20 : decode cX3_bit 20 = .ok (.ireturn, 1) := by decide +kernel
set_option maxRecDepth 20000 in
theorem ggX3_turned_X3_bit : GoodIn wsX3_turned wsX3_bit := goodIn_r _ [5, 6, 7, 8, 9, 10, 11, 12, 13] (by decide +kernel) (by decide +kernel)
set_option maxRecDepth 20000 in
theorem gX3_turned_X3_bit : GoodIn wsX3_turned (wsV RX3 58 RX3 yX3_bit wsX3_bit) := goodIn_app (goodIn_of _ (by decide +kernel)) ggX3_turned_X3_bit
theorem dX3_turned_0 : decode cX3_turned 0 = .ok (.iload_n 2, 1) := by decide +kernel
theorem dX3_turned_1 : decode cX3_turned 1 = .ok (.tableswitch 90 0 4 #[35, 46, 57, 68, 79], 35) := by decide +kernel
theorem dX3_turned_36 : decode cX3_turned 36 = .ok (.aload_n 0, 1) := by decide +kernel
theorem dX3_turned_37 : decode cX3_turned 37 = .ok (.iload_n 1, 1) := by decide +kernel
theorem dX3_turned_38 : decode cX3_turned 38 = .ok (.iload_n 3, 1) := by decide +kernel
theorem dX3_turned_39 : decode cX3_turned 39 = .ok (.iload 4, 2) := by decide +kernel
theorem dX3_turned_41 : decode cX3_turned 41 = .ok (.iload 5, 2) := by decide +kernel
theorem dX3_turned_43 : decode cX3_turned 43 = .ok (.invokevirtual 58, 3) := by decide +kernel
theorem dX3_turned_46 : decode cX3_turned 46 = .ok (.ireturn, 1) := by decide +kernel
theorem dX3_turned_47 : decode cX3_turned 47 = .ok (.aload_n 0, 1) := by decide +kernel
theorem dX3_turned_48 : decode cX3_turned 48 = .ok (.iload_n 1, 1) := by decide +kernel
theorem dX3_turned_49 : decode cX3_turned 49 = .ok (.iload_n 3, 1) := by decide +kernel
theorem dX3_turned_50 : decode cX3_turned 50 = .ok (.iload 5, 2) := by decide +kernel
theorem dX3_turned_52 : decode cX3_turned 52 = .ok (.iload 4, 2) := by decide +kernel
theorem dX3_turned_54 : decode cX3_turned 54 = .ok (.invokevirtual 58, 3) := by decide +kernel
theorem dX3_turned_57 : decode cX3_turned 57 = .ok (.ireturn, 1) := by decide +kernel
theorem dX3_turned_58 : decode cX3_turned 58 = .ok (.aload_n 0, 1) := by decide +kernel
theorem dX3_turned_59 : decode cX3_turned 59 = .ok (.iload_n 1, 1) := by decide +kernel
theorem dX3_turned_60 : decode cX3_turned 60 = .ok (.iload 4, 2) := by decide +kernel
theorem dX3_turned_62 : decode cX3_turned 62 = .ok (.iload_n 3, 1) := by decide +kernel
theorem dX3_turned_63 : decode cX3_turned 63 = .ok (.iload 5, 2) := by decide +kernel
theorem dX3_turned_65 : decode cX3_turned 65 = .ok (.invokevirtual 58, 3) := by decide +kernel
theorem dX3_turned_68 : decode cX3_turned 68 = .ok (.ireturn, 1) := by decide +kernel
theorem dX3_turned_69 : decode cX3_turned 69 = .ok (.aload_n 0, 1) := by decide +kernel
theorem dX3_turned_70 : decode cX3_turned 70 = .ok (.iload_n 1, 1) := by decide +kernel
theorem dX3_turned_71 : decode cX3_turned 71 = .ok (.iload 4, 2) := by decide +kernel
theorem dX3_turned_73 : decode cX3_turned 73 = .ok (.iload 5, 2) := by decide +kernel
theorem dX3_turned_75 : decode cX3_turned 75 = .ok (.iload_n 3, 1) := by decide +kernel
theorem dX3_turned_76 : decode cX3_turned 76 = .ok (.invokevirtual 58, 3) := by decide +kernel
theorem dX3_turned_79 : decode cX3_turned 79 = .ok (.ireturn, 1) := by decide +kernel
theorem dX3_turned_80 : decode cX3_turned 80 = .ok (.aload_n 0, 1) := by decide +kernel
theorem dX3_turned_81 : decode cX3_turned 81 = .ok (.iload_n 1, 1) := by decide +kernel
theorem dX3_turned_82 : decode cX3_turned 82 = .ok (.iload 5, 2) := by decide +kernel
theorem dX3_turned_84 : decode cX3_turned 84 = .ok (.iload_n 3, 1) := by decide +kernel
theorem dX3_turned_85 : decode cX3_turned 85 = .ok (.iload 4, 2) := by decide +kernel
theorem dX3_turned_87 : decode cX3_turned 87 = .ok (.invokevirtual 58, 3) := by decide +kernel
theorem dX3_turned_90 : decode cX3_turned 90 = .ok (.ireturn, 1) := by decide +kernel
theorem dX3_turned_91 : decode cX3_turned 91 = .ok (.aload_n 0, 1) := by decide +kernel
theorem dX3_turned_92 : decode cX3_turned 92 = .ok (.iload_n 1, 1) := by decide +kernel
theorem dX3_turned_93 : decode cX3_turned 93 = .ok (.iload 5, 2) := by decide +kernel
theorem dX3_turned_95 : decode cX3_turned 95 = .ok (.iload 4, 2) := by decide +kernel
theorem dX3_turned_97 : decode cX3_turned 97 = .ok (.iload_n 3, 1) := by decide +kernel
theorem dX3_turned_98 : decode cX3_turned 98 = .ok (.invokevirtual 58, 3) := by decide +kernel
theorem dX3_turned_101 : decode cX3_turned 101 = .ok (.ireturn, 1) := by decide +kernel
theorem dX3_copy_0 : decode cX3_copy 0 = .ok (.aload_n 0, 1) := by decide +kernel
theorem dX3_copy_1 : decode cX3_copy 1 = .ok (.getfield 7, 3) := by decide +kernel
theorem dX3_copy_4 : decode cX3_copy 4 = .ok (.iload_n 2, 1) := by decide +kernel
theorem dX3_copy_5 : decode cX3_copy 5 = .ok (.aload_n 0, 1) := by decide +kernel
theorem dX3_copy_6 : decode cX3_copy 6 = .ok (.getfield 7, 3) := by decide +kernel
theorem dX3_copy_9 : decode cX3_copy 9 = .ok (.iload_n 1, 1) := by decide +kernel
theorem dX3_copy_10 : decode cX3_copy 10 = .ok (.iaload, 1) := by decide +kernel
theorem dX3_copy_11 : decode cX3_copy 11 = .ok (.iastore, 1) := by decide +kernel
theorem dX3_copy_12 : decode cX3_copy 12 = .ok (.iconst 0, 1) := by decide +kernel
theorem dX3_copy_13 : decode cX3_copy 13 = .ok (.istore_n 3, 1) := by decide +kernel
theorem dX3_copy_14 : decode cX3_copy 14 = .ok (.iload_n 3, 1) := by decide +kernel
theorem dX3_copy_15 : decode cX3_copy 15 = .ok (.bipush 16, 2) := by decide +kernel
theorem dX3_copy_17 : decode cX3_copy 17 = .ok (.if_icmp .ge 31, 3) := by decide +kernel
theorem dX3_copy_20 : decode cX3_copy 20 = .ok (.aload_n 0, 1) := by decide +kernel
theorem dX3_copy_21 : decode cX3_copy 21 = .ok (.getfield 13, 3) := by decide +kernel
theorem dX3_copy_24 : decode cX3_copy 24 = .ok (.bipush 16, 2) := by decide +kernel
theorem dX3_copy_26 : decode cX3_copy 26 = .ok (.iload_n 2, 1) := by decide +kernel
theorem dX3_copy_27 : decode cX3_copy 27 = .ok (.imul, 1) := by decide +kernel
theorem dX3_copy_28 : decode cX3_copy 28 = .ok (.iload_n 3, 1) := by decide +kernel
theorem dX3_copy_29 : decode cX3_copy 29 = .ok (.iadd, 1) := by decide +kernel
theorem dX3_copy_30 : decode cX3_copy 30 = .ok (.aload_n 0, 1) := by decide +kernel
theorem dX3_copy_31 : decode cX3_copy 31 = .ok (.getfield 13, 3) := by decide +kernel
theorem dX3_copy_34 : decode cX3_copy 34 = .ok (.bipush 16, 2) := by decide +kernel
theorem dX3_copy_36 : decode cX3_copy 36 = .ok (.iload_n 1, 1) := by decide +kernel
theorem dX3_copy_37 : decode cX3_copy 37 = .ok (.imul, 1) := by decide +kernel
theorem dX3_copy_38 : decode cX3_copy 38 = .ok (.iload_n 3, 1) := by decide +kernel
theorem dX3_copy_39 : decode cX3_copy 39 = .ok (.iadd, 1) := by decide +kernel
theorem dX3_copy_40 : decode cX3_copy 40 = .ok (.iaload, 1) := by decide +kernel
theorem dX3_copy_41 : decode cX3_copy 41 = .ok (.iastore, 1) := by decide +kernel
theorem dX3_copy_42 : decode cX3_copy 42 = .ok (.iinc 3 1, 3) := by decide +kernel
theorem dX3_copy_45 : decode cX3_copy 45 = .ok (.goto (-31), 3) := by decide +kernel
theorem dX3_copy_48 : decode cX3_copy 48 = .ok (.return_, 1) := by decide +kernel
set_option maxRecDepth 20000 in
theorem ggX3_turn_X3_isSlot : GoodIn wsX3_turn wsX3_isSlot := goodIn_r _ [6, 7, 8, 5, 9] (by decide +kernel) (by decide +kernel)
set_option maxRecDepth 20000 in
theorem gX3_turn_X3_isSlot : GoodIn wsX3_turn (va_wsS RX3 39 yX3_isSlot wsX3_isSlot) := goodIn_app (goodIn_of _ (by decide +kernel)) ggX3_turn_X3_isSlot
set_option maxRecDepth 20000 in
theorem ggX3_turn_X3_in : GoodIn wsX3_turn wsX3_in := goodIn_r _ [9] (by decide +kernel) (by decide +kernel)
set_option maxRecDepth 20000 in
theorem gX3_turn_X3_in : GoodIn wsX3_turn (va_wsS RX3 31 yX3_in wsX3_in) := goodIn_app (goodIn_of _ (by decide +kernel)) ggX3_turn_X3_in
set_option maxRecDepth 20000 in
theorem ggX3_turn_X3_clear : GoodIn wsX3_turn wsX3_clear := goodIn_r _ [13, 1, 2, 26, 27, 28, 29, 30, 31, 32] (by decide +kernel) (by decide +kernel)
set_option maxRecDepth 20000 in
theorem gX3_turn_X3_clear : GoodIn wsX3_turn (wsV RX3 43 RX3 yX3_clear wsX3_clear) := goodIn_app (goodIn_of _ (by decide +kernel)) ggX3_turn_X3_clear
set_option maxRecDepth 20000 in
theorem ggX3_turn_X3_turned : GoodIn wsX3_turn wsX3_turned := goodIn_r _ [17, 18, 19, 20, 5, 21, 2, 26, 27, 28, 29, 30, 31, 32] (by decide +kernel) (by decide +kernel)
set_option maxRecDepth 20000 in
theorem gX3_turn_X3_turned : GoodIn wsX3_turn (wsV RX3 62 RX3 yX3_turned wsX3_turned) := goodIn_app (goodIn_of _ (by decide +kernel)) ggX3_turn_X3_turned
set_option maxRecDepth 20000 in
theorem ggX3_turn_X3_copy : GoodIn wsX3_turn wsX3_copy := goodIn_r _ [25, 1, 2, 26, 27, 28, 29, 30, 31, 32] (by decide +kernel) (by decide +kernel)
set_option maxRecDepth 20000 in
theorem gX3_turn_X3_copy : GoodIn wsX3_turn (wsV RX3 66 RX3 yX3_copy wsX3_copy) := goodIn_app (goodIn_of _ (by decide +kernel)) ggX3_turn_X3_copy
theorem dX3_turn_0 : decode cX3_turn 0 = .ok (.iload_n 1, 1) := by decide +kernel
theorem dX3_turn_1 : decode cX3_turn 1 = .ok (.invokestatic 39, 3) := by decide +kernel
theorem dX3_turn_4 : decode cX3_turn 4 = .ok (.ifCond .eq 10, 3) := by decide +kernel
theorem dX3_turn_7 : decode cX3_turn 7 = .ok (.iload_n 2, 1) := by decide +kernel
theorem dX3_turn_8 : decode cX3_turn 8 = .ok (.invokestatic 39, 3) := by decide +kernel
theorem dX3_turn_11 : decode cX3_turn 11 = .ok (.ifCond .ne 5, 3) := by decide +kernel
theorem dX3_turn_14 : decode cX3_turn 14 = .ok (.iconst (-1), 1) := by decide +kernel
theorem dX3_turn_15 : decode cX3_turn 15 = .ok (.ireturn, 1) := by decide +kernel
theorem dX3_turn_16 : decode cX3_turn 16 = .ok (.iload_n 3, 1) := by decide +kernel
theorem dX3_turn_17 : decode cX3_turn 17 = .ok (.iconst 0, 1) := by decide +kernel
theorem dX3_turn_18 : decode cX3_turn 18 = .ok (.iconst 5, 1) := by decide +kernel
theorem dX3_turn_19 : decode cX3_turn 19 = .ok (.invokestatic 31, 3) := by decide +kernel
theorem dX3_turn_22 : decode cX3_turn 22 = .ok (.ifCond .ne 6, 3) := by decide +kernel
theorem dX3_turn_25 : decode cX3_turn 25 = .ok (.bipush (-2), 2) := by decide +kernel
theorem dX3_turn_27 : decode cX3_turn 27 = .ok (.ireturn, 1) := by decide +kernel
theorem dX3_turn_28 : decode cX3_turn 28 = .ok (.aload_n 0, 1) := by decide +kernel
theorem dX3_turn_29 : decode cX3_turn 29 = .ok (.getfield 7, 3) := by decide +kernel
theorem dX3_turn_32 : decode cX3_turn 32 = .ok (.iload_n 2, 1) := by decide +kernel
theorem dX3_turn_33 : decode cX3_turn 33 = .ok (.iaload, 1) := by decide +kernel
theorem dX3_turn_34 : decode cX3_turn 34 = .ok (.istore 4, 2) := by decide +kernel
theorem dX3_turn_36 : decode cX3_turn 36 = .ok (.aload_n 0, 1) := by decide +kernel
theorem dX3_turn_37 : decode cX3_turn 37 = .ok (.iconst 4, 1) := by decide +kernel
theorem dX3_turn_38 : decode cX3_turn 38 = .ok (.iload 4, 2) := by decide +kernel
theorem dX3_turn_40 : decode cX3_turn 40 = .ok (.invokevirtual 43, 3) := by decide +kernel
theorem dX3_turn_43 : decode cX3_turn 43 = .ok (.iconst 0, 1) := by decide +kernel
theorem dX3_turn_44 : decode cX3_turn 44 = .ok (.istore 5, 2) := by decide +kernel
theorem dX3_turn_46 : decode cX3_turn 46 = .ok (.iload 5, 2) := by decide +kernel
theorem dX3_turn_48 : decode cX3_turn 48 = .ok (.iload 4, 2) := by decide +kernel
theorem dX3_turn_50 : decode cX3_turn 50 = .ok (.if_icmp .ge 74, 3) := by decide +kernel
theorem dX3_turn_53 : decode cX3_turn 53 = .ok (.iconst 0, 1) := by decide +kernel
theorem dX3_turn_54 : decode cX3_turn 54 = .ok (.istore 6, 2) := by decide +kernel
theorem dX3_turn_56 : decode cX3_turn 56 = .ok (.iload 6, 2) := by decide +kernel
theorem dX3_turn_58 : decode cX3_turn 58 = .ok (.iload 4, 2) := by decide +kernel
theorem dX3_turn_60 : decode cX3_turn 60 = .ok (.if_icmp .ge 58, 3) := by decide +kernel
theorem dX3_turn_63 : decode cX3_turn 63 = .ok (.iconst 0, 1) := by decide +kernel
theorem dX3_turn_64 : decode cX3_turn 64 = .ok (.istore 7, 2) := by decide +kernel
theorem dX3_turn_66 : decode cX3_turn 66 = .ok (.iload 7, 2) := by decide +kernel
theorem dX3_turn_68 : decode cX3_turn 68 = .ok (.iload 4, 2) := by decide +kernel
theorem dX3_turn_70 : decode cX3_turn 70 = .ok (.if_icmp .ge 42, 3) := by decide +kernel
theorem dX3_turn_73 : decode cX3_turn 73 = .ok (.aload_n 0, 1) := by decide +kernel
theorem dX3_turn_74 : decode cX3_turn 74 = .ok (.getfield 13, 3) := by decide +kernel
theorem dX3_turn_77 : decode cX3_turn 77 = .ok (.bipush 64, 2) := by decide +kernel
theorem dX3_turn_79 : decode cX3_turn 79 = .ok (.iconst 4, 1) := by decide +kernel
theorem dX3_turn_80 : decode cX3_turn 80 = .ok (.iload 5, 2) := by decide +kernel
theorem dX3_turn_82 : decode cX3_turn 82 = .ok (.imul, 1) := by decide +kernel
theorem dX3_turn_83 : decode cX3_turn 83 = .ok (.iadd, 1) := by decide +kernel
theorem dX3_turn_84 : decode cX3_turn 84 = .ok (.iload 6, 2) := by decide +kernel
theorem dX3_turn_86 : decode cX3_turn 86 = .ok (.iadd, 1) := by decide +kernel
theorem dX3_turn_87 : decode cX3_turn 87 = .ok (.dup2, 1) := by decide +kernel
theorem dX3_turn_88 : decode cX3_turn 88 = .ok (.iaload, 1) := by decide +kernel
theorem dX3_turn_89 : decode cX3_turn 89 = .ok (.aload_n 0, 1) := by decide +kernel
theorem dX3_turn_90 : decode cX3_turn 90 = .ok (.iload_n 2, 1) := by decide +kernel
theorem dX3_turn_91 : decode cX3_turn 91 = .ok (.iload_n 3, 1) := by decide +kernel
theorem dX3_turn_92 : decode cX3_turn 92 = .ok (.iload 5, 2) := by decide +kernel
theorem dX3_turn_94 : decode cX3_turn 94 = .ok (.iload 6, 2) := by decide +kernel
theorem dX3_turn_96 : decode cX3_turn 96 = .ok (.iload 7, 2) := by decide +kernel
theorem dX3_turn_98 : decode cX3_turn 98 = .ok (.invokevirtual 62, 3) := by decide +kernel
theorem dX3_turn_101 : decode cX3_turn 101 = .ok (.iload 7, 2) := by decide +kernel
theorem dX3_turn_103 : decode cX3_turn 103 = .ok (.ishl, 1) := by decide +kernel
theorem dX3_turn_104 : decode cX3_turn 104 = .ok (.ior, 1) := by decide +kernel
theorem dX3_turn_105 : decode cX3_turn 105 = .ok (.iastore, 1) := by decide +kernel
theorem dX3_turn_106 : decode cX3_turn 106 = .ok (.iinc 7 1, 3) := by decide +kernel
theorem dX3_turn_109 : decode cX3_turn 109 = .ok (.goto (-43), 3) := by decide +kernel
theorem dX3_turn_112 : decode cX3_turn 112 = .ok (.iinc 6 1, 3) := by decide +kernel
theorem dX3_turn_115 : decode cX3_turn 115 = .ok (.goto (-59), 3) := by decide +kernel
theorem dX3_turn_118 : decode cX3_turn 118 = .ok (.iinc 5 1, 3) := by decide +kernel
theorem dX3_turn_121 : decode cX3_turn 121 = .ok (.goto (-75), 3) := by decide +kernel
theorem dX3_turn_124 : decode cX3_turn 124 = .ok (.aload_n 0, 1) := by decide +kernel
theorem dX3_turn_125 : decode cX3_turn 125 = .ok (.iconst 4, 1) := by decide +kernel
theorem dX3_turn_126 : decode cX3_turn 126 = .ok (.iload_n 1, 1) := by decide +kernel
theorem dX3_turn_127 : decode cX3_turn 127 = .ok (.invokevirtual 66, 3) := by decide +kernel
theorem dX3_turn_130 : decode cX3_turn 130 = .ok (.iconst 1, 1) := by decide +kernel
theorem dX3_turn_131 : decode cX3_turn 131 = .ok (.ireturn, 1) := by decide +kernel
set_option maxRecDepth 20000 in
theorem ggX3_joinsTwo_X3_times : GoodIn wsX3_joinsTwo wsX3_times := goodIn_r _ [5, 6, 7, 8, 9, 10, 11, 12, 13, 14] (by decide +kernel) (by decide +kernel)
set_option maxRecDepth 20000 in
theorem gX3_joinsTwo_X3_times : GoodIn wsX3_joinsTwo (wsV RX3 51 RX3 yX3_times wsX3_times) := goodIn_app (goodIn_of _ (by decide +kernel)) ggX3_joinsTwo_X3_times
theorem dX3_joinsTwo_0 : decode cX3_joinsTwo 0 = .ok (.iload 5, 2) := by decide +kernel
theorem dX3_joinsTwo_2 : decode cX3_joinsTwo 2 = .ok (.lookupswitch 100 #[(0, 26), (1, 63)], 26) := by decide +kernel
theorem dX3_joinsTwo_28 : decode cX3_joinsTwo 28 = .ok (.aload_n 0, 1) := by decide +kernel
theorem dX3_joinsTwo_29 : decode cX3_joinsTwo 29 = .ok (.iload_n 1, 1) := by decide +kernel
theorem dX3_joinsTwo_30 : decode cX3_joinsTwo 30 = .ok (.iload_n 2, 1) := by decide +kernel
theorem dX3_joinsTwo_31 : decode cX3_joinsTwo 31 = .ok (.aload_n 0, 1) := by decide +kernel
theorem dX3_joinsTwo_32 : decode cX3_joinsTwo 32 = .ok (.iload_n 1, 1) := by decide +kernel
theorem dX3_joinsTwo_33 : decode cX3_joinsTwo 33 = .ok (.iload_n 3, 1) := by decide +kernel
theorem dX3_joinsTwo_34 : decode cX3_joinsTwo 34 = .ok (.iload 4, 2) := by decide +kernel
theorem dX3_joinsTwo_36 : decode cX3_joinsTwo 36 = .ok (.invokevirtual 51, 3) := by decide +kernel
theorem dX3_joinsTwo_39 : decode cX3_joinsTwo 39 = .ok (.invokevirtual 51, 3) := by decide +kernel
theorem dX3_joinsTwo_42 : decode cX3_joinsTwo 42 = .ok (.aload_n 0, 1) := by decide +kernel
theorem dX3_joinsTwo_43 : decode cX3_joinsTwo 43 = .ok (.iload_n 1, 1) := by decide +kernel
theorem dX3_joinsTwo_44 : decode cX3_joinsTwo 44 = .ok (.aload_n 0, 1) := by decide +kernel
theorem dX3_joinsTwo_45 : decode cX3_joinsTwo 45 = .ok (.iload_n 1, 1) := by decide +kernel
theorem dX3_joinsTwo_46 : decode cX3_joinsTwo 46 = .ok (.iload_n 2, 1) := by decide +kernel
theorem dX3_joinsTwo_47 : decode cX3_joinsTwo 47 = .ok (.iload_n 3, 1) := by decide +kernel
theorem dX3_joinsTwo_48 : decode cX3_joinsTwo 48 = .ok (.invokevirtual 51, 3) := by decide +kernel
theorem dX3_joinsTwo_51 : decode cX3_joinsTwo 51 = .ok (.iload 4, 2) := by decide +kernel
theorem dX3_joinsTwo_53 : decode cX3_joinsTwo 53 = .ok (.invokevirtual 51, 3) := by decide +kernel
theorem dX3_joinsTwo_56 : decode cX3_joinsTwo 56 = .ok (.if_icmp .ne 7, 3) := by decide +kernel
theorem dX3_joinsTwo_59 : decode cX3_joinsTwo 59 = .ok (.iconst 1, 1) := by decide +kernel
theorem dX3_joinsTwo_60 : decode cX3_joinsTwo 60 = .ok (.goto 4, 3) := by decide +kernel
theorem dX3_joinsTwo_63 : decode cX3_joinsTwo 63 = .ok (.iconst 0, 1) := by decide +kernel
theorem dX3_joinsTwo_64 : decode cX3_joinsTwo 64 = .ok (.ireturn, 1) := by decide +kernel
theorem dX3_joinsTwo_65 : decode cX3_joinsTwo 65 = .ok (.aload_n 0, 1) := by decide +kernel
theorem dX3_joinsTwo_66 : decode cX3_joinsTwo 66 = .ok (.iload_n 1, 1) := by decide +kernel
theorem dX3_joinsTwo_67 : decode cX3_joinsTwo 67 = .ok (.iload_n 3, 1) := by decide +kernel
theorem dX3_joinsTwo_68 : decode cX3_joinsTwo 68 = .ok (.aload_n 0, 1) := by decide +kernel
theorem dX3_joinsTwo_69 : decode cX3_joinsTwo 69 = .ok (.iload_n 1, 1) := by decide +kernel
theorem dX3_joinsTwo_70 : decode cX3_joinsTwo 70 = .ok (.iload_n 2, 1) := by decide +kernel
theorem dX3_joinsTwo_71 : decode cX3_joinsTwo 71 = .ok (.iload 4, 2) := by decide +kernel
theorem dX3_joinsTwo_73 : decode cX3_joinsTwo 73 = .ok (.invokevirtual 51, 3) := by decide +kernel
theorem dX3_joinsTwo_76 : decode cX3_joinsTwo 76 = .ok (.invokevirtual 51, 3) := by decide +kernel
theorem dX3_joinsTwo_79 : decode cX3_joinsTwo 79 = .ok (.aload_n 0, 1) := by decide +kernel
theorem dX3_joinsTwo_80 : decode cX3_joinsTwo 80 = .ok (.iload_n 1, 1) := by decide +kernel
theorem dX3_joinsTwo_81 : decode cX3_joinsTwo 81 = .ok (.aload_n 0, 1) := by decide +kernel
theorem dX3_joinsTwo_82 : decode cX3_joinsTwo 82 = .ok (.iload_n 1, 1) := by decide +kernel
theorem dX3_joinsTwo_83 : decode cX3_joinsTwo 83 = .ok (.iload_n 3, 1) := by decide +kernel
theorem dX3_joinsTwo_84 : decode cX3_joinsTwo 84 = .ok (.iload_n 2, 1) := by decide +kernel
theorem dX3_joinsTwo_85 : decode cX3_joinsTwo 85 = .ok (.invokevirtual 51, 3) := by decide +kernel
theorem dX3_joinsTwo_88 : decode cX3_joinsTwo 88 = .ok (.iload 4, 2) := by decide +kernel
theorem dX3_joinsTwo_90 : decode cX3_joinsTwo 90 = .ok (.invokevirtual 51, 3) := by decide +kernel
theorem dX3_joinsTwo_93 : decode cX3_joinsTwo 93 = .ok (.if_icmp .ne 7, 3) := by decide +kernel
theorem dX3_joinsTwo_96 : decode cX3_joinsTwo 96 = .ok (.iconst 1, 1) := by decide +kernel
theorem dX3_joinsTwo_97 : decode cX3_joinsTwo 97 = .ok (.goto 4, 3) := by decide +kernel
theorem dX3_joinsTwo_100 : decode cX3_joinsTwo 100 = .ok (.iconst 0, 1) := by decide +kernel
theorem dX3_joinsTwo_101 : decode cX3_joinsTwo 101 = .ok (.ireturn, 1) := by decide +kernel
theorem dX3_joinsTwo_102 : decode cX3_joinsTwo 102 = .ok (.aload_n 0, 1) := by decide +kernel
theorem dX3_joinsTwo_103 : decode cX3_joinsTwo 103 = .ok (.iload_n 1, 1) := by decide +kernel
theorem dX3_joinsTwo_104 : decode cX3_joinsTwo 104 = .ok (.iload_n 3, 1) := by decide +kernel
theorem dX3_joinsTwo_105 : decode cX3_joinsTwo 105 = .ok (.aload_n 0, 1) := by decide +kernel
theorem dX3_joinsTwo_106 : decode cX3_joinsTwo 106 = .ok (.iload_n 1, 1) := by decide +kernel
theorem dX3_joinsTwo_107 : decode cX3_joinsTwo 107 = .ok (.iload 4, 2) := by decide +kernel
theorem dX3_joinsTwo_109 : decode cX3_joinsTwo 109 = .ok (.iload_n 2, 1) := by decide +kernel
theorem dX3_joinsTwo_110 : decode cX3_joinsTwo 110 = .ok (.invokevirtual 51, 3) := by decide +kernel
theorem dX3_joinsTwo_113 : decode cX3_joinsTwo 113 = .ok (.invokevirtual 51, 3) := by decide +kernel
theorem dX3_joinsTwo_116 : decode cX3_joinsTwo 116 = .ok (.aload_n 0, 1) := by decide +kernel
theorem dX3_joinsTwo_117 : decode cX3_joinsTwo 117 = .ok (.iload_n 1, 1) := by decide +kernel
theorem dX3_joinsTwo_118 : decode cX3_joinsTwo 118 = .ok (.aload_n 0, 1) := by decide +kernel
theorem dX3_joinsTwo_119 : decode cX3_joinsTwo 119 = .ok (.iload_n 1, 1) := by decide +kernel
theorem dX3_joinsTwo_120 : decode cX3_joinsTwo 120 = .ok (.iload_n 3, 1) := by decide +kernel
theorem dX3_joinsTwo_121 : decode cX3_joinsTwo 121 = .ok (.iload 4, 2) := by decide +kernel
theorem dX3_joinsTwo_123 : decode cX3_joinsTwo 123 = .ok (.invokevirtual 51, 3) := by decide +kernel
theorem dX3_joinsTwo_126 : decode cX3_joinsTwo 126 = .ok (.iload_n 2, 1) := by decide +kernel
theorem dX3_joinsTwo_127 : decode cX3_joinsTwo 127 = .ok (.invokevirtual 51, 3) := by decide +kernel
theorem dX3_joinsTwo_130 : decode cX3_joinsTwo 130 = .ok (.if_icmp .ne 7, 3) := by decide +kernel
theorem dX3_joinsTwo_133 : decode cX3_joinsTwo 133 = .ok (.iconst 1, 1) := by decide +kernel
theorem dX3_joinsTwo_134 : decode cX3_joinsTwo 134 = .ok (.goto 4, 3) := by decide +kernel
theorem dX3_joinsTwo_137 : decode cX3_joinsTwo 137 = .ok (.iconst 0, 1) := by decide +kernel
theorem dX3_joinsTwo_138 : decode cX3_joinsTwo 138 = .ok (.ireturn, 1) := by decide +kernel
set_option maxRecDepth 20000 in
theorem ggX3_joinsAll_X3_numbers : GoodIn wsX3_joinsAll wsX3_numbers := goodIn_r _ [5, 6, 16, 17, 18, 19, 20, 21, 22] (by decide +kernel) (by decide +kernel)
set_option maxRecDepth 20000 in
theorem gX3_joinsAll_X3_numbers : GoodIn wsX3_joinsAll (wsV RX3 35 RX3 yX3_numbers wsX3_numbers) := goodIn_app (goodIn_of _ (by decide +kernel)) ggX3_joinsAll_X3_numbers
set_option maxRecDepth 20000 in
theorem ggX3_joinsAll_X3_times : GoodIn wsX3_joinsAll wsX3_times := goodIn_r _ [10, 6, 11, 16, 17, 18, 19, 20, 21, 22] (by decide +kernel) (by decide +kernel)
set_option maxRecDepth 20000 in
theorem gX3_joinsAll_X3_times : GoodIn wsX3_joinsAll (wsV RX3 51 RX3 yX3_times wsX3_times) := goodIn_app (goodIn_of _ (by decide +kernel)) ggX3_joinsAll_X3_times
set_option maxRecDepth 20000 in
theorem ggX3_joinsAll_X3_joinsTwo : GoodIn wsX3_joinsAll wsX3_joinsTwo := goodIn_r _ [15, 7, 8, 9, 4, 10, 6, 11, 16, 17, 18, 19, 20, 21, 22] (by decide +kernel) (by decide +kernel)
set_option maxRecDepth 20000 in
theorem gX3_joinsAll_X3_joinsTwo : GoodIn wsX3_joinsAll (wsV RX3 69 RX3 yX3_joinsTwo wsX3_joinsTwo) := goodIn_app (goodIn_of _ (by decide +kernel)) ggX3_joinsAll_X3_joinsTwo
theorem dX3_joinsAll_0 : decode cX3_joinsAll 0 = .ok (.iconst 1, 1) := by decide +kernel
theorem dX3_joinsAll_1 : decode cX3_joinsAll 1 = .ok (.istore 4, 2) := by decide +kernel
theorem dX3_joinsAll_3 : decode cX3_joinsAll 3 = .ok (.iconst 0, 1) := by decide +kernel
theorem dX3_joinsAll_4 : decode cX3_joinsAll 4 = .ok (.istore 5, 2) := by decide +kernel
theorem dX3_joinsAll_6 : decode cX3_joinsAll 6 = .ok (.iload 5, 2) := by decide +kernel
theorem dX3_joinsAll_8 : decode cX3_joinsAll 8 = .ok (.aload_n 0, 1) := by decide +kernel
theorem dX3_joinsAll_9 : decode cX3_joinsAll 9 = .ok (.iload_n 1, 1) := by decide +kernel
theorem dX3_joinsAll_10 : decode cX3_joinsAll 10 = .ok (.invokevirtual 35, 3) := by decide +kernel
theorem dX3_joinsAll_13 : decode cX3_joinsAll 13 = .ok (.if_icmp .ge 137, 3) := by decide +kernel
theorem dX3_joinsAll_16 : decode cX3_joinsAll 16 = .ok (.iload 4, 2) := by decide +kernel
theorem dX3_joinsAll_18 : decode cX3_joinsAll 18 = .ok (.ifCond .eq 132, 3) := by decide +kernel
theorem dX3_joinsAll_21 : decode cX3_joinsAll 21 = .ok (.iload_n 3, 1) := by decide +kernel
theorem dX3_joinsAll_22 : decode cX3_joinsAll 22 = .ok (.iconst 3, 1) := by decide +kernel
theorem dX3_joinsAll_23 : decode cX3_joinsAll 23 = .ok (.if_icmp .lt 22, 3) := by decide +kernel
theorem dX3_joinsAll_26 : decode cX3_joinsAll 26 = .ok (.aload_n 0, 1) := by decide +kernel
theorem dX3_joinsAll_27 : decode cX3_joinsAll 27 = .ok (.iload_n 1, 1) := by decide +kernel
theorem dX3_joinsAll_28 : decode cX3_joinsAll 28 = .ok (.iload_n 2, 1) := by decide +kernel
theorem dX3_joinsAll_29 : decode cX3_joinsAll 29 = .ok (.iload 5, 2) := by decide +kernel
theorem dX3_joinsAll_31 : decode cX3_joinsAll 31 = .ok (.invokevirtual 51, 3) := by decide +kernel
theorem dX3_joinsAll_34 : decode cX3_joinsAll 34 = .ok (.aload_n 0, 1) := by decide +kernel
theorem dX3_joinsAll_35 : decode cX3_joinsAll 35 = .ok (.iload_n 1, 1) := by decide +kernel
theorem dX3_joinsAll_36 : decode cX3_joinsAll 36 = .ok (.iload 5, 2) := by decide +kernel
theorem dX3_joinsAll_38 : decode cX3_joinsAll 38 = .ok (.iload_n 2, 1) := by decide +kernel
theorem dX3_joinsAll_39 : decode cX3_joinsAll 39 = .ok (.invokevirtual 51, 3) := by decide +kernel
theorem dX3_joinsAll_42 : decode cX3_joinsAll 42 = .ok (.if_icmp .ne 7, 3) := by decide +kernel
theorem dX3_joinsAll_45 : decode cX3_joinsAll 45 = .ok (.iconst 1, 1) := by decide +kernel
theorem dX3_joinsAll_46 : decode cX3_joinsAll 46 = .ok (.goto 4, 3) := by decide +kernel
theorem dX3_joinsAll_49 : decode cX3_joinsAll 49 = .ok (.iconst 0, 1) := by decide +kernel
theorem dX3_joinsAll_50 : decode cX3_joinsAll 50 = .ok (.istore 4, 2) := by decide +kernel
theorem dX3_joinsAll_52 : decode cX3_joinsAll 52 = .ok (.iconst 0, 1) := by decide +kernel
theorem dX3_joinsAll_53 : decode cX3_joinsAll 53 = .ok (.istore 6, 2) := by decide +kernel
theorem dX3_joinsAll_55 : decode cX3_joinsAll 55 = .ok (.iload 6, 2) := by decide +kernel
theorem dX3_joinsAll_57 : decode cX3_joinsAll 57 = .ok (.aload_n 0, 1) := by decide +kernel
theorem dX3_joinsAll_58 : decode cX3_joinsAll 58 = .ok (.iload_n 1, 1) := by decide +kernel
theorem dX3_joinsAll_59 : decode cX3_joinsAll 59 = .ok (.invokevirtual 35, 3) := by decide +kernel
theorem dX3_joinsAll_62 : decode cX3_joinsAll 62 = .ok (.if_icmp .ge 82, 3) := by decide +kernel
theorem dX3_joinsAll_65 : decode cX3_joinsAll 65 = .ok (.iload 4, 2) := by decide +kernel
theorem dX3_joinsAll_67 : decode cX3_joinsAll 67 = .ok (.ifCond .eq 77, 3) := by decide +kernel
theorem dX3_joinsAll_70 : decode cX3_joinsAll 70 = .ok (.iload_n 3, 1) := by decide +kernel
theorem dX3_joinsAll_71 : decode cX3_joinsAll 71 = .ok (.iconst 3, 1) := by decide +kernel
theorem dX3_joinsAll_72 : decode cX3_joinsAll 72 = .ok (.if_icmp .ne 53, 3) := by decide +kernel
theorem dX3_joinsAll_75 : decode cX3_joinsAll 75 = .ok (.aload_n 0, 1) := by decide +kernel
theorem dX3_joinsAll_76 : decode cX3_joinsAll 76 = .ok (.iload_n 1, 1) := by decide +kernel
theorem dX3_joinsAll_77 : decode cX3_joinsAll 77 = .ok (.iload_n 2, 1) := by decide +kernel
theorem dX3_joinsAll_78 : decode cX3_joinsAll 78 = .ok (.iload 5, 2) := by decide +kernel
theorem dX3_joinsAll_80 : decode cX3_joinsAll 80 = .ok (.iload 6, 2) := by decide +kernel
theorem dX3_joinsAll_82 : decode cX3_joinsAll 82 = .ok (.iconst 0, 1) := by decide +kernel
theorem dX3_joinsAll_83 : decode cX3_joinsAll 83 = .ok (.invokevirtual 69, 3) := by decide +kernel
theorem dX3_joinsAll_86 : decode cX3_joinsAll 86 = .ok (.ifCond .eq 35, 3) := by decide +kernel
theorem dX3_joinsAll_89 : decode cX3_joinsAll 89 = .ok (.aload_n 0, 1) := by decide +kernel
theorem dX3_joinsAll_90 : decode cX3_joinsAll 90 = .ok (.iload_n 1, 1) := by decide +kernel
theorem dX3_joinsAll_91 : decode cX3_joinsAll 91 = .ok (.iload_n 2, 1) := by decide +kernel
theorem dX3_joinsAll_92 : decode cX3_joinsAll 92 = .ok (.iload 5, 2) := by decide +kernel
theorem dX3_joinsAll_94 : decode cX3_joinsAll 94 = .ok (.iload 6, 2) := by decide +kernel
theorem dX3_joinsAll_96 : decode cX3_joinsAll 96 = .ok (.iconst 1, 1) := by decide +kernel
theorem dX3_joinsAll_97 : decode cX3_joinsAll 97 = .ok (.invokevirtual 69, 3) := by decide +kernel
theorem dX3_joinsAll_100 : decode cX3_joinsAll 100 = .ok (.ifCond .eq 21, 3) := by decide +kernel
theorem dX3_joinsAll_103 : decode cX3_joinsAll 103 = .ok (.aload_n 0, 1) := by decide +kernel
theorem dX3_joinsAll_104 : decode cX3_joinsAll 104 = .ok (.iload_n 1, 1) := by decide +kernel
theorem dX3_joinsAll_105 : decode cX3_joinsAll 105 = .ok (.iload_n 2, 1) := by decide +kernel
theorem dX3_joinsAll_106 : decode cX3_joinsAll 106 = .ok (.iload 5, 2) := by decide +kernel
theorem dX3_joinsAll_108 : decode cX3_joinsAll 108 = .ok (.iload 6, 2) := by decide +kernel
theorem dX3_joinsAll_110 : decode cX3_joinsAll 110 = .ok (.iconst 2, 1) := by decide +kernel
theorem dX3_joinsAll_111 : decode cX3_joinsAll 111 = .ok (.invokevirtual 69, 3) := by decide +kernel
theorem dX3_joinsAll_114 : decode cX3_joinsAll 114 = .ok (.ifCond .eq 7, 3) := by decide +kernel
theorem dX3_joinsAll_117 : decode cX3_joinsAll 117 = .ok (.iconst 1, 1) := by decide +kernel
theorem dX3_joinsAll_118 : decode cX3_joinsAll 118 = .ok (.goto 18, 3) := by decide +kernel
theorem dX3_joinsAll_121 : decode cX3_joinsAll 121 = .ok (.iconst 0, 1) := by decide +kernel
theorem dX3_joinsAll_122 : decode cX3_joinsAll 122 = .ok (.goto 14, 3) := by decide +kernel
theorem dX3_joinsAll_125 : decode cX3_joinsAll 125 = .ok (.aload_n 0, 1) := by decide +kernel
theorem dX3_joinsAll_126 : decode cX3_joinsAll 126 = .ok (.iload_n 1, 1) := by decide +kernel
theorem dX3_joinsAll_127 : decode cX3_joinsAll 127 = .ok (.iload_n 2, 1) := by decide +kernel
theorem dX3_joinsAll_128 : decode cX3_joinsAll 128 = .ok (.iload 5, 2) := by decide +kernel
theorem dX3_joinsAll_130 : decode cX3_joinsAll 130 = .ok (.iload 6, 2) := by decide +kernel
theorem dX3_joinsAll_132 : decode cX3_joinsAll 132 = .ok (.iload_n 3, 1) := by decide +kernel
theorem dX3_joinsAll_133 : decode cX3_joinsAll 133 = .ok (.invokevirtual 69, 3) := by decide +kernel
theorem dX3_joinsAll_136 : decode cX3_joinsAll 136 = .ok (.istore 4, 2) := by decide +kernel
theorem dX3_joinsAll_138 : decode cX3_joinsAll 138 = .ok (.iinc 6 1, 3) := by decide +kernel
theorem dX3_joinsAll_141 : decode cX3_joinsAll 141 = .ok (.goto (-86), 3) := by decide +kernel
theorem dX3_joinsAll_144 : decode cX3_joinsAll 144 = .ok (.iinc 5 1, 3) := by decide +kernel
theorem dX3_joinsAll_147 : decode cX3_joinsAll 147 = .ok (.goto (-141), 3) := by decide +kernel
theorem dX3_joinsAll_150 : decode cX3_joinsAll 150 = .ok (.iload 4, 2) := by decide +kernel
theorem dX3_joinsAll_152 : decode cX3_joinsAll 152 = .ok (.ireturn, 1) := by decide +kernel
set_option maxRecDepth 20000 in
theorem ggX3_joins_X3_isSlot : GoodIn wsX3_joins wsX3_isSlot := goodIn_r _ [4, 5, 6, 3, 7] (by decide +kernel) (by decide +kernel)
set_option maxRecDepth 20000 in
theorem gX3_joins_X3_isSlot : GoodIn wsX3_joins (va_wsS RX3 39 yX3_isSlot wsX3_isSlot) := goodIn_app (goodIn_of _ (by decide +kernel)) ggX3_joins_X3_isSlot
set_option maxRecDepth 20000 in
theorem ggX3_joins_X3_isNumber : GoodIn wsX3_joins wsX3_isNumber := goodIn_r _ [11, 12, 13, 14, 3, 15, 16, 5, 6, 7, 30, 31, 32, 33, 34, 35, 36] (by decide +kernel) (by decide +kernel)
set_option maxRecDepth 20000 in
theorem gX3_joins_X3_isNumber : GoodIn wsX3_joins (wsV RX3 47 RX3 yX3_isNumber wsX3_isNumber) := goodIn_app (goodIn_of _ (by decide +kernel)) ggX3_joins_X3_isNumber
set_option maxRecDepth 20000 in
theorem ggX3_joins_X3_in : GoodIn wsX3_joins wsX3_in := goodIn_r _ [7] (by decide +kernel) (by decide +kernel)
set_option maxRecDepth 20000 in
theorem gX3_joins_X3_in : GoodIn wsX3_joins (va_wsS RX3 31 yX3_in wsX3_in) := goodIn_app (goodIn_of _ (by decide +kernel)) ggX3_joins_X3_in
set_option maxRecDepth 20000 in
theorem ggX3_joins_X3_joinsAll : GoodIn wsX3_joins wsX3_joinsAll := goodIn_r _ [20, 12, 13, 14, 3, 15, 16, 21, 22, 23, 24, 25, 26, 27, 28, 29, 30, 31, 32, 33, 34, 35, 36] (by decide +kernel) (by decide +kernel)
set_option maxRecDepth 20000 in
theorem gX3_joins_X3_joinsAll : GoodIn wsX3_joins (wsV RX3 73 RX3 yX3_joinsAll wsX3_joinsAll) := goodIn_app (goodIn_of _ (by decide +kernel)) ggX3_joins_X3_joinsAll
theorem dX3_joins_0 : decode cX3_joins 0 = .ok (.iload_n 1, 1) := by decide +kernel
theorem dX3_joins_1 : decode cX3_joins 1 = .ok (.invokestatic 39, 3) := by decide +kernel
theorem dX3_joins_4 : decode cX3_joins 4 = .ok (.ifCond .eq 12, 3) := by decide +kernel
theorem dX3_joins_7 : decode cX3_joins 7 = .ok (.aload_n 0, 1) := by decide +kernel
theorem dX3_joins_8 : decode cX3_joins 8 = .ok (.iload_n 1, 1) := by decide +kernel
theorem dX3_joins_9 : decode cX3_joins 9 = .ok (.iload_n 2, 1) := by decide +kernel
theorem dX3_joins_10 : decode cX3_joins 10 = .ok (.invokevirtual 47, 3) := by decide +kernel
theorem dX3_joins_13 : decode cX3_joins 13 = .ok (.ifCond .ne 5, 3) := by decide +kernel
theorem dX3_joins_16 : decode cX3_joins 16 = .ok (.iconst (-1), 1) := by decide +kernel
theorem dX3_joins_17 : decode cX3_joins 17 = .ok (.ireturn, 1) := by decide +kernel
theorem dX3_joins_18 : decode cX3_joins 18 = .ok (.iload_n 3, 1) := by decide +kernel
theorem dX3_joins_19 : decode cX3_joins 19 = .ok (.iconst 0, 1) := by decide +kernel
theorem dX3_joins_20 : decode cX3_joins 20 = .ok (.iconst 3, 1) := by decide +kernel
theorem dX3_joins_21 : decode cX3_joins 21 = .ok (.invokestatic 31, 3) := by decide +kernel
theorem dX3_joins_24 : decode cX3_joins 24 = .ok (.ifCond .ne 8, 3) := by decide +kernel
theorem dX3_joins_27 : decode cX3_joins 27 = .ok (.bipush (-2), 2) := by decide +kernel
theorem dX3_joins_29 : decode cX3_joins 29 = .ok (.goto 18, 3) := by decide +kernel
theorem dX3_joins_32 : decode cX3_joins 32 = .ok (.aload_n 0, 1) := by decide +kernel
theorem dX3_joins_33 : decode cX3_joins 33 = .ok (.iload_n 1, 1) := by decide +kernel
theorem dX3_joins_34 : decode cX3_joins 34 = .ok (.iload_n 2, 1) := by decide +kernel
theorem dX3_joins_35 : decode cX3_joins 35 = .ok (.iload_n 3, 1) := by decide +kernel
theorem dX3_joins_36 : decode cX3_joins 36 = .ok (.invokevirtual 73, 3) := by decide +kernel
theorem dX3_joins_39 : decode cX3_joins 39 = .ok (.ifCond .eq 7, 3) := by decide +kernel
theorem dX3_joins_42 : decode cX3_joins 42 = .ok (.iconst 1, 1) := by decide +kernel
theorem dX3_joins_43 : decode cX3_joins 43 = .ok (.goto 4, 3) := by decide +kernel
theorem dX3_joins_46 : decode cX3_joins 46 = .ok (.iconst 0, 1) := by decide +kernel
theorem dX3_joins_47 : decode cX3_joins 47 = .ok (.ireturn, 1) := by decide +kernel
set_option maxRecDepth 20000 in
theorem ggX3_many_X3_isSlot : GoodIn wsX3_many wsX3_isSlot := goodIn_r _ [4, 5, 6, 3, 7] (by decide +kernel) (by decide +kernel)
set_option maxRecDepth 20000 in
theorem gX3_many_X3_isSlot : GoodIn wsX3_many (va_wsS RX3 39 yX3_isSlot wsX3_isSlot) := goodIn_app (goodIn_of _ (by decide +kernel)) ggX3_many_X3_isSlot
set_option maxRecDepth 20000 in
theorem ggX3_many_X3_in : GoodIn wsX3_many wsX3_in := goodIn_r _ [7] (by decide +kernel) (by decide +kernel)
set_option maxRecDepth 20000 in
theorem gX3_many_X3_in : GoodIn wsX3_many (va_wsS RX3 31 yX3_in wsX3_in) := goodIn_app (goodIn_of _ (by decide +kernel)) ggX3_many_X3_in
set_option maxRecDepth 20000 in
theorem ggX3_many_X3_numbers : GoodIn wsX3_many wsX3_numbers := goodIn_r _ [11, 12, 26, 27, 28, 29, 30, 31, 32] (by decide +kernel) (by decide +kernel)
set_option maxRecDepth 20000 in
theorem gX3_many_X3_numbers : GoodIn wsX3_many (wsV RX3 35 RX3 yX3_numbers wsX3_numbers) := goodIn_app (goodIn_of _ (by decide +kernel)) ggX3_many_X3_numbers
set_option maxRecDepth 20000 in
theorem ggX3_many_X3_joinsAll : GoodIn wsX3_many wsX3_joinsAll := goodIn_r _ [16, 8, 9, 10, 3, 11, 12, 17, 18, 19, 20, 21, 22, 23, 24, 25, 26, 27, 28, 29, 30, 31, 32] (by decide +kernel) (by decide +kernel)
set_option maxRecDepth 20000 in
theorem gX3_many_X3_joinsAll : GoodIn wsX3_many (wsV RX3 73 RX3 yX3_joinsAll wsX3_joinsAll) := goodIn_app (goodIn_of _ (by decide +kernel)) ggX3_many_X3_joinsAll
theorem dX3_many_0 : decode cX3_many 0 = .ok (.iload_n 1, 1) := by decide +kernel
theorem dX3_many_1 : decode cX3_many 1 = .ok (.invokestatic 39, 3) := by decide +kernel
theorem dX3_many_4 : decode cX3_many 4 = .ok (.ifCond .ne 5, 3) := by decide +kernel
theorem dX3_many_7 : decode cX3_many 7 = .ok (.iconst (-1), 1) := by decide +kernel
theorem dX3_many_8 : decode cX3_many 8 = .ok (.ireturn, 1) := by decide +kernel
theorem dX3_many_9 : decode cX3_many 9 = .ok (.iload_n 2, 1) := by decide +kernel
theorem dX3_many_10 : decode cX3_many 10 = .ok (.iconst 0, 1) := by decide +kernel
theorem dX3_many_11 : decode cX3_many 11 = .ok (.iconst 3, 1) := by decide +kernel
theorem dX3_many_12 : decode cX3_many 12 = .ok (.invokestatic 31, 3) := by decide +kernel
theorem dX3_many_15 : decode cX3_many 15 = .ok (.ifCond .ne 6, 3) := by decide +kernel
theorem dX3_many_18 : decode cX3_many 18 = .ok (.bipush (-2), 2) := by decide +kernel
theorem dX3_many_20 : decode cX3_many 20 = .ok (.ireturn, 1) := by decide +kernel
theorem dX3_many_21 : decode cX3_many 21 = .ok (.iconst 0, 1) := by decide +kernel
theorem dX3_many_22 : decode cX3_many 22 = .ok (.istore_n 3, 1) := by decide +kernel
theorem dX3_many_23 : decode cX3_many 23 = .ok (.iconst 0, 1) := by decide +kernel
theorem dX3_many_24 : decode cX3_many 24 = .ok (.istore 4, 2) := by decide +kernel
theorem dX3_many_26 : decode cX3_many 26 = .ok (.iload 4, 2) := by decide +kernel
theorem dX3_many_28 : decode cX3_many 28 = .ok (.aload_n 0, 1) := by decide +kernel
theorem dX3_many_29 : decode cX3_many 29 = .ok (.iload_n 1, 1) := by decide +kernel
theorem dX3_many_30 : decode cX3_many 30 = .ok (.invokevirtual 35, 3) := by decide +kernel
theorem dX3_many_33 : decode cX3_many 33 = .ok (.if_icmp .ge 28, 3) := by decide +kernel
theorem dX3_many_36 : decode cX3_many 36 = .ok (.iload_n 3, 1) := by decide +kernel
theorem dX3_many_37 : decode cX3_many 37 = .ok (.aload_n 0, 1) := by decide +kernel
theorem dX3_many_38 : decode cX3_many 38 = .ok (.iload_n 1, 1) := by decide +kernel
theorem dX3_many_39 : decode cX3_many 39 = .ok (.iload 4, 2) := by decide +kernel
theorem dX3_many_41 : decode cX3_many 41 = .ok (.iload_n 2, 1) := by decide +kernel
theorem dX3_many_42 : decode cX3_many 42 = .ok (.invokevirtual 73, 3) := by decide +kernel
theorem dX3_many_45 : decode cX3_many 45 = .ok (.ifCond .eq 7, 3) := by decide +kernel
theorem dX3_many_48 : decode cX3_many 48 = .ok (.iconst 1, 1) := by decide +kernel
theorem dX3_many_49 : decode cX3_many 49 = .ok (.goto 4, 3) := by decide +kernel
theorem dX3_many_52 : decode cX3_many 52 = .ok (.iconst 0, 1) := by decide +kernel
theorem dX3_many_53 : decode cX3_many 53 = .ok (.iadd, 1) := by decide +kernel
theorem dX3_many_54 : decode cX3_many 54 = .ok (.istore_n 3, 1) := by decide +kernel
theorem dX3_many_55 : decode cX3_many 55 = .ok (.iinc 4 1, 3) := by decide +kernel
theorem dX3_many_58 : decode cX3_many 58 = .ok (.goto (-32), 3) := by decide +kernel
theorem dX3_many_61 : decode cX3_many 61 = .ok (.iload_n 3, 1) := by decide +kernel
theorem dX3_many_62 : decode cX3_many 62 = .ok (.ireturn, 1) := by decide +kernel
set_option maxRecDepth 20000 in
theorem ggX3_unlike_X3_isSlot : GoodIn wsX3_unlike wsX3_isSlot := goodIn_r _ [4, 5, 6, 3, 7] (by decide +kernel) (by decide +kernel)
set_option maxRecDepth 20000 in
theorem gX3_unlike_X3_isSlot : GoodIn wsX3_unlike (va_wsS RX3 39 yX3_isSlot wsX3_isSlot) := goodIn_app (goodIn_of _ (by decide +kernel)) ggX3_unlike_X3_isSlot
set_option maxRecDepth 20000 in
theorem ggX3_unlike_X3_numbers : GoodIn wsX3_unlike wsX3_numbers := goodIn_r _ [11, 12, 18, 19, 20, 21, 22, 23, 24] (by decide +kernel) (by decide +kernel)
set_option maxRecDepth 20000 in
theorem gX3_unlike_X3_numbers : GoodIn wsX3_unlike (wsV RX3 35 RX3 yX3_numbers wsX3_numbers) := goodIn_app (goodIn_of _ (by decide +kernel)) ggX3_unlike_X3_numbers
set_option maxRecDepth 20000 in
theorem ggX3_unlike_X3_times : GoodIn wsX3_unlike wsX3_times := goodIn_r _ [16, 12, 17, 18, 19, 20, 21, 22, 23, 24] (by decide +kernel) (by decide +kernel)
set_option maxRecDepth 20000 in
theorem gX3_unlike_X3_times : GoodIn wsX3_unlike (wsV RX3 51 RX3 yX3_times wsX3_times) := goodIn_app (goodIn_of _ (by decide +kernel)) ggX3_unlike_X3_times
theorem dX3_unlike_0 : decode cX3_unlike 0 = .ok (.iload_n 1, 1) := by decide +kernel
theorem dX3_unlike_1 : decode cX3_unlike 1 = .ok (.invokestatic 39, 3) := by decide +kernel
theorem dX3_unlike_4 : decode cX3_unlike 4 = .ok (.ifCond .ne 5, 3) := by decide +kernel
theorem dX3_unlike_7 : decode cX3_unlike 7 = .ok (.iconst (-1), 1) := by decide +kernel
theorem dX3_unlike_8 : decode cX3_unlike 8 = .ok (.ireturn, 1) := by decide +kernel
theorem dX3_unlike_9 : decode cX3_unlike 9 = .ok (.iconst 0, 1) := by decide +kernel
theorem dX3_unlike_10 : decode cX3_unlike 10 = .ok (.istore_n 2, 1) := by decide +kernel
theorem dX3_unlike_11 : decode cX3_unlike 11 = .ok (.iconst 0, 1) := by decide +kernel
theorem dX3_unlike_12 : decode cX3_unlike 12 = .ok (.istore_n 3, 1) := by decide +kernel
theorem dX3_unlike_13 : decode cX3_unlike 13 = .ok (.iload_n 3, 1) := by decide +kernel
theorem dX3_unlike_14 : decode cX3_unlike 14 = .ok (.aload_n 0, 1) := by decide +kernel
theorem dX3_unlike_15 : decode cX3_unlike 15 = .ok (.iload_n 1, 1) := by decide +kernel
theorem dX3_unlike_16 : decode cX3_unlike 16 = .ok (.invokevirtual 35, 3) := by decide +kernel
theorem dX3_unlike_19 : decode cX3_unlike 19 = .ok (.if_icmp .ge 55, 3) := by decide +kernel
theorem dX3_unlike_22 : decode cX3_unlike 22 = .ok (.iconst 0, 1) := by decide +kernel
theorem dX3_unlike_23 : decode cX3_unlike 23 = .ok (.istore 4, 2) := by decide +kernel
theorem dX3_unlike_25 : decode cX3_unlike 25 = .ok (.iload 4, 2) := by decide +kernel
theorem dX3_unlike_27 : decode cX3_unlike 27 = .ok (.aload_n 0, 1) := by decide +kernel
theorem dX3_unlike_28 : decode cX3_unlike 28 = .ok (.iload_n 1, 1) := by decide +kernel
theorem dX3_unlike_29 : decode cX3_unlike 29 = .ok (.invokevirtual 35, 3) := by decide +kernel
theorem dX3_unlike_32 : decode cX3_unlike 32 = .ok (.if_icmp .ge 36, 3) := by decide +kernel
theorem dX3_unlike_35 : decode cX3_unlike 35 = .ok (.iload_n 2, 1) := by decide +kernel
theorem dX3_unlike_36 : decode cX3_unlike 36 = .ok (.aload_n 0, 1) := by decide +kernel
theorem dX3_unlike_37 : decode cX3_unlike 37 = .ok (.iload_n 1, 1) := by decide +kernel
theorem dX3_unlike_38 : decode cX3_unlike 38 = .ok (.iload_n 3, 1) := by decide +kernel
theorem dX3_unlike_39 : decode cX3_unlike 39 = .ok (.iload 4, 2) := by decide +kernel
theorem dX3_unlike_41 : decode cX3_unlike 41 = .ok (.invokevirtual 51, 3) := by decide +kernel
theorem dX3_unlike_44 : decode cX3_unlike 44 = .ok (.aload_n 0, 1) := by decide +kernel
theorem dX3_unlike_45 : decode cX3_unlike 45 = .ok (.iload_n 1, 1) := by decide +kernel
theorem dX3_unlike_46 : decode cX3_unlike 46 = .ok (.iload 4, 2) := by decide +kernel
theorem dX3_unlike_48 : decode cX3_unlike 48 = .ok (.iload_n 3, 1) := by decide +kernel
theorem dX3_unlike_49 : decode cX3_unlike 49 = .ok (.invokevirtual 51, 3) := by decide +kernel
theorem dX3_unlike_52 : decode cX3_unlike 52 = .ok (.if_icmp .eq 7, 3) := by decide +kernel
theorem dX3_unlike_55 : decode cX3_unlike 55 = .ok (.iconst 1, 1) := by decide +kernel
theorem dX3_unlike_56 : decode cX3_unlike 56 = .ok (.goto 4, 3) := by decide +kernel
theorem dX3_unlike_59 : decode cX3_unlike 59 = .ok (.iconst 0, 1) := by decide +kernel
theorem dX3_unlike_60 : decode cX3_unlike 60 = .ok (.iadd, 1) := by decide +kernel
theorem dX3_unlike_61 : decode cX3_unlike 61 = .ok (.istore_n 2, 1) := by decide +kernel
theorem dX3_unlike_62 : decode cX3_unlike 62 = .ok (.iinc 4 1, 3) := by decide +kernel
theorem dX3_unlike_65 : decode cX3_unlike 65 = .ok (.goto (-40), 3) := by decide +kernel
theorem dX3_unlike_68 : decode cX3_unlike 68 = .ok (.iinc 3 1, 3) := by decide +kernel
theorem dX3_unlike_71 : decode cX3_unlike 71 = .ok (.goto (-58), 3) := by decide +kernel
theorem dX3_unlike_74 : decode cX3_unlike 74 = .ok (.iload_n 2, 1) := by decide +kernel
theorem dX3_unlike_75 : decode cX3_unlike 75 = .ok (.ireturn, 1) := by decide +kernel
set_option maxRecDepth 20000 in
theorem ggX3_isMap_X3_in : GoodIn wsX3_isMap wsX3_in := goodIn_r _ [4] (by decide +kernel) (by decide +kernel)
set_option maxRecDepth 20000 in
theorem gX3_isMap_X3_in : GoodIn wsX3_isMap (va_wsS RX3 31 yX3_in wsX3_in) := goodIn_app (goodIn_of _ (by decide +kernel)) ggX3_isMap_X3_in
theorem dX3_isMap_0 : decode cX3_isMap 0 = .ok (.iload_n 0, 1) := by decide +kernel
theorem dX3_isMap_1 : decode cX3_isMap 1 = .ok (.iconst 0, 1) := by decide +kernel
theorem dX3_isMap_2 : decode cX3_isMap 2 = .ok (.iconst 2, 1) := by decide +kernel
theorem dX3_isMap_3 : decode cX3_isMap 3 = .ok (.invokestatic 31, 3) := by decide +kernel
theorem dX3_isMap_6 : decode cX3_isMap 6 = .ok (.ireturn, 1) := by decide +kernel
set_option maxRecDepth 20000 in
theorem ggX3_map_X3_isMap : GoodIn wsX3_map wsX3_isMap := goodIn_r _ [5, 6, 7, 4, 8] (by decide +kernel) (by decide +kernel)
set_option maxRecDepth 20000 in
theorem gX3_map_X3_isMap : GoodIn wsX3_map (va_wsS RX3 76 yX3_isMap wsX3_isMap) := goodIn_app (goodIn_of _ (by decide +kernel)) ggX3_map_X3_isMap
set_option maxRecDepth 20000 in
theorem ggX3_map_X3_in : GoodIn wsX3_map wsX3_in := goodIn_r _ [8] (by decide +kernel) (by decide +kernel)
set_option maxRecDepth 20000 in
theorem gX3_map_X3_in : GoodIn wsX3_map (va_wsS RX3 31 yX3_in wsX3_in) := goodIn_app (goodIn_of _ (by decide +kernel)) ggX3_map_X3_in
theorem dX3_map_0 : decode cX3_map 0 = .ok (.iload_n 1, 1) := by decide +kernel
theorem dX3_map_1 : decode cX3_map 1 = .ok (.invokestatic 76, 3) := by decide +kernel
theorem dX3_map_4 : decode cX3_map 4 = .ok (.ifCond .ne 5, 3) := by decide +kernel
theorem dX3_map_7 : decode cX3_map 7 = .ok (.iconst (-1), 1) := by decide +kernel
theorem dX3_map_8 : decode cX3_map 8 = .ok (.ireturn, 1) := by decide +kernel
theorem dX3_map_9 : decode cX3_map 9 = .ok (.iload_n 2, 1) := by decide +kernel
theorem dX3_map_10 : decode cX3_map 10 = .ok (.iconst 0, 1) := by decide +kernel
theorem dX3_map_11 : decode cX3_map 11 = .ok (.iconst 3, 1) := by decide +kernel
theorem dX3_map_12 : decode cX3_map 12 = .ok (.invokestatic 31, 3) := by decide +kernel
theorem dX3_map_15 : decode cX3_map 15 = .ok (.ifCond .eq 13, 3) := by decide +kernel
theorem dX3_map_18 : decode cX3_map 18 = .ok (.iload_n 3, 1) := by decide +kernel
theorem dX3_map_19 : decode cX3_map 19 = .ok (.iconst 0, 1) := by decide +kernel
theorem dX3_map_20 : decode cX3_map 20 = .ok (.bipush 15, 2) := by decide +kernel
theorem dX3_map_22 : decode cX3_map 22 = .ok (.invokestatic 31, 3) := by decide +kernel
theorem dX3_map_25 : decode cX3_map 25 = .ok (.ifCond .ne 6, 3) := by decide +kernel
theorem dX3_map_28 : decode cX3_map 28 = .ok (.bipush (-2), 2) := by decide +kernel
theorem dX3_map_30 : decode cX3_map 30 = .ok (.ireturn, 1) := by decide +kernel
theorem dX3_map_31 : decode cX3_map 31 = .ok (.aload_n 0, 1) := by decide +kernel
theorem dX3_map_32 : decode cX3_map 32 = .ok (.getfield 16, 3) := by decide +kernel
theorem dX3_map_35 : decode cX3_map 35 = .ok (.iconst 4, 1) := by decide +kernel
theorem dX3_map_36 : decode cX3_map 36 = .ok (.iload_n 1, 1) := by decide +kernel
theorem dX3_map_37 : decode cX3_map 37 = .ok (.imul, 1) := by decide +kernel
theorem dX3_map_38 : decode cX3_map 38 = .ok (.iload_n 2, 1) := by decide +kernel
theorem dX3_map_39 : decode cX3_map 39 = .ok (.iadd, 1) := by decide +kernel
theorem dX3_map_40 : decode cX3_map 40 = .ok (.iaload, 1) := by decide +kernel
theorem dX3_map_41 : decode cX3_map 41 = .ok (.istore 4, 2) := by decide +kernel
theorem dX3_map_43 : decode cX3_map 43 = .ok (.aload_n 0, 1) := by decide +kernel
theorem dX3_map_44 : decode cX3_map 44 = .ok (.getfield 16, 3) := by decide +kernel
theorem dX3_map_47 : decode cX3_map 47 = .ok (.iconst 4, 1) := by decide +kernel
theorem dX3_map_48 : decode cX3_map 48 = .ok (.iload_n 1, 1) := by decide +kernel
theorem dX3_map_49 : decode cX3_map 49 = .ok (.imul, 1) := by decide +kernel
theorem dX3_map_50 : decode cX3_map 50 = .ok (.iload_n 2, 1) := by decide +kernel
theorem dX3_map_51 : decode cX3_map 51 = .ok (.iadd, 1) := by decide +kernel
theorem dX3_map_52 : decode cX3_map 52 = .ok (.iload_n 3, 1) := by decide +kernel
theorem dX3_map_53 : decode cX3_map 53 = .ok (.iastore, 1) := by decide +kernel
theorem dX3_map_54 : decode cX3_map 54 = .ok (.iload 4, 2) := by decide +kernel
theorem dX3_map_56 : decode cX3_map 56 = .ok (.ireturn, 1) := by decide +kernel
theorem dX3_image_0 : decode cX3_image 0 = .ok (.iconst 0, 1) := by decide +kernel
theorem dX3_image_1 : decode cX3_image 1 = .ok (.istore_n 3, 1) := by decide +kernel
theorem dX3_image_2 : decode cX3_image 2 = .ok (.iconst 0, 1) := by decide +kernel
theorem dX3_image_3 : decode cX3_image 3 = .ok (.istore 4, 2) := by decide +kernel
theorem dX3_image_5 : decode cX3_image 5 = .ok (.iload 4, 2) := by decide +kernel
theorem dX3_image_7 : decode cX3_image 7 = .ok (.iconst 4, 1) := by decide +kernel
theorem dX3_image_8 : decode cX3_image 8 = .ok (.if_icmp .ge 37, 3) := by decide +kernel
theorem dX3_image_11 : decode cX3_image 11 = .ok (.iload_n 3, 1) := by decide +kernel
theorem dX3_image_12 : decode cX3_image 12 = .ok (.iload_n 2, 1) := by decide +kernel
theorem dX3_image_13 : decode cX3_image 13 = .ok (.iload 4, 2) := by decide +kernel
theorem dX3_image_15 : decode cX3_image 15 = .ok (.ishr, 1) := by decide +kernel
theorem dX3_image_16 : decode cX3_image 16 = .ok (.iconst 1, 1) := by decide +kernel
theorem dX3_image_17 : decode cX3_image 17 = .ok (.iand, 1) := by decide +kernel
theorem dX3_image_18 : decode cX3_image 18 = .ok (.iconst 1, 1) := by decide +kernel
theorem dX3_image_19 : decode cX3_image 19 = .ok (.if_icmp .ne 17, 3) := by decide +kernel
theorem dX3_image_22 : decode cX3_image 22 = .ok (.aload_n 0, 1) := by decide +kernel
theorem dX3_image_23 : decode cX3_image 23 = .ok (.getfield 16, 3) := by decide +kernel
theorem dX3_image_26 : decode cX3_image 26 = .ok (.iconst 4, 1) := by decide +kernel
theorem dX3_image_27 : decode cX3_image 27 = .ok (.iload_n 1, 1) := by decide +kernel
theorem dX3_image_28 : decode cX3_image 28 = .ok (.imul, 1) := by decide +kernel
theorem dX3_image_29 : decode cX3_image 29 = .ok (.iload 4, 2) := by decide +kernel
theorem dX3_image_31 : decode cX3_image 31 = .ok (.iadd, 1) := by decide +kernel
theorem dX3_image_32 : decode cX3_image 32 = .ok (.iaload, 1) := by decide +kernel
theorem dX3_image_33 : decode cX3_image 33 = .ok (.goto 4, 3) := by decide +kernel
theorem dX3_image_36 : decode cX3_image 36 = .ok (.iconst 0, 1) := by decide +kernel
theorem dX3_image_37 : decode cX3_image 37 = .ok (.ixor, 1) := by decide +kernel
theorem dX3_image_38 : decode cX3_image 38 = .ok (.istore_n 3, 1) := by decide +kernel
theorem dX3_image_39 : decode cX3_image 39 = .ok (.iinc 4 1, 3) := by decide +kernel
theorem dX3_image_42 : decode cX3_image 42 = .ok (.goto (-37), 3) := by decide +kernel
theorem dX3_image_45 : decode cX3_image 45 = .ok (.iload_n 3, 1) := by decide +kernel
theorem dX3_image_46 : decode cX3_image 46 = .ok (.ireturn, 1) := by decide +kernel
set_option maxRecDepth 20000 in
theorem ggX3_gives_X3_isMap : GoodIn wsX3_gives wsX3_isMap := goodIn_r _ [4, 5, 6, 3, 7] (by decide +kernel) (by decide +kernel)
set_option maxRecDepth 20000 in
theorem gX3_gives_X3_isMap : GoodIn wsX3_gives (va_wsS RX3 76 yX3_isMap wsX3_isMap) := goodIn_app (goodIn_of _ (by decide +kernel)) ggX3_gives_X3_isMap
set_option maxRecDepth 20000 in
theorem ggX3_gives_X3_in : GoodIn wsX3_gives wsX3_in := goodIn_r _ [7] (by decide +kernel) (by decide +kernel)
set_option maxRecDepth 20000 in
theorem gX3_gives_X3_in : GoodIn wsX3_gives (va_wsS RX3 31 yX3_in wsX3_in) := goodIn_app (goodIn_of _ (by decide +kernel)) ggX3_gives_X3_in
set_option maxRecDepth 20000 in
theorem ggX3_gives_X3_image : GoodIn wsX3_gives wsX3_image := goodIn_r _ [11, 12, 13, 14, 15, 16, 17, 18, 19] (by decide +kernel) (by decide +kernel)
set_option maxRecDepth 20000 in
theorem gX3_gives_X3_image : GoodIn wsX3_gives (wsV RX3 79 RX3 yX3_image wsX3_image) := goodIn_app (goodIn_of _ (by decide +kernel)) ggX3_gives_X3_image
theorem dX3_gives_0 : decode cX3_gives 0 = .ok (.iload_n 1, 1) := by decide +kernel
theorem dX3_gives_1 : decode cX3_gives 1 = .ok (.invokestatic 76, 3) := by decide +kernel
theorem dX3_gives_4 : decode cX3_gives 4 = .ok (.ifCond .ne 5, 3) := by decide +kernel
theorem dX3_gives_7 : decode cX3_gives 7 = .ok (.iconst (-1), 1) := by decide +kernel
theorem dX3_gives_8 : decode cX3_gives 8 = .ok (.ireturn, 1) := by decide +kernel
theorem dX3_gives_9 : decode cX3_gives 9 = .ok (.iload_n 2, 1) := by decide +kernel
theorem dX3_gives_10 : decode cX3_gives 10 = .ok (.iconst 0, 1) := by decide +kernel
theorem dX3_gives_11 : decode cX3_gives 11 = .ok (.bipush 15, 2) := by decide +kernel
theorem dX3_gives_13 : decode cX3_gives 13 = .ok (.invokestatic 31, 3) := by decide +kernel
theorem dX3_gives_16 : decode cX3_gives 16 = .ok (.ifCond .eq 12, 3) := by decide +kernel
theorem dX3_gives_19 : decode cX3_gives 19 = .ok (.aload_n 0, 1) := by decide +kernel
theorem dX3_gives_20 : decode cX3_gives 20 = .ok (.iload_n 1, 1) := by decide +kernel
theorem dX3_gives_21 : decode cX3_gives 21 = .ok (.iload_n 2, 1) := by decide +kernel
theorem dX3_gives_22 : decode cX3_gives 22 = .ok (.invokevirtual 79, 3) := by decide +kernel
theorem dX3_gives_25 : decode cX3_gives 25 = .ok (.goto 5, 3) := by decide +kernel
theorem dX3_gives_28 : decode cX3_gives 28 = .ok (.bipush (-2), 2) := by decide +kernel
theorem dX3_gives_30 : decode cX3_gives 30 = .ok (.ireturn, 1) := by decide +kernel
set_option maxRecDepth 20000 in
theorem ggX3_isFit_X3_image : GoodIn wsX3_isFit wsX3_image := goodIn_r _ [5, 6, 7, 8, 9, 10, 11, 12, 13] (by decide +kernel) (by decide +kernel)
set_option maxRecDepth 20000 in
theorem gX3_isFit_X3_image : GoodIn wsX3_isFit (wsV RX3 79 RX3 yX3_image wsX3_image) := goodIn_app (goodIn_of _ (by decide +kernel)) ggX3_isFit_X3_image
theorem dX3_isFit_0 : decode cX3_isFit 0 = .ok (.iconst 0, 1) := by decide +kernel
theorem dX3_isFit_1 : decode cX3_isFit 1 = .ok (.istore_n 3, 1) := by decide +kernel
theorem dX3_isFit_2 : decode cX3_isFit 2 = .ok (.iconst 0, 1) := by decide +kernel
theorem dX3_isFit_3 : decode cX3_isFit 3 = .ok (.istore 4, 2) := by decide +kernel
theorem dX3_isFit_5 : decode cX3_isFit 5 = .ok (.iload 4, 2) := by decide +kernel
theorem dX3_isFit_7 : decode cX3_isFit 7 = .ok (.iconst 1, 1) := by decide +kernel
theorem dX3_isFit_8 : decode cX3_isFit 8 = .ok (.iload_n 2, 1) := by decide +kernel
theorem dX3_isFit_9 : decode cX3_isFit 9 = .ok (.ishl, 1) := by decide +kernel
theorem dX3_isFit_10 : decode cX3_isFit 10 = .ok (.if_icmp .ge 21, 3) := by decide +kernel
theorem dX3_isFit_13 : decode cX3_isFit 13 = .ok (.iload_n 3, 1) := by decide +kernel
theorem dX3_isFit_14 : decode cX3_isFit 14 = .ok (.iconst 1, 1) := by decide +kernel
theorem dX3_isFit_15 : decode cX3_isFit 15 = .ok (.aload_n 0, 1) := by decide +kernel
theorem dX3_isFit_16 : decode cX3_isFit 16 = .ok (.iload_n 1, 1) := by decide +kernel
theorem dX3_isFit_17 : decode cX3_isFit 17 = .ok (.iload 4, 2) := by decide +kernel
theorem dX3_isFit_19 : decode cX3_isFit 19 = .ok (.invokevirtual 79, 3) := by decide +kernel
theorem dX3_isFit_22 : decode cX3_isFit 22 = .ok (.ishl, 1) := by decide +kernel
theorem dX3_isFit_23 : decode cX3_isFit 23 = .ok (.ior, 1) := by decide +kernel
theorem dX3_isFit_24 : decode cX3_isFit 24 = .ok (.istore_n 3, 1) := by decide +kernel
theorem dX3_isFit_25 : decode cX3_isFit 25 = .ok (.iinc 4 1, 3) := by decide +kernel
theorem dX3_isFit_28 : decode cX3_isFit 28 = .ok (.goto (-23), 3) := by decide +kernel
theorem dX3_isFit_31 : decode cX3_isFit 31 = .ok (.iload_n 3, 1) := by decide +kernel
theorem dX3_isFit_32 : decode cX3_isFit 32 = .ok (.iconst 1, 1) := by decide +kernel
theorem dX3_isFit_33 : decode cX3_isFit 33 = .ok (.iconst 1, 1) := by decide +kernel
theorem dX3_isFit_34 : decode cX3_isFit 34 = .ok (.iload_n 2, 1) := by decide +kernel
theorem dX3_isFit_35 : decode cX3_isFit 35 = .ok (.ishl, 1) := by decide +kernel
theorem dX3_isFit_36 : decode cX3_isFit 36 = .ok (.ishl, 1) := by decide +kernel
theorem dX3_isFit_37 : decode cX3_isFit 37 = .ok (.iconst 1, 1) := by decide +kernel
theorem dX3_isFit_38 : decode cX3_isFit 38 = .ok (.isub, 1) := by decide +kernel
theorem dX3_isFit_39 : decode cX3_isFit 39 = .ok (.if_icmp .ne 7, 3) := by decide +kernel
theorem dX3_isFit_42 : decode cX3_isFit 42 = .ok (.iconst 1, 1) := by decide +kernel
theorem dX3_isFit_43 : decode cX3_isFit 43 = .ok (.goto 4, 3) := by decide +kernel
theorem dX3_isFit_46 : decode cX3_isFit 46 = .ok (.iconst 0, 1) := by decide +kernel
theorem dX3_isFit_47 : decode cX3_isFit 47 = .ok (.ireturn, 1) := by decide +kernel
set_option maxRecDepth 20000 in
theorem ggX3_fits_X3_isMap : GoodIn wsX3_fits wsX3_isMap := goodIn_r _ [4, 5, 6, 3, 7] (by decide +kernel) (by decide +kernel)
set_option maxRecDepth 20000 in
theorem gX3_fits_X3_isMap : GoodIn wsX3_fits (va_wsS RX3 76 yX3_isMap wsX3_isMap) := goodIn_app (goodIn_of _ (by decide +kernel)) ggX3_fits_X3_isMap
set_option maxRecDepth 20000 in
theorem ggX3_fits_X3_in : GoodIn wsX3_fits wsX3_in := goodIn_r _ [7] (by decide +kernel) (by decide +kernel)
set_option maxRecDepth 20000 in
theorem gX3_fits_X3_in : GoodIn wsX3_fits (va_wsS RX3 31 yX3_in wsX3_in) := goodIn_app (goodIn_of _ (by decide +kernel)) ggX3_fits_X3_in
set_option maxRecDepth 20000 in
theorem ggX3_fits_X3_isFit : GoodIn wsX3_fits wsX3_isFit := goodIn_r _ [11, 12, 13, 14, 3, 15, 16, 17, 18, 19, 20, 21, 22, 23] (by decide +kernel) (by decide +kernel)
set_option maxRecDepth 20000 in
theorem gX3_fits_X3_isFit : GoodIn wsX3_fits (wsV RX3 83 RX3 yX3_isFit wsX3_isFit) := goodIn_app (goodIn_of _ (by decide +kernel)) ggX3_fits_X3_isFit
theorem dX3_fits_0 : decode cX3_fits 0 = .ok (.iload_n 1, 1) := by decide +kernel
theorem dX3_fits_1 : decode cX3_fits 1 = .ok (.invokestatic 76, 3) := by decide +kernel
theorem dX3_fits_4 : decode cX3_fits 4 = .ok (.ifCond .ne 5, 3) := by decide +kernel
theorem dX3_fits_7 : decode cX3_fits 7 = .ok (.iconst (-1), 1) := by decide +kernel
theorem dX3_fits_8 : decode cX3_fits 8 = .ok (.ireturn, 1) := by decide +kernel
theorem dX3_fits_9 : decode cX3_fits 9 = .ok (.iload_n 2, 1) := by decide +kernel
theorem dX3_fits_10 : decode cX3_fits 10 = .ok (.iconst 1, 1) := by decide +kernel
theorem dX3_fits_11 : decode cX3_fits 11 = .ok (.iconst 4, 1) := by decide +kernel
theorem dX3_fits_12 : decode cX3_fits 12 = .ok (.invokestatic 31, 3) := by decide +kernel
theorem dX3_fits_15 : decode cX3_fits 15 = .ok (.ifCond .ne 8, 3) := by decide +kernel
theorem dX3_fits_18 : decode cX3_fits 18 = .ok (.bipush (-2), 2) := by decide +kernel
theorem dX3_fits_20 : decode cX3_fits 20 = .ok (.goto 17, 3) := by decide +kernel
theorem dX3_fits_23 : decode cX3_fits 23 = .ok (.aload_n 0, 1) := by decide +kernel
theorem dX3_fits_24 : decode cX3_fits 24 = .ok (.iload_n 1, 1) := by decide +kernel
theorem dX3_fits_25 : decode cX3_fits 25 = .ok (.iload_n 2, 1) := by decide +kernel
theorem dX3_fits_26 : decode cX3_fits 26 = .ok (.invokevirtual 83, 3) := by decide +kernel
theorem dX3_fits_29 : decode cX3_fits 29 = .ok (.ifCond .eq 7, 3) := by decide +kernel
theorem dX3_fits_32 : decode cX3_fits 32 = .ok (.iconst 1, 1) := by decide +kernel
theorem dX3_fits_33 : decode cX3_fits 33 = .ok (.goto 4, 3) := by decide +kernel
theorem dX3_fits_36 : decode cX3_fits 36 = .ok (.iconst 0, 1) := by decide +kernel
theorem dX3_fits_37 : decode cX3_fits 37 = .ok (.ireturn, 1) := by decide +kernel
set_option maxRecDepth 20000 in
theorem ggX3_alike_X3_isSlot : GoodIn wsX3_alike wsX3_isSlot := goodIn_r _ [5, 6, 7, 4, 8] (by decide +kernel) (by decide +kernel)
set_option maxRecDepth 20000 in
theorem gX3_alike_X3_isSlot : GoodIn wsX3_alike (va_wsS RX3 39 yX3_isSlot wsX3_isSlot) := goodIn_app (goodIn_of _ (by decide +kernel)) ggX3_alike_X3_isSlot
set_option maxRecDepth 20000 in
theorem ggX3_alike_X3_isFit : GoodIn wsX3_alike wsX3_isFit := goodIn_r _ [12, 13, 14, 15, 4, 16, 17, 27, 28, 29, 30, 31, 32, 33] (by decide +kernel) (by decide +kernel)
set_option maxRecDepth 20000 in
theorem gX3_alike_X3_isFit : GoodIn wsX3_alike (wsV RX3 83 RX3 yX3_isFit wsX3_isFit) := goodIn_app (goodIn_of _ (by decide +kernel)) ggX3_alike_X3_isFit
set_option maxRecDepth 20000 in
theorem ggX3_alike_X3_numbers : GoodIn wsX3_alike wsX3_numbers := goodIn_r _ [21, 1, 27, 28, 29, 30, 31, 32, 33] (by decide +kernel) (by decide +kernel)
set_option maxRecDepth 20000 in
theorem gX3_alike_X3_numbers : GoodIn wsX3_alike (wsV RX3 35 RX3 yX3_numbers wsX3_numbers) := goodIn_app (goodIn_of _ (by decide +kernel)) ggX3_alike_X3_numbers
set_option maxRecDepth 20000 in
theorem ggX3_alike_X3_image : GoodIn wsX3_alike wsX3_image := goodIn_r _ [16, 17, 27, 28, 29, 30, 31, 32, 33] (by decide +kernel) (by decide +kernel)
set_option maxRecDepth 20000 in
theorem gX3_alike_X3_image : GoodIn wsX3_alike (wsV RX3 79 RX3 yX3_image wsX3_image) := goodIn_app (goodIn_of _ (by decide +kernel)) ggX3_alike_X3_image
set_option maxRecDepth 20000 in
theorem ggX3_alike_X3_times : GoodIn wsX3_alike wsX3_times := goodIn_r _ [25, 1, 26, 27, 28, 29, 30, 31, 32, 33] (by decide +kernel) (by decide +kernel)
set_option maxRecDepth 20000 in
theorem gX3_alike_X3_times : GoodIn wsX3_alike (wsV RX3 51 RX3 yX3_times wsX3_times) := goodIn_app (goodIn_of _ (by decide +kernel)) ggX3_alike_X3_times
theorem dX3_alike_0 : decode cX3_alike 0 = .ok (.iload_n 1, 1) := by decide +kernel
theorem dX3_alike_1 : decode cX3_alike 1 = .ok (.invokestatic 39, 3) := by decide +kernel
theorem dX3_alike_4 : decode cX3_alike 4 = .ok (.ifCond .eq 10, 3) := by decide +kernel
theorem dX3_alike_7 : decode cX3_alike 7 = .ok (.iload_n 2, 1) := by decide +kernel
theorem dX3_alike_8 : decode cX3_alike 8 = .ok (.invokestatic 39, 3) := by decide +kernel
theorem dX3_alike_11 : decode cX3_alike 11 = .ok (.ifCond .ne 5, 3) := by decide +kernel
theorem dX3_alike_14 : decode cX3_alike 14 = .ok (.iconst (-1), 1) := by decide +kernel
theorem dX3_alike_15 : decode cX3_alike 15 = .ok (.ireturn, 1) := by decide +kernel
theorem dX3_alike_16 : decode cX3_alike 16 = .ok (.aload_n 0, 1) := by decide +kernel
theorem dX3_alike_17 : decode cX3_alike 17 = .ok (.getfield 7, 3) := by decide +kernel
theorem dX3_alike_20 : decode cX3_alike 20 = .ok (.iload_n 1, 1) := by decide +kernel
theorem dX3_alike_21 : decode cX3_alike 21 = .ok (.iaload, 1) := by decide +kernel
theorem dX3_alike_22 : decode cX3_alike 22 = .ok (.aload_n 0, 1) := by decide +kernel
theorem dX3_alike_23 : decode cX3_alike 23 = .ok (.getfield 7, 3) := by decide +kernel
theorem dX3_alike_26 : decode cX3_alike 26 = .ok (.iload_n 2, 1) := by decide +kernel
theorem dX3_alike_27 : decode cX3_alike 27 = .ok (.iaload, 1) := by decide +kernel
theorem dX3_alike_28 : decode cX3_alike 28 = .ok (.if_icmp .eq 6, 3) := by decide +kernel
theorem dX3_alike_31 : decode cX3_alike 31 = .ok (.bipush (-3), 2) := by decide +kernel
theorem dX3_alike_33 : decode cX3_alike 33 = .ok (.ireturn, 1) := by decide +kernel
theorem dX3_alike_34 : decode cX3_alike 34 = .ok (.aload_n 0, 1) := by decide +kernel
theorem dX3_alike_35 : decode cX3_alike 35 = .ok (.iconst 0, 1) := by decide +kernel
theorem dX3_alike_36 : decode cX3_alike 36 = .ok (.aload_n 0, 1) := by decide +kernel
theorem dX3_alike_37 : decode cX3_alike 37 = .ok (.getfield 7, 3) := by decide +kernel
theorem dX3_alike_40 : decode cX3_alike 40 = .ok (.iload_n 1, 1) := by decide +kernel
theorem dX3_alike_41 : decode cX3_alike 41 = .ok (.iaload, 1) := by decide +kernel
theorem dX3_alike_42 : decode cX3_alike 42 = .ok (.invokevirtual 83, 3) := by decide +kernel
theorem dX3_alike_45 : decode cX3_alike 45 = .ok (.ifCond .eq 35, 3) := by decide +kernel
theorem dX3_alike_48 : decode cX3_alike 48 = .ok (.aload_n 0, 1) := by decide +kernel
theorem dX3_alike_49 : decode cX3_alike 49 = .ok (.iconst 1, 1) := by decide +kernel
theorem dX3_alike_50 : decode cX3_alike 50 = .ok (.aload_n 0, 1) := by decide +kernel
theorem dX3_alike_51 : decode cX3_alike 51 = .ok (.getfield 7, 3) := by decide +kernel
theorem dX3_alike_54 : decode cX3_alike 54 = .ok (.iload_n 1, 1) := by decide +kernel
theorem dX3_alike_55 : decode cX3_alike 55 = .ok (.iaload, 1) := by decide +kernel
theorem dX3_alike_56 : decode cX3_alike 56 = .ok (.invokevirtual 83, 3) := by decide +kernel
theorem dX3_alike_59 : decode cX3_alike 59 = .ok (.ifCond .eq 21, 3) := by decide +kernel
theorem dX3_alike_62 : decode cX3_alike 62 = .ok (.aload_n 0, 1) := by decide +kernel
theorem dX3_alike_63 : decode cX3_alike 63 = .ok (.iconst 2, 1) := by decide +kernel
theorem dX3_alike_64 : decode cX3_alike 64 = .ok (.aload_n 0, 1) := by decide +kernel
theorem dX3_alike_65 : decode cX3_alike 65 = .ok (.getfield 7, 3) := by decide +kernel
theorem dX3_alike_68 : decode cX3_alike 68 = .ok (.iload_n 1, 1) := by decide +kernel
theorem dX3_alike_69 : decode cX3_alike 69 = .ok (.iaload, 1) := by decide +kernel
theorem dX3_alike_70 : decode cX3_alike 70 = .ok (.invokevirtual 83, 3) := by decide +kernel
theorem dX3_alike_73 : decode cX3_alike 73 = .ok (.ifCond .eq 7, 3) := by decide +kernel
theorem dX3_alike_76 : decode cX3_alike 76 = .ok (.iconst 1, 1) := by decide +kernel
theorem dX3_alike_77 : decode cX3_alike 77 = .ok (.goto 4, 3) := by decide +kernel
theorem dX3_alike_80 : decode cX3_alike 80 = .ok (.iconst 0, 1) := by decide +kernel
theorem dX3_alike_81 : decode cX3_alike 81 = .ok (.istore_n 3, 1) := by decide +kernel
theorem dX3_alike_82 : decode cX3_alike 82 = .ok (.iconst 0, 1) := by decide +kernel
theorem dX3_alike_83 : decode cX3_alike 83 = .ok (.istore 4, 2) := by decide +kernel
theorem dX3_alike_85 : decode cX3_alike 85 = .ok (.iload 4, 2) := by decide +kernel
theorem dX3_alike_87 : decode cX3_alike 87 = .ok (.aload_n 0, 1) := by decide +kernel
theorem dX3_alike_88 : decode cX3_alike 88 = .ok (.iload_n 1, 1) := by decide +kernel
theorem dX3_alike_89 : decode cX3_alike 89 = .ok (.invokevirtual 35, 3) := by decide +kernel
theorem dX3_alike_92 : decode cX3_alike 92 = .ok (.if_icmp .ge 78, 3) := by decide +kernel
theorem dX3_alike_95 : decode cX3_alike 95 = .ok (.iload_n 3, 1) := by decide +kernel
theorem dX3_alike_96 : decode cX3_alike 96 = .ok (.ifCond .eq 74, 3) := by decide +kernel
theorem dX3_alike_99 : decode cX3_alike 99 = .ok (.iconst 0, 1) := by decide +kernel
theorem dX3_alike_100 : decode cX3_alike 100 = .ok (.istore 5, 2) := by decide +kernel
theorem dX3_alike_102 : decode cX3_alike 102 = .ok (.iload 5, 2) := by decide +kernel
theorem dX3_alike_104 : decode cX3_alike 104 = .ok (.aload_n 0, 1) := by decide +kernel
theorem dX3_alike_105 : decode cX3_alike 105 = .ok (.iload_n 1, 1) := by decide +kernel
theorem dX3_alike_106 : decode cX3_alike 106 = .ok (.invokevirtual 35, 3) := by decide +kernel
theorem dX3_alike_109 : decode cX3_alike 109 = .ok (.if_icmp .ge 55, 3) := by decide +kernel
theorem dX3_alike_112 : decode cX3_alike 112 = .ok (.iload_n 3, 1) := by decide +kernel
theorem dX3_alike_113 : decode cX3_alike 113 = .ok (.ifCond .eq 51, 3) := by decide +kernel
theorem dX3_alike_116 : decode cX3_alike 116 = .ok (.aload_n 0, 1) := by decide +kernel
theorem dX3_alike_117 : decode cX3_alike 117 = .ok (.iload_n 2, 1) := by decide +kernel
theorem dX3_alike_118 : decode cX3_alike 118 = .ok (.aload_n 0, 1) := by decide +kernel
theorem dX3_alike_119 : decode cX3_alike 119 = .ok (.iconst 0, 1) := by decide +kernel
theorem dX3_alike_120 : decode cX3_alike 120 = .ok (.iload 4, 2) := by decide +kernel
theorem dX3_alike_122 : decode cX3_alike 122 = .ok (.invokevirtual 79, 3) := by decide +kernel
theorem dX3_alike_125 : decode cX3_alike 125 = .ok (.aload_n 0, 1) := by decide +kernel
theorem dX3_alike_126 : decode cX3_alike 126 = .ok (.iconst 1, 1) := by decide +kernel
theorem dX3_alike_127 : decode cX3_alike 127 = .ok (.iload 5, 2) := by decide +kernel
theorem dX3_alike_129 : decode cX3_alike 129 = .ok (.invokevirtual 79, 3) := by decide +kernel
theorem dX3_alike_132 : decode cX3_alike 132 = .ok (.invokevirtual 51, 3) := by decide +kernel
theorem dX3_alike_135 : decode cX3_alike 135 = .ok (.aload_n 0, 1) := by decide +kernel
theorem dX3_alike_136 : decode cX3_alike 136 = .ok (.iconst 2, 1) := by decide +kernel
theorem dX3_alike_137 : decode cX3_alike 137 = .ok (.aload_n 0, 1) := by decide +kernel
theorem dX3_alike_138 : decode cX3_alike 138 = .ok (.iload_n 1, 1) := by decide +kernel
theorem dX3_alike_139 : decode cX3_alike 139 = .ok (.iload 4, 2) := by decide +kernel
theorem dX3_alike_141 : decode cX3_alike 141 = .ok (.iload 5, 2) := by decide +kernel
theorem dX3_alike_143 : decode cX3_alike 143 = .ok (.invokevirtual 51, 3) := by decide +kernel
theorem dX3_alike_146 : decode cX3_alike 146 = .ok (.invokevirtual 79, 3) := by decide +kernel
theorem dX3_alike_149 : decode cX3_alike 149 = .ok (.if_icmp .ne 7, 3) := by decide +kernel
theorem dX3_alike_152 : decode cX3_alike 152 = .ok (.iconst 1, 1) := by decide +kernel
theorem dX3_alike_153 : decode cX3_alike 153 = .ok (.goto 4, 3) := by decide +kernel
theorem dX3_alike_156 : decode cX3_alike 156 = .ok (.iconst 0, 1) := by decide +kernel
theorem dX3_alike_157 : decode cX3_alike 157 = .ok (.istore_n 3, 1) := by decide +kernel
theorem dX3_alike_158 : decode cX3_alike 158 = .ok (.iinc 5 1, 3) := by decide +kernel
theorem dX3_alike_161 : decode cX3_alike 161 = .ok (.goto (-59), 3) := by decide +kernel
theorem dX3_alike_164 : decode cX3_alike 164 = .ok (.iinc 4 1, 3) := by decide +kernel
theorem dX3_alike_167 : decode cX3_alike 167 = .ok (.goto (-82), 3) := by decide +kernel
theorem dX3_alike_170 : decode cX3_alike 170 = .ok (.iload_n 3, 1) := by decide +kernel
theorem dX3_alike_171 : decode cX3_alike 171 = .ok (.ifCond .eq 7, 3) := by decide +kernel
theorem dX3_alike_174 : decode cX3_alike 174 = .ok (.iconst 1, 1) := by decide +kernel
theorem dX3_alike_175 : decode cX3_alike 175 = .ok (.goto 4, 3) := by decide +kernel
theorem dX3_alike_178 : decode cX3_alike 178 = .ok (.iconst 0, 1) := by decide +kernel
theorem dX3_alike_179 : decode cX3_alike 179 = .ok (.ireturn, 1) := by decide +kernel
set_option maxRecDepth 20000 in
theorem ggX3_back_X3_image : GoodIn wsX3_back wsX3_image := goodIn_r _ [5, 6, 7, 8, 9, 10, 11, 12, 13] (by decide +kernel) (by decide +kernel)
set_option maxRecDepth 20000 in
theorem gX3_back_X3_image : GoodIn wsX3_back (wsV RX3 79 RX3 yX3_image wsX3_image) := goodIn_app (goodIn_of _ (by decide +kernel)) ggX3_back_X3_image
theorem dX3_back_0 : decode cX3_back 0 = .ok (.iconst 0, 1) := by decide +kernel
theorem dX3_back_1 : decode cX3_back 1 = .ok (.istore_n 3, 1) := by decide +kernel
theorem dX3_back_2 : decode cX3_back 2 = .ok (.aload_n 0, 1) := by decide +kernel
theorem dX3_back_3 : decode cX3_back 3 = .ok (.iload_n 1, 1) := by decide +kernel
theorem dX3_back_4 : decode cX3_back 4 = .ok (.iload_n 3, 1) := by decide +kernel
theorem dX3_back_5 : decode cX3_back 5 = .ok (.invokevirtual 79, 3) := by decide +kernel
theorem dX3_back_8 : decode cX3_back 8 = .ok (.iload_n 2, 1) := by decide +kernel
theorem dX3_back_9 : decode cX3_back 9 = .ok (.if_icmp .eq 9, 3) := by decide +kernel
theorem dX3_back_12 : decode cX3_back 12 = .ok (.iinc 3 1, 3) := by decide +kernel
theorem dX3_back_15 : decode cX3_back 15 = .ok (.goto (-13), 3) := by decide +kernel
theorem dX3_back_18 : decode cX3_back 18 = .ok (.iload_n 3, 1) := by decide +kernel
theorem dX3_back_19 : decode cX3_back 19 = .ok (.ireturn, 1) := by decide +kernel
set_option maxRecDepth 20000 in
theorem ggX3_carry_X3_isSlot : GoodIn wsX3_carry wsX3_isSlot := goodIn_r _ [6, 7, 8, 5, 9] (by decide +kernel) (by decide +kernel)
set_option maxRecDepth 20000 in
theorem gX3_carry_X3_isSlot : GoodIn wsX3_carry (va_wsS RX3 39 yX3_isSlot wsX3_isSlot) := goodIn_app (goodIn_of _ (by decide +kernel)) ggX3_carry_X3_isSlot
set_option maxRecDepth 20000 in
theorem ggX3_carry_X3_isFit : GoodIn wsX3_carry wsX3_isFit := goodIn_r _ [13, 14, 15, 16, 5, 17, 18, 35, 36, 37, 38, 39, 40, 41] (by decide +kernel) (by decide +kernel)
set_option maxRecDepth 20000 in
theorem gX3_carry_X3_isFit : GoodIn wsX3_carry (wsV RX3 83 RX3 yX3_isFit wsX3_isFit) := goodIn_app (goodIn_of _ (by decide +kernel)) ggX3_carry_X3_isFit
set_option maxRecDepth 20000 in
theorem ggX3_carry_X3_clear : GoodIn wsX3_carry wsX3_clear := goodIn_r _ [22, 1, 2, 35, 36, 37, 38, 39, 40, 41] (by decide +kernel) (by decide +kernel)
set_option maxRecDepth 20000 in
theorem gX3_carry_X3_clear : GoodIn wsX3_carry (wsV RX3 43 RX3 yX3_clear wsX3_clear) := goodIn_app (goodIn_of _ (by decide +kernel)) ggX3_carry_X3_clear
set_option maxRecDepth 20000 in
theorem ggX3_carry_X3_back : GoodIn wsX3_carry wsX3_back := goodIn_r _ [26, 14, 15, 16, 5, 17, 18, 35, 36, 37, 38, 39, 40, 41] (by decide +kernel) (by decide +kernel)
set_option maxRecDepth 20000 in
theorem gX3_carry_X3_back : GoodIn wsX3_carry (wsV RX3 86 RX3 yX3_back wsX3_back) := goodIn_app (goodIn_of _ (by decide +kernel)) ggX3_carry_X3_back
set_option maxRecDepth 20000 in
theorem ggX3_carry_X3_times : GoodIn wsX3_carry wsX3_times := goodIn_r _ [30, 1, 2, 35, 36, 37, 38, 39, 40, 41] (by decide +kernel) (by decide +kernel)
set_option maxRecDepth 20000 in
theorem gX3_carry_X3_times : GoodIn wsX3_carry (wsV RX3 51 RX3 yX3_times wsX3_times) := goodIn_app (goodIn_of _ (by decide +kernel)) ggX3_carry_X3_times
set_option maxRecDepth 20000 in
theorem ggX3_carry_X3_image : GoodIn wsX3_carry wsX3_image := goodIn_r _ [17, 18, 35, 36, 37, 38, 39, 40, 41] (by decide +kernel) (by decide +kernel)
set_option maxRecDepth 20000 in
theorem gX3_carry_X3_image : GoodIn wsX3_carry (wsV RX3 79 RX3 yX3_image wsX3_image) := goodIn_app (goodIn_of _ (by decide +kernel)) ggX3_carry_X3_image
set_option maxRecDepth 20000 in
theorem ggX3_carry_X3_copy : GoodIn wsX3_carry wsX3_copy := goodIn_r _ [34, 1, 2, 35, 36, 37, 38, 39, 40, 41] (by decide +kernel) (by decide +kernel)
set_option maxRecDepth 20000 in
theorem gX3_carry_X3_copy : GoodIn wsX3_carry (wsV RX3 66 RX3 yX3_copy wsX3_copy) := goodIn_app (goodIn_of _ (by decide +kernel)) ggX3_carry_X3_copy
theorem dX3_carry_0 : decode cX3_carry 0 = .ok (.iload_n 1, 1) := by decide +kernel
theorem dX3_carry_1 : decode cX3_carry 1 = .ok (.invokestatic 39, 3) := by decide +kernel
theorem dX3_carry_4 : decode cX3_carry 4 = .ok (.ifCond .eq 10, 3) := by decide +kernel
theorem dX3_carry_7 : decode cX3_carry 7 = .ok (.iload_n 2, 1) := by decide +kernel
theorem dX3_carry_8 : decode cX3_carry 8 = .ok (.invokestatic 39, 3) := by decide +kernel
theorem dX3_carry_11 : decode cX3_carry 11 = .ok (.ifCond .ne 5, 3) := by decide +kernel
theorem dX3_carry_14 : decode cX3_carry 14 = .ok (.iconst (-1), 1) := by decide +kernel
theorem dX3_carry_15 : decode cX3_carry 15 = .ok (.ireturn, 1) := by decide +kernel
theorem dX3_carry_16 : decode cX3_carry 16 = .ok (.aload_n 0, 1) := by decide +kernel
theorem dX3_carry_17 : decode cX3_carry 17 = .ok (.getfield 7, 3) := by decide +kernel
theorem dX3_carry_20 : decode cX3_carry 20 = .ok (.iload_n 2, 1) := by decide +kernel
theorem dX3_carry_21 : decode cX3_carry 21 = .ok (.iaload, 1) := by decide +kernel
theorem dX3_carry_22 : decode cX3_carry 22 = .ok (.istore_n 3, 1) := by decide +kernel
theorem dX3_carry_23 : decode cX3_carry 23 = .ok (.aload_n 0, 1) := by decide +kernel
theorem dX3_carry_24 : decode cX3_carry 24 = .ok (.iconst 0, 1) := by decide +kernel
theorem dX3_carry_25 : decode cX3_carry 25 = .ok (.iload_n 3, 1) := by decide +kernel
theorem dX3_carry_26 : decode cX3_carry 26 = .ok (.invokevirtual 83, 3) := by decide +kernel
theorem dX3_carry_29 : decode cX3_carry 29 = .ok (.ifCond .eq 21, 3) := by decide +kernel
theorem dX3_carry_32 : decode cX3_carry 32 = .ok (.aload_n 0, 1) := by decide +kernel
theorem dX3_carry_33 : decode cX3_carry 33 = .ok (.iconst 1, 1) := by decide +kernel
theorem dX3_carry_34 : decode cX3_carry 34 = .ok (.iload_n 3, 1) := by decide +kernel
theorem dX3_carry_35 : decode cX3_carry 35 = .ok (.invokevirtual 83, 3) := by decide +kernel
theorem dX3_carry_38 : decode cX3_carry 38 = .ok (.ifCond .eq 12, 3) := by decide +kernel
theorem dX3_carry_41 : decode cX3_carry 41 = .ok (.aload_n 0, 1) := by decide +kernel
theorem dX3_carry_42 : decode cX3_carry 42 = .ok (.iconst 2, 1) := by decide +kernel
theorem dX3_carry_43 : decode cX3_carry 43 = .ok (.iload_n 3, 1) := by decide +kernel
theorem dX3_carry_44 : decode cX3_carry 44 = .ok (.invokevirtual 83, 3) := by decide +kernel
theorem dX3_carry_47 : decode cX3_carry 47 = .ok (.ifCond .ne 6, 3) := by decide +kernel
theorem dX3_carry_50 : decode cX3_carry 50 = .ok (.bipush (-3), 2) := by decide +kernel
theorem dX3_carry_52 : decode cX3_carry 52 = .ok (.ireturn, 1) := by decide +kernel
theorem dX3_carry_53 : decode cX3_carry 53 = .ok (.aload_n 0, 1) := by decide +kernel
theorem dX3_carry_54 : decode cX3_carry 54 = .ok (.iconst 4, 1) := by decide +kernel
theorem dX3_carry_55 : decode cX3_carry 55 = .ok (.iload_n 3, 1) := by decide +kernel
theorem dX3_carry_56 : decode cX3_carry 56 = .ok (.invokevirtual 43, 3) := by decide +kernel
theorem dX3_carry_59 : decode cX3_carry 59 = .ok (.iconst 0, 1) := by decide +kernel
theorem dX3_carry_60 : decode cX3_carry 60 = .ok (.istore 4, 2) := by decide +kernel
theorem dX3_carry_62 : decode cX3_carry 62 = .ok (.iload 4, 2) := by decide +kernel
theorem dX3_carry_64 : decode cX3_carry 64 = .ok (.iload_n 3, 1) := by decide +kernel
theorem dX3_carry_65 : decode cX3_carry 65 = .ok (.if_icmp .ge 67, 3) := by decide +kernel
theorem dX3_carry_68 : decode cX3_carry 68 = .ok (.iconst 0, 1) := by decide +kernel
theorem dX3_carry_69 : decode cX3_carry 69 = .ok (.istore 5, 2) := by decide +kernel
theorem dX3_carry_71 : decode cX3_carry 71 = .ok (.iload 5, 2) := by decide +kernel
theorem dX3_carry_73 : decode cX3_carry 73 = .ok (.iload_n 3, 1) := by decide +kernel
theorem dX3_carry_74 : decode cX3_carry 74 = .ok (.if_icmp .ge 52, 3) := by decide +kernel
theorem dX3_carry_77 : decode cX3_carry 77 = .ok (.aload_n 0, 1) := by decide +kernel
theorem dX3_carry_78 : decode cX3_carry 78 = .ok (.getfield 13, 3) := by decide +kernel
theorem dX3_carry_81 : decode cX3_carry 81 = .ok (.bipush 64, 2) := by decide +kernel
theorem dX3_carry_83 : decode cX3_carry 83 = .ok (.iconst 4, 1) := by decide +kernel
theorem dX3_carry_84 : decode cX3_carry 84 = .ok (.iload 4, 2) := by decide +kernel
theorem dX3_carry_86 : decode cX3_carry 86 = .ok (.imul, 1) := by decide +kernel
theorem dX3_carry_87 : decode cX3_carry 87 = .ok (.iadd, 1) := by decide +kernel
theorem dX3_carry_88 : decode cX3_carry 88 = .ok (.iload 5, 2) := by decide +kernel
theorem dX3_carry_90 : decode cX3_carry 90 = .ok (.iadd, 1) := by decide +kernel
theorem dX3_carry_91 : decode cX3_carry 91 = .ok (.aload_n 0, 1) := by decide +kernel
theorem dX3_carry_92 : decode cX3_carry 92 = .ok (.iconst 2, 1) := by decide +kernel
theorem dX3_carry_93 : decode cX3_carry 93 = .ok (.aload_n 0, 1) := by decide +kernel
theorem dX3_carry_94 : decode cX3_carry 94 = .ok (.iload_n 2, 1) := by decide +kernel
theorem dX3_carry_95 : decode cX3_carry 95 = .ok (.aload_n 0, 1) := by decide +kernel
theorem dX3_carry_96 : decode cX3_carry 96 = .ok (.iconst 0, 1) := by decide +kernel
theorem dX3_carry_97 : decode cX3_carry 97 = .ok (.iconst 1, 1) := by decide +kernel
theorem dX3_carry_98 : decode cX3_carry 98 = .ok (.iload 4, 2) := by decide +kernel
theorem dX3_carry_100 : decode cX3_carry 100 = .ok (.ishl, 1) := by decide +kernel
theorem dX3_carry_101 : decode cX3_carry 101 = .ok (.invokevirtual 86, 3) := by decide +kernel
theorem dX3_carry_104 : decode cX3_carry 104 = .ok (.aload_n 0, 1) := by decide +kernel
theorem dX3_carry_105 : decode cX3_carry 105 = .ok (.iconst 1, 1) := by decide +kernel
theorem dX3_carry_106 : decode cX3_carry 106 = .ok (.iconst 1, 1) := by decide +kernel
theorem dX3_carry_107 : decode cX3_carry 107 = .ok (.iload 5, 2) := by decide +kernel
theorem dX3_carry_109 : decode cX3_carry 109 = .ok (.ishl, 1) := by decide +kernel
theorem dX3_carry_110 : decode cX3_carry 110 = .ok (.invokevirtual 86, 3) := by decide +kernel
theorem dX3_carry_113 : decode cX3_carry 113 = .ok (.invokevirtual 51, 3) := by decide +kernel
theorem dX3_carry_116 : decode cX3_carry 116 = .ok (.invokevirtual 79, 3) := by decide +kernel
theorem dX3_carry_119 : decode cX3_carry 119 = .ok (.iastore, 1) := by decide +kernel
theorem dX3_carry_120 : decode cX3_carry 120 = .ok (.iinc 5 1, 3) := by decide +kernel
theorem dX3_carry_123 : decode cX3_carry 123 = .ok (.goto (-52), 3) := by decide +kernel
theorem dX3_carry_126 : decode cX3_carry 126 = .ok (.iinc 4 1, 3) := by decide +kernel
theorem dX3_carry_129 : decode cX3_carry 129 = .ok (.goto (-67), 3) := by decide +kernel
theorem dX3_carry_132 : decode cX3_carry 132 = .ok (.aload_n 0, 1) := by decide +kernel
theorem dX3_carry_133 : decode cX3_carry 133 = .ok (.iconst 4, 1) := by decide +kernel
theorem dX3_carry_134 : decode cX3_carry 134 = .ok (.iload_n 1, 1) := by decide +kernel
theorem dX3_carry_135 : decode cX3_carry 135 = .ok (.invokevirtual 66, 3) := by decide +kernel
theorem dX3_carry_138 : decode cX3_carry 138 = .ok (.iconst 1, 1) := by decide +kernel
theorem dX3_carry_139 : decode cX3_carry 139 = .ok (.ireturn, 1) := by decide +kernel
theorem dX3_lay_0 : decode cX3_lay 0 = .ok (.iconst 0, 1) := by decide +kernel
theorem dX3_lay_1 : decode cX3_lay 1 = .ok (.istore_n 3, 1) := by decide +kernel
theorem dX3_lay_2 : decode cX3_lay 2 = .ok (.iconst 0, 1) := by decide +kernel
theorem dX3_lay_3 : decode cX3_lay 3 = .ok (.istore 4, 2) := by decide +kernel
theorem dX3_lay_5 : decode cX3_lay 5 = .ok (.iload 4, 2) := by decide +kernel
theorem dX3_lay_7 : decode cX3_lay 7 = .ok (.iconst 1, 1) := by decide +kernel
theorem dX3_lay_8 : decode cX3_lay 8 = .ok (.iload_n 2, 1) := by decide +kernel
theorem dX3_lay_9 : decode cX3_lay 9 = .ok (.ishl, 1) := by decide +kernel
theorem dX3_lay_10 : decode cX3_lay 10 = .ok (.if_icmp .ge 69, 3) := by decide +kernel
theorem dX3_lay_13 : decode cX3_lay 13 = .ok (.aload_n 0, 1) := by decide +kernel
theorem dX3_lay_14 : decode cX3_lay 14 = .ok (.iload 4, 2) := by decide +kernel
theorem dX3_lay_16 : decode cX3_lay 16 = .ok (.iconst 0, 1) := by decide +kernel
theorem dX3_lay_17 : decode cX3_lay 17 = .ok (.iastore, 1) := by decide +kernel
theorem dX3_lay_18 : decode cX3_lay 18 = .ok (.iconst 0, 1) := by decide +kernel
theorem dX3_lay_19 : decode cX3_lay 19 = .ok (.istore 5, 2) := by decide +kernel
theorem dX3_lay_21 : decode cX3_lay 21 = .ok (.iload 5, 2) := by decide +kernel
theorem dX3_lay_23 : decode cX3_lay 23 = .ok (.iload_n 2, 1) := by decide +kernel
theorem dX3_lay_24 : decode cX3_lay 24 = .ok (.if_icmp .ge 40, 3) := by decide +kernel
theorem dX3_lay_27 : decode cX3_lay 27 = .ok (.aload_n 0, 1) := by decide +kernel
theorem dX3_lay_28 : decode cX3_lay 28 = .ok (.iload 4, 2) := by decide +kernel
theorem dX3_lay_30 : decode cX3_lay 30 = .ok (.dup2, 1) := by decide +kernel
theorem dX3_lay_31 : decode cX3_lay 31 = .ok (.iaload, 1) := by decide +kernel
theorem dX3_lay_32 : decode cX3_lay 32 = .ok (.iload 4, 2) := by decide +kernel
theorem dX3_lay_34 : decode cX3_lay 34 = .ok (.iload 5, 2) := by decide +kernel
theorem dX3_lay_36 : decode cX3_lay 36 = .ok (.ishr, 1) := by decide +kernel
theorem dX3_lay_37 : decode cX3_lay 37 = .ok (.iconst 1, 1) := by decide +kernel
theorem dX3_lay_38 : decode cX3_lay 38 = .ok (.iand, 1) := by decide +kernel
theorem dX3_lay_39 : decode cX3_lay 39 = .ok (.iconst 1, 1) := by decide +kernel
theorem dX3_lay_40 : decode cX3_lay 40 = .ok (.if_icmp .ne 15, 3) := by decide +kernel
theorem dX3_lay_43 : decode cX3_lay 43 = .ok (.iload_n 1, 1) := by decide +kernel
theorem dX3_lay_44 : decode cX3_lay 44 = .ok (.iconst 3, 1) := by decide +kernel
theorem dX3_lay_45 : decode cX3_lay 45 = .ok (.iload 5, 2) := by decide +kernel
theorem dX3_lay_47 : decode cX3_lay 47 = .ok (.imul, 1) := by decide +kernel
theorem dX3_lay_48 : decode cX3_lay 48 = .ok (.ishr, 1) := by decide +kernel
theorem dX3_lay_49 : decode cX3_lay 49 = .ok (.bipush 7, 2) := by decide +kernel
theorem dX3_lay_51 : decode cX3_lay 51 = .ok (.iand, 1) := by decide +kernel
theorem dX3_lay_52 : decode cX3_lay 52 = .ok (.goto 4, 3) := by decide +kernel
theorem dX3_lay_55 : decode cX3_lay 55 = .ok (.iconst 0, 1) := by decide +kernel
theorem dX3_lay_56 : decode cX3_lay 56 = .ok (.ixor, 1) := by decide +kernel
theorem dX3_lay_57 : decode cX3_lay 57 = .ok (.iastore, 1) := by decide +kernel
theorem dX3_lay_58 : decode cX3_lay 58 = .ok (.iinc 5 1, 3) := by decide +kernel
theorem dX3_lay_61 : decode cX3_lay 61 = .ok (.goto (-40), 3) := by decide +kernel
theorem dX3_lay_64 : decode cX3_lay 64 = .ok (.iload_n 3, 1) := by decide +kernel
theorem dX3_lay_65 : decode cX3_lay 65 = .ok (.iconst 1, 1) := by decide +kernel
theorem dX3_lay_66 : decode cX3_lay 66 = .ok (.aload_n 0, 1) := by decide +kernel
theorem dX3_lay_67 : decode cX3_lay 67 = .ok (.iload 4, 2) := by decide +kernel
theorem dX3_lay_69 : decode cX3_lay 69 = .ok (.iaload, 1) := by decide +kernel
theorem dX3_lay_70 : decode cX3_lay 70 = .ok (.ishl, 1) := by decide +kernel
theorem dX3_lay_71 : decode cX3_lay 71 = .ok (.ior, 1) := by decide +kernel
theorem dX3_lay_72 : decode cX3_lay 72 = .ok (.istore_n 3, 1) := by decide +kernel
theorem dX3_lay_73 : decode cX3_lay 73 = .ok (.iinc 4 1, 3) := by decide +kernel
theorem dX3_lay_76 : decode cX3_lay 76 = .ok (.goto (-71), 3) := by decide +kernel
theorem dX3_lay_79 : decode cX3_lay 79 = .ok (.iload_n 3, 1) := by decide +kernel
theorem dX3_lay_80 : decode cX3_lay 80 = .ok (.iconst 1, 1) := by decide +kernel
theorem dX3_lay_81 : decode cX3_lay 81 = .ok (.iconst 1, 1) := by decide +kernel
theorem dX3_lay_82 : decode cX3_lay 82 = .ok (.iload_n 2, 1) := by decide +kernel
theorem dX3_lay_83 : decode cX3_lay 83 = .ok (.ishl, 1) := by decide +kernel
theorem dX3_lay_84 : decode cX3_lay 84 = .ok (.ishl, 1) := by decide +kernel
theorem dX3_lay_85 : decode cX3_lay 85 = .ok (.iconst 1, 1) := by decide +kernel
theorem dX3_lay_86 : decode cX3_lay 86 = .ok (.isub, 1) := by decide +kernel
theorem dX3_lay_87 : decode cX3_lay 87 = .ok (.if_icmp .ne 7, 3) := by decide +kernel
theorem dX3_lay_90 : decode cX3_lay 90 = .ok (.iconst 1, 1) := by decide +kernel
theorem dX3_lay_91 : decode cX3_lay 91 = .ok (.goto 4, 3) := by decide +kernel
theorem dX3_lay_94 : decode cX3_lay 94 = .ok (.iconst 0, 1) := by decide +kernel
theorem dX3_lay_95 : decode cX3_lay 95 = .ok (.ireturn, 1) := by decide +kernel
theorem dX3_hasThird_0 : decode cX3_hasThird 0 = .ok (.iconst 1, 1) := by decide +kernel
theorem dX3_hasThird_1 : decode cX3_hasThird 1 = .ok (.iload_n 1, 1) := by decide +kernel
theorem dX3_hasThird_2 : decode cX3_hasThird 2 = .ok (.ishl, 1) := by decide +kernel
theorem dX3_hasThird_3 : decode cX3_hasThird 3 = .ok (.istore_n 2, 1) := by decide +kernel
theorem dX3_hasThird_4 : decode cX3_hasThird 4 = .ok (.iconst 0, 1) := by decide +kernel
theorem dX3_hasThird_5 : decode cX3_hasThird 5 = .ok (.istore_n 3, 1) := by decide +kernel
theorem dX3_hasThird_6 : decode cX3_hasThird 6 = .ok (.iload_n 3, 1) := by decide +kernel
theorem dX3_hasThird_7 : decode cX3_hasThird 7 = .ok (.iload_n 2, 1) := by decide +kernel
theorem dX3_hasThird_8 : decode cX3_hasThird 8 = .ok (.if_icmp .ge 47, 3) := by decide +kernel
theorem dX3_hasThird_11 : decode cX3_hasThird 11 = .ok (.aload_n 0, 1) := by decide +kernel
theorem dX3_hasThird_12 : decode cX3_hasThird 12 = .ok (.getfield 28, 3) := by decide +kernel
theorem dX3_hasThird_15 : decode cX3_hasThird 15 = .ok (.aload_n 0, 1) := by decide +kernel
theorem dX3_hasThird_16 : decode cX3_hasThird 16 = .ok (.getfield 19, 3) := by decide +kernel
theorem dX3_hasThird_19 : decode cX3_hasThird 19 = .ok (.bipush 8, 2) := by decide +kernel
theorem dX3_hasThird_21 : decode cX3_hasThird 21 = .ok (.iload_n 3, 1) := by decide +kernel
theorem dX3_hasThird_22 : decode cX3_hasThird 22 = .ok (.iadd, 1) := by decide +kernel
theorem dX3_hasThird_23 : decode cX3_hasThird 23 = .ok (.iaload, 1) := by decide +kernel
theorem dX3_hasThird_24 : decode cX3_hasThird 24 = .ok (.aload_n 0, 1) := by decide +kernel
theorem dX3_hasThird_25 : decode cX3_hasThird 25 = .ok (.getfield 19, 3) := by decide +kernel
theorem dX3_hasThird_28 : decode cX3_hasThird 28 = .ok (.bipush 64, 2) := by decide +kernel
theorem dX3_hasThird_30 : decode cX3_hasThird 30 = .ok (.bipush 8, 2) := by decide +kernel
theorem dX3_hasThird_32 : decode cX3_hasThird 32 = .ok (.aload_n 0, 1) := by decide +kernel
theorem dX3_hasThird_33 : decode cX3_hasThird 33 = .ok (.getfield 22, 3) := by decide +kernel
theorem dX3_hasThird_36 : decode cX3_hasThird 36 = .ok (.iconst 1, 1) := by decide +kernel
theorem dX3_hasThird_37 : decode cX3_hasThird 37 = .ok (.iaload, 1) := by decide +kernel
theorem dX3_hasThird_38 : decode cX3_hasThird 38 = .ok (.imul, 1) := by decide +kernel
theorem dX3_hasThird_39 : decode cX3_hasThird 39 = .ok (.iadd, 1) := by decide +kernel
theorem dX3_hasThird_40 : decode cX3_hasThird 40 = .ok (.aload_n 0, 1) := by decide +kernel
theorem dX3_hasThird_41 : decode cX3_hasThird 41 = .ok (.getfield 25, 3) := by decide +kernel
theorem dX3_hasThird_44 : decode cX3_hasThird 44 = .ok (.iload_n 3, 1) := by decide +kernel
theorem dX3_hasThird_45 : decode cX3_hasThird 45 = .ok (.iaload, 1) := by decide +kernel
theorem dX3_hasThird_46 : decode cX3_hasThird 46 = .ok (.iadd, 1) := by decide +kernel
theorem dX3_hasThird_47 : decode cX3_hasThird 47 = .ok (.iaload, 1) := by decide +kernel
theorem dX3_hasThird_48 : decode cX3_hasThird 48 = .ok (.iastore, 1) := by decide +kernel
theorem dX3_hasThird_49 : decode cX3_hasThird 49 = .ok (.iinc 3 1, 3) := by decide +kernel
theorem dX3_hasThird_52 : decode cX3_hasThird 52 = .ok (.goto (-46), 3) := by decide +kernel
theorem dX3_hasThird_55 : decode cX3_hasThird 55 = .ok (.iconst 1, 1) := by decide +kernel
theorem dX3_hasThird_56 : decode cX3_hasThird 56 = .ok (.istore_n 3, 1) := by decide +kernel
theorem dX3_hasThird_57 : decode cX3_hasThird 57 = .ok (.iload_n 3, 1) := by decide +kernel
theorem dX3_hasThird_58 : decode cX3_hasThird 58 = .ok (.iload_n 2, 1) := by decide +kernel
theorem dX3_hasThird_59 : decode cX3_hasThird 59 = .ok (.if_icmp .ge 71, 3) := by decide +kernel
theorem dX3_hasThird_62 : decode cX3_hasThird 62 = .ok (.iconst 1, 1) := by decide +kernel
theorem dX3_hasThird_63 : decode cX3_hasThird 63 = .ok (.istore 4, 2) := by decide +kernel
theorem dX3_hasThird_65 : decode cX3_hasThird 65 = .ok (.iload 4, 2) := by decide +kernel
theorem dX3_hasThird_67 : decode cX3_hasThird 67 = .ok (.iload_n 2, 1) := by decide +kernel
theorem dX3_hasThird_68 : decode cX3_hasThird 68 = .ok (.if_icmp .ge 56, 3) := by decide +kernel
theorem dX3_hasThird_71 : decode cX3_hasThird 71 = .ok (.aload_n 0, 1) := by decide +kernel
theorem dX3_hasThird_72 : decode cX3_hasThird 72 = .ok (.getfield 28, 3) := by decide +kernel
theorem dX3_hasThird_75 : decode cX3_hasThird 75 = .ok (.aload_n 0, 1) := by decide +kernel
theorem dX3_hasThird_76 : decode cX3_hasThird 76 = .ok (.getfield 19, 3) := by decide +kernel
theorem dX3_hasThird_79 : decode cX3_hasThird 79 = .ok (.bipush 8, 2) := by decide +kernel
theorem dX3_hasThird_81 : decode cX3_hasThird 81 = .ok (.iload_n 3, 1) := by decide +kernel
theorem dX3_hasThird_82 : decode cX3_hasThird 82 = .ok (.imul, 1) := by decide +kernel
theorem dX3_hasThird_83 : decode cX3_hasThird 83 = .ok (.iload 4, 2) := by decide +kernel
theorem dX3_hasThird_85 : decode cX3_hasThird 85 = .ok (.iadd, 1) := by decide +kernel
theorem dX3_hasThird_86 : decode cX3_hasThird 86 = .ok (.iaload, 1) := by decide +kernel
theorem dX3_hasThird_87 : decode cX3_hasThird 87 = .ok (.iaload, 1) := by decide +kernel
theorem dX3_hasThird_88 : decode cX3_hasThird 88 = .ok (.aload_n 0, 1) := by decide +kernel
theorem dX3_hasThird_89 : decode cX3_hasThird 89 = .ok (.getfield 19, 3) := by decide +kernel
theorem dX3_hasThird_92 : decode cX3_hasThird 92 = .ok (.bipush 64, 2) := by decide +kernel
theorem dX3_hasThird_94 : decode cX3_hasThird 94 = .ok (.bipush 8, 2) := by decide +kernel
theorem dX3_hasThird_96 : decode cX3_hasThird 96 = .ok (.aload_n 0, 1) := by decide +kernel
theorem dX3_hasThird_97 : decode cX3_hasThird 97 = .ok (.getfield 22, 3) := by decide +kernel
theorem dX3_hasThird_100 : decode cX3_hasThird 100 = .ok (.iload_n 3, 1) := by decide +kernel
theorem dX3_hasThird_101 : decode cX3_hasThird 101 = .ok (.iaload, 1) := by decide +kernel
theorem dX3_hasThird_102 : decode cX3_hasThird 102 = .ok (.imul, 1) := by decide +kernel
theorem dX3_hasThird_103 : decode cX3_hasThird 103 = .ok (.iadd, 1) := by decide +kernel
theorem dX3_hasThird_104 : decode cX3_hasThird 104 = .ok (.aload_n 0, 1) := by decide +kernel
theorem dX3_hasThird_105 : decode cX3_hasThird 105 = .ok (.getfield 25, 3) := by decide +kernel
theorem dX3_hasThird_108 : decode cX3_hasThird 108 = .ok (.iload 4, 2) := by decide +kernel
theorem dX3_hasThird_110 : decode cX3_hasThird 110 = .ok (.iaload, 1) := by decide +kernel
theorem dX3_hasThird_111 : decode cX3_hasThird 111 = .ok (.iadd, 1) := by decide +kernel
theorem dX3_hasThird_112 : decode cX3_hasThird 112 = .ok (.iaload, 1) := by decide +kernel
theorem dX3_hasThird_113 : decode cX3_hasThird 113 = .ok (.if_icmp .eq 5, 3) := by decide +kernel
theorem dX3_hasThird_116 : decode cX3_hasThird 116 = .ok (.iconst 0, 1) := by decide +kernel
theorem dX3_hasThird_117 : decode cX3_hasThird 117 = .ok (.ireturn, 1) := by decide +kernel
theorem dX3_hasThird_118 : decode cX3_hasThird 118 = .ok (.iinc 4 1, 3) := by decide +kernel
theorem dX3_hasThird_121 : decode cX3_hasThird 121 = .ok (.goto (-56), 3) := by decide +kernel
theorem dX3_hasThird_124 : decode cX3_hasThird 124 = .ok (.iinc 3 1, 3) := by decide +kernel
theorem dX3_hasThird_127 : decode cX3_hasThird 127 = .ok (.goto (-70), 3) := by decide +kernel
theorem dX3_hasThird_130 : decode cX3_hasThird 130 = .ok (.iconst 1, 1) := by decide +kernel
theorem dX3_hasThird_131 : decode cX3_hasThird 131 = .ok (.ireturn, 1) := by decide +kernel
set_option maxRecDepth 20000 in
theorem ggX3_ways_X3_isSlot : GoodIn wsX3_ways wsX3_isSlot := goodIn_r _ [8, 9, 10, 7, 11] (by decide +kernel) (by decide +kernel)
set_option maxRecDepth 20000 in
theorem gX3_ways_X3_isSlot : GoodIn wsX3_ways (va_wsS RX3 39 yX3_isSlot wsX3_isSlot) := goodIn_app (goodIn_of _ (by decide +kernel)) ggX3_ways_X3_isSlot
set_option maxRecDepth 20000 in
theorem ggX3_ways_X3_firstBroken : GoodIn wsX3_ways wsX3_firstBroken := goodIn_r _ [15, 16, 17, 18, 7, 19, 1, 20, 21, 22, 23, 24, 33, 34, 35, 36, 37, 38, 39] (by decide +kernel) (by decide +kernel)
set_option maxRecDepth 20000 in
theorem gX3_ways_X3_firstBroken : GoodIn wsX3_ways (wsV RX3 55 RX3 yX3_firstBroken wsX3_firstBroken) := goodIn_app (goodIn_of _ (by decide +kernel)) ggX3_ways_X3_firstBroken
set_option maxRecDepth 20000 in
theorem ggX3_ways_X3_times : GoodIn wsX3_ways wsX3_times := goodIn_r _ [23, 1, 24, 33, 34, 35, 36, 37, 38, 39] (by decide +kernel) (by decide +kernel)
set_option maxRecDepth 20000 in
theorem gX3_ways_X3_times : GoodIn wsX3_ways (wsV RX3 51 RX3 yX3_times wsX3_times) := goodIn_app (goodIn_of _ (by decide +kernel)) ggX3_ways_X3_times
set_option maxRecDepth 20000 in
theorem ggX3_ways_X3_lay : GoodIn wsX3_ways wsX3_lay := goodIn_r _ [27] (by decide +kernel) (by decide +kernel)
set_option maxRecDepth 20000 in
theorem gX3_ways_X3_lay : GoodIn wsX3_ways (va_wsS RX3 89 yX3_lay wsX3_lay) := goodIn_app (goodIn_of _ (by decide +kernel)) ggX3_ways_X3_lay
set_option maxRecDepth 20000 in
theorem ggX3_ways_X3_hasThird : GoodIn wsX3_ways wsX3_hasThird := goodIn_r _ [31, 32, 2, 3, 4, 33, 34, 35, 36, 37, 38, 39] (by decide +kernel) (by decide +kernel)
set_option maxRecDepth 20000 in
theorem gX3_ways_X3_hasThird : GoodIn wsX3_ways (wsV RX3 93 RX3 yX3_hasThird wsX3_hasThird) := goodIn_app (goodIn_of _ (by decide +kernel)) ggX3_ways_X3_hasThird
theorem dX3_ways_0 : decode cX3_ways 0 = .ok (.iload_n 1, 1) := by decide +kernel
theorem dX3_ways_1 : decode cX3_ways 1 = .ok (.invokestatic 39, 3) := by decide +kernel
theorem dX3_ways_4 : decode cX3_ways 4 = .ok (.ifCond .eq 10, 3) := by decide +kernel
theorem dX3_ways_7 : decode cX3_ways 7 = .ok (.iload_n 2, 1) := by decide +kernel
theorem dX3_ways_8 : decode cX3_ways 8 = .ok (.invokestatic 39, 3) := by decide +kernel
theorem dX3_ways_11 : decode cX3_ways 11 = .ok (.ifCond .ne 5, 3) := by decide +kernel
theorem dX3_ways_14 : decode cX3_ways 14 = .ok (.iconst (-1), 1) := by decide +kernel
theorem dX3_ways_15 : decode cX3_ways 15 = .ok (.ireturn, 1) := by decide +kernel
theorem dX3_ways_16 : decode cX3_ways 16 = .ok (.aload_n 0, 1) := by decide +kernel
theorem dX3_ways_17 : decode cX3_ways 17 = .ok (.getfield 7, 3) := by decide +kernel
theorem dX3_ways_20 : decode cX3_ways 20 = .ok (.iload_n 1, 1) := by decide +kernel
theorem dX3_ways_21 : decode cX3_ways 21 = .ok (.iaload, 1) := by decide +kernel
theorem dX3_ways_22 : decode cX3_ways 22 = .ok (.aload_n 0, 1) := by decide +kernel
theorem dX3_ways_23 : decode cX3_ways 23 = .ok (.getfield 7, 3) := by decide +kernel
theorem dX3_ways_26 : decode cX3_ways 26 = .ok (.iload_n 2, 1) := by decide +kernel
theorem dX3_ways_27 : decode cX3_ways 27 = .ok (.iaload, 1) := by decide +kernel
theorem dX3_ways_28 : decode cX3_ways 28 = .ok (.if_icmp .ne 33, 3) := by decide +kernel
theorem dX3_ways_31 : decode cX3_ways 31 = .ok (.aload_n 0, 1) := by decide +kernel
theorem dX3_ways_32 : decode cX3_ways 32 = .ok (.getfield 7, 3) := by decide +kernel
theorem dX3_ways_35 : decode cX3_ways 35 = .ok (.iload_n 1, 1) := by decide +kernel
theorem dX3_ways_36 : decode cX3_ways 36 = .ok (.iaload, 1) := by decide +kernel
theorem dX3_ways_37 : decode cX3_ways 37 = .ok (.iconst 4, 1) := by decide +kernel
theorem dX3_ways_38 : decode cX3_ways 38 = .ok (.if_icmp .eq 23, 3) := by decide +kernel
theorem dX3_ways_41 : decode cX3_ways 41 = .ok (.aload_n 0, 1) := by decide +kernel
theorem dX3_ways_42 : decode cX3_ways 42 = .ok (.iload_n 1, 1) := by decide +kernel
theorem dX3_ways_43 : decode cX3_ways 43 = .ok (.invokevirtual 55, 3) := by decide +kernel
theorem dX3_ways_46 : decode cX3_ways 46 = .ok (.bipush (-9), 2) := by decide +kernel
theorem dX3_ways_48 : decode cX3_ways 48 = .ok (.if_icmp .ne 13, 3) := by decide +kernel
theorem dX3_ways_51 : decode cX3_ways 51 = .ok (.aload_n 0, 1) := by decide +kernel
theorem dX3_ways_52 : decode cX3_ways 52 = .ok (.iload_n 2, 1) := by decide +kernel
theorem dX3_ways_53 : decode cX3_ways 53 = .ok (.invokevirtual 55, 3) := by decide +kernel
theorem dX3_ways_56 : decode cX3_ways 56 = .ok (.bipush (-9), 2) := by decide +kernel
theorem dX3_ways_58 : decode cX3_ways 58 = .ok (.if_icmp .eq 6, 3) := by decide +kernel
theorem dX3_ways_61 : decode cX3_ways 61 = .ok (.bipush (-3), 2) := by decide +kernel
theorem dX3_ways_63 : decode cX3_ways 63 = .ok (.ireturn, 1) := by decide +kernel
theorem dX3_ways_64 : decode cX3_ways 64 = .ok (.aload_n 0, 1) := by decide +kernel
theorem dX3_ways_65 : decode cX3_ways 65 = .ok (.getfield 7, 3) := by decide +kernel
theorem dX3_ways_68 : decode cX3_ways 68 = .ok (.iload_n 1, 1) := by decide +kernel
theorem dX3_ways_69 : decode cX3_ways 69 = .ok (.iaload, 1) := by decide +kernel
theorem dX3_ways_70 : decode cX3_ways 70 = .ok (.istore_n 3, 1) := by decide +kernel
theorem dX3_ways_71 : decode cX3_ways 71 = .ok (.iconst 0, 1) := by decide +kernel
theorem dX3_ways_72 : decode cX3_ways 72 = .ok (.istore 4, 2) := by decide +kernel
theorem dX3_ways_74 : decode cX3_ways 74 = .ok (.iload 4, 2) := by decide +kernel
theorem dX3_ways_76 : decode cX3_ways 76 = .ok (.iconst 1, 1) := by decide +kernel
theorem dX3_ways_77 : decode cX3_ways 77 = .ok (.iload_n 3, 1) := by decide +kernel
theorem dX3_ways_78 : decode cX3_ways 78 = .ok (.ishl, 1) := by decide +kernel
theorem dX3_ways_79 : decode cX3_ways 79 = .ok (.if_icmp .ge 73, 3) := by decide +kernel
theorem dX3_ways_82 : decode cX3_ways 82 = .ok (.iconst 0, 1) := by decide +kernel
theorem dX3_ways_83 : decode cX3_ways 83 = .ok (.istore 5, 2) := by decide +kernel
theorem dX3_ways_85 : decode cX3_ways 85 = .ok (.iload 5, 2) := by decide +kernel
theorem dX3_ways_87 : decode cX3_ways 87 = .ok (.iconst 1, 1) := by decide +kernel
theorem dX3_ways_88 : decode cX3_ways 88 = .ok (.iload_n 3, 1) := by decide +kernel
theorem dX3_ways_89 : decode cX3_ways 89 = .ok (.ishl, 1) := by decide +kernel
theorem dX3_ways_90 : decode cX3_ways 90 = .ok (.if_icmp .ge 56, 3) := by decide +kernel
theorem dX3_ways_93 : decode cX3_ways 93 = .ok (.aload_n 0, 1) := by decide +kernel
theorem dX3_ways_94 : decode cX3_ways 94 = .ok (.getfield 19, 3) := by decide +kernel
theorem dX3_ways_97 : decode cX3_ways 97 = .ok (.bipush 8, 2) := by decide +kernel
theorem dX3_ways_99 : decode cX3_ways 99 = .ok (.iload 4, 2) := by decide +kernel
theorem dX3_ways_101 : decode cX3_ways 101 = .ok (.imul, 1) := by decide +kernel
theorem dX3_ways_102 : decode cX3_ways 102 = .ok (.iload 5, 2) := by decide +kernel
theorem dX3_ways_104 : decode cX3_ways 104 = .ok (.iadd, 1) := by decide +kernel
theorem dX3_ways_105 : decode cX3_ways 105 = .ok (.aload_n 0, 1) := by decide +kernel
theorem dX3_ways_106 : decode cX3_ways 106 = .ok (.iload_n 1, 1) := by decide +kernel
theorem dX3_ways_107 : decode cX3_ways 107 = .ok (.iload 4, 2) := by decide +kernel
theorem dX3_ways_109 : decode cX3_ways 109 = .ok (.iload 5, 2) := by decide +kernel
theorem dX3_ways_111 : decode cX3_ways 111 = .ok (.invokevirtual 51, 3) := by decide +kernel
theorem dX3_ways_114 : decode cX3_ways 114 = .ok (.iastore, 1) := by decide +kernel
theorem dX3_ways_115 : decode cX3_ways 115 = .ok (.aload_n 0, 1) := by decide +kernel
theorem dX3_ways_116 : decode cX3_ways 116 = .ok (.getfield 19, 3) := by decide +kernel
theorem dX3_ways_119 : decode cX3_ways 119 = .ok (.bipush 64, 2) := by decide +kernel
theorem dX3_ways_121 : decode cX3_ways 121 = .ok (.bipush 8, 2) := by decide +kernel
theorem dX3_ways_123 : decode cX3_ways 123 = .ok (.iload 4, 2) := by decide +kernel
theorem dX3_ways_125 : decode cX3_ways 125 = .ok (.imul, 1) := by decide +kernel
theorem dX3_ways_126 : decode cX3_ways 126 = .ok (.iadd, 1) := by decide +kernel
theorem dX3_ways_127 : decode cX3_ways 127 = .ok (.iload 5, 2) := by decide +kernel
theorem dX3_ways_129 : decode cX3_ways 129 = .ok (.iadd, 1) := by decide +kernel
theorem dX3_ways_130 : decode cX3_ways 130 = .ok (.aload_n 0, 1) := by decide +kernel
theorem dX3_ways_131 : decode cX3_ways 131 = .ok (.iload_n 2, 1) := by decide +kernel
theorem dX3_ways_132 : decode cX3_ways 132 = .ok (.iload 4, 2) := by decide +kernel
theorem dX3_ways_134 : decode cX3_ways 134 = .ok (.iload 5, 2) := by decide +kernel
theorem dX3_ways_136 : decode cX3_ways 136 = .ok (.invokevirtual 51, 3) := by decide +kernel
theorem dX3_ways_139 : decode cX3_ways 139 = .ok (.iastore, 1) := by decide +kernel
theorem dX3_ways_140 : decode cX3_ways 140 = .ok (.iinc 5 1, 3) := by decide +kernel
theorem dX3_ways_143 : decode cX3_ways 143 = .ok (.goto (-58), 3) := by decide +kernel
theorem dX3_ways_146 : decode cX3_ways 146 = .ok (.iinc 4 1, 3) := by decide +kernel
theorem dX3_ways_149 : decode cX3_ways 149 = .ok (.goto (-75), 3) := by decide +kernel
theorem dX3_ways_152 : decode cX3_ways 152 = .ok (.iconst 0, 1) := by decide +kernel
theorem dX3_ways_153 : decode cX3_ways 153 = .ok (.istore 4, 2) := by decide +kernel
theorem dX3_ways_155 : decode cX3_ways 155 = .ok (.iconst 0, 1) := by decide +kernel
theorem dX3_ways_156 : decode cX3_ways 156 = .ok (.istore 5, 2) := by decide +kernel
theorem dX3_ways_158 : decode cX3_ways 158 = .ok (.iload 5, 2) := by decide +kernel
theorem dX3_ways_160 : decode cX3_ways 160 = .ok (.iconst 1, 1) := by decide +kernel
theorem dX3_ways_161 : decode cX3_ways 161 = .ok (.iconst 3, 1) := by decide +kernel
theorem dX3_ways_162 : decode cX3_ways 162 = .ok (.iload_n 3, 1) := by decide +kernel
theorem dX3_ways_163 : decode cX3_ways 163 = .ok (.imul, 1) := by decide +kernel
theorem dX3_ways_164 : decode cX3_ways 164 = .ok (.ishl, 1) := by decide +kernel
theorem dX3_ways_165 : decode cX3_ways 165 = .ok (.if_icmp .ge 76, 3) := by decide +kernel
theorem dX3_ways_168 : decode cX3_ways 168 = .ok (.aload_n 0, 1) := by decide +kernel
theorem dX3_ways_169 : decode cX3_ways 169 = .ok (.getfield 22, 3) := by decide +kernel
theorem dX3_ways_172 : decode cX3_ways 172 = .ok (.iload 5, 2) := by decide +kernel
theorem dX3_ways_174 : decode cX3_ways 174 = .ok (.iload_n 3, 1) := by decide +kernel
theorem dX3_ways_175 : decode cX3_ways 175 = .ok (.invokestatic 89, 3) := by decide +kernel
theorem dX3_ways_178 : decode cX3_ways 178 = .ok (.istore 6, 2) := by decide +kernel
theorem dX3_ways_180 : decode cX3_ways 180 = .ok (.iconst 0, 1) := by decide +kernel
theorem dX3_ways_181 : decode cX3_ways 181 = .ok (.istore 7, 2) := by decide +kernel
theorem dX3_ways_183 : decode cX3_ways 183 = .ok (.iload 7, 2) := by decide +kernel
theorem dX3_ways_185 : decode cX3_ways 185 = .ok (.iconst 1, 1) := by decide +kernel
theorem dX3_ways_186 : decode cX3_ways 186 = .ok (.iconst 3, 1) := by decide +kernel
theorem dX3_ways_187 : decode cX3_ways 187 = .ok (.iload_n 3, 1) := by decide +kernel
theorem dX3_ways_188 : decode cX3_ways 188 = .ok (.imul, 1) := by decide +kernel
theorem dX3_ways_189 : decode cX3_ways 189 = .ok (.ishl, 1) := by decide +kernel
theorem dX3_ways_190 : decode cX3_ways 190 = .ok (.if_icmp .ge 45, 3) := by decide +kernel
theorem dX3_ways_193 : decode cX3_ways 193 = .ok (.iload 6, 2) := by decide +kernel
theorem dX3_ways_195 : decode cX3_ways 195 = .ok (.ifCond .eq 40, 3) := by decide +kernel
theorem dX3_ways_198 : decode cX3_ways 198 = .ok (.iload 4, 2) := by decide +kernel
theorem dX3_ways_200 : decode cX3_ways 200 = .ok (.aload_n 0, 1) := by decide +kernel
theorem dX3_ways_201 : decode cX3_ways 201 = .ok (.getfield 25, 3) := by decide +kernel
theorem dX3_ways_204 : decode cX3_ways 204 = .ok (.iload 7, 2) := by decide +kernel
theorem dX3_ways_206 : decode cX3_ways 206 = .ok (.iload_n 3, 1) := by decide +kernel
theorem dX3_ways_207 : decode cX3_ways 207 = .ok (.invokestatic 89, 3) := by decide +kernel
theorem dX3_ways_210 : decode cX3_ways 210 = .ok (.ifCond .eq 15, 3) := by decide +kernel
theorem dX3_ways_213 : decode cX3_ways 213 = .ok (.aload_n 0, 1) := by decide +kernel
theorem dX3_ways_214 : decode cX3_ways 214 = .ok (.iload_n 3, 1) := by decide +kernel
theorem dX3_ways_215 : decode cX3_ways 215 = .ok (.invokevirtual 93, 3) := by decide +kernel
theorem dX3_ways_218 : decode cX3_ways 218 = .ok (.ifCond .eq 7, 3) := by decide +kernel
theorem dX3_ways_221 : decode cX3_ways 221 = .ok (.iconst 1, 1) := by decide +kernel
theorem dX3_ways_222 : decode cX3_ways 222 = .ok (.goto 4, 3) := by decide +kernel
theorem dX3_ways_225 : decode cX3_ways 225 = .ok (.iconst 0, 1) := by decide +kernel
theorem dX3_ways_226 : decode cX3_ways 226 = .ok (.iadd, 1) := by decide +kernel
theorem dX3_ways_227 : decode cX3_ways 227 = .ok (.istore 4, 2) := by decide +kernel
theorem dX3_ways_229 : decode cX3_ways 229 = .ok (.iinc 7 1, 3) := by decide +kernel
theorem dX3_ways_232 : decode cX3_ways 232 = .ok (.goto (-49), 3) := by decide +kernel
theorem dX3_ways_235 : decode cX3_ways 235 = .ok (.iinc 5 1, 3) := by decide +kernel
theorem dX3_ways_238 : decode cX3_ways 238 = .ok (.goto (-80), 3) := by decide +kernel
theorem dX3_ways_241 : decode cX3_ways 241 = .ok (.iload 4, 2) := by decide +kernel
theorem dX3_ways_243 : decode cX3_ways 243 = .ok (.ireturn, 1) := by decide +kernel
set_option maxRecDepth 20000 in
theorem ggX3_isPlace_X3_numbers : GoodIn wsX3_isPlace wsX3_numbers := goodIn_r _ [5, 6, 10, 11, 12, 13, 14, 15, 16] (by decide +kernel) (by decide +kernel)
set_option maxRecDepth 20000 in
theorem gX3_isPlace_X3_numbers : GoodIn wsX3_isPlace (wsV RX3 35 RX3 yX3_numbers wsX3_numbers) := goodIn_app (goodIn_of _ (by decide +kernel)) ggX3_isPlace_X3_numbers
set_option maxRecDepth 20000 in
theorem ggX3_isPlace_X3_in : GoodIn wsX3_isPlace wsX3_in := goodIn_r _ [9] (by decide +kernel) (by decide +kernel)
set_option maxRecDepth 20000 in
theorem gX3_isPlace_X3_in : GoodIn wsX3_isPlace (va_wsS RX3 31 yX3_in wsX3_in) := goodIn_app (goodIn_of _ (by decide +kernel)) ggX3_isPlace_X3_in
theorem dX3_isPlace_0 : decode cX3_isPlace 0 = .ok (.aload_n 0, 1) := by decide +kernel
theorem dX3_isPlace_1 : decode cX3_isPlace 1 = .ok (.iload_n 1, 1) := by decide +kernel
theorem dX3_isPlace_2 : decode cX3_isPlace 2 = .ok (.invokevirtual 35, 3) := by decide +kernel
theorem dX3_isPlace_5 : decode cX3_isPlace 5 = .ok (.istore_n 3, 1) := by decide +kernel
theorem dX3_isPlace_6 : decode cX3_isPlace 6 = .ok (.iload_n 2, 1) := by decide +kernel
theorem dX3_isPlace_7 : decode cX3_isPlace 7 = .ok (.iconst 0, 1) := by decide +kernel
theorem dX3_isPlace_8 : decode cX3_isPlace 8 = .ok (.iload_n 3, 1) := by decide +kernel
theorem dX3_isPlace_9 : decode cX3_isPlace 9 = .ok (.iload_n 3, 1) := by decide +kernel
theorem dX3_isPlace_10 : decode cX3_isPlace 10 = .ok (.imul, 1) := by decide +kernel
theorem dX3_isPlace_11 : decode cX3_isPlace 11 = .ok (.iload_n 3, 1) := by decide +kernel
theorem dX3_isPlace_12 : decode cX3_isPlace 12 = .ok (.iadd, 1) := by decide +kernel
theorem dX3_isPlace_13 : decode cX3_isPlace 13 = .ok (.invokestatic 31, 3) := by decide +kernel
theorem dX3_isPlace_16 : decode cX3_isPlace 16 = .ok (.ireturn, 1) := by decide +kernel
set_option maxRecDepth 20000 in
theorem ggX3_isOn_X3_numbers : GoodIn wsX3_isOn wsX3_numbers := goodIn_r _ [5, 6, 12, 13, 14, 15, 16, 17, 18] (by decide +kernel) (by decide +kernel)
set_option maxRecDepth 20000 in
theorem gX3_isOn_X3_numbers : GoodIn wsX3_isOn (wsV RX3 35 RX3 yX3_numbers wsX3_numbers) := goodIn_app (goodIn_of _ (by decide +kernel)) ggX3_isOn_X3_numbers
set_option maxRecDepth 20000 in
theorem ggX3_isOn_X3_times : GoodIn wsX3_isOn wsX3_times := goodIn_r _ [10, 6, 11, 12, 13, 14, 15, 16, 17, 18] (by decide +kernel) (by decide +kernel)
set_option maxRecDepth 20000 in
theorem gX3_isOn_X3_times : GoodIn wsX3_isOn (wsV RX3 51 RX3 yX3_times wsX3_times) := goodIn_app (goodIn_of _ (by decide +kernel)) ggX3_isOn_X3_times
theorem dX3_isOn_0 : decode cX3_isOn 0 = .ok (.aload_n 0, 1) := by decide +kernel
theorem dX3_isOn_1 : decode cX3_isOn 1 = .ok (.iload_n 1, 1) := by decide +kernel
theorem dX3_isOn_2 : decode cX3_isOn 2 = .ok (.invokevirtual 35, 3) := by decide +kernel
theorem dX3_isOn_5 : decode cX3_isOn 5 = .ok (.istore 4, 2) := by decide +kernel
theorem dX3_isOn_7 : decode cX3_isOn 7 = .ok (.iload 4, 2) := by decide +kernel
theorem dX3_isOn_9 : decode cX3_isOn 9 = .ok (.iload 4, 2) := by decide +kernel
theorem dX3_isOn_11 : decode cX3_isOn 11 = .ok (.imul, 1) := by decide +kernel
theorem dX3_isOn_12 : decode cX3_isOn 12 = .ok (.istore 5, 2) := by decide +kernel
theorem dX3_isOn_14 : decode cX3_isOn 14 = .ok (.iload_n 3, 1) := by decide +kernel
theorem dX3_isOn_15 : decode cX3_isOn 15 = .ok (.iload 5, 2) := by decide +kernel
theorem dX3_isOn_17 : decode cX3_isOn 17 = .ok (.iload 4, 2) := by decide +kernel
theorem dX3_isOn_19 : decode cX3_isOn 19 = .ok (.iadd, 1) := by decide +kernel
theorem dX3_isOn_20 : decode cX3_isOn 20 = .ok (.if_icmp .ne 15, 3) := by decide +kernel
theorem dX3_isOn_23 : decode cX3_isOn 23 = .ok (.iload_n 2, 1) := by decide +kernel
theorem dX3_isOn_24 : decode cX3_isOn 24 = .ok (.iload 5, 2) := by decide +kernel
theorem dX3_isOn_26 : decode cX3_isOn 26 = .ok (.if_icmp .lt 7, 3) := by decide +kernel
theorem dX3_isOn_29 : decode cX3_isOn 29 = .ok (.iconst 1, 1) := by decide +kernel
theorem dX3_isOn_30 : decode cX3_isOn 30 = .ok (.goto 4, 3) := by decide +kernel
theorem dX3_isOn_33 : decode cX3_isOn 33 = .ok (.iconst 0, 1) := by decide +kernel
theorem dX3_isOn_34 : decode cX3_isOn 34 = .ok (.ireturn, 1) := by decide +kernel
theorem dX3_isOn_35 : decode cX3_isOn 35 = .ok (.iload_n 3, 1) := by decide +kernel
theorem dX3_isOn_36 : decode cX3_isOn 36 = .ok (.iload 5, 2) := by decide +kernel
theorem dX3_isOn_38 : decode cX3_isOn 38 = .ok (.if_icmp .lt 35, 3) := by decide +kernel
theorem dX3_isOn_41 : decode cX3_isOn 41 = .ok (.iload_n 2, 1) := by decide +kernel
theorem dX3_isOn_42 : decode cX3_isOn 42 = .ok (.iload 5, 2) := by decide +kernel
theorem dX3_isOn_44 : decode cX3_isOn 44 = .ok (.iload 4, 2) := by decide +kernel
theorem dX3_isOn_46 : decode cX3_isOn 46 = .ok (.iadd, 1) := by decide +kernel
theorem dX3_isOn_47 : decode cX3_isOn 47 = .ok (.if_icmp .eq 20, 3) := by decide +kernel
theorem dX3_isOn_50 : decode cX3_isOn 50 = .ok (.iload_n 2, 1) := by decide +kernel
theorem dX3_isOn_51 : decode cX3_isOn 51 = .ok (.iload 5, 2) := by decide +kernel
theorem dX3_isOn_53 : decode cX3_isOn 53 = .ok (.if_icmp .ge 18, 3) := by decide +kernel
theorem dX3_isOn_56 : decode cX3_isOn 56 = .ok (.iload_n 2, 1) := by decide +kernel
theorem dX3_isOn_57 : decode cX3_isOn 57 = .ok (.iload 4, 2) := by decide +kernel
theorem dX3_isOn_59 : decode cX3_isOn 59 = .ok (.idiv, 1) := by decide +kernel
theorem dX3_isOn_60 : decode cX3_isOn 60 = .ok (.iload_n 3, 1) := by decide +kernel
theorem dX3_isOn_61 : decode cX3_isOn 61 = .ok (.iload 5, 2) := by decide +kernel
theorem dX3_isOn_63 : decode cX3_isOn 63 = .ok (.isub, 1) := by decide +kernel
theorem dX3_isOn_64 : decode cX3_isOn 64 = .ok (.if_icmp .ne 7, 3) := by decide +kernel
theorem dX3_isOn_67 : decode cX3_isOn 67 = .ok (.iconst 1, 1) := by decide +kernel
theorem dX3_isOn_68 : decode cX3_isOn 68 = .ok (.goto 4, 3) := by decide +kernel
theorem dX3_isOn_71 : decode cX3_isOn 71 = .ok (.iconst 0, 1) := by decide +kernel
theorem dX3_isOn_72 : decode cX3_isOn 72 = .ok (.ireturn, 1) := by decide +kernel
theorem dX3_isOn_73 : decode cX3_isOn 73 = .ok (.iload_n 2, 1) := by decide +kernel
theorem dX3_isOn_74 : decode cX3_isOn 74 = .ok (.iload 5, 2) := by decide +kernel
theorem dX3_isOn_76 : decode cX3_isOn 76 = .ok (.if_icmp .ge 36, 3) := by decide +kernel
theorem dX3_isOn_79 : decode cX3_isOn 79 = .ok (.aload_n 0, 1) := by decide +kernel
theorem dX3_isOn_80 : decode cX3_isOn 80 = .ok (.iload_n 1, 1) := by decide +kernel
theorem dX3_isOn_81 : decode cX3_isOn 81 = .ok (.iload_n 3, 1) := by decide +kernel
theorem dX3_isOn_82 : decode cX3_isOn 82 = .ok (.iload 4, 2) := by decide +kernel
theorem dX3_isOn_84 : decode cX3_isOn 84 = .ok (.idiv, 1) := by decide +kernel
theorem dX3_isOn_85 : decode cX3_isOn 85 = .ok (.iload_n 2, 1) := by decide +kernel
theorem dX3_isOn_86 : decode cX3_isOn 86 = .ok (.iload 4, 2) := by decide +kernel
theorem dX3_isOn_88 : decode cX3_isOn 88 = .ok (.idiv, 1) := by decide +kernel
theorem dX3_isOn_89 : decode cX3_isOn 89 = .ok (.invokevirtual 51, 3) := by decide +kernel
theorem dX3_isOn_92 : decode cX3_isOn 92 = .ok (.iload_n 3, 1) := by decide +kernel
theorem dX3_isOn_93 : decode cX3_isOn 93 = .ok (.iload 4, 2) := by decide +kernel
theorem dX3_isOn_95 : decode cX3_isOn 95 = .ok (.irem, 1) := by decide +kernel
theorem dX3_isOn_96 : decode cX3_isOn 96 = .ok (.ixor, 1) := by decide +kernel
theorem dX3_isOn_97 : decode cX3_isOn 97 = .ok (.iload_n 2, 1) := by decide +kernel
theorem dX3_isOn_98 : decode cX3_isOn 98 = .ok (.iload 4, 2) := by decide +kernel
theorem dX3_isOn_100 : decode cX3_isOn 100 = .ok (.irem, 1) := by decide +kernel
theorem dX3_isOn_101 : decode cX3_isOn 101 = .ok (.if_icmp .ne 7, 3) := by decide +kernel
theorem dX3_isOn_104 : decode cX3_isOn 104 = .ok (.iconst 1, 1) := by decide +kernel
theorem dX3_isOn_105 : decode cX3_isOn 105 = .ok (.goto 23, 3) := by decide +kernel
theorem dX3_isOn_108 : decode cX3_isOn 108 = .ok (.iconst 0, 1) := by decide +kernel
theorem dX3_isOn_109 : decode cX3_isOn 109 = .ok (.goto 19, 3) := by decide +kernel
theorem dX3_isOn_112 : decode cX3_isOn 112 = .ok (.iload_n 2, 1) := by decide +kernel
theorem dX3_isOn_113 : decode cX3_isOn 113 = .ok (.iload 5, 2) := by decide +kernel
theorem dX3_isOn_115 : decode cX3_isOn 115 = .ok (.iload_n 3, 1) := by decide +kernel
theorem dX3_isOn_116 : decode cX3_isOn 116 = .ok (.iload 4, 2) := by decide +kernel
theorem dX3_isOn_118 : decode cX3_isOn 118 = .ok (.idiv, 1) := by decide +kernel
theorem dX3_isOn_119 : decode cX3_isOn 119 = .ok (.iadd, 1) := by decide +kernel
theorem dX3_isOn_120 : decode cX3_isOn 120 = .ok (.if_icmp .ne 7, 3) := by decide +kernel
theorem dX3_isOn_123 : decode cX3_isOn 123 = .ok (.iconst 1, 1) := by decide +kernel
theorem dX3_isOn_124 : decode cX3_isOn 124 = .ok (.goto 4, 3) := by decide +kernel
theorem dX3_isOn_127 : decode cX3_isOn 127 = .ok (.iconst 0, 1) := by decide +kernel
theorem dX3_isOn_128 : decode cX3_isOn 128 = .ok (.ireturn, 1) := by decide +kernel
set_option maxRecDepth 20000 in
theorem ggX3_on_X3_isSlot : GoodIn wsX3_on wsX3_isSlot := goodIn_r _ [4, 5, 6, 3, 7] (by decide +kernel) (by decide +kernel)
set_option maxRecDepth 20000 in
theorem gX3_on_X3_isSlot : GoodIn wsX3_on (va_wsS RX3 39 yX3_isSlot wsX3_isSlot) := goodIn_app (goodIn_of _ (by decide +kernel)) ggX3_on_X3_isSlot
set_option maxRecDepth 20000 in
theorem ggX3_on_X3_isPlace : GoodIn wsX3_on wsX3_isPlace := goodIn_r _ [11, 12, 13, 14, 3, 15, 16, 5, 6, 7, 26, 27, 28, 29, 30, 31, 32] (by decide +kernel) (by decide +kernel)
set_option maxRecDepth 20000 in
theorem gX3_on_X3_isPlace : GoodIn wsX3_on (wsV RX3 96 RX3 yX3_isPlace wsX3_isPlace) := goodIn_app (goodIn_of _ (by decide +kernel)) ggX3_on_X3_isPlace
set_option maxRecDepth 20000 in
theorem ggX3_on_X3_isOn : GoodIn wsX3_on wsX3_isOn := goodIn_r _ [20, 12, 13, 14, 3, 15, 16, 21, 22, 23, 24, 25, 26, 27, 28, 29, 30, 31, 32] (by decide +kernel) (by decide +kernel)
set_option maxRecDepth 20000 in
theorem gX3_on_X3_isOn : GoodIn wsX3_on (wsV RX3 99 RX3 yX3_isOn wsX3_isOn) := goodIn_app (goodIn_of _ (by decide +kernel)) ggX3_on_X3_isOn
theorem dX3_on_0 : decode cX3_on 0 = .ok (.iload_n 1, 1) := by decide +kernel
theorem dX3_on_1 : decode cX3_on 1 = .ok (.invokestatic 39, 3) := by decide +kernel
theorem dX3_on_4 : decode cX3_on 4 = .ok (.ifCond .eq 21, 3) := by decide +kernel
theorem dX3_on_7 : decode cX3_on 7 = .ok (.aload_n 0, 1) := by decide +kernel
theorem dX3_on_8 : decode cX3_on 8 = .ok (.iload_n 1, 1) := by decide +kernel
theorem dX3_on_9 : decode cX3_on 9 = .ok (.iload_n 2, 1) := by decide +kernel
theorem dX3_on_10 : decode cX3_on 10 = .ok (.invokevirtual 96, 3) := by decide +kernel
theorem dX3_on_13 : decode cX3_on 13 = .ok (.ifCond .eq 12, 3) := by decide +kernel
theorem dX3_on_16 : decode cX3_on 16 = .ok (.aload_n 0, 1) := by decide +kernel
theorem dX3_on_17 : decode cX3_on 17 = .ok (.iload_n 1, 1) := by decide +kernel
theorem dX3_on_18 : decode cX3_on 18 = .ok (.iload_n 3, 1) := by decide +kernel
theorem dX3_on_19 : decode cX3_on 19 = .ok (.invokevirtual 96, 3) := by decide +kernel
theorem dX3_on_22 : decode cX3_on 22 = .ok (.ifCond .ne 5, 3) := by decide +kernel
theorem dX3_on_25 : decode cX3_on 25 = .ok (.iconst (-1), 1) := by decide +kernel
theorem dX3_on_26 : decode cX3_on 26 = .ok (.ireturn, 1) := by decide +kernel
theorem dX3_on_27 : decode cX3_on 27 = .ok (.aload_n 0, 1) := by decide +kernel
theorem dX3_on_28 : decode cX3_on 28 = .ok (.iload_n 1, 1) := by decide +kernel
theorem dX3_on_29 : decode cX3_on 29 = .ok (.iload_n 2, 1) := by decide +kernel
theorem dX3_on_30 : decode cX3_on 30 = .ok (.iload_n 3, 1) := by decide +kernel
theorem dX3_on_31 : decode cX3_on 31 = .ok (.invokevirtual 99, 3) := by decide +kernel
theorem dX3_on_34 : decode cX3_on 34 = .ok (.ifCond .eq 7, 3) := by decide +kernel
theorem dX3_on_37 : decode cX3_on 37 = .ok (.iconst 1, 1) := by decide +kernel
theorem dX3_on_38 : decode cX3_on 38 = .ok (.goto 4, 3) := by decide +kernel
theorem dX3_on_41 : decode cX3_on 41 = .ok (.iconst 0, 1) := by decide +kernel
theorem dX3_on_42 : decode cX3_on 42 = .ok (.ireturn, 1) := by decide +kernel
set_option maxRecDepth 20000 in
theorem ggX3_common_X3_isPlace : GoodIn wsX3_common wsX3_isPlace := goodIn_r _ [5, 6, 7, 8, 4, 9, 10, 11, 12, 13, 23, 24, 25, 26, 27, 28, 29] (by decide +kernel) (by decide +kernel)
set_option maxRecDepth 20000 in
theorem gX3_common_X3_isPlace : GoodIn wsX3_common (wsV RX3 96 RX3 yX3_isPlace wsX3_isPlace) := goodIn_app (goodIn_of _ (by decide +kernel)) ggX3_common_X3_isPlace
set_option maxRecDepth 20000 in
theorem ggX3_common_X3_isOn : GoodIn wsX3_common wsX3_isOn := goodIn_r _ [17, 6, 7, 8, 4, 9, 10, 18, 19, 20, 21, 22, 23, 24, 25, 26, 27, 28, 29] (by decide +kernel) (by decide +kernel)
set_option maxRecDepth 20000 in
theorem gX3_common_X3_isOn : GoodIn wsX3_common (wsV RX3 99 RX3 yX3_isOn wsX3_isOn) := goodIn_app (goodIn_of _ (by decide +kernel)) ggX3_common_X3_isOn
theorem dX3_common_0 : decode cX3_common 0 = .ok (.bipush (-9), 2) := by decide +kernel
theorem dX3_common_2 : decode cX3_common 2 = .ok (.istore 5, 2) := by decide +kernel
theorem dX3_common_4 : decode cX3_common 4 = .ok (.iconst 0, 1) := by decide +kernel
theorem dX3_common_5 : decode cX3_common 5 = .ok (.istore 6, 2) := by decide +kernel
theorem dX3_common_7 : decode cX3_common 7 = .ok (.iconst 0, 1) := by decide +kernel
theorem dX3_common_8 : decode cX3_common 8 = .ok (.istore 7, 2) := by decide +kernel
theorem dX3_common_10 : decode cX3_common 10 = .ok (.aload_n 0, 1) := by decide +kernel
theorem dX3_common_11 : decode cX3_common 11 = .ok (.iload_n 1, 1) := by decide +kernel
theorem dX3_common_12 : decode cX3_common 12 = .ok (.iload 7, 2) := by decide +kernel
theorem dX3_common_14 : decode cX3_common 14 = .ok (.invokevirtual 96, 3) := by decide +kernel
theorem dX3_common_17 : decode cX3_common 17 = .ok (.ifCond .eq 68, 3) := by decide +kernel
theorem dX3_common_20 : decode cX3_common 20 = .ok (.iload 4, 2) := by decide +kernel
theorem dX3_common_22 : decode cX3_common 22 = .ok (.ifCond .eq 28, 3) := by decide +kernel
theorem dX3_common_25 : decode cX3_common 25 = .ok (.aload_n 0, 1) := by decide +kernel
theorem dX3_common_26 : decode cX3_common 26 = .ok (.iload_n 1, 1) := by decide +kernel
theorem dX3_common_27 : decode cX3_common 27 = .ok (.iload_n 2, 1) := by decide +kernel
theorem dX3_common_28 : decode cX3_common 28 = .ok (.iload 7, 2) := by decide +kernel
theorem dX3_common_30 : decode cX3_common 30 = .ok (.invokevirtual 99, 3) := by decide +kernel
theorem dX3_common_33 : decode cX3_common 33 = .ok (.ifCond .eq 46, 3) := by decide +kernel
theorem dX3_common_36 : decode cX3_common 36 = .ok (.aload_n 0, 1) := by decide +kernel
theorem dX3_common_37 : decode cX3_common 37 = .ok (.iload_n 1, 1) := by decide +kernel
theorem dX3_common_38 : decode cX3_common 38 = .ok (.iload_n 3, 1) := by decide +kernel
theorem dX3_common_39 : decode cX3_common 39 = .ok (.iload 7, 2) := by decide +kernel
theorem dX3_common_41 : decode cX3_common 41 = .ok (.invokevirtual 99, 3) := by decide +kernel
theorem dX3_common_44 : decode cX3_common 44 = .ok (.ifCond .eq 35, 3) := by decide +kernel
theorem dX3_common_47 : decode cX3_common 47 = .ok (.goto 25, 3) := by decide +kernel
theorem dX3_common_50 : decode cX3_common 50 = .ok (.aload_n 0, 1) := by decide +kernel
theorem dX3_common_51 : decode cX3_common 51 = .ok (.iload_n 1, 1) := by decide +kernel
theorem dX3_common_52 : decode cX3_common 52 = .ok (.iload 7, 2) := by decide +kernel
theorem dX3_common_54 : decode cX3_common 54 = .ok (.iload_n 2, 1) := by decide +kernel
theorem dX3_common_55 : decode cX3_common 55 = .ok (.invokevirtual 99, 3) := by decide +kernel
theorem dX3_common_58 : decode cX3_common 58 = .ok (.ifCond .eq 21, 3) := by decide +kernel
theorem dX3_common_61 : decode cX3_common 61 = .ok (.aload_n 0, 1) := by decide +kernel
theorem dX3_common_62 : decode cX3_common 62 = .ok (.iload_n 1, 1) := by decide +kernel
theorem dX3_common_63 : decode cX3_common 63 = .ok (.iload 7, 2) := by decide +kernel
theorem dX3_common_65 : decode cX3_common 65 = .ok (.iload_n 3, 1) := by decide +kernel
theorem dX3_common_66 : decode cX3_common 66 = .ok (.invokevirtual 99, 3) := by decide +kernel
theorem dX3_common_69 : decode cX3_common 69 = .ok (.ifCond .eq 10, 3) := by decide +kernel
theorem dX3_common_72 : decode cX3_common 72 = .ok (.iload 7, 2) := by decide +kernel
theorem dX3_common_74 : decode cX3_common 74 = .ok (.istore 5, 2) := by decide +kernel
theorem dX3_common_76 : decode cX3_common 76 = .ok (.iinc 6 1, 3) := by decide +kernel
theorem dX3_common_79 : decode cX3_common 79 = .ok (.iinc 7 1, 3) := by decide +kernel
theorem dX3_common_82 : decode cX3_common 82 = .ok (.goto (-72), 3) := by decide +kernel
theorem dX3_common_85 : decode cX3_common 85 = .ok (.iload 6, 2) := by decide +kernel
theorem dX3_common_87 : decode cX3_common 87 = .ok (.iconst 1, 1) := by decide +kernel
theorem dX3_common_88 : decode cX3_common 88 = .ok (.if_icmp .ne 8, 3) := by decide +kernel
theorem dX3_common_91 : decode cX3_common 91 = .ok (.iload 5, 2) := by decide +kernel
theorem dX3_common_93 : decode cX3_common 93 = .ok (.goto 5, 3) := by decide +kernel
theorem dX3_common_96 : decode cX3_common 96 = .ok (.bipush (-9), 2) := by decide +kernel
theorem dX3_common_98 : decode cX3_common 98 = .ok (.ireturn, 1) := by decide +kernel
set_option maxRecDepth 20000 in
theorem ggX3_join_X3_isSlot : GoodIn wsX3_join wsX3_isSlot := goodIn_r _ [4, 5, 6, 3, 7] (by decide +kernel) (by decide +kernel)
set_option maxRecDepth 20000 in
theorem gX3_join_X3_isSlot : GoodIn wsX3_join (va_wsS RX3 39 yX3_isSlot wsX3_isSlot) := goodIn_app (goodIn_of _ (by decide +kernel)) ggX3_join_X3_isSlot
set_option maxRecDepth 20000 in
theorem ggX3_join_X3_isPlace : GoodIn wsX3_join wsX3_isPlace := goodIn_r _ [11, 12, 13, 14, 3, 15, 16, 5, 6, 7, 30, 31, 32, 33, 34, 35, 36] (by decide +kernel) (by decide +kernel)
set_option maxRecDepth 20000 in
theorem gX3_join_X3_isPlace : GoodIn wsX3_join (wsV RX3 96 RX3 yX3_isPlace wsX3_isPlace) := goodIn_app (goodIn_of _ (by decide +kernel)) ggX3_join_X3_isPlace
set_option maxRecDepth 20000 in
theorem ggX3_join_X3_common : GoodIn wsX3_join wsX3_common := goodIn_r _ [20, 8, 9, 10, 3, 11, 12, 13, 14, 15, 16, 5, 6, 7, 21, 22, 23, 24, 25, 26, 27, 28, 29, 30, 31, 32, 33, 34, 35, 36] (by decide +kernel) (by decide +kernel)
set_option maxRecDepth 20000 in
theorem gX3_join_X3_common : GoodIn wsX3_join (wsV RX3 102 RX3 yX3_common wsX3_common) := goodIn_app (goodIn_of _ (by decide +kernel)) ggX3_join_X3_common
theorem dX3_join_0 : decode cX3_join 0 = .ok (.iload_n 1, 1) := by decide +kernel
theorem dX3_join_1 : decode cX3_join 1 = .ok (.invokestatic 39, 3) := by decide +kernel
theorem dX3_join_4 : decode cX3_join 4 = .ok (.ifCond .eq 21, 3) := by decide +kernel
theorem dX3_join_7 : decode cX3_join 7 = .ok (.aload_n 0, 1) := by decide +kernel
theorem dX3_join_8 : decode cX3_join 8 = .ok (.iload_n 1, 1) := by decide +kernel
theorem dX3_join_9 : decode cX3_join 9 = .ok (.iload_n 2, 1) := by decide +kernel
theorem dX3_join_10 : decode cX3_join 10 = .ok (.invokevirtual 96, 3) := by decide +kernel
theorem dX3_join_13 : decode cX3_join 13 = .ok (.ifCond .eq 12, 3) := by decide +kernel
theorem dX3_join_16 : decode cX3_join 16 = .ok (.aload_n 0, 1) := by decide +kernel
theorem dX3_join_17 : decode cX3_join 17 = .ok (.iload_n 1, 1) := by decide +kernel
theorem dX3_join_18 : decode cX3_join 18 = .ok (.iload_n 3, 1) := by decide +kernel
theorem dX3_join_19 : decode cX3_join 19 = .ok (.invokevirtual 96, 3) := by decide +kernel
theorem dX3_join_22 : decode cX3_join 22 = .ok (.ifCond .ne 5, 3) := by decide +kernel
theorem dX3_join_25 : decode cX3_join 25 = .ok (.iconst (-1), 1) := by decide +kernel
theorem dX3_join_26 : decode cX3_join 26 = .ok (.ireturn, 1) := by decide +kernel
theorem dX3_join_27 : decode cX3_join 27 = .ok (.iload_n 2, 1) := by decide +kernel
theorem dX3_join_28 : decode cX3_join 28 = .ok (.iload_n 3, 1) := by decide +kernel
theorem dX3_join_29 : decode cX3_join 29 = .ok (.if_icmp .ne 8, 3) := by decide +kernel
theorem dX3_join_32 : decode cX3_join 32 = .ok (.bipush (-3), 2) := by decide +kernel
theorem dX3_join_34 : decode cX3_join 34 = .ok (.goto 11, 3) := by decide +kernel
theorem dX3_join_37 : decode cX3_join 37 = .ok (.aload_n 0, 1) := by decide +kernel
theorem dX3_join_38 : decode cX3_join 38 = .ok (.iload_n 1, 1) := by decide +kernel
theorem dX3_join_39 : decode cX3_join 39 = .ok (.iload_n 2, 1) := by decide +kernel
theorem dX3_join_40 : decode cX3_join 40 = .ok (.iload_n 3, 1) := by decide +kernel
theorem dX3_join_41 : decode cX3_join 41 = .ok (.iconst 1, 1) := by decide +kernel
theorem dX3_join_42 : decode cX3_join 42 = .ok (.invokevirtual 102, 3) := by decide +kernel
theorem dX3_join_45 : decode cX3_join 45 = .ok (.ireturn, 1) := by decide +kernel
set_option maxRecDepth 20000 in
theorem ggX3_meet_X3_isSlot : GoodIn wsX3_meet wsX3_isSlot := goodIn_r _ [4, 5, 6, 3, 7] (by decide +kernel) (by decide +kernel)
set_option maxRecDepth 20000 in
theorem gX3_meet_X3_isSlot : GoodIn wsX3_meet (va_wsS RX3 39 yX3_isSlot wsX3_isSlot) := goodIn_app (goodIn_of _ (by decide +kernel)) ggX3_meet_X3_isSlot
set_option maxRecDepth 20000 in
theorem ggX3_meet_X3_isPlace : GoodIn wsX3_meet wsX3_isPlace := goodIn_r _ [11, 12, 13, 14, 3, 15, 16, 5, 6, 7, 30, 31, 32, 33, 34, 35, 36] (by decide +kernel) (by decide +kernel)
set_option maxRecDepth 20000 in
theorem gX3_meet_X3_isPlace : GoodIn wsX3_meet (wsV RX3 96 RX3 yX3_isPlace wsX3_isPlace) := goodIn_app (goodIn_of _ (by decide +kernel)) ggX3_meet_X3_isPlace
set_option maxRecDepth 20000 in
theorem ggX3_meet_X3_common : GoodIn wsX3_meet wsX3_common := goodIn_r _ [20, 8, 9, 10, 3, 11, 12, 13, 14, 15, 16, 5, 6, 7, 21, 22, 23, 24, 25, 26, 27, 28, 29, 30, 31, 32, 33, 34, 35, 36] (by decide +kernel) (by decide +kernel)
set_option maxRecDepth 20000 in
theorem gX3_meet_X3_common : GoodIn wsX3_meet (wsV RX3 102 RX3 yX3_common wsX3_common) := goodIn_app (goodIn_of _ (by decide +kernel)) ggX3_meet_X3_common
theorem dX3_meet_0 : decode cX3_meet 0 = .ok (.iload_n 1, 1) := by decide +kernel
theorem dX3_meet_1 : decode cX3_meet 1 = .ok (.invokestatic 39, 3) := by decide +kernel
theorem dX3_meet_4 : decode cX3_meet 4 = .ok (.ifCond .eq 21, 3) := by decide +kernel
theorem dX3_meet_7 : decode cX3_meet 7 = .ok (.aload_n 0, 1) := by decide +kernel
theorem dX3_meet_8 : decode cX3_meet 8 = .ok (.iload_n 1, 1) := by decide +kernel
theorem dX3_meet_9 : decode cX3_meet 9 = .ok (.iload_n 2, 1) := by decide +kernel
theorem dX3_meet_10 : decode cX3_meet 10 = .ok (.invokevirtual 96, 3) := by decide +kernel
theorem dX3_meet_13 : decode cX3_meet 13 = .ok (.ifCond .eq 12, 3) := by decide +kernel
theorem dX3_meet_16 : decode cX3_meet 16 = .ok (.aload_n 0, 1) := by decide +kernel
theorem dX3_meet_17 : decode cX3_meet 17 = .ok (.iload_n 1, 1) := by decide +kernel
theorem dX3_meet_18 : decode cX3_meet 18 = .ok (.iload_n 3, 1) := by decide +kernel
theorem dX3_meet_19 : decode cX3_meet 19 = .ok (.invokevirtual 96, 3) := by decide +kernel
theorem dX3_meet_22 : decode cX3_meet 22 = .ok (.ifCond .ne 5, 3) := by decide +kernel
theorem dX3_meet_25 : decode cX3_meet 25 = .ok (.iconst (-1), 1) := by decide +kernel
theorem dX3_meet_26 : decode cX3_meet 26 = .ok (.ireturn, 1) := by decide +kernel
theorem dX3_meet_27 : decode cX3_meet 27 = .ok (.iload_n 2, 1) := by decide +kernel
theorem dX3_meet_28 : decode cX3_meet 28 = .ok (.iload_n 3, 1) := by decide +kernel
theorem dX3_meet_29 : decode cX3_meet 29 = .ok (.if_icmp .ne 8, 3) := by decide +kernel
theorem dX3_meet_32 : decode cX3_meet 32 = .ok (.bipush (-3), 2) := by decide +kernel
theorem dX3_meet_34 : decode cX3_meet 34 = .ok (.goto 11, 3) := by decide +kernel
theorem dX3_meet_37 : decode cX3_meet 37 = .ok (.aload_n 0, 1) := by decide +kernel
theorem dX3_meet_38 : decode cX3_meet 38 = .ok (.iload_n 1, 1) := by decide +kernel
theorem dX3_meet_39 : decode cX3_meet 39 = .ok (.iload_n 2, 1) := by decide +kernel
theorem dX3_meet_40 : decode cX3_meet 40 = .ok (.iload_n 3, 1) := by decide +kernel
theorem dX3_meet_41 : decode cX3_meet 41 = .ok (.iconst 0, 1) := by decide +kernel
theorem dX3_meet_42 : decode cX3_meet 42 = .ok (.invokevirtual 102, 3) := by decide +kernel
theorem dX3_meet_45 : decode cX3_meet 45 = .ok (.ireturn, 1) := by decide +kernel
set_option maxRecDepth 20000 in
theorem ggX3_bad_X3_isSlot : GoodIn wsX3_bad wsX3_isSlot := goodIn_r _ [4, 5, 6, 3, 7] (by decide +kernel) (by decide +kernel)
set_option maxRecDepth 20000 in
theorem gX3_bad_X3_isSlot : GoodIn wsX3_bad (va_wsS RX3 39 yX3_isSlot wsX3_isSlot) := goodIn_app (goodIn_of _ (by decide +kernel)) ggX3_bad_X3_isSlot
set_option maxRecDepth 20000 in
theorem ggX3_bad_X3_numbers : GoodIn wsX3_bad wsX3_numbers := goodIn_r _ [11, 12, 18, 19, 20, 21, 22, 23, 24] (by decide +kernel) (by decide +kernel)
set_option maxRecDepth 20000 in
theorem gX3_bad_X3_numbers : GoodIn wsX3_bad (wsV RX3 35 RX3 yX3_numbers wsX3_numbers) := goodIn_app (goodIn_of _ (by decide +kernel)) ggX3_bad_X3_numbers
set_option maxRecDepth 20000 in
theorem ggX3_bad_X3_times : GoodIn wsX3_bad wsX3_times := goodIn_r _ [16, 12, 17, 18, 19, 20, 21, 22, 23, 24] (by decide +kernel) (by decide +kernel)
set_option maxRecDepth 20000 in
theorem gX3_bad_X3_times : GoodIn wsX3_bad (wsV RX3 51 RX3 yX3_times wsX3_times) := goodIn_app (goodIn_of _ (by decide +kernel)) ggX3_bad_X3_times
theorem dX3_bad_0 : decode cX3_bad 0 = .ok (.iload_n 1, 1) := by decide +kernel
theorem dX3_bad_1 : decode cX3_bad 1 = .ok (.invokestatic 39, 3) := by decide +kernel
theorem dX3_bad_4 : decode cX3_bad 4 = .ok (.ifCond .ne 5, 3) := by decide +kernel
theorem dX3_bad_7 : decode cX3_bad 7 = .ok (.iconst (-1), 1) := by decide +kernel
theorem dX3_bad_8 : decode cX3_bad 8 = .ok (.ireturn, 1) := by decide +kernel
theorem dX3_bad_9 : decode cX3_bad 9 = .ok (.aload_n 0, 1) := by decide +kernel
theorem dX3_bad_10 : decode cX3_bad 10 = .ok (.iload_n 1, 1) := by decide +kernel
theorem dX3_bad_11 : decode cX3_bad 11 = .ok (.invokevirtual 35, 3) := by decide +kernel
theorem dX3_bad_14 : decode cX3_bad 14 = .ok (.istore_n 2, 1) := by decide +kernel
theorem dX3_bad_15 : decode cX3_bad 15 = .ok (.iconst 0, 1) := by decide +kernel
theorem dX3_bad_16 : decode cX3_bad 16 = .ok (.istore_n 3, 1) := by decide +kernel
theorem dX3_bad_17 : decode cX3_bad 17 = .ok (.iconst 1, 1) := by decide +kernel
theorem dX3_bad_18 : decode cX3_bad 18 = .ok (.istore 4, 2) := by decide +kernel
theorem dX3_bad_20 : decode cX3_bad 20 = .ok (.iload 4, 2) := by decide +kernel
theorem dX3_bad_22 : decode cX3_bad 22 = .ok (.iload_n 2, 1) := by decide +kernel
theorem dX3_bad_23 : decode cX3_bad 23 = .ok (.if_icmp .ge 84, 3) := by decide +kernel
theorem dX3_bad_26 : decode cX3_bad 26 = .ok (.iconst 0, 1) := by decide +kernel
theorem dX3_bad_27 : decode cX3_bad 27 = .ok (.istore 5, 2) := by decide +kernel
theorem dX3_bad_29 : decode cX3_bad 29 = .ok (.iload 5, 2) := by decide +kernel
theorem dX3_bad_31 : decode cX3_bad 31 = .ok (.iload_n 2, 1) := by decide +kernel
theorem dX3_bad_32 : decode cX3_bad 32 = .ok (.if_icmp .ge 69, 3) := by decide +kernel
theorem dX3_bad_35 : decode cX3_bad 35 = .ok (.iconst 0, 1) := by decide +kernel
theorem dX3_bad_36 : decode cX3_bad 36 = .ok (.istore 6, 2) := by decide +kernel
theorem dX3_bad_38 : decode cX3_bad 38 = .ok (.iconst 0, 1) := by decide +kernel
theorem dX3_bad_39 : decode cX3_bad 39 = .ok (.istore 7, 2) := by decide +kernel
theorem dX3_bad_41 : decode cX3_bad 41 = .ok (.iload 7, 2) := by decide +kernel
theorem dX3_bad_43 : decode cX3_bad 43 = .ok (.iload_n 2, 1) := by decide +kernel
theorem dX3_bad_44 : decode cX3_bad 44 = .ok (.if_icmp .ge 33, 3) := by decide +kernel
theorem dX3_bad_47 : decode cX3_bad 47 = .ok (.iload 6, 2) := by decide +kernel
theorem dX3_bad_49 : decode cX3_bad 49 = .ok (.aload_n 0, 1) := by decide +kernel
theorem dX3_bad_50 : decode cX3_bad 50 = .ok (.iload_n 1, 1) := by decide +kernel
theorem dX3_bad_51 : decode cX3_bad 51 = .ok (.iload 4, 2) := by decide +kernel
theorem dX3_bad_53 : decode cX3_bad 53 = .ok (.iload 7, 2) := by decide +kernel
theorem dX3_bad_55 : decode cX3_bad 55 = .ok (.invokevirtual 51, 3) := by decide +kernel
theorem dX3_bad_58 : decode cX3_bad 58 = .ok (.iload 5, 2) := by decide +kernel
theorem dX3_bad_60 : decode cX3_bad 60 = .ok (.if_icmp .ne 7, 3) := by decide +kernel
theorem dX3_bad_63 : decode cX3_bad 63 = .ok (.iconst 1, 1) := by decide +kernel
theorem dX3_bad_64 : decode cX3_bad 64 = .ok (.goto 4, 3) := by decide +kernel
theorem dX3_bad_67 : decode cX3_bad 67 = .ok (.iconst 0, 1) := by decide +kernel
theorem dX3_bad_68 : decode cX3_bad 68 = .ok (.iadd, 1) := by decide +kernel
theorem dX3_bad_69 : decode cX3_bad 69 = .ok (.istore 6, 2) := by decide +kernel
theorem dX3_bad_71 : decode cX3_bad 71 = .ok (.iinc 7 1, 3) := by decide +kernel
theorem dX3_bad_74 : decode cX3_bad 74 = .ok (.goto (-33), 3) := by decide +kernel
theorem dX3_bad_77 : decode cX3_bad 77 = .ok (.iload_n 3, 1) := by decide +kernel
theorem dX3_bad_78 : decode cX3_bad 78 = .ok (.iload 6, 2) := by decide +kernel
theorem dX3_bad_80 : decode cX3_bad 80 = .ok (.iconst 1, 1) := by decide +kernel
theorem dX3_bad_81 : decode cX3_bad 81 = .ok (.if_icmp .eq 11, 3) := by decide +kernel
theorem dX3_bad_84 : decode cX3_bad 84 = .ok (.iload_n 2, 1) := by decide +kernel
theorem dX3_bad_85 : decode cX3_bad 85 = .ok (.iconst 2, 1) := by decide +kernel
theorem dX3_bad_86 : decode cX3_bad 86 = .ok (.idiv, 1) := by decide +kernel
theorem dX3_bad_87 : decode cX3_bad 87 = .ok (.iload_n 2, 1) := by decide +kernel
theorem dX3_bad_88 : decode cX3_bad 88 = .ok (.imul, 1) := by decide +kernel
theorem dX3_bad_89 : decode cX3_bad 89 = .ok (.goto 4, 3) := by decide +kernel
theorem dX3_bad_92 : decode cX3_bad 92 = .ok (.iconst 0, 1) := by decide +kernel
theorem dX3_bad_93 : decode cX3_bad 93 = .ok (.iadd, 1) := by decide +kernel
theorem dX3_bad_94 : decode cX3_bad 94 = .ok (.istore_n 3, 1) := by decide +kernel
theorem dX3_bad_95 : decode cX3_bad 95 = .ok (.iinc 5 1, 3) := by decide +kernel
theorem dX3_bad_98 : decode cX3_bad 98 = .ok (.goto (-69), 3) := by decide +kernel
theorem dX3_bad_101 : decode cX3_bad 101 = .ok (.iinc 4 1, 3) := by decide +kernel
theorem dX3_bad_104 : decode cX3_bad 104 = .ok (.goto (-84), 3) := by decide +kernel
theorem dX3_bad_107 : decode cX3_bad 107 = .ok (.iload_n 3, 1) := by decide +kernel
theorem dX3_bad_108 : decode cX3_bad 108 = .ok (.ireturn, 1) := by decide +kernel
set_option maxRecDepth 20000 in
theorem ggX3_rankOf_X3_numbers : GoodIn wsX3_rankOf wsX3_numbers := goodIn_r _ [5, 6, 12, 13, 14, 15, 16, 17, 18] (by decide +kernel) (by decide +kernel)
set_option maxRecDepth 20000 in
theorem gX3_rankOf_X3_numbers : GoodIn wsX3_rankOf (wsV RX3 35 RX3 yX3_numbers wsX3_numbers) := goodIn_app (goodIn_of _ (by decide +kernel)) ggX3_rankOf_X3_numbers
set_option maxRecDepth 20000 in
theorem ggX3_rankOf_X3_times : GoodIn wsX3_rankOf wsX3_times := goodIn_r _ [10, 6, 11, 12, 13, 14, 15, 16, 17, 18] (by decide +kernel) (by decide +kernel)
set_option maxRecDepth 20000 in
theorem gX3_rankOf_X3_times : GoodIn wsX3_rankOf (wsV RX3 51 RX3 yX3_times wsX3_times) := goodIn_app (goodIn_of _ (by decide +kernel)) ggX3_rankOf_X3_times
theorem dX3_rankOf_0 : decode cX3_rankOf 0 = .ok (.iconst 0, 1) := by decide +kernel
theorem dX3_rankOf_1 : decode cX3_rankOf 1 = .ok (.istore_n 3, 1) := by decide +kernel
theorem dX3_rankOf_2 : decode cX3_rankOf 2 = .ok (.iconst 0, 1) := by decide +kernel
theorem dX3_rankOf_3 : decode cX3_rankOf 3 = .ok (.istore 4, 2) := by decide +kernel
theorem dX3_rankOf_5 : decode cX3_rankOf 5 = .ok (.iload 4, 2) := by decide +kernel
theorem dX3_rankOf_7 : decode cX3_rankOf 7 = .ok (.aload_n 0, 1) := by decide +kernel
theorem dX3_rankOf_8 : decode cX3_rankOf 8 = .ok (.iload_n 1, 1) := by decide +kernel
theorem dX3_rankOf_9 : decode cX3_rankOf 9 = .ok (.invokevirtual 35, 3) := by decide +kernel
theorem dX3_rankOf_12 : decode cX3_rankOf 12 = .ok (.if_icmp .ge 22, 3) := by decide +kernel
theorem dX3_rankOf_15 : decode cX3_rankOf 15 = .ok (.iload_n 3, 1) := by decide +kernel
theorem dX3_rankOf_16 : decode cX3_rankOf 16 = .ok (.iconst 1, 1) := by decide +kernel
theorem dX3_rankOf_17 : decode cX3_rankOf 17 = .ok (.aload_n 0, 1) := by decide +kernel
theorem dX3_rankOf_18 : decode cX3_rankOf 18 = .ok (.iload_n 1, 1) := by decide +kernel
theorem dX3_rankOf_19 : decode cX3_rankOf 19 = .ok (.iload 4, 2) := by decide +kernel
theorem dX3_rankOf_21 : decode cX3_rankOf 21 = .ok (.iload_n 2, 1) := by decide +kernel
theorem dX3_rankOf_22 : decode cX3_rankOf 22 = .ok (.invokevirtual 51, 3) := by decide +kernel
theorem dX3_rankOf_25 : decode cX3_rankOf 25 = .ok (.ishl, 1) := by decide +kernel
theorem dX3_rankOf_26 : decode cX3_rankOf 26 = .ok (.ior, 1) := by decide +kernel
theorem dX3_rankOf_27 : decode cX3_rankOf 27 = .ok (.istore_n 3, 1) := by decide +kernel
theorem dX3_rankOf_28 : decode cX3_rankOf 28 = .ok (.iinc 4 1, 3) := by decide +kernel
theorem dX3_rankOf_31 : decode cX3_rankOf 31 = .ok (.goto (-26), 3) := by decide +kernel
theorem dX3_rankOf_34 : decode cX3_rankOf 34 = .ok (.iconst 0, 1) := by decide +kernel
theorem dX3_rankOf_35 : decode cX3_rankOf 35 = .ok (.istore 4, 2) := by decide +kernel
theorem dX3_rankOf_37 : decode cX3_rankOf 37 = .ok (.iconst 0, 1) := by decide +kernel
theorem dX3_rankOf_38 : decode cX3_rankOf 38 = .ok (.istore 5, 2) := by decide +kernel
theorem dX3_rankOf_40 : decode cX3_rankOf 40 = .ok (.iload 5, 2) := by decide +kernel
theorem dX3_rankOf_42 : decode cX3_rankOf 42 = .ok (.bipush 16, 2) := by decide +kernel
theorem dX3_rankOf_44 : decode cX3_rankOf 44 = .ok (.if_icmp .ge 20, 3) := by decide +kernel
theorem dX3_rankOf_47 : decode cX3_rankOf 47 = .ok (.iload 4, 2) := by decide +kernel
theorem dX3_rankOf_49 : decode cX3_rankOf 49 = .ok (.iload_n 3, 1) := by decide +kernel
theorem dX3_rankOf_50 : decode cX3_rankOf 50 = .ok (.iload 5, 2) := by decide +kernel
theorem dX3_rankOf_52 : decode cX3_rankOf 52 = .ok (.ishr, 1) := by decide +kernel
theorem dX3_rankOf_53 : decode cX3_rankOf 53 = .ok (.iconst 1, 1) := by decide +kernel
theorem dX3_rankOf_54 : decode cX3_rankOf 54 = .ok (.iand, 1) := by decide +kernel
theorem dX3_rankOf_55 : decode cX3_rankOf 55 = .ok (.iadd, 1) := by decide +kernel
theorem dX3_rankOf_56 : decode cX3_rankOf 56 = .ok (.istore 4, 2) := by decide +kernel
theorem dX3_rankOf_58 : decode cX3_rankOf 58 = .ok (.iinc 5 1, 3) := by decide +kernel
theorem dX3_rankOf_61 : decode cX3_rankOf 61 = .ok (.goto (-21), 3) := by decide +kernel
theorem dX3_rankOf_64 : decode cX3_rankOf 64 = .ok (.iconst 0, 1) := by decide +kernel
theorem dX3_rankOf_65 : decode cX3_rankOf 65 = .ok (.istore 5, 2) := by decide +kernel
theorem dX3_rankOf_67 : decode cX3_rankOf 67 = .ok (.iconst 1, 1) := by decide +kernel
theorem dX3_rankOf_68 : decode cX3_rankOf 68 = .ok (.iload 5, 2) := by decide +kernel
theorem dX3_rankOf_70 : decode cX3_rankOf 70 = .ok (.ishl, 1) := by decide +kernel
theorem dX3_rankOf_71 : decode cX3_rankOf 71 = .ok (.iload 4, 2) := by decide +kernel
theorem dX3_rankOf_73 : decode cX3_rankOf 73 = .ok (.if_icmp .ge 9, 3) := by decide +kernel
theorem dX3_rankOf_76 : decode cX3_rankOf 76 = .ok (.iinc 5 1, 3) := by decide +kernel
theorem dX3_rankOf_79 : decode cX3_rankOf 79 = .ok (.goto (-12), 3) := by decide +kernel
theorem dX3_rankOf_82 : decode cX3_rankOf 82 = .ok (.iload 5, 2) := by decide +kernel
theorem dX3_rankOf_84 : decode cX3_rankOf 84 = .ok (.ireturn, 1) := by decide +kernel
set_option maxRecDepth 20000 in
theorem ggX3_rank_X3_isSlot : GoodIn wsX3_rank wsX3_isSlot := goodIn_r _ [4, 5, 6, 3, 7] (by decide +kernel) (by decide +kernel)
set_option maxRecDepth 20000 in
theorem gX3_rank_X3_isSlot : GoodIn wsX3_rank (va_wsS RX3 39 yX3_isSlot wsX3_isSlot) := goodIn_app (goodIn_of _ (by decide +kernel)) ggX3_rank_X3_isSlot
set_option maxRecDepth 20000 in
theorem ggX3_rank_X3_isNumber : GoodIn wsX3_rank wsX3_isNumber := goodIn_r _ [11, 12, 13, 14, 3, 15, 16, 5, 6, 7, 26, 27, 28, 29, 30, 31, 32] (by decide +kernel) (by decide +kernel)
set_option maxRecDepth 20000 in
theorem gX3_rank_X3_isNumber : GoodIn wsX3_rank (wsV RX3 47 RX3 yX3_isNumber wsX3_isNumber) := goodIn_app (goodIn_of _ (by decide +kernel)) ggX3_rank_X3_isNumber
set_option maxRecDepth 20000 in
theorem ggX3_rank_X3_rankOf : GoodIn wsX3_rank wsX3_rankOf := goodIn_r _ [20, 12, 13, 14, 3, 15, 16, 21, 22, 23, 24, 25, 26, 27, 28, 29, 30, 31, 32] (by decide +kernel) (by decide +kernel)
set_option maxRecDepth 20000 in
theorem gX3_rank_X3_rankOf : GoodIn wsX3_rank (wsV RX3 106 RX3 yX3_rankOf wsX3_rankOf) := goodIn_app (goodIn_of _ (by decide +kernel)) ggX3_rank_X3_rankOf
theorem dX3_rank_0 : decode cX3_rank 0 = .ok (.iload_n 1, 1) := by decide +kernel
theorem dX3_rank_1 : decode cX3_rank 1 = .ok (.invokestatic 39, 3) := by decide +kernel
theorem dX3_rank_4 : decode cX3_rank 4 = .ok (.ifCond .eq 21, 3) := by decide +kernel
theorem dX3_rank_7 : decode cX3_rank 7 = .ok (.aload_n 0, 1) := by decide +kernel
theorem dX3_rank_8 : decode cX3_rank 8 = .ok (.iload_n 1, 1) := by decide +kernel
theorem dX3_rank_9 : decode cX3_rank 9 = .ok (.iload_n 2, 1) := by decide +kernel
theorem dX3_rank_10 : decode cX3_rank 10 = .ok (.invokevirtual 47, 3) := by decide +kernel
theorem dX3_rank_13 : decode cX3_rank 13 = .ok (.ifCond .eq 12, 3) := by decide +kernel
theorem dX3_rank_16 : decode cX3_rank 16 = .ok (.aload_n 0, 1) := by decide +kernel
theorem dX3_rank_17 : decode cX3_rank 17 = .ok (.iload_n 1, 1) := by decide +kernel
theorem dX3_rank_18 : decode cX3_rank 18 = .ok (.iload_n 2, 1) := by decide +kernel
theorem dX3_rank_19 : decode cX3_rank 19 = .ok (.invokevirtual 106, 3) := by decide +kernel
theorem dX3_rank_22 : decode cX3_rank 22 = .ok (.goto 4, 3) := by decide +kernel
theorem dX3_rank_25 : decode cX3_rank 25 = .ok (.iconst (-1), 1) := by decide +kernel
theorem dX3_rank_26 : decode cX3_rank 26 = .ok (.ireturn, 1) := by decide +kernel
set_option maxRecDepth 20000 in
theorem ggX3_ranks_X3_isSlot : GoodIn wsX3_ranks wsX3_isSlot := goodIn_r _ [4, 5, 6, 3, 7] (by decide +kernel) (by decide +kernel)
set_option maxRecDepth 20000 in
theorem gX3_ranks_X3_isSlot : GoodIn wsX3_ranks (va_wsS RX3 39 yX3_isSlot wsX3_isSlot) := goodIn_app (goodIn_of _ (by decide +kernel)) ggX3_ranks_X3_isSlot
set_option maxRecDepth 20000 in
theorem ggX3_ranks_X3_in : GoodIn wsX3_ranks wsX3_in := goodIn_r _ [7] (by decide +kernel) (by decide +kernel)
set_option maxRecDepth 20000 in
theorem gX3_ranks_X3_in : GoodIn wsX3_ranks (va_wsS RX3 31 yX3_in wsX3_in) := goodIn_app (goodIn_of _ (by decide +kernel)) ggX3_ranks_X3_in
set_option maxRecDepth 20000 in
theorem ggX3_ranks_X3_numbers : GoodIn wsX3_ranks wsX3_numbers := goodIn_r _ [11, 12, 22, 23, 24, 25, 26, 27, 28] (by decide +kernel) (by decide +kernel)
set_option maxRecDepth 20000 in
theorem gX3_ranks_X3_numbers : GoodIn wsX3_ranks (wsV RX3 35 RX3 yX3_numbers wsX3_numbers) := goodIn_app (goodIn_of _ (by decide +kernel)) ggX3_ranks_X3_numbers
set_option maxRecDepth 20000 in
theorem ggX3_ranks_X3_rankOf : GoodIn wsX3_ranks wsX3_rankOf := goodIn_r _ [16, 8, 9, 10, 3, 11, 12, 17, 18, 19, 20, 21, 22, 23, 24, 25, 26, 27, 28] (by decide +kernel) (by decide +kernel)
set_option maxRecDepth 20000 in
theorem gX3_ranks_X3_rankOf : GoodIn wsX3_ranks (wsV RX3 106 RX3 yX3_rankOf wsX3_rankOf) := goodIn_app (goodIn_of _ (by decide +kernel)) ggX3_ranks_X3_rankOf
theorem dX3_ranks_0 : decode cX3_ranks 0 = .ok (.iload_n 1, 1) := by decide +kernel
theorem dX3_ranks_1 : decode cX3_ranks 1 = .ok (.invokestatic 39, 3) := by decide +kernel
theorem dX3_ranks_4 : decode cX3_ranks 4 = .ok (.ifCond .ne 5, 3) := by decide +kernel
theorem dX3_ranks_7 : decode cX3_ranks 7 = .ok (.iconst (-1), 1) := by decide +kernel
theorem dX3_ranks_8 : decode cX3_ranks 8 = .ok (.ireturn, 1) := by decide +kernel
theorem dX3_ranks_9 : decode cX3_ranks 9 = .ok (.iload_n 2, 1) := by decide +kernel
theorem dX3_ranks_10 : decode cX3_ranks 10 = .ok (.iconst 0, 1) := by decide +kernel
theorem dX3_ranks_11 : decode cX3_ranks 11 = .ok (.iconst 4, 1) := by decide +kernel
theorem dX3_ranks_12 : decode cX3_ranks 12 = .ok (.invokestatic 31, 3) := by decide +kernel
theorem dX3_ranks_15 : decode cX3_ranks 15 = .ok (.ifCond .ne 6, 3) := by decide +kernel
theorem dX3_ranks_18 : decode cX3_ranks 18 = .ok (.bipush (-2), 2) := by decide +kernel
theorem dX3_ranks_20 : decode cX3_ranks 20 = .ok (.ireturn, 1) := by decide +kernel
theorem dX3_ranks_21 : decode cX3_ranks 21 = .ok (.iconst 0, 1) := by decide +kernel
theorem dX3_ranks_22 : decode cX3_ranks 22 = .ok (.istore_n 3, 1) := by decide +kernel
theorem dX3_ranks_23 : decode cX3_ranks 23 = .ok (.iconst 0, 1) := by decide +kernel
theorem dX3_ranks_24 : decode cX3_ranks 24 = .ok (.istore 4, 2) := by decide +kernel
theorem dX3_ranks_26 : decode cX3_ranks 26 = .ok (.iload 4, 2) := by decide +kernel
theorem dX3_ranks_28 : decode cX3_ranks 28 = .ok (.aload_n 0, 1) := by decide +kernel
theorem dX3_ranks_29 : decode cX3_ranks 29 = .ok (.iload_n 1, 1) := by decide +kernel
theorem dX3_ranks_30 : decode cX3_ranks 30 = .ok (.invokevirtual 35, 3) := by decide +kernel
theorem dX3_ranks_33 : decode cX3_ranks 33 = .ok (.if_icmp .ge 28, 3) := by decide +kernel
theorem dX3_ranks_36 : decode cX3_ranks 36 = .ok (.iload_n 3, 1) := by decide +kernel
theorem dX3_ranks_37 : decode cX3_ranks 37 = .ok (.aload_n 0, 1) := by decide +kernel
theorem dX3_ranks_38 : decode cX3_ranks 38 = .ok (.iload_n 1, 1) := by decide +kernel
theorem dX3_ranks_39 : decode cX3_ranks 39 = .ok (.iload 4, 2) := by decide +kernel
theorem dX3_ranks_41 : decode cX3_ranks 41 = .ok (.invokevirtual 106, 3) := by decide +kernel
theorem dX3_ranks_44 : decode cX3_ranks 44 = .ok (.iload_n 2, 1) := by decide +kernel
theorem dX3_ranks_45 : decode cX3_ranks 45 = .ok (.if_icmp .ne 7, 3) := by decide +kernel
theorem dX3_ranks_48 : decode cX3_ranks 48 = .ok (.iconst 1, 1) := by decide +kernel
theorem dX3_ranks_49 : decode cX3_ranks 49 = .ok (.goto 4, 3) := by decide +kernel
theorem dX3_ranks_52 : decode cX3_ranks 52 = .ok (.iconst 0, 1) := by decide +kernel
theorem dX3_ranks_53 : decode cX3_ranks 53 = .ok (.iadd, 1) := by decide +kernel
theorem dX3_ranks_54 : decode cX3_ranks 54 = .ok (.istore_n 3, 1) := by decide +kernel
theorem dX3_ranks_55 : decode cX3_ranks 55 = .ok (.iinc 4 1, 3) := by decide +kernel
theorem dX3_ranks_58 : decode cX3_ranks 58 = .ok (.goto (-32), 3) := by decide +kernel
theorem dX3_ranks_61 : decode cX3_ranks 61 = .ok (.iload_n 3, 1) := by decide +kernel
theorem dX3_ranks_62 : decode cX3_ranks 62 = .ok (.ireturn, 1) := by decide +kernel
set_option maxRecDepth 20000 in
theorem ggX3_cubes_X3_in : GoodIn wsX3_cubes wsX3_in := goodIn_r _ [5] (by decide +kernel) (by decide +kernel)
set_option maxRecDepth 20000 in
theorem gX3_cubes_X3_in : GoodIn wsX3_cubes (va_wsS RX3 31 yX3_in wsX3_in) := goodIn_app (goodIn_of _ (by decide +kernel)) ggX3_cubes_X3_in
set_option maxRecDepth 20000 in
theorem ggX3_cubes_X3_clear : GoodIn wsX3_cubes wsX3_clear := goodIn_r _ [9, 10, 1, 23, 24, 25, 26, 27, 28, 29] (by decide +kernel) (by decide +kernel)
set_option maxRecDepth 20000 in
theorem gX3_cubes_X3_clear : GoodIn wsX3_cubes (wsV RX3 43 RX3 yX3_clear wsX3_clear) := goodIn_app (goodIn_of _ (by decide +kernel)) ggX3_cubes_X3_clear
set_option maxRecDepth 20000 in
theorem ggX3_cubes_X3_firstBroken : GoodIn wsX3_cubes wsX3_firstBroken := goodIn_r _ [14, 15, 16, 17, 4, 18, 10, 19, 20, 21, 22, 1, 23, 24, 25, 26, 27, 28, 29] (by decide +kernel) (by decide +kernel)
set_option maxRecDepth 20000 in
theorem gX3_cubes_X3_firstBroken : GoodIn wsX3_cubes (wsV RX3 55 RX3 yX3_firstBroken wsX3_firstBroken) := goodIn_app (goodIn_of _ (by decide +kernel)) ggX3_cubes_X3_firstBroken
theorem dX3_cubes_0 : decode cX3_cubes 0 = .ok (.iload_n 1, 1) := by decide +kernel
theorem dX3_cubes_1 : decode cX3_cubes 1 = .ok (.iconst 1, 1) := by decide +kernel
theorem dX3_cubes_2 : decode cX3_cubes 2 = .ok (.iconst 2, 1) := by decide +kernel
theorem dX3_cubes_3 : decode cX3_cubes 3 = .ok (.invokestatic 31, 3) := by decide +kernel
theorem dX3_cubes_6 : decode cX3_cubes 6 = .ok (.ifCond .ne 6, 3) := by decide +kernel
theorem dX3_cubes_9 : decode cX3_cubes 9 = .ok (.bipush (-2), 2) := by decide +kernel
theorem dX3_cubes_11 : decode cX3_cubes 11 = .ok (.ireturn, 1) := by decide +kernel
theorem dX3_cubes_12 : decode cX3_cubes 12 = .ok (.aload_n 0, 1) := by decide +kernel
theorem dX3_cubes_13 : decode cX3_cubes 13 = .ok (.iconst 4, 1) := by decide +kernel
theorem dX3_cubes_14 : decode cX3_cubes 14 = .ok (.iload_n 1, 1) := by decide +kernel
theorem dX3_cubes_15 : decode cX3_cubes 15 = .ok (.invokevirtual 43, 3) := by decide +kernel
theorem dX3_cubes_18 : decode cX3_cubes 18 = .ok (.iconst 0, 1) := by decide +kernel
theorem dX3_cubes_19 : decode cX3_cubes 19 = .ok (.istore_n 2, 1) := by decide +kernel
theorem dX3_cubes_20 : decode cX3_cubes 20 = .ok (.iconst 0, 1) := by decide +kernel
theorem dX3_cubes_21 : decode cX3_cubes 21 = .ok (.istore_n 3, 1) := by decide +kernel
theorem dX3_cubes_22 : decode cX3_cubes 22 = .ok (.iload_n 3, 1) := by decide +kernel
theorem dX3_cubes_23 : decode cX3_cubes 23 = .ok (.iconst 1, 1) := by decide +kernel
theorem dX3_cubes_24 : decode cX3_cubes 24 = .ok (.iload_n 1, 1) := by decide +kernel
theorem dX3_cubes_25 : decode cX3_cubes 25 = .ok (.iload_n 1, 1) := by decide +kernel
theorem dX3_cubes_26 : decode cX3_cubes 26 = .ok (.imul, 1) := by decide +kernel
theorem dX3_cubes_27 : decode cX3_cubes 27 = .ok (.iload_n 1, 1) := by decide +kernel
theorem dX3_cubes_28 : decode cX3_cubes 28 = .ok (.imul, 1) := by decide +kernel
theorem dX3_cubes_29 : decode cX3_cubes 29 = .ok (.ishl, 1) := by decide +kernel
theorem dX3_cubes_30 : decode cX3_cubes 30 = .ok (.if_icmp .ge 75, 3) := by decide +kernel
theorem dX3_cubes_33 : decode cX3_cubes 33 = .ok (.iconst 0, 1) := by decide +kernel
theorem dX3_cubes_34 : decode cX3_cubes 34 = .ok (.istore 4, 2) := by decide +kernel
theorem dX3_cubes_36 : decode cX3_cubes 36 = .ok (.iload 4, 2) := by decide +kernel
theorem dX3_cubes_38 : decode cX3_cubes 38 = .ok (.iload_n 1, 1) := by decide +kernel
theorem dX3_cubes_39 : decode cX3_cubes 39 = .ok (.iload_n 1, 1) := by decide +kernel
theorem dX3_cubes_40 : decode cX3_cubes 40 = .ok (.imul, 1) := by decide +kernel
theorem dX3_cubes_41 : decode cX3_cubes 41 = .ok (.if_icmp .ge 40, 3) := by decide +kernel
theorem dX3_cubes_44 : decode cX3_cubes 44 = .ok (.aload_n 0, 1) := by decide +kernel
theorem dX3_cubes_45 : decode cX3_cubes 45 = .ok (.getfield 13, 3) := by decide +kernel
theorem dX3_cubes_48 : decode cX3_cubes 48 = .ok (.bipush 64, 2) := by decide +kernel
theorem dX3_cubes_50 : decode cX3_cubes 50 = .ok (.iconst 4, 1) := by decide +kernel
theorem dX3_cubes_51 : decode cX3_cubes 51 = .ok (.iload 4, 2) := by decide +kernel
theorem dX3_cubes_53 : decode cX3_cubes 53 = .ok (.iload_n 1, 1) := by decide +kernel
theorem dX3_cubes_54 : decode cX3_cubes 54 = .ok (.idiv, 1) := by decide +kernel
theorem dX3_cubes_55 : decode cX3_cubes 55 = .ok (.imul, 1) := by decide +kernel
theorem dX3_cubes_56 : decode cX3_cubes 56 = .ok (.iadd, 1) := by decide +kernel
theorem dX3_cubes_57 : decode cX3_cubes 57 = .ok (.iload 4, 2) := by decide +kernel
theorem dX3_cubes_59 : decode cX3_cubes 59 = .ok (.iload_n 1, 1) := by decide +kernel
theorem dX3_cubes_60 : decode cX3_cubes 60 = .ok (.irem, 1) := by decide +kernel
theorem dX3_cubes_61 : decode cX3_cubes 61 = .ok (.iadd, 1) := by decide +kernel
theorem dX3_cubes_62 : decode cX3_cubes 62 = .ok (.iload_n 3, 1) := by decide +kernel
theorem dX3_cubes_63 : decode cX3_cubes 63 = .ok (.iload_n 1, 1) := by decide +kernel
theorem dX3_cubes_64 : decode cX3_cubes 64 = .ok (.iload 4, 2) := by decide +kernel
theorem dX3_cubes_66 : decode cX3_cubes 66 = .ok (.imul, 1) := by decide +kernel
theorem dX3_cubes_67 : decode cX3_cubes 67 = .ok (.ishr, 1) := by decide +kernel
theorem dX3_cubes_68 : decode cX3_cubes 68 = .ok (.iconst 1, 1) := by decide +kernel
theorem dX3_cubes_69 : decode cX3_cubes 69 = .ok (.iload_n 1, 1) := by decide +kernel
theorem dX3_cubes_70 : decode cX3_cubes 70 = .ok (.ishl, 1) := by decide +kernel
theorem dX3_cubes_71 : decode cX3_cubes 71 = .ok (.iconst 1, 1) := by decide +kernel
theorem dX3_cubes_72 : decode cX3_cubes 72 = .ok (.isub, 1) := by decide +kernel
theorem dX3_cubes_73 : decode cX3_cubes 73 = .ok (.iand, 1) := by decide +kernel
theorem dX3_cubes_74 : decode cX3_cubes 74 = .ok (.iastore, 1) := by decide +kernel
theorem dX3_cubes_75 : decode cX3_cubes 75 = .ok (.iinc 4 1, 3) := by decide +kernel
theorem dX3_cubes_78 : decode cX3_cubes 78 = .ok (.goto (-42), 3) := by decide +kernel
theorem dX3_cubes_81 : decode cX3_cubes 81 = .ok (.iload_n 2, 1) := by decide +kernel
theorem dX3_cubes_82 : decode cX3_cubes 82 = .ok (.aload_n 0, 1) := by decide +kernel
theorem dX3_cubes_83 : decode cX3_cubes 83 = .ok (.iconst 4, 1) := by decide +kernel
theorem dX3_cubes_84 : decode cX3_cubes 84 = .ok (.invokevirtual 55, 3) := by decide +kernel
theorem dX3_cubes_87 : decode cX3_cubes 87 = .ok (.bipush (-9), 2) := by decide +kernel
theorem dX3_cubes_89 : decode cX3_cubes 89 = .ok (.if_icmp .ne 7, 3) := by decide +kernel
theorem dX3_cubes_92 : decode cX3_cubes 92 = .ok (.iconst 1, 1) := by decide +kernel
theorem dX3_cubes_93 : decode cX3_cubes 93 = .ok (.goto 4, 3) := by decide +kernel
theorem dX3_cubes_96 : decode cX3_cubes 96 = .ok (.iconst 0, 1) := by decide +kernel
theorem dX3_cubes_97 : decode cX3_cubes 97 = .ok (.iadd, 1) := by decide +kernel
theorem dX3_cubes_98 : decode cX3_cubes 98 = .ok (.istore_n 2, 1) := by decide +kernel
theorem dX3_cubes_99 : decode cX3_cubes 99 = .ok (.iinc 3 1, 3) := by decide +kernel
theorem dX3_cubes_102 : decode cX3_cubes 102 = .ok (.goto (-80), 3) := by decide +kernel
theorem dX3_cubes_105 : decode cX3_cubes 105 = .ok (.iload_n 2, 1) := by decide +kernel
theorem dX3_cubes_106 : decode cX3_cubes 106 = .ok (.ireturn, 1) := by decide +kernel
