set_option maxRecDepth 20000 in
theorem ggX0_has_X0_lastOf : GoodIn wsX0_has wsX0_lastOf := goodIn_r _ [4, 5, 6, 3, 7, 8, 9, 10, 11, 12, 13, 14, 15, 16, 17] (by decide +kernel) (by decide +kernel)
set_option maxRecDepth 20000 in
theorem gX0_has_X0_lastOf : GoodIn wsX0_has (va_wsS RX0 9 yX0_lastOf wsX0_lastOf) := goodIn_app (goodIn_of _ (by decide +kernel)) ggX0_has_X0_lastOf
theorem dX0_has_0 : decode cX0_has 0 = .ok (.iload_n 1, 1) := by decide +kernel
theorem dX0_has_1 : decode cX0_has 1 = .ok (.ifCond .lt 15, 3) := by decide +kernel
theorem dX0_has_4 : decode cX0_has 4 = .ok (.iload_n 1, 1) := by decide +kernel
theorem dX0_has_5 : decode cX0_has 5 = .ok (.aload_n 0, 1) := by decide +kernel
theorem dX0_has_6 : decode cX0_has 6 = .ok (.invokestatic 9, 3) := by decide +kernel
theorem dX0_has_9 : decode cX0_has 9 = .ok (.if_icmp .gt 7, 3) := by decide +kernel
theorem dX0_has_12 : decode cX0_has 12 = .ok (.iconst 1, 1) := by decide +kernel
theorem dX0_has_13 : decode cX0_has 13 = .ok (.goto 4, 3) := by decide +kernel
theorem dX0_has_16 : decode cX0_has 16 = .ok (.iconst 0, 1) := by decide +kernel
theorem dX0_has_17 : decode cX0_has 17 = .ok (.ireturn, 1) := by decide +kernel
set_option maxRecDepth 20000 in
theorem ggX0_insideOf_X1_size : GoodIn wsX0_insideOf wsX1_size := goodIn_r _ [5, 6, 7, 8, 9, 10] (by decide +kernel) (by decide +kernel)
set_option maxRecDepth 20000 in
theorem gX0_insideOf_X1_size : GoodIn wsX0_insideOf (wsV RX0 15 RX1 yX1_size wsX1_size) := goodIn_app (goodIn_of _ (by decide +kernel)) ggX0_insideOf_X1_size
theorem dX0_insideOf_0 : decode cX0_insideOf 0 = .ok (.aload_n 0, 1) := by decide +kernel
theorem dX0_insideOf_1 : decode cX0_insideOf 1 = .ok (.invokevirtual 15, 3) := by decide +kernel
theorem dX0_insideOf_4 : decode cX0_insideOf 4 = .ok (.aload_n 0, 1) := by decide +kernel
theorem dX0_insideOf_5 : decode cX0_insideOf 5 = .ok (.invokevirtual 15, 3) := by decide +kernel
theorem dX0_insideOf_8 : decode cX0_insideOf 8 = .ok (.imul, 1) := by decide +kernel
theorem dX0_insideOf_9 : decode cX0_insideOf 9 = .ok (.ireturn, 1) := by decide +kernel
set_option maxRecDepth 20000 in
theorem ggX0_lastOf_X0_insideOf : GoodIn wsX0_lastOf wsX0_insideOf := goodIn_r _ [4, 5, 6, 7, 8, 9, 10, 11, 12, 13, 14] (by decide +kernel) (by decide +kernel)
set_option maxRecDepth 20000 in
theorem gX0_lastOf_X0_insideOf : GoodIn wsX0_lastOf (va_wsS RX0 21 yX0_insideOf wsX0_insideOf) := goodIn_app (goodIn_of _ (by decide +kernel)) ggX0_lastOf_X0_insideOf
set_option maxRecDepth 20000 in
theorem ggX0_lastOf_X1_size : GoodIn wsX0_lastOf wsX1_size := goodIn_r _ [9, 10, 11, 12, 13, 14] (by decide +kernel) (by decide +kernel)
set_option maxRecDepth 20000 in
theorem gX0_lastOf_X1_size : GoodIn wsX0_lastOf (wsV RX0 15 RX1 yX1_size wsX1_size) := goodIn_app (goodIn_of _ (by decide +kernel)) ggX0_lastOf_X1_size
theorem dX0_lastOf_0 : decode cX0_lastOf 0 = .ok (.aload_n 0, 1) := by decide +kernel
theorem dX0_lastOf_1 : decode cX0_lastOf 1 = .ok (.invokestatic 21, 3) := by decide +kernel
theorem dX0_lastOf_4 : decode cX0_lastOf 4 = .ok (.aload_n 0, 1) := by decide +kernel
theorem dX0_lastOf_5 : decode cX0_lastOf 5 = .ok (.invokevirtual 15, 3) := by decide +kernel
theorem dX0_lastOf_8 : decode cX0_lastOf 8 = .ok (.iadd, 1) := by decide +kernel
theorem dX0_lastOf_9 : decode cX0_lastOf 9 = .ok (.ireturn, 1) := by decide +kernel
set_option maxRecDepth 20000 in
theorem ggX0_highPart_X1_bits : GoodIn wsX0_highPart wsX1_bits := goodIn_r _ [5, 6, 7, 8, 9, 10] (by decide +kernel) (by decide +kernel)
set_option maxRecDepth 20000 in
theorem gX0_highPart_X1_bits : GoodIn wsX0_highPart (wsV RX0 24 RX1 yX1_bits wsX1_bits) := goodIn_app (goodIn_of _ (by decide +kernel)) ggX0_highPart_X1_bits
theorem dX0_highPart_0 : decode cX0_highPart 0 = .ok (.iload_n 1, 1) := by decide +kernel
theorem dX0_highPart_1 : decode cX0_highPart 1 = .ok (.aload_n 0, 1) := by decide +kernel
theorem dX0_highPart_2 : decode cX0_highPart 2 = .ok (.invokevirtual 24, 3) := by decide +kernel
theorem dX0_highPart_5 : decode cX0_highPart 5 = .ok (.ishr, 1) := by decide +kernel
theorem dX0_highPart_6 : decode cX0_highPart 6 = .ok (.ireturn, 1) := by decide +kernel
set_option maxRecDepth 20000 in
theorem ggX0_lowPart_X1_size : GoodIn wsX0_lowPart wsX1_size := goodIn_r _ [5, 6, 7, 8, 9, 10] (by decide +kernel) (by decide +kernel)
set_option maxRecDepth 20000 in
theorem gX0_lowPart_X1_size : GoodIn wsX0_lowPart (wsV RX0 15 RX1 yX1_size wsX1_size) := goodIn_app (goodIn_of _ (by decide +kernel)) ggX0_lowPart_X1_size
theorem dX0_lowPart_0 : decode cX0_lowPart 0 = .ok (.iload_n 1, 1) := by decide +kernel
theorem dX0_lowPart_1 : decode cX0_lowPart 1 = .ok (.aload_n 0, 1) := by decide +kernel
theorem dX0_lowPart_2 : decode cX0_lowPart 2 = .ok (.invokevirtual 15, 3) := by decide +kernel
theorem dX0_lowPart_5 : decode cX0_lowPart 5 = .ok (.iconst 1, 1) := by decide +kernel
theorem dX0_lowPart_6 : decode cX0_lowPart 6 = .ok (.isub, 1) := by decide +kernel
theorem dX0_lowPart_7 : decode cX0_lowPart 7 = .ok (.iand, 1) := by decide +kernel
theorem dX0_lowPart_8 : decode cX0_lowPart 8 = .ok (.ireturn, 1) := by decide +kernel
set_option maxRecDepth 20000 in
theorem ggX0_lies_X0_insideOf : GoodIn wsX0_lies wsX0_insideOf := goodIn_r _ [4, 5, 6, 7, 8, 9, 10, 33, 34, 35, 36] (by decide +kernel) (by decide +kernel)
set_option maxRecDepth 20000 in
theorem gX0_lies_X0_insideOf : GoodIn wsX0_lies (va_wsS RX0 21 yX0_insideOf wsX0_insideOf) := goodIn_app (goodIn_of _ (by decide +kernel)) ggX0_lies_X0_insideOf
set_option maxRecDepth 20000 in
theorem ggX0_lies_X0_lastOf : GoodIn wsX0_lies wsX0_lastOf := goodIn_r _ [13, 1, 2, 3, 4, 5, 6, 7, 8, 9, 10, 33, 34, 35, 36] (by decide +kernel) (by decide +kernel)
set_option maxRecDepth 20000 in
theorem gX0_lies_X0_lastOf : GoodIn wsX0_lies (va_wsS RX0 9 yX0_lastOf wsX0_lastOf) := goodIn_app (goodIn_of _ (by decide +kernel)) ggX0_lies_X0_lastOf
set_option maxRecDepth 20000 in
theorem ggX0_lies_X0_highPart : GoodIn wsX0_lies wsX0_highPart := goodIn_r _ [16, 17, 18, 19, 8, 20, 21, 33, 34, 35, 36] (by decide +kernel) (by decide +kernel)
set_option maxRecDepth 20000 in
theorem gX0_lies_X0_highPart : GoodIn wsX0_lies (va_wsS RX0 27 yX0_highPart wsX0_highPart) := goodIn_app (goodIn_of _ (by decide +kernel)) ggX0_lies_X0_highPart
set_option maxRecDepth 20000 in
theorem ggX0_lies_X1_times : GoodIn wsX0_lies wsX1_times := goodIn_r _ [25, 26, 27, 28, 8, 29, 33, 34, 35, 36] (by decide +kernel) (by decide +kernel)
set_option maxRecDepth 20000 in
theorem gX0_lies_X1_times : GoodIn wsX0_lies (wsV RX0 31 RX1 yX1_times wsX1_times) := goodIn_app (goodIn_of _ (by decide +kernel)) ggX0_lies_X1_times
set_option maxRecDepth 20000 in
theorem ggX0_lies_X0_lowPart : GoodIn wsX0_lies wsX0_lowPart := goodIn_r _ [32, 5, 6, 7, 8, 9, 10, 33, 34, 35, 36] (by decide +kernel) (by decide +kernel)
set_option maxRecDepth 20000 in
theorem gX0_lies_X0_lowPart : GoodIn wsX0_lies (va_wsS RX0 35 yX0_lowPart wsX0_lowPart) := goodIn_app (goodIn_of _ (by decide +kernel)) ggX0_lies_X0_lowPart
theorem dX0_lies_0 : decode cX0_lies 0 = .ok (.aload_n 0, 1) := by decide +kernel
theorem dX0_lies_1 : decode cX0_lies 1 = .ok (.invokestatic 21, 3) := by decide +kernel
theorem dX0_lies_4 : decode cX0_lies 4 = .ok (.istore_n 3, 1) := by decide +kernel
theorem dX0_lies_5 : decode cX0_lies 5 = .ok (.aload_n 0, 1) := by decide +kernel
theorem dX0_lies_6 : decode cX0_lies 6 = .ok (.invokestatic 9, 3) := by decide +kernel
theorem dX0_lies_9 : decode cX0_lies 9 = .ok (.istore 4, 2) := by decide +kernel
theorem dX0_lies_11 : decode cX0_lies 11 = .ok (.iload_n 2, 1) := by decide +kernel
theorem dX0_lies_12 : decode cX0_lies 12 = .ok (.iload 4, 2) := by decide +kernel
theorem dX0_lies_14 : decode cX0_lies 14 = .ok (.if_icmp .ne 14, 3) := by decide +kernel
theorem dX0_lies_17 : decode cX0_lies 17 = .ok (.iload_n 1, 1) := by decide +kernel
theorem dX0_lies_18 : decode cX0_lies 18 = .ok (.iload_n 3, 1) := by decide +kernel
theorem dX0_lies_19 : decode cX0_lies 19 = .ok (.if_icmp .lt 7, 3) := by decide +kernel
theorem dX0_lies_22 : decode cX0_lies 22 = .ok (.iconst 1, 1) := by decide +kernel
theorem dX0_lies_23 : decode cX0_lies 23 = .ok (.goto 4, 3) := by decide +kernel
theorem dX0_lies_26 : decode cX0_lies 26 = .ok (.iconst 0, 1) := by decide +kernel
theorem dX0_lies_27 : decode cX0_lies 27 = .ok (.ireturn, 1) := by decide +kernel
theorem dX0_lies_28 : decode cX0_lies 28 = .ok (.iload_n 2, 1) := by decide +kernel
theorem dX0_lies_29 : decode cX0_lies 29 = .ok (.iload_n 3, 1) := by decide +kernel
theorem dX0_lies_30 : decode cX0_lies 30 = .ok (.if_icmp .lt 26, 3) := by decide +kernel
theorem dX0_lies_33 : decode cX0_lies 33 = .ok (.iload_n 1, 1) := by decide +kernel
theorem dX0_lies_34 : decode cX0_lies 34 = .ok (.iload 4, 2) := by decide +kernel
theorem dX0_lies_36 : decode cX0_lies 36 = .ok (.if_icmp .eq 14, 3) := by decide +kernel
theorem dX0_lies_39 : decode cX0_lies 39 = .ok (.aload_n 0, 1) := by decide +kernel
theorem dX0_lies_40 : decode cX0_lies 40 = .ok (.iload_n 1, 1) := by decide +kernel
theorem dX0_lies_41 : decode cX0_lies 41 = .ok (.invokestatic 27, 3) := by decide +kernel
theorem dX0_lies_44 : decode cX0_lies 44 = .ok (.iload_n 2, 1) := by decide +kernel
theorem dX0_lies_45 : decode cX0_lies 45 = .ok (.iload_n 3, 1) := by decide +kernel
theorem dX0_lies_46 : decode cX0_lies 46 = .ok (.isub, 1) := by decide +kernel
theorem dX0_lies_47 : decode cX0_lies 47 = .ok (.if_icmp .ne 7, 3) := by decide +kernel
theorem dX0_lies_50 : decode cX0_lies 50 = .ok (.iconst 1, 1) := by decide +kernel
theorem dX0_lies_51 : decode cX0_lies 51 = .ok (.goto 4, 3) := by decide +kernel
theorem dX0_lies_54 : decode cX0_lies 54 = .ok (.iconst 0, 1) := by decide +kernel
theorem dX0_lies_55 : decode cX0_lies 55 = .ok (.ireturn, 1) := by decide +kernel
theorem dX0_lies_56 : decode cX0_lies 56 = .ok (.aload_n 0, 1) := by decide +kernel
theorem dX0_lies_57 : decode cX0_lies 57 = .ok (.iload_n 2, 1) := by decide +kernel
theorem dX0_lies_58 : decode cX0_lies 58 = .ok (.invokestatic 27, 3) := by decide +kernel
theorem dX0_lies_61 : decode cX0_lies 61 = .ok (.istore 5, 2) := by decide +kernel
theorem dX0_lies_63 : decode cX0_lies 63 = .ok (.iload_n 1, 1) := by decide +kernel
theorem dX0_lies_64 : decode cX0_lies 64 = .ok (.iload_n 3, 1) := by decide +kernel
theorem dX0_lies_65 : decode cX0_lies 65 = .ok (.if_icmp .lt 17, 3) := by decide +kernel
theorem dX0_lies_68 : decode cX0_lies 68 = .ok (.iload_n 1, 1) := by decide +kernel
theorem dX0_lies_69 : decode cX0_lies 69 = .ok (.iload_n 3, 1) := by decide +kernel
theorem dX0_lies_70 : decode cX0_lies 70 = .ok (.iload 5, 2) := by decide +kernel
theorem dX0_lies_72 : decode cX0_lies 72 = .ok (.iadd, 1) := by decide +kernel
theorem dX0_lies_73 : decode cX0_lies 73 = .ok (.if_icmp .ne 7, 3) := by decide +kernel
theorem dX0_lies_76 : decode cX0_lies 76 = .ok (.iconst 1, 1) := by decide +kernel
theorem dX0_lies_77 : decode cX0_lies 77 = .ok (.goto 4, 3) := by decide +kernel
theorem dX0_lies_80 : decode cX0_lies 80 = .ok (.iconst 0, 1) := by decide +kernel
theorem dX0_lies_81 : decode cX0_lies 81 = .ok (.ireturn, 1) := by decide +kernel
theorem dX0_lies_82 : decode cX0_lies 82 = .ok (.aload_n 0, 1) := by decide +kernel
theorem dX0_lies_83 : decode cX0_lies 83 = .ok (.iload 5, 2) := by decide +kernel
theorem dX0_lies_85 : decode cX0_lies 85 = .ok (.aload_n 0, 1) := by decide +kernel
theorem dX0_lies_86 : decode cX0_lies 86 = .ok (.iload_n 1, 1) := by decide +kernel
theorem dX0_lies_87 : decode cX0_lies 87 = .ok (.invokestatic 27, 3) := by decide +kernel
theorem dX0_lies_90 : decode cX0_lies 90 = .ok (.invokevirtual 31, 3) := by decide +kernel
theorem dX0_lies_93 : decode cX0_lies 93 = .ok (.aload_n 0, 1) := by decide +kernel
theorem dX0_lies_94 : decode cX0_lies 94 = .ok (.iload_n 2, 1) := by decide +kernel
theorem dX0_lies_95 : decode cX0_lies 95 = .ok (.invokestatic 35, 3) := by decide +kernel
theorem dX0_lies_98 : decode cX0_lies 98 = .ok (.ixor, 1) := by decide +kernel
theorem dX0_lies_99 : decode cX0_lies 99 = .ok (.aload_n 0, 1) := by decide +kernel
theorem dX0_lies_100 : decode cX0_lies 100 = .ok (.iload_n 1, 1) := by decide +kernel
theorem dX0_lies_101 : decode cX0_lies 101 = .ok (.invokestatic 35, 3) := by decide +kernel
theorem dX0_lies_104 : decode cX0_lies 104 = .ok (.if_icmp .ne 7, 3) := by decide +kernel
theorem dX0_lies_107 : decode cX0_lies 107 = .ok (.iconst 1, 1) := by decide +kernel
theorem dX0_lies_108 : decode cX0_lies 108 = .ok (.goto 4, 3) := by decide +kernel
theorem dX0_lies_111 : decode cX0_lies 111 = .ok (.iconst 0, 1) := by decide +kernel
theorem dX0_lies_112 : decode cX0_lies 112 = .ok (.ireturn, 1) := by decide +kernel
set_option maxRecDepth 20000 in
theorem ggX0_lineThrough_X0_insideOf : GoodIn wsX0_lineThrough wsX0_insideOf := goodIn_r _ [4, 5, 6, 7, 8, 9, 10, 38, 39, 40, 41] (by decide +kernel) (by decide +kernel)
set_option maxRecDepth 20000 in
theorem gX0_lineThrough_X0_insideOf : GoodIn wsX0_lineThrough (va_wsS RX0 21 yX0_insideOf wsX0_insideOf) := goodIn_app (goodIn_of _ (by decide +kernel)) ggX0_lineThrough_X0_insideOf
set_option maxRecDepth 20000 in
theorem ggX0_lineThrough_X0_lastOf : GoodIn wsX0_lineThrough wsX0_lastOf := goodIn_r _ [13, 1, 2, 3, 4, 5, 6, 7, 8, 9, 10, 38, 39, 40, 41] (by decide +kernel) (by decide +kernel)
set_option maxRecDepth 20000 in
theorem gX0_lineThrough_X0_lastOf : GoodIn wsX0_lineThrough (va_wsS RX0 9 yX0_lastOf wsX0_lastOf) := goodIn_app (goodIn_of _ (by decide +kernel)) ggX0_lineThrough_X0_lastOf
set_option maxRecDepth 20000 in
theorem ggX0_lineThrough_X0_highPart : GoodIn wsX0_lineThrough wsX0_highPart := goodIn_r _ [16, 17, 18, 19, 8, 20, 21, 38, 39, 40, 41] (by decide +kernel) (by decide +kernel)
set_option maxRecDepth 20000 in
theorem gX0_lineThrough_X0_highPart : GoodIn wsX0_lineThrough (va_wsS RX0 27 yX0_highPart wsX0_highPart) := goodIn_app (goodIn_of _ (by decide +kernel)) ggX0_lineThrough_X0_highPart
set_option maxRecDepth 20000 in
theorem ggX0_lineThrough_X0_lowPart : GoodIn wsX0_lineThrough wsX0_lowPart := goodIn_r _ [24, 5, 6, 7, 8, 9, 10, 38, 39, 40, 41] (by decide +kernel) (by decide +kernel)
set_option maxRecDepth 20000 in
theorem gX0_lineThrough_X0_lowPart : GoodIn wsX0_lineThrough (va_wsS RX0 35 yX0_lowPart wsX0_lowPart) := goodIn_app (goodIn_of _ (by decide +kernel)) ggX0_lineThrough_X0_lowPart
set_option maxRecDepth 20000 in
theorem ggX0_lineThrough_X1_solve : GoodIn wsX0_lineThrough wsX1_solve := goodIn_r _ [28, 10, 29, 30, 31, 8, 32, 33, 34, 35, 36, 38, 39, 40, 41] (by decide +kernel) (by decide +kernel)
set_option maxRecDepth 20000 in
theorem gX0_lineThrough_X1_solve : GoodIn wsX0_lineThrough (wsV RX0 38 RX1 yX1_solve wsX1_solve) := goodIn_app (goodIn_of _ (by decide +kernel)) ggX0_lineThrough_X1_solve
set_option maxRecDepth 20000 in
theorem ggX0_lineThrough_X1_bits : GoodIn wsX0_lineThrough wsX1_bits := goodIn_r _ [20, 21, 38, 39, 40, 41] (by decide +kernel) (by decide +kernel)
set_option maxRecDepth 20000 in
theorem gX0_lineThrough_X1_bits : GoodIn wsX0_lineThrough (wsV RX0 24 RX1 yX1_bits wsX1_bits) := goodIn_app (goodIn_of _ (by decide +kernel)) ggX0_lineThrough_X1_bits
set_option maxRecDepth 20000 in
theorem ggX0_lineThrough_X1_times : GoodIn wsX0_lineThrough wsX1_times := goodIn_r _ [32, 33, 34, 35, 8, 36, 38, 39, 40, 41] (by decide +kernel) (by decide +kernel)
set_option maxRecDepth 20000 in
theorem gX0_lineThrough_X1_times : GoodIn wsX0_lineThrough (wsV RX0 31 RX1 yX1_times wsX1_times) := goodIn_app (goodIn_of _ (by decide +kernel)) ggX0_lineThrough_X1_times
theorem dX0_lineThrough_0 : decode cX0_lineThrough 0 = .ok (.aload_n 0, 1) := by decide +kernel
theorem dX0_lineThrough_1 : decode cX0_lineThrough 1 = .ok (.invokestatic 21, 3) := by decide +kernel
theorem dX0_lineThrough_4 : decode cX0_lineThrough 4 = .ok (.istore_n 3, 1) := by decide +kernel
theorem dX0_lineThrough_5 : decode cX0_lineThrough 5 = .ok (.aload_n 0, 1) := by decide +kernel
theorem dX0_lineThrough_6 : decode cX0_lineThrough 6 = .ok (.invokestatic 9, 3) := by decide +kernel
theorem dX0_lineThrough_9 : decode cX0_lineThrough 9 = .ok (.istore 4, 2) := by decide +kernel
theorem dX0_lineThrough_11 : decode cX0_lineThrough 11 = .ok (.iload_n 1, 1) := by decide +kernel
theorem dX0_lineThrough_12 : decode cX0_lineThrough 12 = .ok (.iload_n 3, 1) := by decide +kernel
theorem dX0_lineThrough_13 : decode cX0_lineThrough 13 = .ok (.if_icmp .lt 6, 3) := by decide +kernel
theorem dX0_lineThrough_16 : decode cX0_lineThrough 16 = .ok (.iload 4, 2) := by decide +kernel
theorem dX0_lineThrough_18 : decode cX0_lineThrough 18 = .ok (.ireturn, 1) := by decide +kernel
theorem dX0_lineThrough_19 : decode cX0_lineThrough 19 = .ok (.aload_n 0, 1) := by decide +kernel
theorem dX0_lineThrough_20 : decode cX0_lineThrough 20 = .ok (.iload_n 1, 1) := by decide +kernel
theorem dX0_lineThrough_21 : decode cX0_lineThrough 21 = .ok (.invokestatic 27, 3) := by decide +kernel
theorem dX0_lineThrough_24 : decode cX0_lineThrough 24 = .ok (.istore 5, 2) := by decide +kernel
theorem dX0_lineThrough_26 : decode cX0_lineThrough 26 = .ok (.iload_n 2, 1) := by decide +kernel
theorem dX0_lineThrough_27 : decode cX0_lineThrough 27 = .ok (.iload 4, 2) := by decide +kernel
theorem dX0_lineThrough_29 : decode cX0_lineThrough 29 = .ok (.if_icmp .eq 13, 3) := by decide +kernel
theorem dX0_lineThrough_32 : decode cX0_lineThrough 32 = .ok (.aload_n 0, 1) := by decide +kernel
theorem dX0_lineThrough_33 : decode cX0_lineThrough 33 = .ok (.iload_n 2, 1) := by decide +kernel
theorem dX0_lineThrough_34 : decode cX0_lineThrough 34 = .ok (.invokestatic 27, 3) := by decide +kernel
theorem dX0_lineThrough_37 : decode cX0_lineThrough 37 = .ok (.iload 5, 2) := by decide +kernel
theorem dX0_lineThrough_39 : decode cX0_lineThrough 39 = .ok (.if_icmp .ne 8, 3) := by decide +kernel
theorem dX0_lineThrough_42 : decode cX0_lineThrough 42 = .ok (.iload_n 3, 1) := by decide +kernel
theorem dX0_lineThrough_43 : decode cX0_lineThrough 43 = .ok (.iload 5, 2) := by decide +kernel
theorem dX0_lineThrough_45 : decode cX0_lineThrough 45 = .ok (.iadd, 1) := by decide +kernel
theorem dX0_lineThrough_46 : decode cX0_lineThrough 46 = .ok (.ireturn, 1) := by decide +kernel
theorem dX0_lineThrough_47 : decode cX0_lineThrough 47 = .ok (.iload_n 2, 1) := by decide +kernel
theorem dX0_lineThrough_48 : decode cX0_lineThrough 48 = .ok (.iload_n 3, 1) := by decide +kernel
theorem dX0_lineThrough_49 : decode cX0_lineThrough 49 = .ok (.isub, 1) := by decide +kernel
theorem dX0_lineThrough_50 : decode cX0_lineThrough 50 = .ok (.istore 6, 2) := by decide +kernel
theorem dX0_lineThrough_52 : decode cX0_lineThrough 52 = .ok (.iload_n 2, 1) := by decide +kernel
theorem dX0_lineThrough_53 : decode cX0_lineThrough 53 = .ok (.iload_n 3, 1) := by decide +kernel
theorem dX0_lineThrough_54 : decode cX0_lineThrough 54 = .ok (.if_icmp .ge 33, 3) := by decide +kernel
theorem dX0_lineThrough_57 : decode cX0_lineThrough 57 = .ok (.aload_n 0, 1) := by decide +kernel
theorem dX0_lineThrough_58 : decode cX0_lineThrough 58 = .ok (.iload_n 1, 1) := by decide +kernel
theorem dX0_lineThrough_59 : decode cX0_lineThrough 59 = .ok (.invokestatic 35, 3) := by decide +kernel
theorem dX0_lineThrough_62 : decode cX0_lineThrough 62 = .ok (.aload_n 0, 1) := by decide +kernel
theorem dX0_lineThrough_63 : decode cX0_lineThrough 63 = .ok (.iload_n 2, 1) := by decide +kernel
theorem dX0_lineThrough_64 : decode cX0_lineThrough 64 = .ok (.invokestatic 35, 3) := by decide +kernel
theorem dX0_lineThrough_67 : decode cX0_lineThrough 67 = .ok (.ixor, 1) := by decide +kernel
theorem dX0_lineThrough_68 : decode cX0_lineThrough 68 = .ok (.istore 7, 2) := by decide +kernel
theorem dX0_lineThrough_70 : decode cX0_lineThrough 70 = .ok (.aload_n 0, 1) := by decide +kernel
theorem dX0_lineThrough_71 : decode cX0_lineThrough 71 = .ok (.iload 5, 2) := by decide +kernel
theorem dX0_lineThrough_73 : decode cX0_lineThrough 73 = .ok (.aload_n 0, 1) := by decide +kernel
theorem dX0_lineThrough_74 : decode cX0_lineThrough 74 = .ok (.iload_n 2, 1) := by decide +kernel
theorem dX0_lineThrough_75 : decode cX0_lineThrough 75 = .ok (.invokestatic 27, 3) := by decide +kernel
theorem dX0_lineThrough_78 : decode cX0_lineThrough 78 = .ok (.ixor, 1) := by decide +kernel
theorem dX0_lineThrough_79 : decode cX0_lineThrough 79 = .ok (.iload 7, 2) := by decide +kernel
theorem dX0_lineThrough_81 : decode cX0_lineThrough 81 = .ok (.iconst 0, 1) := by decide +kernel
theorem dX0_lineThrough_82 : decode cX0_lineThrough 82 = .ok (.invokevirtual 38, 3) := by decide +kernel
theorem dX0_lineThrough_85 : decode cX0_lineThrough 85 = .ok (.istore 6, 2) := by decide +kernel
theorem dX0_lineThrough_87 : decode cX0_lineThrough 87 = .ok (.iload 6, 2) := by decide +kernel
theorem dX0_lineThrough_89 : decode cX0_lineThrough 89 = .ok (.bipush (-9), 2) := by decide +kernel
theorem dX0_lineThrough_91 : decode cX0_lineThrough 91 = .ok (.if_icmp .ne 8, 3) := by decide +kernel
theorem dX0_lineThrough_94 : decode cX0_lineThrough 94 = .ok (.bipush (-9), 2) := by decide +kernel
theorem dX0_lineThrough_96 : decode cX0_lineThrough 96 = .ok (.goto 25, 3) := by decide +kernel
theorem dX0_lineThrough_99 : decode cX0_lineThrough 99 = .ok (.iload 6, 2) := by decide +kernel
theorem dX0_lineThrough_101 : decode cX0_lineThrough 101 = .ok (.aload_n 0, 1) := by decide +kernel
theorem dX0_lineThrough_102 : decode cX0_lineThrough 102 = .ok (.invokevirtual 24, 3) := by decide +kernel
theorem dX0_lineThrough_105 : decode cX0_lineThrough 105 = .ok (.ishl, 1) := by decide +kernel
theorem dX0_lineThrough_106 : decode cX0_lineThrough 106 = .ok (.aload_n 0, 1) := by decide +kernel
theorem dX0_lineThrough_107 : decode cX0_lineThrough 107 = .ok (.iload 6, 2) := by decide +kernel
theorem dX0_lineThrough_109 : decode cX0_lineThrough 109 = .ok (.iload 5, 2) := by decide +kernel
theorem dX0_lineThrough_111 : decode cX0_lineThrough 111 = .ok (.invokevirtual 31, 3) := by decide +kernel
theorem dX0_lineThrough_114 : decode cX0_lineThrough 114 = .ok (.aload_n 0, 1) := by decide +kernel
theorem dX0_lineThrough_115 : decode cX0_lineThrough 115 = .ok (.iload_n 1, 1) := by decide +kernel
theorem dX0_lineThrough_116 : decode cX0_lineThrough 116 = .ok (.invokestatic 35, 3) := by decide +kernel
theorem dX0_lineThrough_119 : decode cX0_lineThrough 119 = .ok (.ixor, 1) := by decide +kernel
theorem dX0_lineThrough_120 : decode cX0_lineThrough 120 = .ok (.ior, 1) := by decide +kernel
theorem dX0_lineThrough_121 : decode cX0_lineThrough 121 = .ok (.ireturn, 1) := by decide +kernel
set_option maxRecDepth 20000 in
theorem ggX0_pointOfBoth_X0_insideOf : GoodIn wsX0_pointOfBoth wsX0_insideOf := goodIn_r _ [4, 5, 6, 7, 8, 9, 10, 38, 39, 40, 41] (by decide +kernel) (by decide +kernel)
set_option maxRecDepth 20000 in
theorem gX0_pointOfBoth_X0_insideOf : GoodIn wsX0_pointOfBoth (va_wsS RX0 21 yX0_insideOf wsX0_insideOf) := goodIn_app (goodIn_of _ (by decide +kernel)) ggX0_pointOfBoth_X0_insideOf
set_option maxRecDepth 20000 in
theorem ggX0_pointOfBoth_X0_lastOf : GoodIn wsX0_pointOfBoth wsX0_lastOf := goodIn_r _ [13, 1, 2, 3, 4, 5, 6, 7, 8, 9, 10, 38, 39, 40, 41] (by decide +kernel) (by decide +kernel)
set_option maxRecDepth 20000 in
theorem gX0_pointOfBoth_X0_lastOf : GoodIn wsX0_pointOfBoth (va_wsS RX0 9 yX0_lastOf wsX0_lastOf) := goodIn_app (goodIn_of _ (by decide +kernel)) ggX0_pointOfBoth_X0_lastOf
set_option maxRecDepth 20000 in
theorem ggX0_pointOfBoth_X0_highPart : GoodIn wsX0_pointOfBoth wsX0_highPart := goodIn_r _ [16, 17, 18, 19, 8, 20, 21, 38, 39, 40, 41] (by decide +kernel) (by decide +kernel)
set_option maxRecDepth 20000 in
theorem gX0_pointOfBoth_X0_highPart : GoodIn wsX0_pointOfBoth (va_wsS RX0 27 yX0_highPart wsX0_highPart) := goodIn_app (goodIn_of _ (by decide +kernel)) ggX0_pointOfBoth_X0_highPart
set_option maxRecDepth 20000 in
theorem ggX0_pointOfBoth_X0_lowPart : GoodIn wsX0_pointOfBoth wsX0_lowPart := goodIn_r _ [24, 5, 6, 7, 8, 9, 10, 38, 39, 40, 41] (by decide +kernel) (by decide +kernel)
set_option maxRecDepth 20000 in
theorem gX0_pointOfBoth_X0_lowPart : GoodIn wsX0_pointOfBoth (va_wsS RX0 35 yX0_lowPart wsX0_lowPart) := goodIn_app (goodIn_of _ (by decide +kernel)) ggX0_pointOfBoth_X0_lowPart
set_option maxRecDepth 20000 in
theorem ggX0_pointOfBoth_X1_solve : GoodIn wsX0_pointOfBoth wsX1_solve := goodIn_r _ [28, 10, 29, 30, 31, 8, 32, 33, 34, 35, 36, 38, 39, 40, 41] (by decide +kernel) (by decide +kernel)
set_option maxRecDepth 20000 in
theorem gX0_pointOfBoth_X1_solve : GoodIn wsX0_pointOfBoth (wsV RX0 38 RX1 yX1_solve wsX1_solve) := goodIn_app (goodIn_of _ (by decide +kernel)) ggX0_pointOfBoth_X1_solve
set_option maxRecDepth 20000 in
theorem ggX0_pointOfBoth_X1_bits : GoodIn wsX0_pointOfBoth wsX1_bits := goodIn_r _ [20, 21, 38, 39, 40, 41] (by decide +kernel) (by decide +kernel)
set_option maxRecDepth 20000 in
theorem gX0_pointOfBoth_X1_bits : GoodIn wsX0_pointOfBoth (wsV RX0 24 RX1 yX1_bits wsX1_bits) := goodIn_app (goodIn_of _ (by decide +kernel)) ggX0_pointOfBoth_X1_bits
set_option maxRecDepth 20000 in
theorem ggX0_pointOfBoth_X1_times : GoodIn wsX0_pointOfBoth wsX1_times := goodIn_r _ [32, 33, 34, 35, 8, 36, 38, 39, 40, 41] (by decide +kernel) (by decide +kernel)
set_option maxRecDepth 20000 in
theorem gX0_pointOfBoth_X1_times : GoodIn wsX0_pointOfBoth (wsV RX0 31 RX1 yX1_times wsX1_times) := goodIn_app (goodIn_of _ (by decide +kernel)) ggX0_pointOfBoth_X1_times
theorem dX0_pointOfBoth_0 : decode cX0_pointOfBoth 0 = .ok (.aload_n 0, 1) := by decide +kernel
theorem dX0_pointOfBoth_1 : decode cX0_pointOfBoth 1 = .ok (.invokestatic 21, 3) := by decide +kernel
theorem dX0_pointOfBoth_4 : decode cX0_pointOfBoth 4 = .ok (.istore_n 3, 1) := by decide +kernel
theorem dX0_pointOfBoth_5 : decode cX0_pointOfBoth 5 = .ok (.aload_n 0, 1) := by decide +kernel
theorem dX0_pointOfBoth_6 : decode cX0_pointOfBoth 6 = .ok (.invokestatic 9, 3) := by decide +kernel
theorem dX0_pointOfBoth_9 : decode cX0_pointOfBoth 9 = .ok (.istore 4, 2) := by decide +kernel
theorem dX0_pointOfBoth_11 : decode cX0_pointOfBoth 11 = .ok (.iload_n 1, 1) := by decide +kernel
theorem dX0_pointOfBoth_12 : decode cX0_pointOfBoth 12 = .ok (.iload_n 3, 1) := by decide +kernel
theorem dX0_pointOfBoth_13 : decode cX0_pointOfBoth 13 = .ok (.if_icmp .lt 6, 3) := by decide +kernel
theorem dX0_pointOfBoth_16 : decode cX0_pointOfBoth 16 = .ok (.iload 4, 2) := by decide +kernel
theorem dX0_pointOfBoth_18 : decode cX0_pointOfBoth 18 = .ok (.ireturn, 1) := by decide +kernel
theorem dX0_pointOfBoth_19 : decode cX0_pointOfBoth 19 = .ok (.aload_n 0, 1) := by decide +kernel
theorem dX0_pointOfBoth_20 : decode cX0_pointOfBoth 20 = .ok (.iload_n 1, 1) := by decide +kernel
theorem dX0_pointOfBoth_21 : decode cX0_pointOfBoth 21 = .ok (.invokestatic 27, 3) := by decide +kernel
theorem dX0_pointOfBoth_24 : decode cX0_pointOfBoth 24 = .ok (.istore 5, 2) := by decide +kernel
theorem dX0_pointOfBoth_26 : decode cX0_pointOfBoth 26 = .ok (.iload_n 2, 1) := by decide +kernel
theorem dX0_pointOfBoth_27 : decode cX0_pointOfBoth 27 = .ok (.iload 4, 2) := by decide +kernel
theorem dX0_pointOfBoth_29 : decode cX0_pointOfBoth 29 = .ok (.if_icmp .eq 13, 3) := by decide +kernel
theorem dX0_pointOfBoth_32 : decode cX0_pointOfBoth 32 = .ok (.aload_n 0, 1) := by decide +kernel
theorem dX0_pointOfBoth_33 : decode cX0_pointOfBoth 33 = .ok (.iload_n 2, 1) := by decide +kernel
theorem dX0_pointOfBoth_34 : decode cX0_pointOfBoth 34 = .ok (.invokestatic 27, 3) := by decide +kernel
theorem dX0_pointOfBoth_37 : decode cX0_pointOfBoth 37 = .ok (.iload 5, 2) := by decide +kernel
theorem dX0_pointOfBoth_39 : decode cX0_pointOfBoth 39 = .ok (.if_icmp .ne 8, 3) := by decide +kernel
theorem dX0_pointOfBoth_42 : decode cX0_pointOfBoth 42 = .ok (.iload_n 3, 1) := by decide +kernel
theorem dX0_pointOfBoth_43 : decode cX0_pointOfBoth 43 = .ok (.iload 5, 2) := by decide +kernel
theorem dX0_pointOfBoth_45 : decode cX0_pointOfBoth 45 = .ok (.iadd, 1) := by decide +kernel
theorem dX0_pointOfBoth_46 : decode cX0_pointOfBoth 46 = .ok (.ireturn, 1) := by decide +kernel
theorem dX0_pointOfBoth_47 : decode cX0_pointOfBoth 47 = .ok (.iload_n 2, 1) := by decide +kernel
theorem dX0_pointOfBoth_48 : decode cX0_pointOfBoth 48 = .ok (.iload_n 3, 1) := by decide +kernel
theorem dX0_pointOfBoth_49 : decode cX0_pointOfBoth 49 = .ok (.isub, 1) := by decide +kernel
theorem dX0_pointOfBoth_50 : decode cX0_pointOfBoth 50 = .ok (.istore 6, 2) := by decide +kernel
theorem dX0_pointOfBoth_52 : decode cX0_pointOfBoth 52 = .ok (.iload_n 2, 1) := by decide +kernel
theorem dX0_pointOfBoth_53 : decode cX0_pointOfBoth 53 = .ok (.iload_n 3, 1) := by decide +kernel
theorem dX0_pointOfBoth_54 : decode cX0_pointOfBoth 54 = .ok (.if_icmp .ge 33, 3) := by decide +kernel
theorem dX0_pointOfBoth_57 : decode cX0_pointOfBoth 57 = .ok (.aload_n 0, 1) := by decide +kernel
theorem dX0_pointOfBoth_58 : decode cX0_pointOfBoth 58 = .ok (.iload_n 1, 1) := by decide +kernel
theorem dX0_pointOfBoth_59 : decode cX0_pointOfBoth 59 = .ok (.invokestatic 35, 3) := by decide +kernel
theorem dX0_pointOfBoth_62 : decode cX0_pointOfBoth 62 = .ok (.aload_n 0, 1) := by decide +kernel
theorem dX0_pointOfBoth_63 : decode cX0_pointOfBoth 63 = .ok (.iload_n 2, 1) := by decide +kernel
theorem dX0_pointOfBoth_64 : decode cX0_pointOfBoth 64 = .ok (.invokestatic 35, 3) := by decide +kernel
theorem dX0_pointOfBoth_67 : decode cX0_pointOfBoth 67 = .ok (.ixor, 1) := by decide +kernel
theorem dX0_pointOfBoth_68 : decode cX0_pointOfBoth 68 = .ok (.istore 7, 2) := by decide +kernel
theorem dX0_pointOfBoth_70 : decode cX0_pointOfBoth 70 = .ok (.aload_n 0, 1) := by decide +kernel
theorem dX0_pointOfBoth_71 : decode cX0_pointOfBoth 71 = .ok (.iload 5, 2) := by decide +kernel
theorem dX0_pointOfBoth_73 : decode cX0_pointOfBoth 73 = .ok (.aload_n 0, 1) := by decide +kernel
theorem dX0_pointOfBoth_74 : decode cX0_pointOfBoth 74 = .ok (.iload_n 2, 1) := by decide +kernel
theorem dX0_pointOfBoth_75 : decode cX0_pointOfBoth 75 = .ok (.invokestatic 27, 3) := by decide +kernel
theorem dX0_pointOfBoth_78 : decode cX0_pointOfBoth 78 = .ok (.ixor, 1) := by decide +kernel
theorem dX0_pointOfBoth_79 : decode cX0_pointOfBoth 79 = .ok (.iload 7, 2) := by decide +kernel
theorem dX0_pointOfBoth_81 : decode cX0_pointOfBoth 81 = .ok (.iconst 1, 1) := by decide +kernel
theorem dX0_pointOfBoth_82 : decode cX0_pointOfBoth 82 = .ok (.invokevirtual 38, 3) := by decide +kernel
theorem dX0_pointOfBoth_85 : decode cX0_pointOfBoth 85 = .ok (.istore 6, 2) := by decide +kernel
theorem dX0_pointOfBoth_87 : decode cX0_pointOfBoth 87 = .ok (.iload 6, 2) := by decide +kernel
theorem dX0_pointOfBoth_89 : decode cX0_pointOfBoth 89 = .ok (.bipush (-9), 2) := by decide +kernel
theorem dX0_pointOfBoth_91 : decode cX0_pointOfBoth 91 = .ok (.if_icmp .ne 8, 3) := by decide +kernel
theorem dX0_pointOfBoth_94 : decode cX0_pointOfBoth 94 = .ok (.bipush (-9), 2) := by decide +kernel
theorem dX0_pointOfBoth_96 : decode cX0_pointOfBoth 96 = .ok (.goto 25, 3) := by decide +kernel
theorem dX0_pointOfBoth_99 : decode cX0_pointOfBoth 99 = .ok (.iload 6, 2) := by decide +kernel
theorem dX0_pointOfBoth_101 : decode cX0_pointOfBoth 101 = .ok (.aload_n 0, 1) := by decide +kernel
theorem dX0_pointOfBoth_102 : decode cX0_pointOfBoth 102 = .ok (.invokevirtual 24, 3) := by decide +kernel
theorem dX0_pointOfBoth_105 : decode cX0_pointOfBoth 105 = .ok (.ishl, 1) := by decide +kernel
theorem dX0_pointOfBoth_106 : decode cX0_pointOfBoth 106 = .ok (.aload_n 0, 1) := by decide +kernel
theorem dX0_pointOfBoth_107 : decode cX0_pointOfBoth 107 = .ok (.iload 5, 2) := by decide +kernel
theorem dX0_pointOfBoth_109 : decode cX0_pointOfBoth 109 = .ok (.iload 6, 2) := by decide +kernel
theorem dX0_pointOfBoth_111 : decode cX0_pointOfBoth 111 = .ok (.invokevirtual 31, 3) := by decide +kernel
theorem dX0_pointOfBoth_114 : decode cX0_pointOfBoth 114 = .ok (.aload_n 0, 1) := by decide +kernel
theorem dX0_pointOfBoth_115 : decode cX0_pointOfBoth 115 = .ok (.iload_n 1, 1) := by decide +kernel
theorem dX0_pointOfBoth_116 : decode cX0_pointOfBoth 116 = .ok (.invokestatic 35, 3) := by decide +kernel
theorem dX0_pointOfBoth_119 : decode cX0_pointOfBoth 119 = .ok (.ixor, 1) := by decide +kernel
theorem dX0_pointOfBoth_120 : decode cX0_pointOfBoth 120 = .ok (.ior, 1) := by decide +kernel
theorem dX0_pointOfBoth_121 : decode cX0_pointOfBoth 121 = .ok (.ireturn, 1) := by decide +kernel
set_option maxRecDepth 20000 in
theorem ggX0_countBadPairs_X1_size : GoodIn wsX0_countBadPairs wsX1_size := goodIn_r _ [5, 6, 23, 24, 25, 26] (by decide +kernel) (by decide +kernel)
set_option maxRecDepth 20000 in
theorem gX0_countBadPairs_X1_size : GoodIn wsX0_countBadPairs (wsV RX0 15 RX1 yX1_size wsX1_size) := goodIn_app (goodIn_of _ (by decide +kernel)) ggX0_countBadPairs_X1_size
set_option maxRecDepth 20000 in
theorem ggX0_countBadPairs_X1_leastPartner : GoodIn wsX0_countBadPairs wsX1_leastPartner := goodIn_r _ [10, 6, 11, 12, 13, 4, 14, 15, 16, 17, 18, 23, 24, 25, 26] (by decide +kernel) (by decide +kernel)
set_option maxRecDepth 20000 in
theorem gX0_countBadPairs_X1_leastPartner : GoodIn wsX0_countBadPairs (wsV RX0 42 RX1 yX1_leastPartner wsX1_leastPartner) := goodIn_app (goodIn_of _ (by decide +kernel)) ggX0_countBadPairs_X1_leastPartner
set_option maxRecDepth 20000 in
theorem ggX0_countBadPairs_X0_insideOf : GoodIn wsX0_countBadPairs wsX0_insideOf := goodIn_r _ [22, 1, 2, 3, 4, 5, 6, 23, 24, 25, 26] (by decide +kernel) (by decide +kernel)
set_option maxRecDepth 20000 in
theorem gX0_countBadPairs_X0_insideOf : GoodIn wsX0_countBadPairs (va_wsS RX0 21 yX0_insideOf wsX0_insideOf) := goodIn_app (goodIn_of _ (by decide +kernel)) ggX0_countBadPairs_X0_insideOf
theorem dX0_countBadPairs_0 : decode cX0_countBadPairs 0 = .ok (.iconst 0, 1) := by decide +kernel
theorem dX0_countBadPairs_1 : decode cX0_countBadPairs 1 = .ok (.istore_n 1, 1) := by decide +kernel
theorem dX0_countBadPairs_2 : decode cX0_countBadPairs 2 = .ok (.iconst 1, 1) := by decide +kernel
theorem dX0_countBadPairs_3 : decode cX0_countBadPairs 3 = .ok (.istore_n 2, 1) := by decide +kernel
theorem dX0_countBadPairs_4 : decode cX0_countBadPairs 4 = .ok (.iload_n 2, 1) := by decide +kernel
theorem dX0_countBadPairs_5 : decode cX0_countBadPairs 5 = .ok (.aload_n 0, 1) := by decide +kernel
theorem dX0_countBadPairs_6 : decode cX0_countBadPairs 6 = .ok (.invokevirtual 15, 3) := by decide +kernel
theorem dX0_countBadPairs_9 : decode cX0_countBadPairs 9 = .ok (.if_icmp .ge 22, 3) := by decide +kernel
theorem dX0_countBadPairs_12 : decode cX0_countBadPairs 12 = .ok (.aload_n 0, 1) := by decide +kernel
theorem dX0_countBadPairs_13 : decode cX0_countBadPairs 13 = .ok (.iload_n 2, 1) := by decide +kernel
theorem dX0_countBadPairs_14 : decode cX0_countBadPairs 14 = .ok (.invokevirtual 42, 3) := by decide +kernel
theorem dX0_countBadPairs_17 : decode cX0_countBadPairs 17 = .ok (.bipush (-9), 2) := by decide +kernel
theorem dX0_countBadPairs_19 : decode cX0_countBadPairs 19 = .ok (.if_icmp .eq 6, 3) := by decide +kernel
theorem dX0_countBadPairs_22 : decode cX0_countBadPairs 22 = .ok (.iinc 1 1, 3) := by decide +kernel
theorem dX0_countBadPairs_25 : decode cX0_countBadPairs 25 = .ok (.iinc 2 1, 3) := by decide +kernel
theorem dX0_countBadPairs_28 : decode cX0_countBadPairs 28 = .ok (.goto (-24), 3) := by decide +kernel
theorem dX0_countBadPairs_31 : decode cX0_countBadPairs 31 = .ok (.iload_n 1, 1) := by decide +kernel
theorem dX0_countBadPairs_32 : decode cX0_countBadPairs 32 = .ok (.aload_n 0, 1) := by decide +kernel
theorem dX0_countBadPairs_33 : decode cX0_countBadPairs 33 = .ok (.invokevirtual 15, 3) := by decide +kernel
theorem dX0_countBadPairs_36 : decode cX0_countBadPairs 36 = .ok (.iconst 1, 1) := by decide +kernel
theorem dX0_countBadPairs_37 : decode cX0_countBadPairs 37 = .ok (.ishr, 1) := by decide +kernel
theorem dX0_countBadPairs_38 : decode cX0_countBadPairs 38 = .ok (.imul, 1) := by decide +kernel
theorem dX0_countBadPairs_39 : decode cX0_countBadPairs 39 = .ok (.aload_n 0, 1) := by decide +kernel
theorem dX0_countBadPairs_40 : decode cX0_countBadPairs 40 = .ok (.invokestatic 21, 3) := by decide +kernel
theorem dX0_countBadPairs_43 : decode cX0_countBadPairs 43 = .ok (.imul, 1) := by decide +kernel
theorem dX0_countBadPairs_44 : decode cX0_countBadPairs 44 = .ok (.ireturn, 1) := by decide +kernel
set_option maxRecDepth 20000 in
theorem ggX1_init_X1_changeCell : GoodIn wsX1_init wsX1_changeCell := goodIn_r _ [13, 7, 14, 15, 16, 17, 18, 19, 12, 20, 5, 8, 21, 22, 23, 24, 25, 26, 27, 4, 28, 29, 30, 31, 32, 33, 34, 35] (by decide +kernel) (by decide +kernel)
set_option maxRecDepth 20000 in
theorem gX1_init_X1_changeCell : GoodIn wsX1_init (wsV RX1 25 RX1 yX1_changeCell wsX1_changeCell) := goodIn_app (goodIn_of _ (by decide +kernel)) ggX1_init_X1_changeCell
theorem dX1_init_0 : decode cX1_init 0 = .ok (.aload_n 0, 1) := by decide +kernel
theorem dX1_init_1 : decode cX1_init 1 = .ok (.invokespecial 3, 3) := by decide +kernel
theorem dX1_init_4 : decode cX1_init 4 = .ok (.aload_n 0, 1) := by decide +kernel
theorem dX1_init_5 : decode cX1_init 5 = .ok (.iconst 1, 1) := by decide +kernel
theorem dX1_init_6 : decode cX1_init 6 = .ok (.putfield 9, 3) := by decide +kernel
theorem dX1_init_9 : decode cX1_init 9 = .ok (.aload_n 0, 1) := by decide +kernel
theorem dX1_init_10 : decode cX1_init 10 = .ok (.iconst 2, 1) := by decide +kernel
theorem dX1_init_11 : decode cX1_init 11 = .ok (.putfield 15, 3) := by decide +kernel
theorem dX1_init_14 : decode cX1_init 14 = .ok (.aload_n 0, 1) := by decide +kernel
theorem dX1_init_15 : decode cX1_init 15 = .ok (.bipush 16, 2) := by decide +kernel
theorem dX1_init_17 : decode cX1_init 17 = .ok (.newarray .int, 2) := by decide +kernel
theorem dX1_init_19 : decode cX1_init 19 = .ok (.putfield 18, 3) := by decide +kernel
theorem dX1_init_22 : decode cX1_init 22 = .ok (.aload_n 0, 1) := by decide +kernel
theorem dX1_init_23 : decode cX1_init 23 = .ok (.sipush 256, 3) := by decide +kernel
theorem dX1_init_26 : decode cX1_init 26 = .ok (.newarray .int, 2) := by decide +kernel
theorem dX1_init_28 : decode cX1_init 28 = .ok (.putfield 22, 3) := by decide +kernel
theorem dX1_init_31 : decode cX1_init 31 = .ok (.aload_n 0, 1) := by decide +kernel
theorem dX1_init_32 : decode cX1_init 32 = .ok (.iconst 0, 1) := by decide +kernel
theorem dX1_init_33 : decode cX1_init 33 = .ok (.iconst 0, 1) := by decide +kernel
theorem dX1_init_34 : decode cX1_init 34 = .ok (.iconst 1, 1) := by decide +kernel
theorem dX1_init_35 : decode cX1_init 35 = .ok (.invokevirtual 25, 3) := by decide +kernel
theorem dX1_init_38 : decode cX1_init 38 = .ok (.return_, 1) := by decide +kernel
theorem dX1_bits_0 : decode cX1_bits 0 = .ok (.aload_n 0, 1) := by decide +kernel
theorem dX1_bits_1 : decode cX1_bits 1 = .ok (.getfield 9, 3) := by decide +kernel
theorem dX1_bits_4 : decode cX1_bits 4 = .ok (.ireturn, 1) := by decide +kernel
theorem dX1_size_0 : decode cX1_size 0 = .ok (.aload_n 0, 1) := by decide +kernel
theorem dX1_size_1 : decode cX1_size 1 = .ok (.getfield 15, 3) := by decide +kernel
theorem dX1_size_4 : decode cX1_size 4 = .ok (.ireturn, 1) := by decide +kernel
theorem dX1_has_0 : decode cX1_has 0 = .ok (.iload_n 1, 1) := by decide +kernel
theorem dX1_has_1 : decode cX1_has 1 = .ok (.ifCond .lt 15, 3) := by decide +kernel
theorem dX1_has_4 : decode cX1_has 4 = .ok (.iload_n 1, 1) := by decide +kernel
theorem dX1_has_5 : decode cX1_has 5 = .ok (.aload_n 0, 1) := by decide +kernel
theorem dX1_has_6 : decode cX1_has 6 = .ok (.getfield 15, 3) := by decide +kernel
theorem dX1_has_9 : decode cX1_has 9 = .ok (.if_icmp .ge 7, 3) := by decide +kernel
theorem dX1_has_12 : decode cX1_has 12 = .ok (.iconst 1, 1) := by decide +kernel
theorem dX1_has_13 : decode cX1_has 13 = .ok (.goto 4, 3) := by decide +kernel
theorem dX1_has_16 : decode cX1_has 16 = .ok (.iconst 0, 1) := by decide +kernel
theorem dX1_has_17 : decode cX1_has 17 = .ok (.ireturn, 1) := by decide +kernel
theorem dX1_hasBit_0 : decode cX1_hasBit 0 = .ok (.iload_n 1, 1) := by decide +kernel
theorem dX1_hasBit_1 : decode cX1_hasBit 1 = .ok (.ifCond .lt 15, 3) := by decide +kernel
theorem dX1_hasBit_4 : decode cX1_hasBit 4 = .ok (.iload_n 1, 1) := by decide +kernel
theorem dX1_hasBit_5 : decode cX1_hasBit 5 = .ok (.aload_n 0, 1) := by decide +kernel
theorem dX1_hasBit_6 : decode cX1_hasBit 6 = .ok (.getfield 9, 3) := by decide +kernel
theorem dX1_hasBit_9 : decode cX1_hasBit 9 = .ok (.if_icmp .ge 7, 3) := by decide +kernel
theorem dX1_hasBit_12 : decode cX1_hasBit 12 = .ok (.iconst 1, 1) := by decide +kernel
theorem dX1_hasBit_13 : decode cX1_hasBit 13 = .ok (.goto 4, 3) := by decide +kernel
theorem dX1_hasBit_16 : decode cX1_hasBit 16 = .ok (.iconst 0, 1) := by decide +kernel
theorem dX1_hasBit_17 : decode cX1_hasBit 17 = .ok (.ireturn, 1) := by decide +kernel
set_option maxRecDepth 20000 in
theorem ggX1_cell_X2_cellIndex : GoodIn wsX1_cell wsX2_cellIndex := goodIn_r _ [4] (by decide +kernel) (by decide +kernel)
set_option maxRecDepth 20000 in
theorem gX1_cell_X2_cellIndex_n29 : GoodIn wsX1_cell (wsX2_cellIndex) := ggX1_cell_X2_cellIndex
theorem dX1_cell_0 : decode cX1_cell 0 = .ok (.aload_n 0, 1) := by decide +kernel
theorem dX1_cell_1 : decode cX1_cell 1 = .ok (.getfield 18, 3) := by decide +kernel
theorem dX1_cell_4 : decode cX1_cell 4 = .ok (.iload_n 1, 1) := by decide +kernel
theorem dX1_cell_5 : decode cX1_cell 5 = .ok (.iload_n 2, 1) := by decide +kernel
theorem dX1_cell_6 : decode cX1_cell 6 = .ok (.invokestatic 29, 3) := by decide +kernel
theorem dX1_cell_9 : decode cX1_cell 9 = .ok (.iaload, 1) := by decide +kernel
theorem dX1_cell_10 : decode cX1_cell 10 = .ok (.ireturn, 1) := by decide +kernel
set_option maxRecDepth 20000 in
theorem ggX1_cubeBit_X1_cell : GoodIn wsX1_cubeBit wsX1_cell := goodIn_r _ [5, 6, 7, 8, 9, 10, 11, 12, 13] (by decide +kernel) (by decide +kernel)
set_option maxRecDepth 20000 in
theorem gX1_cubeBit_X1_cell : GoodIn wsX1_cubeBit (wsV RX1 33 RX1 yX1_cell wsX1_cell) := goodIn_app (goodIn_of _ (by decide +kernel)) ggX1_cubeBit_X1_cell
theorem dX1_cubeBit_0 : decode cX1_cubeBit 0 = .ok (.aload_n 0, 1) := by decide +kernel
theorem dX1_cubeBit_1 : decode cX1_cubeBit 1 = .ok (.iload_n 1, 1) := by decide +kernel
theorem dX1_cubeBit_2 : decode cX1_cubeBit 2 = .ok (.iload_n 2, 1) := by decide +kernel
theorem dX1_cubeBit_3 : decode cX1_cubeBit 3 = .ok (.invokevirtual 33, 3) := by decide +kernel
theorem dX1_cubeBit_6 : decode cX1_cubeBit 6 = .ok (.iload_n 3, 1) := by decide +kernel
theorem dX1_cubeBit_7 : decode cX1_cubeBit 7 = .ok (.ishr, 1) := by decide +kernel
theorem dX1_cubeBit_8 : decode cX1_cubeBit 8 = .ok (.iconst 1, 1) := by decide +kernel
theorem dX1_cubeBit_9 : decode cX1_cubeBit 9 = .ok (.iand, 1) := by decide +kernel
theorem dX1_cubeBit_10 : decode cX1_cubeBit 10 = .ok (.ireturn, 1) := by decide +kernel
set_option maxRecDepth 20000 in
theorem ggX1_changeCell_X2_cellIndex : GoodIn wsX1_changeCell wsX2_cellIndex := goodIn_r _ [4] (by decide +kernel) (by decide +kernel)
set_option maxRecDepth 20000 in
theorem gX1_changeCell_X2_cellIndex_n29 : GoodIn wsX1_changeCell (wsX2_cellIndex) := ggX1_changeCell_X2_cellIndex
set_option maxRecDepth 20000 in
theorem ggX1_changeCell_X1_fillTable : GoodIn wsX1_changeCell wsX1_fillTable := goodIn_r _ [9, 10, 11, 12, 13, 8, 14, 15, 16, 17, 18, 19, 20, 21, 22, 23, 1, 2, 3, 4, 24, 25, 26, 27] (by decide +kernel) (by decide +kernel)
set_option maxRecDepth 20000 in
theorem gX1_changeCell_X1_fillTable : GoodIn wsX1_changeCell (wsV RX1 36 RX1 yX1_fillTable wsX1_fillTable) := goodIn_app (goodIn_of _ (by decide +kernel)) ggX1_changeCell_X1_fillTable
theorem dX1_changeCell_0 : decode cX1_changeCell 0 = .ok (.aload_n 0, 1) := by decide +kernel
theorem dX1_changeCell_1 : decode cX1_changeCell 1 = .ok (.getfield 18, 3) := by decide +kernel
theorem dX1_changeCell_4 : decode cX1_changeCell 4 = .ok (.iload_n 1, 1) := by decide +kernel
theorem dX1_changeCell_5 : decode cX1_changeCell 5 = .ok (.iload_n 2, 1) := by decide +kernel
theorem dX1_changeCell_6 : decode cX1_changeCell 6 = .ok (.invokestatic 29, 3) := by decide +kernel
theorem dX1_changeCell_9 : decode cX1_changeCell 9 = .ok (.iload_n 3, 1) := by decide +kernel
theorem dX1_changeCell_10 : decode cX1_changeCell 10 = .ok (.iastore, 1) := by decide +kernel
theorem dX1_changeCell_11 : decode cX1_changeCell 11 = .ok (.aload_n 0, 1) := by decide +kernel
theorem dX1_changeCell_12 : decode cX1_changeCell 12 = .ok (.invokevirtual 36, 3) := by decide +kernel
theorem dX1_changeCell_15 : decode cX1_changeCell 15 = .ok (.return_, 1) := by decide +kernel
set_option maxRecDepth 20000 in
theorem ggX1_take_X1_fillTable : GoodIn wsX1_take wsX1_fillTable := goodIn_r _ [8, 2, 9, 10, 11, 7, 12, 13, 14, 15, 16, 1, 17, 18, 19, 20, 3, 21, 22, 23, 24, 25, 26, 27] (by decide +kernel) (by decide +kernel)
set_option maxRecDepth 20000 in
theorem gX1_take_X1_fillTable : GoodIn wsX1_take (wsV RX1 36 RX1 yX1_fillTable wsX1_fillTable) := goodIn_app (goodIn_of _ (by decide +kernel)) ggX1_take_X1_fillTable
theorem dX1_take_0 : decode cX1_take 0 = .ok (.aload_n 0, 1) := by decide +kernel
theorem dX1_take_1 : decode cX1_take 1 = .ok (.iload_n 1, 1) := by decide +kernel
theorem dX1_take_2 : decode cX1_take 2 = .ok (.putfield 9, 3) := by decide +kernel
theorem dX1_take_5 : decode cX1_take 5 = .ok (.aload_n 0, 1) := by decide +kernel
theorem dX1_take_6 : decode cX1_take 6 = .ok (.iconst 1, 1) := by decide +kernel
theorem dX1_take_7 : decode cX1_take 7 = .ok (.iload_n 1, 1) := by decide +kernel
theorem dX1_take_8 : decode cX1_take 8 = .ok (.ishl, 1) := by decide +kernel
theorem dX1_take_9 : decode cX1_take 9 = .ok (.putfield 15, 3) := by decide +kernel
theorem dX1_take_12 : decode cX1_take 12 = .ok (.iconst 0, 1) := by decide +kernel
theorem dX1_take_13 : decode cX1_take 13 = .ok (.istore_n 3, 1) := by decide +kernel
theorem dX1_take_14 : decode cX1_take 14 = .ok (.iload_n 3, 1) := by decide +kernel
theorem dX1_take_15 : decode cX1_take 15 = .ok (.aload_n 0, 1) := by decide +kernel
theorem dX1_take_16 : decode cX1_take 16 = .ok (.getfield 18, 3) := by decide +kernel
theorem dX1_take_19 : decode cX1_take 19 = .ok (.arraylength, 1) := by decide +kernel
theorem dX1_take_20 : decode cX1_take 20 = .ok (.if_icmp .ge 24, 3) := by decide +kernel
theorem dX1_take_23 : decode cX1_take 23 = .ok (.iload_n 3, 1) := by decide +kernel
theorem dX1_take_24 : decode cX1_take 24 = .ok (.aload_n 2, 1) := by decide +kernel
theorem dX1_take_25 : decode cX1_take 25 = .ok (.arraylength, 1) := by decide +kernel
theorem dX1_take_26 : decode cX1_take 26 = .ok (.if_icmp .ge 18, 3) := by decide +kernel
theorem dX1_take_29 : decode cX1_take 29 = .ok (.aload_n 0, 1) := by decide +kernel
theorem dX1_take_30 : decode cX1_take 30 = .ok (.getfield 18, 3) := by decide +kernel
theorem dX1_take_33 : decode cX1_take 33 = .ok (.iload_n 3, 1) := by decide +kernel
theorem dX1_take_34 : decode cX1_take 34 = .ok (.aload_n 2, 1) := by decide +kernel
theorem dX1_take_35 : decode cX1_take 35 = .ok (.iload_n 3, 1) := by decide +kernel
theorem dX1_take_36 : decode cX1_take 36 = .ok (.iaload, 1) := by decide +kernel
theorem dX1_take_37 : decode cX1_take 37 = .ok (.iastore, 1) := by decide +kernel
theorem dX1_take_38 : decode cX1_take 38 = .ok (.iinc 3 1, 3) := by decide +kernel
theorem dX1_take_41 : decode cX1_take 41 = .ok (.goto (-27), 3) := by decide +kernel
theorem dX1_take_44 : decode cX1_take 44 = .ok (.aload_n 0, 1) := by decide +kernel
theorem dX1_take_45 : decode cX1_take 45 = .ok (.invokevirtual 36, 3) := by decide +kernel
theorem dX1_take_48 : decode cX1_take 48 = .ok (.return_, 1) := by decide +kernel
set_option maxRecDepth 20000 in
theorem ggX1_fillTable_X1_tableIndex : GoodIn wsX1_fillTable wsX1_tableIndex := goodIn_r _ [6] (by decide +kernel) (by decide +kernel)
set_option maxRecDepth 20000 in
theorem gX1_fillTable_X1_tableIndex : GoodIn wsX1_fillTable (va_wsS RX1 39 yX1_tableIndex wsX1_tableIndex) := goodIn_app (goodIn_of _ (by decide +kernel)) ggX1_fillTable_X1_tableIndex
set_option maxRecDepth 20000 in
theorem ggX1_fillTable_X1_sumOfCells : GoodIn wsX1_fillTable wsX1_sumOfCells := goodIn_r _ [10, 11, 12, 13, 14, 5, 15, 16, 17, 18, 19, 20, 21, 22, 23] (by decide +kernel) (by decide +kernel)
set_option maxRecDepth 20000 in
theorem gX1_fillTable_X1_sumOfCells : GoodIn wsX1_fillTable (wsV RX1 42 RX1 yX1_sumOfCells wsX1_sumOfCells) := goodIn_app (goodIn_of _ (by decide +kernel)) ggX1_fillTable_X1_sumOfCells
theorem dX1_fillTable_0 : decode cX1_fillTable 0 = .ok (.iconst 0, 1) := by decide +kernel
theorem dX1_fillTable_1 : decode cX1_fillTable 1 = .ok (.istore_n 1, 1) := by decide +kernel
theorem dX1_fillTable_2 : decode cX1_fillTable 2 = .ok (.iload_n 1, 1) := by decide +kernel
theorem dX1_fillTable_3 : decode cX1_fillTable 3 = .ok (.aload_n 0, 1) := by decide +kernel
theorem dX1_fillTable_4 : decode cX1_fillTable 4 = .ok (.getfield 15, 3) := by decide +kernel
theorem dX1_fillTable_7 : decode cX1_fillTable 7 = .ok (.if_icmp .ge 41, 3) := by decide +kernel
theorem dX1_fillTable_10 : decode cX1_fillTable 10 = .ok (.iconst 0, 1) := by decide +kernel
theorem dX1_fillTable_11 : decode cX1_fillTable 11 = .ok (.istore_n 2, 1) := by decide +kernel
theorem dX1_fillTable_12 : decode cX1_fillTable 12 = .ok (.iload_n 2, 1) := by decide +kernel
theorem dX1_fillTable_13 : decode cX1_fillTable 13 = .ok (.aload_n 0, 1) := by decide +kernel
theorem dX1_fillTable_14 : decode cX1_fillTable 14 = .ok (.getfield 15, 3) := by decide +kernel
theorem dX1_fillTable_17 : decode cX1_fillTable 17 = .ok (.if_icmp .ge 25, 3) := by decide +kernel
theorem dX1_fillTable_20 : decode cX1_fillTable 20 = .ok (.aload_n 0, 1) := by decide +kernel
theorem dX1_fillTable_21 : decode cX1_fillTable 21 = .ok (.getfield 22, 3) := by decide +kernel
theorem dX1_fillTable_24 : decode cX1_fillTable 24 = .ok (.iload_n 1, 1) := by decide +kernel
theorem dX1_fillTable_25 : decode cX1_fillTable 25 = .ok (.iload_n 2, 1) := by decide +kernel
theorem dX1_fillTable_26 : decode cX1_fillTable 26 = .ok (.invokestatic 39, 3) := by decide +kernel
theorem dX1_fillTable_29 : decode cX1_fillTable 29 = .ok (.aload_n 0, 1) := by decide +kernel
theorem dX1_fillTable_30 : decode cX1_fillTable 30 = .ok (.iload_n 1, 1) := by decide +kernel
theorem dX1_fillTable_31 : decode cX1_fillTable 31 = .ok (.iload_n 2, 1) := by decide +kernel
theorem dX1_fillTable_32 : decode cX1_fillTable 32 = .ok (.invokevirtual 42, 3) := by decide +kernel
theorem dX1_fillTable_35 : decode cX1_fillTable 35 = .ok (.iastore, 1) := by decide +kernel
theorem dX1_fillTable_36 : decode cX1_fillTable 36 = .ok (.iinc 2 1, 3) := by decide +kernel
theorem dX1_fillTable_39 : decode cX1_fillTable 39 = .ok (.goto (-27), 3) := by decide +kernel
theorem dX1_fillTable_42 : decode cX1_fillTable 42 = .ok (.iinc 1 1, 3) := by decide +kernel
theorem dX1_fillTable_45 : decode cX1_fillTable 45 = .ok (.goto (-43), 3) := by decide +kernel
theorem dX1_fillTable_48 : decode cX1_fillTable 48 = .ok (.return_, 1) := by decide +kernel
set_option maxRecDepth 20000 in
theorem ggX1_sumOfCells_X1_cell : GoodIn wsX1_sumOfCells wsX1_cell := goodIn_r _ [6, 7, 8, 9, 10, 11, 12, 13, 14] (by decide +kernel) (by decide +kernel)
set_option maxRecDepth 20000 in
theorem gX1_sumOfCells_X1_cell : GoodIn wsX1_sumOfCells (wsV RX1 33 RX1 yX1_cell wsX1_cell) := goodIn_app (goodIn_of _ (by decide +kernel)) ggX1_sumOfCells_X1_cell
theorem dX1_sumOfCells_0 : decode cX1_sumOfCells 0 = .ok (.iconst 0, 1) := by decide +kernel
theorem dX1_sumOfCells_1 : decode cX1_sumOfCells 1 = .ok (.istore_n 3, 1) := by decide +kernel
theorem dX1_sumOfCells_2 : decode cX1_sumOfCells 2 = .ok (.iconst 0, 1) := by decide +kernel
theorem dX1_sumOfCells_3 : decode cX1_sumOfCells 3 = .ok (.istore 4, 2) := by decide +kernel
theorem dX1_sumOfCells_5 : decode cX1_sumOfCells 5 = .ok (.iload 4, 2) := by decide +kernel
theorem dX1_sumOfCells_7 : decode cX1_sumOfCells 7 = .ok (.aload_n 0, 1) := by decide +kernel
theorem dX1_sumOfCells_8 : decode cX1_sumOfCells 8 = .ok (.getfield 9, 3) := by decide +kernel
theorem dX1_sumOfCells_11 : decode cX1_sumOfCells 11 = .ok (.if_icmp .ge 53, 3) := by decide +kernel
theorem dX1_sumOfCells_14 : decode cX1_sumOfCells 14 = .ok (.iconst 0, 1) := by decide +kernel
theorem dX1_sumOfCells_15 : decode cX1_sumOfCells 15 = .ok (.istore 5, 2) := by decide +kernel
theorem dX1_sumOfCells_17 : decode cX1_sumOfCells 17 = .ok (.iload 5, 2) := by decide +kernel
theorem dX1_sumOfCells_19 : decode cX1_sumOfCells 19 = .ok (.aload_n 0, 1) := by decide +kernel
theorem dX1_sumOfCells_20 : decode cX1_sumOfCells 20 = .ok (.getfield 9, 3) := by decide +kernel
theorem dX1_sumOfCells_23 : decode cX1_sumOfCells 23 = .ok (.if_icmp .ge 35, 3) := by decide +kernel
theorem dX1_sumOfCells_26 : decode cX1_sumOfCells 26 = .ok (.iload_n 1, 1) := by decide +kernel
theorem dX1_sumOfCells_27 : decode cX1_sumOfCells 27 = .ok (.iload 4, 2) := by decide +kernel
theorem dX1_sumOfCells_29 : decode cX1_sumOfCells 29 = .ok (.ishr, 1) := by decide +kernel
theorem dX1_sumOfCells_30 : decode cX1_sumOfCells 30 = .ok (.iload_n 2, 1) := by decide +kernel
theorem dX1_sumOfCells_31 : decode cX1_sumOfCells 31 = .ok (.iload 5, 2) := by decide +kernel
theorem dX1_sumOfCells_33 : decode cX1_sumOfCells 33 = .ok (.ishr, 1) := by decide +kernel
theorem dX1_sumOfCells_34 : decode cX1_sumOfCells 34 = .ok (.iand, 1) := by decide +kernel
theorem dX1_sumOfCells_35 : decode cX1_sumOfCells 35 = .ok (.iconst 1, 1) := by decide +kernel
theorem dX1_sumOfCells_36 : decode cX1_sumOfCells 36 = .ok (.iand, 1) := by decide +kernel
theorem dX1_sumOfCells_37 : decode cX1_sumOfCells 37 = .ok (.iconst 1, 1) := by decide +kernel
theorem dX1_sumOfCells_38 : decode cX1_sumOfCells 38 = .ok (.if_icmp .ne 14, 3) := by decide +kernel
theorem dX1_sumOfCells_41 : decode cX1_sumOfCells 41 = .ok (.iload_n 3, 1) := by decide +kernel
theorem dX1_sumOfCells_42 : decode cX1_sumOfCells 42 = .ok (.aload_n 0, 1) := by decide +kernel
theorem dX1_sumOfCells_43 : decode cX1_sumOfCells 43 = .ok (.iload 4, 2) := by decide +kernel
theorem dX1_sumOfCells_45 : decode cX1_sumOfCells 45 = .ok (.iload 5, 2) := by decide +kernel
theorem dX1_sumOfCells_47 : decode cX1_sumOfCells 47 = .ok (.invokevirtual 33, 3) := by decide +kernel
theorem dX1_sumOfCells_50 : decode cX1_sumOfCells 50 = .ok (.ixor, 1) := by decide +kernel
theorem dX1_sumOfCells_51 : decode cX1_sumOfCells 51 = .ok (.istore_n 3, 1) := by decide +kernel
theorem dX1_sumOfCells_52 : decode cX1_sumOfCells 52 = .ok (.iinc 5 1, 3) := by decide +kernel
theorem dX1_sumOfCells_55 : decode cX1_sumOfCells 55 = .ok (.goto (-38), 3) := by decide +kernel
theorem dX1_sumOfCells_58 : decode cX1_sumOfCells 58 = .ok (.iinc 4 1, 3) := by decide +kernel
theorem dX1_sumOfCells_61 : decode cX1_sumOfCells 61 = .ok (.goto (-56), 3) := by decide +kernel
theorem dX1_sumOfCells_64 : decode cX1_sumOfCells 64 = .ok (.iload_n 3, 1) := by decide +kernel
theorem dX1_sumOfCells_65 : decode cX1_sumOfCells 65 = .ok (.ireturn, 1) := by decide +kernel
theorem dX1_tableIndex_0 : decode cX1_tableIndex 0 = .ok (.iload_n 0, 1) := by decide +kernel
theorem dX1_tableIndex_1 : decode cX1_tableIndex 1 = .ok (.bipush 15, 2) := by decide +kernel
theorem dX1_tableIndex_3 : decode cX1_tableIndex 3 = .ok (.iand, 1) := by decide +kernel
theorem dX1_tableIndex_4 : decode cX1_tableIndex 4 = .ok (.iconst 4, 1) := by decide +kernel
theorem dX1_tableIndex_5 : decode cX1_tableIndex 5 = .ok (.ishl, 1) := by decide +kernel
theorem dX1_tableIndex_6 : decode cX1_tableIndex 6 = .ok (.iload_n 1, 1) := by decide +kernel
theorem dX1_tableIndex_7 : decode cX1_tableIndex 7 = .ok (.bipush 15, 2) := by decide +kernel
theorem dX1_tableIndex_9 : decode cX1_tableIndex 9 = .ok (.iand, 1) := by decide +kernel
theorem dX1_tableIndex_10 : decode cX1_tableIndex 10 = .ok (.ior, 1) := by decide +kernel
theorem dX1_tableIndex_11 : decode cX1_tableIndex 11 = .ok (.ireturn, 1) := by decide +kernel
set_option maxRecDepth 20000 in
theorem ggX1_times_X1_tableIndex : GoodIn wsX1_times wsX1_tableIndex := goodIn_r _ [5] (by decide +kernel) (by decide +kernel)
set_option maxRecDepth 20000 in
theorem gX1_times_X1_tableIndex : GoodIn wsX1_times (va_wsS RX1 39 yX1_tableIndex wsX1_tableIndex) := goodIn_app (goodIn_of _ (by decide +kernel)) ggX1_times_X1_tableIndex
theorem dX1_times_0 : decode cX1_times 0 = .ok (.aload_n 0, 1) := by decide +kernel
theorem dX1_times_1 : decode cX1_times 1 = .ok (.getfield 22, 3) := by decide +kernel
theorem dX1_times_4 : decode cX1_times 4 = .ok (.iload_n 1, 1) := by decide +kernel
theorem dX1_times_5 : decode cX1_times 5 = .ok (.iload_n 2, 1) := by decide +kernel
theorem dX1_times_6 : decode cX1_times 6 = .ok (.invokestatic 39, 3) := by decide +kernel
theorem dX1_times_9 : decode cX1_times 9 = .ok (.iaload, 1) := by decide +kernel
theorem dX1_times_10 : decode cX1_times 10 = .ok (.ireturn, 1) := by decide +kernel
set_option maxRecDepth 20000 in
theorem ggX1_isWhole_X1_leastBroken : GoodIn wsX1_isWhole wsX1_leastBroken := goodIn_r _ [5, 6, 7, 8, 9, 4, 10, 11, 12, 13, 14, 15, 16, 17, 18, 19, 20, 21, 22] (by decide +kernel) (by decide +kernel)
set_option maxRecDepth 20000 in
theorem gX1_isWhole_X1_leastBroken : GoodIn wsX1_isWhole (wsV RX1 45 RX1 yX1_leastBroken wsX1_leastBroken) := goodIn_app (goodIn_of _ (by decide +kernel)) ggX1_isWhole_X1_leastBroken
theorem dX1_isWhole_0 : decode cX1_isWhole 0 = .ok (.aload_n 0, 1) := by decide +kernel
theorem dX1_isWhole_1 : decode cX1_isWhole 1 = .ok (.invokevirtual 45, 3) := by decide +kernel
theorem dX1_isWhole_4 : decode cX1_isWhole 4 = .ok (.bipush (-9), 2) := by decide +kernel
theorem dX1_isWhole_6 : decode cX1_isWhole 6 = .ok (.if_icmp .ne 7, 3) := by decide +kernel
theorem dX1_isWhole_9 : decode cX1_isWhole 9 = .ok (.iconst 1, 1) := by decide +kernel
theorem dX1_isWhole_10 : decode cX1_isWhole 10 = .ok (.goto 4, 3) := by decide +kernel
theorem dX1_isWhole_13 : decode cX1_isWhole 13 = .ok (.iconst 0, 1) := by decide +kernel
theorem dX1_isWhole_14 : decode cX1_isWhole 14 = .ok (.ireturn, 1) := by decide +kernel
set_option maxRecDepth 20000 in
theorem ggX1_leastBroken_X1_leastPartner : GoodIn wsX1_leastBroken wsX1_leastPartner := goodIn_r _ [6, 1, 7, 8, 9, 5, 10, 11, 12, 13, 14, 15, 16, 17, 18] (by decide +kernel) (by decide +kernel)
set_option maxRecDepth 20000 in
theorem gX1_leastBroken_X1_leastPartner : GoodIn wsX1_leastBroken (wsV RX1 49 RX1 yX1_leastPartner wsX1_leastPartner) := goodIn_app (goodIn_of _ (by decide +kernel)) ggX1_leastBroken_X1_leastPartner
theorem dX1_leastBroken_0 : decode cX1_leastBroken 0 = .ok (.iconst 1, 1) := by decide +kernel
theorem dX1_leastBroken_1 : decode cX1_leastBroken 1 = .ok (.istore_n 1, 1) := by decide +kernel
theorem dX1_leastBroken_2 : decode cX1_leastBroken 2 = .ok (.iload_n 1, 1) := by decide +kernel
theorem dX1_leastBroken_3 : decode cX1_leastBroken 3 = .ok (.aload_n 0, 1) := by decide +kernel
theorem dX1_leastBroken_4 : decode cX1_leastBroken 4 = .ok (.getfield 15, 3) := by decide +kernel
theorem dX1_leastBroken_7 : decode cX1_leastBroken 7 = .ok (.if_icmp .ge 21, 3) := by decide +kernel
theorem dX1_leastBroken_10 : decode cX1_leastBroken 10 = .ok (.aload_n 0, 1) := by decide +kernel
theorem dX1_leastBroken_11 : decode cX1_leastBroken 11 = .ok (.iload_n 1, 1) := by decide +kernel
theorem dX1_leastBroken_12 : decode cX1_leastBroken 12 = .ok (.invokevirtual 49, 3) := by decide +kernel
theorem dX1_leastBroken_15 : decode cX1_leastBroken 15 = .ok (.bipush (-9), 2) := by decide +kernel
theorem dX1_leastBroken_17 : decode cX1_leastBroken 17 = .ok (.if_icmp .eq 5, 3) := by decide +kernel
theorem dX1_leastBroken_20 : decode cX1_leastBroken 20 = .ok (.iload_n 1, 1) := by decide +kernel
theorem dX1_leastBroken_21 : decode cX1_leastBroken 21 = .ok (.ireturn, 1) := by decide +kernel
theorem dX1_leastBroken_22 : decode cX1_leastBroken 22 = .ok (.iinc 1 1, 3) := by decide +kernel
theorem dX1_leastBroken_25 : decode cX1_leastBroken 25 = .ok (.goto (-23), 3) := by decide +kernel
theorem dX1_leastBroken_28 : decode cX1_leastBroken 28 = .ok (.bipush (-9), 2) := by decide +kernel
theorem dX1_leastBroken_30 : decode cX1_leastBroken 30 = .ok (.ireturn, 1) := by decide +kernel
set_option maxRecDepth 20000 in
theorem ggX1_leastPartner_X1_times : GoodIn wsX1_leastPartner wsX1_times := goodIn_r _ [6, 7, 8, 9, 5, 10, 11, 12, 13, 14] (by decide +kernel) (by decide +kernel)
set_option maxRecDepth 20000 in
theorem gX1_leastPartner_X1_times : GoodIn wsX1_leastPartner (wsV RX1 53 RX1 yX1_times wsX1_times) := goodIn_app (goodIn_of _ (by decide +kernel)) ggX1_leastPartner_X1_times
theorem dX1_leastPartner_0 : decode cX1_leastPartner 0 = .ok (.iconst 1, 1) := by decide +kernel
theorem dX1_leastPartner_1 : decode cX1_leastPartner 1 = .ok (.istore_n 2, 1) := by decide +kernel
theorem dX1_leastPartner_2 : decode cX1_leastPartner 2 = .ok (.iload_n 2, 1) := by decide +kernel
theorem dX1_leastPartner_3 : decode cX1_leastPartner 3 = .ok (.aload_n 0, 1) := by decide +kernel
theorem dX1_leastPartner_4 : decode cX1_leastPartner 4 = .ok (.getfield 15, 3) := by decide +kernel
theorem dX1_leastPartner_7 : decode cX1_leastPartner 7 = .ok (.if_icmp .ge 20, 3) := by decide +kernel
theorem dX1_leastPartner_10 : decode cX1_leastPartner 10 = .ok (.aload_n 0, 1) := by decide +kernel
theorem dX1_leastPartner_11 : decode cX1_leastPartner 11 = .ok (.iload_n 1, 1) := by decide +kernel
theorem dX1_leastPartner_12 : decode cX1_leastPartner 12 = .ok (.iload_n 2, 1) := by decide +kernel
theorem dX1_leastPartner_13 : decode cX1_leastPartner 13 = .ok (.invokevirtual 53, 3) := by decide +kernel
theorem dX1_leastPartner_16 : decode cX1_leastPartner 16 = .ok (.ifCond .ne 5, 3) := by decide +kernel
theorem dX1_leastPartner_19 : decode cX1_leastPartner 19 = .ok (.iload_n 2, 1) := by decide +kernel
theorem dX1_leastPartner_20 : decode cX1_leastPartner 20 = .ok (.ireturn, 1) := by decide +kernel
theorem dX1_leastPartner_21 : decode cX1_leastPartner 21 = .ok (.iinc 2 1, 3) := by decide +kernel
theorem dX1_leastPartner_24 : decode cX1_leastPartner 24 = .ok (.goto (-22), 3) := by decide +kernel
theorem dX1_leastPartner_27 : decode cX1_leastPartner 27 = .ok (.bipush (-9), 2) := by decide +kernel
theorem dX1_leastPartner_29 : decode cX1_leastPartner 29 = .ok (.ireturn, 1) := by decide +kernel
set_option maxRecDepth 20000 in
theorem ggX1_unit_X1_isUnit : GoodIn wsX1_unit wsX1_isUnit := goodIn_r _ [6, 1, 7, 8, 9, 5, 10, 11, 12, 13, 14, 15, 16, 17, 18] (by decide +kernel) (by decide +kernel)
set_option maxRecDepth 20000 in
theorem gX1_unit_X1_isUnit : GoodIn wsX1_unit (wsV RX1 56 RX1 yX1_isUnit wsX1_isUnit) := goodIn_app (goodIn_of _ (by decide +kernel)) ggX1_unit_X1_isUnit
theorem dX1_unit_0 : decode cX1_unit 0 = .ok (.iconst 0, 1) := by decide +kernel
theorem dX1_unit_1 : decode cX1_unit 1 = .ok (.istore_n 1, 1) := by decide +kernel
theorem dX1_unit_2 : decode cX1_unit 2 = .ok (.iload_n 1, 1) := by decide +kernel
theorem dX1_unit_3 : decode cX1_unit 3 = .ok (.aload_n 0, 1) := by decide +kernel
theorem dX1_unit_4 : decode cX1_unit 4 = .ok (.getfield 15, 3) := by decide +kernel
theorem dX1_unit_7 : decode cX1_unit 7 = .ok (.if_icmp .ge 19, 3) := by decide +kernel
theorem dX1_unit_10 : decode cX1_unit 10 = .ok (.aload_n 0, 1) := by decide +kernel
theorem dX1_unit_11 : decode cX1_unit 11 = .ok (.iload_n 1, 1) := by decide +kernel
theorem dX1_unit_12 : decode cX1_unit 12 = .ok (.invokevirtual 56, 3) := by decide +kernel
theorem dX1_unit_15 : decode cX1_unit 15 = .ok (.ifCond .eq 5, 3) := by decide +kernel
theorem dX1_unit_18 : decode cX1_unit 18 = .ok (.iload_n 1, 1) := by decide +kernel
theorem dX1_unit_19 : decode cX1_unit 19 = .ok (.ireturn, 1) := by decide +kernel
theorem dX1_unit_20 : decode cX1_unit 20 = .ok (.iinc 1 1, 3) := by decide +kernel
theorem dX1_unit_23 : decode cX1_unit 23 = .ok (.goto (-21), 3) := by decide +kernel
theorem dX1_unit_26 : decode cX1_unit 26 = .ok (.bipush (-9), 2) := by decide +kernel
theorem dX1_unit_28 : decode cX1_unit 28 = .ok (.ireturn, 1) := by decide +kernel
set_option maxRecDepth 20000 in
theorem ggX1_isUnit_X1_times : GoodIn wsX1_isUnit wsX1_times := goodIn_r _ [6, 7, 8, 9, 5, 10, 11, 12, 13, 14] (by decide +kernel) (by decide +kernel)
set_option maxRecDepth 20000 in
theorem gX1_isUnit_X1_times : GoodIn wsX1_isUnit (wsV RX1 53 RX1 yX1_times wsX1_times) := goodIn_app (goodIn_of _ (by decide +kernel)) ggX1_isUnit_X1_times
theorem dX1_isUnit_0 : decode cX1_isUnit 0 = .ok (.iconst 0, 1) := by decide +kernel
theorem dX1_isUnit_1 : decode cX1_isUnit 1 = .ok (.istore_n 2, 1) := by decide +kernel
theorem dX1_isUnit_2 : decode cX1_isUnit 2 = .ok (.iload_n 2, 1) := by decide +kernel
theorem dX1_isUnit_3 : decode cX1_isUnit 3 = .ok (.aload_n 0, 1) := by decide +kernel
theorem dX1_isUnit_4 : decode cX1_isUnit 4 = .ok (.getfield 15, 3) := by decide +kernel
theorem dX1_isUnit_7 : decode cX1_isUnit 7 = .ok (.if_icmp .ge 31, 3) := by decide +kernel
theorem dX1_isUnit_10 : decode cX1_isUnit 10 = .ok (.aload_n 0, 1) := by decide +kernel
theorem dX1_isUnit_11 : decode cX1_isUnit 11 = .ok (.iload_n 1, 1) := by decide +kernel
theorem dX1_isUnit_12 : decode cX1_isUnit 12 = .ok (.iload_n 2, 1) := by decide +kernel
theorem dX1_isUnit_13 : decode cX1_isUnit 13 = .ok (.invokevirtual 53, 3) := by decide +kernel
theorem dX1_isUnit_16 : decode cX1_isUnit 16 = .ok (.iload_n 2, 1) := by decide +kernel
theorem dX1_isUnit_17 : decode cX1_isUnit 17 = .ok (.if_icmp .ne 13, 3) := by decide +kernel
theorem dX1_isUnit_20 : decode cX1_isUnit 20 = .ok (.aload_n 0, 1) := by decide +kernel
theorem dX1_isUnit_21 : decode cX1_isUnit 21 = .ok (.iload_n 2, 1) := by decide +kernel
theorem dX1_isUnit_22 : decode cX1_isUnit 22 = .ok (.iload_n 1, 1) := by decide +kernel
theorem dX1_isUnit_23 : decode cX1_isUnit 23 = .ok (.invokevirtual 53, 3) := by decide +kernel
theorem dX1_isUnit_26 : decode cX1_isUnit 26 = .ok (.iload_n 2, 1) := by decide +kernel
theorem dX1_isUnit_27 : decode cX1_isUnit 27 = .ok (.if_icmp .eq 5, 3) := by decide +kernel
theorem dX1_isUnit_30 : decode cX1_isUnit 30 = .ok (.iconst 0, 1) := by decide +kernel
theorem dX1_isUnit_31 : decode cX1_isUnit 31 = .ok (.ireturn, 1) := by decide +kernel
theorem dX1_isUnit_32 : decode cX1_isUnit 32 = .ok (.iinc 2 1, 3) := by decide +kernel
theorem dX1_isUnit_35 : decode cX1_isUnit 35 = .ok (.goto (-33), 3) := by decide +kernel
theorem dX1_isUnit_38 : decode cX1_isUnit 38 = .ok (.iconst 1, 1) := by decide +kernel
theorem dX1_isUnit_39 : decode cX1_isUnit 39 = .ok (.ireturn, 1) := by decide +kernel
set_option maxRecDepth 20000 in
theorem ggX1_solve_X1_times : GoodIn wsX1_solve wsX1_times := goodIn_r _ [6, 7, 8, 9, 5, 10, 11, 12, 13, 14] (by decide +kernel) (by decide +kernel)
set_option maxRecDepth 20000 in
theorem gX1_solve_X1_times : GoodIn wsX1_solve (wsV RX1 53 RX1 yX1_times wsX1_times) := goodIn_app (goodIn_of _ (by decide +kernel)) ggX1_solve_X1_times
theorem dX1_solve_0 : decode cX1_solve 0 = .ok (.bipush (-9), 2) := by decide +kernel
theorem dX1_solve_2 : decode cX1_solve 2 = .ok (.istore 4, 2) := by decide +kernel
theorem dX1_solve_4 : decode cX1_solve 4 = .ok (.iconst 0, 1) := by decide +kernel
theorem dX1_solve_5 : decode cX1_solve 5 = .ok (.istore 5, 2) := by decide +kernel
theorem dX1_solve_7 : decode cX1_solve 7 = .ok (.iload 5, 2) := by decide +kernel
theorem dX1_solve_9 : decode cX1_solve 9 = .ok (.aload_n 0, 1) := by decide +kernel
theorem dX1_solve_10 : decode cX1_solve 10 = .ok (.getfield 15, 3) := by decide +kernel
theorem dX1_solve_13 : decode cX1_solve 13 = .ok (.if_icmp .ge 52, 3) := by decide +kernel
theorem dX1_solve_16 : decode cX1_solve 16 = .ok (.iload_n 3, 1) := by decide +kernel
theorem dX1_solve_17 : decode cX1_solve 17 = .ok (.ifCond .eq 13, 3) := by decide +kernel
theorem dX1_solve_20 : decode cX1_solve 20 = .ok (.aload_n 0, 1) := by decide +kernel
theorem dX1_solve_21 : decode cX1_solve 21 = .ok (.iload_n 1, 1) := by decide +kernel
theorem dX1_solve_22 : decode cX1_solve 22 = .ok (.iload 5, 2) := by decide +kernel
theorem dX1_solve_24 : decode cX1_solve 24 = .ok (.invokevirtual 53, 3) := by decide +kernel
theorem dX1_solve_27 : decode cX1_solve 27 = .ok (.goto 10, 3) := by decide +kernel
theorem dX1_solve_30 : decode cX1_solve 30 = .ok (.aload_n 0, 1) := by decide +kernel
theorem dX1_solve_31 : decode cX1_solve 31 = .ok (.iload 5, 2) := by decide +kernel
theorem dX1_solve_33 : decode cX1_solve 33 = .ok (.iload_n 1, 1) := by decide +kernel
theorem dX1_solve_34 : decode cX1_solve 34 = .ok (.invokevirtual 53, 3) := by decide +kernel
theorem dX1_solve_37 : decode cX1_solve 37 = .ok (.istore 6, 2) := by decide +kernel
theorem dX1_solve_39 : decode cX1_solve 39 = .ok (.iload 6, 2) := by decide +kernel
theorem dX1_solve_41 : decode cX1_solve 41 = .ok (.iload_n 2, 1) := by decide +kernel
theorem dX1_solve_42 : decode cX1_solve 42 = .ok (.if_icmp .ne 17, 3) := by decide +kernel
theorem dX1_solve_45 : decode cX1_solve 45 = .ok (.iload 4, 2) := by decide +kernel
theorem dX1_solve_47 : decode cX1_solve 47 = .ok (.bipush (-9), 2) := by decide +kernel
theorem dX1_solve_49 : decode cX1_solve 49 = .ok (.if_icmp .eq 6, 3) := by decide +kernel
theorem dX1_solve_52 : decode cX1_solve 52 = .ok (.bipush (-9), 2) := by decide +kernel
theorem dX1_solve_54 : decode cX1_solve 54 = .ok (.ireturn, 1) := by decide +kernel
theorem dX1_solve_55 : decode cX1_solve 55 = .ok (.iload 5, 2) := by decide +kernel
theorem dX1_solve_57 : decode cX1_solve 57 = .ok (.istore 4, 2) := by decide +kernel
theorem dX1_solve_59 : decode cX1_solve 59 = .ok (.iinc 5 1, 3) := by decide +kernel
theorem dX1_solve_62 : decode cX1_solve 62 = .ok (.goto (-55), 3) := by decide +kernel
theorem dX1_solve_65 : decode cX1_solve 65 = .ok (.iload 4, 2) := by decide +kernel
theorem dX1_solve_67 : decode cX1_solve 67 = .ok (.ireturn, 1) := by decide +kernel
set_option maxRecDepth 20000 in
theorem ggX1_joinsIn_X1_commutes : GoodIn wsX1_joinsIn wsX1_commutes := goodIn_r _ [5, 6, 7, 8, 9, 4, 10, 11, 12, 13, 14, 27, 28, 29, 30] (by decide +kernel) (by decide +kernel)
set_option maxRecDepth 20000 in
theorem gX1_joinsIn_X1_commutes : GoodIn wsX1_joinsIn (wsV RX1 60 RX1 yX1_commutes wsX1_commutes) := goodIn_app (goodIn_of _ (by decide +kernel)) ggX1_joinsIn_X1_commutes
set_option maxRecDepth 20000 in
theorem ggX1_joinsIn_X1_associates : GoodIn wsX1_joinsIn wsX1_associates := goodIn_r _ [18, 6, 19, 20, 21, 4, 22, 23, 24, 25, 26, 7, 8, 9, 10, 11, 12, 13, 14, 27, 28, 29, 30] (by decide +kernel) (by decide +kernel)
set_option maxRecDepth 20000 in
theorem gX1_joinsIn_X1_associates : GoodIn wsX1_joinsIn (wsV RX1 63 RX1 yX1_associates wsX1_associates) := goodIn_app (goodIn_of _ (by decide +kernel)) ggX1_joinsIn_X1_associates
theorem dX1_joinsIn_0 : decode cX1_joinsIn 0 = .ok (.iload_n 2, 1) := by decide +kernel
theorem dX1_joinsIn_1 : decode cX1_joinsIn 1 = .ok (.iconst 3, 1) := by decide +kernel
theorem dX1_joinsIn_2 : decode cX1_joinsIn 2 = .ok (.if_icmp .ne 44, 3) := by decide +kernel
theorem dX1_joinsIn_5 : decode cX1_joinsIn 5 = .ok (.aload_n 0, 1) := by decide +kernel
theorem dX1_joinsIn_6 : decode cX1_joinsIn 6 = .ok (.iload_n 1, 1) := by decide +kernel
theorem dX1_joinsIn_7 : decode cX1_joinsIn 7 = .ok (.invokevirtual 60, 3) := by decide +kernel
theorem dX1_joinsIn_10 : decode cX1_joinsIn 10 = .ok (.ifCond .eq 34, 3) := by decide +kernel
theorem dX1_joinsIn_13 : decode cX1_joinsIn 13 = .ok (.aload_n 0, 1) := by decide +kernel
theorem dX1_joinsIn_14 : decode cX1_joinsIn 14 = .ok (.iload_n 1, 1) := by decide +kernel
theorem dX1_joinsIn_15 : decode cX1_joinsIn 15 = .ok (.iconst 0, 1) := by decide +kernel
theorem dX1_joinsIn_16 : decode cX1_joinsIn 16 = .ok (.invokevirtual 63, 3) := by decide +kernel
theorem dX1_joinsIn_19 : decode cX1_joinsIn 19 = .ok (.ifCond .eq 25, 3) := by decide +kernel
theorem dX1_joinsIn_22 : decode cX1_joinsIn 22 = .ok (.aload_n 0, 1) := by decide +kernel
theorem dX1_joinsIn_23 : decode cX1_joinsIn 23 = .ok (.iload_n 1, 1) := by decide +kernel
theorem dX1_joinsIn_24 : decode cX1_joinsIn 24 = .ok (.iconst 1, 1) := by decide +kernel
theorem dX1_joinsIn_25 : decode cX1_joinsIn 25 = .ok (.invokevirtual 63, 3) := by decide +kernel
theorem dX1_joinsIn_28 : decode cX1_joinsIn 28 = .ok (.ifCond .eq 16, 3) := by decide +kernel
theorem dX1_joinsIn_31 : decode cX1_joinsIn 31 = .ok (.aload_n 0, 1) := by decide +kernel
theorem dX1_joinsIn_32 : decode cX1_joinsIn 32 = .ok (.iload_n 1, 1) := by decide +kernel
theorem dX1_joinsIn_33 : decode cX1_joinsIn 33 = .ok (.iconst 2, 1) := by decide +kernel
theorem dX1_joinsIn_34 : decode cX1_joinsIn 34 = .ok (.invokevirtual 63, 3) := by decide +kernel
theorem dX1_joinsIn_37 : decode cX1_joinsIn 37 = .ok (.ifCond .eq 7, 3) := by decide +kernel
theorem dX1_joinsIn_40 : decode cX1_joinsIn 40 = .ok (.iconst 1, 1) := by decide +kernel
theorem dX1_joinsIn_41 : decode cX1_joinsIn 41 = .ok (.goto 4, 3) := by decide +kernel
theorem dX1_joinsIn_44 : decode cX1_joinsIn 44 = .ok (.iconst 0, 1) := by decide +kernel
theorem dX1_joinsIn_45 : decode cX1_joinsIn 45 = .ok (.ireturn, 1) := by decide +kernel
theorem dX1_joinsIn_46 : decode cX1_joinsIn 46 = .ok (.aload_n 0, 1) := by decide +kernel
theorem dX1_joinsIn_47 : decode cX1_joinsIn 47 = .ok (.iload_n 1, 1) := by decide +kernel
theorem dX1_joinsIn_48 : decode cX1_joinsIn 48 = .ok (.iload_n 2, 1) := by decide +kernel
theorem dX1_joinsIn_49 : decode cX1_joinsIn 49 = .ok (.invokevirtual 63, 3) := by decide +kernel
theorem dX1_joinsIn_52 : decode cX1_joinsIn 52 = .ok (.ireturn, 1) := by decide +kernel
set_option maxRecDepth 20000 in
theorem ggX1_commutes_X1_times : GoodIn wsX1_commutes wsX1_times := goodIn_r _ [6, 7, 8, 9, 5, 10, 11, 12, 13, 14] (by decide +kernel) (by decide +kernel)
set_option maxRecDepth 20000 in
theorem gX1_commutes_X1_times : GoodIn wsX1_commutes (wsV RX1 53 RX1 yX1_times wsX1_times) := goodIn_app (goodIn_of _ (by decide +kernel)) ggX1_commutes_X1_times
theorem dX1_commutes_0 : decode cX1_commutes 0 = .ok (.iconst 0, 1) := by decide +kernel
theorem dX1_commutes_1 : decode cX1_commutes 1 = .ok (.istore_n 2, 1) := by decide +kernel
theorem dX1_commutes_2 : decode cX1_commutes 2 = .ok (.iload_n 2, 1) := by decide +kernel
theorem dX1_commutes_3 : decode cX1_commutes 3 = .ok (.aload_n 0, 1) := by decide +kernel
theorem dX1_commutes_4 : decode cX1_commutes 4 = .ok (.getfield 9, 3) := by decide +kernel
theorem dX1_commutes_7 : decode cX1_commutes 7 = .ok (.if_icmp .ge 30, 3) := by decide +kernel
theorem dX1_commutes_10 : decode cX1_commutes 10 = .ok (.aload_n 0, 1) := by decide +kernel
theorem dX1_commutes_11 : decode cX1_commutes 11 = .ok (.iload_n 1, 1) := by decide +kernel
theorem dX1_commutes_12 : decode cX1_commutes 12 = .ok (.iconst 1, 1) := by decide +kernel
theorem dX1_commutes_13 : decode cX1_commutes 13 = .ok (.iload_n 2, 1) := by decide +kernel
theorem dX1_commutes_14 : decode cX1_commutes 14 = .ok (.ishl, 1) := by decide +kernel
theorem dX1_commutes_15 : decode cX1_commutes 15 = .ok (.invokevirtual 53, 3) := by decide +kernel
theorem dX1_commutes_18 : decode cX1_commutes 18 = .ok (.aload_n 0, 1) := by decide +kernel
theorem dX1_commutes_19 : decode cX1_commutes 19 = .ok (.iconst 1, 1) := by decide +kernel
theorem dX1_commutes_20 : decode cX1_commutes 20 = .ok (.iload_n 2, 1) := by decide +kernel
theorem dX1_commutes_21 : decode cX1_commutes 21 = .ok (.ishl, 1) := by decide +kernel
theorem dX1_commutes_22 : decode cX1_commutes 22 = .ok (.iload_n 1, 1) := by decide +kernel
theorem dX1_commutes_23 : decode cX1_commutes 23 = .ok (.invokevirtual 53, 3) := by decide +kernel
theorem dX1_commutes_26 : decode cX1_commutes 26 = .ok (.if_icmp .eq 5, 3) := by decide +kernel
theorem dX1_commutes_29 : decode cX1_commutes 29 = .ok (.iconst 0, 1) := by decide +kernel
theorem dX1_commutes_30 : decode cX1_commutes 30 = .ok (.ireturn, 1) := by decide +kernel
theorem dX1_commutes_31 : decode cX1_commutes 31 = .ok (.iinc 2 1, 3) := by decide +kernel
theorem dX1_commutes_34 : decode cX1_commutes 34 = .ok (.goto (-32), 3) := by decide +kernel
theorem dX1_commutes_37 : decode cX1_commutes 37 = .ok (.iconst 1, 1) := by decide +kernel
theorem dX1_commutes_38 : decode cX1_commutes 38 = .ok (.ireturn, 1) := by decide +kernel
set_option maxRecDepth 20000 in
theorem ggX1_associates_X1_associatesWith : GoodIn wsX1_associates wsX1_associatesWith := goodIn_r _ [6, 7, 8, 9, 5, 10, 11, 12, 13, 14, 15, 16, 17, 18, 19, 20, 21, 22] (by decide +kernel) (by decide +kernel)
set_option maxRecDepth 20000 in
theorem gX1_associates_X1_associatesWith : GoodIn wsX1_associates (wsV RX1 67 RX1 yX1_associatesWith wsX1_associatesWith) := goodIn_app (goodIn_of _ (by decide +kernel)) ggX1_associates_X1_associatesWith
theorem dX1_associates_0 : decode cX1_associates 0 = .ok (.iconst 0, 1) := by decide +kernel
theorem dX1_associates_1 : decode cX1_associates 1 = .ok (.istore_n 3, 1) := by decide +kernel
theorem dX1_associates_2 : decode cX1_associates 2 = .ok (.iload_n 3, 1) := by decide +kernel
theorem dX1_associates_3 : decode cX1_associates 3 = .ok (.aload_n 0, 1) := by decide +kernel
theorem dX1_associates_4 : decode cX1_associates 4 = .ok (.getfield 9, 3) := by decide +kernel
theorem dX1_associates_7 : decode cX1_associates 7 = .ok (.if_icmp .ge 45, 3) := by decide +kernel
theorem dX1_associates_10 : decode cX1_associates 10 = .ok (.iconst 0, 1) := by decide +kernel
theorem dX1_associates_11 : decode cX1_associates 11 = .ok (.istore 4, 2) := by decide +kernel
theorem dX1_associates_13 : decode cX1_associates 13 = .ok (.iload 4, 2) := by decide +kernel
theorem dX1_associates_15 : decode cX1_associates 15 = .ok (.aload_n 0, 1) := by decide +kernel
theorem dX1_associates_16 : decode cX1_associates 16 = .ok (.getfield 9, 3) := by decide +kernel
theorem dX1_associates_19 : decode cX1_associates 19 = .ok (.if_icmp .ge 27, 3) := by decide +kernel
theorem dX1_associates_22 : decode cX1_associates 22 = .ok (.aload_n 0, 1) := by decide +kernel
theorem dX1_associates_23 : decode cX1_associates 23 = .ok (.iload_n 1, 1) := by decide +kernel
theorem dX1_associates_24 : decode cX1_associates 24 = .ok (.iconst 1, 1) := by decide +kernel
theorem dX1_associates_25 : decode cX1_associates 25 = .ok (.iload_n 3, 1) := by decide +kernel
theorem dX1_associates_26 : decode cX1_associates 26 = .ok (.ishl, 1) := by decide +kernel
theorem dX1_associates_27 : decode cX1_associates 27 = .ok (.iconst 1, 1) := by decide +kernel
theorem dX1_associates_28 : decode cX1_associates 28 = .ok (.iload 4, 2) := by decide +kernel
theorem dX1_associates_30 : decode cX1_associates 30 = .ok (.ishl, 1) := by decide +kernel
theorem dX1_associates_31 : decode cX1_associates 31 = .ok (.iload_n 2, 1) := by decide +kernel
theorem dX1_associates_32 : decode cX1_associates 32 = .ok (.invokevirtual 67, 3) := by decide +kernel
theorem dX1_associates_35 : decode cX1_associates 35 = .ok (.ifCond .ne 5, 3) := by decide +kernel
theorem dX1_associates_38 : decode cX1_associates 38 = .ok (.iconst 0, 1) := by decide +kernel
theorem dX1_associates_39 : decode cX1_associates 39 = .ok (.ireturn, 1) := by decide +kernel
theorem dX1_associates_40 : decode cX1_associates 40 = .ok (.iinc 4 1, 3) := by decide +kernel
theorem dX1_associates_43 : decode cX1_associates 43 = .ok (.goto (-30), 3) := by decide +kernel
theorem dX1_associates_46 : decode cX1_associates 46 = .ok (.iinc 3 1, 3) := by decide +kernel
theorem dX1_associates_49 : decode cX1_associates 49 = .ok (.goto (-47), 3) := by decide +kernel
theorem dX1_associates_52 : decode cX1_associates 52 = .ok (.iconst 1, 1) := by decide +kernel
theorem dX1_associates_53 : decode cX1_associates 53 = .ok (.ireturn, 1) := by decide +kernel
set_option maxRecDepth 20000 in
theorem ggX1_associatesWith_X1_isOneProduct : GoodIn wsX1_associatesWith wsX1_isOneProduct := goodIn_r _ [5, 6, 7, 8, 4, 9, 10, 11, 12, 13, 14, 15, 16, 17] (by decide +kernel) (by decide +kernel)
set_option maxRecDepth 20000 in
theorem gX1_associatesWith_X1_isOneProduct : GoodIn wsX1_associatesWith (wsV RX1 71 RX1 yX1_isOneProduct wsX1_isOneProduct) := goodIn_app (goodIn_of _ (by decide +kernel)) ggX1_associatesWith_X1_isOneProduct
theorem dX1_associatesWith_0 : decode cX1_associatesWith 0 = .ok (.iload 4, 2) := by decide +kernel
theorem dX1_associatesWith_2 : decode cX1_associatesWith 2 = .ok (.lookupswitch 42 #[(0, 26), (1, 34)], 26) := by decide +kernel
theorem dX1_associatesWith_28 : decode cX1_associatesWith 28 = .ok (.aload_n 0, 1) := by decide +kernel
theorem dX1_associatesWith_29 : decode cX1_associatesWith 29 = .ok (.iload_n 1, 1) := by decide +kernel
theorem dX1_associatesWith_30 : decode cX1_associatesWith 30 = .ok (.iload_n 2, 1) := by decide +kernel
theorem dX1_associatesWith_31 : decode cX1_associatesWith 31 = .ok (.iload_n 3, 1) := by decide +kernel
theorem dX1_associatesWith_32 : decode cX1_associatesWith 32 = .ok (.invokevirtual 71, 3) := by decide +kernel
theorem dX1_associatesWith_35 : decode cX1_associatesWith 35 = .ok (.ireturn, 1) := by decide +kernel
theorem dX1_associatesWith_36 : decode cX1_associatesWith 36 = .ok (.aload_n 0, 1) := by decide +kernel
theorem dX1_associatesWith_37 : decode cX1_associatesWith 37 = .ok (.iload_n 2, 1) := by decide +kernel
theorem dX1_associatesWith_38 : decode cX1_associatesWith 38 = .ok (.iload_n 1, 1) := by decide +kernel
theorem dX1_associatesWith_39 : decode cX1_associatesWith 39 = .ok (.iload_n 3, 1) := by decide +kernel
theorem dX1_associatesWith_40 : decode cX1_associatesWith 40 = .ok (.invokevirtual 71, 3) := by decide +kernel
theorem dX1_associatesWith_43 : decode cX1_associatesWith 43 = .ok (.ireturn, 1) := by decide +kernel
theorem dX1_associatesWith_44 : decode cX1_associatesWith 44 = .ok (.aload_n 0, 1) := by decide +kernel
theorem dX1_associatesWith_45 : decode cX1_associatesWith 45 = .ok (.iload_n 2, 1) := by decide +kernel
theorem dX1_associatesWith_46 : decode cX1_associatesWith 46 = .ok (.iload_n 3, 1) := by decide +kernel
theorem dX1_associatesWith_47 : decode cX1_associatesWith 47 = .ok (.iload_n 1, 1) := by decide +kernel
theorem dX1_associatesWith_48 : decode cX1_associatesWith 48 = .ok (.invokevirtual 71, 3) := by decide +kernel
theorem dX1_associatesWith_51 : decode cX1_associatesWith 51 = .ok (.ireturn, 1) := by decide +kernel
set_option maxRecDepth 20000 in
theorem ggX1_isOneProduct_X1_times : GoodIn wsX1_isOneProduct wsX1_times := goodIn_r _ [5, 6, 7, 8, 4, 9, 10, 11, 12, 13] (by decide +kernel) (by decide +kernel)
set_option maxRecDepth 20000 in
theorem gX1_isOneProduct_X1_times : GoodIn wsX1_isOneProduct (wsV RX1 53 RX1 yX1_times wsX1_times) := goodIn_app (goodIn_of _ (by decide +kernel)) ggX1_isOneProduct_X1_times
theorem dX1_isOneProduct_0 : decode cX1_isOneProduct 0 = .ok (.aload_n 0, 1) := by decide +kernel
theorem dX1_isOneProduct_1 : decode cX1_isOneProduct 1 = .ok (.iload_n 1, 1) := by decide +kernel
theorem dX1_isOneProduct_2 : decode cX1_isOneProduct 2 = .ok (.aload_n 0, 1) := by decide +kernel
theorem dX1_isOneProduct_3 : decode cX1_isOneProduct 3 = .ok (.iload_n 2, 1) := by decide +kernel
theorem dX1_isOneProduct_4 : decode cX1_isOneProduct 4 = .ok (.iload_n 3, 1) := by decide +kernel
theorem dX1_isOneProduct_5 : decode cX1_isOneProduct 5 = .ok (.invokevirtual 53, 3) := by decide +kernel
theorem dX1_isOneProduct_8 : decode cX1_isOneProduct 8 = .ok (.invokevirtual 53, 3) := by decide +kernel
theorem dX1_isOneProduct_11 : decode cX1_isOneProduct 11 = .ok (.aload_n 0, 1) := by decide +kernel
theorem dX1_isOneProduct_12 : decode cX1_isOneProduct 12 = .ok (.aload_n 0, 1) := by decide +kernel
theorem dX1_isOneProduct_13 : decode cX1_isOneProduct 13 = .ok (.iload_n 1, 1) := by decide +kernel
theorem dX1_isOneProduct_14 : decode cX1_isOneProduct 14 = .ok (.iload_n 2, 1) := by decide +kernel
theorem dX1_isOneProduct_15 : decode cX1_isOneProduct 15 = .ok (.invokevirtual 53, 3) := by decide +kernel
theorem dX1_isOneProduct_18 : decode cX1_isOneProduct 18 = .ok (.iload_n 3, 1) := by decide +kernel
theorem dX1_isOneProduct_19 : decode cX1_isOneProduct 19 = .ok (.invokevirtual 53, 3) := by decide +kernel
theorem dX1_isOneProduct_22 : decode cX1_isOneProduct 22 = .ok (.if_icmp .ne 7, 3) := by decide +kernel
theorem dX1_isOneProduct_25 : decode cX1_isOneProduct 25 = .ok (.iconst 1, 1) := by decide +kernel
theorem dX1_isOneProduct_26 : decode cX1_isOneProduct 26 = .ok (.goto 4, 3) := by decide +kernel
theorem dX1_isOneProduct_29 : decode cX1_isOneProduct 29 = .ok (.iconst 0, 1) := by decide +kernel
theorem dX1_isOneProduct_30 : decode cX1_isOneProduct 30 = .ok (.ireturn, 1) := by decide +kernel
set_option maxRecDepth 20000 in
theorem ggX1_countUnlike_X1_times : GoodIn wsX1_countUnlike wsX1_times := goodIn_r _ [6, 7, 8, 9, 5, 10, 11, 12, 13, 14] (by decide +kernel) (by decide +kernel)
set_option maxRecDepth 20000 in
theorem gX1_countUnlike_X1_times : GoodIn wsX1_countUnlike (wsV RX1 53 RX1 yX1_times wsX1_times) := goodIn_app (goodIn_of _ (by decide +kernel)) ggX1_countUnlike_X1_times
theorem dX1_countUnlike_0 : decode cX1_countUnlike 0 = .ok (.iconst 0, 1) := by decide +kernel
theorem dX1_countUnlike_1 : decode cX1_countUnlike 1 = .ok (.istore_n 1, 1) := by decide +kernel
theorem dX1_countUnlike_2 : decode cX1_countUnlike 2 = .ok (.iconst 0, 1) := by decide +kernel
theorem dX1_countUnlike_3 : decode cX1_countUnlike 3 = .ok (.istore_n 2, 1) := by decide +kernel
theorem dX1_countUnlike_4 : decode cX1_countUnlike 4 = .ok (.iload_n 2, 1) := by decide +kernel
theorem dX1_countUnlike_5 : decode cX1_countUnlike 5 = .ok (.aload_n 0, 1) := by decide +kernel
theorem dX1_countUnlike_6 : decode cX1_countUnlike 6 = .ok (.getfield 15, 3) := by decide +kernel
theorem dX1_countUnlike_9 : decode cX1_countUnlike 9 = .ok (.if_icmp .ge 43, 3) := by decide +kernel
theorem dX1_countUnlike_12 : decode cX1_countUnlike 12 = .ok (.iconst 0, 1) := by decide +kernel
theorem dX1_countUnlike_13 : decode cX1_countUnlike 13 = .ok (.istore_n 3, 1) := by decide +kernel
theorem dX1_countUnlike_14 : decode cX1_countUnlike 14 = .ok (.iload_n 3, 1) := by decide +kernel
theorem dX1_countUnlike_15 : decode cX1_countUnlike 15 = .ok (.aload_n 0, 1) := by decide +kernel
theorem dX1_countUnlike_16 : decode cX1_countUnlike 16 = .ok (.getfield 15, 3) := by decide +kernel
theorem dX1_countUnlike_19 : decode cX1_countUnlike 19 = .ok (.if_icmp .ge 27, 3) := by decide +kernel
theorem dX1_countUnlike_22 : decode cX1_countUnlike 22 = .ok (.aload_n 0, 1) := by decide +kernel
theorem dX1_countUnlike_23 : decode cX1_countUnlike 23 = .ok (.iload_n 2, 1) := by decide +kernel
theorem dX1_countUnlike_24 : decode cX1_countUnlike 24 = .ok (.iload_n 3, 1) := by decide +kernel
theorem dX1_countUnlike_25 : decode cX1_countUnlike 25 = .ok (.invokevirtual 53, 3) := by decide +kernel
theorem dX1_countUnlike_28 : decode cX1_countUnlike 28 = .ok (.aload_n 0, 1) := by decide +kernel
theorem dX1_countUnlike_29 : decode cX1_countUnlike 29 = .ok (.iload_n 3, 1) := by decide +kernel
theorem dX1_countUnlike_30 : decode cX1_countUnlike 30 = .ok (.iload_n 2, 1) := by decide +kernel
theorem dX1_countUnlike_31 : decode cX1_countUnlike 31 = .ok (.invokevirtual 53, 3) := by decide +kernel
theorem dX1_countUnlike_34 : decode cX1_countUnlike 34 = .ok (.if_icmp .eq 6, 3) := by decide +kernel
theorem dX1_countUnlike_37 : decode cX1_countUnlike 37 = .ok (.iinc 1 1, 3) := by decide +kernel
theorem dX1_countUnlike_40 : decode cX1_countUnlike 40 = .ok (.iinc 3 1, 3) := by decide +kernel
theorem dX1_countUnlike_43 : decode cX1_countUnlike 43 = .ok (.goto (-29), 3) := by decide +kernel
theorem dX1_countUnlike_46 : decode cX1_countUnlike 46 = .ok (.iinc 2 1, 3) := by decide +kernel
theorem dX1_countUnlike_49 : decode cX1_countUnlike 49 = .ok (.goto (-45), 3) := by decide +kernel
theorem dX1_countUnlike_52 : decode cX1_countUnlike 52 = .ok (.iload_n 1, 1) := by decide +kernel
theorem dX1_countUnlike_53 : decode cX1_countUnlike 53 = .ok (.ireturn, 1) := by decide +kernel
set_option maxRecDepth 20000 in
theorem ggX1_rankOf_X1_times : GoodIn wsX1_rankOf wsX1_times := goodIn_r _ [7, 8, 9, 10, 6, 11, 19, 20, 21, 22] (by decide +kernel) (by decide +kernel)
set_option maxRecDepth 20000 in
theorem gX1_rankOf_X1_times : GoodIn wsX1_rankOf (wsV RX1 53 RX1 yX1_times wsX1_times) := goodIn_app (goodIn_of _ (by decide +kernel)) ggX1_rankOf_X1_times
set_option maxRecDepth 20000 in
theorem ggX1_rankOf_J6_bitCount_0f7a4 : GoodIn wsX1_rankOf wsJ6_bitCount_0f7a4 := goodIn_r _ [15, 16, 17, 18] (by decide +kernel) (by decide +kernel)
set_option maxRecDepth 20000 in
theorem gX1_rankOf_J6_bitCount_0f7a4 : GoodIn wsX1_rankOf (va_wsS RX1 75 yJ6_bitCount_0f7a4 wsJ6_bitCount_0f7a4) := goodIn_app (goodIn_of _ (by decide +kernel)) ggX1_rankOf_J6_bitCount_0f7a4
theorem dX1_rankOf_0 : decode cX1_rankOf 0 = .ok (.iconst 0, 1) := by decide +kernel
theorem dX1_rankOf_1 : decode cX1_rankOf 1 = .ok (.istore_n 2, 1) := by decide +kernel
theorem dX1_rankOf_2 : decode cX1_rankOf 2 = .ok (.iconst 0, 1) := by decide +kernel
theorem dX1_rankOf_3 : decode cX1_rankOf 3 = .ok (.istore_n 3, 1) := by decide +kernel
theorem dX1_rankOf_4 : decode cX1_rankOf 4 = .ok (.iload_n 3, 1) := by decide +kernel
theorem dX1_rankOf_5 : decode cX1_rankOf 5 = .ok (.aload_n 0, 1) := by decide +kernel
theorem dX1_rankOf_6 : decode cX1_rankOf 6 = .ok (.getfield 15, 3) := by decide +kernel
theorem dX1_rankOf_9 : decode cX1_rankOf 9 = .ok (.if_icmp .ge 20, 3) := by decide +kernel
theorem dX1_rankOf_12 : decode cX1_rankOf 12 = .ok (.iload_n 2, 1) := by decide +kernel
theorem dX1_rankOf_13 : decode cX1_rankOf 13 = .ok (.iconst 1, 1) := by decide +kernel
theorem dX1_rankOf_14 : decode cX1_rankOf 14 = .ok (.aload_n 0, 1) := by decide +kernel
theorem dX1_rankOf_15 : decode cX1_rankOf 15 = .ok (.iload_n 3, 1) := by decide +kernel
theorem dX1_rankOf_16 : decode cX1_rankOf 16 = .ok (.iload_n 1, 1) := by decide +kernel
theorem dX1_rankOf_17 : decode cX1_rankOf 17 = .ok (.invokevirtual 53, 3) := by decide +kernel
theorem dX1_rankOf_20 : decode cX1_rankOf 20 = .ok (.ishl, 1) := by decide +kernel
theorem dX1_rankOf_21 : decode cX1_rankOf 21 = .ok (.ior, 1) := by decide +kernel
theorem dX1_rankOf_22 : decode cX1_rankOf 22 = .ok (.istore_n 2, 1) := by decide +kernel
theorem dX1_rankOf_23 : decode cX1_rankOf 23 = .ok (.iinc 3 1, 3) := by decide +kernel
theorem dX1_rankOf_26 : decode cX1_rankOf 26 = .ok (.goto (-22), 3) := by decide +kernel
theorem dX1_rankOf_29 : decode cX1_rankOf 29 = .ok (.iload_n 2, 1) := by decide +kernel
theorem dX1_rankOf_30 : decode cX1_rankOf 30 = .ok (.invokestatic 75, 3) := by decide +kernel
theorem dX1_rankOf_33 : decode cX1_rankOf 33 = .ok (.istore_n 3, 1) := by decide +kernel
theorem dX1_rankOf_34 : decode cX1_rankOf 34 = .ok (.iconst 0, 1) := by decide +kernel
theorem dX1_rankOf_35 : decode cX1_rankOf 35 = .ok (.istore 4, 2) := by decide +kernel
theorem dX1_rankOf_37 : decode cX1_rankOf 37 = .ok (.iload 4, 2) := by decide +kernel
theorem dX1_rankOf_39 : decode cX1_rankOf 39 = .ok (.aload_n 0, 1) := by decide +kernel
theorem dX1_rankOf_40 : decode cX1_rankOf 40 = .ok (.getfield 9, 3) := by decide +kernel
theorem dX1_rankOf_43 : decode cX1_rankOf 43 = .ok (.if_icmp .ge 17, 3) := by decide +kernel
theorem dX1_rankOf_46 : decode cX1_rankOf 46 = .ok (.iconst 1, 1) := by decide +kernel
theorem dX1_rankOf_47 : decode cX1_rankOf 47 = .ok (.iload 4, 2) := by decide +kernel
theorem dX1_rankOf_49 : decode cX1_rankOf 49 = .ok (.ishl, 1) := by decide +kernel
theorem dX1_rankOf_50 : decode cX1_rankOf 50 = .ok (.iload_n 3, 1) := by decide +kernel
theorem dX1_rankOf_51 : decode cX1_rankOf 51 = .ok (.if_icmp .ge 9, 3) := by decide +kernel
theorem dX1_rankOf_54 : decode cX1_rankOf 54 = .ok (.iinc 4 1, 3) := by decide +kernel
theorem dX1_rankOf_57 : decode cX1_rankOf 57 = .ok (.goto (-20), 3) := by decide +kernel
theorem dX1_rankOf_60 : decode cX1_rankOf 60 = .ok (.iload 4, 2) := by decide +kernel
theorem dX1_rankOf_62 : decode cX1_rankOf 62 = .ok (.ireturn, 1) := by decide +kernel
theorem dJ6_bitCount_0f7a4_0 : decode cJ6_bitCount_0f7a4 0 = .ok (.iload_n 0, 1) := by decide +kernel
theorem dJ6_bitCount_0f7a4_1 : decode cJ6_bitCount_0f7a4 1 = .ok (.iload_n 0, 1) := by decide +kernel
theorem dJ6_bitCount_0f7a4_2 : decode cJ6_bitCount_0f7a4 2 = .ok (.iconst 1, 1) := by decide +kernel
theorem dJ6_bitCount_0f7a4_3 : decode cJ6_bitCount_0f7a4 3 = .ok (.iushr, 1) := by decide +kernel
theorem dJ6_bitCount_0f7a4_4 : decode cJ6_bitCount_0f7a4 4 = .ok (.ldc_w 265, 3) := by decide +kernel
theorem dJ6_bitCount_0f7a4_7 : decode cJ6_bitCount_0f7a4 7 = .ok (.iand, 1) := by decide +kernel
theorem dJ6_bitCount_0f7a4_8 : decode cJ6_bitCount_0f7a4 8 = .ok (.isub, 1) := by decide +kernel
theorem dJ6_bitCount_0f7a4_9 : decode cJ6_bitCount_0f7a4 9 = .ok (.istore_n 0, 1) := by decide +kernel
theorem dJ6_bitCount_0f7a4_10 : decode cJ6_bitCount_0f7a4 10 = .ok (.iload_n 0, 1) := by decide +kernel
theorem dJ6_bitCount_0f7a4_11 : decode cJ6_bitCount_0f7a4 11 = .ok (.ldc_w 266, 3) := by decide +kernel
theorem dJ6_bitCount_0f7a4_14 : decode cJ6_bitCount_0f7a4 14 = .ok (.iand, 1) := by decide +kernel
theorem dJ6_bitCount_0f7a4_15 : decode cJ6_bitCount_0f7a4 15 = .ok (.iload_n 0, 1) := by decide +kernel
theorem dJ6_bitCount_0f7a4_16 : decode cJ6_bitCount_0f7a4 16 = .ok (.iconst 2, 1) := by decide +kernel
theorem dJ6_bitCount_0f7a4_17 : decode cJ6_bitCount_0f7a4 17 = .ok (.iushr, 1) := by decide +kernel
theorem dJ6_bitCount_0f7a4_18 : decode cJ6_bitCount_0f7a4 18 = .ok (.ldc_w 266, 3) := by decide +kernel
theorem dJ6_bitCount_0f7a4_21 : decode cJ6_bitCount_0f7a4 21 = .ok (.iand, 1) := by decide +kernel
theorem dJ6_bitCount_0f7a4_22 : decode cJ6_bitCount_0f7a4 22 = .ok (.iadd, 1) := by decide +kernel
theorem dJ6_bitCount_0f7a4_23 : decode cJ6_bitCount_0f7a4 23 = .ok (.istore_n 0, 1) := by decide +kernel
theorem dJ6_bitCount_0f7a4_24 : decode cJ6_bitCount_0f7a4 24 = .ok (.iload_n 0, 1) := by decide +kernel
theorem dJ6_bitCount_0f7a4_25 : decode cJ6_bitCount_0f7a4 25 = .ok (.iload_n 0, 1) := by decide +kernel
theorem dJ6_bitCount_0f7a4_26 : decode cJ6_bitCount_0f7a4 26 = .ok (.iconst 4, 1) := by decide +kernel
theorem dJ6_bitCount_0f7a4_27 : decode cJ6_bitCount_0f7a4 27 = .ok (.iushr, 1) := by decide +kernel
theorem dJ6_bitCount_0f7a4_28 : decode cJ6_bitCount_0f7a4 28 = .ok (.iadd, 1) := by decide +kernel
theorem dJ6_bitCount_0f7a4_29 : decode cJ6_bitCount_0f7a4 29 = .ok (.ldc_w 267, 3) := by decide +kernel
theorem dJ6_bitCount_0f7a4_32 : decode cJ6_bitCount_0f7a4 32 = .ok (.iand, 1) := by decide +kernel
theorem dJ6_bitCount_0f7a4_33 : decode cJ6_bitCount_0f7a4 33 = .ok (.istore_n 0, 1) := by decide +kernel
theorem dJ6_bitCount_0f7a4_34 : decode cJ6_bitCount_0f7a4 34 = .ok (.iload_n 0, 1) := by decide +kernel
theorem dJ6_bitCount_0f7a4_35 : decode cJ6_bitCount_0f7a4 35 = .ok (.iload_n 0, 1) := by decide +kernel
theorem dJ6_bitCount_0f7a4_36 : decode cJ6_bitCount_0f7a4 36 = .ok (.bipush 8, 2) := by decide +kernel
theorem dJ6_bitCount_0f7a4_38 : decode cJ6_bitCount_0f7a4 38 = .ok (.iushr, 1) := by decide +kernel
theorem dJ6_bitCount_0f7a4_39 : decode cJ6_bitCount_0f7a4 39 = .ok (.iadd, 1) := by decide +kernel
theorem dJ6_bitCount_0f7a4_40 : decode cJ6_bitCount_0f7a4 40 = .ok (.istore_n 0, 1) := by decide +kernel
theorem dJ6_bitCount_0f7a4_41 : decode cJ6_bitCount_0f7a4 41 = .ok (.iload_n 0, 1) := by decide +kernel
theorem dJ6_bitCount_0f7a4_42 : decode cJ6_bitCount_0f7a4 42 = .ok (.iload_n 0, 1) := by decide +kernel
theorem dJ6_bitCount_0f7a4_43 : decode cJ6_bitCount_0f7a4 43 = .ok (.bipush 16, 2) := by decide +kernel
theorem dJ6_bitCount_0f7a4_45 : decode cJ6_bitCount_0f7a4 45 = .ok (.iushr, 1) := by decide +kernel
theorem dJ6_bitCount_0f7a4_46 : decode cJ6_bitCount_0f7a4 46 = .ok (.iadd, 1) := by decide +kernel
theorem dJ6_bitCount_0f7a4_47 : decode cJ6_bitCount_0f7a4 47 = .ok (.istore_n 0, 1) := by decide +kernel
theorem dJ6_bitCount_0f7a4_48 : decode cJ6_bitCount_0f7a4 48 = .ok (.iload_n 0, 1) := by decide +kernel
theorem dJ6_bitCount_0f7a4_49 : decode cJ6_bitCount_0f7a4 49 = .ok (.bipush 63, 2) := by decide +kernel
theorem dJ6_bitCount_0f7a4_51 : decode cJ6_bitCount_0f7a4 51 = .ok (.iand, 1) := by decide +kernel
theorem dJ6_bitCount_0f7a4_52 : decode cJ6_bitCount_0f7a4 52 = .ok (.ireturn, 1) := by decide +kernel
theorem dJ9_max_7cf53_0 : decode cJ9_max_7cf53 0 = .ok (.iload_n 0, 1) := by decide +kernel
theorem dJ9_max_7cf53_1 : decode cJ9_max_7cf53 1 = .ok (.iload_n 1, 1) := by decide +kernel
theorem dJ9_max_7cf53_2 : decode cJ9_max_7cf53 2 = .ok (.if_icmp .lt 7, 3) := by decide +kernel
theorem dJ9_max_7cf53_5 : decode cJ9_max_7cf53 5 = .ok (.iload_n 0, 1) := by decide +kernel
theorem dJ9_max_7cf53_6 : decode cJ9_max_7cf53 6 = .ok (.goto 4, 3) := by decide +kernel
theorem dJ9_max_7cf53_9 : decode cJ9_max_7cf53 9 = .ok (.iload_n 1, 1) := by decide +kernel
theorem dJ9_max_7cf53_10 : decode cJ9_max_7cf53 10 = .ok (.ireturn, 1) := by decide +kernel
theorem dJ9_min_7cf53_0 : decode cJ9_min_7cf53 0 = .ok (.iload_n 0, 1) := by decide +kernel
theorem dJ9_min_7cf53_1 : decode cJ9_min_7cf53 1 = .ok (.iload_n 1, 1) := by decide +kernel
theorem dJ9_min_7cf53_2 : decode cJ9_min_7cf53 2 = .ok (.if_icmp .gt 7, 3) := by decide +kernel
theorem dJ9_min_7cf53_5 : decode cJ9_min_7cf53 5 = .ok (.iload_n 0, 1) := by decide +kernel
theorem dJ9_min_7cf53_6 : decode cJ9_min_7cf53 6 = .ok (.goto 4, 3) := by decide +kernel
theorem dJ9_min_7cf53_9 : decode cJ9_min_7cf53 9 = .ok (.iload_n 1, 1) := by decide +kernel
theorem dJ9_min_7cf53_10 : decode cJ9_min_7cf53 10 = .ok (.ireturn, 1) := by decide +kernel
