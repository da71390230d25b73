set_option maxRecDepth 20000 in
theorem ggX2_init_X1_init : GoodIn wsX2_init wsX1_init := goodIn_r _ [18, 19, 2, 3, 20, 21, 7, 22, 23, 24, 25, 26, 10, 27, 28, 29, 30, 31, 32, 33, 34, 35, 36, 37, 38, 39, 40, 41, 42, 43, 44, 45, 53, 54, 55, 56] (by decide +kernel) (by decide +kernel)
set_option maxRecDepth 20000 in
theorem gX2_init_X1_init : GoodIn wsX2_init (wsX1_init) := ggX2_init_X1_init
theorem dX2_init_0 : decode cX2_init 0 = .ok (.aload_n 0, 1) := by decide +kernel
theorem dX2_init_1 : decode cX2_init 1 = .ok (.invokespecial 1, 3) := by decide +kernel
theorem dX2_init_4 : decode cX2_init 4 = .ok (.aload_n 0, 1) := by decide +kernel
theorem dX2_init_5 : decode cX2_init 5 = .ok (.iconst 4, 1) := by decide +kernel
theorem dX2_init_6 : decode cX2_init 6 = .ok (.anewarray 9, 3) := by decide +kernel
theorem dX2_init_9 : decode cX2_init 9 = .ok (.putfield 11, 3) := by decide +kernel
theorem dX2_init_12 : decode cX2_init 12 = .ok (.aload_n 0, 1) := by decide +kernel
theorem dX2_init_13 : decode cX2_init 13 = .ok (.iconst 3, 1) := by decide +kernel
theorem dX2_init_14 : decode cX2_init 14 = .ok (.iconst 4, 1) := by decide +kernel
theorem dX2_init_15 : decode cX2_init 15 = .ok (.multianewarray 15 2, 4) := by decide +kernel
theorem dX2_init_19 : decode cX2_init 19 = .ok (.putfield 17, 3) := by decide +kernel
theorem dX2_init_22 : decode cX2_init 22 = .ok (.aload_n 0, 1) := by decide +kernel
theorem dX2_init_23 : decode cX2_init 23 = .ok (.new 9, 3) := by decide +kernel
theorem dX2_init_26 : decode cX2_init 26 = .ok (.dup, 1) := by decide +kernel
theorem dX2_init_27 : decode cX2_init 27 = .ok (.invokespecial 20, 3) := by decide +kernel
theorem dX2_init_30 : decode cX2_init 30 = .ok (.putfield 21, 3) := by decide +kernel
theorem dX2_init_33 : decode cX2_init 33 = .ok (.aload_n 0, 1) := by decide +kernel
theorem dX2_init_34 : decode cX2_init 34 = .ok (.bipush 16, 2) := by decide +kernel
theorem dX2_init_36 : decode cX2_init 36 = .ok (.newarray .int, 2) := by decide +kernel
theorem dX2_init_38 : decode cX2_init 38 = .ok (.putfield 25, 3) := by decide +kernel
theorem dX2_init_41 : decode cX2_init 41 = .ok (.aload_n 0, 1) := by decide +kernel
theorem dX2_init_42 : decode cX2_init 42 = .ok (.iconst 4, 1) := by decide +kernel
theorem dX2_init_43 : decode cX2_init 43 = .ok (.newarray .int, 2) := by decide +kernel
theorem dX2_init_45 : decode cX2_init 45 = .ok (.putfield 29, 3) := by decide +kernel
theorem dX2_init_48 : decode cX2_init 48 = .ok (.aload_n 0, 1) := by decide +kernel
theorem dX2_init_49 : decode cX2_init 49 = .ok (.iconst 4, 1) := by decide +kernel
theorem dX2_init_50 : decode cX2_init 50 = .ok (.newarray .int, 2) := by decide +kernel
theorem dX2_init_52 : decode cX2_init 52 = .ok (.putfield 32, 3) := by decide +kernel
theorem dX2_init_55 : decode cX2_init 55 = .ok (.aload_n 0, 1) := by decide +kernel
theorem dX2_init_56 : decode cX2_init 56 = .ok (.iconst 4, 1) := by decide +kernel
theorem dX2_init_57 : decode cX2_init 57 = .ok (.newarray .int, 2) := by decide +kernel
theorem dX2_init_59 : decode cX2_init 59 = .ok (.putfield 35, 3) := by decide +kernel
theorem dX2_init_62 : decode cX2_init 62 = .ok (.iconst 0, 1) := by decide +kernel
theorem dX2_init_63 : decode cX2_init 63 = .ok (.istore_n 1, 1) := by decide +kernel
theorem dX2_init_64 : decode cX2_init 64 = .ok (.iload_n 1, 1) := by decide +kernel
theorem dX2_init_65 : decode cX2_init 65 = .ok (.aload_n 0, 1) := by decide +kernel
theorem dX2_init_66 : decode cX2_init 66 = .ok (.getfield 11, 3) := by decide +kernel
theorem dX2_init_69 : decode cX2_init 69 = .ok (.arraylength, 1) := by decide +kernel
theorem dX2_init_70 : decode cX2_init 70 = .ok (.if_icmp .ge 22, 3) := by decide +kernel
theorem dX2_init_73 : decode cX2_init 73 = .ok (.aload_n 0, 1) := by decide +kernel
theorem dX2_init_74 : decode cX2_init 74 = .ok (.getfield 11, 3) := by decide +kernel
theorem dX2_init_77 : decode cX2_init 77 = .ok (.iload_n 1, 1) := by decide +kernel
theorem dX2_init_78 : decode cX2_init 78 = .ok (.new 9, 3) := by decide +kernel
theorem dX2_init_81 : decode cX2_init 81 = .ok (.dup, 1) := by decide +kernel
theorem dX2_init_82 : decode cX2_init 82 = .ok (.invokespecial 20, 3) := by decide +kernel
theorem dX2_init_85 : decode cX2_init 85 = .ok (.aastore, 1) := by decide +kernel
theorem dX2_init_86 : decode cX2_init 86 = .ok (.iinc 1 1, 3) := by decide +kernel
theorem dX2_init_89 : decode cX2_init 89 = .ok (.goto (-25), 3) := by decide +kernel
theorem dX2_init_92 : decode cX2_init 92 = .ok (.return_, 1) := by decide +kernel
set_option maxRecDepth 20000 in
theorem ggX2_world_X2_worldIn : GoodIn wsX2_world wsX2_worldIn := goodIn_r _ [6, 7, 42, 43, 44, 45, 46, 47, 48] (by decide +kernel) (by decide +kernel)
set_option maxRecDepth 20000 in
theorem gX2_world_X2_worldIn : GoodIn wsX2_world (wsV RX2 38 RX2 yX2_worldIn wsX2_worldIn) := goodIn_app (goodIn_of _ (by decide +kernel)) ggX2_world_X2_worldIn
set_option maxRecDepth 20000 in
theorem ggX2_world_X2_isSomeN : GoodIn wsX2_world wsX2_isSomeN := goodIn_r _ [10] (by decide +kernel) (by decide +kernel)
set_option maxRecDepth 20000 in
theorem gX2_world_X2_isSomeN : GoodIn wsX2_world (va_wsS RX2 42 yX2_isSomeN wsX2_isSomeN) := goodIn_app (goodIn_of _ (by decide +kernel)) ggX2_world_X2_isSomeN
set_option maxRecDepth 20000 in
theorem ggX2_world_X2_cellIndex : GoodIn wsX2_world wsX2_cellIndex := goodIn_r _ [13] (by decide +kernel) (by decide +kernel)
set_option maxRecDepth 20000 in
theorem gX2_world_X2_cellIndex : GoodIn wsX2_world (va_wsS RX2 46 yX2_cellIndex wsX2_cellIndex) := goodIn_app (goodIn_of _ (by decide +kernel)) ggX2_world_X2_cellIndex
set_option maxRecDepth 20000 in
theorem ggX2_world_X1_take : GoodIn wsX2_world wsX1_take := goodIn_r _ [18, 19, 20, 21, 22, 23, 24, 17, 25, 26, 27, 28, 29, 30, 31, 32, 33, 34, 35, 36, 37, 12, 5, 13, 49, 50, 51, 52] (by decide +kernel) (by decide +kernel)
set_option maxRecDepth 20000 in
theorem gX2_world_X1_take : GoodIn wsX2_world (wsV RX2 50 RX1 yX1_take wsX1_take) := goodIn_app (goodIn_of _ (by decide +kernel)) ggX2_world_X1_take
set_option maxRecDepth 20000 in
theorem ggX2_world_X1_size : GoodIn wsX2_world wsX1_size := goodIn_r _ [41, 20, 49, 50, 51, 52] (by decide +kernel) (by decide +kernel)
set_option maxRecDepth 20000 in
theorem gX2_world_X1_size : GoodIn wsX2_world (wsV RX2 54 RX1 yX1_size wsX1_size) := goodIn_app (goodIn_of _ (by decide +kernel)) ggX2_world_X1_size
theorem dX2_world_0 : decode cX2_world 0 = .ok (.aload_n 0, 1) := by decide +kernel
theorem dX2_world_1 : decode cX2_world 1 = .ok (.iload_n 1, 1) := by decide +kernel
theorem dX2_world_2 : decode cX2_world 2 = .ok (.invokevirtual 38, 3) := by decide +kernel
theorem dX2_world_5 : decode cX2_world 5 = .ok (.astore_n 3, 1) := by decide +kernel
theorem dX2_world_6 : decode cX2_world 6 = .ok (.aload_n 3, 1) := by decide +kernel
theorem dX2_world_7 : decode cX2_world 7 = .ok (.ifnonnull 5, 3) := by decide +kernel
theorem dX2_world_10 : decode cX2_world 10 = .ok (.iconst (-1), 1) := by decide +kernel
theorem dX2_world_11 : decode cX2_world 11 = .ok (.ireturn, 1) := by decide +kernel
theorem dX2_world_12 : decode cX2_world 12 = .ok (.iload_n 2, 1) := by decide +kernel
theorem dX2_world_13 : decode cX2_world 13 = .ok (.invokestatic 42, 3) := by decide +kernel
theorem dX2_world_16 : decode cX2_world 16 = .ok (.ifCond .ne 6, 3) := by decide +kernel
theorem dX2_world_19 : decode cX2_world 19 = .ok (.bipush (-2), 2) := by decide +kernel
theorem dX2_world_21 : decode cX2_world 21 = .ok (.ireturn, 1) := by decide +kernel
theorem dX2_world_22 : decode cX2_world 22 = .ok (.iconst 0, 1) := by decide +kernel
theorem dX2_world_23 : decode cX2_world 23 = .ok (.istore 4, 2) := by decide +kernel
theorem dX2_world_25 : decode cX2_world 25 = .ok (.iload 4, 2) := by decide +kernel
theorem dX2_world_27 : decode cX2_world 27 = .ok (.iload_n 2, 1) := by decide +kernel
theorem dX2_world_28 : decode cX2_world 28 = .ok (.if_icmp .ge 37, 3) := by decide +kernel
theorem dX2_world_31 : decode cX2_world 31 = .ok (.iconst 0, 1) := by decide +kernel
theorem dX2_world_32 : decode cX2_world 32 = .ok (.istore 5, 2) := by decide +kernel
theorem dX2_world_34 : decode cX2_world 34 = .ok (.iload 5, 2) := by decide +kernel
theorem dX2_world_36 : decode cX2_world 36 = .ok (.iload_n 2, 1) := by decide +kernel
theorem dX2_world_37 : decode cX2_world 37 = .ok (.if_icmp .ge 22, 3) := by decide +kernel
theorem dX2_world_40 : decode cX2_world 40 = .ok (.aload_n 0, 1) := by decide +kernel
theorem dX2_world_41 : decode cX2_world 41 = .ok (.getfield 25, 3) := by decide +kernel
theorem dX2_world_44 : decode cX2_world 44 = .ok (.iload 4, 2) := by decide +kernel
theorem dX2_world_46 : decode cX2_world 46 = .ok (.iload 5, 2) := by decide +kernel
theorem dX2_world_48 : decode cX2_world 48 = .ok (.invokestatic 46, 3) := by decide +kernel
theorem dX2_world_51 : decode cX2_world 51 = .ok (.iconst 0, 1) := by decide +kernel
theorem dX2_world_52 : decode cX2_world 52 = .ok (.iastore, 1) := by decide +kernel
theorem dX2_world_53 : decode cX2_world 53 = .ok (.iinc 5 1, 3) := by decide +kernel
theorem dX2_world_56 : decode cX2_world 56 = .ok (.goto (-22), 3) := by decide +kernel
theorem dX2_world_59 : decode cX2_world 59 = .ok (.iinc 4 1, 3) := by decide +kernel
theorem dX2_world_62 : decode cX2_world 62 = .ok (.goto (-37), 3) := by decide +kernel
theorem dX2_world_65 : decode cX2_world 65 = .ok (.aload_n 3, 1) := by decide +kernel
theorem dX2_world_66 : decode cX2_world 66 = .ok (.iload_n 2, 1) := by decide +kernel
theorem dX2_world_67 : decode cX2_world 67 = .ok (.aload_n 0, 1) := by decide +kernel
theorem dX2_world_68 : decode cX2_world 68 = .ok (.getfield 25, 3) := by decide +kernel
theorem dX2_world_71 : decode cX2_world 71 = .ok (.invokevirtual 50, 3) := by decide +kernel
theorem dX2_world_74 : decode cX2_world 74 = .ok (.aload_n 3, 1) := by decide +kernel
theorem dX2_world_75 : decode cX2_world 75 = .ok (.invokevirtual 54, 3) := by decide +kernel
theorem dX2_world_78 : decode cX2_world 78 = .ok (.ireturn, 1) := by decide +kernel
set_option maxRecDepth 20000 in
theorem ggX2_put_X2_worldIn : GoodIn wsX2_put wsX2_worldIn := goodIn_r _ [5, 6, 42, 43, 44, 45, 46, 47, 48] (by decide +kernel) (by decide +kernel)
set_option maxRecDepth 20000 in
theorem gX2_put_X2_worldIn : GoodIn wsX2_put (wsV RX2 38 RX2 yX2_worldIn wsX2_worldIn) := goodIn_app (goodIn_of _ (by decide +kernel)) ggX2_put_X2_worldIn
set_option maxRecDepth 20000 in
theorem ggX2_put_X1_has : GoodIn wsX2_put wsX1_has := goodIn_r _ [11, 12, 49, 50, 51, 52] (by decide +kernel) (by decide +kernel)
set_option maxRecDepth 20000 in
theorem gX2_put_X1_has : GoodIn wsX2_put (wsV RX2 58 RX1 yX1_has wsX1_has) := goodIn_app (goodIn_of _ (by decide +kernel)) ggX2_put_X1_has
set_option maxRecDepth 20000 in
theorem ggX2_put_X1_hasBit : GoodIn wsX2_put wsX1_hasBit := goodIn_r _ [16, 17, 49, 50, 51, 52] (by decide +kernel) (by decide +kernel)
set_option maxRecDepth 20000 in
theorem gX2_put_X1_hasBit : GoodIn wsX2_put (wsV RX2 61 RX1 yX1_hasBit wsX1_hasBit) := goodIn_app (goodIn_of _ (by decide +kernel)) ggX2_put_X1_hasBit
set_option maxRecDepth 20000 in
theorem ggX2_put_X1_cell : GoodIn wsX2_put wsX1_cell := goodIn_r _ [21, 22, 23, 4, 24, 49, 50, 51, 52] (by decide +kernel) (by decide +kernel)
set_option maxRecDepth 20000 in
theorem gX2_put_X1_cell : GoodIn wsX2_put (wsV RX2 64 RX1 yX1_cell wsX1_cell) := goodIn_app (goodIn_of _ (by decide +kernel)) ggX2_put_X1_cell
set_option maxRecDepth 20000 in
theorem ggX2_put_X1_changeCell : GoodIn wsX2_put wsX1_changeCell := goodIn_r _ [28, 22, 23, 4, 24, 29, 30, 31, 10, 32, 12, 33, 34, 35, 36, 37, 38, 39, 40, 17, 41, 19, 20, 21, 49, 50, 51, 52] (by decide +kernel) (by decide +kernel)
set_option maxRecDepth 20000 in
theorem gX2_put_X1_changeCell : GoodIn wsX2_put (wsV RX2 67 RX1 yX1_changeCell wsX1_changeCell) := goodIn_app (goodIn_of _ (by decide +kernel)) ggX2_put_X1_changeCell
theorem dX2_put_0 : decode cX2_put 0 = .ok (.aload_n 0, 1) := by decide +kernel
theorem dX2_put_1 : decode cX2_put 1 = .ok (.iload_n 1, 1) := by decide +kernel
theorem dX2_put_2 : decode cX2_put 2 = .ok (.invokevirtual 38, 3) := by decide +kernel
theorem dX2_put_5 : decode cX2_put 5 = .ok (.astore 5, 2) := by decide +kernel
theorem dX2_put_7 : decode cX2_put 7 = .ok (.aload 5, 2) := by decide +kernel
theorem dX2_put_9 : decode cX2_put 9 = .ok (.ifnull 13, 3) := by decide +kernel
theorem dX2_put_12 : decode cX2_put 12 = .ok (.aload 5, 2) := by decide +kernel
theorem dX2_put_14 : decode cX2_put 14 = .ok (.iload 4, 2) := by decide +kernel
theorem dX2_put_16 : decode cX2_put 16 = .ok (.invokevirtual 58, 3) := by decide +kernel
theorem dX2_put_19 : decode cX2_put 19 = .ok (.ifCond .ne 5, 3) := by decide +kernel
theorem dX2_put_22 : decode cX2_put 22 = .ok (.iconst (-1), 1) := by decide +kernel
theorem dX2_put_23 : decode cX2_put 23 = .ok (.ireturn, 1) := by decide +kernel
theorem dX2_put_24 : decode cX2_put 24 = .ok (.aload 5, 2) := by decide +kernel
theorem dX2_put_26 : decode cX2_put 26 = .ok (.iload_n 2, 1) := by decide +kernel
theorem dX2_put_27 : decode cX2_put 27 = .ok (.invokevirtual 61, 3) := by decide +kernel
theorem dX2_put_30 : decode cX2_put 30 = .ok (.ifCond .eq 12, 3) := by decide +kernel
theorem dX2_put_33 : decode cX2_put 33 = .ok (.aload 5, 2) := by decide +kernel
theorem dX2_put_35 : decode cX2_put 35 = .ok (.iload_n 3, 1) := by decide +kernel
theorem dX2_put_36 : decode cX2_put 36 = .ok (.invokevirtual 61, 3) := by decide +kernel
theorem dX2_put_39 : decode cX2_put 39 = .ok (.ifCond .ne 6, 3) := by decide +kernel
theorem dX2_put_42 : decode cX2_put 42 = .ok (.bipush (-2), 2) := by decide +kernel
theorem dX2_put_44 : decode cX2_put 44 = .ok (.ireturn, 1) := by decide +kernel
theorem dX2_put_45 : decode cX2_put 45 = .ok (.aload 5, 2) := by decide +kernel
theorem dX2_put_47 : decode cX2_put 47 = .ok (.iload_n 2, 1) := by decide +kernel
theorem dX2_put_48 : decode cX2_put 48 = .ok (.iload_n 3, 1) := by decide +kernel
theorem dX2_put_49 : decode cX2_put 49 = .ok (.invokevirtual 64, 3) := by decide +kernel
theorem dX2_put_52 : decode cX2_put 52 = .ok (.istore 6, 2) := by decide +kernel
theorem dX2_put_54 : decode cX2_put 54 = .ok (.aload 5, 2) := by decide +kernel
theorem dX2_put_56 : decode cX2_put 56 = .ok (.iload_n 2, 1) := by decide +kernel
theorem dX2_put_57 : decode cX2_put 57 = .ok (.iload_n 3, 1) := by decide +kernel
theorem dX2_put_58 : decode cX2_put 58 = .ok (.iload 4, 2) := by decide +kernel
theorem dX2_put_60 : decode cX2_put 60 = .ok (.invokevirtual 67, 3) := by decide +kernel
theorem dX2_put_63 : decode cX2_put 63 = .ok (.iload 6, 2) := by decide +kernel
theorem dX2_put_65 : decode cX2_put 65 = .ok (.ireturn, 1) := by decide +kernel
set_option maxRecDepth 20000 in
theorem ggX2_field_X2_worldIn : GoodIn wsX2_field wsX2_worldIn := goodIn_r _ [6, 7, 46, 47, 48, 49, 50, 51, 52] (by decide +kernel) (by decide +kernel)
set_option maxRecDepth 20000 in
theorem gX2_field_X2_worldIn : GoodIn wsX2_field (wsV RX2 38 RX2 yX2_worldIn wsX2_worldIn) := goodIn_app (goodIn_of _ (by decide +kernel)) ggX2_field_X2_worldIn
set_option maxRecDepth 20000 in
theorem ggX2_field_X2_isSomeN : GoodIn wsX2_field wsX2_isSomeN := goodIn_r _ [10] (by decide +kernel) (by decide +kernel)
set_option maxRecDepth 20000 in
theorem gX2_field_X2_isSomeN : GoodIn wsX2_field (va_wsS RX2 42 yX2_isSomeN wsX2_isSomeN) := goodIn_app (goodIn_of _ (by decide +kernel)) ggX2_field_X2_isSomeN
set_option maxRecDepth 20000 in
theorem ggX2_field_X2_cellIndex : GoodIn wsX2_field wsX2_cellIndex := goodIn_r _ [13] (by decide +kernel) (by decide +kernel)
set_option maxRecDepth 20000 in
theorem gX2_field_X2_cellIndex : GoodIn wsX2_field (va_wsS RX2 46 yX2_cellIndex wsX2_cellIndex) := goodIn_app (goodIn_of _ (by decide +kernel)) ggX2_field_X2_cellIndex
set_option maxRecDepth 20000 in
theorem ggX2_field_X2_reduced : GoodIn wsX2_field wsX2_reduced := goodIn_r _ [16, 17] (by decide +kernel) (by decide +kernel)
set_option maxRecDepth 20000 in
theorem gX2_field_X2_reduced : GoodIn wsX2_field (va_wsS RX2 71 yX2_reduced wsX2_reduced) := goodIn_app (goodIn_of _ (by decide +kernel)) ggX2_field_X2_reduced
set_option maxRecDepth 20000 in
theorem ggX2_field_X1_take : GoodIn wsX2_field wsX1_take := goodIn_r _ [22, 23, 24, 25, 26, 27, 28, 21, 29, 30, 31, 32, 33, 34, 35, 36, 37, 38, 39, 40, 41, 12, 5, 13, 53, 54, 55, 56] (by decide +kernel) (by decide +kernel)
set_option maxRecDepth 20000 in
theorem gX2_field_X1_take : GoodIn wsX2_field (wsV RX2 50 RX1 yX1_take wsX1_take) := goodIn_app (goodIn_of _ (by decide +kernel)) ggX2_field_X1_take
set_option maxRecDepth 20000 in
theorem ggX2_field_X1_size : GoodIn wsX2_field wsX1_size := goodIn_r _ [45, 24, 53, 54, 55, 56] (by decide +kernel) (by decide +kernel)
set_option maxRecDepth 20000 in
theorem gX2_field_X1_size : GoodIn wsX2_field (wsV RX2 54 RX1 yX1_size wsX1_size) := goodIn_app (goodIn_of _ (by decide +kernel)) ggX2_field_X1_size
theorem dX2_field_0 : decode cX2_field 0 = .ok (.aload_n 0, 1) := by decide +kernel
theorem dX2_field_1 : decode cX2_field 1 = .ok (.iload_n 1, 1) := by decide +kernel
theorem dX2_field_2 : decode cX2_field 2 = .ok (.invokevirtual 38, 3) := by decide +kernel
theorem dX2_field_5 : decode cX2_field 5 = .ok (.astore_n 3, 1) := by decide +kernel
theorem dX2_field_6 : decode cX2_field 6 = .ok (.aload_n 3, 1) := by decide +kernel
theorem dX2_field_7 : decode cX2_field 7 = .ok (.ifnonnull 5, 3) := by decide +kernel
theorem dX2_field_10 : decode cX2_field 10 = .ok (.iconst (-1), 1) := by decide +kernel
theorem dX2_field_11 : decode cX2_field 11 = .ok (.ireturn, 1) := by decide +kernel
theorem dX2_field_12 : decode cX2_field 12 = .ok (.iload_n 2, 1) := by decide +kernel
theorem dX2_field_13 : decode cX2_field 13 = .ok (.invokestatic 42, 3) := by decide +kernel
theorem dX2_field_16 : decode cX2_field 16 = .ok (.ifCond .ne 6, 3) := by decide +kernel
theorem dX2_field_19 : decode cX2_field 19 = .ok (.bipush (-2), 2) := by decide +kernel
theorem dX2_field_21 : decode cX2_field 21 = .ok (.ireturn, 1) := by decide +kernel
theorem dX2_field_22 : decode cX2_field 22 = .ok (.iconst 0, 1) := by decide +kernel
theorem dX2_field_23 : decode cX2_field 23 = .ok (.istore 4, 2) := by decide +kernel
theorem dX2_field_25 : decode cX2_field 25 = .ok (.iload 4, 2) := by decide +kernel
theorem dX2_field_27 : decode cX2_field 27 = .ok (.iload_n 2, 1) := by decide +kernel
theorem dX2_field_28 : decode cX2_field 28 = .ok (.if_icmp .ge 47, 3) := by decide +kernel
theorem dX2_field_31 : decode cX2_field 31 = .ok (.iconst 0, 1) := by decide +kernel
theorem dX2_field_32 : decode cX2_field 32 = .ok (.istore 5, 2) := by decide +kernel
theorem dX2_field_34 : decode cX2_field 34 = .ok (.iload 5, 2) := by decide +kernel
theorem dX2_field_36 : decode cX2_field 36 = .ok (.iload_n 2, 1) := by decide +kernel
theorem dX2_field_37 : decode cX2_field 37 = .ok (.if_icmp .ge 32, 3) := by decide +kernel
theorem dX2_field_40 : decode cX2_field 40 = .ok (.aload_n 0, 1) := by decide +kernel
theorem dX2_field_41 : decode cX2_field 41 = .ok (.getfield 25, 3) := by decide +kernel
theorem dX2_field_44 : decode cX2_field 44 = .ok (.iload 4, 2) := by decide +kernel
theorem dX2_field_46 : decode cX2_field 46 = .ok (.iload 5, 2) := by decide +kernel
theorem dX2_field_48 : decode cX2_field 48 = .ok (.invokestatic 46, 3) := by decide +kernel
theorem dX2_field_51 : decode cX2_field 51 = .ok (.iconst 1, 1) := by decide +kernel
theorem dX2_field_52 : decode cX2_field 52 = .ok (.iload 4, 2) := by decide +kernel
theorem dX2_field_54 : decode cX2_field 54 = .ok (.iload 5, 2) := by decide +kernel
theorem dX2_field_56 : decode cX2_field 56 = .ok (.iadd, 1) := by decide +kernel
theorem dX2_field_57 : decode cX2_field 57 = .ok (.ishl, 1) := by decide +kernel
theorem dX2_field_58 : decode cX2_field 58 = .ok (.iload_n 2, 1) := by decide +kernel
theorem dX2_field_59 : decode cX2_field 59 = .ok (.invokestatic 71, 3) := by decide +kernel
theorem dX2_field_62 : decode cX2_field 62 = .ok (.iastore, 1) := by decide +kernel
theorem dX2_field_63 : decode cX2_field 63 = .ok (.iinc 5 1, 3) := by decide +kernel
theorem dX2_field_66 : decode cX2_field 66 = .ok (.goto (-32), 3) := by decide +kernel
theorem dX2_field_69 : decode cX2_field 69 = .ok (.iinc 4 1, 3) := by decide +kernel
theorem dX2_field_72 : decode cX2_field 72 = .ok (.goto (-47), 3) := by decide +kernel
theorem dX2_field_75 : decode cX2_field 75 = .ok (.aload_n 3, 1) := by decide +kernel
theorem dX2_field_76 : decode cX2_field 76 = .ok (.iload_n 2, 1) := by decide +kernel
theorem dX2_field_77 : decode cX2_field 77 = .ok (.aload_n 0, 1) := by decide +kernel
theorem dX2_field_78 : decode cX2_field 78 = .ok (.getfield 25, 3) := by decide +kernel
theorem dX2_field_81 : decode cX2_field 81 = .ok (.invokevirtual 50, 3) := by decide +kernel
theorem dX2_field_84 : decode cX2_field 84 = .ok (.aload_n 3, 1) := by decide +kernel
theorem dX2_field_85 : decode cX2_field 85 = .ok (.invokevirtual 54, 3) := by decide +kernel
theorem dX2_field_88 : decode cX2_field 88 = .ok (.ireturn, 1) := by decide +kernel
set_option maxRecDepth 20000 in
theorem ggX2_product_X2_worldIn : GoodIn wsX2_product wsX2_worldIn := goodIn_r _ [5, 6, 21, 22, 23, 24, 25, 26, 27] (by decide +kernel) (by decide +kernel)
set_option maxRecDepth 20000 in
theorem gX2_product_X2_worldIn : GoodIn wsX2_product (wsV RX2 38 RX2 yX2_worldIn wsX2_worldIn) := goodIn_app (goodIn_of _ (by decide +kernel)) ggX2_product_X2_worldIn
set_option maxRecDepth 20000 in
theorem ggX2_product_X1_has : GoodIn wsX2_product wsX1_has := goodIn_r _ [11, 12, 28, 29, 30, 31] (by decide +kernel) (by decide +kernel)
set_option maxRecDepth 20000 in
theorem gX2_product_X1_has : GoodIn wsX2_product (wsV RX2 58 RX1 yX1_has wsX1_has) := goodIn_app (goodIn_of _ (by decide +kernel)) ggX2_product_X1_has
set_option maxRecDepth 20000 in
theorem ggX2_product_X1_times : GoodIn wsX2_product wsX1_times := goodIn_r _ [16, 17, 18, 19, 10, 20, 28, 29, 30, 31] (by decide +kernel) (by decide +kernel)
set_option maxRecDepth 20000 in
theorem gX2_product_X1_times : GoodIn wsX2_product (wsV RX2 74 RX1 yX1_times wsX1_times) := goodIn_app (goodIn_of _ (by decide +kernel)) ggX2_product_X1_times
theorem dX2_product_0 : decode cX2_product 0 = .ok (.aload_n 0, 1) := by decide +kernel
theorem dX2_product_1 : decode cX2_product 1 = .ok (.iload_n 1, 1) := by decide +kernel
theorem dX2_product_2 : decode cX2_product 2 = .ok (.invokevirtual 38, 3) := by decide +kernel
theorem dX2_product_5 : decode cX2_product 5 = .ok (.astore 4, 2) := by decide +kernel
theorem dX2_product_7 : decode cX2_product 7 = .ok (.aload 4, 2) := by decide +kernel
theorem dX2_product_9 : decode cX2_product 9 = .ok (.ifnull 21, 3) := by decide +kernel
theorem dX2_product_12 : decode cX2_product 12 = .ok (.aload 4, 2) := by decide +kernel
theorem dX2_product_14 : decode cX2_product 14 = .ok (.iload_n 2, 1) := by decide +kernel
theorem dX2_product_15 : decode cX2_product 15 = .ok (.invokevirtual 58, 3) := by decide +kernel
theorem dX2_product_18 : decode cX2_product 18 = .ok (.ifCond .eq 12, 3) := by decide +kernel
theorem dX2_product_21 : decode cX2_product 21 = .ok (.aload 4, 2) := by decide +kernel
theorem dX2_product_23 : decode cX2_product 23 = .ok (.iload_n 3, 1) := by decide +kernel
theorem dX2_product_24 : decode cX2_product 24 = .ok (.invokevirtual 58, 3) := by decide +kernel
theorem dX2_product_27 : decode cX2_product 27 = .ok (.ifCond .ne 5, 3) := by decide +kernel
theorem dX2_product_30 : decode cX2_product 30 = .ok (.iconst (-1), 1) := by decide +kernel
theorem dX2_product_31 : decode cX2_product 31 = .ok (.ireturn, 1) := by decide +kernel
theorem dX2_product_32 : decode cX2_product 32 = .ok (.aload 4, 2) := by decide +kernel
theorem dX2_product_34 : decode cX2_product 34 = .ok (.iload_n 2, 1) := by decide +kernel
theorem dX2_product_35 : decode cX2_product 35 = .ok (.iload_n 3, 1) := by decide +kernel
theorem dX2_product_36 : decode cX2_product 36 = .ok (.invokevirtual 74, 3) := by decide +kernel
theorem dX2_product_39 : decode cX2_product 39 = .ok (.ireturn, 1) := by decide +kernel
set_option maxRecDepth 20000 in
theorem ggX2_divides_X2_worldIn : GoodIn wsX2_divides wsX2_worldIn := goodIn_r _ [5, 6, 32, 33, 34, 35, 36, 37, 38] (by decide +kernel) (by decide +kernel)
set_option maxRecDepth 20000 in
theorem gX2_divides_X2_worldIn : GoodIn wsX2_divides (wsV RX2 38 RX2 yX2_worldIn wsX2_worldIn) := goodIn_app (goodIn_of _ (by decide +kernel)) ggX2_divides_X2_worldIn
set_option maxRecDepth 20000 in
theorem ggX2_divides_X1_isWhole : GoodIn wsX2_divides wsX1_isWhole := goodIn_r _ [11, 12, 13, 14, 10, 15, 16, 17, 18, 19, 20, 21, 22, 23, 24, 25, 26, 27, 28, 39, 40, 41, 42] (by decide +kernel) (by decide +kernel)
set_option maxRecDepth 20000 in
theorem gX2_divides_X1_isWhole : GoodIn wsX2_divides (wsV RX2 77 RX1 yX1_isWhole wsX1_isWhole) := goodIn_app (goodIn_of _ (by decide +kernel)) ggX2_divides_X1_isWhole
set_option maxRecDepth 20000 in
theorem ggX2_divides_X2_oneIf : GoodIn wsX2_divides wsX2_oneIf := goodIn_r _ [31] (by decide +kernel) (by decide +kernel)
set_option maxRecDepth 20000 in
theorem gX2_divides_X2_oneIf : GoodIn wsX2_divides (va_wsS RX2 81 yX2_oneIf wsX2_oneIf) := goodIn_app (goodIn_of _ (by decide +kernel)) ggX2_divides_X2_oneIf
theorem dX2_divides_0 : decode cX2_divides 0 = .ok (.aload_n 0, 1) := by decide +kernel
theorem dX2_divides_1 : decode cX2_divides 1 = .ok (.iload_n 1, 1) := by decide +kernel
theorem dX2_divides_2 : decode cX2_divides 2 = .ok (.invokevirtual 38, 3) := by decide +kernel
theorem dX2_divides_5 : decode cX2_divides 5 = .ok (.astore_n 2, 1) := by decide +kernel
theorem dX2_divides_6 : decode cX2_divides 6 = .ok (.aload_n 2, 1) := by decide +kernel
theorem dX2_divides_7 : decode cX2_divides 7 = .ok (.ifnonnull 5, 3) := by decide +kernel
theorem dX2_divides_10 : decode cX2_divides 10 = .ok (.iconst (-1), 1) := by decide +kernel
theorem dX2_divides_11 : decode cX2_divides 11 = .ok (.ireturn, 1) := by decide +kernel
theorem dX2_divides_12 : decode cX2_divides 12 = .ok (.aload_n 2, 1) := by decide +kernel
theorem dX2_divides_13 : decode cX2_divides 13 = .ok (.invokevirtual 77, 3) := by decide +kernel
theorem dX2_divides_16 : decode cX2_divides 16 = .ok (.invokestatic 81, 3) := by decide +kernel
theorem dX2_divides_19 : decode cX2_divides 19 = .ok (.ireturn, 1) := by decide +kernel
set_option maxRecDepth 20000 in
theorem ggX2_broken_X2_worldIn : GoodIn wsX2_broken wsX2_worldIn := goodIn_r _ [5, 6, 26, 27, 28, 29, 30, 31, 32] (by decide +kernel) (by decide +kernel)
set_option maxRecDepth 20000 in
theorem gX2_broken_X2_worldIn : GoodIn wsX2_broken (wsV RX2 38 RX2 yX2_worldIn wsX2_worldIn) := goodIn_app (goodIn_of _ (by decide +kernel)) ggX2_broken_X2_worldIn
set_option maxRecDepth 20000 in
theorem ggX2_broken_X1_leastBroken : GoodIn wsX2_broken wsX1_leastBroken := goodIn_r _ [11, 12, 13, 14, 15, 10, 16, 17, 18, 19, 20, 21, 22, 23, 24, 33, 34, 35, 36] (by decide +kernel) (by decide +kernel)
set_option maxRecDepth 20000 in
theorem gX2_broken_X1_leastBroken : GoodIn wsX2_broken (wsV RX2 85 RX1 yX1_leastBroken wsX1_leastBroken) := goodIn_app (goodIn_of _ (by decide +kernel)) ggX2_broken_X1_leastBroken
set_option maxRecDepth 20000 in
theorem ggX2_broken_X1_leastPartner : GoodIn wsX2_broken wsX1_leastPartner := goodIn_r _ [16, 12, 17, 18, 19, 10, 20, 21, 22, 23, 24, 33, 34, 35, 36] (by decide +kernel) (by decide +kernel)
set_option maxRecDepth 20000 in
theorem gX2_broken_X1_leastPartner : GoodIn wsX2_broken (wsV RX2 88 RX1 yX1_leastPartner wsX1_leastPartner) := goodIn_app (goodIn_of _ (by decide +kernel)) ggX2_broken_X1_leastPartner
theorem dX2_broken_0 : decode cX2_broken 0 = .ok (.aload_n 0, 1) := by decide +kernel
theorem dX2_broken_1 : decode cX2_broken 1 = .ok (.iload_n 1, 1) := by decide +kernel
theorem dX2_broken_2 : decode cX2_broken 2 = .ok (.invokevirtual 38, 3) := by decide +kernel
theorem dX2_broken_5 : decode cX2_broken 5 = .ok (.astore_n 3, 1) := by decide +kernel
theorem dX2_broken_6 : decode cX2_broken 6 = .ok (.aload_n 3, 1) := by decide +kernel
theorem dX2_broken_7 : decode cX2_broken 7 = .ok (.ifnonnull 5, 3) := by decide +kernel
theorem dX2_broken_10 : decode cX2_broken 10 = .ok (.iconst (-1), 1) := by decide +kernel
theorem dX2_broken_11 : decode cX2_broken 11 = .ok (.ireturn, 1) := by decide +kernel
theorem dX2_broken_12 : decode cX2_broken 12 = .ok (.aload_n 3, 1) := by decide +kernel
theorem dX2_broken_13 : decode cX2_broken 13 = .ok (.invokevirtual 85, 3) := by decide +kernel
theorem dX2_broken_16 : decode cX2_broken 16 = .ok (.istore 4, 2) := by decide +kernel
theorem dX2_broken_18 : decode cX2_broken 18 = .ok (.iload_n 2, 1) := by decide +kernel
theorem dX2_broken_19 : decode cX2_broken 19 = .ok (.ifCond .eq 19, 3) := by decide +kernel
theorem dX2_broken_22 : decode cX2_broken 22 = .ok (.iload 4, 2) := by decide +kernel
theorem dX2_broken_24 : decode cX2_broken 24 = .ok (.bipush (-9), 2) := by decide +kernel
theorem dX2_broken_26 : decode cX2_broken 26 = .ok (.if_icmp .eq 12, 3) := by decide +kernel
theorem dX2_broken_29 : decode cX2_broken 29 = .ok (.aload_n 3, 1) := by decide +kernel
theorem dX2_broken_30 : decode cX2_broken 30 = .ok (.iload 4, 2) := by decide +kernel
theorem dX2_broken_32 : decode cX2_broken 32 = .ok (.invokevirtual 88, 3) := by decide +kernel
theorem dX2_broken_35 : decode cX2_broken 35 = .ok (.goto 5, 3) := by decide +kernel
theorem dX2_broken_38 : decode cX2_broken 38 = .ok (.iload 4, 2) := by decide +kernel
theorem dX2_broken_40 : decode cX2_broken 40 = .ok (.ireturn, 1) := by decide +kernel
set_option maxRecDepth 20000 in
theorem ggX2_one_X2_worldIn : GoodIn wsX2_one wsX2_worldIn := goodIn_r _ [5, 6, 25, 26, 27, 28, 29, 30, 31] (by decide +kernel) (by decide +kernel)
set_option maxRecDepth 20000 in
theorem gX2_one_X2_worldIn : GoodIn wsX2_one (wsV RX2 38 RX2 yX2_worldIn wsX2_worldIn) := goodIn_app (goodIn_of _ (by decide +kernel)) ggX2_one_X2_worldIn
set_option maxRecDepth 20000 in
theorem ggX2_one_X1_unit : GoodIn wsX2_one wsX1_unit := goodIn_r _ [11, 12, 13, 14, 15, 10, 16, 17, 18, 19, 20, 21, 22, 23, 24, 32, 33, 34, 35] (by decide +kernel) (by decide +kernel)
set_option maxRecDepth 20000 in
theorem gX2_one_X1_unit : GoodIn wsX2_one (wsV RX2 92 RX1 yX1_unit wsX1_unit) := goodIn_app (goodIn_of _ (by decide +kernel)) ggX2_one_X1_unit
theorem dX2_one_0 : decode cX2_one 0 = .ok (.aload_n 0, 1) := by decide +kernel
theorem dX2_one_1 : decode cX2_one 1 = .ok (.iload_n 1, 1) := by decide +kernel
theorem dX2_one_2 : decode cX2_one 2 = .ok (.invokevirtual 38, 3) := by decide +kernel
theorem dX2_one_5 : decode cX2_one 5 = .ok (.astore_n 2, 1) := by decide +kernel
theorem dX2_one_6 : decode cX2_one 6 = .ok (.aload_n 2, 1) := by decide +kernel
theorem dX2_one_7 : decode cX2_one 7 = .ok (.ifnonnull 5, 3) := by decide +kernel
theorem dX2_one_10 : decode cX2_one 10 = .ok (.iconst (-1), 1) := by decide +kernel
theorem dX2_one_11 : decode cX2_one 11 = .ok (.ireturn, 1) := by decide +kernel
theorem dX2_one_12 : decode cX2_one 12 = .ok (.aload_n 2, 1) := by decide +kernel
theorem dX2_one_13 : decode cX2_one 13 = .ok (.invokevirtual 92, 3) := by decide +kernel
theorem dX2_one_16 : decode cX2_one 16 = .ok (.ireturn, 1) := by decide +kernel
set_option maxRecDepth 20000 in
theorem ggX2_quotient_X2_worldIn : GoodIn wsX2_quotient wsX2_worldIn := goodIn_r _ [5, 6, 25, 26, 27, 28, 29, 30, 31] (by decide +kernel) (by decide +kernel)
set_option maxRecDepth 20000 in
theorem gX2_quotient_X2_worldIn : GoodIn wsX2_quotient (wsV RX2 38 RX2 yX2_worldIn wsX2_worldIn) := goodIn_app (goodIn_of _ (by decide +kernel)) ggX2_quotient_X2_worldIn
set_option maxRecDepth 20000 in
theorem ggX2_quotient_X1_has : GoodIn wsX2_quotient wsX1_has := goodIn_r _ [11, 12, 32, 33, 34, 35] (by decide +kernel) (by decide +kernel)
set_option maxRecDepth 20000 in
theorem gX2_quotient_X1_has : GoodIn wsX2_quotient (wsV RX2 58 RX1 yX1_has wsX1_has) := goodIn_app (goodIn_of _ (by decide +kernel)) ggX2_quotient_X1_has
set_option maxRecDepth 20000 in
theorem ggX2_quotient_X1_solve : GoodIn wsX2_quotient wsX1_solve := goodIn_r _ [16, 12, 17, 18, 19, 10, 20, 21, 22, 23, 24, 32, 33, 34, 35] (by decide +kernel) (by decide +kernel)
set_option maxRecDepth 20000 in
theorem gX2_quotient_X1_solve : GoodIn wsX2_quotient (wsV RX2 95 RX1 yX1_solve wsX1_solve) := goodIn_app (goodIn_of _ (by decide +kernel)) ggX2_quotient_X1_solve
theorem dX2_quotient_0 : decode cX2_quotient 0 = .ok (.aload_n 0, 1) := by decide +kernel
theorem dX2_quotient_1 : decode cX2_quotient 1 = .ok (.iload_n 1, 1) := by decide +kernel
theorem dX2_quotient_2 : decode cX2_quotient 2 = .ok (.invokevirtual 38, 3) := by decide +kernel
theorem dX2_quotient_5 : decode cX2_quotient 5 = .ok (.astore 5, 2) := by decide +kernel
theorem dX2_quotient_7 : decode cX2_quotient 7 = .ok (.aload 5, 2) := by decide +kernel
theorem dX2_quotient_9 : decode cX2_quotient 9 = .ok (.ifnull 21, 3) := by decide +kernel
theorem dX2_quotient_12 : decode cX2_quotient 12 = .ok (.aload 5, 2) := by decide +kernel
theorem dX2_quotient_14 : decode cX2_quotient 14 = .ok (.iload_n 2, 1) := by decide +kernel
theorem dX2_quotient_15 : decode cX2_quotient 15 = .ok (.invokevirtual 58, 3) := by decide +kernel
theorem dX2_quotient_18 : decode cX2_quotient 18 = .ok (.ifCond .eq 12, 3) := by decide +kernel
theorem dX2_quotient_21 : decode cX2_quotient 21 = .ok (.aload 5, 2) := by decide +kernel
theorem dX2_quotient_23 : decode cX2_quotient 23 = .ok (.iload_n 3, 1) := by decide +kernel
theorem dX2_quotient_24 : decode cX2_quotient 24 = .ok (.invokevirtual 58, 3) := by decide +kernel
theorem dX2_quotient_27 : decode cX2_quotient 27 = .ok (.ifCond .ne 5, 3) := by decide +kernel
theorem dX2_quotient_30 : decode cX2_quotient 30 = .ok (.iconst (-1), 1) := by decide +kernel
theorem dX2_quotient_31 : decode cX2_quotient 31 = .ok (.ireturn, 1) := by decide +kernel
theorem dX2_quotient_32 : decode cX2_quotient 32 = .ok (.aload 5, 2) := by decide +kernel
theorem dX2_quotient_34 : decode cX2_quotient 34 = .ok (.iload_n 2, 1) := by decide +kernel
theorem dX2_quotient_35 : decode cX2_quotient 35 = .ok (.iload_n 3, 1) := by decide +kernel
theorem dX2_quotient_36 : decode cX2_quotient 36 = .ok (.iload 4, 2) := by decide +kernel
theorem dX2_quotient_38 : decode cX2_quotient 38 = .ok (.invokevirtual 95, 3) := by decide +kernel
theorem dX2_quotient_41 : decode cX2_quotient 41 = .ok (.ireturn, 1) := by decide +kernel
set_option maxRecDepth 20000 in
theorem ggX2_turn_X2_worldIn : GoodIn wsX2_turn wsX2_worldIn := goodIn_r _ [6, 7, 49, 50, 51, 52, 53, 54, 55] (by decide +kernel) (by decide +kernel)
set_option maxRecDepth 20000 in
theorem gX2_turn_X2_worldIn : GoodIn wsX2_turn (wsV RX2 38 RX2 yX2_worldIn wsX2_worldIn) := goodIn_app (goodIn_of _ (by decide +kernel)) ggX2_turn_X2_worldIn
set_option maxRecDepth 20000 in
theorem ggX2_turn_X1_bits : GoodIn wsX2_turn wsX1_bits := goodIn_r _ [12, 13, 56, 57, 58, 59] (by decide +kernel) (by decide +kernel)
set_option maxRecDepth 20000 in
theorem gX2_turn_X1_bits : GoodIn wsX2_turn (wsV RX2 99 RX1 yX1_bits wsX1_bits) := goodIn_app (goodIn_of _ (by decide +kernel)) ggX2_turn_X1_bits
set_option maxRecDepth 20000 in
theorem ggX2_turn_X2_cellIndex : GoodIn wsX2_turn wsX2_cellIndex := goodIn_r _ [16] (by decide +kernel) (by decide +kernel)
set_option maxRecDepth 20000 in
theorem gX2_turn_X2_cellIndex : GoodIn wsX2_turn (va_wsS RX2 46 yX2_cellIndex wsX2_cellIndex) := goodIn_app (goodIn_of _ (by decide +kernel)) ggX2_turn_X2_cellIndex
set_option maxRecDepth 20000 in
theorem ggX2_turn_X2_turnedCell : GoodIn wsX2_turn wsX2_turnedCell := goodIn_r _ [19, 8, 9, 10, 11, 12, 13, 20, 21, 5, 22, 23, 24, 25, 26, 27, 28, 29, 30, 31, 15, 16, 56, 57, 58, 59] (by decide +kernel) (by decide +kernel)
set_option maxRecDepth 20000 in
theorem gX2_turn_X2_turnedCell : GoodIn wsX2_turn (va_wsS RX2 102 yX2_turnedCell wsX2_turnedCell) := goodIn_app (goodIn_of _ (by decide +kernel)) ggX2_turn_X2_turnedCell
set_option maxRecDepth 20000 in
theorem ggX2_turn_X1_take : GoodIn wsX2_turn wsX1_take := goodIn_r _ [35, 13, 36, 31, 37, 38, 39, 11, 40, 41, 42, 43, 44, 45, 46, 47, 48, 27, 28, 29, 30, 15, 5, 16, 56, 57, 58, 59] (by decide +kernel) (by decide +kernel)
set_option maxRecDepth 20000 in
theorem gX2_turn_X1_take : GoodIn wsX2_turn (wsV RX2 50 RX1 yX1_take wsX1_take) := goodIn_app (goodIn_of _ (by decide +kernel)) ggX2_turn_X1_take
theorem dX2_turn_0 : decode cX2_turn 0 = .ok (.aload_n 0, 1) := by decide +kernel
theorem dX2_turn_1 : decode cX2_turn 1 = .ok (.iload_n 1, 1) := by decide +kernel
theorem dX2_turn_2 : decode cX2_turn 2 = .ok (.invokevirtual 38, 3) := by decide +kernel
theorem dX2_turn_5 : decode cX2_turn 5 = .ok (.astore 4, 2) := by decide +kernel
theorem dX2_turn_7 : decode cX2_turn 7 = .ok (.aload_n 0, 1) := by decide +kernel
theorem dX2_turn_8 : decode cX2_turn 8 = .ok (.iload_n 2, 1) := by decide +kernel
theorem dX2_turn_9 : decode cX2_turn 9 = .ok (.invokevirtual 38, 3) := by decide +kernel
theorem dX2_turn_12 : decode cX2_turn 12 = .ok (.astore 5, 2) := by decide +kernel
theorem dX2_turn_14 : decode cX2_turn 14 = .ok (.aload 4, 2) := by decide +kernel
theorem dX2_turn_16 : decode cX2_turn 16 = .ok (.ifnull 8, 3) := by decide +kernel
theorem dX2_turn_19 : decode cX2_turn 19 = .ok (.aload 5, 2) := by decide +kernel
theorem dX2_turn_21 : decode cX2_turn 21 = .ok (.ifnonnull 5, 3) := by decide +kernel
theorem dX2_turn_24 : decode cX2_turn 24 = .ok (.iconst (-1), 1) := by decide +kernel
theorem dX2_turn_25 : decode cX2_turn 25 = .ok (.ireturn, 1) := by decide +kernel
theorem dX2_turn_26 : decode cX2_turn 26 = .ok (.iload_n 3, 1) := by decide +kernel
theorem dX2_turn_27 : decode cX2_turn 27 = .ok (.ifCond .lt 9, 3) := by decide +kernel
theorem dX2_turn_30 : decode cX2_turn 30 = .ok (.iload_n 3, 1) := by decide +kernel
theorem dX2_turn_31 : decode cX2_turn 31 = .ok (.bipush 6, 2) := by decide +kernel
theorem dX2_turn_33 : decode cX2_turn 33 = .ok (.if_icmp .lt 6, 3) := by decide +kernel
theorem dX2_turn_36 : decode cX2_turn 36 = .ok (.bipush (-2), 2) := by decide +kernel
theorem dX2_turn_38 : decode cX2_turn 38 = .ok (.ireturn, 1) := by decide +kernel
theorem dX2_turn_39 : decode cX2_turn 39 = .ok (.aload 5, 2) := by decide +kernel
theorem dX2_turn_41 : decode cX2_turn 41 = .ok (.invokevirtual 99, 3) := by decide +kernel
theorem dX2_turn_44 : decode cX2_turn 44 = .ok (.istore 6, 2) := by decide +kernel
theorem dX2_turn_46 : decode cX2_turn 46 = .ok (.iconst 0, 1) := by decide +kernel
theorem dX2_turn_47 : decode cX2_turn 47 = .ok (.istore 7, 2) := by decide +kernel
theorem dX2_turn_49 : decode cX2_turn 49 = .ok (.iload 7, 2) := by decide +kernel
theorem dX2_turn_51 : decode cX2_turn 51 = .ok (.iload 6, 2) := by decide +kernel
theorem dX2_turn_53 : decode cX2_turn 53 = .ok (.if_icmp .ge 47, 3) := by decide +kernel
theorem dX2_turn_56 : decode cX2_turn 56 = .ok (.iconst 0, 1) := by decide +kernel
theorem dX2_turn_57 : decode cX2_turn 57 = .ok (.istore 8, 2) := by decide +kernel
theorem dX2_turn_59 : decode cX2_turn 59 = .ok (.iload 8, 2) := by decide +kernel
theorem dX2_turn_61 : decode cX2_turn 61 = .ok (.iload 6, 2) := by decide +kernel
theorem dX2_turn_63 : decode cX2_turn 63 = .ok (.if_icmp .ge 31, 3) := by decide +kernel
theorem dX2_turn_66 : decode cX2_turn 66 = .ok (.aload_n 0, 1) := by decide +kernel
theorem dX2_turn_67 : decode cX2_turn 67 = .ok (.getfield 25, 3) := by decide +kernel
theorem dX2_turn_70 : decode cX2_turn 70 = .ok (.iload 7, 2) := by decide +kernel
theorem dX2_turn_72 : decode cX2_turn 72 = .ok (.iload 8, 2) := by decide +kernel
theorem dX2_turn_74 : decode cX2_turn 74 = .ok (.invokestatic 46, 3) := by decide +kernel
theorem dX2_turn_77 : decode cX2_turn 77 = .ok (.aload 5, 2) := by decide +kernel
theorem dX2_turn_79 : decode cX2_turn 79 = .ok (.iload 7, 2) := by decide +kernel
theorem dX2_turn_81 : decode cX2_turn 81 = .ok (.iload 8, 2) := by decide +kernel
theorem dX2_turn_83 : decode cX2_turn 83 = .ok (.iload_n 3, 1) := by decide +kernel
theorem dX2_turn_84 : decode cX2_turn 84 = .ok (.invokestatic 102, 3) := by decide +kernel
theorem dX2_turn_87 : decode cX2_turn 87 = .ok (.iastore, 1) := by decide +kernel
theorem dX2_turn_88 : decode cX2_turn 88 = .ok (.iinc 8 1, 3) := by decide +kernel
theorem dX2_turn_91 : decode cX2_turn 91 = .ok (.goto (-32), 3) := by decide +kernel
theorem dX2_turn_94 : decode cX2_turn 94 = .ok (.iinc 7 1, 3) := by decide +kernel
theorem dX2_turn_97 : decode cX2_turn 97 = .ok (.goto (-48), 3) := by decide +kernel
theorem dX2_turn_100 : decode cX2_turn 100 = .ok (.aload 4, 2) := by decide +kernel
theorem dX2_turn_102 : decode cX2_turn 102 = .ok (.iload 6, 2) := by decide +kernel
theorem dX2_turn_104 : decode cX2_turn 104 = .ok (.aload_n 0, 1) := by decide +kernel
theorem dX2_turn_105 : decode cX2_turn 105 = .ok (.getfield 25, 3) := by decide +kernel
theorem dX2_turn_108 : decode cX2_turn 108 = .ok (.invokevirtual 50, 3) := by decide +kernel
theorem dX2_turn_111 : decode cX2_turn 111 = .ok (.iconst 1, 1) := by decide +kernel
theorem dX2_turn_112 : decode cX2_turn 112 = .ok (.ireturn, 1) := by decide +kernel
set_option maxRecDepth 20000 in
theorem ggX2_joins_X2_worldIn : GoodIn wsX2_joins wsX2_worldIn := goodIn_r _ [5, 6, 48, 49, 50, 51, 52, 53, 54] (by decide +kernel) (by decide +kernel)
set_option maxRecDepth 20000 in
theorem gX2_joins_X2_worldIn : GoodIn wsX2_joins (wsV RX2 38 RX2 yX2_worldIn wsX2_worldIn) := goodIn_app (goodIn_of _ (by decide +kernel)) ggX2_joins_X2_worldIn
set_option maxRecDepth 20000 in
theorem ggX2_joins_X1_has : GoodIn wsX2_joins wsX1_has := goodIn_r _ [11, 12, 55, 56, 57, 58] (by decide +kernel) (by decide +kernel)
set_option maxRecDepth 20000 in
theorem gX2_joins_X1_has : GoodIn wsX2_joins (wsV RX2 58 RX1 yX1_has wsX1_has) := goodIn_app (goodIn_of _ (by decide +kernel)) ggX2_joins_X1_has
set_option maxRecDepth 20000 in
theorem ggX2_joins_X2_isSomeWay : GoodIn wsX2_joins wsX2_isSomeWay := goodIn_r _ [15] (by decide +kernel) (by decide +kernel)
set_option maxRecDepth 20000 in
theorem gX2_joins_X2_isSomeWay : GoodIn wsX2_joins (va_wsS RX2 106 yX2_isSomeWay wsX2_isSomeWay) := goodIn_app (goodIn_of _ (by decide +kernel)) ggX2_joins_X2_isSomeWay
set_option maxRecDepth 20000 in
theorem ggX2_joins_X1_joinsIn : GoodIn wsX2_joins wsX1_joinsIn := goodIn_r _ [19, 20, 21, 22, 10, 23, 24, 25, 26, 27, 28, 29, 30, 31, 32, 33, 34, 35, 36, 37, 38, 39, 40, 41, 42, 43, 44, 55, 56, 57, 58] (by decide +kernel) (by decide +kernel)
set_option maxRecDepth 20000 in
theorem gX2_joins_X1_joinsIn : GoodIn wsX2_joins (wsV RX2 109 RX1 yX1_joinsIn wsX1_joinsIn) := goodIn_app (goodIn_of _ (by decide +kernel)) ggX2_joins_X1_joinsIn
set_option maxRecDepth 20000 in
theorem ggX2_joins_X2_oneIf : GoodIn wsX2_joins wsX2_oneIf := goodIn_r _ [47] (by decide +kernel) (by decide +kernel)
set_option maxRecDepth 20000 in
theorem gX2_joins_X2_oneIf : GoodIn wsX2_joins (va_wsS RX2 81 yX2_oneIf wsX2_oneIf) := goodIn_app (goodIn_of _ (by decide +kernel)) ggX2_joins_X2_oneIf
theorem dX2_joins_0 : decode cX2_joins 0 = .ok (.aload_n 0, 1) := by decide +kernel
theorem dX2_joins_1 : decode cX2_joins 1 = .ok (.iload_n 1, 1) := by decide +kernel
theorem dX2_joins_2 : decode cX2_joins 2 = .ok (.invokevirtual 38, 3) := by decide +kernel
theorem dX2_joins_5 : decode cX2_joins 5 = .ok (.astore 4, 2) := by decide +kernel
theorem dX2_joins_7 : decode cX2_joins 7 = .ok (.aload 4, 2) := by decide +kernel
theorem dX2_joins_9 : decode cX2_joins 9 = .ok (.ifnull 12, 3) := by decide +kernel
theorem dX2_joins_12 : decode cX2_joins 12 = .ok (.aload 4, 2) := by decide +kernel
theorem dX2_joins_14 : decode cX2_joins 14 = .ok (.iload_n 2, 1) := by decide +kernel
theorem dX2_joins_15 : decode cX2_joins 15 = .ok (.invokevirtual 58, 3) := by decide +kernel
theorem dX2_joins_18 : decode cX2_joins 18 = .ok (.ifCond .ne 5, 3) := by decide +kernel
theorem dX2_joins_21 : decode cX2_joins 21 = .ok (.iconst (-1), 1) := by decide +kernel
theorem dX2_joins_22 : decode cX2_joins 22 = .ok (.ireturn, 1) := by decide +kernel
theorem dX2_joins_23 : decode cX2_joins 23 = .ok (.iload_n 3, 1) := by decide +kernel
theorem dX2_joins_24 : decode cX2_joins 24 = .ok (.invokestatic 106, 3) := by decide +kernel
theorem dX2_joins_27 : decode cX2_joins 27 = .ok (.ifCond .ne 6, 3) := by decide +kernel
theorem dX2_joins_30 : decode cX2_joins 30 = .ok (.bipush (-2), 2) := by decide +kernel
theorem dX2_joins_32 : decode cX2_joins 32 = .ok (.ireturn, 1) := by decide +kernel
theorem dX2_joins_33 : decode cX2_joins 33 = .ok (.aload 4, 2) := by decide +kernel
theorem dX2_joins_35 : decode cX2_joins 35 = .ok (.iload_n 2, 1) := by decide +kernel
theorem dX2_joins_36 : decode cX2_joins 36 = .ok (.iload_n 3, 1) := by decide +kernel
theorem dX2_joins_37 : decode cX2_joins 37 = .ok (.invokevirtual 109, 3) := by decide +kernel
theorem dX2_joins_40 : decode cX2_joins 40 = .ok (.invokestatic 81, 3) := by decide +kernel
theorem dX2_joins_43 : decode cX2_joins 43 = .ok (.ireturn, 1) := by decide +kernel
set_option maxRecDepth 20000 in
theorem ggX2_many_X2_worldIn : GoodIn wsX2_many wsX2_worldIn := goodIn_r _ [5, 6, 45, 46, 47, 48, 49, 50, 51] (by decide +kernel) (by decide +kernel)
set_option maxRecDepth 20000 in
theorem gX2_many_X2_worldIn : GoodIn wsX2_many (wsV RX2 38 RX2 yX2_worldIn wsX2_worldIn) := goodIn_app (goodIn_of _ (by decide +kernel)) ggX2_many_X2_worldIn
set_option maxRecDepth 20000 in
theorem ggX2_many_X2_isSomeWay : GoodIn wsX2_many wsX2_isSomeWay := goodIn_r _ [9] (by decide +kernel) (by decide +kernel)
set_option maxRecDepth 20000 in
theorem gX2_many_X2_isSomeWay : GoodIn wsX2_many (va_wsS RX2 106 yX2_isSomeWay wsX2_isSomeWay) := goodIn_app (goodIn_of _ (by decide +kernel)) ggX2_many_X2_isSomeWay
set_option maxRecDepth 20000 in
theorem ggX2_many_X1_size : GoodIn wsX2_many wsX1_size := goodIn_r _ [14, 15, 52, 53, 54, 55] (by decide +kernel) (by decide +kernel)
set_option maxRecDepth 20000 in
theorem gX2_many_X1_size : GoodIn wsX2_many (wsV RX2 54 RX1 yX1_size wsX1_size) := goodIn_app (goodIn_of _ (by decide +kernel)) ggX2_many_X1_size
set_option maxRecDepth 20000 in
theorem ggX2_many_X1_joinsIn : GoodIn wsX2_many wsX1_joinsIn := goodIn_r _ [19, 20, 21, 22, 13, 23, 24, 25, 26, 27, 28, 29, 30, 31, 32, 33, 34, 35, 36, 37, 38, 39, 40, 41, 42, 43, 44, 52, 53, 54, 55] (by decide +kernel) (by decide +kernel)
set_option maxRecDepth 20000 in
theorem gX2_many_X1_joinsIn : GoodIn wsX2_many (wsV RX2 109 RX1 yX1_joinsIn wsX1_joinsIn) := goodIn_app (goodIn_of _ (by decide +kernel)) ggX2_many_X1_joinsIn
theorem dX2_many_0 : decode cX2_many 0 = .ok (.aload_n 0, 1) := by decide +kernel
theorem dX2_many_1 : decode cX2_many 1 = .ok (.iload_n 1, 1) := by decide +kernel
theorem dX2_many_2 : decode cX2_many 2 = .ok (.invokevirtual 38, 3) := by decide +kernel
theorem dX2_many_5 : decode cX2_many 5 = .ok (.astore_n 3, 1) := by decide +kernel
theorem dX2_many_6 : decode cX2_many 6 = .ok (.aload_n 3, 1) := by decide +kernel
theorem dX2_many_7 : decode cX2_many 7 = .ok (.ifnonnull 5, 3) := by decide +kernel
theorem dX2_many_10 : decode cX2_many 10 = .ok (.iconst (-1), 1) := by decide +kernel
theorem dX2_many_11 : decode cX2_many 11 = .ok (.ireturn, 1) := by decide +kernel
theorem dX2_many_12 : decode cX2_many 12 = .ok (.iload_n 2, 1) := by decide +kernel
theorem dX2_many_13 : decode cX2_many 13 = .ok (.invokestatic 106, 3) := by decide +kernel
theorem dX2_many_16 : decode cX2_many 16 = .ok (.ifCond .ne 6, 3) := by decide +kernel
theorem dX2_many_19 : decode cX2_many 19 = .ok (.bipush (-2), 2) := by decide +kernel
theorem dX2_many_21 : decode cX2_many 21 = .ok (.ireturn, 1) := by decide +kernel
theorem dX2_many_22 : decode cX2_many 22 = .ok (.iconst 0, 1) := by decide +kernel
theorem dX2_many_23 : decode cX2_many 23 = .ok (.istore 4, 2) := by decide +kernel
theorem dX2_many_25 : decode cX2_many 25 = .ok (.iconst 0, 1) := by decide +kernel
theorem dX2_many_26 : decode cX2_many 26 = .ok (.istore 5, 2) := by decide +kernel
theorem dX2_many_28 : decode cX2_many 28 = .ok (.iload 5, 2) := by decide +kernel
theorem dX2_many_30 : decode cX2_many 30 = .ok (.aload_n 3, 1) := by decide +kernel
theorem dX2_many_31 : decode cX2_many 31 = .ok (.invokevirtual 54, 3) := by decide +kernel
theorem dX2_many_34 : decode cX2_many 34 = .ok (.if_icmp .ge 22, 3) := by decide +kernel
theorem dX2_many_37 : decode cX2_many 37 = .ok (.aload_n 3, 1) := by decide +kernel
theorem dX2_many_38 : decode cX2_many 38 = .ok (.iload 5, 2) := by decide +kernel
theorem dX2_many_40 : decode cX2_many 40 = .ok (.iload_n 2, 1) := by decide +kernel
theorem dX2_many_41 : decode cX2_many 41 = .ok (.invokevirtual 109, 3) := by decide +kernel
theorem dX2_many_44 : decode cX2_many 44 = .ok (.ifCond .eq 6, 3) := by decide +kernel
theorem dX2_many_47 : decode cX2_many 47 = .ok (.iinc 4 1, 3) := by decide +kernel
theorem dX2_many_50 : decode cX2_many 50 = .ok (.iinc 5 1, 3) := by decide +kernel
theorem dX2_many_53 : decode cX2_many 53 = .ok (.goto (-25), 3) := by decide +kernel
theorem dX2_many_56 : decode cX2_many 56 = .ok (.iload 4, 2) := by decide +kernel
theorem dX2_many_58 : decode cX2_many 58 = .ok (.ireturn, 1) := by decide +kernel
set_option maxRecDepth 20000 in
theorem ggX2_unlike_X2_worldIn : GoodIn wsX2_unlike wsX2_worldIn := goodIn_r _ [5, 6, 21, 22, 23, 24, 25, 26, 27] (by decide +kernel) (by decide +kernel)
set_option maxRecDepth 20000 in
theorem gX2_unlike_X2_worldIn : GoodIn wsX2_unlike (wsV RX2 38 RX2 yX2_worldIn wsX2_worldIn) := goodIn_app (goodIn_of _ (by decide +kernel)) ggX2_unlike_X2_worldIn
set_option maxRecDepth 20000 in
theorem ggX2_unlike_X1_countUnlike : GoodIn wsX2_unlike wsX1_countUnlike := goodIn_r _ [11, 12, 13, 14, 15, 10, 16, 17, 18, 19, 20, 28, 29, 30, 31] (by decide +kernel) (by decide +kernel)
set_option maxRecDepth 20000 in
theorem gX2_unlike_X1_countUnlike : GoodIn wsX2_unlike (wsV RX2 113 RX1 yX1_countUnlike wsX1_countUnlike) := goodIn_app (goodIn_of _ (by decide +kernel)) ggX2_unlike_X1_countUnlike
theorem dX2_unlike_0 : decode cX2_unlike 0 = .ok (.aload_n 0, 1) := by decide +kernel
theorem dX2_unlike_1 : decode cX2_unlike 1 = .ok (.iload_n 1, 1) := by decide +kernel
theorem dX2_unlike_2 : decode cX2_unlike 2 = .ok (.invokevirtual 38, 3) := by decide +kernel
theorem dX2_unlike_5 : decode cX2_unlike 5 = .ok (.astore_n 2, 1) := by decide +kernel
theorem dX2_unlike_6 : decode cX2_unlike 6 = .ok (.aload_n 2, 1) := by decide +kernel
theorem dX2_unlike_7 : decode cX2_unlike 7 = .ok (.ifnonnull 5, 3) := by decide +kernel
theorem dX2_unlike_10 : decode cX2_unlike 10 = .ok (.iconst (-1), 1) := by decide +kernel
theorem dX2_unlike_11 : decode cX2_unlike 11 = .ok (.ireturn, 1) := by decide +kernel
theorem dX2_unlike_12 : decode cX2_unlike 12 = .ok (.aload_n 2, 1) := by decide +kernel
theorem dX2_unlike_13 : decode cX2_unlike 13 = .ok (.invokevirtual 113, 3) := by decide +kernel
theorem dX2_unlike_16 : decode cX2_unlike 16 = .ok (.ireturn, 1) := by decide +kernel
set_option maxRecDepth 20000 in
theorem ggX2_map_X2_mapAt : GoodIn wsX2_map wsX2_mapAt := goodIn_r _ [5, 6, 10, 11, 12, 13, 14, 15, 16] (by decide +kernel) (by decide +kernel)
set_option maxRecDepth 20000 in
theorem gX2_map_X2_mapAt : GoodIn wsX2_map (wsV RX2 116 RX2 yX2_mapAt wsX2_mapAt) := goodIn_app (goodIn_of _ (by decide +kernel)) ggX2_map_X2_mapAt
set_option maxRecDepth 20000 in
theorem ggX2_map_X2_isMapNumber : GoodIn wsX2_map wsX2_isMapNumber := goodIn_r _ [9] (by decide +kernel) (by decide +kernel)
set_option maxRecDepth 20000 in
theorem gX2_map_X2_isMapNumber : GoodIn wsX2_map (va_wsS RX2 120 yX2_isMapNumber wsX2_isMapNumber) := goodIn_app (goodIn_of _ (by decide +kernel)) ggX2_map_X2_isMapNumber
theorem dX2_map_0 : decode cX2_map 0 = .ok (.aload_n 0, 1) := by decide +kernel
theorem dX2_map_1 : decode cX2_map 1 = .ok (.iload_n 1, 1) := by decide +kernel
theorem dX2_map_2 : decode cX2_map 2 = .ok (.invokevirtual 116, 3) := by decide +kernel
theorem dX2_map_5 : decode cX2_map 5 = .ok (.astore 4, 2) := by decide +kernel
theorem dX2_map_7 : decode cX2_map 7 = .ok (.aload 4, 2) := by decide +kernel
theorem dX2_map_9 : decode cX2_map 9 = .ok (.ifnonnull 5, 3) := by decide +kernel
theorem dX2_map_12 : decode cX2_map 12 = .ok (.iconst (-1), 1) := by decide +kernel
theorem dX2_map_13 : decode cX2_map 13 = .ok (.ireturn, 1) := by decide +kernel
theorem dX2_map_14 : decode cX2_map 14 = .ok (.iload_n 2, 1) := by decide +kernel
theorem dX2_map_15 : decode cX2_map 15 = .ok (.ifCond .lt 17, 3) := by decide +kernel
theorem dX2_map_18 : decode cX2_map 18 = .ok (.iload_n 2, 1) := by decide +kernel
theorem dX2_map_19 : decode cX2_map 19 = .ok (.aload 4, 2) := by decide +kernel
theorem dX2_map_21 : decode cX2_map 21 = .ok (.arraylength, 1) := by decide +kernel
theorem dX2_map_22 : decode cX2_map 22 = .ok (.if_icmp .ge 10, 3) := by decide +kernel
theorem dX2_map_25 : decode cX2_map 25 = .ok (.iload_n 3, 1) := by decide +kernel
theorem dX2_map_26 : decode cX2_map 26 = .ok (.invokestatic 120, 3) := by decide +kernel
theorem dX2_map_29 : decode cX2_map 29 = .ok (.ifCond .ne 6, 3) := by decide +kernel
theorem dX2_map_32 : decode cX2_map 32 = .ok (.bipush (-2), 2) := by decide +kernel
theorem dX2_map_34 : decode cX2_map 34 = .ok (.ireturn, 1) := by decide +kernel
theorem dX2_map_35 : decode cX2_map 35 = .ok (.aload 4, 2) := by decide +kernel
theorem dX2_map_37 : decode cX2_map 37 = .ok (.iload_n 2, 1) := by decide +kernel
theorem dX2_map_38 : decode cX2_map 38 = .ok (.iaload, 1) := by decide +kernel
theorem dX2_map_39 : decode cX2_map 39 = .ok (.istore 5, 2) := by decide +kernel
theorem dX2_map_41 : decode cX2_map 41 = .ok (.aload 4, 2) := by decide +kernel
theorem dX2_map_43 : decode cX2_map 43 = .ok (.iload_n 2, 1) := by decide +kernel
theorem dX2_map_44 : decode cX2_map 44 = .ok (.iload_n 3, 1) := by decide +kernel
theorem dX2_map_45 : decode cX2_map 45 = .ok (.iastore, 1) := by decide +kernel
theorem dX2_map_46 : decode cX2_map 46 = .ok (.iload 5, 2) := by decide +kernel
theorem dX2_map_48 : decode cX2_map 48 = .ok (.ireturn, 1) := by decide +kernel
set_option maxRecDepth 20000 in
theorem ggX2_gives_X2_mapAt : GoodIn wsX2_gives wsX2_mapAt := goodIn_r _ [5, 6, 13, 14, 15, 16, 17, 18, 19] (by decide +kernel) (by decide +kernel)
set_option maxRecDepth 20000 in
theorem gX2_gives_X2_mapAt : GoodIn wsX2_gives (wsV RX2 116 RX2 yX2_mapAt wsX2_mapAt) := goodIn_app (goodIn_of _ (by decide +kernel)) ggX2_gives_X2_mapAt
set_option maxRecDepth 20000 in
theorem ggX2_gives_X2_isMapNumber : GoodIn wsX2_gives wsX2_isMapNumber := goodIn_r _ [9] (by decide +kernel) (by decide +kernel)
set_option maxRecDepth 20000 in
theorem gX2_gives_X2_isMapNumber : GoodIn wsX2_gives (va_wsS RX2 120 yX2_isMapNumber wsX2_isMapNumber) := goodIn_app (goodIn_of _ (by decide +kernel)) ggX2_gives_X2_isMapNumber
set_option maxRecDepth 20000 in
theorem ggX2_gives_X2_sumOf : GoodIn wsX2_gives wsX2_sumOf := goodIn_r _ [12] (by decide +kernel) (by decide +kernel)
set_option maxRecDepth 20000 in
theorem gX2_gives_X2_sumOf : GoodIn wsX2_gives (va_wsS RX2 123 yX2_sumOf wsX2_sumOf) := goodIn_app (goodIn_of _ (by decide +kernel)) ggX2_gives_X2_sumOf
theorem dX2_gives_0 : decode cX2_gives 0 = .ok (.aload_n 0, 1) := by decide +kernel
theorem dX2_gives_1 : decode cX2_gives 1 = .ok (.iload_n 1, 1) := by decide +kernel
theorem dX2_gives_2 : decode cX2_gives 2 = .ok (.invokevirtual 116, 3) := by decide +kernel
theorem dX2_gives_5 : decode cX2_gives 5 = .ok (.astore_n 3, 1) := by decide +kernel
theorem dX2_gives_6 : decode cX2_gives 6 = .ok (.aload_n 3, 1) := by decide +kernel
theorem dX2_gives_7 : decode cX2_gives 7 = .ok (.ifnonnull 5, 3) := by decide +kernel
theorem dX2_gives_10 : decode cX2_gives 10 = .ok (.iconst (-1), 1) := by decide +kernel
theorem dX2_gives_11 : decode cX2_gives 11 = .ok (.ireturn, 1) := by decide +kernel
theorem dX2_gives_12 : decode cX2_gives 12 = .ok (.iload_n 2, 1) := by decide +kernel
theorem dX2_gives_13 : decode cX2_gives 13 = .ok (.invokestatic 120, 3) := by decide +kernel
theorem dX2_gives_16 : decode cX2_gives 16 = .ok (.ifCond .ne 6, 3) := by decide +kernel
theorem dX2_gives_19 : decode cX2_gives 19 = .ok (.bipush (-2), 2) := by decide +kernel
theorem dX2_gives_21 : decode cX2_gives 21 = .ok (.ireturn, 1) := by decide +kernel
theorem dX2_gives_22 : decode cX2_gives 22 = .ok (.aload_n 3, 1) := by decide +kernel
theorem dX2_gives_23 : decode cX2_gives 23 = .ok (.iload_n 2, 1) := by decide +kernel
theorem dX2_gives_24 : decode cX2_gives 24 = .ok (.invokestatic 123, 3) := by decide +kernel
theorem dX2_gives_27 : decode cX2_gives 27 = .ok (.ireturn, 1) := by decide +kernel
set_option maxRecDepth 20000 in
theorem ggX2_fits_X2_mapAt : GoodIn wsX2_fits wsX2_mapAt := goodIn_r _ [5, 6, 19, 20, 21, 22, 23, 24, 25] (by decide +kernel) (by decide +kernel)
set_option maxRecDepth 20000 in
theorem gX2_fits_X2_mapAt : GoodIn wsX2_fits (wsV RX2 116 RX2 yX2_mapAt wsX2_mapAt) := goodIn_app (goodIn_of _ (by decide +kernel)) ggX2_fits_X2_mapAt
set_option maxRecDepth 20000 in
theorem ggX2_fits_X2_isSomeN : GoodIn wsX2_fits wsX2_isSomeN := goodIn_r _ [9] (by decide +kernel) (by decide +kernel)
set_option maxRecDepth 20000 in
theorem gX2_fits_X2_isSomeN : GoodIn wsX2_fits (va_wsS RX2 42 yX2_isSomeN wsX2_isSomeN) := goodIn_app (goodIn_of _ (by decide +kernel)) ggX2_fits_X2_isSomeN
set_option maxRecDepth 20000 in
theorem ggX2_fits_X2_isFit : GoodIn wsX2_fits wsX2_isFit := goodIn_r _ [12, 13, 14, 4, 15] (by decide +kernel) (by decide +kernel)
set_option maxRecDepth 20000 in
theorem gX2_fits_X2_isFit : GoodIn wsX2_fits (va_wsS RX2 127 yX2_isFit wsX2_isFit) := goodIn_app (goodIn_of _ (by decide +kernel)) ggX2_fits_X2_isFit
set_option maxRecDepth 20000 in
theorem ggX2_fits_X2_oneIf : GoodIn wsX2_fits wsX2_oneIf := goodIn_r _ [18] (by decide +kernel) (by decide +kernel)
set_option maxRecDepth 20000 in
theorem gX2_fits_X2_oneIf : GoodIn wsX2_fits (va_wsS RX2 81 yX2_oneIf wsX2_oneIf) := goodIn_app (goodIn_of _ (by decide +kernel)) ggX2_fits_X2_oneIf
theorem dX2_fits_0 : decode cX2_fits 0 = .ok (.aload_n 0, 1) := by decide +kernel
theorem dX2_fits_1 : decode cX2_fits 1 = .ok (.iload_n 1, 1) := by decide +kernel
theorem dX2_fits_2 : decode cX2_fits 2 = .ok (.invokevirtual 116, 3) := by decide +kernel
theorem dX2_fits_5 : decode cX2_fits 5 = .ok (.astore_n 3, 1) := by decide +kernel
theorem dX2_fits_6 : decode cX2_fits 6 = .ok (.aload_n 3, 1) := by decide +kernel
theorem dX2_fits_7 : decode cX2_fits 7 = .ok (.ifnonnull 5, 3) := by decide +kernel
theorem dX2_fits_10 : decode cX2_fits 10 = .ok (.iconst (-1), 1) := by decide +kernel
theorem dX2_fits_11 : decode cX2_fits 11 = .ok (.ireturn, 1) := by decide +kernel
theorem dX2_fits_12 : decode cX2_fits 12 = .ok (.iload_n 2, 1) := by decide +kernel
theorem dX2_fits_13 : decode cX2_fits 13 = .ok (.invokestatic 42, 3) := by decide +kernel
theorem dX2_fits_16 : decode cX2_fits 16 = .ok (.ifCond .ne 6, 3) := by decide +kernel
theorem dX2_fits_19 : decode cX2_fits 19 = .ok (.bipush (-2), 2) := by decide +kernel
theorem dX2_fits_21 : decode cX2_fits 21 = .ok (.ireturn, 1) := by decide +kernel
theorem dX2_fits_22 : decode cX2_fits 22 = .ok (.aload_n 3, 1) := by decide +kernel
theorem dX2_fits_23 : decode cX2_fits 23 = .ok (.iload_n 2, 1) := by decide +kernel
theorem dX2_fits_24 : decode cX2_fits 24 = .ok (.invokestatic 127, 3) := by decide +kernel
theorem dX2_fits_27 : decode cX2_fits 27 = .ok (.invokestatic 81, 3) := by decide +kernel
theorem dX2_fits_30 : decode cX2_fits 30 = .ok (.ireturn, 1) := by decide +kernel
set_option maxRecDepth 20000 in
theorem ggX2_alike_X2_worldIn : GoodIn wsX2_alike wsX2_worldIn := goodIn_r _ [5, 6, 39, 40, 41, 42, 43, 44, 45] (by decide +kernel) (by decide +kernel)
set_option maxRecDepth 20000 in
theorem gX2_alike_X2_worldIn : GoodIn wsX2_alike (wsV RX2 38 RX2 yX2_worldIn wsX2_worldIn) := goodIn_app (goodIn_of _ (by decide +kernel)) ggX2_alike_X2_worldIn
set_option maxRecDepth 20000 in
theorem ggX2_alike_X1_bits : GoodIn wsX2_alike wsX1_bits := goodIn_r _ [11, 12, 46, 47, 48, 49] (by decide +kernel) (by decide +kernel)
set_option maxRecDepth 20000 in
theorem gX2_alike_X1_bits : GoodIn wsX2_alike (wsV RX2 99 RX1 yX1_bits wsX1_bits) := goodIn_app (goodIn_of _ (by decide +kernel)) ggX2_alike_X1_bits
set_option maxRecDepth 20000 in
theorem ggX2_alike_X2_allMapsFit : GoodIn wsX2_alike wsX2_allMapsFit := goodIn_r _ [16, 17, 18, 19, 4, 20, 21, 22, 23, 39, 40, 41, 42, 43, 44, 45] (by decide +kernel) (by decide +kernel)
set_option maxRecDepth 20000 in
theorem gX2_alike_X2_allMapsFit : GoodIn wsX2_alike (wsV RX2 131 RX2 yX2_allMapsFit wsX2_allMapsFit) := goodIn_app (goodIn_of _ (by decide +kernel)) ggX2_alike_X2_allMapsFit
set_option maxRecDepth 20000 in
theorem ggX2_alike_X2_mapsCarry : GoodIn wsX2_alike wsX2_mapsCarry := goodIn_r _ [27, 17, 7, 8, 9, 10, 11, 12, 21, 22, 4, 23, 28, 29, 30, 31, 32, 33, 34, 35, 39, 40, 41, 42, 43, 44, 45, 46, 47, 48, 49] (by decide +kernel) (by decide +kernel)
set_option maxRecDepth 20000 in
theorem gX2_alike_X2_mapsCarry : GoodIn wsX2_alike (wsV RX2 134 RX2 yX2_mapsCarry wsX2_mapsCarry) := goodIn_app (goodIn_of _ (by decide +kernel)) ggX2_alike_X2_mapsCarry
set_option maxRecDepth 20000 in
theorem ggX2_alike_X2_oneIf : GoodIn wsX2_alike wsX2_oneIf := goodIn_r _ [38] (by decide +kernel) (by decide +kernel)
set_option maxRecDepth 20000 in
theorem gX2_alike_X2_oneIf : GoodIn wsX2_alike (va_wsS RX2 81 yX2_oneIf wsX2_oneIf) := goodIn_app (goodIn_of _ (by decide +kernel)) ggX2_alike_X2_oneIf
theorem dX2_alike_0 : decode cX2_alike 0 = .ok (.aload_n 0, 1) := by decide +kernel
theorem dX2_alike_1 : decode cX2_alike 1 = .ok (.iload_n 1, 1) := by decide +kernel
theorem dX2_alike_2 : decode cX2_alike 2 = .ok (.invokevirtual 38, 3) := by decide +kernel
theorem dX2_alike_5 : decode cX2_alike 5 = .ok (.astore_n 3, 1) := by decide +kernel
theorem dX2_alike_6 : decode cX2_alike 6 = .ok (.aload_n 0, 1) := by decide +kernel
theorem dX2_alike_7 : decode cX2_alike 7 = .ok (.iload_n 2, 1) := by decide +kernel
theorem dX2_alike_8 : decode cX2_alike 8 = .ok (.invokevirtual 38, 3) := by decide +kernel
theorem dX2_alike_11 : decode cX2_alike 11 = .ok (.astore 4, 2) := by decide +kernel
theorem dX2_alike_13 : decode cX2_alike 13 = .ok (.aload_n 3, 1) := by decide +kernel
theorem dX2_alike_14 : decode cX2_alike 14 = .ok (.ifnull 8, 3) := by decide +kernel
theorem dX2_alike_17 : decode cX2_alike 17 = .ok (.aload 4, 2) := by decide +kernel
theorem dX2_alike_19 : decode cX2_alike 19 = .ok (.ifnonnull 5, 3) := by decide +kernel
theorem dX2_alike_22 : decode cX2_alike 22 = .ok (.iconst (-1), 1) := by decide +kernel
theorem dX2_alike_23 : decode cX2_alike 23 = .ok (.ireturn, 1) := by decide +kernel
theorem dX2_alike_24 : decode cX2_alike 24 = .ok (.aload_n 3, 1) := by decide +kernel
theorem dX2_alike_25 : decode cX2_alike 25 = .ok (.invokevirtual 99, 3) := by decide +kernel
theorem dX2_alike_28 : decode cX2_alike 28 = .ok (.aload 4, 2) := by decide +kernel
theorem dX2_alike_30 : decode cX2_alike 30 = .ok (.invokevirtual 99, 3) := by decide +kernel
theorem dX2_alike_33 : decode cX2_alike 33 = .ok (.if_icmp .eq 6, 3) := by decide +kernel
theorem dX2_alike_36 : decode cX2_alike 36 = .ok (.bipush (-3), 2) := by decide +kernel
theorem dX2_alike_38 : decode cX2_alike 38 = .ok (.ireturn, 1) := by decide +kernel
theorem dX2_alike_39 : decode cX2_alike 39 = .ok (.aload_n 0, 1) := by decide +kernel
theorem dX2_alike_40 : decode cX2_alike 40 = .ok (.aload_n 3, 1) := by decide +kernel
theorem dX2_alike_41 : decode cX2_alike 41 = .ok (.invokevirtual 99, 3) := by decide +kernel
theorem dX2_alike_44 : decode cX2_alike 44 = .ok (.invokevirtual 131, 3) := by decide +kernel
theorem dX2_alike_47 : decode cX2_alike 47 = .ok (.ifCond .eq 17, 3) := by decide +kernel
theorem dX2_alike_50 : decode cX2_alike 50 = .ok (.aload_n 0, 1) := by decide +kernel
theorem dX2_alike_51 : decode cX2_alike 51 = .ok (.aload_n 3, 1) := by decide +kernel
theorem dX2_alike_52 : decode cX2_alike 52 = .ok (.aload 4, 2) := by decide +kernel
theorem dX2_alike_54 : decode cX2_alike 54 = .ok (.invokevirtual 134, 3) := by decide +kernel
theorem dX2_alike_57 : decode cX2_alike 57 = .ok (.ifCond .eq 7, 3) := by decide +kernel
theorem dX2_alike_60 : decode cX2_alike 60 = .ok (.iconst 1, 1) := by decide +kernel
theorem dX2_alike_61 : decode cX2_alike 61 = .ok (.goto 4, 3) := by decide +kernel
theorem dX2_alike_64 : decode cX2_alike 64 = .ok (.iconst 0, 1) := by decide +kernel
theorem dX2_alike_65 : decode cX2_alike 65 = .ok (.invokestatic 81, 3) := by decide +kernel
theorem dX2_alike_68 : decode cX2_alike 68 = .ok (.ireturn, 1) := by decide +kernel
set_option maxRecDepth 20000 in
theorem ggX2_carry_X2_worldIn : GoodIn wsX2_carry wsX2_worldIn := goodIn_r _ [7, 8, 57, 58, 59, 60, 61, 62, 63] (by decide +kernel) (by decide +kernel)
set_option maxRecDepth 20000 in
theorem gX2_carry_X2_worldIn : GoodIn wsX2_carry (wsV RX2 38 RX2 yX2_worldIn wsX2_worldIn) := goodIn_app (goodIn_of _ (by decide +kernel)) ggX2_carry_X2_worldIn
set_option maxRecDepth 20000 in
theorem ggX2_carry_X1_bits : GoodIn wsX2_carry wsX1_bits := goodIn_r _ [13, 14, 64, 65, 66, 67] (by decide +kernel) (by decide +kernel)
set_option maxRecDepth 20000 in
theorem gX2_carry_X1_bits : GoodIn wsX2_carry (wsV RX2 99 RX1 yX1_bits wsX1_bits) := goodIn_app (goodIn_of _ (by decide +kernel)) ggX2_carry_X1_bits
set_option maxRecDepth 20000 in
theorem ggX2_carry_X2_allMapsFit : GoodIn wsX2_carry wsX2_allMapsFit := goodIn_r _ [18, 1, 19, 20, 6, 21, 22, 23, 24, 57, 58, 59, 60, 61, 62, 63] (by decide +kernel) (by decide +kernel)
set_option maxRecDepth 20000 in
theorem gX2_carry_X2_allMapsFit : GoodIn wsX2_carry (wsV RX2 131 RX2 yX2_allMapsFit wsX2_allMapsFit) := goodIn_app (goodIn_of _ (by decide +kernel)) ggX2_carry_X2_allMapsFit
set_option maxRecDepth 20000 in
theorem ggX2_carry_X2_sourceOf : GoodIn wsX2_carry wsX2_sourceOf := goodIn_r _ [27, 22, 23, 6, 24] (by decide +kernel) (by decide +kernel)
set_option maxRecDepth 20000 in
theorem gX2_carry_X2_sourceOf : GoodIn wsX2_carry (va_wsS RX2 138 yX2_sourceOf wsX2_sourceOf) := goodIn_app (goodIn_of _ (by decide +kernel)) ggX2_carry_X2_sourceOf
set_option maxRecDepth 20000 in
theorem ggX2_carry_X2_cellIndex : GoodIn wsX2_carry wsX2_cellIndex := goodIn_r _ [30] (by decide +kernel) (by decide +kernel)
set_option maxRecDepth 20000 in
theorem gX2_carry_X2_cellIndex : GoodIn wsX2_carry (va_wsS RX2 46 yX2_cellIndex wsX2_cellIndex) := goodIn_app (goodIn_of _ (by decide +kernel)) ggX2_carry_X2_cellIndex
set_option maxRecDepth 20000 in
theorem ggX2_carry_X1_times : GoodIn wsX2_carry wsX1_times := goodIn_r _ [34, 35, 36, 37, 12, 38, 64, 65, 66, 67] (by decide +kernel) (by decide +kernel)
set_option maxRecDepth 20000 in
theorem gX2_carry_X1_times : GoodIn wsX2_carry (wsV RX2 74 RX1 yX1_times wsX1_times) := goodIn_app (goodIn_of _ (by decide +kernel)) ggX2_carry_X1_times
set_option maxRecDepth 20000 in
theorem ggX2_carry_X2_sumOf : GoodIn wsX2_carry wsX2_sumOf := goodIn_r _ [24] (by decide +kernel) (by decide +kernel)
set_option maxRecDepth 20000 in
theorem gX2_carry_X2_sumOf : GoodIn wsX2_carry (va_wsS RX2 123 yX2_sumOf wsX2_sumOf) := goodIn_app (goodIn_of _ (by decide +kernel)) ggX2_carry_X2_sumOf
set_option maxRecDepth 20000 in
theorem ggX2_carry_X1_take : GoodIn wsX2_carry wsX1_take := goodIn_r _ [42, 14, 43, 44, 45, 46, 47, 12, 48, 35, 36, 37, 38, 49, 50, 51, 52, 53, 54, 55, 56, 29, 6, 30, 64, 65, 66, 67] (by decide +kernel) (by decide +kernel)
set_option maxRecDepth 20000 in
theorem gX2_carry_X1_take : GoodIn wsX2_carry (wsV RX2 50 RX1 yX1_take wsX1_take) := goodIn_app (goodIn_of _ (by decide +kernel)) ggX2_carry_X1_take
theorem dX2_carry_0 : decode cX2_carry 0 = .ok (.aload_n 0, 1) := by decide +kernel
theorem dX2_carry_1 : decode cX2_carry 1 = .ok (.iload_n 1, 1) := by decide +kernel
theorem dX2_carry_2 : decode cX2_carry 2 = .ok (.invokevirtual 38, 3) := by decide +kernel
theorem dX2_carry_5 : decode cX2_carry 5 = .ok (.astore_n 3, 1) := by decide +kernel
theorem dX2_carry_6 : decode cX2_carry 6 = .ok (.aload_n 0, 1) := by decide +kernel
theorem dX2_carry_7 : decode cX2_carry 7 = .ok (.iload_n 2, 1) := by decide +kernel
theorem dX2_carry_8 : decode cX2_carry 8 = .ok (.invokevirtual 38, 3) := by decide +kernel
theorem dX2_carry_11 : decode cX2_carry 11 = .ok (.astore 4, 2) := by decide +kernel
theorem dX2_carry_13 : decode cX2_carry 13 = .ok (.aload_n 3, 1) := by decide +kernel
theorem dX2_carry_14 : decode cX2_carry 14 = .ok (.ifnull 8, 3) := by decide +kernel
theorem dX2_carry_17 : decode cX2_carry 17 = .ok (.aload 4, 2) := by decide +kernel
theorem dX2_carry_19 : decode cX2_carry 19 = .ok (.ifnonnull 5, 3) := by decide +kernel
theorem dX2_carry_22 : decode cX2_carry 22 = .ok (.iconst (-1), 1) := by decide +kernel
theorem dX2_carry_23 : decode cX2_carry 23 = .ok (.ireturn, 1) := by decide +kernel
theorem dX2_carry_24 : decode cX2_carry 24 = .ok (.aload 4, 2) := by decide +kernel
theorem dX2_carry_26 : decode cX2_carry 26 = .ok (.invokevirtual 99, 3) := by decide +kernel
theorem dX2_carry_29 : decode cX2_carry 29 = .ok (.istore 5, 2) := by decide +kernel
theorem dX2_carry_31 : decode cX2_carry 31 = .ok (.aload_n 0, 1) := by decide +kernel
theorem dX2_carry_32 : decode cX2_carry 32 = .ok (.iload 5, 2) := by decide +kernel
theorem dX2_carry_34 : decode cX2_carry 34 = .ok (.invokevirtual 131, 3) := by decide +kernel
theorem dX2_carry_37 : decode cX2_carry 37 = .ok (.ifCond .ne 6, 3) := by decide +kernel
theorem dX2_carry_40 : decode cX2_carry 40 = .ok (.bipush (-3), 2) := by decide +kernel
theorem dX2_carry_42 : decode cX2_carry 42 = .ok (.ireturn, 1) := by decide +kernel
theorem dX2_carry_43 : decode cX2_carry 43 = .ok (.iconst 0, 1) := by decide +kernel
theorem dX2_carry_44 : decode cX2_carry 44 = .ok (.istore 6, 2) := by decide +kernel
theorem dX2_carry_46 : decode cX2_carry 46 = .ok (.iload 6, 2) := by decide +kernel
theorem dX2_carry_48 : decode cX2_carry 48 = .ok (.iload 5, 2) := by decide +kernel
theorem dX2_carry_50 : decode cX2_carry 50 = .ok (.if_icmp .ge 89, 3) := by decide +kernel
theorem dX2_carry_53 : decode cX2_carry 53 = .ok (.aload_n 0, 1) := by decide +kernel
theorem dX2_carry_54 : decode cX2_carry 54 = .ok (.getfield 17, 3) := by decide +kernel
theorem dX2_carry_57 : decode cX2_carry 57 = .ok (.iconst 0, 1) := by decide +kernel
theorem dX2_carry_58 : decode cX2_carry 58 = .ok (.aaload, 1) := by decide +kernel
theorem dX2_carry_59 : decode cX2_carry 59 = .ok (.iload 5, 2) := by decide +kernel
theorem dX2_carry_61 : decode cX2_carry 61 = .ok (.iconst 1, 1) := by decide +kernel
theorem dX2_carry_62 : decode cX2_carry 62 = .ok (.iload 6, 2) := by decide +kernel
theorem dX2_carry_64 : decode cX2_carry 64 = .ok (.ishl, 1) := by decide +kernel
theorem dX2_carry_65 : decode cX2_carry 65 = .ok (.invokestatic 138, 3) := by decide +kernel
theorem dX2_carry_68 : decode cX2_carry 68 = .ok (.istore 7, 2) := by decide +kernel
theorem dX2_carry_70 : decode cX2_carry 70 = .ok (.iconst 0, 1) := by decide +kernel
theorem dX2_carry_71 : decode cX2_carry 71 = .ok (.istore 8, 2) := by decide +kernel
theorem dX2_carry_73 : decode cX2_carry 73 = .ok (.iload 8, 2) := by decide +kernel
theorem dX2_carry_75 : decode cX2_carry 75 = .ok (.iload 5, 2) := by decide +kernel
theorem dX2_carry_77 : decode cX2_carry 77 = .ok (.if_icmp .ge 56, 3) := by decide +kernel
theorem dX2_carry_80 : decode cX2_carry 80 = .ok (.aload_n 0, 1) := by decide +kernel
theorem dX2_carry_81 : decode cX2_carry 81 = .ok (.getfield 17, 3) := by decide +kernel
theorem dX2_carry_84 : decode cX2_carry 84 = .ok (.iconst 1, 1) := by decide +kernel
theorem dX2_carry_85 : decode cX2_carry 85 = .ok (.aaload, 1) := by decide +kernel
theorem dX2_carry_86 : decode cX2_carry 86 = .ok (.iload 5, 2) := by decide +kernel
theorem dX2_carry_88 : decode cX2_carry 88 = .ok (.iconst 1, 1) := by decide +kernel
theorem dX2_carry_89 : decode cX2_carry 89 = .ok (.iload 8, 2) := by decide +kernel
theorem dX2_carry_91 : decode cX2_carry 91 = .ok (.ishl, 1) := by decide +kernel
theorem dX2_carry_92 : decode cX2_carry 92 = .ok (.invokestatic 138, 3) := by decide +kernel
theorem dX2_carry_95 : decode cX2_carry 95 = .ok (.istore 9, 2) := by decide +kernel
theorem dX2_carry_97 : decode cX2_carry 97 = .ok (.aload_n 0, 1) := by decide +kernel
theorem dX2_carry_98 : decode cX2_carry 98 = .ok (.getfield 25, 3) := by decide +kernel
theorem dX2_carry_101 : decode cX2_carry 101 = .ok (.iload 6, 2) := by decide +kernel
theorem dX2_carry_103 : decode cX2_carry 103 = .ok (.iload 8, 2) := by decide +kernel
theorem dX2_carry_105 : decode cX2_carry 105 = .ok (.invokestatic 46, 3) := by decide +kernel
theorem dX2_carry_108 : decode cX2_carry 108 = .ok (.aload_n 0, 1) := by decide +kernel
theorem dX2_carry_109 : decode cX2_carry 109 = .ok (.getfield 17, 3) := by decide +kernel
theorem dX2_carry_112 : decode cX2_carry 112 = .ok (.iconst 2, 1) := by decide +kernel
theorem dX2_carry_113 : decode cX2_carry 113 = .ok (.aaload, 1) := by decide +kernel
theorem dX2_carry_114 : decode cX2_carry 114 = .ok (.aload 4, 2) := by decide +kernel
theorem dX2_carry_116 : decode cX2_carry 116 = .ok (.iload 7, 2) := by decide +kernel
theorem dX2_carry_118 : decode cX2_carry 118 = .ok (.iload 9, 2) := by decide +kernel
theorem dX2_carry_120 : decode cX2_carry 120 = .ok (.invokevirtual 74, 3) := by decide +kernel
theorem dX2_carry_123 : decode cX2_carry 123 = .ok (.invokestatic 123, 3) := by decide +kernel
theorem dX2_carry_126 : decode cX2_carry 126 = .ok (.iastore, 1) := by decide +kernel
theorem dX2_carry_127 : decode cX2_carry 127 = .ok (.iinc 8 1, 3) := by decide +kernel
theorem dX2_carry_130 : decode cX2_carry 130 = .ok (.goto (-57), 3) := by decide +kernel
theorem dX2_carry_133 : decode cX2_carry 133 = .ok (.iinc 6 1, 3) := by decide +kernel
theorem dX2_carry_136 : decode cX2_carry 136 = .ok (.goto (-90), 3) := by decide +kernel
theorem dX2_carry_139 : decode cX2_carry 139 = .ok (.aload_n 3, 1) := by decide +kernel
theorem dX2_carry_140 : decode cX2_carry 140 = .ok (.iload 5, 2) := by decide +kernel
theorem dX2_carry_142 : decode cX2_carry 142 = .ok (.aload_n 0, 1) := by decide +kernel
theorem dX2_carry_143 : decode cX2_carry 143 = .ok (.getfield 25, 3) := by decide +kernel
theorem dX2_carry_146 : decode cX2_carry 146 = .ok (.invokevirtual 50, 3) := by decide +kernel
theorem dX2_carry_149 : decode cX2_carry 149 = .ok (.iconst 1, 1) := by decide +kernel
theorem dX2_carry_150 : decode cX2_carry 150 = .ok (.ireturn, 1) := by decide +kernel
set_option maxRecDepth 20000 in
theorem ggX2_ways_X2_worldIn : GoodIn wsX2_ways wsX2_worldIn := goodIn_r _ [5, 6, 67, 68, 69, 70, 71, 72, 73] (by decide +kernel) (by decide +kernel)
set_option maxRecDepth 20000 in
theorem gX2_ways_X2_worldIn : GoodIn wsX2_ways (wsV RX2 38 RX2 yX2_worldIn wsX2_worldIn) := goodIn_app (goodIn_of _ (by decide +kernel)) ggX2_ways_X2_worldIn
set_option maxRecDepth 20000 in
theorem ggX2_ways_X1_bits : GoodIn wsX2_ways wsX1_bits := goodIn_r _ [11, 12, 74, 75, 76, 77] (by decide +kernel) (by decide +kernel)
set_option maxRecDepth 20000 in
theorem gX2_ways_X1_bits : GoodIn wsX2_ways (wsV RX2 99 RX1 yX1_bits wsX1_bits) := goodIn_app (goodIn_of _ (by decide +kernel)) ggX2_ways_X1_bits
set_option maxRecDepth 20000 in
theorem ggX2_ways_X1_isWhole : GoodIn wsX2_ways wsX1_isWhole := goodIn_r _ [16, 17, 18, 19, 10, 20, 21, 22, 23, 24, 25, 26, 27, 28, 29, 30, 31, 32, 33, 74, 75, 76, 77] (by decide +kernel) (by decide +kernel)
set_option maxRecDepth 20000 in
theorem gX2_ways_X1_isWhole : GoodIn wsX2_ways (wsV RX2 77 RX1 yX1_isWhole wsX1_isWhole) := goodIn_app (goodIn_of _ (by decide +kernel)) ggX2_ways_X1_isWhole
set_option maxRecDepth 20000 in
theorem ggX2_ways_X2_countWays : GoodIn wsX2_ways wsX2_countWays := goodIn_r _ [37, 38, 39, 7, 8, 9, 10, 11, 12, 40, 41, 42, 43, 21, 26, 27, 28, 29, 30, 31, 32, 33, 44, 45, 4, 46, 47, 48, 49, 50, 51, 52, 53, 54, 55, 56, 57, 58, 59, 60, 61, 62, 63, 64, 65, 66, 67, 68, 69, 70, 71, 72, 73, 74, 75, 76, 77] (by decide +kernel) (by decide +kernel)
set_option maxRecDepth 20000 in
theorem gX2_ways_X2_countWays : GoodIn wsX2_ways (wsV RX2 142 RX2 yX2_countWays wsX2_countWays) := goodIn_app (goodIn_of _ (by decide +kernel)) ggX2_ways_X2_countWays
theorem dX2_ways_0 : decode cX2_ways 0 = .ok (.aload_n 0, 1) := by decide +kernel
theorem dX2_ways_1 : decode cX2_ways 1 = .ok (.iload_n 1, 1) := by decide +kernel
theorem dX2_ways_2 : decode cX2_ways 2 = .ok (.invokevirtual 38, 3) := by decide +kernel
theorem dX2_ways_5 : decode cX2_ways 5 = .ok (.astore_n 3, 1) := by decide +kernel
theorem dX2_ways_6 : decode cX2_ways 6 = .ok (.aload_n 0, 1) := by decide +kernel
theorem dX2_ways_7 : decode cX2_ways 7 = .ok (.iload_n 2, 1) := by decide +kernel
theorem dX2_ways_8 : decode cX2_ways 8 = .ok (.invokevirtual 38, 3) := by decide +kernel
theorem dX2_ways_11 : decode cX2_ways 11 = .ok (.astore 4, 2) := by decide +kernel
theorem dX2_ways_13 : decode cX2_ways 13 = .ok (.aload_n 3, 1) := by decide +kernel
theorem dX2_ways_14 : decode cX2_ways 14 = .ok (.ifnull 8, 3) := by decide +kernel
theorem dX2_ways_17 : decode cX2_ways 17 = .ok (.aload 4, 2) := by decide +kernel
theorem dX2_ways_19 : decode cX2_ways 19 = .ok (.ifnonnull 5, 3) := by decide +kernel
theorem dX2_ways_22 : decode cX2_ways 22 = .ok (.iconst (-1), 1) := by decide +kernel
theorem dX2_ways_23 : decode cX2_ways 23 = .ok (.ireturn, 1) := by decide +kernel
theorem dX2_ways_24 : decode cX2_ways 24 = .ok (.aload_n 3, 1) := by decide +kernel
theorem dX2_ways_25 : decode cX2_ways 25 = .ok (.invokevirtual 99, 3) := by decide +kernel
theorem dX2_ways_28 : decode cX2_ways 28 = .ok (.aload 4, 2) := by decide +kernel
theorem dX2_ways_30 : decode cX2_ways 30 = .ok (.invokevirtual 99, 3) := by decide +kernel
theorem dX2_ways_33 : decode cX2_ways 33 = .ok (.if_icmp .ne 11, 3) := by decide +kernel
theorem dX2_ways_36 : decode cX2_ways 36 = .ok (.aload_n 3, 1) := by decide +kernel
theorem dX2_ways_37 : decode cX2_ways 37 = .ok (.invokevirtual 99, 3) := by decide +kernel
theorem dX2_ways_40 : decode cX2_ways 40 = .ok (.iconst 3, 1) := by decide +kernel
theorem dX2_ways_41 : decode cX2_ways 41 = .ok (.if_icmp .le 6, 3) := by decide +kernel
theorem dX2_ways_44 : decode cX2_ways 44 = .ok (.bipush (-3), 2) := by decide +kernel
theorem dX2_ways_46 : decode cX2_ways 46 = .ok (.ireturn, 1) := by decide +kernel
theorem dX2_ways_47 : decode cX2_ways 47 = .ok (.aload_n 3, 1) := by decide +kernel
theorem dX2_ways_48 : decode cX2_ways 48 = .ok (.invokevirtual 77, 3) := by decide +kernel
theorem dX2_ways_51 : decode cX2_ways 51 = .ok (.ifCond .eq 11, 3) := by decide +kernel
theorem dX2_ways_54 : decode cX2_ways 54 = .ok (.aload 4, 2) := by decide +kernel
theorem dX2_ways_56 : decode cX2_ways 56 = .ok (.invokevirtual 77, 3) := by decide +kernel
theorem dX2_ways_59 : decode cX2_ways 59 = .ok (.ifCond .ne 6, 3) := by decide +kernel
theorem dX2_ways_62 : decode cX2_ways 62 = .ok (.bipush (-3), 2) := by decide +kernel
theorem dX2_ways_64 : decode cX2_ways 64 = .ok (.ireturn, 1) := by decide +kernel
theorem dX2_ways_65 : decode cX2_ways 65 = .ok (.aload_n 0, 1) := by decide +kernel
theorem dX2_ways_66 : decode cX2_ways 66 = .ok (.aload_n 3, 1) := by decide +kernel
theorem dX2_ways_67 : decode cX2_ways 67 = .ok (.aload 4, 2) := by decide +kernel
theorem dX2_ways_69 : decode cX2_ways 69 = .ok (.invokevirtual 142, 3) := by decide +kernel
theorem dX2_ways_72 : decode cX2_ways 72 = .ok (.ireturn, 1) := by decide +kernel
set_option maxRecDepth 20000 in
theorem ggX2_on_X2_worldIn : GoodIn wsX2_on wsX2_worldIn := goodIn_r _ [5, 6, 48, 49, 50, 51, 52, 53, 54] (by decide +kernel) (by decide +kernel)
set_option maxRecDepth 20000 in
theorem gX2_on_X2_worldIn : GoodIn wsX2_on (wsV RX2 38 RX2 yX2_worldIn wsX2_worldIn) := goodIn_app (goodIn_of _ (by decide +kernel)) ggX2_on_X2_worldIn
set_option maxRecDepth 20000 in
theorem ggX2_on_X0_has : GoodIn wsX2_on wsX0_has := goodIn_r _ [10, 11, 12, 9, 13, 14, 15, 16, 17, 18, 19, 20, 21, 22, 55, 56, 57, 58] (by decide +kernel) (by decide +kernel)
set_option maxRecDepth 20000 in
theorem gX2_on_X0_has : GoodIn wsX2_on (va_wsS RX2 146 yX0_has wsX0_has) := goodIn_app (goodIn_of _ (by decide +kernel)) ggX2_on_X0_has
set_option maxRecDepth 20000 in
theorem ggX2_on_X0_lies : GoodIn wsX2_on wsX0_lies := goodIn_r _ [25, 14, 15, 9, 16, 17, 18, 19, 20, 21, 22, 11, 12, 13, 26, 27, 28, 29, 30, 31, 32, 33, 34, 35, 36, 37, 38, 39, 40, 41, 42, 43, 44, 55, 56, 57, 58] (by decide +kernel) (by decide +kernel)
set_option maxRecDepth 20000 in
theorem gX2_on_X0_lies : GoodIn wsX2_on (va_wsS RX2 151 yX0_lies wsX0_lies) := goodIn_app (goodIn_of _ (by decide +kernel)) ggX2_on_X0_lies
set_option maxRecDepth 20000 in
theorem ggX2_on_X2_oneIf : GoodIn wsX2_on wsX2_oneIf := goodIn_r _ [47] (by decide +kernel) (by decide +kernel)
set_option maxRecDepth 20000 in
theorem gX2_on_X2_oneIf : GoodIn wsX2_on (va_wsS RX2 81 yX2_oneIf wsX2_oneIf) := goodIn_app (goodIn_of _ (by decide +kernel)) ggX2_on_X2_oneIf
theorem dX2_on_0 : decode cX2_on 0 = .ok (.aload_n 0, 1) := by decide +kernel
theorem dX2_on_1 : decode cX2_on 1 = .ok (.iload_n 1, 1) := by decide +kernel
theorem dX2_on_2 : decode cX2_on 2 = .ok (.invokevirtual 38, 3) := by decide +kernel
theorem dX2_on_5 : decode cX2_on 5 = .ok (.astore 4, 2) := by decide +kernel
theorem dX2_on_7 : decode cX2_on 7 = .ok (.aload 4, 2) := by decide +kernel
theorem dX2_on_9 : decode cX2_on 9 = .ok (.ifnull 21, 3) := by decide +kernel
theorem dX2_on_12 : decode cX2_on 12 = .ok (.aload 4, 2) := by decide +kernel
theorem dX2_on_14 : decode cX2_on 14 = .ok (.iload_n 2, 1) := by decide +kernel
theorem dX2_on_15 : decode cX2_on 15 = .ok (.invokestatic 146, 3) := by decide +kernel
theorem dX2_on_18 : decode cX2_on 18 = .ok (.ifCond .eq 12, 3) := by decide +kernel
theorem dX2_on_21 : decode cX2_on 21 = .ok (.aload 4, 2) := by decide +kernel
theorem dX2_on_23 : decode cX2_on 23 = .ok (.iload_n 3, 1) := by decide +kernel
theorem dX2_on_24 : decode cX2_on 24 = .ok (.invokestatic 146, 3) := by decide +kernel
theorem dX2_on_27 : decode cX2_on 27 = .ok (.ifCond .ne 5, 3) := by decide +kernel
theorem dX2_on_30 : decode cX2_on 30 = .ok (.iconst (-1), 1) := by decide +kernel
theorem dX2_on_31 : decode cX2_on 31 = .ok (.ireturn, 1) := by decide +kernel
theorem dX2_on_32 : decode cX2_on 32 = .ok (.aload 4, 2) := by decide +kernel
theorem dX2_on_34 : decode cX2_on 34 = .ok (.iload_n 2, 1) := by decide +kernel
theorem dX2_on_35 : decode cX2_on 35 = .ok (.iload_n 3, 1) := by decide +kernel
theorem dX2_on_36 : decode cX2_on 36 = .ok (.invokestatic 151, 3) := by decide +kernel
theorem dX2_on_39 : decode cX2_on 39 = .ok (.invokestatic 81, 3) := by decide +kernel
theorem dX2_on_42 : decode cX2_on 42 = .ok (.ireturn, 1) := by decide +kernel
set_option maxRecDepth 20000 in
theorem ggX2_join_X2_worldIn : GoodIn wsX2_join wsX2_worldIn := goodIn_r _ [12, 13, 57, 58, 59, 60, 61, 62, 63] (by decide +kernel) (by decide +kernel)
set_option maxRecDepth 20000 in
theorem gX2_join_X2_worldIn : GoodIn wsX2_join (wsV RX2 38 RX2 yX2_worldIn wsX2_worldIn) := goodIn_app (goodIn_of _ (by decide +kernel)) ggX2_join_X2_worldIn
set_option maxRecDepth 20000 in
theorem ggX2_join_X0_has : GoodIn wsX2_join wsX0_has := goodIn_r _ [17, 18, 19, 16, 20, 21, 22, 23, 24, 25, 26, 27, 28, 29, 64, 65, 66, 67] (by decide +kernel) (by decide +kernel)
set_option maxRecDepth 20000 in
theorem gX2_join_X0_has : GoodIn wsX2_join (va_wsS RX2 146 yX0_has wsX0_has) := goodIn_app (goodIn_of _ (by decide +kernel)) ggX2_join_X0_has
set_option maxRecDepth 20000 in
theorem ggX2_join_X0_lineThrough : GoodIn wsX2_join wsX0_lineThrough := goodIn_r _ [32, 21, 22, 16, 23, 24, 25, 26, 27, 28, 29, 18, 19, 20, 33, 34, 35, 36, 37, 38, 39, 40, 41, 42, 43, 44, 45, 46, 47, 48, 49, 50, 51, 52, 53, 54, 55, 56, 64, 65, 66, 67] (by decide +kernel) (by decide +kernel)
set_option maxRecDepth 20000 in
theorem gX2_join_X0_lineThrough : GoodIn wsX2_join (va_wsS RX2 163 yX0_lineThrough wsX0_lineThrough) := goodIn_app (goodIn_of _ (by decide +kernel)) ggX2_join_X0_lineThrough
theorem dX2_join_0 : decode cX2_join 0 = .ok (.aload_n 0, 1) := by decide +kernel
theorem dX2_join_1 : decode cX2_join 1 = .ok (.iload_n 1, 1) := by decide +kernel
theorem dX2_join_2 : decode cX2_join 2 = .ok (.invokevirtual 38, 3) := by decide +kernel
theorem dX2_join_5 : decode cX2_join 5 = .ok (.astore 4, 2) := by decide +kernel
theorem dX2_join_7 : decode cX2_join 7 = .ok (.aload 4, 2) := by decide +kernel
theorem dX2_join_9 : decode cX2_join 9 = .ok (.ifnull 21, 3) := by decide +kernel
theorem dX2_join_12 : decode cX2_join 12 = .ok (.aload 4, 2) := by decide +kernel
theorem dX2_join_14 : decode cX2_join 14 = .ok (.iload_n 2, 1) := by decide +kernel
theorem dX2_join_15 : decode cX2_join 15 = .ok (.invokestatic 146, 3) := by decide +kernel
theorem dX2_join_18 : decode cX2_join 18 = .ok (.ifCond .eq 12, 3) := by decide +kernel
theorem dX2_join_21 : decode cX2_join 21 = .ok (.aload 4, 2) := by decide +kernel
theorem dX2_join_23 : decode cX2_join 23 = .ok (.iload_n 3, 1) := by decide +kernel
theorem dX2_join_24 : decode cX2_join 24 = .ok (.invokestatic 146, 3) := by decide +kernel
theorem dX2_join_27 : decode cX2_join 27 = .ok (.ifCond .ne 5, 3) := by decide +kernel
theorem dX2_join_30 : decode cX2_join 30 = .ok (.iconst (-1), 1) := by decide +kernel
theorem dX2_join_31 : decode cX2_join 31 = .ok (.ireturn, 1) := by decide +kernel
theorem dX2_join_32 : decode cX2_join 32 = .ok (.iload_n 2, 1) := by decide +kernel
theorem dX2_join_33 : decode cX2_join 33 = .ok (.iload_n 3, 1) := by decide +kernel
theorem dX2_join_34 : decode cX2_join 34 = .ok (.if_icmp .ne 6, 3) := by decide +kernel
theorem dX2_join_37 : decode cX2_join 37 = .ok (.bipush (-3), 2) := by decide +kernel
theorem dX2_join_39 : decode cX2_join 39 = .ok (.ireturn, 1) := by decide +kernel
theorem dX2_join_40 : decode cX2_join 40 = .ok (.aload 4, 2) := by decide +kernel
theorem dX2_join_42 : decode cX2_join 42 = .ok (.iload_n 2, 1) := by decide +kernel
theorem dX2_join_43 : decode cX2_join 43 = .ok (.iload_n 3, 1) := by decide +kernel
theorem dX2_join_44 : decode cX2_join 44 = .ok (.invokestatic 155, 3) := by decide +kernel
theorem dX2_join_47 : decode cX2_join 47 = .ok (.iload_n 2, 1) := by decide +kernel
theorem dX2_join_48 : decode cX2_join 48 = .ok (.iload_n 3, 1) := by decide +kernel
theorem dX2_join_49 : decode cX2_join 49 = .ok (.invokestatic 160, 3) := by decide +kernel
theorem dX2_join_52 : decode cX2_join 52 = .ok (.invokestatic 163, 3) := by decide +kernel
theorem dX2_join_55 : decode cX2_join 55 = .ok (.ireturn, 1) := by decide +kernel
set_option maxRecDepth 20000 in
theorem ggX2_meet_X2_worldIn : GoodIn wsX2_meet wsX2_worldIn := goodIn_r _ [12, 13, 57, 58, 59, 60, 61, 62, 63] (by decide +kernel) (by decide +kernel)
set_option maxRecDepth 20000 in
theorem gX2_meet_X2_worldIn : GoodIn wsX2_meet (wsV RX2 38 RX2 yX2_worldIn wsX2_worldIn) := goodIn_app (goodIn_of _ (by decide +kernel)) ggX2_meet_X2_worldIn
set_option maxRecDepth 20000 in
theorem ggX2_meet_X0_has : GoodIn wsX2_meet wsX0_has := goodIn_r _ [17, 18, 19, 16, 20, 21, 22, 23, 24, 25, 26, 27, 28, 29, 64, 65, 66, 67] (by decide +kernel) (by decide +kernel)
set_option maxRecDepth 20000 in
theorem gX2_meet_X0_has : GoodIn wsX2_meet (va_wsS RX2 146 yX0_has wsX0_has) := goodIn_app (goodIn_of _ (by decide +kernel)) ggX2_meet_X0_has
set_option maxRecDepth 20000 in
theorem ggX2_meet_X0_pointOfBoth : GoodIn wsX2_meet wsX0_pointOfBoth := goodIn_r _ [32, 21, 22, 16, 23, 24, 25, 26, 27, 28, 29, 18, 19, 20, 33, 34, 35, 36, 37, 38, 39, 40, 41, 42, 43, 44, 45, 46, 47, 48, 49, 50, 51, 52, 53, 54, 55, 56, 64, 65, 66, 67] (by decide +kernel) (by decide +kernel)
set_option maxRecDepth 20000 in
theorem gX2_meet_X0_pointOfBoth : GoodIn wsX2_meet (va_wsS RX2 167 yX0_pointOfBoth wsX0_pointOfBoth) := goodIn_app (goodIn_of _ (by decide +kernel)) ggX2_meet_X0_pointOfBoth
theorem dX2_meet_0 : decode cX2_meet 0 = .ok (.aload_n 0, 1) := by decide +kernel
theorem dX2_meet_1 : decode cX2_meet 1 = .ok (.iload_n 1, 1) := by decide +kernel
theorem dX2_meet_2 : decode cX2_meet 2 = .ok (.invokevirtual 38, 3) := by decide +kernel
theorem dX2_meet_5 : decode cX2_meet 5 = .ok (.astore 4, 2) := by decide +kernel
theorem dX2_meet_7 : decode cX2_meet 7 = .ok (.aload 4, 2) := by decide +kernel
theorem dX2_meet_9 : decode cX2_meet 9 = .ok (.ifnull 21, 3) := by decide +kernel
theorem dX2_meet_12 : decode cX2_meet 12 = .ok (.aload 4, 2) := by decide +kernel
theorem dX2_meet_14 : decode cX2_meet 14 = .ok (.iload_n 2, 1) := by decide +kernel
theorem dX2_meet_15 : decode cX2_meet 15 = .ok (.invokestatic 146, 3) := by decide +kernel
theorem dX2_meet_18 : decode cX2_meet 18 = .ok (.ifCond .eq 12, 3) := by decide +kernel
theorem dX2_meet_21 : decode cX2_meet 21 = .ok (.aload 4, 2) := by decide +kernel
theorem dX2_meet_23 : decode cX2_meet 23 = .ok (.iload_n 3, 1) := by decide +kernel
theorem dX2_meet_24 : decode cX2_meet 24 = .ok (.invokestatic 146, 3) := by decide +kernel
theorem dX2_meet_27 : decode cX2_meet 27 = .ok (.ifCond .ne 5, 3) := by decide +kernel
theorem dX2_meet_30 : decode cX2_meet 30 = .ok (.iconst (-1), 1) := by decide +kernel
theorem dX2_meet_31 : decode cX2_meet 31 = .ok (.ireturn, 1) := by decide +kernel
theorem dX2_meet_32 : decode cX2_meet 32 = .ok (.iload_n 2, 1) := by decide +kernel
theorem dX2_meet_33 : decode cX2_meet 33 = .ok (.iload_n 3, 1) := by decide +kernel
theorem dX2_meet_34 : decode cX2_meet 34 = .ok (.if_icmp .ne 6, 3) := by decide +kernel
theorem dX2_meet_37 : decode cX2_meet 37 = .ok (.bipush (-3), 2) := by decide +kernel
theorem dX2_meet_39 : decode cX2_meet 39 = .ok (.ireturn, 1) := by decide +kernel
theorem dX2_meet_40 : decode cX2_meet 40 = .ok (.aload 4, 2) := by decide +kernel
theorem dX2_meet_42 : decode cX2_meet 42 = .ok (.iload_n 2, 1) := by decide +kernel
theorem dX2_meet_43 : decode cX2_meet 43 = .ok (.iload_n 3, 1) := by decide +kernel
theorem dX2_meet_44 : decode cX2_meet 44 = .ok (.invokestatic 155, 3) := by decide +kernel
theorem dX2_meet_47 : decode cX2_meet 47 = .ok (.iload_n 2, 1) := by decide +kernel
theorem dX2_meet_48 : decode cX2_meet 48 = .ok (.iload_n 3, 1) := by decide +kernel
theorem dX2_meet_49 : decode cX2_meet 49 = .ok (.invokestatic 160, 3) := by decide +kernel
theorem dX2_meet_52 : decode cX2_meet 52 = .ok (.invokestatic 167, 3) := by decide +kernel
theorem dX2_meet_55 : decode cX2_meet 55 = .ok (.ireturn, 1) := by decide +kernel
set_option maxRecDepth 20000 in
theorem ggX2_bad_X2_worldIn : GoodIn wsX2_bad wsX2_worldIn := goodIn_r _ [5, 6, 32, 33, 34, 35, 36, 37, 38] (by decide +kernel) (by decide +kernel)
set_option maxRecDepth 20000 in
theorem gX2_bad_X2_worldIn : GoodIn wsX2_bad (wsV RX2 38 RX2 yX2_worldIn wsX2_worldIn) := goodIn_app (goodIn_of _ (by decide +kernel)) ggX2_bad_X2_worldIn
set_option maxRecDepth 20000 in
theorem ggX2_bad_X0_countBadPairs : GoodIn wsX2_bad wsX0_countBadPairs := goodIn_r _ [10, 11, 12, 13, 14, 15, 16, 17, 18, 19, 20, 21, 22, 23, 24, 25, 26, 27, 28, 29, 30, 9, 31, 39, 40, 41, 42] (by decide +kernel) (by decide +kernel)
set_option maxRecDepth 20000 in
theorem gX2_bad_X0_countBadPairs : GoodIn wsX2_bad (va_wsS RX2 170 yX0_countBadPairs wsX0_countBadPairs) := goodIn_app (goodIn_of _ (by decide +kernel)) ggX2_bad_X0_countBadPairs
theorem dX2_bad_0 : decode cX2_bad 0 = .ok (.aload_n 0, 1) := by decide +kernel
theorem dX2_bad_1 : decode cX2_bad 1 = .ok (.iload_n 1, 1) := by decide +kernel
theorem dX2_bad_2 : decode cX2_bad 2 = .ok (.invokevirtual 38, 3) := by decide +kernel
theorem dX2_bad_5 : decode cX2_bad 5 = .ok (.astore_n 2, 1) := by decide +kernel
theorem dX2_bad_6 : decode cX2_bad 6 = .ok (.aload_n 2, 1) := by decide +kernel
theorem dX2_bad_7 : decode cX2_bad 7 = .ok (.ifnonnull 5, 3) := by decide +kernel
theorem dX2_bad_10 : decode cX2_bad 10 = .ok (.iconst (-1), 1) := by decide +kernel
theorem dX2_bad_11 : decode cX2_bad 11 = .ok (.ireturn, 1) := by decide +kernel
theorem dX2_bad_12 : decode cX2_bad 12 = .ok (.aload_n 2, 1) := by decide +kernel
theorem dX2_bad_13 : decode cX2_bad 13 = .ok (.invokestatic 170, 3) := by decide +kernel
theorem dX2_bad_16 : decode cX2_bad 16 = .ok (.ireturn, 1) := by decide +kernel
set_option maxRecDepth 20000 in
theorem ggX2_rank_X2_worldIn : GoodIn wsX2_rank wsX2_worldIn := goodIn_r _ [5, 6, 33, 34, 35, 36, 37, 38, 39] (by decide +kernel) (by decide +kernel)
set_option maxRecDepth 20000 in
theorem gX2_rank_X2_worldIn : GoodIn wsX2_rank (wsV RX2 38 RX2 yX2_worldIn wsX2_worldIn) := goodIn_app (goodIn_of _ (by decide +kernel)) ggX2_rank_X2_worldIn
set_option maxRecDepth 20000 in
theorem ggX2_rank_X1_has : GoodIn wsX2_rank wsX1_has := goodIn_r _ [11, 12, 40, 41, 42, 43] (by decide +kernel) (by decide +kernel)
set_option maxRecDepth 20000 in
theorem gX2_rank_X1_has : GoodIn wsX2_rank (wsV RX2 58 RX1 yX1_has wsX1_has) := goodIn_app (goodIn_of _ (by decide +kernel)) ggX2_rank_X1_has
set_option maxRecDepth 20000 in
theorem ggX2_rank_X1_rankOf : GoodIn wsX2_rank wsX1_rankOf := goodIn_r _ [16, 12, 17, 18, 19, 20, 10, 21, 22, 23, 24, 25, 26, 27, 28, 29, 30, 31, 32, 40, 41, 42, 43] (by decide +kernel) (by decide +kernel)
set_option maxRecDepth 20000 in
theorem gX2_rank_X1_rankOf : GoodIn wsX2_rank (wsV RX2 174 RX1 yX1_rankOf wsX1_rankOf) := goodIn_app (goodIn_of _ (by decide +kernel)) ggX2_rank_X1_rankOf
theorem dX2_rank_0 : decode cX2_rank 0 = .ok (.aload_n 0, 1) := by decide +kernel
theorem dX2_rank_1 : decode cX2_rank 1 = .ok (.iload_n 1, 1) := by decide +kernel
theorem dX2_rank_2 : decode cX2_rank 2 = .ok (.invokevirtual 38, 3) := by decide +kernel
theorem dX2_rank_5 : decode cX2_rank 5 = .ok (.astore_n 3, 1) := by decide +kernel
theorem dX2_rank_6 : decode cX2_rank 6 = .ok (.aload_n 3, 1) := by decide +kernel
theorem dX2_rank_7 : decode cX2_rank 7 = .ok (.ifnull 11, 3) := by decide +kernel
theorem dX2_rank_10 : decode cX2_rank 10 = .ok (.aload_n 3, 1) := by decide +kernel
theorem dX2_rank_11 : decode cX2_rank 11 = .ok (.iload_n 2, 1) := by decide +kernel
theorem dX2_rank_12 : decode cX2_rank 12 = .ok (.invokevirtual 58, 3) := by decide +kernel
theorem dX2_rank_15 : decode cX2_rank 15 = .ok (.ifCond .ne 5, 3) := by decide +kernel
theorem dX2_rank_18 : decode cX2_rank 18 = .ok (.iconst (-1), 1) := by decide +kernel
theorem dX2_rank_19 : decode cX2_rank 19 = .ok (.ireturn, 1) := by decide +kernel
theorem dX2_rank_20 : decode cX2_rank 20 = .ok (.aload_n 3, 1) := by decide +kernel
theorem dX2_rank_21 : decode cX2_rank 21 = .ok (.iload_n 2, 1) := by decide +kernel
theorem dX2_rank_22 : decode cX2_rank 22 = .ok (.invokevirtual 174, 3) := by decide +kernel
theorem dX2_rank_25 : decode cX2_rank 25 = .ok (.ireturn, 1) := by decide +kernel
set_option maxRecDepth 20000 in
theorem ggX2_ranks_X2_worldIn : GoodIn wsX2_ranks wsX2_worldIn := goodIn_r _ [5, 6, 33, 34, 35, 36, 37, 38, 39] (by decide +kernel) (by decide +kernel)
set_option maxRecDepth 20000 in
theorem gX2_ranks_X2_worldIn : GoodIn wsX2_ranks (wsV RX2 38 RX2 yX2_worldIn wsX2_worldIn) := goodIn_app (goodIn_of _ (by decide +kernel)) ggX2_ranks_X2_worldIn
set_option maxRecDepth 20000 in
theorem ggX2_ranks_X1_size : GoodIn wsX2_ranks wsX1_size := goodIn_r _ [11, 12, 40, 41, 42, 43] (by decide +kernel) (by decide +kernel)
set_option maxRecDepth 20000 in
theorem gX2_ranks_X1_size : GoodIn wsX2_ranks (wsV RX2 54 RX1 yX1_size wsX1_size) := goodIn_app (goodIn_of _ (by decide +kernel)) ggX2_ranks_X1_size
set_option maxRecDepth 20000 in
theorem ggX2_ranks_X1_rankOf : GoodIn wsX2_ranks wsX1_rankOf := goodIn_r _ [16, 12, 17, 18, 19, 20, 10, 21, 22, 23, 24, 25, 26, 27, 28, 29, 30, 31, 32, 40, 41, 42, 43] (by decide +kernel) (by decide +kernel)
set_option maxRecDepth 20000 in
theorem gX2_ranks_X1_rankOf : GoodIn wsX2_ranks (wsV RX2 174 RX1 yX1_rankOf wsX1_rankOf) := goodIn_app (goodIn_of _ (by decide +kernel)) ggX2_ranks_X1_rankOf
theorem dX2_ranks_0 : decode cX2_ranks 0 = .ok (.aload_n 0, 1) := by decide +kernel
theorem dX2_ranks_1 : decode cX2_ranks 1 = .ok (.iload_n 1, 1) := by decide +kernel
theorem dX2_ranks_2 : decode cX2_ranks 2 = .ok (.invokevirtual 38, 3) := by decide +kernel
theorem dX2_ranks_5 : decode cX2_ranks 5 = .ok (.astore_n 3, 1) := by decide +kernel
theorem dX2_ranks_6 : decode cX2_ranks 6 = .ok (.aload_n 3, 1) := by decide +kernel
theorem dX2_ranks_7 : decode cX2_ranks 7 = .ok (.ifnonnull 5, 3) := by decide +kernel
theorem dX2_ranks_10 : decode cX2_ranks 10 = .ok (.iconst (-1), 1) := by decide +kernel
theorem dX2_ranks_11 : decode cX2_ranks 11 = .ok (.ireturn, 1) := by decide +kernel
theorem dX2_ranks_12 : decode cX2_ranks 12 = .ok (.iload_n 2, 1) := by decide +kernel
theorem dX2_ranks_13 : decode cX2_ranks 13 = .ok (.ifCond .lt 8, 3) := by decide +kernel
theorem dX2_ranks_16 : decode cX2_ranks 16 = .ok (.iload_n 2, 1) := by decide +kernel
theorem dX2_ranks_17 : decode cX2_ranks 17 = .ok (.iconst 4, 1) := by decide +kernel
theorem dX2_ranks_18 : decode cX2_ranks 18 = .ok (.if_icmp .le 6, 3) := by decide +kernel
theorem dX2_ranks_21 : decode cX2_ranks 21 = .ok (.bipush (-2), 2) := by decide +kernel
theorem dX2_ranks_23 : decode cX2_ranks 23 = .ok (.ireturn, 1) := by decide +kernel
theorem dX2_ranks_24 : decode cX2_ranks 24 = .ok (.iconst 0, 1) := by decide +kernel
theorem dX2_ranks_25 : decode cX2_ranks 25 = .ok (.istore 4, 2) := by decide +kernel
theorem dX2_ranks_27 : decode cX2_ranks 27 = .ok (.iconst 0, 1) := by decide +kernel
theorem dX2_ranks_28 : decode cX2_ranks 28 = .ok (.istore 5, 2) := by decide +kernel
theorem dX2_ranks_30 : decode cX2_ranks 30 = .ok (.iload 5, 2) := by decide +kernel
theorem dX2_ranks_32 : decode cX2_ranks 32 = .ok (.aload_n 3, 1) := by decide +kernel
theorem dX2_ranks_33 : decode cX2_ranks 33 = .ok (.invokevirtual 54, 3) := by decide +kernel
theorem dX2_ranks_36 : decode cX2_ranks 36 = .ok (.if_icmp .ge 22, 3) := by decide +kernel
theorem dX2_ranks_39 : decode cX2_ranks 39 = .ok (.aload_n 3, 1) := by decide +kernel
theorem dX2_ranks_40 : decode cX2_ranks 40 = .ok (.iload 5, 2) := by decide +kernel
theorem dX2_ranks_42 : decode cX2_ranks 42 = .ok (.invokevirtual 174, 3) := by decide +kernel
theorem dX2_ranks_45 : decode cX2_ranks 45 = .ok (.iload_n 2, 1) := by decide +kernel
theorem dX2_ranks_46 : decode cX2_ranks 46 = .ok (.if_icmp .ne 6, 3) := by decide +kernel
theorem dX2_ranks_49 : decode cX2_ranks 49 = .ok (.iinc 4 1, 3) := by decide +kernel
theorem dX2_ranks_52 : decode cX2_ranks 52 = .ok (.iinc 5 1, 3) := by decide +kernel
theorem dX2_ranks_55 : decode cX2_ranks 55 = .ok (.goto (-25), 3) := by decide +kernel
theorem dX2_ranks_58 : decode cX2_ranks 58 = .ok (.iload 4, 2) := by decide +kernel
theorem dX2_ranks_60 : decode cX2_ranks 60 = .ok (.ireturn, 1) := by decide +kernel
set_option maxRecDepth 20000 in
theorem ggX2_cubes_X2_readCells : GoodIn wsX2_cubes wsX2_readCells := goodIn_r _ [7, 2, 8, 9, 6, 10, 51, 52, 53, 54, 55, 56, 57] (by decide +kernel) (by decide +kernel)
set_option maxRecDepth 20000 in
theorem gX2_cubes_X2_readCells : GoodIn wsX2_cubes (wsV RX2 177 RX2 yX2_readCells wsX2_readCells) := goodIn_app (goodIn_of _ (by decide +kernel)) ggX2_cubes_X2_readCells
set_option maxRecDepth 20000 in
theorem ggX2_cubes_X1_take : GoodIn wsX2_cubes wsX1_take := goodIn_r _ [15, 16, 17, 18, 19, 20, 21, 14, 22, 23, 24, 25, 26, 27, 28, 29, 30, 31, 32, 33, 34, 9, 6, 10, 58, 59, 60, 61] (by decide +kernel) (by decide +kernel)
set_option maxRecDepth 20000 in
theorem gX2_cubes_X1_take : GoodIn wsX2_cubes (wsV RX2 50 RX1 yX1_take wsX1_take) := goodIn_app (goodIn_of _ (by decide +kernel)) ggX2_cubes_X1_take
set_option maxRecDepth 20000 in
theorem ggX2_cubes_X1_isWhole : GoodIn wsX2_cubes wsX1_isWhole := goodIn_r _ [38, 39, 40, 41, 14, 42, 17, 43, 44, 45, 46, 47, 48, 49, 50, 23, 24, 25, 26, 58, 59, 60, 61] (by decide +kernel) (by decide +kernel)
set_option maxRecDepth 20000 in
theorem gX2_cubes_X1_isWhole : GoodIn wsX2_cubes (wsV RX2 77 RX1 yX1_isWhole wsX1_isWhole) := goodIn_app (goodIn_of _ (by decide +kernel)) ggX2_cubes_X1_isWhole
theorem dX2_cubes_0 : decode cX2_cubes 0 = .ok (.iload_n 1, 1) := by decide +kernel
theorem dX2_cubes_1 : decode cX2_cubes 1 = .ok (.iconst 1, 1) := by decide +kernel
theorem dX2_cubes_2 : decode cX2_cubes 2 = .ok (.if_icmp .lt 8, 3) := by decide +kernel
theorem dX2_cubes_5 : decode cX2_cubes 5 = .ok (.iload_n 1, 1) := by decide +kernel
theorem dX2_cubes_6 : decode cX2_cubes 6 = .ok (.iconst 2, 1) := by decide +kernel
theorem dX2_cubes_7 : decode cX2_cubes 7 = .ok (.if_icmp .le 6, 3) := by decide +kernel
theorem dX2_cubes_10 : decode cX2_cubes 10 = .ok (.bipush (-2), 2) := by decide +kernel
theorem dX2_cubes_12 : decode cX2_cubes 12 = .ok (.ireturn, 1) := by decide +kernel
theorem dX2_cubes_13 : decode cX2_cubes 13 = .ok (.iload_n 1, 1) := by decide +kernel
theorem dX2_cubes_14 : decode cX2_cubes 14 = .ok (.iload_n 1, 1) := by decide +kernel
theorem dX2_cubes_15 : decode cX2_cubes 15 = .ok (.imul, 1) := by decide +kernel
theorem dX2_cubes_16 : decode cX2_cubes 16 = .ok (.iload_n 1, 1) := by decide +kernel
theorem dX2_cubes_17 : decode cX2_cubes 17 = .ok (.imul, 1) := by decide +kernel
theorem dX2_cubes_18 : decode cX2_cubes 18 = .ok (.istore_n 2, 1) := by decide +kernel
theorem dX2_cubes_19 : decode cX2_cubes 19 = .ok (.iconst 0, 1) := by decide +kernel
theorem dX2_cubes_20 : decode cX2_cubes 20 = .ok (.istore_n 3, 1) := by decide +kernel
theorem dX2_cubes_21 : decode cX2_cubes 21 = .ok (.iconst 0, 1) := by decide +kernel
theorem dX2_cubes_22 : decode cX2_cubes 22 = .ok (.istore 4, 2) := by decide +kernel
theorem dX2_cubes_24 : decode cX2_cubes 24 = .ok (.iload 4, 2) := by decide +kernel
theorem dX2_cubes_26 : decode cX2_cubes 26 = .ok (.iconst 1, 1) := by decide +kernel
theorem dX2_cubes_27 : decode cX2_cubes 27 = .ok (.iload_n 2, 1) := by decide +kernel
theorem dX2_cubes_28 : decode cX2_cubes 28 = .ok (.ishl, 1) := by decide +kernel
theorem dX2_cubes_29 : decode cX2_cubes 29 = .ok (.if_icmp .ge 41, 3) := by decide +kernel
theorem dX2_cubes_32 : decode cX2_cubes 32 = .ok (.aload_n 0, 1) := by decide +kernel
theorem dX2_cubes_33 : decode cX2_cubes 33 = .ok (.iload 4, 2) := by decide +kernel
theorem dX2_cubes_35 : decode cX2_cubes 35 = .ok (.iload_n 1, 1) := by decide +kernel
theorem dX2_cubes_36 : decode cX2_cubes 36 = .ok (.invokevirtual 177, 3) := by decide +kernel
theorem dX2_cubes_39 : decode cX2_cubes 39 = .ok (.aload_n 0, 1) := by decide +kernel
theorem dX2_cubes_40 : decode cX2_cubes 40 = .ok (.getfield 21, 3) := by decide +kernel
theorem dX2_cubes_43 : decode cX2_cubes 43 = .ok (.iload_n 1, 1) := by decide +kernel
theorem dX2_cubes_44 : decode cX2_cubes 44 = .ok (.aload_n 0, 1) := by decide +kernel
theorem dX2_cubes_45 : decode cX2_cubes 45 = .ok (.getfield 25, 3) := by decide +kernel
theorem dX2_cubes_48 : decode cX2_cubes 48 = .ok (.invokevirtual 50, 3) := by decide +kernel
theorem dX2_cubes_51 : decode cX2_cubes 51 = .ok (.aload_n 0, 1) := by decide +kernel
theorem dX2_cubes_52 : decode cX2_cubes 52 = .ok (.getfield 21, 3) := by decide +kernel
theorem dX2_cubes_55 : decode cX2_cubes 55 = .ok (.invokevirtual 77, 3) := by decide +kernel
theorem dX2_cubes_58 : decode cX2_cubes 58 = .ok (.ifCond .eq 6, 3) := by decide +kernel
theorem dX2_cubes_61 : decode cX2_cubes 61 = .ok (.iinc 3 1, 3) := by decide +kernel
theorem dX2_cubes_64 : decode cX2_cubes 64 = .ok (.iinc 4 1, 3) := by decide +kernel
theorem dX2_cubes_67 : decode cX2_cubes 67 = .ok (.goto (-43), 3) := by decide +kernel
theorem dX2_cubes_70 : decode cX2_cubes 70 = .ok (.iload_n 3, 1) := by decide +kernel
theorem dX2_cubes_71 : decode cX2_cubes 71 = .ok (.ireturn, 1) := by decide +kernel
theorem dX2_worldIn_0 : decode cX2_worldIn 0 = .ok (.iload_n 1, 1) := by decide +kernel
theorem dX2_worldIn_1 : decode cX2_worldIn 1 = .ok (.ifCond .lt 21, 3) := by decide +kernel
theorem dX2_worldIn_4 : decode cX2_worldIn 4 = .ok (.iload_n 1, 1) := by decide +kernel
theorem dX2_worldIn_5 : decode cX2_worldIn 5 = .ok (.aload_n 0, 1) := by decide +kernel
theorem dX2_worldIn_6 : decode cX2_worldIn 6 = .ok (.getfield 11, 3) := by decide +kernel
theorem dX2_worldIn_9 : decode cX2_worldIn 9 = .ok (.arraylength, 1) := by decide +kernel
theorem dX2_worldIn_10 : decode cX2_worldIn 10 = .ok (.if_icmp .ge 12, 3) := by decide +kernel
theorem dX2_worldIn_13 : decode cX2_worldIn 13 = .ok (.aload_n 0, 1) := by decide +kernel
theorem dX2_worldIn_14 : decode cX2_worldIn 14 = .ok (.getfield 11, 3) := by decide +kernel
theorem dX2_worldIn_17 : decode cX2_worldIn 17 = .ok (.iload_n 1, 1) := by decide +kernel
theorem dX2_worldIn_18 : decode cX2_worldIn 18 = .ok (.aaload, 1) := by decide +kernel
theorem dX2_worldIn_19 : decode cX2_worldIn 19 = .ok (.goto 4, 3) := by decide +kernel
theorem dX2_worldIn_22 : decode cX2_worldIn 22 = .ok (.aconst_null, 1) := by decide +kernel
theorem dX2_worldIn_23 : decode cX2_worldIn 23 = .ok (.areturn, 1) := by decide +kernel
theorem dX2_mapAt_0 : decode cX2_mapAt 0 = .ok (.iload_n 1, 1) := by decide +kernel
theorem dX2_mapAt_1 : decode cX2_mapAt 1 = .ok (.ifCond .lt 21, 3) := by decide +kernel
theorem dX2_mapAt_4 : decode cX2_mapAt 4 = .ok (.iload_n 1, 1) := by decide +kernel
theorem dX2_mapAt_5 : decode cX2_mapAt 5 = .ok (.aload_n 0, 1) := by decide +kernel
theorem dX2_mapAt_6 : decode cX2_mapAt 6 = .ok (.getfield 17, 3) := by decide +kernel
theorem dX2_mapAt_9 : decode cX2_mapAt 9 = .ok (.arraylength, 1) := by decide +kernel
theorem dX2_mapAt_10 : decode cX2_mapAt 10 = .ok (.if_icmp .ge 12, 3) := by decide +kernel
theorem dX2_mapAt_13 : decode cX2_mapAt 13 = .ok (.aload_n 0, 1) := by decide +kernel
theorem dX2_mapAt_14 : decode cX2_mapAt 14 = .ok (.getfield 17, 3) := by decide +kernel
theorem dX2_mapAt_17 : decode cX2_mapAt 17 = .ok (.iload_n 1, 1) := by decide +kernel
theorem dX2_mapAt_18 : decode cX2_mapAt 18 = .ok (.aaload, 1) := by decide +kernel
theorem dX2_mapAt_19 : decode cX2_mapAt 19 = .ok (.goto 4, 3) := by decide +kernel
theorem dX2_mapAt_22 : decode cX2_mapAt 22 = .ok (.aconst_null, 1) := by decide +kernel
theorem dX2_mapAt_23 : decode cX2_mapAt 23 = .ok (.areturn, 1) := by decide +kernel
theorem dX2_isSomeN_0 : decode cX2_isSomeN 0 = .ok (.iload_n 0, 1) := by decide +kernel
theorem dX2_isSomeN_1 : decode cX2_isSomeN 1 = .ok (.iconst 1, 1) := by decide +kernel
theorem dX2_isSomeN_2 : decode cX2_isSomeN 2 = .ok (.if_icmp .lt 12, 3) := by decide +kernel
theorem dX2_isSomeN_5 : decode cX2_isSomeN 5 = .ok (.iload_n 0, 1) := by decide +kernel
theorem dX2_isSomeN_6 : decode cX2_isSomeN 6 = .ok (.iconst 4, 1) := by decide +kernel
theorem dX2_isSomeN_7 : decode cX2_isSomeN 7 = .ok (.if_icmp .gt 7, 3) := by decide +kernel
theorem dX2_isSomeN_10 : decode cX2_isSomeN 10 = .ok (.iconst 1, 1) := by decide +kernel
theorem dX2_isSomeN_11 : decode cX2_isSomeN 11 = .ok (.goto 4, 3) := by decide +kernel
theorem dX2_isSomeN_14 : decode cX2_isSomeN 14 = .ok (.iconst 0, 1) := by decide +kernel
theorem dX2_isSomeN_15 : decode cX2_isSomeN 15 = .ok (.ireturn, 1) := by decide +kernel
theorem dX2_isSomeWay_0 : decode cX2_isSomeWay 0 = .ok (.iload_n 0, 1) := by decide +kernel
theorem dX2_isSomeWay_1 : decode cX2_isSomeWay 1 = .ok (.ifCond .lt 12, 3) := by decide +kernel
theorem dX2_isSomeWay_4 : decode cX2_isSomeWay 4 = .ok (.iload_n 0, 1) := by decide +kernel
theorem dX2_isSomeWay_5 : decode cX2_isSomeWay 5 = .ok (.iconst 3, 1) := by decide +kernel
theorem dX2_isSomeWay_6 : decode cX2_isSomeWay 6 = .ok (.if_icmp .gt 7, 3) := by decide +kernel
theorem dX2_isSomeWay_9 : decode cX2_isSomeWay 9 = .ok (.iconst 1, 1) := by decide +kernel
theorem dX2_isSomeWay_10 : decode cX2_isSomeWay 10 = .ok (.goto 4, 3) := by decide +kernel
theorem dX2_isSomeWay_13 : decode cX2_isSomeWay 13 = .ok (.iconst 0, 1) := by decide +kernel
theorem dX2_isSomeWay_14 : decode cX2_isSomeWay 14 = .ok (.ireturn, 1) := by decide +kernel
theorem dX2_isMapNumber_0 : decode cX2_isMapNumber 0 = .ok (.iload_n 0, 1) := by decide +kernel
theorem dX2_isMapNumber_1 : decode cX2_isMapNumber 1 = .ok (.ifCond .lt 13, 3) := by decide +kernel
theorem dX2_isMapNumber_4 : decode cX2_isMapNumber 4 = .ok (.iload_n 0, 1) := by decide +kernel
theorem dX2_isMapNumber_5 : decode cX2_isMapNumber 5 = .ok (.bipush 16, 2) := by decide +kernel
theorem dX2_isMapNumber_7 : decode cX2_isMapNumber 7 = .ok (.if_icmp .ge 7, 3) := by decide +kernel
theorem dX2_isMapNumber_10 : decode cX2_isMapNumber 10 = .ok (.iconst 1, 1) := by decide +kernel
theorem dX2_isMapNumber_11 : decode cX2_isMapNumber 11 = .ok (.goto 4, 3) := by decide +kernel
theorem dX2_isMapNumber_14 : decode cX2_isMapNumber 14 = .ok (.iconst 0, 1) := by decide +kernel
theorem dX2_isMapNumber_15 : decode cX2_isMapNumber 15 = .ok (.ireturn, 1) := by decide +kernel
theorem dX2_oneIf_0 : decode cX2_oneIf 0 = .ok (.iload_n 0, 1) := by decide +kernel
theorem dX2_oneIf_1 : decode cX2_oneIf 1 = .ok (.ifCond .eq 7, 3) := by decide +kernel
theorem dX2_oneIf_4 : decode cX2_oneIf 4 = .ok (.iconst 1, 1) := by decide +kernel
theorem dX2_oneIf_5 : decode cX2_oneIf 5 = .ok (.goto 4, 3) := by decide +kernel
theorem dX2_oneIf_8 : decode cX2_oneIf 8 = .ok (.iconst 0, 1) := by decide +kernel
theorem dX2_oneIf_9 : decode cX2_oneIf 9 = .ok (.ireturn, 1) := by decide +kernel
theorem dX2_cellIndex_0 : decode cX2_cellIndex 0 = .ok (.iload_n 0, 1) := by decide +kernel
theorem dX2_cellIndex_1 : decode cX2_cellIndex 1 = .ok (.iconst 3, 1) := by decide +kernel
theorem dX2_cellIndex_2 : decode cX2_cellIndex 2 = .ok (.iand, 1) := by decide +kernel
theorem dX2_cellIndex_3 : decode cX2_cellIndex 3 = .ok (.iconst 2, 1) := by decide +kernel
theorem dX2_cellIndex_4 : decode cX2_cellIndex 4 = .ok (.ishl, 1) := by decide +kernel
theorem dX2_cellIndex_5 : decode cX2_cellIndex 5 = .ok (.iload_n 1, 1) := by decide +kernel
theorem dX2_cellIndex_6 : decode cX2_cellIndex 6 = .ok (.iconst 3, 1) := by decide +kernel
theorem dX2_cellIndex_7 : decode cX2_cellIndex 7 = .ok (.iand, 1) := by decide +kernel
theorem dX2_cellIndex_8 : decode cX2_cellIndex 8 = .ok (.ior, 1) := by decide +kernel
theorem dX2_cellIndex_9 : decode cX2_cellIndex 9 = .ok (.ireturn, 1) := by decide +kernel
theorem dX2_reduced_0 : decode cX2_reduced 0 = .ok (.iload_n 1, 1) := by decide +kernel
theorem dX2_reduced_1 : decode cX2_reduced 1 = .ok (.ifCond .lt 19, 3) := by decide +kernel
theorem dX2_reduced_4 : decode cX2_reduced 4 = .ok (.iload_n 1, 1) := by decide +kernel
theorem dX2_reduced_5 : decode cX2_reduced 5 = .ok (.getstatic 181, 3) := by decide +kernel
theorem dX2_reduced_8 : decode cX2_reduced 8 = .ok (.arraylength, 1) := by decide +kernel
theorem dX2_reduced_9 : decode cX2_reduced 9 = .ok (.if_icmp .ge 11, 3) := by decide +kernel
theorem dX2_reduced_12 : decode cX2_reduced 12 = .ok (.getstatic 181, 3) := by decide +kernel
theorem dX2_reduced_15 : decode cX2_reduced 15 = .ok (.iload_n 1, 1) := by decide +kernel
theorem dX2_reduced_16 : decode cX2_reduced 16 = .ok (.iaload, 1) := by decide +kernel
theorem dX2_reduced_17 : decode cX2_reduced 17 = .ok (.goto 4, 3) := by decide +kernel
theorem dX2_reduced_20 : decode cX2_reduced 20 = .ok (.iconst 0, 1) := by decide +kernel
theorem dX2_reduced_21 : decode cX2_reduced 21 = .ok (.istore_n 2, 1) := by decide +kernel
theorem dX2_reduced_22 : decode cX2_reduced 22 = .ok (.iload_n 0, 1) := by decide +kernel
theorem dX2_reduced_23 : decode cX2_reduced 23 = .ok (.istore_n 3, 1) := by decide +kernel
theorem dX2_reduced_24 : decode cX2_reduced 24 = .ok (.iconst 2, 1) := by decide +kernel
theorem dX2_reduced_25 : decode cX2_reduced 25 = .ok (.iload_n 1, 1) := by decide +kernel
theorem dX2_reduced_26 : decode cX2_reduced 26 = .ok (.imul, 1) := by decide +kernel
theorem dX2_reduced_27 : decode cX2_reduced 27 = .ok (.iconst 2, 1) := by decide +kernel
theorem dX2_reduced_28 : decode cX2_reduced 28 = .ok (.isub, 1) := by decide +kernel
theorem dX2_reduced_29 : decode cX2_reduced 29 = .ok (.istore 4, 2) := by decide +kernel
theorem dX2_reduced_31 : decode cX2_reduced 31 = .ok (.iload 4, 2) := by decide +kernel
theorem dX2_reduced_33 : decode cX2_reduced 33 = .ok (.iload_n 1, 1) := by decide +kernel
theorem dX2_reduced_34 : decode cX2_reduced 34 = .ok (.if_icmp .lt 28, 3) := by decide +kernel
theorem dX2_reduced_37 : decode cX2_reduced 37 = .ok (.iload_n 3, 1) := by decide +kernel
theorem dX2_reduced_38 : decode cX2_reduced 38 = .ok (.iload 4, 2) := by decide +kernel
theorem dX2_reduced_40 : decode cX2_reduced 40 = .ok (.ishr, 1) := by decide +kernel
theorem dX2_reduced_41 : decode cX2_reduced 41 = .ok (.iconst 1, 1) := by decide +kernel
theorem dX2_reduced_42 : decode cX2_reduced 42 = .ok (.iand, 1) := by decide +kernel
theorem dX2_reduced_43 : decode cX2_reduced 43 = .ok (.iconst 1, 1) := by decide +kernel
theorem dX2_reduced_44 : decode cX2_reduced 44 = .ok (.if_icmp .ne 12, 3) := by decide +kernel
theorem dX2_reduced_47 : decode cX2_reduced 47 = .ok (.iload_n 3, 1) := by decide +kernel
theorem dX2_reduced_48 : decode cX2_reduced 48 = .ok (.iload_n 2, 1) := by decide +kernel
theorem dX2_reduced_49 : decode cX2_reduced 49 = .ok (.iload 4, 2) := by decide +kernel
theorem dX2_reduced_51 : decode cX2_reduced 51 = .ok (.iload_n 1, 1) := by decide +kernel
theorem dX2_reduced_52 : decode cX2_reduced 52 = .ok (.isub, 1) := by decide +kernel
theorem dX2_reduced_53 : decode cX2_reduced 53 = .ok (.ishl, 1) := by decide +kernel
theorem dX2_reduced_54 : decode cX2_reduced 54 = .ok (.ixor, 1) := by decide +kernel
theorem dX2_reduced_55 : decode cX2_reduced 55 = .ok (.istore_n 3, 1) := by decide +kernel
theorem dX2_reduced_56 : decode cX2_reduced 56 = .ok (.iinc 4 (-1), 3) := by decide +kernel
theorem dX2_reduced_59 : decode cX2_reduced 59 = .ok (.goto (-28), 3) := by decide +kernel
theorem dX2_reduced_62 : decode cX2_reduced 62 = .ok (.iload_n 3, 1) := by decide +kernel
theorem dX2_reduced_63 : decode cX2_reduced 63 = .ok (.ireturn, 1) := by decide +kernel
set_option maxRecDepth 20000 in
theorem ggX2_turnedCell_X1_bits : GoodIn wsX2_turnedCell wsX1_bits := goodIn_r _ [5, 6, 22, 23, 24, 25] (by decide +kernel) (by decide +kernel)
set_option maxRecDepth 20000 in
theorem gX2_turnedCell_X1_bits : GoodIn wsX2_turnedCell (wsV RX2 99 RX1 yX1_bits wsX1_bits) := goodIn_app (goodIn_of _ (by decide +kernel)) ggX2_turnedCell_X1_bits
set_option maxRecDepth 20000 in
theorem ggX2_turnedCell_X2_turnedBit : GoodIn wsX2_turnedCell wsX2_turnedBit := goodIn_r _ [10, 11, 12, 13, 4, 14, 15, 16, 17, 18, 19, 20, 9, 21, 22, 23, 24, 25] (by decide +kernel) (by decide +kernel)
set_option maxRecDepth 20000 in
theorem gX2_turnedCell_X2_turnedBit : GoodIn wsX2_turnedCell (va_wsS RX2 184 yX2_turnedBit wsX2_turnedBit) := goodIn_app (goodIn_of _ (by decide +kernel)) ggX2_turnedCell_X2_turnedBit
theorem dX2_turnedCell_0 : decode cX2_turnedCell 0 = .ok (.iconst 0, 1) := by decide +kernel
theorem dX2_turnedCell_1 : decode cX2_turnedCell 1 = .ok (.istore 4, 2) := by decide +kernel
theorem dX2_turnedCell_3 : decode cX2_turnedCell 3 = .ok (.iconst 0, 1) := by decide +kernel
theorem dX2_turnedCell_4 : decode cX2_turnedCell 4 = .ok (.istore 5, 2) := by decide +kernel
theorem dX2_turnedCell_6 : decode cX2_turnedCell 6 = .ok (.iload 5, 2) := by decide +kernel
theorem dX2_turnedCell_8 : decode cX2_turnedCell 8 = .ok (.aload_n 0, 1) := by decide +kernel
theorem dX2_turnedCell_9 : decode cX2_turnedCell 9 = .ok (.invokevirtual 99, 3) := by decide +kernel
theorem dX2_turnedCell_12 : decode cX2_turnedCell 12 = .ok (.if_icmp .ge 26, 3) := by decide +kernel
theorem dX2_turnedCell_15 : decode cX2_turnedCell 15 = .ok (.iload 4, 2) := by decide +kernel
theorem dX2_turnedCell_17 : decode cX2_turnedCell 17 = .ok (.aload_n 0, 1) := by decide +kernel
theorem dX2_turnedCell_18 : decode cX2_turnedCell 18 = .ok (.iload_n 1, 1) := by decide +kernel
theorem dX2_turnedCell_19 : decode cX2_turnedCell 19 = .ok (.iload_n 2, 1) := by decide +kernel
theorem dX2_turnedCell_20 : decode cX2_turnedCell 20 = .ok (.iload 5, 2) := by decide +kernel
theorem dX2_turnedCell_22 : decode cX2_turnedCell 22 = .ok (.iload_n 3, 1) := by decide +kernel
theorem dX2_turnedCell_23 : decode cX2_turnedCell 23 = .ok (.invokestatic 184, 3) := by decide +kernel
theorem dX2_turnedCell_26 : decode cX2_turnedCell 26 = .ok (.iload 5, 2) := by decide +kernel
theorem dX2_turnedCell_28 : decode cX2_turnedCell 28 = .ok (.ishl, 1) := by decide +kernel
theorem dX2_turnedCell_29 : decode cX2_turnedCell 29 = .ok (.ior, 1) := by decide +kernel
theorem dX2_turnedCell_30 : decode cX2_turnedCell 30 = .ok (.istore 4, 2) := by decide +kernel
theorem dX2_turnedCell_32 : decode cX2_turnedCell 32 = .ok (.iinc 5 1, 3) := by decide +kernel
theorem dX2_turnedCell_35 : decode cX2_turnedCell 35 = .ok (.goto (-29), 3) := by decide +kernel
theorem dX2_turnedCell_38 : decode cX2_turnedCell 38 = .ok (.iload 4, 2) := by decide +kernel
theorem dX2_turnedCell_40 : decode cX2_turnedCell 40 = .ok (.ireturn, 1) := by decide +kernel
set_option maxRecDepth 20000 in
theorem ggX2_turnedBit_X1_cubeBit : GoodIn wsX2_turnedBit wsX1_cubeBit := goodIn_r _ [5, 6, 7, 8, 4, 9, 10, 11, 12, 13, 14, 15, 16, 17] (by decide +kernel) (by decide +kernel)
set_option maxRecDepth 20000 in
theorem gX2_turnedBit_X1_cubeBit : GoodIn wsX2_turnedBit (wsV RX2 188 RX1 yX1_cubeBit wsX1_cubeBit) := goodIn_app (goodIn_of _ (by decide +kernel)) ggX2_turnedBit_X1_cubeBit
theorem dX2_turnedBit_0 : decode cX2_turnedBit 0 = .ok (.iload 4, 2) := by decide +kernel
theorem dX2_turnedBit_2 : decode cX2_turnedBit 2 = .ok (.tableswitch 74 1 5 #[34, 42, 50, 58, 66], 34) := by decide +kernel
theorem dX2_turnedBit_36 : decode cX2_turnedBit 36 = .ok (.aload_n 0, 1) := by decide +kernel
theorem dX2_turnedBit_37 : decode cX2_turnedBit 37 = .ok (.iload_n 1, 1) := by decide +kernel
theorem dX2_turnedBit_38 : decode cX2_turnedBit 38 = .ok (.iload_n 3, 1) := by decide +kernel
theorem dX2_turnedBit_39 : decode cX2_turnedBit 39 = .ok (.iload_n 2, 1) := by decide +kernel
theorem dX2_turnedBit_40 : decode cX2_turnedBit 40 = .ok (.invokevirtual 188, 3) := by decide +kernel
theorem dX2_turnedBit_43 : decode cX2_turnedBit 43 = .ok (.ireturn, 1) := by decide +kernel
theorem dX2_turnedBit_44 : decode cX2_turnedBit 44 = .ok (.aload_n 0, 1) := by decide +kernel
theorem dX2_turnedBit_45 : decode cX2_turnedBit 45 = .ok (.iload_n 2, 1) := by decide +kernel
theorem dX2_turnedBit_46 : decode cX2_turnedBit 46 = .ok (.iload_n 1, 1) := by decide +kernel
theorem dX2_turnedBit_47 : decode cX2_turnedBit 47 = .ok (.iload_n 3, 1) := by decide +kernel
theorem dX2_turnedBit_48 : decode cX2_turnedBit 48 = .ok (.invokevirtual 188, 3) := by decide +kernel
theorem dX2_turnedBit_51 : decode cX2_turnedBit 51 = .ok (.ireturn, 1) := by decide +kernel
theorem dX2_turnedBit_52 : decode cX2_turnedBit 52 = .ok (.aload_n 0, 1) := by decide +kernel
theorem dX2_turnedBit_53 : decode cX2_turnedBit 53 = .ok (.iload_n 2, 1) := by decide +kernel
theorem dX2_turnedBit_54 : decode cX2_turnedBit 54 = .ok (.iload_n 3, 1) := by decide +kernel
theorem dX2_turnedBit_55 : decode cX2_turnedBit 55 = .ok (.iload_n 1, 1) := by decide +kernel
theorem dX2_turnedBit_56 : decode cX2_turnedBit 56 = .ok (.invokevirtual 188, 3) := by decide +kernel
theorem dX2_turnedBit_59 : decode cX2_turnedBit 59 = .ok (.ireturn, 1) := by decide +kernel
theorem dX2_turnedBit_60 : decode cX2_turnedBit 60 = .ok (.aload_n 0, 1) := by decide +kernel
theorem dX2_turnedBit_61 : decode cX2_turnedBit 61 = .ok (.iload_n 3, 1) := by decide +kernel
theorem dX2_turnedBit_62 : decode cX2_turnedBit 62 = .ok (.iload_n 1, 1) := by decide +kernel
theorem dX2_turnedBit_63 : decode cX2_turnedBit 63 = .ok (.iload_n 2, 1) := by decide +kernel
theorem dX2_turnedBit_64 : decode cX2_turnedBit 64 = .ok (.invokevirtual 188, 3) := by decide +kernel
theorem dX2_turnedBit_67 : decode cX2_turnedBit 67 = .ok (.ireturn, 1) := by decide +kernel
theorem dX2_turnedBit_68 : decode cX2_turnedBit 68 = .ok (.aload_n 0, 1) := by decide +kernel
theorem dX2_turnedBit_69 : decode cX2_turnedBit 69 = .ok (.iload_n 3, 1) := by decide +kernel
theorem dX2_turnedBit_70 : decode cX2_turnedBit 70 = .ok (.iload_n 2, 1) := by decide +kernel
theorem dX2_turnedBit_71 : decode cX2_turnedBit 71 = .ok (.iload_n 1, 1) := by decide +kernel
theorem dX2_turnedBit_72 : decode cX2_turnedBit 72 = .ok (.invokevirtual 188, 3) := by decide +kernel
theorem dX2_turnedBit_75 : decode cX2_turnedBit 75 = .ok (.ireturn, 1) := by decide +kernel
theorem dX2_turnedBit_76 : decode cX2_turnedBit 76 = .ok (.aload_n 0, 1) := by decide +kernel
theorem dX2_turnedBit_77 : decode cX2_turnedBit 77 = .ok (.iload_n 1, 1) := by decide +kernel
theorem dX2_turnedBit_78 : decode cX2_turnedBit 78 = .ok (.iload_n 2, 1) := by decide +kernel
theorem dX2_turnedBit_79 : decode cX2_turnedBit 79 = .ok (.iload_n 3, 1) := by decide +kernel
theorem dX2_turnedBit_80 : decode cX2_turnedBit 80 = .ok (.invokevirtual 188, 3) := by decide +kernel
theorem dX2_turnedBit_83 : decode cX2_turnedBit 83 = .ok (.ireturn, 1) := by decide +kernel
set_option maxRecDepth 20000 in
theorem ggX2_readCells_X2_cellIndex : GoodIn wsX2_readCells wsX2_cellIndex := goodIn_r _ [5] (by decide +kernel) (by decide +kernel)
set_option maxRecDepth 20000 in
theorem gX2_readCells_X2_cellIndex : GoodIn wsX2_readCells (va_wsS RX2 46 yX2_cellIndex wsX2_cellIndex) := goodIn_app (goodIn_of _ (by decide +kernel)) ggX2_readCells_X2_cellIndex
theorem dX2_readCells_0 : decode cX2_readCells 0 = .ok (.iload_n 1, 1) := by decide +kernel
theorem dX2_readCells_1 : decode cX2_readCells 1 = .ok (.istore_n 3, 1) := by decide +kernel
theorem dX2_readCells_2 : decode cX2_readCells 2 = .ok (.iconst 0, 1) := by decide +kernel
theorem dX2_readCells_3 : decode cX2_readCells 3 = .ok (.istore 4, 2) := by decide +kernel
theorem dX2_readCells_5 : decode cX2_readCells 5 = .ok (.iload 4, 2) := by decide +kernel
theorem dX2_readCells_7 : decode cX2_readCells 7 = .ok (.iload_n 2, 1) := by decide +kernel
theorem dX2_readCells_8 : decode cX2_readCells 8 = .ok (.if_icmp .ge 47, 3) := by decide +kernel
theorem dX2_readCells_11 : decode cX2_readCells 11 = .ok (.iconst 0, 1) := by decide +kernel
theorem dX2_readCells_12 : decode cX2_readCells 12 = .ok (.istore 5, 2) := by decide +kernel
theorem dX2_readCells_14 : decode cX2_readCells 14 = .ok (.iload 5, 2) := by decide +kernel
theorem dX2_readCells_16 : decode cX2_readCells 16 = .ok (.iload_n 2, 1) := by decide +kernel
theorem dX2_readCells_17 : decode cX2_readCells 17 = .ok (.if_icmp .ge 32, 3) := by decide +kernel
theorem dX2_readCells_20 : decode cX2_readCells 20 = .ok (.aload_n 0, 1) := by decide +kernel
theorem dX2_readCells_21 : decode cX2_readCells 21 = .ok (.getfield 25, 3) := by decide +kernel
theorem dX2_readCells_24 : decode cX2_readCells 24 = .ok (.iload 4, 2) := by decide +kernel
theorem dX2_readCells_26 : decode cX2_readCells 26 = .ok (.iload 5, 2) := by decide +kernel
theorem dX2_readCells_28 : decode cX2_readCells 28 = .ok (.invokestatic 46, 3) := by decide +kernel
theorem dX2_readCells_31 : decode cX2_readCells 31 = .ok (.iload_n 3, 1) := by decide +kernel
theorem dX2_readCells_32 : decode cX2_readCells 32 = .ok (.iconst 1, 1) := by decide +kernel
theorem dX2_readCells_33 : decode cX2_readCells 33 = .ok (.iload_n 2, 1) := by decide +kernel
theorem dX2_readCells_34 : decode cX2_readCells 34 = .ok (.ishl, 1) := by decide +kernel
theorem dX2_readCells_35 : decode cX2_readCells 35 = .ok (.iconst 1, 1) := by decide +kernel
theorem dX2_readCells_36 : decode cX2_readCells 36 = .ok (.isub, 1) := by decide +kernel
theorem dX2_readCells_37 : decode cX2_readCells 37 = .ok (.iand, 1) := by decide +kernel
theorem dX2_readCells_38 : decode cX2_readCells 38 = .ok (.iastore, 1) := by decide +kernel
theorem dX2_readCells_39 : decode cX2_readCells 39 = .ok (.iload_n 3, 1) := by decide +kernel
theorem dX2_readCells_40 : decode cX2_readCells 40 = .ok (.iload_n 2, 1) := by decide +kernel
theorem dX2_readCells_41 : decode cX2_readCells 41 = .ok (.ishr, 1) := by decide +kernel
theorem dX2_readCells_42 : decode cX2_readCells 42 = .ok (.istore_n 3, 1) := by decide +kernel
theorem dX2_readCells_43 : decode cX2_readCells 43 = .ok (.iinc 5 1, 3) := by decide +kernel
theorem dX2_readCells_46 : decode cX2_readCells 46 = .ok (.goto (-32), 3) := by decide +kernel
theorem dX2_readCells_49 : decode cX2_readCells 49 = .ok (.iinc 4 1, 3) := by decide +kernel
theorem dX2_readCells_52 : decode cX2_readCells 52 = .ok (.goto (-47), 3) := by decide +kernel
theorem dX2_readCells_55 : decode cX2_readCells 55 = .ok (.return_, 1) := by decide +kernel
theorem dX2_sumOf_0 : decode cX2_sumOf 0 = .ok (.iconst 0, 1) := by decide +kernel
theorem dX2_sumOf_1 : decode cX2_sumOf 1 = .ok (.istore_n 2, 1) := by decide +kernel
theorem dX2_sumOf_2 : decode cX2_sumOf 2 = .ok (.iconst 0, 1) := by decide +kernel
theorem dX2_sumOf_3 : decode cX2_sumOf 3 = .ok (.istore_n 3, 1) := by decide +kernel
theorem dX2_sumOf_4 : decode cX2_sumOf 4 = .ok (.iload_n 3, 1) := by decide +kernel
theorem dX2_sumOf_5 : decode cX2_sumOf 5 = .ok (.aload_n 0, 1) := by decide +kernel
theorem dX2_sumOf_6 : decode cX2_sumOf 6 = .ok (.arraylength, 1) := by decide +kernel
theorem dX2_sumOf_7 : decode cX2_sumOf 7 = .ok (.if_icmp .ge 24, 3) := by decide +kernel
theorem dX2_sumOf_10 : decode cX2_sumOf 10 = .ok (.iload_n 1, 1) := by decide +kernel
theorem dX2_sumOf_11 : decode cX2_sumOf 11 = .ok (.iload_n 3, 1) := by decide +kernel
theorem dX2_sumOf_12 : decode cX2_sumOf 12 = .ok (.ishr, 1) := by decide +kernel
theorem dX2_sumOf_13 : decode cX2_sumOf 13 = .ok (.iconst 1, 1) := by decide +kernel
theorem dX2_sumOf_14 : decode cX2_sumOf 14 = .ok (.iand, 1) := by decide +kernel
theorem dX2_sumOf_15 : decode cX2_sumOf 15 = .ok (.iconst 1, 1) := by decide +kernel
theorem dX2_sumOf_16 : decode cX2_sumOf 16 = .ok (.if_icmp .ne 9, 3) := by decide +kernel
theorem dX2_sumOf_19 : decode cX2_sumOf 19 = .ok (.iload_n 2, 1) := by decide +kernel
theorem dX2_sumOf_20 : decode cX2_sumOf 20 = .ok (.aload_n 0, 1) := by decide +kernel
theorem dX2_sumOf_21 : decode cX2_sumOf 21 = .ok (.iload_n 3, 1) := by decide +kernel
theorem dX2_sumOf_22 : decode cX2_sumOf 22 = .ok (.iaload, 1) := by decide +kernel
theorem dX2_sumOf_23 : decode cX2_sumOf 23 = .ok (.ixor, 1) := by decide +kernel
theorem dX2_sumOf_24 : decode cX2_sumOf 24 = .ok (.istore_n 2, 1) := by decide +kernel
theorem dX2_sumOf_25 : decode cX2_sumOf 25 = .ok (.iinc 3 1, 3) := by decide +kernel
theorem dX2_sumOf_28 : decode cX2_sumOf 28 = .ok (.goto (-24), 3) := by decide +kernel
theorem dX2_sumOf_31 : decode cX2_sumOf 31 = .ok (.iload_n 2, 1) := by decide +kernel
theorem dX2_sumOf_32 : decode cX2_sumOf 32 = .ok (.ireturn, 1) := by decide +kernel
set_option maxRecDepth 20000 in
theorem ggX2_isFit_X2_sumOf : GoodIn wsX2_isFit wsX2_sumOf := goodIn_r _ [4] (by decide +kernel) (by decide +kernel)
set_option maxRecDepth 20000 in
theorem gX2_isFit_X2_sumOf : GoodIn wsX2_isFit (va_wsS RX2 123 yX2_sumOf wsX2_sumOf) := goodIn_app (goodIn_of _ (by decide +kernel)) ggX2_isFit_X2_sumOf
theorem dX2_isFit_0 : decode cX2_isFit 0 = .ok (.iconst 1, 1) := by decide +kernel
theorem dX2_isFit_1 : decode cX2_isFit 1 = .ok (.iload_n 1, 1) := by decide +kernel
theorem dX2_isFit_2 : decode cX2_isFit 2 = .ok (.ishl, 1) := by decide +kernel
theorem dX2_isFit_3 : decode cX2_isFit 3 = .ok (.istore_n 2, 1) := by decide +kernel
theorem dX2_isFit_4 : decode cX2_isFit 4 = .ok (.iconst 0, 1) := by decide +kernel
theorem dX2_isFit_5 : decode cX2_isFit 5 = .ok (.istore_n 3, 1) := by decide +kernel
theorem dX2_isFit_6 : decode cX2_isFit 6 = .ok (.iconst 0, 1) := by decide +kernel
theorem dX2_isFit_7 : decode cX2_isFit 7 = .ok (.istore 4, 2) := by decide +kernel
theorem dX2_isFit_9 : decode cX2_isFit 9 = .ok (.iload 4, 2) := by decide +kernel
theorem dX2_isFit_11 : decode cX2_isFit 11 = .ok (.iload_n 2, 1) := by decide +kernel
theorem dX2_isFit_12 : decode cX2_isFit 12 = .ok (.if_icmp .ge 42, 3) := by decide +kernel
theorem dX2_isFit_15 : decode cX2_isFit 15 = .ok (.aload_n 0, 1) := by decide +kernel
theorem dX2_isFit_16 : decode cX2_isFit 16 = .ok (.iload 4, 2) := by decide +kernel
theorem dX2_isFit_18 : decode cX2_isFit 18 = .ok (.invokestatic 123, 3) := by decide +kernel
theorem dX2_isFit_21 : decode cX2_isFit 21 = .ok (.istore 5, 2) := by decide +kernel
theorem dX2_isFit_23 : decode cX2_isFit 23 = .ok (.iload 5, 2) := by decide +kernel
theorem dX2_isFit_25 : decode cX2_isFit 25 = .ok (.iload_n 2, 1) := by decide +kernel
theorem dX2_isFit_26 : decode cX2_isFit 26 = .ok (.if_icmp .ge 13, 3) := by decide +kernel
theorem dX2_isFit_29 : decode cX2_isFit 29 = .ok (.iload_n 3, 1) := by decide +kernel
theorem dX2_isFit_30 : decode cX2_isFit 30 = .ok (.iload 5, 2) := by decide +kernel
theorem dX2_isFit_32 : decode cX2_isFit 32 = .ok (.ishr, 1) := by decide +kernel
theorem dX2_isFit_33 : decode cX2_isFit 33 = .ok (.iconst 1, 1) := by decide +kernel
theorem dX2_isFit_34 : decode cX2_isFit 34 = .ok (.iand, 1) := by decide +kernel
theorem dX2_isFit_35 : decode cX2_isFit 35 = .ok (.iconst 1, 1) := by decide +kernel
theorem dX2_isFit_36 : decode cX2_isFit 36 = .ok (.if_icmp .ne 5, 3) := by decide +kernel
theorem dX2_isFit_39 : decode cX2_isFit 39 = .ok (.iconst 0, 1) := by decide +kernel
theorem dX2_isFit_40 : decode cX2_isFit 40 = .ok (.ireturn, 1) := by decide +kernel
theorem dX2_isFit_41 : decode cX2_isFit 41 = .ok (.iload_n 3, 1) := by decide +kernel
theorem dX2_isFit_42 : decode cX2_isFit 42 = .ok (.iconst 1, 1) := by decide +kernel
theorem dX2_isFit_43 : decode cX2_isFit 43 = .ok (.iload 5, 2) := by decide +kernel
theorem dX2_isFit_45 : decode cX2_isFit 45 = .ok (.ishl, 1) := by decide +kernel
theorem dX2_isFit_46 : decode cX2_isFit 46 = .ok (.ior, 1) := by decide +kernel
theorem dX2_isFit_47 : decode cX2_isFit 47 = .ok (.istore_n 3, 1) := by decide +kernel
theorem dX2_isFit_48 : decode cX2_isFit 48 = .ok (.iinc 4 1, 3) := by decide +kernel
theorem dX2_isFit_51 : decode cX2_isFit 51 = .ok (.goto (-42), 3) := by decide +kernel
theorem dX2_isFit_54 : decode cX2_isFit 54 = .ok (.iconst 1, 1) := by decide +kernel
theorem dX2_isFit_55 : decode cX2_isFit 55 = .ok (.ireturn, 1) := by decide +kernel
set_option maxRecDepth 20000 in
theorem ggX2_allMapsFit_X2_isFit : GoodIn wsX2_allMapsFit wsX2_isFit := goodIn_r _ [5, 6, 7, 4, 8] (by decide +kernel) (by decide +kernel)
set_option maxRecDepth 20000 in
theorem gX2_allMapsFit_X2_isFit : GoodIn wsX2_allMapsFit (va_wsS RX2 127 yX2_isFit wsX2_isFit) := goodIn_app (goodIn_of _ (by decide +kernel)) ggX2_allMapsFit_X2_isFit
theorem dX2_allMapsFit_0 : decode cX2_allMapsFit 0 = .ok (.iconst 0, 1) := by decide +kernel
theorem dX2_allMapsFit_1 : decode cX2_allMapsFit 1 = .ok (.istore_n 2, 1) := by decide +kernel
theorem dX2_allMapsFit_2 : decode cX2_allMapsFit 2 = .ok (.iload_n 2, 1) := by decide +kernel
theorem dX2_allMapsFit_3 : decode cX2_allMapsFit 3 = .ok (.aload_n 0, 1) := by decide +kernel
theorem dX2_allMapsFit_4 : decode cX2_allMapsFit 4 = .ok (.getfield 17, 3) := by decide +kernel
theorem dX2_allMapsFit_7 : decode cX2_allMapsFit 7 = .ok (.arraylength, 1) := by decide +kernel
theorem dX2_allMapsFit_8 : decode cX2_allMapsFit 8 = .ok (.if_icmp .ge 24, 3) := by decide +kernel
theorem dX2_allMapsFit_11 : decode cX2_allMapsFit 11 = .ok (.aload_n 0, 1) := by decide +kernel
theorem dX2_allMapsFit_12 : decode cX2_allMapsFit 12 = .ok (.getfield 17, 3) := by decide +kernel
theorem dX2_allMapsFit_15 : decode cX2_allMapsFit 15 = .ok (.iload_n 2, 1) := by decide +kernel
theorem dX2_allMapsFit_16 : decode cX2_allMapsFit 16 = .ok (.aaload, 1) := by decide +kernel
theorem dX2_allMapsFit_17 : decode cX2_allMapsFit 17 = .ok (.iload_n 1, 1) := by decide +kernel
theorem dX2_allMapsFit_18 : decode cX2_allMapsFit 18 = .ok (.invokestatic 127, 3) := by decide +kernel
theorem dX2_allMapsFit_21 : decode cX2_allMapsFit 21 = .ok (.ifCond .ne 5, 3) := by decide +kernel
theorem dX2_allMapsFit_24 : decode cX2_allMapsFit 24 = .ok (.iconst 0, 1) := by decide +kernel
theorem dX2_allMapsFit_25 : decode cX2_allMapsFit 25 = .ok (.ireturn, 1) := by decide +kernel
theorem dX2_allMapsFit_26 : decode cX2_allMapsFit 26 = .ok (.iinc 2 1, 3) := by decide +kernel
theorem dX2_allMapsFit_29 : decode cX2_allMapsFit 29 = .ok (.goto (-27), 3) := by decide +kernel
theorem dX2_allMapsFit_32 : decode cX2_allMapsFit 32 = .ok (.iconst 1, 1) := by decide +kernel
theorem dX2_allMapsFit_33 : decode cX2_allMapsFit 33 = .ok (.ireturn, 1) := by decide +kernel
set_option maxRecDepth 20000 in
theorem ggX2_sourceOf_X2_sumOf : GoodIn wsX2_sourceOf wsX2_sumOf := goodIn_r _ [4] (by decide +kernel) (by decide +kernel)
set_option maxRecDepth 20000 in
theorem gX2_sourceOf_X2_sumOf : GoodIn wsX2_sourceOf (va_wsS RX2 123 yX2_sumOf wsX2_sumOf) := goodIn_app (goodIn_of _ (by decide +kernel)) ggX2_sourceOf_X2_sumOf
theorem dX2_sourceOf_0 : decode cX2_sourceOf 0 = .ok (.iconst 0, 1) := by decide +kernel
theorem dX2_sourceOf_1 : decode cX2_sourceOf 1 = .ok (.istore_n 3, 1) := by decide +kernel
theorem dX2_sourceOf_2 : decode cX2_sourceOf 2 = .ok (.iload_n 3, 1) := by decide +kernel
theorem dX2_sourceOf_3 : decode cX2_sourceOf 3 = .ok (.iconst 1, 1) := by decide +kernel
theorem dX2_sourceOf_4 : decode cX2_sourceOf 4 = .ok (.iload_n 1, 1) := by decide +kernel
theorem dX2_sourceOf_5 : decode cX2_sourceOf 5 = .ok (.ishl, 1) := by decide +kernel
theorem dX2_sourceOf_6 : decode cX2_sourceOf 6 = .ok (.if_icmp .ge 20, 3) := by decide +kernel
theorem dX2_sourceOf_9 : decode cX2_sourceOf 9 = .ok (.aload_n 0, 1) := by decide +kernel
theorem dX2_sourceOf_10 : decode cX2_sourceOf 10 = .ok (.iload_n 3, 1) := by decide +kernel
theorem dX2_sourceOf_11 : decode cX2_sourceOf 11 = .ok (.invokestatic 123, 3) := by decide +kernel
theorem dX2_sourceOf_14 : decode cX2_sourceOf 14 = .ok (.iload_n 2, 1) := by decide +kernel
theorem dX2_sourceOf_15 : decode cX2_sourceOf 15 = .ok (.if_icmp .ne 5, 3) := by decide +kernel
theorem dX2_sourceOf_18 : decode cX2_sourceOf 18 = .ok (.iload_n 3, 1) := by decide +kernel
theorem dX2_sourceOf_19 : decode cX2_sourceOf 19 = .ok (.ireturn, 1) := by decide +kernel
theorem dX2_sourceOf_20 : decode cX2_sourceOf 20 = .ok (.iinc 3 1, 3) := by decide +kernel
theorem dX2_sourceOf_23 : decode cX2_sourceOf 23 = .ok (.goto (-21), 3) := by decide +kernel
theorem dX2_sourceOf_26 : decode cX2_sourceOf 26 = .ok (.iconst 0, 1) := by decide +kernel
theorem dX2_sourceOf_27 : decode cX2_sourceOf 27 = .ok (.ireturn, 1) := by decide +kernel
set_option maxRecDepth 20000 in
theorem ggX2_mapsCarry_X1_bits : GoodIn wsX2_mapsCarry wsX1_bits := goodIn_r _ [6, 7, 27, 28, 29, 30] (by decide +kernel) (by decide +kernel)
set_option maxRecDepth 20000 in
theorem gX2_mapsCarry_X1_bits : GoodIn wsX2_mapsCarry (wsV RX2 99 RX1 yX1_bits wsX1_bits) := goodIn_app (goodIn_of _ (by decide +kernel)) ggX2_mapsCarry_X1_bits
set_option maxRecDepth 20000 in
theorem ggX2_mapsCarry_X2_sumOf : GoodIn wsX2_mapsCarry wsX2_sumOf := goodIn_r _ [11] (by decide +kernel) (by decide +kernel)
set_option maxRecDepth 20000 in
theorem gX2_mapsCarry_X2_sumOf : GoodIn wsX2_mapsCarry (va_wsS RX2 123 yX2_sumOf wsX2_sumOf) := goodIn_app (goodIn_of _ (by decide +kernel)) ggX2_mapsCarry_X2_sumOf
set_option maxRecDepth 20000 in
theorem ggX2_mapsCarry_X1_times : GoodIn wsX2_mapsCarry wsX1_times := goodIn_r _ [15, 16, 17, 18, 5, 19, 27, 28, 29, 30] (by decide +kernel) (by decide +kernel)
set_option maxRecDepth 20000 in
theorem gX2_mapsCarry_X1_times : GoodIn wsX2_mapsCarry (wsV RX2 74 RX1 yX1_times wsX1_times) := goodIn_app (goodIn_of _ (by decide +kernel)) ggX2_mapsCarry_X1_times
theorem dX2_mapsCarry_0 : decode cX2_mapsCarry 0 = .ok (.iconst 0, 1) := by decide +kernel
theorem dX2_mapsCarry_1 : decode cX2_mapsCarry 1 = .ok (.istore_n 3, 1) := by decide +kernel
theorem dX2_mapsCarry_2 : decode cX2_mapsCarry 2 = .ok (.iload_n 3, 1) := by decide +kernel
theorem dX2_mapsCarry_3 : decode cX2_mapsCarry 3 = .ok (.aload_n 1, 1) := by decide +kernel
theorem dX2_mapsCarry_4 : decode cX2_mapsCarry 4 = .ok (.invokevirtual 99, 3) := by decide +kernel
theorem dX2_mapsCarry_7 : decode cX2_mapsCarry 7 = .ok (.if_icmp .ge 85, 3) := by decide +kernel
theorem dX2_mapsCarry_10 : decode cX2_mapsCarry 10 = .ok (.iconst 0, 1) := by decide +kernel
theorem dX2_mapsCarry_11 : decode cX2_mapsCarry 11 = .ok (.istore 4, 2) := by decide +kernel
theorem dX2_mapsCarry_13 : decode cX2_mapsCarry 13 = .ok (.iload 4, 2) := by decide +kernel
theorem dX2_mapsCarry_15 : decode cX2_mapsCarry 15 = .ok (.aload_n 1, 1) := by decide +kernel
theorem dX2_mapsCarry_16 : decode cX2_mapsCarry 16 = .ok (.invokevirtual 99, 3) := by decide +kernel
theorem dX2_mapsCarry_19 : decode cX2_mapsCarry 19 = .ok (.if_icmp .ge 67, 3) := by decide +kernel
theorem dX2_mapsCarry_22 : decode cX2_mapsCarry 22 = .ok (.aload_n 2, 1) := by decide +kernel
theorem dX2_mapsCarry_23 : decode cX2_mapsCarry 23 = .ok (.aload_n 0, 1) := by decide +kernel
theorem dX2_mapsCarry_24 : decode cX2_mapsCarry 24 = .ok (.getfield 17, 3) := by decide +kernel
theorem dX2_mapsCarry_27 : decode cX2_mapsCarry 27 = .ok (.iconst 0, 1) := by decide +kernel
theorem dX2_mapsCarry_28 : decode cX2_mapsCarry 28 = .ok (.aaload, 1) := by decide +kernel
theorem dX2_mapsCarry_29 : decode cX2_mapsCarry 29 = .ok (.iconst 1, 1) := by decide +kernel
theorem dX2_mapsCarry_30 : decode cX2_mapsCarry 30 = .ok (.iload_n 3, 1) := by decide +kernel
theorem dX2_mapsCarry_31 : decode cX2_mapsCarry 31 = .ok (.ishl, 1) := by decide +kernel
theorem dX2_mapsCarry_32 : decode cX2_mapsCarry 32 = .ok (.invokestatic 123, 3) := by decide +kernel
theorem dX2_mapsCarry_35 : decode cX2_mapsCarry 35 = .ok (.aload_n 0, 1) := by decide +kernel
theorem dX2_mapsCarry_36 : decode cX2_mapsCarry 36 = .ok (.getfield 17, 3) := by decide +kernel
theorem dX2_mapsCarry_39 : decode cX2_mapsCarry 39 = .ok (.iconst 1, 1) := by decide +kernel
theorem dX2_mapsCarry_40 : decode cX2_mapsCarry 40 = .ok (.aaload, 1) := by decide +kernel
theorem dX2_mapsCarry_41 : decode cX2_mapsCarry 41 = .ok (.iconst 1, 1) := by decide +kernel
theorem dX2_mapsCarry_42 : decode cX2_mapsCarry 42 = .ok (.iload 4, 2) := by decide +kernel
theorem dX2_mapsCarry_44 : decode cX2_mapsCarry 44 = .ok (.ishl, 1) := by decide +kernel
theorem dX2_mapsCarry_45 : decode cX2_mapsCarry 45 = .ok (.invokestatic 123, 3) := by decide +kernel
theorem dX2_mapsCarry_48 : decode cX2_mapsCarry 48 = .ok (.invokevirtual 74, 3) := by decide +kernel
theorem dX2_mapsCarry_51 : decode cX2_mapsCarry 51 = .ok (.istore 5, 2) := by decide +kernel
theorem dX2_mapsCarry_53 : decode cX2_mapsCarry 53 = .ok (.iload 5, 2) := by decide +kernel
theorem dX2_mapsCarry_55 : decode cX2_mapsCarry 55 = .ok (.aload_n 0, 1) := by decide +kernel
theorem dX2_mapsCarry_56 : decode cX2_mapsCarry 56 = .ok (.getfield 17, 3) := by decide +kernel
theorem dX2_mapsCarry_59 : decode cX2_mapsCarry 59 = .ok (.iconst 2, 1) := by decide +kernel
theorem dX2_mapsCarry_60 : decode cX2_mapsCarry 60 = .ok (.aaload, 1) := by decide +kernel
theorem dX2_mapsCarry_61 : decode cX2_mapsCarry 61 = .ok (.aload_n 1, 1) := by decide +kernel
theorem dX2_mapsCarry_62 : decode cX2_mapsCarry 62 = .ok (.iconst 1, 1) := by decide +kernel
theorem dX2_mapsCarry_63 : decode cX2_mapsCarry 63 = .ok (.iload_n 3, 1) := by decide +kernel
theorem dX2_mapsCarry_64 : decode cX2_mapsCarry 64 = .ok (.ishl, 1) := by decide +kernel
theorem dX2_mapsCarry_65 : decode cX2_mapsCarry 65 = .ok (.iconst 1, 1) := by decide +kernel
theorem dX2_mapsCarry_66 : decode cX2_mapsCarry 66 = .ok (.iload 4, 2) := by decide +kernel
theorem dX2_mapsCarry_68 : decode cX2_mapsCarry 68 = .ok (.ishl, 1) := by decide +kernel
theorem dX2_mapsCarry_69 : decode cX2_mapsCarry 69 = .ok (.invokevirtual 74, 3) := by decide +kernel
theorem dX2_mapsCarry_72 : decode cX2_mapsCarry 72 = .ok (.invokestatic 123, 3) := by decide +kernel
theorem dX2_mapsCarry_75 : decode cX2_mapsCarry 75 = .ok (.if_icmp .eq 5, 3) := by decide +kernel
theorem dX2_mapsCarry_78 : decode cX2_mapsCarry 78 = .ok (.iconst 0, 1) := by decide +kernel
theorem dX2_mapsCarry_79 : decode cX2_mapsCarry 79 = .ok (.ireturn, 1) := by decide +kernel
theorem dX2_mapsCarry_80 : decode cX2_mapsCarry 80 = .ok (.iinc 4 1, 3) := by decide +kernel
theorem dX2_mapsCarry_83 : decode cX2_mapsCarry 83 = .ok (.goto (-70), 3) := by decide +kernel
theorem dX2_mapsCarry_86 : decode cX2_mapsCarry 86 = .ok (.iinc 3 1, 3) := by decide +kernel
theorem dX2_mapsCarry_89 : decode cX2_mapsCarry 89 = .ok (.goto (-87), 3) := by decide +kernel
theorem dX2_mapsCarry_92 : decode cX2_mapsCarry 92 = .ok (.iconst 1, 1) := by decide +kernel
theorem dX2_mapsCarry_93 : decode cX2_mapsCarry 93 = .ok (.ireturn, 1) := by decide +kernel
set_option maxRecDepth 20000 in
theorem ggX2_countWays_X1_bits : GoodIn wsX2_countWays wsX1_bits := goodIn_r _ [7, 8, 53, 54, 55, 56] (by decide +kernel) (by decide +kernel)
set_option maxRecDepth 20000 in
theorem gX2_countWays_X1_bits : GoodIn wsX2_countWays (wsV RX2 99 RX1 yX1_bits wsX1_bits) := goodIn_app (goodIn_of _ (by decide +kernel)) ggX2_countWays_X1_bits
set_option maxRecDepth 20000 in
theorem ggX2_countWays_X1_solve : GoodIn wsX2_countWays wsX1_solve := goodIn_r _ [12, 13, 14, 15, 16, 6, 17, 18, 19, 20, 21, 53, 54, 55, 56] (by decide +kernel) (by decide +kernel)
set_option maxRecDepth 20000 in
theorem gX2_countWays_X1_solve : GoodIn wsX2_countWays (wsV RX2 95 RX1 yX1_solve wsX1_solve) := goodIn_app (goodIn_of _ (by decide +kernel)) ggX2_countWays_X1_solve
set_option maxRecDepth 20000 in
theorem ggX2_countWays_X2_readRow : GoodIn wsX2_countWays wsX2_readRow := goodIn_r _ [25] (by decide +kernel) (by decide +kernel)
set_option maxRecDepth 20000 in
theorem gX2_countWays_X2_readRow : GoodIn wsX2_countWays (va_wsS RX2 192 yX2_readRow wsX2_readRow) := goodIn_app (goodIn_of _ (by decide +kernel)) ggX2_countWays_X2_readRow
set_option maxRecDepth 20000 in
theorem ggX2_countWays_X2_isFit : GoodIn wsX2_countWays wsX2_isFit := goodIn_r _ [28, 29, 30, 24, 31] (by decide +kernel) (by decide +kernel)
set_option maxRecDepth 20000 in
theorem gX2_countWays_X2_isFit : GoodIn wsX2_countWays (va_wsS RX2 127 yX2_isFit wsX2_isFit) := goodIn_app (goodIn_of _ (by decide +kernel)) ggX2_countWays_X2_isFit
set_option maxRecDepth 20000 in
theorem ggX2_countWays_X1_size : GoodIn wsX2_countWays wsX1_size := goodIn_r _ [35, 13, 53, 54, 55, 56] (by decide +kernel) (by decide +kernel)
set_option maxRecDepth 20000 in
theorem gX2_countWays_X1_size : GoodIn wsX2_countWays (wsV RX2 54 RX1 yX1_size wsX1_size) := goodIn_app (goodIn_of _ (by decide +kernel)) ggX2_countWays_X1_size
set_option maxRecDepth 20000 in
theorem ggX2_countWays_X2_leavesWay : GoodIn wsX2_countWays wsX2_leavesWay := goodIn_r _ [39, 40, 1, 2, 3, 4, 5, 6, 7, 8, 29, 30, 24, 31, 41, 15, 16, 17, 18, 19, 20, 21, 9, 10, 11, 12, 13, 14, 42, 43, 44, 45, 46, 47, 48, 49, 50, 51, 52, 53, 54, 55, 56] (by decide +kernel) (by decide +kernel)
set_option maxRecDepth 20000 in
theorem gX2_countWays_X2_leavesWay : GoodIn wsX2_countWays (wsV RX2 196 RX2 yX2_leavesWay wsX2_leavesWay) := goodIn_app (goodIn_of _ (by decide +kernel)) ggX2_countWays_X2_leavesWay
theorem dX2_countWays_0 : decode cX2_countWays 0 = .ok (.aload_n 1, 1) := by decide +kernel
theorem dX2_countWays_1 : decode cX2_countWays 1 = .ok (.invokevirtual 99, 3) := by decide +kernel
theorem dX2_countWays_4 : decode cX2_countWays 4 = .ok (.istore_n 3, 1) := by decide +kernel
theorem dX2_countWays_5 : decode cX2_countWays 5 = .ok (.iconst 0, 1) := by decide +kernel
theorem dX2_countWays_6 : decode cX2_countWays 6 = .ok (.istore 4, 2) := by decide +kernel
theorem dX2_countWays_8 : decode cX2_countWays 8 = .ok (.iload 4, 2) := by decide +kernel
theorem dX2_countWays_10 : decode cX2_countWays 10 = .ok (.iload_n 3, 1) := by decide +kernel
theorem dX2_countWays_11 : decode cX2_countWays 11 = .ok (.if_icmp .ge 36, 3) := by decide +kernel
theorem dX2_countWays_14 : decode cX2_countWays 14 = .ok (.iload 4, 2) := by decide +kernel
theorem dX2_countWays_16 : decode cX2_countWays 16 = .ok (.aload_n 0, 1) := by decide +kernel
theorem dX2_countWays_17 : decode cX2_countWays 17 = .ok (.getfield 35, 3) := by decide +kernel
theorem dX2_countWays_20 : decode cX2_countWays 20 = .ok (.arraylength, 1) := by decide +kernel
theorem dX2_countWays_21 : decode cX2_countWays 21 = .ok (.if_icmp .ge 26, 3) := by decide +kernel
theorem dX2_countWays_24 : decode cX2_countWays 24 = .ok (.aload_n 0, 1) := by decide +kernel
theorem dX2_countWays_25 : decode cX2_countWays 25 = .ok (.getfield 35, 3) := by decide +kernel
theorem dX2_countWays_28 : decode cX2_countWays 28 = .ok (.iload 4, 2) := by decide +kernel
theorem dX2_countWays_30 : decode cX2_countWays 30 = .ok (.aload_n 1, 1) := by decide +kernel
theorem dX2_countWays_31 : decode cX2_countWays 31 = .ok (.iconst 1, 1) := by decide +kernel
theorem dX2_countWays_32 : decode cX2_countWays 32 = .ok (.iconst 1, 1) := by decide +kernel
theorem dX2_countWays_33 : decode cX2_countWays 33 = .ok (.iload 4, 2) := by decide +kernel
theorem dX2_countWays_35 : decode cX2_countWays 35 = .ok (.ishl, 1) := by decide +kernel
theorem dX2_countWays_36 : decode cX2_countWays 36 = .ok (.iconst 0, 1) := by decide +kernel
theorem dX2_countWays_37 : decode cX2_countWays 37 = .ok (.invokevirtual 95, 3) := by decide +kernel
theorem dX2_countWays_40 : decode cX2_countWays 40 = .ok (.iastore, 1) := by decide +kernel
theorem dX2_countWays_41 : decode cX2_countWays 41 = .ok (.iinc 4 1, 3) := by decide +kernel
theorem dX2_countWays_44 : decode cX2_countWays 44 = .ok (.goto (-36), 3) := by decide +kernel
theorem dX2_countWays_47 : decode cX2_countWays 47 = .ok (.iconst 0, 1) := by decide +kernel
theorem dX2_countWays_48 : decode cX2_countWays 48 = .ok (.istore 4, 2) := by decide +kernel
theorem dX2_countWays_50 : decode cX2_countWays 50 = .ok (.iconst 0, 1) := by decide +kernel
theorem dX2_countWays_51 : decode cX2_countWays 51 = .ok (.istore 5, 2) := by decide +kernel
theorem dX2_countWays_53 : decode cX2_countWays 53 = .ok (.iload 5, 2) := by decide +kernel
theorem dX2_countWays_55 : decode cX2_countWays 55 = .ok (.iconst 1, 1) := by decide +kernel
theorem dX2_countWays_56 : decode cX2_countWays 56 = .ok (.iload_n 3, 1) := by decide +kernel
theorem dX2_countWays_57 : decode cX2_countWays 57 = .ok (.iload_n 3, 1) := by decide +kernel
theorem dX2_countWays_58 : decode cX2_countWays 58 = .ok (.imul, 1) := by decide +kernel
theorem dX2_countWays_59 : decode cX2_countWays 59 = .ok (.ishl, 1) := by decide +kernel
theorem dX2_countWays_60 : decode cX2_countWays 60 = .ok (.if_icmp .ge 62, 3) := by decide +kernel
theorem dX2_countWays_63 : decode cX2_countWays 63 = .ok (.aload_n 0, 1) := by decide +kernel
theorem dX2_countWays_64 : decode cX2_countWays 64 = .ok (.getfield 29, 3) := by decide +kernel
theorem dX2_countWays_67 : decode cX2_countWays 67 = .ok (.iload 5, 2) := by decide +kernel
theorem dX2_countWays_69 : decode cX2_countWays 69 = .ok (.iload_n 3, 1) := by decide +kernel
theorem dX2_countWays_70 : decode cX2_countWays 70 = .ok (.invokestatic 192, 3) := by decide +kernel
theorem dX2_countWays_73 : decode cX2_countWays 73 = .ok (.aload_n 0, 1) := by decide +kernel
theorem dX2_countWays_74 : decode cX2_countWays 74 = .ok (.getfield 29, 3) := by decide +kernel
theorem dX2_countWays_77 : decode cX2_countWays 77 = .ok (.iload_n 3, 1) := by decide +kernel
theorem dX2_countWays_78 : decode cX2_countWays 78 = .ok (.invokestatic 127, 3) := by decide +kernel
theorem dX2_countWays_81 : decode cX2_countWays 81 = .ok (.ifCond .eq 35, 3) := by decide +kernel
theorem dX2_countWays_84 : decode cX2_countWays 84 = .ok (.iconst 1, 1) := by decide +kernel
theorem dX2_countWays_85 : decode cX2_countWays 85 = .ok (.istore 6, 2) := by decide +kernel
theorem dX2_countWays_87 : decode cX2_countWays 87 = .ok (.iload 6, 2) := by decide +kernel
theorem dX2_countWays_89 : decode cX2_countWays 89 = .ok (.aload_n 2, 1) := by decide +kernel
theorem dX2_countWays_90 : decode cX2_countWays 90 = .ok (.invokevirtual 54, 3) := by decide +kernel
theorem dX2_countWays_93 : decode cX2_countWays 93 = .ok (.if_icmp .ge 23, 3) := by decide +kernel
theorem dX2_countWays_96 : decode cX2_countWays 96 = .ok (.aload_n 0, 1) := by decide +kernel
theorem dX2_countWays_97 : decode cX2_countWays 97 = .ok (.aload_n 1, 1) := by decide +kernel
theorem dX2_countWays_98 : decode cX2_countWays 98 = .ok (.aload_n 2, 1) := by decide +kernel
theorem dX2_countWays_99 : decode cX2_countWays 99 = .ok (.iload 6, 2) := by decide +kernel
theorem dX2_countWays_101 : decode cX2_countWays 101 = .ok (.invokevirtual 196, 3) := by decide +kernel
theorem dX2_countWays_104 : decode cX2_countWays 104 = .ok (.ifCond .eq 6, 3) := by decide +kernel
theorem dX2_countWays_107 : decode cX2_countWays 107 = .ok (.iinc 4 1, 3) := by decide +kernel
theorem dX2_countWays_110 : decode cX2_countWays 110 = .ok (.iinc 6 1, 3) := by decide +kernel
theorem dX2_countWays_113 : decode cX2_countWays 113 = .ok (.goto (-26), 3) := by decide +kernel
theorem dX2_countWays_116 : decode cX2_countWays 116 = .ok (.iinc 5 1, 3) := by decide +kernel
theorem dX2_countWays_119 : decode cX2_countWays 119 = .ok (.goto (-66), 3) := by decide +kernel
theorem dX2_countWays_122 : decode cX2_countWays 122 = .ok (.iload 4, 2) := by decide +kernel
theorem dX2_countWays_124 : decode cX2_countWays 124 = .ok (.ireturn, 1) := by decide +kernel
theorem dX2_readRow_0 : decode cX2_readRow 0 = .ok (.iconst 0, 1) := by decide +kernel
theorem dX2_readRow_1 : decode cX2_readRow 1 = .ok (.istore_n 3, 1) := by decide +kernel
theorem dX2_readRow_2 : decode cX2_readRow 2 = .ok (.iload_n 3, 1) := by decide +kernel
theorem dX2_readRow_3 : decode cX2_readRow 3 = .ok (.iload_n 2, 1) := by decide +kernel
theorem dX2_readRow_4 : decode cX2_readRow 4 = .ok (.if_icmp .ge 29, 3) := by decide +kernel
theorem dX2_readRow_7 : decode cX2_readRow 7 = .ok (.iload_n 3, 1) := by decide +kernel
theorem dX2_readRow_8 : decode cX2_readRow 8 = .ok (.aload_n 0, 1) := by decide +kernel
theorem dX2_readRow_9 : decode cX2_readRow 9 = .ok (.arraylength, 1) := by decide +kernel
theorem dX2_readRow_10 : decode cX2_readRow 10 = .ok (.if_icmp .ge 23, 3) := by decide +kernel
theorem dX2_readRow_13 : decode cX2_readRow 13 = .ok (.aload_n 0, 1) := by decide +kernel
theorem dX2_readRow_14 : decode cX2_readRow 14 = .ok (.iload_n 3, 1) := by decide +kernel
theorem dX2_readRow_15 : decode cX2_readRow 15 = .ok (.iload_n 1, 1) := by decide +kernel
theorem dX2_readRow_16 : decode cX2_readRow 16 = .ok (.iload_n 3, 1) := by decide +kernel
theorem dX2_readRow_17 : decode cX2_readRow 17 = .ok (.iload_n 2, 1) := by decide +kernel
theorem dX2_readRow_18 : decode cX2_readRow 18 = .ok (.imul, 1) := by decide +kernel
theorem dX2_readRow_19 : decode cX2_readRow 19 = .ok (.ishr, 1) := by decide +kernel
theorem dX2_readRow_20 : decode cX2_readRow 20 = .ok (.iconst 1, 1) := by decide +kernel
theorem dX2_readRow_21 : decode cX2_readRow 21 = .ok (.iload_n 2, 1) := by decide +kernel
theorem dX2_readRow_22 : decode cX2_readRow 22 = .ok (.ishl, 1) := by decide +kernel
theorem dX2_readRow_23 : decode cX2_readRow 23 = .ok (.iconst 1, 1) := by decide +kernel
theorem dX2_readRow_24 : decode cX2_readRow 24 = .ok (.isub, 1) := by decide +kernel
theorem dX2_readRow_25 : decode cX2_readRow 25 = .ok (.iand, 1) := by decide +kernel
theorem dX2_readRow_26 : decode cX2_readRow 26 = .ok (.iastore, 1) := by decide +kernel
theorem dX2_readRow_27 : decode cX2_readRow 27 = .ok (.iinc 3 1, 3) := by decide +kernel
theorem dX2_readRow_30 : decode cX2_readRow 30 = .ok (.goto (-28), 3) := by decide +kernel
theorem dX2_readRow_33 : decode cX2_readRow 33 = .ok (.return_, 1) := by decide +kernel
set_option maxRecDepth 20000 in
theorem ggX2_leavesWay_X1_bits : GoodIn wsX2_leavesWay wsX1_bits := goodIn_r _ [8, 9, 39, 40, 41, 42] (by decide +kernel) (by decide +kernel)
set_option maxRecDepth 20000 in
theorem gX2_leavesWay_X1_bits : GoodIn wsX2_leavesWay (wsV RX2 99 RX1 yX1_bits wsX1_bits) := goodIn_app (goodIn_of _ (by decide +kernel)) ggX2_leavesWay_X1_bits
set_option maxRecDepth 20000 in
theorem ggX2_leavesWay_X2_sumOf : GoodIn wsX2_leavesWay wsX2_sumOf := goodIn_r _ [13] (by decide +kernel) (by decide +kernel)
set_option maxRecDepth 20000 in
theorem gX2_leavesWay_X2_sumOf : GoodIn wsX2_leavesWay (va_wsS RX2 123 yX2_sumOf wsX2_sumOf) := goodIn_app (goodIn_of _ (by decide +kernel)) ggX2_leavesWay_X2_sumOf
set_option maxRecDepth 20000 in
theorem ggX2_leavesWay_X1_times : GoodIn wsX2_leavesWay wsX1_times := goodIn_r _ [17, 18, 19, 20, 7, 21, 39, 40, 41, 42] (by decide +kernel) (by decide +kernel)
set_option maxRecDepth 20000 in
theorem gX2_leavesWay_X1_times : GoodIn wsX2_leavesWay (wsV RX2 74 RX1 yX1_times wsX1_times) := goodIn_app (goodIn_of _ (by decide +kernel)) ggX2_leavesWay_X1_times
set_option maxRecDepth 20000 in
theorem ggX2_leavesWay_X1_solve : GoodIn wsX2_leavesWay wsX1_solve := goodIn_r _ [25, 26, 27, 15, 16, 7, 17, 18, 19, 20, 21, 39, 40, 41, 42] (by decide +kernel) (by decide +kernel)
set_option maxRecDepth 20000 in
theorem gX2_leavesWay_X1_solve : GoodIn wsX2_leavesWay (wsV RX2 95 RX1 yX1_solve wsX1_solve) := goodIn_app (goodIn_of _ (by decide +kernel)) ggX2_leavesWay_X1_solve
set_option maxRecDepth 20000 in
theorem ggX2_leavesWay_X2_agrees : GoodIn wsX2_leavesWay wsX2_agrees := goodIn_r _ [31, 3, 1, 4, 5, 6, 7, 8, 9, 14, 15, 16, 17, 18, 19, 20, 21, 10, 11, 12, 13, 32, 33, 34, 35, 36, 37, 38, 39, 40, 41, 42] (by decide +kernel) (by decide +kernel)
set_option maxRecDepth 20000 in
theorem gX2_leavesWay_X2_agrees : GoodIn wsX2_leavesWay (wsV RX2 200 RX2 yX2_agrees wsX2_agrees) := goodIn_app (goodIn_of _ (by decide +kernel)) ggX2_leavesWay_X2_agrees
theorem dX2_leavesWay_0 : decode cX2_leavesWay 0 = .ok (.aload_n 1, 1) := by decide +kernel
theorem dX2_leavesWay_1 : decode cX2_leavesWay 1 = .ok (.invokevirtual 99, 3) := by decide +kernel
theorem dX2_leavesWay_4 : decode cX2_leavesWay 4 = .ok (.istore 4, 2) := by decide +kernel
theorem dX2_leavesWay_6 : decode cX2_leavesWay 6 = .ok (.iconst 0, 1) := by decide +kernel
theorem dX2_leavesWay_7 : decode cX2_leavesWay 7 = .ok (.istore 5, 2) := by decide +kernel
theorem dX2_leavesWay_9 : decode cX2_leavesWay 9 = .ok (.iload 5, 2) := by decide +kernel
theorem dX2_leavesWay_11 : decode cX2_leavesWay 11 = .ok (.iload 4, 2) := by decide +kernel
theorem dX2_leavesWay_13 : decode cX2_leavesWay 13 = .ok (.if_icmp .ge 55, 3) := by decide +kernel
theorem dX2_leavesWay_16 : decode cX2_leavesWay 16 = .ok (.iload 5, 2) := by decide +kernel
theorem dX2_leavesWay_18 : decode cX2_leavesWay 18 = .ok (.aload_n 0, 1) := by decide +kernel
theorem dX2_leavesWay_19 : decode cX2_leavesWay 19 = .ok (.getfield 32, 3) := by decide +kernel
theorem dX2_leavesWay_22 : decode cX2_leavesWay 22 = .ok (.arraylength, 1) := by decide +kernel
theorem dX2_leavesWay_23 : decode cX2_leavesWay 23 = .ok (.if_icmp .ge 45, 3) := by decide +kernel
theorem dX2_leavesWay_26 : decode cX2_leavesWay 26 = .ok (.iload 5, 2) := by decide +kernel
theorem dX2_leavesWay_28 : decode cX2_leavesWay 28 = .ok (.aload_n 0, 1) := by decide +kernel
theorem dX2_leavesWay_29 : decode cX2_leavesWay 29 = .ok (.getfield 35, 3) := by decide +kernel
theorem dX2_leavesWay_32 : decode cX2_leavesWay 32 = .ok (.arraylength, 1) := by decide +kernel
theorem dX2_leavesWay_33 : decode cX2_leavesWay 33 = .ok (.if_icmp .ge 35, 3) := by decide +kernel
theorem dX2_leavesWay_36 : decode cX2_leavesWay 36 = .ok (.aload_n 0, 1) := by decide +kernel
theorem dX2_leavesWay_37 : decode cX2_leavesWay 37 = .ok (.getfield 32, 3) := by decide +kernel
theorem dX2_leavesWay_40 : decode cX2_leavesWay 40 = .ok (.iload 5, 2) := by decide +kernel
theorem dX2_leavesWay_42 : decode cX2_leavesWay 42 = .ok (.aload_n 2, 1) := by decide +kernel
theorem dX2_leavesWay_43 : decode cX2_leavesWay 43 = .ok (.aload_n 0, 1) := by decide +kernel
theorem dX2_leavesWay_44 : decode cX2_leavesWay 44 = .ok (.getfield 29, 3) := by decide +kernel
theorem dX2_leavesWay_47 : decode cX2_leavesWay 47 = .ok (.aload_n 0, 1) := by decide +kernel
theorem dX2_leavesWay_48 : decode cX2_leavesWay 48 = .ok (.getfield 35, 3) := by decide +kernel
theorem dX2_leavesWay_51 : decode cX2_leavesWay 51 = .ok (.iload 5, 2) := by decide +kernel
theorem dX2_leavesWay_53 : decode cX2_leavesWay 53 = .ok (.iaload, 1) := by decide +kernel
theorem dX2_leavesWay_54 : decode cX2_leavesWay 54 = .ok (.invokestatic 123, 3) := by decide +kernel
theorem dX2_leavesWay_57 : decode cX2_leavesWay 57 = .ok (.iload_n 3, 1) := by decide +kernel
theorem dX2_leavesWay_58 : decode cX2_leavesWay 58 = .ok (.invokevirtual 74, 3) := by decide +kernel
theorem dX2_leavesWay_61 : decode cX2_leavesWay 61 = .ok (.iastore, 1) := by decide +kernel
theorem dX2_leavesWay_62 : decode cX2_leavesWay 62 = .ok (.iinc 5 1, 3) := by decide +kernel
theorem dX2_leavesWay_65 : decode cX2_leavesWay 65 = .ok (.goto (-56), 3) := by decide +kernel
theorem dX2_leavesWay_68 : decode cX2_leavesWay 68 = .ok (.iconst 0, 1) := by decide +kernel
theorem dX2_leavesWay_69 : decode cX2_leavesWay 69 = .ok (.istore 5, 2) := by decide +kernel
theorem dX2_leavesWay_71 : decode cX2_leavesWay 71 = .ok (.iload 5, 2) := by decide +kernel
theorem dX2_leavesWay_73 : decode cX2_leavesWay 73 = .ok (.iload 4, 2) := by decide +kernel
theorem dX2_leavesWay_75 : decode cX2_leavesWay 75 = .ok (.if_icmp .ge 53, 3) := by decide +kernel
theorem dX2_leavesWay_78 : decode cX2_leavesWay 78 = .ok (.aload_n 2, 1) := by decide +kernel
theorem dX2_leavesWay_79 : decode cX2_leavesWay 79 = .ok (.aload_n 0, 1) := by decide +kernel
theorem dX2_leavesWay_80 : decode cX2_leavesWay 80 = .ok (.getfield 29, 3) := by decide +kernel
theorem dX2_leavesWay_83 : decode cX2_leavesWay 83 = .ok (.iconst 0, 1) := by decide +kernel
theorem dX2_leavesWay_84 : decode cX2_leavesWay 84 = .ok (.iaload, 1) := by decide +kernel
theorem dX2_leavesWay_85 : decode cX2_leavesWay 85 = .ok (.aload_n 0, 1) := by decide +kernel
theorem dX2_leavesWay_86 : decode cX2_leavesWay 86 = .ok (.getfield 32, 3) := by decide +kernel
theorem dX2_leavesWay_89 : decode cX2_leavesWay 89 = .ok (.aload_n 1, 1) := by decide +kernel
theorem dX2_leavesWay_90 : decode cX2_leavesWay 90 = .ok (.iconst 1, 1) := by decide +kernel
theorem dX2_leavesWay_91 : decode cX2_leavesWay 91 = .ok (.iconst 1, 1) := by decide +kernel
theorem dX2_leavesWay_92 : decode cX2_leavesWay 92 = .ok (.iload 5, 2) := by decide +kernel
theorem dX2_leavesWay_94 : decode cX2_leavesWay 94 = .ok (.ishl, 1) := by decide +kernel
theorem dX2_leavesWay_95 : decode cX2_leavesWay 95 = .ok (.invokevirtual 74, 3) := by decide +kernel
theorem dX2_leavesWay_98 : decode cX2_leavesWay 98 = .ok (.invokestatic 123, 3) := by decide +kernel
theorem dX2_leavesWay_101 : decode cX2_leavesWay 101 = .ok (.iconst 1, 1) := by decide +kernel
theorem dX2_leavesWay_102 : decode cX2_leavesWay 102 = .ok (.invokevirtual 95, 3) := by decide +kernel
theorem dX2_leavesWay_105 : decode cX2_leavesWay 105 = .ok (.istore 6, 2) := by decide +kernel
theorem dX2_leavesWay_107 : decode cX2_leavesWay 107 = .ok (.aload_n 0, 1) := by decide +kernel
theorem dX2_leavesWay_108 : decode cX2_leavesWay 108 = .ok (.aload_n 1, 1) := by decide +kernel
theorem dX2_leavesWay_109 : decode cX2_leavesWay 109 = .ok (.aload_n 2, 1) := by decide +kernel
theorem dX2_leavesWay_110 : decode cX2_leavesWay 110 = .ok (.iload 5, 2) := by decide +kernel
theorem dX2_leavesWay_112 : decode cX2_leavesWay 112 = .ok (.iload 6, 2) := by decide +kernel
theorem dX2_leavesWay_114 : decode cX2_leavesWay 114 = .ok (.invokevirtual 200, 3) := by decide +kernel
theorem dX2_leavesWay_117 : decode cX2_leavesWay 117 = .ok (.ifCond .ne 5, 3) := by decide +kernel
theorem dX2_leavesWay_120 : decode cX2_leavesWay 120 = .ok (.iconst 0, 1) := by decide +kernel
theorem dX2_leavesWay_121 : decode cX2_leavesWay 121 = .ok (.ireturn, 1) := by decide +kernel
theorem dX2_leavesWay_122 : decode cX2_leavesWay 122 = .ok (.iinc 5 1, 3) := by decide +kernel
theorem dX2_leavesWay_125 : decode cX2_leavesWay 125 = .ok (.goto (-54), 3) := by decide +kernel
theorem dX2_leavesWay_128 : decode cX2_leavesWay 128 = .ok (.iconst 1, 1) := by decide +kernel
theorem dX2_leavesWay_129 : decode cX2_leavesWay 129 = .ok (.ireturn, 1) := by decide +kernel
set_option maxRecDepth 20000 in
theorem ggX2_agrees_X1_bits : GoodIn wsX2_agrees wsX1_bits := goodIn_r _ [7, 8, 28, 29, 30, 31] (by decide +kernel) (by decide +kernel)
set_option maxRecDepth 20000 in
theorem gX2_agrees_X1_bits : GoodIn wsX2_agrees (wsV RX2 99 RX1 yX1_bits wsX1_bits) := goodIn_app (goodIn_of _ (by decide +kernel)) ggX2_agrees_X1_bits
set_option maxRecDepth 20000 in
theorem ggX2_agrees_X1_times : GoodIn wsX2_agrees wsX1_times := goodIn_r _ [12, 13, 14, 15, 6, 16, 28, 29, 30, 31] (by decide +kernel) (by decide +kernel)
set_option maxRecDepth 20000 in
theorem gX2_agrees_X1_times : GoodIn wsX2_agrees (wsV RX2 74 RX1 yX1_times wsX1_times) := goodIn_app (goodIn_of _ (by decide +kernel)) ggX2_agrees_X1_times
set_option maxRecDepth 20000 in
theorem ggX2_agrees_X2_sumOf : GoodIn wsX2_agrees wsX2_sumOf := goodIn_r _ [20] (by decide +kernel) (by decide +kernel)
set_option maxRecDepth 20000 in
theorem gX2_agrees_X2_sumOf : GoodIn wsX2_agrees (va_wsS RX2 123 yX2_sumOf wsX2_sumOf) := goodIn_app (goodIn_of _ (by decide +kernel)) ggX2_agrees_X2_sumOf
theorem dX2_agrees_0 : decode cX2_agrees 0 = .ok (.iconst 0, 1) := by decide +kernel
theorem dX2_agrees_1 : decode cX2_agrees 1 = .ok (.istore 5, 2) := by decide +kernel
theorem dX2_agrees_3 : decode cX2_agrees 3 = .ok (.iload 5, 2) := by decide +kernel
theorem dX2_agrees_5 : decode cX2_agrees 5 = .ok (.aload_n 1, 1) := by decide +kernel
theorem dX2_agrees_6 : decode cX2_agrees 6 = .ok (.invokevirtual 99, 3) := by decide +kernel
theorem dX2_agrees_9 : decode cX2_agrees 9 = .ok (.if_icmp .ge 55, 3) := by decide +kernel
theorem dX2_agrees_12 : decode cX2_agrees 12 = .ok (.iload 5, 2) := by decide +kernel
theorem dX2_agrees_14 : decode cX2_agrees 14 = .ok (.aload_n 0, 1) := by decide +kernel
theorem dX2_agrees_15 : decode cX2_agrees 15 = .ok (.getfield 29, 3) := by decide +kernel
theorem dX2_agrees_18 : decode cX2_agrees 18 = .ok (.arraylength, 1) := by decide +kernel
theorem dX2_agrees_19 : decode cX2_agrees 19 = .ok (.if_icmp .ge 45, 3) := by decide +kernel
theorem dX2_agrees_22 : decode cX2_agrees 22 = .ok (.aload_n 2, 1) := by decide +kernel
theorem dX2_agrees_23 : decode cX2_agrees 23 = .ok (.aload_n 0, 1) := by decide +kernel
theorem dX2_agrees_24 : decode cX2_agrees 24 = .ok (.getfield 29, 3) := by decide +kernel
theorem dX2_agrees_27 : decode cX2_agrees 27 = .ok (.iload 5, 2) := by decide +kernel
theorem dX2_agrees_29 : decode cX2_agrees 29 = .ok (.iaload, 1) := by decide +kernel
theorem dX2_agrees_30 : decode cX2_agrees 30 = .ok (.iload 4, 2) := by decide +kernel
theorem dX2_agrees_32 : decode cX2_agrees 32 = .ok (.invokevirtual 74, 3) := by decide +kernel
theorem dX2_agrees_35 : decode cX2_agrees 35 = .ok (.aload_n 0, 1) := by decide +kernel
theorem dX2_agrees_36 : decode cX2_agrees 36 = .ok (.getfield 32, 3) := by decide +kernel
theorem dX2_agrees_39 : decode cX2_agrees 39 = .ok (.aload_n 1, 1) := by decide +kernel
theorem dX2_agrees_40 : decode cX2_agrees 40 = .ok (.iconst 1, 1) := by decide +kernel
theorem dX2_agrees_41 : decode cX2_agrees 41 = .ok (.iload 5, 2) := by decide +kernel
theorem dX2_agrees_43 : decode cX2_agrees 43 = .ok (.ishl, 1) := by decide +kernel
theorem dX2_agrees_44 : decode cX2_agrees 44 = .ok (.iconst 1, 1) := by decide +kernel
theorem dX2_agrees_45 : decode cX2_agrees 45 = .ok (.iload_n 3, 1) := by decide +kernel
theorem dX2_agrees_46 : decode cX2_agrees 46 = .ok (.ishl, 1) := by decide +kernel
theorem dX2_agrees_47 : decode cX2_agrees 47 = .ok (.invokevirtual 74, 3) := by decide +kernel
theorem dX2_agrees_50 : decode cX2_agrees 50 = .ok (.invokestatic 123, 3) := by decide +kernel
theorem dX2_agrees_53 : decode cX2_agrees 53 = .ok (.if_icmp .eq 5, 3) := by decide +kernel
theorem dX2_agrees_56 : decode cX2_agrees 56 = .ok (.iconst 0, 1) := by decide +kernel
theorem dX2_agrees_57 : decode cX2_agrees 57 = .ok (.ireturn, 1) := by decide +kernel
theorem dX2_agrees_58 : decode cX2_agrees 58 = .ok (.iinc 5 1, 3) := by decide +kernel
theorem dX2_agrees_61 : decode cX2_agrees 61 = .ok (.goto (-58), 3) := by decide +kernel
theorem dX2_agrees_64 : decode cX2_agrees 64 = .ok (.iconst 1, 1) := by decide +kernel
theorem dX2_agrees_65 : decode cX2_agrees 65 = .ok (.ireturn, 1) := by decide +kernel
