set_option maxRecDepth 20000 in
theorem ggX4_init_X4_begin : GoodIn wsX4_init wsX4_begin := goodIn_r _ [22, 8, 10, 6, 7, 23, 11, 12, 24, 25, 26, 27, 28, 29, 30, 31, 32, 33, 34, 35, 36, 37, 38, 39, 40, 41, 42, 43, 44, 45, 46] (by decide +kernel) (by decide +kernel)
set_option maxRecDepth 20000 in
theorem gX4_init_X4_begin : GoodIn wsX4_init (wsV RX4 48 RX4 yX4_begin wsX4_begin) := goodIn_app (goodIn_of _ (by decide +kernel)) ggX4_init_X4_begin
theorem dX4_init_0 : decode cX4_init 0 = .ok (.aload_n 0, 1) := by decide +kernel
theorem dX4_init_1 : decode cX4_init 1 = .ok (.invokespecial 1, 3) := by decide +kernel
theorem dX4_init_4 : decode cX4_init 4 = .ok (.aload_n 0, 1) := by decide +kernel
theorem dX4_init_5 : decode cX4_init 5 = .ok (.sipush 200, 3) := by decide +kernel
theorem dX4_init_8 : decode cX4_init 8 = .ok (.newarray .int, 2) := by decide +kernel
theorem dX4_init_10 : decode cX4_init 10 = .ok (.putfield 7, 3) := by decide +kernel
theorem dX4_init_13 : decode cX4_init 13 = .ok (.aload_n 0, 1) := by decide +kernel
theorem dX4_init_14 : decode cX4_init 14 = .ok (.iconst 5, 1) := by decide +kernel
theorem dX4_init_15 : decode cX4_init 15 = .ok (.putfield 13, 3) := by decide +kernel
theorem dX4_init_18 : decode cX4_init 18 = .ok (.aload_n 0, 1) := by decide +kernel
theorem dX4_init_19 : decode cX4_init 19 = .ok (.iconst 1, 1) := by decide +kernel
theorem dX4_init_20 : decode cX4_init 20 = .ok (.putfield 17, 3) := by decide +kernel
theorem dX4_init_23 : decode cX4_init 23 = .ok (.aload_n 0, 1) := by decide +kernel
theorem dX4_init_24 : decode cX4_init 24 = .ok (.iconst 3, 1) := by decide +kernel
theorem dX4_init_25 : decode cX4_init 25 = .ok (.putfield 20, 3) := by decide +kernel
theorem dX4_init_28 : decode cX4_init 28 = .ok (.aload_n 0, 1) := by decide +kernel
theorem dX4_init_29 : decode cX4_init 29 = .ok (.bipush 23, 2) := by decide +kernel
theorem dX4_init_31 : decode cX4_init 31 = .ok (.newarray .long, 2) := by decide +kernel
theorem dX4_init_33 : decode cX4_init 33 = .ok (.putfield 23, 3) := by decide +kernel
theorem dX4_init_36 : decode cX4_init 36 = .ok (.aload_n 0, 1) := by decide +kernel
theorem dX4_init_37 : decode cX4_init 37 = .ok (.bipush 23, 2) := by decide +kernel
theorem dX4_init_39 : decode cX4_init 39 = .ok (.newarray .long, 2) := by decide +kernel
theorem dX4_init_41 : decode cX4_init 41 = .ok (.putfield 27, 3) := by decide +kernel
theorem dX4_init_44 : decode cX4_init 44 = .ok (.aload_n 0, 1) := by decide +kernel
theorem dX4_init_45 : decode cX4_init 45 = .ok (.bipush 23, 2) := by decide +kernel
theorem dX4_init_47 : decode cX4_init 47 = .ok (.newarray .long, 2) := by decide +kernel
theorem dX4_init_49 : decode cX4_init 49 = .ok (.putfield 30, 3) := by decide +kernel
theorem dX4_init_52 : decode cX4_init 52 = .ok (.aload_n 0, 1) := by decide +kernel
theorem dX4_init_53 : decode cX4_init 53 = .ok (.bipush 12, 2) := by decide +kernel
theorem dX4_init_55 : decode cX4_init 55 = .ok (.newarray .int, 2) := by decide +kernel
theorem dX4_init_57 : decode cX4_init 57 = .ok (.putfield 33, 3) := by decide +kernel
theorem dX4_init_60 : decode cX4_init 60 = .ok (.aload_n 0, 1) := by decide +kernel
theorem dX4_init_61 : decode cX4_init 61 = .ok (.bipush 8, 2) := by decide +kernel
theorem dX4_init_63 : decode cX4_init 63 = .ok (.newarray .int, 2) := by decide +kernel
theorem dX4_init_65 : decode cX4_init 65 = .ok (.putfield 36, 3) := by decide +kernel
theorem dX4_init_68 : decode cX4_init 68 = .ok (.aload_n 0, 1) := by decide +kernel
theorem dX4_init_69 : decode cX4_init 69 = .ok (.sipush 200, 3) := by decide +kernel
theorem dX4_init_72 : decode cX4_init 72 = .ok (.newarray .long, 2) := by decide +kernel
theorem dX4_init_74 : decode cX4_init 74 = .ok (.putfield 39, 3) := by decide +kernel
theorem dX4_init_77 : decode cX4_init 77 = .ok (.aload_n 0, 1) := by decide +kernel
theorem dX4_init_78 : decode cX4_init 78 = .ok (.iconst 4, 1) := by decide +kernel
theorem dX4_init_79 : decode cX4_init 79 = .ok (.newarray .int, 2) := by decide +kernel
theorem dX4_init_81 : decode cX4_init 81 = .ok (.putfield 42, 3) := by decide +kernel
theorem dX4_init_84 : decode cX4_init 84 = .ok (.aload_n 0, 1) := by decide +kernel
theorem dX4_init_85 : decode cX4_init 85 = .ok (.bipush 40, 2) := by decide +kernel
theorem dX4_init_87 : decode cX4_init 87 = .ok (.newarray .int, 2) := by decide +kernel
theorem dX4_init_89 : decode cX4_init 89 = .ok (.putfield 45, 3) := by decide +kernel
theorem dX4_init_92 : decode cX4_init 92 = .ok (.aload_n 0, 1) := by decide +kernel
theorem dX4_init_93 : decode cX4_init 93 = .ok (.invokevirtual 48, 3) := by decide +kernel
theorem dX4_init_96 : decode cX4_init 96 = .ok (.return_, 1) := by decide +kernel
theorem dX4_in_0 : decode cX4_in 0 = .ok (.lload_n 0, 1) := by decide +kernel
theorem dX4_in_1 : decode cX4_in 1 = .ok (.lload_n 2, 1) := by decide +kernel
theorem dX4_in_2 : decode cX4_in 2 = .ok (.lcmp, 1) := by decide +kernel
theorem dX4_in_3 : decode cX4_in 3 = .ok (.ifCond .lt 14, 3) := by decide +kernel
theorem dX4_in_6 : decode cX4_in 6 = .ok (.lload_n 0, 1) := by decide +kernel
theorem dX4_in_7 : decode cX4_in 7 = .ok (.lload 4, 2) := by decide +kernel
theorem dX4_in_9 : decode cX4_in 9 = .ok (.lcmp, 1) := by decide +kernel
theorem dX4_in_10 : decode cX4_in 10 = .ok (.ifCond .gt 7, 3) := by decide +kernel
theorem dX4_in_13 : decode cX4_in 13 = .ok (.iconst 1, 1) := by decide +kernel
theorem dX4_in_14 : decode cX4_in 14 = .ok (.goto 4, 3) := by decide +kernel
theorem dX4_in_17 : decode cX4_in 17 = .ok (.iconst 0, 1) := by decide +kernel
theorem dX4_in_18 : decode cX4_in 18 = .ok (.ireturn, 1) := by decide +kernel
theorem dX4_begin_0 : decode cX4_begin 0 = .ok (.aload_n 0, 1) := by decide +kernel
theorem dX4_begin_1 : decode cX4_begin 1 = .ok (.iconst 3, 1) := by decide +kernel
theorem dX4_begin_2 : decode cX4_begin 2 = .ok (.putfield 20, 3) := by decide +kernel
theorem dX4_begin_5 : decode cX4_begin 5 = .ok (.iconst 0, 1) := by decide +kernel
theorem dX4_begin_6 : decode cX4_begin 6 = .ok (.istore_n 1, 1) := by decide +kernel
theorem dX4_begin_7 : decode cX4_begin 7 = .ok (.iload_n 1, 1) := by decide +kernel
theorem dX4_begin_8 : decode cX4_begin 8 = .ok (.iconst 3, 1) := by decide +kernel
theorem dX4_begin_9 : decode cX4_begin 9 = .ok (.if_icmp .ge 69, 3) := by decide +kernel
theorem dX4_begin_12 : decode cX4_begin 12 = .ok (.aload_n 0, 1) := by decide +kernel
theorem dX4_begin_13 : decode cX4_begin 13 = .ok (.getfield 23, 3) := by decide +kernel
theorem dX4_begin_16 : decode cX4_begin 16 = .ok (.iload_n 1, 1) := by decide +kernel
theorem dX4_begin_17 : decode cX4_begin 17 = .ok (.iload_n 1, 1) := by decide +kernel
theorem dX4_begin_18 : decode cX4_begin 18 = .ok (.ifCond .ne 7, 3) := by decide +kernel
theorem dX4_begin_21 : decode cX4_begin 21 = .ok (.iconst 0, 1) := by decide +kernel
theorem dX4_begin_22 : decode cX4_begin 22 = .ok (.goto 19, 3) := by decide +kernel
theorem dX4_begin_25 : decode cX4_begin 25 = .ok (.iload_n 1, 1) := by decide +kernel
theorem dX4_begin_26 : decode cX4_begin 26 = .ok (.iconst 1, 1) := by decide +kernel
theorem dX4_begin_27 : decode cX4_begin 27 = .ok (.if_icmp .ne 10, 3) := by decide +kernel
theorem dX4_begin_30 : decode cX4_begin 30 = .ok (.aload_n 0, 1) := by decide +kernel
theorem dX4_begin_31 : decode cX4_begin 31 = .ok (.getfield 13, 3) := by decide +kernel
theorem dX4_begin_34 : decode cX4_begin 34 = .ok (.goto 7, 3) := by decide +kernel
theorem dX4_begin_37 : decode cX4_begin 37 = .ok (.aload_n 0, 1) := by decide +kernel
theorem dX4_begin_38 : decode cX4_begin 38 = .ok (.getfield 17, 3) := by decide +kernel
theorem dX4_begin_41 : decode cX4_begin 41 = .ok (.i2l, 1) := by decide +kernel
theorem dX4_begin_42 : decode cX4_begin 42 = .ok (.ldc2_w 51, 3) := by decide +kernel
theorem dX4_begin_45 : decode cX4_begin 45 = .ok (.lmul, 1) := by decide +kernel
theorem dX4_begin_46 : decode cX4_begin 46 = .ok (.lastore, 1) := by decide +kernel
theorem dX4_begin_47 : decode cX4_begin 47 = .ok (.aload_n 0, 1) := by decide +kernel
theorem dX4_begin_48 : decode cX4_begin 48 = .ok (.getfield 27, 3) := by decide +kernel
theorem dX4_begin_51 : decode cX4_begin 51 = .ok (.iload_n 1, 1) := by decide +kernel
theorem dX4_begin_52 : decode cX4_begin 52 = .ok (.iload_n 1, 1) := by decide +kernel
theorem dX4_begin_53 : decode cX4_begin 53 = .ok (.iconst 2, 1) := by decide +kernel
theorem dX4_begin_54 : decode cX4_begin 54 = .ok (.if_icmp .ne 9, 3) := by decide +kernel
theorem dX4_begin_57 : decode cX4_begin 57 = .ok (.ldc2_w 51, 3) := by decide +kernel
theorem dX4_begin_60 : decode cX4_begin 60 = .ok (.goto 4, 3) := by decide +kernel
theorem dX4_begin_63 : decode cX4_begin 63 = .ok (.lconst 0, 1) := by decide +kernel
theorem dX4_begin_64 : decode cX4_begin 64 = .ok (.lastore, 1) := by decide +kernel
theorem dX4_begin_65 : decode cX4_begin 65 = .ok (.aload_n 0, 1) := by decide +kernel
theorem dX4_begin_66 : decode cX4_begin 66 = .ok (.getfield 30, 3) := by decide +kernel
theorem dX4_begin_69 : decode cX4_begin 69 = .ok (.iload_n 1, 1) := by decide +kernel
theorem dX4_begin_70 : decode cX4_begin 70 = .ok (.lconst 0, 1) := by decide +kernel
theorem dX4_begin_71 : decode cX4_begin 71 = .ok (.lastore, 1) := by decide +kernel
theorem dX4_begin_72 : decode cX4_begin 72 = .ok (.iinc 1 1, 3) := by decide +kernel
theorem dX4_begin_75 : decode cX4_begin 75 = .ok (.goto (-68), 3) := by decide +kernel
theorem dX4_begin_78 : decode cX4_begin 78 = .ok (.return_, 1) := by decide +kernel
theorem dX4_folds_0 : decode cX4_folds 0 = .ok (.aload_n 0, 1) := by decide +kernel
theorem dX4_folds_1 : decode cX4_folds 1 = .ok (.getfield 23, 3) := by decide +kernel
theorem dX4_folds_4 : decode cX4_folds 4 = .ok (.aload_n 0, 1) := by decide +kernel
theorem dX4_folds_5 : decode cX4_folds 5 = .ok (.getfield 20, 3) := by decide +kernel
theorem dX4_folds_8 : decode cX4_folds 8 = .ok (.aload_n 0, 1) := by decide +kernel
theorem dX4_folds_9 : decode cX4_folds 9 = .ok (.getfield 23, 3) := by decide +kernel
theorem dX4_folds_12 : decode cX4_folds 12 = .ok (.iload_n 1, 1) := by decide +kernel
theorem dX4_folds_13 : decode cX4_folds 13 = .ok (.laload, 1) := by decide +kernel
theorem dX4_folds_14 : decode cX4_folds 14 = .ok (.aload_n 0, 1) := by decide +kernel
theorem dX4_folds_15 : decode cX4_folds 15 = .ok (.getfield 23, 3) := by decide +kernel
theorem dX4_folds_18 : decode cX4_folds 18 = .ok (.iload_n 2, 1) := by decide +kernel
theorem dX4_folds_19 : decode cX4_folds 19 = .ok (.laload, 1) := by decide +kernel
theorem dX4_folds_20 : decode cX4_folds 20 = .ok (.ladd, 1) := by decide +kernel
theorem dX4_folds_21 : decode cX4_folds 21 = .ok (.ldc2_w 53, 3) := by decide +kernel
theorem dX4_folds_24 : decode cX4_folds 24 = .ok (.ldiv, 1) := by decide +kernel
theorem dX4_folds_25 : decode cX4_folds 25 = .ok (.lastore, 1) := by decide +kernel
theorem dX4_folds_26 : decode cX4_folds 26 = .ok (.aload_n 0, 1) := by decide +kernel
theorem dX4_folds_27 : decode cX4_folds 27 = .ok (.getfield 27, 3) := by decide +kernel
theorem dX4_folds_30 : decode cX4_folds 30 = .ok (.aload_n 0, 1) := by decide +kernel
theorem dX4_folds_31 : decode cX4_folds 31 = .ok (.getfield 20, 3) := by decide +kernel
theorem dX4_folds_34 : decode cX4_folds 34 = .ok (.aload_n 0, 1) := by decide +kernel
theorem dX4_folds_35 : decode cX4_folds 35 = .ok (.getfield 27, 3) := by decide +kernel
theorem dX4_folds_38 : decode cX4_folds 38 = .ok (.iload_n 1, 1) := by decide +kernel
theorem dX4_folds_39 : decode cX4_folds 39 = .ok (.laload, 1) := by decide +kernel
theorem dX4_folds_40 : decode cX4_folds 40 = .ok (.aload_n 0, 1) := by decide +kernel
theorem dX4_folds_41 : decode cX4_folds 41 = .ok (.getfield 27, 3) := by decide +kernel
theorem dX4_folds_44 : decode cX4_folds 44 = .ok (.iload_n 2, 1) := by decide +kernel
theorem dX4_folds_45 : decode cX4_folds 45 = .ok (.laload, 1) := by decide +kernel
theorem dX4_folds_46 : decode cX4_folds 46 = .ok (.ladd, 1) := by decide +kernel
theorem dX4_folds_47 : decode cX4_folds 47 = .ok (.ldc2_w 53, 3) := by decide +kernel
theorem dX4_folds_50 : decode cX4_folds 50 = .ok (.ldiv, 1) := by decide +kernel
theorem dX4_folds_51 : decode cX4_folds 51 = .ok (.lastore, 1) := by decide +kernel
theorem dX4_folds_52 : decode cX4_folds 52 = .ok (.aload_n 0, 1) := by decide +kernel
theorem dX4_folds_53 : decode cX4_folds 53 = .ok (.getfield 30, 3) := by decide +kernel
theorem dX4_folds_56 : decode cX4_folds 56 = .ok (.aload_n 0, 1) := by decide +kernel
theorem dX4_folds_57 : decode cX4_folds 57 = .ok (.getfield 20, 3) := by decide +kernel
theorem dX4_folds_60 : decode cX4_folds 60 = .ok (.aload_n 0, 1) := by decide +kernel
theorem dX4_folds_61 : decode cX4_folds 61 = .ok (.getfield 30, 3) := by decide +kernel
theorem dX4_folds_64 : decode cX4_folds 64 = .ok (.iload_n 1, 1) := by decide +kernel
theorem dX4_folds_65 : decode cX4_folds 65 = .ok (.laload, 1) := by decide +kernel
theorem dX4_folds_66 : decode cX4_folds 66 = .ok (.aload_n 0, 1) := by decide +kernel
theorem dX4_folds_67 : decode cX4_folds 67 = .ok (.getfield 30, 3) := by decide +kernel
theorem dX4_folds_70 : decode cX4_folds 70 = .ok (.iload_n 2, 1) := by decide +kernel
theorem dX4_folds_71 : decode cX4_folds 71 = .ok (.laload, 1) := by decide +kernel
theorem dX4_folds_72 : decode cX4_folds 72 = .ok (.ladd, 1) := by decide +kernel
theorem dX4_folds_73 : decode cX4_folds 73 = .ok (.ldc2_w 53, 3) := by decide +kernel
theorem dX4_folds_76 : decode cX4_folds 76 = .ok (.ldiv, 1) := by decide +kernel
theorem dX4_folds_77 : decode cX4_folds 77 = .ok (.ldc2_w 51, 3) := by decide +kernel
theorem dX4_folds_80 : decode cX4_folds 80 = .ok (.ladd, 1) := by decide +kernel
theorem dX4_folds_81 : decode cX4_folds 81 = .ok (.lastore, 1) := by decide +kernel
theorem dX4_folds_82 : decode cX4_folds 82 = .ok (.aload_n 0, 1) := by decide +kernel
theorem dX4_folds_83 : decode cX4_folds 83 = .ok (.dup, 1) := by decide +kernel
theorem dX4_folds_84 : decode cX4_folds 84 = .ok (.getfield 20, 3) := by decide +kernel
theorem dX4_folds_87 : decode cX4_folds 87 = .ok (.iconst 1, 1) := by decide +kernel
theorem dX4_folds_88 : decode cX4_folds 88 = .ok (.iadd, 1) := by decide +kernel
theorem dX4_folds_89 : decode cX4_folds 89 = .ok (.putfield 20, 3) := by decide +kernel
theorem dX4_folds_92 : decode cX4_folds 92 = .ok (.return_, 1) := by decide +kernel
set_option maxRecDepth 20000 in
theorem ggX4_type_X4_in : GoodIn wsX4_type wsX4_in := goodIn_r _ [8] (by decide +kernel) (by decide +kernel)
set_option maxRecDepth 20000 in
theorem gX4_type_X4_in : GoodIn wsX4_type (va_wsS RX4 57 yX4_in wsX4_in) := goodIn_app (goodIn_of _ (by decide +kernel)) ggX4_type_X4_in
theorem dX4_type_0 : decode cX4_type 0 = .ok (.iload_n 3, 1) := by decide +kernel
theorem dX4_type_1 : decode cX4_type 1 = .ok (.i2l, 1) := by decide +kernel
theorem dX4_type_2 : decode cX4_type 2 = .ok (.lconst 1, 1) := by decide +kernel
theorem dX4_type_3 : decode cX4_type 3 = .ok (.ldc2_w 55, 3) := by decide +kernel
theorem dX4_type_6 : decode cX4_type 6 = .ok (.invokestatic 57, 3) := by decide +kernel
theorem dX4_type_9 : decode cX4_type 9 = .ok (.ifCond .ne 5, 3) := by decide +kernel
theorem dX4_type_12 : decode cX4_type 12 = .ok (.iconst (-1), 1) := by decide +kernel
theorem dX4_type_13 : decode cX4_type 13 = .ok (.ireturn, 1) := by decide +kernel
theorem dX4_type_14 : decode cX4_type 14 = .ok (.aload_n 0, 1) := by decide +kernel
theorem dX4_type_15 : decode cX4_type 15 = .ok (.getfield 61, 3) := by decide +kernel
theorem dX4_type_18 : decode cX4_type 18 = .ok (.iload_n 3, 1) := by decide +kernel
theorem dX4_type_19 : decode cX4_type 19 = .ok (.iadd, 1) := by decide +kernel
theorem dX4_type_20 : decode cX4_type 20 = .ok (.sipush 200, 3) := by decide +kernel
theorem dX4_type_23 : decode cX4_type 23 = .ok (.if_icmp .le 6, 3) := by decide +kernel
theorem dX4_type_26 : decode cX4_type 26 = .ok (.bipush (-3), 2) := by decide +kernel
theorem dX4_type_28 : decode cX4_type 28 = .ok (.ireturn, 1) := by decide +kernel
theorem dX4_type_29 : decode cX4_type 29 = .ok (.iload_n 3, 1) := by decide +kernel
theorem dX4_type_30 : decode cX4_type 30 = .ok (.iconst 1, 1) := by decide +kernel
theorem dX4_type_31 : decode cX4_type 31 = .ok (.isub, 1) := by decide +kernel
theorem dX4_type_32 : decode cX4_type 32 = .ok (.istore 4, 2) := by decide +kernel
theorem dX4_type_34 : decode cX4_type 34 = .ok (.iload 4, 2) := by decide +kernel
theorem dX4_type_36 : decode cX4_type 36 = .ok (.ifCond .lt 40, 3) := by decide +kernel
theorem dX4_type_39 : decode cX4_type 39 = .ok (.aload_n 0, 1) := by decide +kernel
theorem dX4_type_40 : decode cX4_type 40 = .ok (.getfield 7, 3) := by decide +kernel
theorem dX4_type_43 : decode cX4_type 43 = .ok (.aload_n 0, 1) := by decide +kernel
theorem dX4_type_44 : decode cX4_type 44 = .ok (.getfield 61, 3) := by decide +kernel
theorem dX4_type_47 : decode cX4_type 47 = .ok (.lload_n 1, 1) := by decide +kernel
theorem dX4_type_48 : decode cX4_type 48 = .ok (.bipush 8, 2) := by decide +kernel
theorem dX4_type_50 : decode cX4_type 50 = .ok (.iload 4, 2) := by decide +kernel
theorem dX4_type_52 : decode cX4_type 52 = .ok (.imul, 1) := by decide +kernel
theorem dX4_type_53 : decode cX4_type 53 = .ok (.lshr, 1) := by decide +kernel
theorem dX4_type_54 : decode cX4_type 54 = .ok (.ldc2_w 64, 3) := by decide +kernel
theorem dX4_type_57 : decode cX4_type 57 = .ok (.land, 1) := by decide +kernel
theorem dX4_type_58 : decode cX4_type 58 = .ok (.l2i, 1) := by decide +kernel
theorem dX4_type_59 : decode cX4_type 59 = .ok (.iastore, 1) := by decide +kernel
theorem dX4_type_60 : decode cX4_type 60 = .ok (.aload_n 0, 1) := by decide +kernel
theorem dX4_type_61 : decode cX4_type 61 = .ok (.dup, 1) := by decide +kernel
theorem dX4_type_62 : decode cX4_type 62 = .ok (.getfield 61, 3) := by decide +kernel
theorem dX4_type_65 : decode cX4_type 65 = .ok (.iconst 1, 1) := by decide +kernel
theorem dX4_type_66 : decode cX4_type 66 = .ok (.iadd, 1) := by decide +kernel
theorem dX4_type_67 : decode cX4_type 67 = .ok (.putfield 61, 3) := by decide +kernel
theorem dX4_type_70 : decode cX4_type 70 = .ok (.iinc 4 (-1), 3) := by decide +kernel
theorem dX4_type_73 : decode cX4_type 73 = .ok (.goto (-39), 3) := by decide +kernel
theorem dX4_type_76 : decode cX4_type 76 = .ok (.aload_n 0, 1) := by decide +kernel
theorem dX4_type_77 : decode cX4_type 77 = .ok (.getfield 61, 3) := by decide +kernel
theorem dX4_type_80 : decode cX4_type 80 = .ok (.ireturn, 1) := by decide +kernel
theorem dX4_clear_0 : decode cX4_clear 0 = .ok (.aload_n 0, 1) := by decide +kernel
theorem dX4_clear_1 : decode cX4_clear 1 = .ok (.getfield 61, 3) := by decide +kernel
theorem dX4_clear_4 : decode cX4_clear 4 = .ok (.istore_n 1, 1) := by decide +kernel
theorem dX4_clear_5 : decode cX4_clear 5 = .ok (.aload_n 0, 1) := by decide +kernel
theorem dX4_clear_6 : decode cX4_clear 6 = .ok (.iconst 0, 1) := by decide +kernel
theorem dX4_clear_7 : decode cX4_clear 7 = .ok (.putfield 61, 3) := by decide +kernel
theorem dX4_clear_10 : decode cX4_clear 10 = .ok (.iload_n 1, 1) := by decide +kernel
theorem dX4_clear_11 : decode cX4_clear 11 = .ok (.ireturn, 1) := by decide +kernel
theorem dX4_isLetter_0 : decode cX4_isLetter 0 = .ok (.iload_n 0, 1) := by decide +kernel
theorem dX4_isLetter_1 : decode cX4_isLetter 1 = .ok (.bipush 96, 2) := by decide +kernel
theorem dX4_isLetter_3 : decode cX4_isLetter 3 = .ok (.if_icmp .le 13, 3) := by decide +kernel
theorem dX4_isLetter_6 : decode cX4_isLetter 6 = .ok (.iload_n 0, 1) := by decide +kernel
theorem dX4_isLetter_7 : decode cX4_isLetter 7 = .ok (.bipush 123, 2) := by decide +kernel
theorem dX4_isLetter_9 : decode cX4_isLetter 9 = .ok (.if_icmp .ge 7, 3) := by decide +kernel
theorem dX4_isLetter_12 : decode cX4_isLetter 12 = .ok (.iconst 1, 1) := by decide +kernel
theorem dX4_isLetter_13 : decode cX4_isLetter 13 = .ok (.goto 4, 3) := by decide +kernel
theorem dX4_isLetter_16 : decode cX4_isLetter 16 = .ok (.iconst 0, 1) := by decide +kernel
theorem dX4_isLetter_17 : decode cX4_isLetter 17 = .ok (.ireturn, 1) := by decide +kernel
theorem dX4_isFigure_0 : decode cX4_isFigure 0 = .ok (.iload_n 0, 1) := by decide +kernel
theorem dX4_isFigure_1 : decode cX4_isFigure 1 = .ok (.bipush 47, 2) := by decide +kernel
theorem dX4_isFigure_3 : decode cX4_isFigure 3 = .ok (.if_icmp .le 13, 3) := by decide +kernel
theorem dX4_isFigure_6 : decode cX4_isFigure 6 = .ok (.iload_n 0, 1) := by decide +kernel
theorem dX4_isFigure_7 : decode cX4_isFigure 7 = .ok (.bipush 58, 2) := by decide +kernel
theorem dX4_isFigure_9 : decode cX4_isFigure 9 = .ok (.if_icmp .ge 7, 3) := by decide +kernel
theorem dX4_isFigure_12 : decode cX4_isFigure 12 = .ok (.iconst 1, 1) := by decide +kernel
theorem dX4_isFigure_13 : decode cX4_isFigure 13 = .ok (.goto 4, 3) := by decide +kernel
theorem dX4_isFigure_16 : decode cX4_isFigure 16 = .ok (.iconst 0, 1) := by decide +kernel
theorem dX4_isFigure_17 : decode cX4_isFigure 17 = .ok (.ireturn, 1) := by decide +kernel
set_option maxRecDepth 20000 in
theorem ggX4_next_X4_isLetter : GoodIn wsX4_next wsX4_isLetter := goodIn_r _ [16] (by decide +kernel) (by decide +kernel)
set_option maxRecDepth 20000 in
theorem gX4_next_X4_isLetter : GoodIn wsX4_next (va_wsS RX4 75 yX4_isLetter wsX4_isLetter) := goodIn_app (goodIn_of _ (by decide +kernel)) ggX4_next_X4_isLetter
set_option maxRecDepth 20000 in
theorem ggX4_next_X4_isFigure : GoodIn wsX4_next wsX4_isFigure := goodIn_r _ [19] (by decide +kernel) (by decide +kernel)
set_option maxRecDepth 20000 in
theorem gX4_next_X4_isFigure : GoodIn wsX4_next (va_wsS RX4 79 yX4_isFigure wsX4_isFigure) := goodIn_app (goodIn_of _ (by decide +kernel)) ggX4_next_X4_isFigure
theorem dX4_next_0 : decode cX4_next 0 = .ok (.aload_n 0, 1) := by decide +kernel
theorem dX4_next_1 : decode cX4_next 1 = .ok (.getfield 66, 3) := by decide +kernel
theorem dX4_next_4 : decode cX4_next 4 = .ok (.aload_n 0, 1) := by decide +kernel
theorem dX4_next_5 : decode cX4_next 5 = .ok (.getfield 61, 3) := by decide +kernel
theorem dX4_next_8 : decode cX4_next 8 = .ok (.if_icmp .ge 30, 3) := by decide +kernel
theorem dX4_next_11 : decode cX4_next 11 = .ok (.aload_n 0, 1) := by decide +kernel
theorem dX4_next_12 : decode cX4_next 12 = .ok (.getfield 7, 3) := by decide +kernel
theorem dX4_next_15 : decode cX4_next 15 = .ok (.aload_n 0, 1) := by decide +kernel
theorem dX4_next_16 : decode cX4_next 16 = .ok (.getfield 66, 3) := by decide +kernel
theorem dX4_next_19 : decode cX4_next 19 = .ok (.iaload, 1) := by decide +kernel
theorem dX4_next_20 : decode cX4_next 20 = .ok (.bipush 32, 2) := by decide +kernel
theorem dX4_next_22 : decode cX4_next 22 = .ok (.if_icmp .ne 16, 3) := by decide +kernel
theorem dX4_next_25 : decode cX4_next 25 = .ok (.aload_n 0, 1) := by decide +kernel
theorem dX4_next_26 : decode cX4_next 26 = .ok (.dup, 1) := by decide +kernel
theorem dX4_next_27 : decode cX4_next 27 = .ok (.getfield 66, 3) := by decide +kernel
theorem dX4_next_30 : decode cX4_next 30 = .ok (.iconst 1, 1) := by decide +kernel
theorem dX4_next_31 : decode cX4_next 31 = .ok (.iadd, 1) := by decide +kernel
theorem dX4_next_32 : decode cX4_next 32 = .ok (.putfield 66, 3) := by decide +kernel
theorem dX4_next_35 : decode cX4_next 35 = .ok (.goto (-35), 3) := by decide +kernel
theorem dX4_next_38 : decode cX4_next 38 = .ok (.aload_n 0, 1) := by decide +kernel
theorem dX4_next_39 : decode cX4_next 39 = .ok (.aload_n 0, 1) := by decide +kernel
theorem dX4_next_40 : decode cX4_next 40 = .ok (.getfield 66, 3) := by decide +kernel
theorem dX4_next_43 : decode cX4_next 43 = .ok (.putfield 69, 3) := by decide +kernel
theorem dX4_next_46 : decode cX4_next 46 = .ok (.aload_n 0, 1) := by decide +kernel
theorem dX4_next_47 : decode cX4_next 47 = .ok (.lconst 0, 1) := by decide +kernel
theorem dX4_next_48 : decode cX4_next 48 = .ok (.putfield 71, 3) := by decide +kernel
theorem dX4_next_51 : decode cX4_next 51 = .ok (.aload_n 0, 1) := by decide +kernel
theorem dX4_next_52 : decode cX4_next 52 = .ok (.getfield 66, 3) := by decide +kernel
theorem dX4_next_55 : decode cX4_next 55 = .ok (.aload_n 0, 1) := by decide +kernel
theorem dX4_next_56 : decode cX4_next 56 = .ok (.getfield 61, 3) := by decide +kernel
theorem dX4_next_59 : decode cX4_next 59 = .ok (.if_icmp .ge 15, 3) := by decide +kernel
theorem dX4_next_62 : decode cX4_next 62 = .ok (.aload_n 0, 1) := by decide +kernel
theorem dX4_next_63 : decode cX4_next 63 = .ok (.getfield 7, 3) := by decide +kernel
theorem dX4_next_66 : decode cX4_next 66 = .ok (.aload_n 0, 1) := by decide +kernel
theorem dX4_next_67 : decode cX4_next 67 = .ok (.getfield 66, 3) := by decide +kernel
theorem dX4_next_70 : decode cX4_next 70 = .ok (.iaload, 1) := by decide +kernel
theorem dX4_next_71 : decode cX4_next 71 = .ok (.goto 4, 3) := by decide +kernel
theorem dX4_next_74 : decode cX4_next 74 = .ok (.iconst (-1), 1) := by decide +kernel
theorem dX4_next_75 : decode cX4_next 75 = .ok (.istore_n 1, 1) := by decide +kernel
theorem dX4_next_76 : decode cX4_next 76 = .ok (.aload_n 0, 1) := by decide +kernel
theorem dX4_next_77 : decode cX4_next 77 = .ok (.iload_n 1, 1) := by decide +kernel
theorem dX4_next_78 : decode cX4_next 78 = .ok (.ifCond .ge 7, 3) := by decide +kernel
theorem dX4_next_81 : decode cX4_next 81 = .ok (.iconst 0, 1) := by decide +kernel
theorem dX4_next_82 : decode cX4_next 82 = .ok (.goto 36, 3) := by decide +kernel
theorem dX4_next_85 : decode cX4_next 85 = .ok (.iload_n 1, 1) := by decide +kernel
theorem dX4_next_86 : decode cX4_next 86 = .ok (.invokestatic 75, 3) := by decide +kernel
theorem dX4_next_89 : decode cX4_next 89 = .ok (.ifCond .eq 7, 3) := by decide +kernel
theorem dX4_next_92 : decode cX4_next 92 = .ok (.iconst 1, 1) := by decide +kernel
theorem dX4_next_93 : decode cX4_next 93 = .ok (.goto 25, 3) := by decide +kernel
theorem dX4_next_96 : decode cX4_next 96 = .ok (.iload_n 1, 1) := by decide +kernel
theorem dX4_next_97 : decode cX4_next 97 = .ok (.invokestatic 79, 3) := by decide +kernel
theorem dX4_next_100 : decode cX4_next 100 = .ok (.ifCond .eq 7, 3) := by decide +kernel
theorem dX4_next_103 : decode cX4_next 103 = .ok (.iconst 2, 1) := by decide +kernel
theorem dX4_next_104 : decode cX4_next 104 = .ok (.goto 14, 3) := by decide +kernel
theorem dX4_next_107 : decode cX4_next 107 = .ok (.iload_n 1, 1) := by decide +kernel
theorem dX4_next_108 : decode cX4_next 108 = .ok (.bipush 59, 2) := by decide +kernel
theorem dX4_next_110 : decode cX4_next 110 = .ok (.if_icmp .ne 7, 3) := by decide +kernel
theorem dX4_next_113 : decode cX4_next 113 = .ok (.iconst 3, 1) := by decide +kernel
theorem dX4_next_114 : decode cX4_next 114 = .ok (.goto 4, 3) := by decide +kernel
theorem dX4_next_117 : decode cX4_next 117 = .ok (.iconst 4, 1) := by decide +kernel
theorem dX4_next_118 : decode cX4_next 118 = .ok (.putfield 82, 3) := by decide +kernel
theorem dX4_next_121 : decode cX4_next 121 = .ok (.aload_n 0, 1) := by decide +kernel
theorem dX4_next_122 : decode cX4_next 122 = .ok (.dup, 1) := by decide +kernel
theorem dX4_next_123 : decode cX4_next 123 = .ok (.getfield 66, 3) := by decide +kernel
theorem dX4_next_126 : decode cX4_next 126 = .ok (.aload_n 0, 1) := by decide +kernel
theorem dX4_next_127 : decode cX4_next 127 = .ok (.getfield 82, 3) := by decide +kernel
theorem dX4_next_130 : decode cX4_next 130 = .ok (.iconst 3, 1) := by decide +kernel
theorem dX4_next_131 : decode cX4_next 131 = .ok (.if_icmp .ne 7, 3) := by decide +kernel
theorem dX4_next_134 : decode cX4_next 134 = .ok (.iconst 1, 1) := by decide +kernel
theorem dX4_next_135 : decode cX4_next 135 = .ok (.goto 4, 3) := by decide +kernel
theorem dX4_next_138 : decode cX4_next 138 = .ok (.iconst 0, 1) := by decide +kernel
theorem dX4_next_139 : decode cX4_next 139 = .ok (.iadd, 1) := by decide +kernel
theorem dX4_next_140 : decode cX4_next 140 = .ok (.putfield 66, 3) := by decide +kernel
theorem dX4_next_143 : decode cX4_next 143 = .ok (.aload_n 0, 1) := by decide +kernel
theorem dX4_next_144 : decode cX4_next 144 = .ok (.getfield 82, 3) := by decide +kernel
theorem dX4_next_147 : decode cX4_next 147 = .ok (.iconst 1, 1) := by decide +kernel
theorem dX4_next_148 : decode cX4_next 148 = .ok (.if_icmp .ne 89, 3) := by decide +kernel
theorem dX4_next_151 : decode cX4_next 151 = .ok (.aload_n 0, 1) := by decide +kernel
theorem dX4_next_152 : decode cX4_next 152 = .ok (.getfield 66, 3) := by decide +kernel
theorem dX4_next_155 : decode cX4_next 155 = .ok (.aload_n 0, 1) := by decide +kernel
theorem dX4_next_156 : decode cX4_next 156 = .ok (.getfield 61, 3) := by decide +kernel
theorem dX4_next_159 : decode cX4_next 159 = .ok (.if_icmp .ge 78, 3) := by decide +kernel
theorem dX4_next_162 : decode cX4_next 162 = .ok (.aload_n 0, 1) := by decide +kernel
theorem dX4_next_163 : decode cX4_next 163 = .ok (.getfield 7, 3) := by decide +kernel
theorem dX4_next_166 : decode cX4_next 166 = .ok (.aload_n 0, 1) := by decide +kernel
theorem dX4_next_167 : decode cX4_next 167 = .ok (.getfield 66, 3) := by decide +kernel
theorem dX4_next_170 : decode cX4_next 170 = .ok (.iaload, 1) := by decide +kernel
theorem dX4_next_171 : decode cX4_next 171 = .ok (.invokestatic 75, 3) := by decide +kernel
theorem dX4_next_174 : decode cX4_next 174 = .ok (.ifCond .eq 63, 3) := by decide +kernel
theorem dX4_next_177 : decode cX4_next 177 = .ok (.aload_n 0, 1) := by decide +kernel
theorem dX4_next_178 : decode cX4_next 178 = .ok (.aload_n 0, 1) := by decide +kernel
theorem dX4_next_179 : decode cX4_next 179 = .ok (.getfield 66, 3) := by decide +kernel
theorem dX4_next_182 : decode cX4_next 182 = .ok (.aload_n 0, 1) := by decide +kernel
theorem dX4_next_183 : decode cX4_next 183 = .ok (.getfield 69, 3) := by decide +kernel
theorem dX4_next_186 : decode cX4_next 186 = .ok (.isub, 1) := by decide +kernel
theorem dX4_next_187 : decode cX4_next 187 = .ok (.bipush 6, 2) := by decide +kernel
theorem dX4_next_189 : decode cX4_next 189 = .ok (.if_icmp .ge 29, 3) := by decide +kernel
theorem dX4_next_192 : decode cX4_next 192 = .ok (.ldc2_w 85, 3) := by decide +kernel
theorem dX4_next_195 : decode cX4_next 195 = .ok (.aload_n 0, 1) := by decide +kernel
theorem dX4_next_196 : decode cX4_next 196 = .ok (.getfield 71, 3) := by decide +kernel
theorem dX4_next_199 : decode cX4_next 199 = .ok (.lmul, 1) := by decide +kernel
theorem dX4_next_200 : decode cX4_next 200 = .ok (.aload_n 0, 1) := by decide +kernel
theorem dX4_next_201 : decode cX4_next 201 = .ok (.getfield 7, 3) := by decide +kernel
theorem dX4_next_204 : decode cX4_next 204 = .ok (.aload_n 0, 1) := by decide +kernel
theorem dX4_next_205 : decode cX4_next 205 = .ok (.getfield 66, 3) := by decide +kernel
theorem dX4_next_208 : decode cX4_next 208 = .ok (.iaload, 1) := by decide +kernel
theorem dX4_next_209 : decode cX4_next 209 = .ok (.i2l, 1) := by decide +kernel
theorem dX4_next_210 : decode cX4_next 210 = .ok (.ladd, 1) := by decide +kernel
theorem dX4_next_211 : decode cX4_next 211 = .ok (.ldc2_w 87, 3) := by decide +kernel
theorem dX4_next_214 : decode cX4_next 214 = .ok (.lsub, 1) := by decide +kernel
theorem dX4_next_215 : decode cX4_next 215 = .ok (.goto 6, 3) := by decide +kernel
theorem dX4_next_218 : decode cX4_next 218 = .ok (.ldc2_w 89, 3) := by decide +kernel
theorem dX4_next_221 : decode cX4_next 221 = .ok (.putfield 71, 3) := by decide +kernel
theorem dX4_next_224 : decode cX4_next 224 = .ok (.aload_n 0, 1) := by decide +kernel
theorem dX4_next_225 : decode cX4_next 225 = .ok (.dup, 1) := by decide +kernel
theorem dX4_next_226 : decode cX4_next 226 = .ok (.getfield 66, 3) := by decide +kernel
theorem dX4_next_229 : decode cX4_next 229 = .ok (.iconst 1, 1) := by decide +kernel
theorem dX4_next_230 : decode cX4_next 230 = .ok (.iadd, 1) := by decide +kernel
theorem dX4_next_231 : decode cX4_next 231 = .ok (.putfield 66, 3) := by decide +kernel
theorem dX4_next_234 : decode cX4_next 234 = .ok (.goto (-91), 3) := by decide +kernel
theorem dX4_next_237 : decode cX4_next 237 = .ok (.aload_n 0, 1) := by decide +kernel
theorem dX4_next_238 : decode cX4_next 238 = .ok (.getfield 82, 3) := by decide +kernel
theorem dX4_next_241 : decode cX4_next 241 = .ok (.iconst 2, 1) := by decide +kernel
theorem dX4_next_242 : decode cX4_next 242 = .ok (.if_icmp .ne 88, 3) := by decide +kernel
theorem dX4_next_245 : decode cX4_next 245 = .ok (.aload_n 0, 1) := by decide +kernel
theorem dX4_next_246 : decode cX4_next 246 = .ok (.getfield 66, 3) := by decide +kernel
theorem dX4_next_249 : decode cX4_next 249 = .ok (.aload_n 0, 1) := by decide +kernel
theorem dX4_next_250 : decode cX4_next 250 = .ok (.getfield 61, 3) := by decide +kernel
theorem dX4_next_253 : decode cX4_next 253 = .ok (.if_icmp .ge 77, 3) := by decide +kernel
theorem dX4_next_256 : decode cX4_next 256 = .ok (.aload_n 0, 1) := by decide +kernel
theorem dX4_next_257 : decode cX4_next 257 = .ok (.getfield 7, 3) := by decide +kernel
theorem dX4_next_260 : decode cX4_next 260 = .ok (.aload_n 0, 1) := by decide +kernel
theorem dX4_next_261 : decode cX4_next 261 = .ok (.getfield 66, 3) := by decide +kernel
theorem dX4_next_264 : decode cX4_next 264 = .ok (.iaload, 1) := by decide +kernel
theorem dX4_next_265 : decode cX4_next 265 = .ok (.invokestatic 79, 3) := by decide +kernel
theorem dX4_next_268 : decode cX4_next 268 = .ok (.ifCond .eq 62, 3) := by decide +kernel
theorem dX4_next_271 : decode cX4_next 271 = .ok (.aload_n 0, 1) := by decide +kernel
theorem dX4_next_272 : decode cX4_next 272 = .ok (.aload_n 0, 1) := by decide +kernel
theorem dX4_next_273 : decode cX4_next 273 = .ok (.getfield 66, 3) := by decide +kernel
theorem dX4_next_276 : decode cX4_next 276 = .ok (.aload_n 0, 1) := by decide +kernel
theorem dX4_next_277 : decode cX4_next 277 = .ok (.getfield 69, 3) := by decide +kernel
theorem dX4_next_280 : decode cX4_next 280 = .ok (.isub, 1) := by decide +kernel
theorem dX4_next_281 : decode cX4_next 281 = .ok (.iconst 2, 1) := by decide +kernel
theorem dX4_next_282 : decode cX4_next 282 = .ok (.if_icmp .ge 29, 3) := by decide +kernel
theorem dX4_next_285 : decode cX4_next 285 = .ok (.ldc2_w 91, 3) := by decide +kernel
theorem dX4_next_288 : decode cX4_next 288 = .ok (.aload_n 0, 1) := by decide +kernel
theorem dX4_next_289 : decode cX4_next 289 = .ok (.getfield 71, 3) := by decide +kernel
theorem dX4_next_292 : decode cX4_next 292 = .ok (.lmul, 1) := by decide +kernel
theorem dX4_next_293 : decode cX4_next 293 = .ok (.aload_n 0, 1) := by decide +kernel
theorem dX4_next_294 : decode cX4_next 294 = .ok (.getfield 7, 3) := by decide +kernel
theorem dX4_next_297 : decode cX4_next 297 = .ok (.aload_n 0, 1) := by decide +kernel
theorem dX4_next_298 : decode cX4_next 298 = .ok (.getfield 66, 3) := by decide +kernel
theorem dX4_next_301 : decode cX4_next 301 = .ok (.iaload, 1) := by decide +kernel
theorem dX4_next_302 : decode cX4_next 302 = .ok (.i2l, 1) := by decide +kernel
theorem dX4_next_303 : decode cX4_next 303 = .ok (.ladd, 1) := by decide +kernel
theorem dX4_next_304 : decode cX4_next 304 = .ok (.ldc2_w 93, 3) := by decide +kernel
theorem dX4_next_307 : decode cX4_next 307 = .ok (.lsub, 1) := by decide +kernel
theorem dX4_next_308 : decode cX4_next 308 = .ok (.goto 6, 3) := by decide +kernel
theorem dX4_next_311 : decode cX4_next 311 = .ok (.ldc2_w 95, 3) := by decide +kernel
theorem dX4_next_314 : decode cX4_next 314 = .ok (.putfield 71, 3) := by decide +kernel
theorem dX4_next_317 : decode cX4_next 317 = .ok (.aload_n 0, 1) := by decide +kernel
theorem dX4_next_318 : decode cX4_next 318 = .ok (.dup, 1) := by decide +kernel
theorem dX4_next_319 : decode cX4_next 319 = .ok (.getfield 66, 3) := by decide +kernel
theorem dX4_next_322 : decode cX4_next 322 = .ok (.iconst 1, 1) := by decide +kernel
theorem dX4_next_323 : decode cX4_next 323 = .ok (.iadd, 1) := by decide +kernel
theorem dX4_next_324 : decode cX4_next 324 = .ok (.putfield 66, 3) := by decide +kernel
theorem dX4_next_327 : decode cX4_next 327 = .ok (.goto (-90), 3) := by decide +kernel
theorem dX4_next_330 : decode cX4_next 330 = .ok (.aload_n 0, 1) := by decide +kernel
theorem dX4_next_331 : decode cX4_next 331 = .ok (.getfield 82, 3) := by decide +kernel
theorem dX4_next_334 : decode cX4_next 334 = .ok (.iconst 2, 1) := by decide +kernel
theorem dX4_next_335 : decode cX4_next 335 = .ok (.if_icmp .ne 35, 3) := by decide +kernel
theorem dX4_next_338 : decode cX4_next 338 = .ok (.aload_n 0, 1) := by decide +kernel
theorem dX4_next_339 : decode cX4_next 339 = .ok (.getfield 7, 3) := by decide +kernel
theorem dX4_next_342 : decode cX4_next 342 = .ok (.aload_n 0, 1) := by decide +kernel
theorem dX4_next_343 : decode cX4_next 343 = .ok (.getfield 69, 3) := by decide +kernel
theorem dX4_next_346 : decode cX4_next 346 = .ok (.iaload, 1) := by decide +kernel
theorem dX4_next_347 : decode cX4_next 347 = .ok (.bipush 48, 2) := by decide +kernel
theorem dX4_next_349 : decode cX4_next 349 = .ok (.if_icmp .ne 21, 3) := by decide +kernel
theorem dX4_next_352 : decode cX4_next 352 = .ok (.aload_n 0, 1) := by decide +kernel
theorem dX4_next_353 : decode cX4_next 353 = .ok (.getfield 66, 3) := by decide +kernel
theorem dX4_next_356 : decode cX4_next 356 = .ok (.aload_n 0, 1) := by decide +kernel
theorem dX4_next_357 : decode cX4_next 357 = .ok (.getfield 69, 3) := by decide +kernel
theorem dX4_next_360 : decode cX4_next 360 = .ok (.isub, 1) := by decide +kernel
theorem dX4_next_361 : decode cX4_next 361 = .ok (.iconst 1, 1) := by decide +kernel
theorem dX4_next_362 : decode cX4_next 362 = .ok (.if_icmp .le 8, 3) := by decide +kernel
theorem dX4_next_365 : decode cX4_next 365 = .ok (.aload_n 0, 1) := by decide +kernel
theorem dX4_next_366 : decode cX4_next 366 = .ok (.iconst 4, 1) := by decide +kernel
theorem dX4_next_367 : decode cX4_next 367 = .ok (.putfield 82, 3) := by decide +kernel
theorem dX4_next_370 : decode cX4_next 370 = .ok (.return_, 1) := by decide +kernel
set_option maxRecDepth 20000 in
theorem ggX4_takes_X4_next : GoodIn wsX4_takes wsX4_next := goodIn_r _ [7, 8, 9, 10, 11, 2, 1, 12, 13, 14, 15, 16, 17, 18, 19, 6, 20, 21, 22, 23, 27, 28, 29, 30, 31, 32, 33, 34, 35, 36, 37, 38, 39, 40, 41, 42, 43, 44, 45, 46, 47, 48, 49] (by decide +kernel) (by decide +kernel)
set_option maxRecDepth 20000 in
theorem gX4_takes_X4_next : GoodIn wsX4_takes (wsV RX4 97 RX4 yX4_next wsX4_next) := goodIn_app (goodIn_of _ (by decide +kernel)) ggX4_takes_X4_next
set_option maxRecDepth 20000 in
theorem ggX4_takes_X4_in : GoodIn wsX4_takes wsX4_in := goodIn_r _ [26] (by decide +kernel) (by decide +kernel)
set_option maxRecDepth 20000 in
theorem gX4_takes_X4_in : GoodIn wsX4_takes (va_wsS RX4 57 yX4_in wsX4_in) := goodIn_app (goodIn_of _ (by decide +kernel)) ggX4_takes_X4_in
theorem dX4_takes_0 : decode cX4_takes 0 = .ok (.aload_n 0, 1) := by decide +kernel
theorem dX4_takes_1 : decode cX4_takes 1 = .ok (.invokevirtual 97, 3) := by decide +kernel
theorem dX4_takes_4 : decode cX4_takes 4 = .ok (.aload_n 0, 1) := by decide +kernel
theorem dX4_takes_5 : decode cX4_takes 5 = .ok (.getfield 82, 3) := by decide +kernel
theorem dX4_takes_8 : decode cX4_takes 8 = .ok (.iconst 2, 1) := by decide +kernel
theorem dX4_takes_9 : decode cX4_takes 9 = .ok (.if_icmp .ne 21, 3) := by decide +kernel
theorem dX4_takes_12 : decode cX4_takes 12 = .ok (.aload_n 0, 1) := by decide +kernel
theorem dX4_takes_13 : decode cX4_takes 13 = .ok (.getfield 71, 3) := by decide +kernel
theorem dX4_takes_16 : decode cX4_takes 16 = .ok (.iload_n 1, 1) := by decide +kernel
theorem dX4_takes_17 : decode cX4_takes 17 = .ok (.i2l, 1) := by decide +kernel
theorem dX4_takes_18 : decode cX4_takes 18 = .ok (.iload_n 2, 1) := by decide +kernel
theorem dX4_takes_19 : decode cX4_takes 19 = .ok (.i2l, 1) := by decide +kernel
theorem dX4_takes_20 : decode cX4_takes 20 = .ok (.invokestatic 57, 3) := by decide +kernel
theorem dX4_takes_23 : decode cX4_takes 23 = .ok (.ifCond .eq 7, 3) := by decide +kernel
theorem dX4_takes_26 : decode cX4_takes 26 = .ok (.iconst 1, 1) := by decide +kernel
theorem dX4_takes_27 : decode cX4_takes 27 = .ok (.goto 4, 3) := by decide +kernel
theorem dX4_takes_30 : decode cX4_takes 30 = .ok (.iconst 0, 1) := by decide +kernel
theorem dX4_takes_31 : decode cX4_takes 31 = .ok (.ireturn, 1) := by decide +kernel
set_option maxRecDepth 20000 in
theorem ggX4_stops_X4_next : GoodIn wsX4_stops wsX4_next := goodIn_r _ [6, 7, 8, 9, 10, 11, 1, 12, 13, 14, 15, 16, 17, 18, 19, 5, 20, 21, 22, 23, 24, 25, 26, 27, 28, 29, 30, 31, 32, 33, 34, 35, 36, 37, 38, 39, 40, 41, 42, 43, 44, 45, 46] (by decide +kernel) (by decide +kernel)
set_option maxRecDepth 20000 in
theorem gX4_stops_X4_next : GoodIn wsX4_stops (wsV RX4 97 RX4 yX4_next wsX4_next) := goodIn_app (goodIn_of _ (by decide +kernel)) ggX4_stops_X4_next
theorem dX4_stops_0 : decode cX4_stops 0 = .ok (.aload_n 0, 1) := by decide +kernel
theorem dX4_stops_1 : decode cX4_stops 1 = .ok (.invokevirtual 97, 3) := by decide +kernel
theorem dX4_stops_4 : decode cX4_stops 4 = .ok (.aload_n 0, 1) := by decide +kernel
theorem dX4_stops_5 : decode cX4_stops 5 = .ok (.getfield 82, 3) := by decide +kernel
theorem dX4_stops_8 : decode cX4_stops 8 = .ok (.iconst 3, 1) := by decide +kernel
theorem dX4_stops_9 : decode cX4_stops 9 = .ok (.if_icmp .ne 7, 3) := by decide +kernel
theorem dX4_stops_12 : decode cX4_stops 12 = .ok (.iconst 1, 1) := by decide +kernel
theorem dX4_stops_13 : decode cX4_stops 13 = .ok (.goto 4, 3) := by decide +kernel
theorem dX4_stops_16 : decode cX4_stops 16 = .ok (.iconst 0, 1) := by decide +kernel
theorem dX4_stops_17 : decode cX4_stops 17 = .ok (.ireturn, 1) := by decide +kernel
theorem dX4_readParts_0 : decode cX4_readParts 0 = .ok (.aload_n 0, 1) := by decide +kernel
theorem dX4_readParts_1 : decode cX4_readParts 1 = .ok (.getfield 42, 3) := by decide +kernel
theorem dX4_readParts_4 : decode cX4_readParts 4 = .ok (.iconst 0, 1) := by decide +kernel
theorem dX4_readParts_5 : decode cX4_readParts 5 = .ok (.iaload, 1) := by decide +kernel
theorem dX4_readParts_6 : decode cX4_readParts 6 = .ok (.ifCond .ge 7, 3) := by decide +kernel
theorem dX4_readParts_9 : decode cX4_readParts 9 = .ok (.iconst 5, 1) := by decide +kernel
theorem dX4_readParts_10 : decode cX4_readParts 10 = .ok (.goto 9, 3) := by decide +kernel
theorem dX4_readParts_13 : decode cX4_readParts 13 = .ok (.aload_n 0, 1) := by decide +kernel
theorem dX4_readParts_14 : decode cX4_readParts 14 = .ok (.getfield 42, 3) := by decide +kernel
theorem dX4_readParts_17 : decode cX4_readParts 17 = .ok (.iconst 0, 1) := by decide +kernel
theorem dX4_readParts_18 : decode cX4_readParts 18 = .ok (.iaload, 1) := by decide +kernel
theorem dX4_readParts_19 : decode cX4_readParts 19 = .ok (.ireturn, 1) := by decide +kernel
set_option maxRecDepth 20000 in
theorem ggX4_takesTold_X4_readParts : GoodIn wsX4_takesTold wsX4_readParts := goodIn_r _ [9, 2, 42, 43, 44, 45, 46, 47, 48, 49, 50, 51, 52, 53, 54, 55, 56, 57, 58, 59, 60, 61, 62, 63, 64] (by decide +kernel) (by decide +kernel)
set_option maxRecDepth 20000 in
theorem gX4_takesTold_X4_readParts : GoodIn wsX4_takesTold (wsV RX4 103 RX4 yX4_readParts wsX4_readParts) := goodIn_app (goodIn_of _ (by decide +kernel)) ggX4_takesTold_X4_readParts
set_option maxRecDepth 20000 in
theorem ggX4_takesTold_X4_takes : GoodIn wsX4_takesTold wsX4_takes := goodIn_r _ [13, 14, 3, 15, 16, 17, 8, 18, 19, 20, 21, 22, 23, 24, 25, 26, 27, 28, 29, 30, 31, 32, 33, 34, 35, 36, 37, 42, 43, 44, 45, 46, 47, 48, 49, 50, 51, 52, 53, 54, 55, 56, 57, 58, 59, 60, 61, 62, 63, 64] (by decide +kernel) (by decide +kernel)
set_option maxRecDepth 20000 in
theorem gX4_takesTold_X4_takes : GoodIn wsX4_takesTold (wsV RX4 107 RX4 yX4_takes wsX4_takes) := goodIn_app (goodIn_of _ (by decide +kernel)) ggX4_takesTold_X4_takes
set_option maxRecDepth 20000 in
theorem ggX4_takesTold_X4_stops : GoodIn wsX4_takesTold wsX4_stops := goodIn_r _ [41, 14, 15, 16, 17, 8, 18, 19, 20, 21, 22, 3, 23, 24, 25, 26, 27, 28, 29, 30, 31, 32, 33, 34, 42, 43, 44, 45, 46, 47, 48, 49, 50, 51, 52, 53, 54, 55, 56, 57, 58, 59, 60, 61, 62, 63, 64] (by decide +kernel) (by decide +kernel)
set_option maxRecDepth 20000 in
theorem gX4_takesTold_X4_stops : GoodIn wsX4_takesTold (wsV RX4 111 RX4 yX4_stops wsX4_stops) := goodIn_app (goodIn_of _ (by decide +kernel)) ggX4_takesTold_X4_stops
theorem dX4_takesTold_0 : decode cX4_takesTold 0 = .ok (.aload_n 0, 1) := by decide +kernel
theorem dX4_takesTold_1 : decode cX4_takesTold 1 = .ok (.getfield 100, 3) := by decide +kernel
theorem dX4_takesTold_4 : decode cX4_takesTold 4 = .ok (.ifCond .gt 25, 3) := by decide +kernel
theorem dX4_takesTold_7 : decode cX4_takesTold 7 = .ok (.aload_n 0, 1) := by decide +kernel
theorem dX4_takesTold_8 : decode cX4_takesTold 8 = .ok (.getfield 42, 3) := by decide +kernel
theorem dX4_takesTold_11 : decode cX4_takesTold 11 = .ok (.iload_n 1, 1) := by decide +kernel
theorem dX4_takesTold_12 : decode cX4_takesTold 12 = .ok (.iaload, 1) := by decide +kernel
theorem dX4_takesTold_13 : decode cX4_takesTold 13 = .ok (.ifCond .ge 16, 3) := by decide +kernel
theorem dX4_takesTold_16 : decode cX4_takesTold 16 = .ok (.iload_n 1, 1) := by decide +kernel
theorem dX4_takesTold_17 : decode cX4_takesTold 17 = .ok (.ifCond .ne 14, 3) := by decide +kernel
theorem dX4_takesTold_20 : decode cX4_takesTold 20 = .ok (.aload_n 0, 1) := by decide +kernel
theorem dX4_takesTold_21 : decode cX4_takesTold 21 = .ok (.getfield 42, 3) := by decide +kernel
theorem dX4_takesTold_24 : decode cX4_takesTold 24 = .ok (.iconst 1, 1) := by decide +kernel
theorem dX4_takesTold_25 : decode cX4_takesTold 25 = .ok (.iaload, 1) := by decide +kernel
theorem dX4_takesTold_26 : decode cX4_takesTold 26 = .ok (.ifCond .lt 5, 3) := by decide +kernel
theorem dX4_takesTold_29 : decode cX4_takesTold 29 = .ok (.iconst 0, 1) := by decide +kernel
theorem dX4_takesTold_30 : decode cX4_takesTold 30 = .ok (.ireturn, 1) := by decide +kernel
theorem dX4_takesTold_31 : decode cX4_takesTold 31 = .ok (.iload_n 1, 1) := by decide +kernel
theorem dX4_takesTold_32 : decode cX4_takesTold 32 = .ok (.ifCond .ne 7, 3) := by decide +kernel
theorem dX4_takesTold_35 : decode cX4_takesTold 35 = .ok (.iconst 3, 1) := by decide +kernel
theorem dX4_takesTold_36 : decode cX4_takesTold 36 = .ok (.goto 13, 3) := by decide +kernel
theorem dX4_takesTold_39 : decode cX4_takesTold 39 = .ok (.iload_n 1, 1) := by decide +kernel
theorem dX4_takesTold_40 : decode cX4_takesTold 40 = .ok (.iconst 1, 1) := by decide +kernel
theorem dX4_takesTold_41 : decode cX4_takesTold 41 = .ok (.if_icmp .ne 7, 3) := by decide +kernel
theorem dX4_takesTold_44 : decode cX4_takesTold 44 = .ok (.iconst 1, 1) := by decide +kernel
theorem dX4_takesTold_45 : decode cX4_takesTold 45 = .ok (.goto 4, 3) := by decide +kernel
theorem dX4_takesTold_48 : decode cX4_takesTold 48 = .ok (.iconst 0, 1) := by decide +kernel
theorem dX4_takesTold_49 : decode cX4_takesTold 49 = .ok (.istore_n 2, 1) := by decide +kernel
theorem dX4_takesTold_50 : decode cX4_takesTold 50 = .ok (.iload_n 1, 1) := by decide +kernel
theorem dX4_takesTold_51 : decode cX4_takesTold 51 = .ok (.ifCond .ne 8, 3) := by decide +kernel
theorem dX4_takesTold_54 : decode cX4_takesTold 54 = .ok (.bipush 63, 2) := by decide +kernel
theorem dX4_takesTold_56 : decode cX4_takesTold 56 = .ok (.goto 29, 3) := by decide +kernel
theorem dX4_takesTold_59 : decode cX4_takesTold 59 = .ok (.iload_n 1, 1) := by decide +kernel
theorem dX4_takesTold_60 : decode cX4_takesTold 60 = .ok (.iconst 1, 1) := by decide +kernel
theorem dX4_takesTold_61 : decode cX4_takesTold 61 = .ok (.if_icmp .ne 12, 3) := by decide +kernel
theorem dX4_takesTold_64 : decode cX4_takesTold 64 = .ok (.aload_n 0, 1) := by decide +kernel
theorem dX4_takesTold_65 : decode cX4_takesTold 65 = .ok (.invokevirtual 103, 3) := by decide +kernel
theorem dX4_takesTold_68 : decode cX4_takesTold 68 = .ok (.iconst 1, 1) := by decide +kernel
theorem dX4_takesTold_69 : decode cX4_takesTold 69 = .ok (.isub, 1) := by decide +kernel
theorem dX4_takesTold_70 : decode cX4_takesTold 70 = .ok (.goto 15, 3) := by decide +kernel
theorem dX4_takesTold_73 : decode cX4_takesTold 73 = .ok (.iload_n 1, 1) := by decide +kernel
theorem dX4_takesTold_74 : decode cX4_takesTold 74 = .ok (.iconst 2, 1) := by decide +kernel
theorem dX4_takesTold_75 : decode cX4_takesTold 75 = .ok (.if_icmp .ne 8, 3) := by decide +kernel
theorem dX4_takesTold_78 : decode cX4_takesTold 78 = .ok (.bipush 99, 2) := by decide +kernel
theorem dX4_takesTold_80 : decode cX4_takesTold 80 = .ok (.goto 5, 3) := by decide +kernel
theorem dX4_takesTold_83 : decode cX4_takesTold 83 = .ok (.bipush 9, 2) := by decide +kernel
theorem dX4_takesTold_85 : decode cX4_takesTold 85 = .ok (.istore_n 3, 1) := by decide +kernel
theorem dX4_takesTold_86 : decode cX4_takesTold 86 = .ok (.aload_n 0, 1) := by decide +kernel
theorem dX4_takesTold_87 : decode cX4_takesTold 87 = .ok (.iload_n 2, 1) := by decide +kernel
theorem dX4_takesTold_88 : decode cX4_takesTold 88 = .ok (.iload_n 3, 1) := by decide +kernel
theorem dX4_takesTold_89 : decode cX4_takesTold 89 = .ok (.invokevirtual 107, 3) := by decide +kernel
theorem dX4_takesTold_92 : decode cX4_takesTold 92 = .ok (.ifCond .eq 20, 3) := by decide +kernel
theorem dX4_takesTold_95 : decode cX4_takesTold 95 = .ok (.iload_n 1, 1) := by decide +kernel
theorem dX4_takesTold_96 : decode cX4_takesTold 96 = .ok (.ifCond .ne 18, 3) := by decide +kernel
theorem dX4_takesTold_99 : decode cX4_takesTold 99 = .ok (.aload_n 0, 1) := by decide +kernel
theorem dX4_takesTold_100 : decode cX4_takesTold 100 = .ok (.getfield 71, 3) := by decide +kernel
theorem dX4_takesTold_103 : decode cX4_takesTold 103 = .ok (.ldc2_w 53, 3) := by decide +kernel
theorem dX4_takesTold_106 : decode cX4_takesTold 106 = .ok (.lrem, 1) := by decide +kernel
theorem dX4_takesTold_107 : decode cX4_takesTold 107 = .ok (.lconst 0, 1) := by decide +kernel
theorem dX4_takesTold_108 : decode cX4_takesTold 108 = .ok (.lcmp, 1) := by decide +kernel
theorem dX4_takesTold_109 : decode cX4_takesTold 109 = .ok (.ifCond .ne 5, 3) := by decide +kernel
theorem dX4_takesTold_112 : decode cX4_takesTold 112 = .ok (.iconst 0, 1) := by decide +kernel
theorem dX4_takesTold_113 : decode cX4_takesTold 113 = .ok (.ireturn, 1) := by decide +kernel
theorem dX4_takesTold_114 : decode cX4_takesTold 114 = .ok (.aload_n 0, 1) := by decide +kernel
theorem dX4_takesTold_115 : decode cX4_takesTold 115 = .ok (.getfield 42, 3) := by decide +kernel
theorem dX4_takesTold_118 : decode cX4_takesTold 118 = .ok (.iload_n 1, 1) := by decide +kernel
theorem dX4_takesTold_119 : decode cX4_takesTold 119 = .ok (.aload_n 0, 1) := by decide +kernel
theorem dX4_takesTold_120 : decode cX4_takesTold 120 = .ok (.getfield 71, 3) := by decide +kernel
theorem dX4_takesTold_123 : decode cX4_takesTold 123 = .ok (.l2i, 1) := by decide +kernel
theorem dX4_takesTold_124 : decode cX4_takesTold 124 = .ok (.iastore, 1) := by decide +kernel
theorem dX4_takesTold_125 : decode cX4_takesTold 125 = .ok (.aload_n 0, 1) := by decide +kernel
theorem dX4_takesTold_126 : decode cX4_takesTold 126 = .ok (.invokevirtual 111, 3) := by decide +kernel
theorem dX4_takesTold_129 : decode cX4_takesTold 129 = .ok (.ireturn, 1) := by decide +kernel
set_option maxRecDepth 20000 in
theorem ggX4_takesFold_X4_takes : GoodIn wsX4_takesFold wsX4_takes := goodIn_r _ [8, 9, 2, 10, 11, 12, 7, 13, 14, 15, 16, 17, 18, 19, 20, 21, 22, 23, 24, 25, 26, 27, 28, 29, 30, 31, 32, 37, 38, 39, 40, 41, 42, 43, 44, 45, 46, 47, 48, 49, 50, 51, 52, 53, 54, 55, 56, 57, 58, 59] (by decide +kernel) (by decide +kernel)
set_option maxRecDepth 20000 in
theorem gX4_takesFold_X4_takes : GoodIn wsX4_takesFold (wsV RX4 107 RX4 yX4_takes wsX4_takes) := goodIn_app (goodIn_of _ (by decide +kernel)) ggX4_takesFold_X4_takes
set_option maxRecDepth 20000 in
theorem ggX4_takesFold_X4_stops : GoodIn wsX4_takesFold wsX4_stops := goodIn_r _ [36, 9, 10, 11, 12, 7, 13, 14, 15, 16, 17, 2, 18, 19, 20, 21, 22, 23, 24, 25, 26, 27, 28, 29, 37, 38, 39, 40, 41, 42, 43, 44, 45, 46, 47, 48, 49, 50, 51, 52, 53, 54, 55, 56, 57, 58, 59] (by decide +kernel) (by decide +kernel)
set_option maxRecDepth 20000 in
theorem gX4_takesFold_X4_stops : GoodIn wsX4_takesFold (wsV RX4 111 RX4 yX4_stops wsX4_stops) := goodIn_app (goodIn_of _ (by decide +kernel)) ggX4_takesFold_X4_stops
theorem dX4_takesFold_0 : decode cX4_takesFold 0 = .ok (.aload_n 0, 1) := by decide +kernel
theorem dX4_takesFold_1 : decode cX4_takesFold 1 = .ok (.getfield 100, 3) := by decide +kernel
theorem dX4_takesFold_4 : decode cX4_takesFold 4 = .ok (.bipush 20, 2) := by decide +kernel
theorem dX4_takesFold_6 : decode cX4_takesFold 6 = .ok (.if_icmp .eq 17, 3) := by decide +kernel
theorem dX4_takesFold_9 : decode cX4_takesFold 9 = .ok (.aload_n 0, 1) := by decide +kernel
theorem dX4_takesFold_10 : decode cX4_takesFold 10 = .ok (.iconst 0, 1) := by decide +kernel
theorem dX4_takesFold_11 : decode cX4_takesFold 11 = .ok (.aload_n 0, 1) := by decide +kernel
theorem dX4_takesFold_12 : decode cX4_takesFold 12 = .ok (.getfield 100, 3) := by decide +kernel
theorem dX4_takesFold_15 : decode cX4_takesFold 15 = .ok (.iconst 2, 1) := by decide +kernel
theorem dX4_takesFold_16 : decode cX4_takesFold 16 = .ok (.iadd, 1) := by decide +kernel
theorem dX4_takesFold_17 : decode cX4_takesFold 17 = .ok (.invokevirtual 107, 3) := by decide +kernel
theorem dX4_takesFold_20 : decode cX4_takesFold 20 = .ok (.ifCond .ne 5, 3) := by decide +kernel
theorem dX4_takesFold_23 : decode cX4_takesFold 23 = .ok (.iconst 0, 1) := by decide +kernel
theorem dX4_takesFold_24 : decode cX4_takesFold 24 = .ok (.ireturn, 1) := by decide +kernel
theorem dX4_takesFold_25 : decode cX4_takesFold 25 = .ok (.aload_n 0, 1) := by decide +kernel
theorem dX4_takesFold_26 : decode cX4_takesFold 26 = .ok (.getfield 71, 3) := by decide +kernel
theorem dX4_takesFold_29 : decode cX4_takesFold 29 = .ok (.l2i, 1) := by decide +kernel
theorem dX4_takesFold_30 : decode cX4_takesFold 30 = .ok (.istore_n 1, 1) := by decide +kernel
theorem dX4_takesFold_31 : decode cX4_takesFold 31 = .ok (.aload_n 0, 1) := by decide +kernel
theorem dX4_takesFold_32 : decode cX4_takesFold 32 = .ok (.iconst 0, 1) := by decide +kernel
theorem dX4_takesFold_33 : decode cX4_takesFold 33 = .ok (.aload_n 0, 1) := by decide +kernel
theorem dX4_takesFold_34 : decode cX4_takesFold 34 = .ok (.getfield 100, 3) := by decide +kernel
theorem dX4_takesFold_37 : decode cX4_takesFold 37 = .ok (.iconst 2, 1) := by decide +kernel
theorem dX4_takesFold_38 : decode cX4_takesFold 38 = .ok (.iadd, 1) := by decide +kernel
theorem dX4_takesFold_39 : decode cX4_takesFold 39 = .ok (.invokevirtual 107, 3) := by decide +kernel
theorem dX4_takesFold_42 : decode cX4_takesFold 42 = .ok (.ifCond .eq 13, 3) := by decide +kernel
theorem dX4_takesFold_45 : decode cX4_takesFold 45 = .ok (.aload_n 0, 1) := by decide +kernel
theorem dX4_takesFold_46 : decode cX4_takesFold 46 = .ok (.getfield 71, 3) := by decide +kernel
theorem dX4_takesFold_49 : decode cX4_takesFold 49 = .ok (.iload_n 1, 1) := by decide +kernel
theorem dX4_takesFold_50 : decode cX4_takesFold 50 = .ok (.i2l, 1) := by decide +kernel
theorem dX4_takesFold_51 : decode cX4_takesFold 51 = .ok (.lcmp, 1) := by decide +kernel
theorem dX4_takesFold_52 : decode cX4_takesFold 52 = .ok (.ifCond .ne 5, 3) := by decide +kernel
theorem dX4_takesFold_55 : decode cX4_takesFold 55 = .ok (.iconst 0, 1) := by decide +kernel
theorem dX4_takesFold_56 : decode cX4_takesFold 56 = .ok (.ireturn, 1) := by decide +kernel
theorem dX4_takesFold_57 : decode cX4_takesFold 57 = .ok (.aload_n 0, 1) := by decide +kernel
theorem dX4_takesFold_58 : decode cX4_takesFold 58 = .ok (.getfield 45, 3) := by decide +kernel
theorem dX4_takesFold_61 : decode cX4_takesFold 61 = .ok (.iconst 2, 1) := by decide +kernel
theorem dX4_takesFold_62 : decode cX4_takesFold 62 = .ok (.aload_n 0, 1) := by decide +kernel
theorem dX4_takesFold_63 : decode cX4_takesFold 63 = .ok (.getfield 100, 3) := by decide +kernel
theorem dX4_takesFold_66 : decode cX4_takesFold 66 = .ok (.imul, 1) := by decide +kernel
theorem dX4_takesFold_67 : decode cX4_takesFold 67 = .ok (.iload_n 1, 1) := by decide +kernel
theorem dX4_takesFold_68 : decode cX4_takesFold 68 = .ok (.iastore, 1) := by decide +kernel
theorem dX4_takesFold_69 : decode cX4_takesFold 69 = .ok (.aload_n 0, 1) := by decide +kernel
theorem dX4_takesFold_70 : decode cX4_takesFold 70 = .ok (.getfield 45, 3) := by decide +kernel
theorem dX4_takesFold_73 : decode cX4_takesFold 73 = .ok (.iconst 2, 1) := by decide +kernel
theorem dX4_takesFold_74 : decode cX4_takesFold 74 = .ok (.aload_n 0, 1) := by decide +kernel
theorem dX4_takesFold_75 : decode cX4_takesFold 75 = .ok (.getfield 100, 3) := by decide +kernel
theorem dX4_takesFold_78 : decode cX4_takesFold 78 = .ok (.imul, 1) := by decide +kernel
theorem dX4_takesFold_79 : decode cX4_takesFold 79 = .ok (.iconst 1, 1) := by decide +kernel
theorem dX4_takesFold_80 : decode cX4_takesFold 80 = .ok (.iadd, 1) := by decide +kernel
theorem dX4_takesFold_81 : decode cX4_takesFold 81 = .ok (.aload_n 0, 1) := by decide +kernel
theorem dX4_takesFold_82 : decode cX4_takesFold 82 = .ok (.getfield 71, 3) := by decide +kernel
theorem dX4_takesFold_85 : decode cX4_takesFold 85 = .ok (.l2i, 1) := by decide +kernel
theorem dX4_takesFold_86 : decode cX4_takesFold 86 = .ok (.iastore, 1) := by decide +kernel
theorem dX4_takesFold_87 : decode cX4_takesFold 87 = .ok (.aload_n 0, 1) := by decide +kernel
theorem dX4_takesFold_88 : decode cX4_takesFold 88 = .ok (.dup, 1) := by decide +kernel
theorem dX4_takesFold_89 : decode cX4_takesFold 89 = .ok (.getfield 100, 3) := by decide +kernel
theorem dX4_takesFold_92 : decode cX4_takesFold 92 = .ok (.iconst 1, 1) := by decide +kernel
theorem dX4_takesFold_93 : decode cX4_takesFold 93 = .ok (.iadd, 1) := by decide +kernel
theorem dX4_takesFold_94 : decode cX4_takesFold 94 = .ok (.putfield 100, 3) := by decide +kernel
theorem dX4_takesFold_97 : decode cX4_takesFold 97 = .ok (.aload_n 0, 1) := by decide +kernel
theorem dX4_takesFold_98 : decode cX4_takesFold 98 = .ok (.invokevirtual 111, 3) := by decide +kernel
theorem dX4_takesFold_101 : decode cX4_takesFold 101 = .ok (.ireturn, 1) := by decide +kernel
set_option maxRecDepth 20000 in
theorem ggX4_takesAll_X4_next : GoodIn wsX4_takesAll wsX4_next := goodIn_r _ [15, 1, 16, 17, 18, 5, 4, 19, 20, 21, 22, 23, 24, 25, 26, 14, 27, 28, 29, 30, 56, 57, 58, 59, 60, 61, 62, 63, 64, 65, 66, 67, 68, 69, 70, 71, 72, 73, 74, 75, 76, 77, 78] (by decide +kernel) (by decide +kernel)
set_option maxRecDepth 20000 in
theorem gX4_takesAll_X4_next : GoodIn wsX4_takesAll (wsV RX4 97 RX4 yX4_next wsX4_next) := goodIn_app (goodIn_of _ (by decide +kernel)) ggX4_takesAll_X4_next
set_option maxRecDepth 20000 in
theorem ggX4_takesAll_X4_takesFold : GoodIn wsX4_takesAll wsX4_takesFold := goodIn_r _ [34, 2, 5, 35, 36, 37, 38, 14, 39, 4, 11, 12, 13, 15, 1, 16, 17, 18, 19, 20, 21, 22, 23, 24, 25, 26, 27, 28, 29, 30, 40, 41, 42, 43, 44, 45, 46, 56, 57, 58, 59, 60, 61, 62, 63, 64, 65, 66, 67, 68, 69, 70, 71, 72, 73, 74, 75, 76, 77, 78] (by decide +kernel) (by decide +kernel)
set_option maxRecDepth 20000 in
theorem gX4_takesAll_X4_takesFold : GoodIn wsX4_takesAll (wsV RX4 125 RX4 yX4_takesFold wsX4_takesFold) := goodIn_app (goodIn_of _ (by decide +kernel)) ggX4_takesAll_X4_takesFold
set_option maxRecDepth 20000 in
theorem ggX4_takesAll_X4_takesTold : GoodIn wsX4_takesAll wsX4_takesTold := goodIn_r _ [50, 2, 3, 5, 51, 52, 53, 54, 14, 55, 36, 37, 38, 39, 4, 11, 12, 13, 15, 1, 16, 17, 18, 19, 20, 21, 22, 23, 24, 25, 26, 27, 28, 29, 30, 40, 41, 42, 43, 44, 45, 46, 56, 57, 58, 59, 60, 61, 62, 63, 64, 65, 66, 67, 68, 69, 70, 71, 72, 73, 74, 75, 76, 77, 78] (by decide +kernel) (by decide +kernel)
set_option maxRecDepth 20000 in
theorem gX4_takesAll_X4_takesTold : GoodIn wsX4_takesAll (wsV RX4 128 RX4 yX4_takesTold wsX4_takesTold) := goodIn_app (goodIn_of _ (by decide +kernel)) ggX4_takesAll_X4_takesTold
theorem dX4_takesAll_0 : decode cX4_takesAll 0 = .ok (.aload_n 0, 1) := by decide +kernel
theorem dX4_takesAll_1 : decode cX4_takesAll 1 = .ok (.iconst 0, 1) := by decide +kernel
theorem dX4_takesAll_2 : decode cX4_takesAll 2 = .ok (.putfield 66, 3) := by decide +kernel
theorem dX4_takesAll_5 : decode cX4_takesAll 5 = .ok (.aload_n 0, 1) := by decide +kernel
theorem dX4_takesAll_6 : decode cX4_takesAll 6 = .ok (.iconst 0, 1) := by decide +kernel
theorem dX4_takesAll_7 : decode cX4_takesAll 7 = .ok (.putfield 100, 3) := by decide +kernel
theorem dX4_takesAll_10 : decode cX4_takesAll 10 = .ok (.iconst 0, 1) := by decide +kernel
theorem dX4_takesAll_11 : decode cX4_takesAll 11 = .ok (.istore_n 1, 1) := by decide +kernel
theorem dX4_takesAll_12 : decode cX4_takesAll 12 = .ok (.iload_n 1, 1) := by decide +kernel
theorem dX4_takesAll_13 : decode cX4_takesAll 13 = .ok (.iconst 4, 1) := by decide +kernel
theorem dX4_takesAll_14 : decode cX4_takesAll 14 = .ok (.if_icmp .ge 16, 3) := by decide +kernel
theorem dX4_takesAll_17 : decode cX4_takesAll 17 = .ok (.aload_n 0, 1) := by decide +kernel
theorem dX4_takesAll_18 : decode cX4_takesAll 18 = .ok (.getfield 42, 3) := by decide +kernel
theorem dX4_takesAll_21 : decode cX4_takesAll 21 = .ok (.iload_n 1, 1) := by decide +kernel
theorem dX4_takesAll_22 : decode cX4_takesAll 22 = .ok (.iconst (-1), 1) := by decide +kernel
theorem dX4_takesAll_23 : decode cX4_takesAll 23 = .ok (.iastore, 1) := by decide +kernel
theorem dX4_takesAll_24 : decode cX4_takesAll 24 = .ok (.iinc 1 1, 3) := by decide +kernel
theorem dX4_takesAll_27 : decode cX4_takesAll 27 = .ok (.goto (-15), 3) := by decide +kernel
theorem dX4_takesAll_30 : decode cX4_takesAll 30 = .ok (.iconst 0, 1) := by decide +kernel
theorem dX4_takesAll_31 : decode cX4_takesAll 31 = .ok (.istore_n 1, 1) := by decide +kernel
theorem dX4_takesAll_32 : decode cX4_takesAll 32 = .ok (.aload_n 0, 1) := by decide +kernel
theorem dX4_takesAll_33 : decode cX4_takesAll 33 = .ok (.invokevirtual 97, 3) := by decide +kernel
theorem dX4_takesAll_36 : decode cX4_takesAll 36 = .ok (.aload_n 0, 1) := by decide +kernel
theorem dX4_takesAll_37 : decode cX4_takesAll 37 = .ok (.getfield 82, 3) := by decide +kernel
theorem dX4_takesAll_40 : decode cX4_takesAll 40 = .ok (.ifCond .eq 131, 3) := by decide +kernel
theorem dX4_takesAll_43 : decode cX4_takesAll 43 = .ok (.aload_n 0, 1) := by decide +kernel
theorem dX4_takesAll_44 : decode cX4_takesAll 44 = .ok (.getfield 82, 3) := by decide +kernel
theorem dX4_takesAll_47 : decode cX4_takesAll 47 = .ok (.iconst 1, 1) := by decide +kernel
theorem dX4_takesAll_48 : decode cX4_takesAll 48 = .ok (.if_icmp .eq 7, 3) := by decide +kernel
theorem dX4_takesAll_51 : decode cX4_takesAll 51 = .ok (.iconst (-1), 1) := by decide +kernel
theorem dX4_takesAll_52 : decode cX4_takesAll 52 = .ok (.goto 79, 3) := by decide +kernel
theorem dX4_takesAll_55 : decode cX4_takesAll 55 = .ok (.aload_n 0, 1) := by decide +kernel
theorem dX4_takesAll_56 : decode cX4_takesAll 56 = .ok (.getfield 71, 3) := by decide +kernel
theorem dX4_takesAll_59 : decode cX4_takesAll 59 = .ok (.ldc2_w 115, 3) := by decide +kernel
theorem dX4_takesAll_62 : decode cX4_takesAll 62 = .ok (.lcmp, 1) := by decide +kernel
theorem dX4_takesAll_63 : decode cX4_takesAll 63 = .ok (.ifCond .ne 7, 3) := by decide +kernel
theorem dX4_takesAll_66 : decode cX4_takesAll 66 = .ok (.iconst 0, 1) := by decide +kernel
theorem dX4_takesAll_67 : decode cX4_takesAll 67 = .ok (.goto 64, 3) := by decide +kernel
theorem dX4_takesAll_70 : decode cX4_takesAll 70 = .ok (.aload_n 0, 1) := by decide +kernel
theorem dX4_takesAll_71 : decode cX4_takesAll 71 = .ok (.getfield 71, 3) := by decide +kernel
theorem dX4_takesAll_74 : decode cX4_takesAll 74 = .ok (.ldc2_w 117, 3) := by decide +kernel
theorem dX4_takesAll_77 : decode cX4_takesAll 77 = .ok (.lcmp, 1) := by decide +kernel
theorem dX4_takesAll_78 : decode cX4_takesAll 78 = .ok (.ifCond .ne 7, 3) := by decide +kernel
theorem dX4_takesAll_81 : decode cX4_takesAll 81 = .ok (.iconst 1, 1) := by decide +kernel
theorem dX4_takesAll_82 : decode cX4_takesAll 82 = .ok (.goto 49, 3) := by decide +kernel
theorem dX4_takesAll_85 : decode cX4_takesAll 85 = .ok (.aload_n 0, 1) := by decide +kernel
theorem dX4_takesAll_86 : decode cX4_takesAll 86 = .ok (.getfield 71, 3) := by decide +kernel
theorem dX4_takesAll_89 : decode cX4_takesAll 89 = .ok (.ldc2_w 119, 3) := by decide +kernel
theorem dX4_takesAll_92 : decode cX4_takesAll 92 = .ok (.lcmp, 1) := by decide +kernel
theorem dX4_takesAll_93 : decode cX4_takesAll 93 = .ok (.ifCond .ne 7, 3) := by decide +kernel
theorem dX4_takesAll_96 : decode cX4_takesAll 96 = .ok (.iconst 2, 1) := by decide +kernel
theorem dX4_takesAll_97 : decode cX4_takesAll 97 = .ok (.goto 34, 3) := by decide +kernel
theorem dX4_takesAll_100 : decode cX4_takesAll 100 = .ok (.aload_n 0, 1) := by decide +kernel
theorem dX4_takesAll_101 : decode cX4_takesAll 101 = .ok (.getfield 71, 3) := by decide +kernel
theorem dX4_takesAll_104 : decode cX4_takesAll 104 = .ok (.ldc2_w 121, 3) := by decide +kernel
theorem dX4_takesAll_107 : decode cX4_takesAll 107 = .ok (.lcmp, 1) := by decide +kernel
theorem dX4_takesAll_108 : decode cX4_takesAll 108 = .ok (.ifCond .ne 7, 3) := by decide +kernel
theorem dX4_takesAll_111 : decode cX4_takesAll 111 = .ok (.iconst 3, 1) := by decide +kernel
theorem dX4_takesAll_112 : decode cX4_takesAll 112 = .ok (.goto 19, 3) := by decide +kernel
theorem dX4_takesAll_115 : decode cX4_takesAll 115 = .ok (.aload_n 0, 1) := by decide +kernel
theorem dX4_takesAll_116 : decode cX4_takesAll 116 = .ok (.getfield 71, 3) := by decide +kernel
theorem dX4_takesAll_119 : decode cX4_takesAll 119 = .ok (.ldc2_w 123, 3) := by decide +kernel
theorem dX4_takesAll_122 : decode cX4_takesAll 122 = .ok (.lcmp, 1) := by decide +kernel
theorem dX4_takesAll_123 : decode cX4_takesAll 123 = .ok (.ifCond .ne 7, 3) := by decide +kernel
theorem dX4_takesAll_126 : decode cX4_takesAll 126 = .ok (.iconst 4, 1) := by decide +kernel
theorem dX4_takesAll_127 : decode cX4_takesAll 127 = .ok (.goto 4, 3) := by decide +kernel
theorem dX4_takesAll_130 : decode cX4_takesAll 130 = .ok (.iconst (-1), 1) := by decide +kernel
theorem dX4_takesAll_131 : decode cX4_takesAll 131 = .ok (.istore_n 2, 1) := by decide +kernel
theorem dX4_takesAll_132 : decode cX4_takesAll 132 = .ok (.iload_n 2, 1) := by decide +kernel
theorem dX4_takesAll_133 : decode cX4_takesAll 133 = .ok (.ifCond .lt 26, 3) := by decide +kernel
theorem dX4_takesAll_136 : decode cX4_takesAll 136 = .ok (.iload_n 2, 1) := by decide +kernel
theorem dX4_takesAll_137 : decode cX4_takesAll 137 = .ok (.iconst 4, 1) := by decide +kernel
theorem dX4_takesAll_138 : decode cX4_takesAll 138 = .ok (.if_icmp .ne 13, 3) := by decide +kernel
theorem dX4_takesAll_141 : decode cX4_takesAll 141 = .ok (.aload_n 0, 1) := by decide +kernel
theorem dX4_takesAll_142 : decode cX4_takesAll 142 = .ok (.invokevirtual 125, 3) := by decide +kernel
theorem dX4_takesAll_145 : decode cX4_takesAll 145 = .ok (.ifCond .eq 14, 3) := by decide +kernel
theorem dX4_takesAll_148 : decode cX4_takesAll 148 = .ok (.goto 13, 3) := by decide +kernel
theorem dX4_takesAll_151 : decode cX4_takesAll 151 = .ok (.aload_n 0, 1) := by decide +kernel
theorem dX4_takesAll_152 : decode cX4_takesAll 152 = .ok (.iload_n 2, 1) := by decide +kernel
theorem dX4_takesAll_153 : decode cX4_takesAll 153 = .ok (.invokevirtual 128, 3) := by decide +kernel
theorem dX4_takesAll_156 : decode cX4_takesAll 156 = .ok (.ifCond .ne 5, 3) := by decide +kernel
theorem dX4_takesAll_159 : decode cX4_takesAll 159 = .ok (.iconst (-1), 1) := by decide +kernel
theorem dX4_takesAll_160 : decode cX4_takesAll 160 = .ok (.ireturn, 1) := by decide +kernel
theorem dX4_takesAll_161 : decode cX4_takesAll 161 = .ok (.iinc 1 1, 3) := by decide +kernel
theorem dX4_takesAll_164 : decode cX4_takesAll 164 = .ok (.aload_n 0, 1) := by decide +kernel
theorem dX4_takesAll_165 : decode cX4_takesAll 165 = .ok (.invokevirtual 97, 3) := by decide +kernel
theorem dX4_takesAll_168 : decode cX4_takesAll 168 = .ok (.goto (-132), 3) := by decide +kernel
theorem dX4_takesAll_171 : decode cX4_takesAll 171 = .ok (.iload_n 1, 1) := by decide +kernel
theorem dX4_takesAll_172 : decode cX4_takesAll 172 = .ok (.ireturn, 1) := by decide +kernel
set_option maxRecDepth 20000 in
theorem ggX4_strip_X4_takesAll : GoodIn wsX4_strip wsX4_takesAll := goodIn_r _ [17, 18, 7, 3, 19, 20, 21, 22, 23, 24, 25, 26, 27, 28, 16, 29, 12, 30, 1, 31, 32, 33, 34, 35, 36, 37, 38, 39, 40, 41, 42, 43, 44, 45, 46, 8, 47, 48, 49, 50, 51, 52, 53, 54, 55, 56, 57, 58, 59, 60, 61, 62, 63, 64, 65, 66, 80, 81, 82, 83, 84, 85, 86, 87, 88, 89, 90, 91, 92, 93, 94, 95, 96, 97, 98, 99, 100, 101, 102] (by decide +kernel) (by decide +kernel)
set_option maxRecDepth 20000 in
theorem gX4_strip_X4_takesAll : GoodIn wsX4_strip (wsV RX4 131 RX4 yX4_takesAll wsX4_takesAll) := goodIn_app (goodIn_of _ (by decide +kernel)) ggX4_strip_X4_takesAll
set_option maxRecDepth 20000 in
theorem ggX4_strip_X4_readParts : GoodIn wsX4_strip wsX4_readParts := goodIn_r _ [66, 3, 80, 81, 82, 83, 84, 85, 86, 87, 88, 89, 90, 91, 92, 93, 94, 95, 96, 97, 98, 99, 100, 101, 102] (by decide +kernel) (by decide +kernel)
set_option maxRecDepth 20000 in
theorem gX4_strip_X4_readParts : GoodIn wsX4_strip (wsV RX4 103 RX4 yX4_readParts wsX4_readParts) := goodIn_app (goodIn_of _ (by decide +kernel)) ggX4_strip_X4_readParts
set_option maxRecDepth 20000 in
theorem ggX4_strip_X4_begin : GoodIn wsX4_strip wsX4_begin := goodIn_r _ [70, 71, 72, 2, 4, 73, 74, 75, 80, 81, 82, 83, 84, 85, 86, 87, 88, 89, 90, 91, 92, 93, 94, 95, 96, 97, 98, 99, 100, 101, 102] (by decide +kernel) (by decide +kernel)
set_option maxRecDepth 20000 in
theorem gX4_strip_X4_begin : GoodIn wsX4_strip (wsV RX4 48 RX4 yX4_begin wsX4_begin) := goodIn_app (goodIn_of _ (by decide +kernel)) ggX4_strip_X4_begin
set_option maxRecDepth 20000 in
theorem ggX4_strip_X4_folds : GoodIn wsX4_strip wsX4_folds := goodIn_r _ [79, 72, 71, 62, 74, 75, 73, 80, 81, 82, 83, 84, 85, 86, 87, 88, 89, 90, 91, 92, 93, 94, 95, 96, 97, 98, 99, 100, 101, 102] (by decide +kernel) (by decide +kernel)
set_option maxRecDepth 20000 in
theorem gX4_strip_X4_folds : GoodIn wsX4_strip (wsV RX4 140 RX4 yX4_folds wsX4_folds) := goodIn_app (goodIn_of _ (by decide +kernel)) ggX4_strip_X4_folds
theorem dX4_strip_0 : decode cX4_strip 0 = .ok (.aload_n 0, 1) := by decide +kernel
theorem dX4_strip_1 : decode cX4_strip 1 = .ok (.invokevirtual 131, 3) := by decide +kernel
theorem dX4_strip_4 : decode cX4_strip 4 = .ok (.istore_n 1, 1) := by decide +kernel
theorem dX4_strip_5 : decode cX4_strip 5 = .ok (.iload_n 1, 1) := by decide +kernel
theorem dX4_strip_6 : decode cX4_strip 6 = .ok (.ifCond .ge 11, 3) := by decide +kernel
theorem dX4_strip_9 : decode cX4_strip 9 = .ok (.bipush (-10), 2) := by decide +kernel
theorem dX4_strip_11 : decode cX4_strip 11 = .ok (.aload_n 0, 1) := by decide +kernel
theorem dX4_strip_12 : decode cX4_strip 12 = .ok (.getfield 69, 3) := by decide +kernel
theorem dX4_strip_15 : decode cX4_strip 15 = .ok (.isub, 1) := by decide +kernel
theorem dX4_strip_16 : decode cX4_strip 16 = .ok (.ireturn, 1) := by decide +kernel
theorem dX4_strip_17 : decode cX4_strip 17 = .ok (.aload_n 0, 1) := by decide +kernel
theorem dX4_strip_18 : decode cX4_strip 18 = .ok (.aload_n 0, 1) := by decide +kernel
theorem dX4_strip_19 : decode cX4_strip 19 = .ok (.invokevirtual 103, 3) := by decide +kernel
theorem dX4_strip_22 : decode cX4_strip 22 = .ok (.putfield 13, 3) := by decide +kernel
theorem dX4_strip_25 : decode cX4_strip 25 = .ok (.aload_n 0, 1) := by decide +kernel
theorem dX4_strip_26 : decode cX4_strip 26 = .ok (.aload_n 0, 1) := by decide +kernel
theorem dX4_strip_27 : decode cX4_strip 27 = .ok (.getfield 42, 3) := by decide +kernel
theorem dX4_strip_30 : decode cX4_strip 30 = .ok (.iconst 1, 1) := by decide +kernel
theorem dX4_strip_31 : decode cX4_strip 31 = .ok (.iaload, 1) := by decide +kernel
theorem dX4_strip_32 : decode cX4_strip 32 = .ok (.ifCond .ge 7, 3) := by decide +kernel
theorem dX4_strip_35 : decode cX4_strip 35 = .ok (.iconst 1, 1) := by decide +kernel
theorem dX4_strip_36 : decode cX4_strip 36 = .ok (.goto 9, 3) := by decide +kernel
theorem dX4_strip_39 : decode cX4_strip 39 = .ok (.aload_n 0, 1) := by decide +kernel
theorem dX4_strip_40 : decode cX4_strip 40 = .ok (.getfield 42, 3) := by decide +kernel
theorem dX4_strip_43 : decode cX4_strip 43 = .ok (.iconst 1, 1) := by decide +kernel
theorem dX4_strip_44 : decode cX4_strip 44 = .ok (.iaload, 1) := by decide +kernel
theorem dX4_strip_45 : decode cX4_strip 45 = .ok (.putfield 17, 3) := by decide +kernel
theorem dX4_strip_48 : decode cX4_strip 48 = .ok (.aload_n 0, 1) := by decide +kernel
theorem dX4_strip_49 : decode cX4_strip 49 = .ok (.aload_n 0, 1) := by decide +kernel
theorem dX4_strip_50 : decode cX4_strip 50 = .ok (.getfield 42, 3) := by decide +kernel
theorem dX4_strip_53 : decode cX4_strip 53 = .ok (.iconst 2, 1) := by decide +kernel
theorem dX4_strip_54 : decode cX4_strip 54 = .ok (.iaload, 1) := by decide +kernel
theorem dX4_strip_55 : decode cX4_strip 55 = .ok (.ifCond .ge 7, 3) := by decide +kernel
theorem dX4_strip_58 : decode cX4_strip 58 = .ok (.iconst 0, 1) := by decide +kernel
theorem dX4_strip_59 : decode cX4_strip 59 = .ok (.goto 9, 3) := by decide +kernel
theorem dX4_strip_62 : decode cX4_strip 62 = .ok (.aload_n 0, 1) := by decide +kernel
theorem dX4_strip_63 : decode cX4_strip 63 = .ok (.getfield 42, 3) := by decide +kernel
theorem dX4_strip_66 : decode cX4_strip 66 = .ok (.iconst 2, 1) := by decide +kernel
theorem dX4_strip_67 : decode cX4_strip 67 = .ok (.iaload, 1) := by decide +kernel
theorem dX4_strip_68 : decode cX4_strip 68 = .ok (.putfield 134, 3) := by decide +kernel
theorem dX4_strip_71 : decode cX4_strip 71 = .ok (.aload_n 0, 1) := by decide +kernel
theorem dX4_strip_72 : decode cX4_strip 72 = .ok (.aload_n 0, 1) := by decide +kernel
theorem dX4_strip_73 : decode cX4_strip 73 = .ok (.getfield 42, 3) := by decide +kernel
theorem dX4_strip_76 : decode cX4_strip 76 = .ok (.iconst 3, 1) := by decide +kernel
theorem dX4_strip_77 : decode cX4_strip 77 = .ok (.iaload, 1) := by decide +kernel
theorem dX4_strip_78 : decode cX4_strip 78 = .ok (.ifCond .ge 7, 3) := by decide +kernel
theorem dX4_strip_81 : decode cX4_strip 81 = .ok (.iconst 0, 1) := by decide +kernel
theorem dX4_strip_82 : decode cX4_strip 82 = .ok (.goto 9, 3) := by decide +kernel
theorem dX4_strip_85 : decode cX4_strip 85 = .ok (.aload_n 0, 1) := by decide +kernel
theorem dX4_strip_86 : decode cX4_strip 86 = .ok (.getfield 42, 3) := by decide +kernel
theorem dX4_strip_89 : decode cX4_strip 89 = .ok (.iconst 3, 1) := by decide +kernel
theorem dX4_strip_90 : decode cX4_strip 90 = .ok (.iaload, 1) := by decide +kernel
theorem dX4_strip_91 : decode cX4_strip 91 = .ok (.putfield 137, 3) := by decide +kernel
theorem dX4_strip_94 : decode cX4_strip 94 = .ok (.aload_n 0, 1) := by decide +kernel
theorem dX4_strip_95 : decode cX4_strip 95 = .ok (.invokevirtual 48, 3) := by decide +kernel
theorem dX4_strip_98 : decode cX4_strip 98 = .ok (.iconst 0, 1) := by decide +kernel
theorem dX4_strip_99 : decode cX4_strip 99 = .ok (.istore_n 2, 1) := by decide +kernel
theorem dX4_strip_100 : decode cX4_strip 100 = .ok (.iload_n 2, 1) := by decide +kernel
theorem dX4_strip_101 : decode cX4_strip 101 = .ok (.aload_n 0, 1) := by decide +kernel
theorem dX4_strip_102 : decode cX4_strip 102 = .ok (.getfield 100, 3) := by decide +kernel
theorem dX4_strip_105 : decode cX4_strip 105 = .ok (.if_icmp .ge 31, 3) := by decide +kernel
theorem dX4_strip_108 : decode cX4_strip 108 = .ok (.aload_n 0, 1) := by decide +kernel
theorem dX4_strip_109 : decode cX4_strip 109 = .ok (.aload_n 0, 1) := by decide +kernel
theorem dX4_strip_110 : decode cX4_strip 110 = .ok (.getfield 45, 3) := by decide +kernel
theorem dX4_strip_113 : decode cX4_strip 113 = .ok (.iconst 2, 1) := by decide +kernel
theorem dX4_strip_114 : decode cX4_strip 114 = .ok (.iload_n 2, 1) := by decide +kernel
theorem dX4_strip_115 : decode cX4_strip 115 = .ok (.imul, 1) := by decide +kernel
theorem dX4_strip_116 : decode cX4_strip 116 = .ok (.iaload, 1) := by decide +kernel
theorem dX4_strip_117 : decode cX4_strip 117 = .ok (.aload_n 0, 1) := by decide +kernel
theorem dX4_strip_118 : decode cX4_strip 118 = .ok (.getfield 45, 3) := by decide +kernel
theorem dX4_strip_121 : decode cX4_strip 121 = .ok (.iconst 2, 1) := by decide +kernel
theorem dX4_strip_122 : decode cX4_strip 122 = .ok (.iload_n 2, 1) := by decide +kernel
theorem dX4_strip_123 : decode cX4_strip 123 = .ok (.imul, 1) := by decide +kernel
theorem dX4_strip_124 : decode cX4_strip 124 = .ok (.iconst 1, 1) := by decide +kernel
theorem dX4_strip_125 : decode cX4_strip 125 = .ok (.iadd, 1) := by decide +kernel
theorem dX4_strip_126 : decode cX4_strip 126 = .ok (.iaload, 1) := by decide +kernel
theorem dX4_strip_127 : decode cX4_strip 127 = .ok (.invokevirtual 140, 3) := by decide +kernel
theorem dX4_strip_130 : decode cX4_strip 130 = .ok (.iinc 2 1, 3) := by decide +kernel
theorem dX4_strip_133 : decode cX4_strip 133 = .ok (.goto (-33), 3) := by decide +kernel
theorem dX4_strip_136 : decode cX4_strip 136 = .ok (.aload_n 0, 1) := by decide +kernel
theorem dX4_strip_137 : decode cX4_strip 137 = .ok (.iconst 0, 1) := by decide +kernel
theorem dX4_strip_138 : decode cX4_strip 138 = .ok (.putfield 144, 3) := by decide +kernel
theorem dX4_strip_141 : decode cX4_strip 141 = .ok (.aload_n 0, 1) := by decide +kernel
theorem dX4_strip_142 : decode cX4_strip 142 = .ok (.iconst 0, 1) := by decide +kernel
theorem dX4_strip_143 : decode cX4_strip 143 = .ok (.putfield 147, 3) := by decide +kernel
theorem dX4_strip_146 : decode cX4_strip 146 = .ok (.aload_n 0, 1) := by decide +kernel
theorem dX4_strip_147 : decode cX4_strip 147 = .ok (.getfield 39, 3) := by decide +kernel
theorem dX4_strip_150 : decode cX4_strip 150 = .ok (.iconst 0, 1) := by decide +kernel
theorem dX4_strip_151 : decode cX4_strip 151 = .ok (.lconst 0, 1) := by decide +kernel
theorem dX4_strip_152 : decode cX4_strip 152 = .ok (.lastore, 1) := by decide +kernel
theorem dX4_strip_153 : decode cX4_strip 153 = .ok (.aload_n 0, 1) := by decide +kernel
theorem dX4_strip_154 : decode cX4_strip 154 = .ok (.getfield 39, 3) := by decide +kernel
theorem dX4_strip_157 : decode cX4_strip 157 = .ok (.bipush 100, 2) := by decide +kernel
theorem dX4_strip_159 : decode cX4_strip 159 = .ok (.lconst 0, 1) := by decide +kernel
theorem dX4_strip_160 : decode cX4_strip 160 = .ok (.lastore, 1) := by decide +kernel
theorem dX4_strip_161 : decode cX4_strip 161 = .ok (.aload_n 0, 1) := by decide +kernel
theorem dX4_strip_162 : decode cX4_strip 162 = .ok (.iconst 0, 1) := by decide +kernel
theorem dX4_strip_163 : decode cX4_strip 163 = .ok (.putfield 61, 3) := by decide +kernel
theorem dX4_strip_166 : decode cX4_strip 166 = .ok (.iload_n 1, 1) := by decide +kernel
theorem dX4_strip_167 : decode cX4_strip 167 = .ok (.ireturn, 1) := by decide +kernel
set_option maxRecDepth 20000 in
theorem ggX4_isCrease_X4_in : GoodIn wsX4_isCrease wsX4_in := goodIn_r _ [5] (by decide +kernel) (by decide +kernel)
set_option maxRecDepth 20000 in
theorem gX4_isCrease_X4_in : GoodIn wsX4_isCrease (va_wsS RX4 57 yX4_in wsX4_in) := goodIn_app (goodIn_of _ (by decide +kernel)) ggX4_isCrease_X4_in
theorem dX4_isCrease_0 : decode cX4_isCrease 0 = .ok (.iload_n 1, 1) := by decide +kernel
theorem dX4_isCrease_1 : decode cX4_isCrease 1 = .ok (.i2l, 1) := by decide +kernel
theorem dX4_isCrease_2 : decode cX4_isCrease 2 = .ok (.lconst 0, 1) := by decide +kernel
theorem dX4_isCrease_3 : decode cX4_isCrease 3 = .ok (.aload_n 0, 1) := by decide +kernel
theorem dX4_isCrease_4 : decode cX4_isCrease 4 = .ok (.getfield 20, 3) := by decide +kernel
theorem dX4_isCrease_7 : decode cX4_isCrease 7 = .ok (.iconst 1, 1) := by decide +kernel
theorem dX4_isCrease_8 : decode cX4_isCrease 8 = .ok (.isub, 1) := by decide +kernel
theorem dX4_isCrease_9 : decode cX4_isCrease 9 = .ok (.i2l, 1) := by decide +kernel
theorem dX4_isCrease_10 : decode cX4_isCrease 10 = .ok (.invokestatic 57, 3) := by decide +kernel
theorem dX4_isCrease_13 : decode cX4_isCrease 13 = .ok (.ireturn, 1) := by decide +kernel
theorem dX4_partOf_0 : decode cX4_partOf 0 = .ok (.aload_n 0, 1) := by decide +kernel
theorem dX4_partOf_1 : decode cX4_partOf 1 = .ok (.getfield 23, 3) := by decide +kernel
theorem dX4_partOf_4 : decode cX4_partOf 4 = .ok (.iload_n 1, 1) := by decide +kernel
theorem dX4_partOf_5 : decode cX4_partOf 5 = .ok (.laload, 1) := by decide +kernel
theorem dX4_partOf_6 : decode cX4_partOf 6 = .ok (.ldc2_w 51, 3) := by decide +kernel
theorem dX4_partOf_9 : decode cX4_partOf 9 = .ok (.lrem, 1) := by decide +kernel
theorem dX4_partOf_10 : decode cX4_partOf 10 = .ok (.lconst 0, 1) := by decide +kernel
theorem dX4_partOf_11 : decode cX4_partOf 11 = .ok (.lcmp, 1) := by decide +kernel
theorem dX4_partOf_12 : decode cX4_partOf 12 = .ok (.ifCond .ne 17, 3) := by decide +kernel
theorem dX4_partOf_15 : decode cX4_partOf 15 = .ok (.aload_n 0, 1) := by decide +kernel
theorem dX4_partOf_16 : decode cX4_partOf 16 = .ok (.getfield 23, 3) := by decide +kernel
theorem dX4_partOf_19 : decode cX4_partOf 19 = .ok (.iload_n 1, 1) := by decide +kernel
theorem dX4_partOf_20 : decode cX4_partOf 20 = .ok (.laload, 1) := by decide +kernel
theorem dX4_partOf_21 : decode cX4_partOf 21 = .ok (.ldc2_w 51, 3) := by decide +kernel
theorem dX4_partOf_24 : decode cX4_partOf 24 = .ok (.ldiv, 1) := by decide +kernel
theorem dX4_partOf_25 : decode cX4_partOf 25 = .ok (.l2i, 1) := by decide +kernel
theorem dX4_partOf_26 : decode cX4_partOf 26 = .ok (.goto 5, 3) := by decide +kernel
theorem dX4_partOf_29 : decode cX4_partOf 29 = .ok (.bipush (-9), 2) := by decide +kernel
theorem dX4_partOf_31 : decode cX4_partOf 31 = .ok (.ireturn, 1) := by decide +kernel
theorem dX4_least_0 : decode cX4_least 0 = .ok (.lload_n 0, 1) := by decide +kernel
theorem dX4_least_1 : decode cX4_least 1 = .ok (.lstore 5, 2) := by decide +kernel
theorem dX4_least_3 : decode cX4_least 3 = .ok (.lload_n 2, 1) := by decide +kernel
theorem dX4_least_4 : decode cX4_least 4 = .ok (.lstore 7, 2) := by decide +kernel
theorem dX4_least_6 : decode cX4_least 6 = .ok (.lload 7, 2) := by decide +kernel
theorem dX4_least_8 : decode cX4_least 8 = .ok (.lconst 0, 1) := by decide +kernel
theorem dX4_least_9 : decode cX4_least 9 = .ok (.lcmp, 1) := by decide +kernel
theorem dX4_least_10 : decode cX4_least 10 = .ok (.ifCond .eq 21, 3) := by decide +kernel
theorem dX4_least_13 : decode cX4_least 13 = .ok (.lload 5, 2) := by decide +kernel
theorem dX4_least_15 : decode cX4_least 15 = .ok (.lload 7, 2) := by decide +kernel
theorem dX4_least_17 : decode cX4_least 17 = .ok (.lrem, 1) := by decide +kernel
theorem dX4_least_18 : decode cX4_least 18 = .ok (.lstore 9, 2) := by decide +kernel
theorem dX4_least_20 : decode cX4_least 20 = .ok (.lload 7, 2) := by decide +kernel
theorem dX4_least_22 : decode cX4_least 22 = .ok (.lstore 5, 2) := by decide +kernel
theorem dX4_least_24 : decode cX4_least 24 = .ok (.lload 9, 2) := by decide +kernel
theorem dX4_least_26 : decode cX4_least 26 = .ok (.lstore 7, 2) := by decide +kernel
theorem dX4_least_28 : decode cX4_least 28 = .ok (.goto (-22), 3) := by decide +kernel
theorem dX4_least_31 : decode cX4_least 31 = .ok (.iload 4, 2) := by decide +kernel
theorem dX4_least_33 : decode cX4_least 33 = .ok (.ifCond .eq 10, 3) := by decide +kernel
theorem dX4_least_36 : decode cX4_least 36 = .ok (.lload_n 0, 1) := by decide +kernel
theorem dX4_least_37 : decode cX4_least 37 = .ok (.lload 5, 2) := by decide +kernel
theorem dX4_least_39 : decode cX4_least 39 = .ok (.ldiv, 1) := by decide +kernel
theorem dX4_least_40 : decode cX4_least 40 = .ok (.goto 7, 3) := by decide +kernel
theorem dX4_least_43 : decode cX4_least 43 = .ok (.lload_n 2, 1) := by decide +kernel
theorem dX4_least_44 : decode cX4_least 44 = .ok (.lload 5, 2) := by decide +kernel
theorem dX4_least_46 : decode cX4_least 46 = .ok (.ldiv, 1) := by decide +kernel
theorem dX4_least_47 : decode cX4_least 47 = .ok (.lreturn, 1) := by decide +kernel
set_option maxRecDepth 20000 in
theorem ggX4_crease_X4_isCrease : GoodIn wsX4_crease wsX4_isCrease := goodIn_r _ [12, 13, 14, 15, 11, 16, 24, 25, 26, 27, 28, 29, 30, 31, 32, 33, 34, 35, 36, 37, 38, 39, 40, 41, 42, 43, 44, 45, 46] (by decide +kernel) (by decide +kernel)
set_option maxRecDepth 20000 in
theorem gX4_crease_X4_isCrease : GoodIn wsX4_crease (wsV RX4 150 RX4 yX4_isCrease wsX4_isCrease) := goodIn_app (goodIn_of _ (by decide +kernel)) ggX4_crease_X4_isCrease
set_option maxRecDepth 20000 in
theorem ggX4_crease_X4_in : GoodIn wsX4_crease wsX4_in := goodIn_r _ [16] (by decide +kernel) (by decide +kernel)
set_option maxRecDepth 20000 in
theorem gX4_crease_X4_in : GoodIn wsX4_crease (va_wsS RX4 57 yX4_in wsX4_in) := goodIn_app (goodIn_of _ (by decide +kernel)) ggX4_crease_X4_in
set_option maxRecDepth 20000 in
theorem ggX4_crease_X4_partOf : GoodIn wsX4_crease wsX4_partOf := goodIn_r _ [20, 3, 7, 24, 25, 26, 27, 28, 29, 30, 31, 32, 33, 34, 35, 36, 37, 38, 39, 40, 41, 42, 43, 44, 45, 46] (by decide +kernel) (by decide +kernel)
set_option maxRecDepth 20000 in
theorem gX4_crease_X4_partOf : GoodIn wsX4_crease (wsV RX4 155 RX4 yX4_partOf wsX4_partOf) := goodIn_app (goodIn_of _ (by decide +kernel)) ggX4_crease_X4_partOf
set_option maxRecDepth 20000 in
theorem ggX4_crease_X4_least : GoodIn wsX4_crease wsX4_least := goodIn_r _ [23] (by decide +kernel) (by decide +kernel)
set_option maxRecDepth 20000 in
theorem gX4_crease_X4_least : GoodIn wsX4_crease (va_wsS RX4 159 yX4_least wsX4_least) := goodIn_app (goodIn_of _ (by decide +kernel)) ggX4_crease_X4_least
theorem dX4_crease_0 : decode cX4_crease 0 = .ok (.aload_n 0, 1) := by decide +kernel
theorem dX4_crease_1 : decode cX4_crease 1 = .ok (.iload_n 1, 1) := by decide +kernel
theorem dX4_crease_2 : decode cX4_crease 2 = .ok (.invokevirtual 150, 3) := by decide +kernel
theorem dX4_crease_5 : decode cX4_crease 5 = .ok (.ifCond .eq 15, 3) := by decide +kernel
theorem dX4_crease_8 : decode cX4_crease 8 = .ok (.iload_n 2, 1) := by decide +kernel
theorem dX4_crease_9 : decode cX4_crease 9 = .ok (.i2l, 1) := by decide +kernel
theorem dX4_crease_10 : decode cX4_crease 10 = .ok (.lconst 0, 1) := by decide +kernel
theorem dX4_crease_11 : decode cX4_crease 11 = .ok (.ldc2_w 153, 3) := by decide +kernel
theorem dX4_crease_14 : decode cX4_crease 14 = .ok (.invokestatic 57, 3) := by decide +kernel
theorem dX4_crease_17 : decode cX4_crease 17 = .ok (.ifCond .ne 7, 3) := by decide +kernel
theorem dX4_crease_20 : decode cX4_crease 20 = .ok (.ldc2_w 89, 3) := by decide +kernel
theorem dX4_crease_23 : decode cX4_crease 23 = .ok (.lreturn, 1) := by decide +kernel
theorem dX4_crease_24 : decode cX4_crease 24 = .ok (.iload_n 2, 1) := by decide +kernel
theorem dX4_crease_25 : decode cX4_crease 25 = .ok (.bipush 6, 2) := by decide +kernel
theorem dX4_crease_27 : decode cX4_crease 27 = .ok (.if_icmp .ne 10, 3) := by decide +kernel
theorem dX4_crease_30 : decode cX4_crease 30 = .ok (.aload_n 0, 1) := by decide +kernel
theorem dX4_crease_31 : decode cX4_crease 31 = .ok (.iload_n 1, 1) := by decide +kernel
theorem dX4_crease_32 : decode cX4_crease 32 = .ok (.invokevirtual 155, 3) := by decide +kernel
theorem dX4_crease_35 : decode cX4_crease 35 = .ok (.i2l, 1) := by decide +kernel
theorem dX4_crease_36 : decode cX4_crease 36 = .ok (.lreturn, 1) := by decide +kernel
theorem dX4_crease_37 : decode cX4_crease 37 = .ok (.iload_n 2, 1) := by decide +kernel
theorem dX4_crease_38 : decode cX4_crease 38 = .ok (.iconst 2, 1) := by decide +kernel
theorem dX4_crease_39 : decode cX4_crease 39 = .ok (.if_icmp .ge 12, 3) := by decide +kernel
theorem dX4_crease_42 : decode cX4_crease 42 = .ok (.aload_n 0, 1) := by decide +kernel
theorem dX4_crease_43 : decode cX4_crease 43 = .ok (.getfield 23, 3) := by decide +kernel
theorem dX4_crease_46 : decode cX4_crease 46 = .ok (.iload_n 1, 1) := by decide +kernel
theorem dX4_crease_47 : decode cX4_crease 47 = .ok (.laload, 1) := by decide +kernel
theorem dX4_crease_48 : decode cX4_crease 48 = .ok (.goto 23, 3) := by decide +kernel
theorem dX4_crease_51 : decode cX4_crease 51 = .ok (.iload_n 2, 1) := by decide +kernel
theorem dX4_crease_52 : decode cX4_crease 52 = .ok (.iconst 4, 1) := by decide +kernel
theorem dX4_crease_53 : decode cX4_crease 53 = .ok (.if_icmp .ge 12, 3) := by decide +kernel
theorem dX4_crease_56 : decode cX4_crease 56 = .ok (.aload_n 0, 1) := by decide +kernel
theorem dX4_crease_57 : decode cX4_crease 57 = .ok (.getfield 27, 3) := by decide +kernel
theorem dX4_crease_60 : decode cX4_crease 60 = .ok (.iload_n 1, 1) := by decide +kernel
theorem dX4_crease_61 : decode cX4_crease 61 = .ok (.laload, 1) := by decide +kernel
theorem dX4_crease_62 : decode cX4_crease 62 = .ok (.goto 9, 3) := by decide +kernel
theorem dX4_crease_65 : decode cX4_crease 65 = .ok (.aload_n 0, 1) := by decide +kernel
theorem dX4_crease_66 : decode cX4_crease 66 = .ok (.getfield 30, 3) := by decide +kernel
theorem dX4_crease_69 : decode cX4_crease 69 = .ok (.iload_n 1, 1) := by decide +kernel
theorem dX4_crease_70 : decode cX4_crease 70 = .ok (.laload, 1) := by decide +kernel
theorem dX4_crease_71 : decode cX4_crease 71 = .ok (.lstore_n 3, 1) := by decide +kernel
theorem dX4_crease_72 : decode cX4_crease 72 = .ok (.lload_n 3, 1) := by decide +kernel
theorem dX4_crease_73 : decode cX4_crease 73 = .ok (.iload_n 2, 1) := by decide +kernel
theorem dX4_crease_74 : decode cX4_crease 74 = .ok (.iconst 2, 1) := by decide +kernel
theorem dX4_crease_75 : decode cX4_crease 75 = .ok (.if_icmp .ge 15, 3) := by decide +kernel
theorem dX4_crease_78 : decode cX4_crease 78 = .ok (.aload_n 0, 1) := by decide +kernel
theorem dX4_crease_79 : decode cX4_crease 79 = .ok (.getfield 13, 3) := by decide +kernel
theorem dX4_crease_82 : decode cX4_crease 82 = .ok (.i2l, 1) := by decide +kernel
theorem dX4_crease_83 : decode cX4_crease 83 = .ok (.ldc2_w 51, 3) := by decide +kernel
theorem dX4_crease_86 : decode cX4_crease 86 = .ok (.lmul, 1) := by decide +kernel
theorem dX4_crease_87 : decode cX4_crease 87 = .ok (.goto 6, 3) := by decide +kernel
theorem dX4_crease_90 : decode cX4_crease 90 = .ok (.ldc2_w 51, 3) := by decide +kernel
theorem dX4_crease_93 : decode cX4_crease 93 = .ok (.iload_n 2, 1) := by decide +kernel
theorem dX4_crease_94 : decode cX4_crease 94 = .ok (.iconst 2, 1) := by decide +kernel
theorem dX4_crease_95 : decode cX4_crease 95 = .ok (.irem, 1) := by decide +kernel
theorem dX4_crease_96 : decode cX4_crease 96 = .ok (.ifCond .ne 7, 3) := by decide +kernel
theorem dX4_crease_99 : decode cX4_crease 99 = .ok (.iconst 1, 1) := by decide +kernel
theorem dX4_crease_100 : decode cX4_crease 100 = .ok (.goto 4, 3) := by decide +kernel
theorem dX4_crease_103 : decode cX4_crease 103 = .ok (.iconst 0, 1) := by decide +kernel
theorem dX4_crease_104 : decode cX4_crease 104 = .ok (.invokestatic 159, 3) := by decide +kernel
theorem dX4_crease_107 : decode cX4_crease 107 = .ok (.lreturn, 1) := by decide +kernel
theorem dX4_told_0 : decode cX4_told 0 = .ok (.iload_n 1, 1) := by decide +kernel
theorem dX4_told_1 : decode cX4_told 1 = .ok (.ifCond .ne 10, 3) := by decide +kernel
theorem dX4_told_4 : decode cX4_told 4 = .ok (.aload_n 0, 1) := by decide +kernel
theorem dX4_told_5 : decode cX4_told 5 = .ok (.getfield 13, 3) := by decide +kernel
theorem dX4_told_8 : decode cX4_told 8 = .ok (.goto 40, 3) := by decide +kernel
theorem dX4_told_11 : decode cX4_told 11 = .ok (.iload_n 1, 1) := by decide +kernel
theorem dX4_told_12 : decode cX4_told 12 = .ok (.iconst 1, 1) := by decide +kernel
theorem dX4_told_13 : decode cX4_told 13 = .ok (.if_icmp .ne 10, 3) := by decide +kernel
theorem dX4_told_16 : decode cX4_told 16 = .ok (.aload_n 0, 1) := by decide +kernel
theorem dX4_told_17 : decode cX4_told 17 = .ok (.getfield 17, 3) := by decide +kernel
theorem dX4_told_20 : decode cX4_told 20 = .ok (.goto 28, 3) := by decide +kernel
theorem dX4_told_23 : decode cX4_told 23 = .ok (.iload_n 1, 1) := by decide +kernel
theorem dX4_told_24 : decode cX4_told 24 = .ok (.iconst 2, 1) := by decide +kernel
theorem dX4_told_25 : decode cX4_told 25 = .ok (.if_icmp .ne 10, 3) := by decide +kernel
theorem dX4_told_28 : decode cX4_told 28 = .ok (.aload_n 0, 1) := by decide +kernel
theorem dX4_told_29 : decode cX4_told 29 = .ok (.getfield 134, 3) := by decide +kernel
theorem dX4_told_32 : decode cX4_told 32 = .ok (.goto 16, 3) := by decide +kernel
theorem dX4_told_35 : decode cX4_told 35 = .ok (.iload_n 1, 1) := by decide +kernel
theorem dX4_told_36 : decode cX4_told 36 = .ok (.iconst 3, 1) := by decide +kernel
theorem dX4_told_37 : decode cX4_told 37 = .ok (.if_icmp .ne 10, 3) := by decide +kernel
theorem dX4_told_40 : decode cX4_told 40 = .ok (.aload_n 0, 1) := by decide +kernel
theorem dX4_told_41 : decode cX4_told 41 = .ok (.getfield 137, 3) := by decide +kernel
theorem dX4_told_44 : decode cX4_told 44 = .ok (.goto 4, 3) := by decide +kernel
theorem dX4_told_47 : decode cX4_told 47 = .ok (.iconst (-1), 1) := by decide +kernel
theorem dX4_told_48 : decode cX4_told 48 = .ok (.ireturn, 1) := by decide +kernel
set_option maxRecDepth 20000 in
theorem ggX4_fold_X4_isCrease : GoodIn wsX4_fold wsX4_isCrease := goodIn_r _ [6, 1, 7, 8, 5, 9, 19, 20, 21, 22, 23, 24, 25, 26, 27, 28, 29, 30, 31, 32, 33, 34, 35, 36, 37, 38, 39, 40, 41] (by decide +kernel) (by decide +kernel)
set_option maxRecDepth 20000 in
theorem gX4_fold_X4_isCrease : GoodIn wsX4_fold (wsV RX4 150 RX4 yX4_isCrease wsX4_isCrease) := goodIn_app (goodIn_of _ (by decide +kernel)) ggX4_fold_X4_isCrease
set_option maxRecDepth 20000 in
theorem ggX4_fold_X4_folds : GoodIn wsX4_fold wsX4_folds := goodIn_r _ [13, 14, 1, 15, 16, 17, 18, 19, 20, 21, 22, 23, 24, 25, 26, 27, 28, 29, 30, 31, 32, 33, 34, 35, 36, 37, 38, 39, 40, 41] (by decide +kernel) (by decide +kernel)
set_option maxRecDepth 20000 in
theorem gX4_fold_X4_folds : GoodIn wsX4_fold (wsV RX4 140 RX4 yX4_folds wsX4_folds) := goodIn_app (goodIn_of _ (by decide +kernel)) ggX4_fold_X4_folds
theorem dX4_fold_0 : decode cX4_fold 0 = .ok (.aload_n 0, 1) := by decide +kernel
theorem dX4_fold_1 : decode cX4_fold 1 = .ok (.iload_n 1, 1) := by decide +kernel
theorem dX4_fold_2 : decode cX4_fold 2 = .ok (.invokevirtual 150, 3) := by decide +kernel
theorem dX4_fold_5 : decode cX4_fold 5 = .ok (.ifCond .eq 16, 3) := by decide +kernel
theorem dX4_fold_8 : decode cX4_fold 8 = .ok (.aload_n 0, 1) := by decide +kernel
theorem dX4_fold_9 : decode cX4_fold 9 = .ok (.iload_n 2, 1) := by decide +kernel
theorem dX4_fold_10 : decode cX4_fold 10 = .ok (.invokevirtual 150, 3) := by decide +kernel
theorem dX4_fold_13 : decode cX4_fold 13 = .ok (.ifCond .eq 8, 3) := by decide +kernel
theorem dX4_fold_16 : decode cX4_fold 16 = .ok (.iload_n 1, 1) := by decide +kernel
theorem dX4_fold_17 : decode cX4_fold 17 = .ok (.iload_n 2, 1) := by decide +kernel
theorem dX4_fold_18 : decode cX4_fold 18 = .ok (.if_icmp .ne 5, 3) := by decide +kernel
theorem dX4_fold_21 : decode cX4_fold 21 = .ok (.iconst (-1), 1) := by decide +kernel
theorem dX4_fold_22 : decode cX4_fold 22 = .ok (.ireturn, 1) := by decide +kernel
theorem dX4_fold_23 : decode cX4_fold 23 = .ok (.aload_n 0, 1) := by decide +kernel
theorem dX4_fold_24 : decode cX4_fold 24 = .ok (.getfield 20, 3) := by decide +kernel
theorem dX4_fold_27 : decode cX4_fold 27 = .ok (.bipush 23, 2) := by decide +kernel
theorem dX4_fold_29 : decode cX4_fold 29 = .ok (.if_icmp .ne 6, 3) := by decide +kernel
theorem dX4_fold_32 : decode cX4_fold 32 = .ok (.bipush (-3), 2) := by decide +kernel
theorem dX4_fold_34 : decode cX4_fold 34 = .ok (.ireturn, 1) := by decide +kernel
theorem dX4_fold_35 : decode cX4_fold 35 = .ok (.aload_n 0, 1) := by decide +kernel
theorem dX4_fold_36 : decode cX4_fold 36 = .ok (.iload_n 1, 1) := by decide +kernel
theorem dX4_fold_37 : decode cX4_fold 37 = .ok (.iload_n 2, 1) := by decide +kernel
theorem dX4_fold_38 : decode cX4_fold 38 = .ok (.invokevirtual 140, 3) := by decide +kernel
theorem dX4_fold_41 : decode cX4_fold 41 = .ok (.aload_n 0, 1) := by decide +kernel
theorem dX4_fold_42 : decode cX4_fold 42 = .ok (.getfield 20, 3) := by decide +kernel
theorem dX4_fold_45 : decode cX4_fold 45 = .ok (.iconst 1, 1) := by decide +kernel
theorem dX4_fold_46 : decode cX4_fold 46 = .ok (.isub, 1) := by decide +kernel
theorem dX4_fold_47 : decode cX4_fold 47 = .ok (.ireturn, 1) := by decide +kernel
set_option maxRecDepth 20000 in
theorem ggX4_isPart_X4_in : GoodIn wsX4_isPart wsX4_in := goodIn_r _ [5] (by decide +kernel) (by decide +kernel)
set_option maxRecDepth 20000 in
theorem gX4_isPart_X4_in : GoodIn wsX4_isPart (va_wsS RX4 57 yX4_in wsX4_in) := goodIn_app (goodIn_of _ (by decide +kernel)) ggX4_isPart_X4_in
theorem dX4_isPart_0 : decode cX4_isPart 0 = .ok (.iload_n 1, 1) := by decide +kernel
theorem dX4_isPart_1 : decode cX4_isPart 1 = .ok (.i2l, 1) := by decide +kernel
theorem dX4_isPart_2 : decode cX4_isPart 2 = .ok (.lconst 1, 1) := by decide +kernel
theorem dX4_isPart_3 : decode cX4_isPart 3 = .ok (.aload_n 0, 1) := by decide +kernel
theorem dX4_isPart_4 : decode cX4_isPart 4 = .ok (.getfield 13, 3) := by decide +kernel
theorem dX4_isPart_7 : decode cX4_isPart 7 = .ok (.iconst 1, 1) := by decide +kernel
theorem dX4_isPart_8 : decode cX4_isPart 8 = .ok (.isub, 1) := by decide +kernel
theorem dX4_isPart_9 : decode cX4_isPart 9 = .ok (.i2l, 1) := by decide +kernel
theorem dX4_isPart_10 : decode cX4_isPart 10 = .ok (.invokestatic 57, 3) := by decide +kernel
theorem dX4_isPart_13 : decode cX4_isPart 13 = .ok (.ireturn, 1) := by decide +kernel
set_option maxRecDepth 20000 in
theorem ggX4_rule_X4_partOf : GoodIn wsX4_rule wsX4_partOf := goodIn_r _ [6, 7, 8, 24, 25, 26, 27, 28, 29, 30, 31, 32, 33, 34, 35, 36, 37, 38, 39, 40, 41, 42, 43, 44, 45, 46] (by decide +kernel) (by decide +kernel)
set_option maxRecDepth 20000 in
theorem gX4_rule_X4_partOf : GoodIn wsX4_rule (wsV RX4 155 RX4 yX4_partOf wsX4_partOf) := goodIn_app (goodIn_of _ (by decide +kernel)) ggX4_rule_X4_partOf
set_option maxRecDepth 20000 in
theorem ggX4_rule_X4_isPart : GoodIn wsX4_rule wsX4_isPart := goodIn_r _ [12, 13, 14, 15, 5, 16, 24, 25, 26, 27, 28, 29, 30, 31, 32, 33, 34, 35, 36, 37, 38, 39, 40, 41, 42, 43, 44, 45, 46] (by decide +kernel) (by decide +kernel)
set_option maxRecDepth 20000 in
theorem gX4_rule_X4_isPart : GoodIn wsX4_rule (wsV RX4 163 RX4 yX4_isPart wsX4_isPart) := goodIn_app (goodIn_of _ (by decide +kernel)) ggX4_rule_X4_isPart
set_option maxRecDepth 20000 in
theorem ggX4_rule_X4_folds : GoodIn wsX4_rule wsX4_folds := goodIn_r _ [20, 7, 1, 21, 22, 23, 8, 24, 25, 26, 27, 28, 29, 30, 31, 32, 33, 34, 35, 36, 37, 38, 39, 40, 41, 42, 43, 44, 45, 46] (by decide +kernel) (by decide +kernel)
set_option maxRecDepth 20000 in
theorem gX4_rule_X4_folds : GoodIn wsX4_rule (wsV RX4 140 RX4 yX4_folds wsX4_folds) := goodIn_app (goodIn_of _ (by decide +kernel)) ggX4_rule_X4_folds
theorem dX4_rule_0 : decode cX4_rule 0 = .ok (.aload_n 0, 1) := by decide +kernel
theorem dX4_rule_1 : decode cX4_rule 1 = .ok (.aload_n 0, 1) := by decide +kernel
theorem dX4_rule_2 : decode cX4_rule 2 = .ok (.getfield 20, 3) := by decide +kernel
theorem dX4_rule_5 : decode cX4_rule 5 = .ok (.iconst 1, 1) := by decide +kernel
theorem dX4_rule_6 : decode cX4_rule 6 = .ok (.isub, 1) := by decide +kernel
theorem dX4_rule_7 : decode cX4_rule 7 = .ok (.invokevirtual 155, 3) := by decide +kernel
theorem dX4_rule_10 : decode cX4_rule 10 = .ok (.istore_n 1, 1) := by decide +kernel
theorem dX4_rule_11 : decode cX4_rule 11 = .ok (.aload_n 0, 1) := by decide +kernel
theorem dX4_rule_12 : decode cX4_rule 12 = .ok (.iload_n 1, 1) := by decide +kernel
theorem dX4_rule_13 : decode cX4_rule 13 = .ok (.invokevirtual 163, 3) := by decide +kernel
theorem dX4_rule_16 : decode cX4_rule 16 = .ok (.ifCond .ne 6, 3) := by decide +kernel
theorem dX4_rule_19 : decode cX4_rule 19 = .ok (.bipush (-2), 2) := by decide +kernel
theorem dX4_rule_21 : decode cX4_rule 21 = .ok (.ireturn, 1) := by decide +kernel
theorem dX4_rule_22 : decode cX4_rule 22 = .ok (.aload_n 0, 1) := by decide +kernel
theorem dX4_rule_23 : decode cX4_rule 23 = .ok (.getfield 20, 3) := by decide +kernel
theorem dX4_rule_26 : decode cX4_rule 26 = .ok (.bipush 23, 2) := by decide +kernel
theorem dX4_rule_28 : decode cX4_rule 28 = .ok (.if_icmp .ne 6, 3) := by decide +kernel
theorem dX4_rule_31 : decode cX4_rule 31 = .ok (.bipush (-3), 2) := by decide +kernel
theorem dX4_rule_33 : decode cX4_rule 33 = .ok (.ireturn, 1) := by decide +kernel
theorem dX4_rule_34 : decode cX4_rule 34 = .ok (.iload_n 1, 1) := by decide +kernel
theorem dX4_rule_35 : decode cX4_rule 35 = .ok (.iconst 2, 1) := by decide +kernel
theorem dX4_rule_36 : decode cX4_rule 36 = .ok (.irem, 1) := by decide +kernel
theorem dX4_rule_37 : decode cX4_rule 37 = .ok (.ifCond .ne 7, 3) := by decide +kernel
theorem dX4_rule_40 : decode cX4_rule 40 = .ok (.iconst 0, 1) := by decide +kernel
theorem dX4_rule_41 : decode cX4_rule 41 = .ok (.goto 4, 3) := by decide +kernel
theorem dX4_rule_44 : decode cX4_rule 44 = .ok (.iconst 1, 1) := by decide +kernel
theorem dX4_rule_45 : decode cX4_rule 45 = .ok (.istore_n 2, 1) := by decide +kernel
theorem dX4_rule_46 : decode cX4_rule 46 = .ok (.aload_n 0, 1) := by decide +kernel
theorem dX4_rule_47 : decode cX4_rule 47 = .ok (.iload_n 2, 1) := by decide +kernel
theorem dX4_rule_48 : decode cX4_rule 48 = .ok (.aload_n 0, 1) := by decide +kernel
theorem dX4_rule_49 : decode cX4_rule 49 = .ok (.getfield 20, 3) := by decide +kernel
theorem dX4_rule_52 : decode cX4_rule 52 = .ok (.iconst 1, 1) := by decide +kernel
theorem dX4_rule_53 : decode cX4_rule 53 = .ok (.isub, 1) := by decide +kernel
theorem dX4_rule_54 : decode cX4_rule 54 = .ok (.invokevirtual 140, 3) := by decide +kernel
theorem dX4_rule_57 : decode cX4_rule 57 = .ok (.iload_n 2, 1) := by decide +kernel
theorem dX4_rule_58 : decode cX4_rule 58 = .ok (.ireturn, 1) := by decide +kernel
theorem dX4_undo_0 : decode cX4_undo 0 = .ok (.aload_n 0, 1) := by decide +kernel
theorem dX4_undo_1 : decode cX4_undo 1 = .ok (.getfield 20, 3) := by decide +kernel
theorem dX4_undo_4 : decode cX4_undo 4 = .ok (.iconst 3, 1) := by decide +kernel
theorem dX4_undo_5 : decode cX4_undo 5 = .ok (.if_icmp .ne 6, 3) := by decide +kernel
theorem dX4_undo_8 : decode cX4_undo 8 = .ok (.bipush (-2), 2) := by decide +kernel
theorem dX4_undo_10 : decode cX4_undo 10 = .ok (.ireturn, 1) := by decide +kernel
theorem dX4_undo_11 : decode cX4_undo 11 = .ok (.aload_n 0, 1) := by decide +kernel
theorem dX4_undo_12 : decode cX4_undo 12 = .ok (.dup, 1) := by decide +kernel
theorem dX4_undo_13 : decode cX4_undo 13 = .ok (.getfield 20, 3) := by decide +kernel
theorem dX4_undo_16 : decode cX4_undo 16 = .ok (.iconst 1, 1) := by decide +kernel
theorem dX4_undo_17 : decode cX4_undo 17 = .ok (.isub, 1) := by decide +kernel
theorem dX4_undo_18 : decode cX4_undo 18 = .ok (.putfield 20, 3) := by decide +kernel
theorem dX4_undo_21 : decode cX4_undo 21 = .ok (.aload_n 0, 1) := by decide +kernel
theorem dX4_undo_22 : decode cX4_undo 22 = .ok (.getfield 20, 3) := by decide +kernel
theorem dX4_undo_25 : decode cX4_undo 25 = .ok (.ireturn, 1) := by decide +kernel
set_option maxRecDepth 20000 in
theorem ggX4_says_X4_isPart : GoodIn wsX4_says wsX4_isPart := goodIn_r _ [5, 6, 7, 8, 4, 9, 10, 11, 12, 13, 14, 15, 16, 17, 18, 19, 20, 21, 22, 23, 24, 25, 26, 27, 28, 29, 30, 31, 32] (by decide +kernel) (by decide +kernel)
set_option maxRecDepth 20000 in
theorem gX4_says_X4_isPart : GoodIn wsX4_says (wsV RX4 163 RX4 yX4_isPart wsX4_isPart) := goodIn_app (goodIn_of _ (by decide +kernel)) ggX4_says_X4_isPart
theorem dX4_says_0 : decode cX4_says 0 = .ok (.aload_n 0, 1) := by decide +kernel
theorem dX4_says_1 : decode cX4_says 1 = .ok (.iload_n 1, 1) := by decide +kernel
theorem dX4_says_2 : decode cX4_says 2 = .ok (.invokevirtual 163, 3) := by decide +kernel
theorem dX4_says_5 : decode cX4_says 5 = .ok (.ifCond .eq 17, 3) := by decide +kernel
theorem dX4_says_8 : decode cX4_says 8 = .ok (.iload_n 1, 1) := by decide +kernel
theorem dX4_says_9 : decode cX4_says 9 = .ok (.iconst 2, 1) := by decide +kernel
theorem dX4_says_10 : decode cX4_says 10 = .ok (.irem, 1) := by decide +kernel
theorem dX4_says_11 : decode cX4_says 11 = .ok (.ifCond .ne 7, 3) := by decide +kernel
theorem dX4_says_14 : decode cX4_says 14 = .ok (.iconst 0, 1) := by decide +kernel
theorem dX4_says_15 : decode cX4_says 15 = .ok (.goto 8, 3) := by decide +kernel
theorem dX4_says_18 : decode cX4_says 18 = .ok (.iconst 1, 1) := by decide +kernel
theorem dX4_says_19 : decode cX4_says 19 = .ok (.goto 4, 3) := by decide +kernel
theorem dX4_says_22 : decode cX4_says 22 = .ok (.iconst (-1), 1) := by decide +kernel
theorem dX4_says_23 : decode cX4_says 23 = .ok (.ireturn, 1) := by decide +kernel
theorem dX4_goes_0 : decode cX4_goes 0 = .ok (.iload_n 0, 1) := by decide +kernel
theorem dX4_goes_1 : decode cX4_goes 1 = .ok (.iconst 2, 1) := by decide +kernel
theorem dX4_goes_2 : decode cX4_goes 2 = .ok (.irem, 1) := by decide +kernel
theorem dX4_goes_3 : decode cX4_goes 3 = .ok (.ifCond .ne 7, 3) := by decide +kernel
theorem dX4_goes_6 : decode cX4_goes 6 = .ok (.iload_n 0, 1) := by decide +kernel
theorem dX4_goes_7 : decode cX4_goes 7 = .ok (.goto 6, 3) := by decide +kernel
theorem dX4_goes_10 : decode cX4_goes 10 = .ok (.iload_n 0, 1) := by decide +kernel
theorem dX4_goes_11 : decode cX4_goes 11 = .ok (.iload_n 1, 1) := by decide +kernel
theorem dX4_goes_12 : decode cX4_goes 12 = .ok (.iadd, 1) := by decide +kernel
theorem dX4_goes_13 : decode cX4_goes 13 = .ok (.iconst 2, 1) := by decide +kernel
theorem dX4_goes_14 : decode cX4_goes 14 = .ok (.idiv, 1) := by decide +kernel
theorem dX4_goes_15 : decode cX4_goes 15 = .ok (.ireturn, 1) := by decide +kernel
set_option maxRecDepth 20000 in
theorem ggX4_foldsTo_X4_goes : GoodIn wsX4_foldsTo wsX4_goes := goodIn_r _ [5] (by decide +kernel) (by decide +kernel)
set_option maxRecDepth 20000 in
theorem gX4_foldsTo_X4_goes : GoodIn wsX4_foldsTo (va_wsS RX4 166 yX4_goes wsX4_goes) := goodIn_app (goodIn_of _ (by decide +kernel)) ggX4_foldsTo_X4_goes
theorem dX4_foldsTo_0 : decode cX4_foldsTo 0 = .ok (.iload_n 1, 1) := by decide +kernel
theorem dX4_foldsTo_1 : decode cX4_foldsTo 1 = .ok (.istore_n 3, 1) := by decide +kernel
theorem dX4_foldsTo_2 : decode cX4_foldsTo 2 = .ok (.iconst 0, 1) := by decide +kernel
theorem dX4_foldsTo_3 : decode cX4_foldsTo 3 = .ok (.istore 4, 2) := by decide +kernel
theorem dX4_foldsTo_5 : decode cX4_foldsTo 5 = .ok (.iload 4, 2) := by decide +kernel
theorem dX4_foldsTo_7 : decode cX4_foldsTo 7 = .ok (.aload_n 0, 1) := by decide +kernel
theorem dX4_foldsTo_8 : decode cX4_foldsTo 8 = .ok (.getfield 13, 3) := by decide +kernel
theorem dX4_foldsTo_11 : decode cX4_foldsTo 11 = .ok (.if_icmp .ge 26, 3) := by decide +kernel
theorem dX4_foldsTo_14 : decode cX4_foldsTo 14 = .ok (.iload_n 3, 1) := by decide +kernel
theorem dX4_foldsTo_15 : decode cX4_foldsTo 15 = .ok (.iload_n 2, 1) := by decide +kernel
theorem dX4_foldsTo_16 : decode cX4_foldsTo 16 = .ok (.if_icmp .ne 6, 3) := by decide +kernel
theorem dX4_foldsTo_19 : decode cX4_foldsTo 19 = .ok (.iload 4, 2) := by decide +kernel
theorem dX4_foldsTo_21 : decode cX4_foldsTo 21 = .ok (.ireturn, 1) := by decide +kernel
theorem dX4_foldsTo_22 : decode cX4_foldsTo 22 = .ok (.iload_n 3, 1) := by decide +kernel
theorem dX4_foldsTo_23 : decode cX4_foldsTo 23 = .ok (.aload_n 0, 1) := by decide +kernel
theorem dX4_foldsTo_24 : decode cX4_foldsTo 24 = .ok (.getfield 13, 3) := by decide +kernel
theorem dX4_foldsTo_27 : decode cX4_foldsTo 27 = .ok (.invokestatic 166, 3) := by decide +kernel
theorem dX4_foldsTo_30 : decode cX4_foldsTo 30 = .ok (.istore_n 3, 1) := by decide +kernel
theorem dX4_foldsTo_31 : decode cX4_foldsTo 31 = .ok (.iinc 4 1, 3) := by decide +kernel
theorem dX4_foldsTo_34 : decode cX4_foldsTo 34 = .ok (.goto (-29), 3) := by decide +kernel
theorem dX4_foldsTo_37 : decode cX4_foldsTo 37 = .ok (.bipush (-9), 2) := by decide +kernel
theorem dX4_foldsTo_39 : decode cX4_foldsTo 39 = .ok (.ireturn, 1) := by decide +kernel
set_option maxRecDepth 20000 in
theorem ggX4_round_X4_isPart : GoodIn wsX4_round wsX4_isPart := goodIn_r _ [6, 1, 7, 8, 5, 9, 17, 18, 19, 20, 21, 22, 23, 24, 25, 26, 27, 28, 29, 30, 31, 32, 33, 34, 35, 36, 37, 38, 39] (by decide +kernel) (by decide +kernel)
set_option maxRecDepth 20000 in
theorem gX4_round_X4_isPart : GoodIn wsX4_round (wsV RX4 163 RX4 yX4_isPart wsX4_isPart) := goodIn_app (goodIn_of _ (by decide +kernel)) ggX4_round_X4_isPart
set_option maxRecDepth 20000 in
theorem ggX4_round_X4_goes : GoodIn wsX4_round wsX4_goes := goodIn_r _ [12] (by decide +kernel) (by decide +kernel)
set_option maxRecDepth 20000 in
theorem gX4_round_X4_goes : GoodIn wsX4_round (va_wsS RX4 166 yX4_goes wsX4_goes) := goodIn_app (goodIn_of _ (by decide +kernel)) ggX4_round_X4_goes
set_option maxRecDepth 20000 in
theorem ggX4_round_X4_foldsTo : GoodIn wsX4_round wsX4_foldsTo := goodIn_r _ [16, 1, 10, 11, 5, 12, 17, 18, 19, 20, 21, 22, 23, 24, 25, 26, 27, 28, 29, 30, 31, 32, 33, 34, 35, 36, 37, 38, 39] (by decide +kernel) (by decide +kernel)
set_option maxRecDepth 20000 in
theorem gX4_round_X4_foldsTo : GoodIn wsX4_round (wsV RX4 170 RX4 yX4_foldsTo wsX4_foldsTo) := goodIn_app (goodIn_of _ (by decide +kernel)) ggX4_round_X4_foldsTo
theorem dX4_round_0 : decode cX4_round 0 = .ok (.aload_n 0, 1) := by decide +kernel
theorem dX4_round_1 : decode cX4_round 1 = .ok (.iload_n 1, 1) := by decide +kernel
theorem dX4_round_2 : decode cX4_round 2 = .ok (.invokevirtual 163, 3) := by decide +kernel
theorem dX4_round_5 : decode cX4_round 5 = .ok (.ifCond .eq 21, 3) := by decide +kernel
theorem dX4_round_8 : decode cX4_round 8 = .ok (.iconst 1, 1) := by decide +kernel
theorem dX4_round_9 : decode cX4_round 9 = .ok (.aload_n 0, 1) := by decide +kernel
theorem dX4_round_10 : decode cX4_round 10 = .ok (.iload_n 1, 1) := by decide +kernel
theorem dX4_round_11 : decode cX4_round 11 = .ok (.aload_n 0, 1) := by decide +kernel
theorem dX4_round_12 : decode cX4_round 12 = .ok (.getfield 13, 3) := by decide +kernel
theorem dX4_round_15 : decode cX4_round 15 = .ok (.invokestatic 166, 3) := by decide +kernel
theorem dX4_round_18 : decode cX4_round 18 = .ok (.iload_n 1, 1) := by decide +kernel
theorem dX4_round_19 : decode cX4_round 19 = .ok (.invokevirtual 170, 3) := by decide +kernel
theorem dX4_round_22 : decode cX4_round 22 = .ok (.iadd, 1) := by decide +kernel
theorem dX4_round_23 : decode cX4_round 23 = .ok (.goto 4, 3) := by decide +kernel
theorem dX4_round_26 : decode cX4_round 26 = .ok (.iconst (-1), 1) := by decide +kernel
theorem dX4_round_27 : decode cX4_round 27 = .ok (.ireturn, 1) := by decide +kernel
set_option maxRecDepth 20000 in
theorem ggX4_near_X4_in : GoodIn wsX4_near wsX4_in := goodIn_r _ [8] (by decide +kernel) (by decide +kernel)
set_option maxRecDepth 20000 in
theorem gX4_near_X4_in : GoodIn wsX4_near (va_wsS RX4 57 yX4_in wsX4_in) := goodIn_app (goodIn_of _ (by decide +kernel)) ggX4_near_X4_in
theorem dX4_near_0 : decode cX4_near 0 = .ok (.iload_n 1, 1) := by decide +kernel
theorem dX4_near_1 : decode cX4_near 1 = .ok (.i2l, 1) := by decide +kernel
theorem dX4_near_2 : decode cX4_near 2 = .ok (.lconst 0, 1) := by decide +kernel
theorem dX4_near_3 : decode cX4_near 3 = .ok (.ldc2_w 173, 3) := by decide +kernel
theorem dX4_near_6 : decode cX4_near 6 = .ok (.invokestatic 57, 3) := by decide +kernel
theorem dX4_near_9 : decode cX4_near 9 = .ok (.ifCond .ne 5, 3) := by decide +kernel
theorem dX4_near_12 : decode cX4_near 12 = .ok (.iconst (-1), 1) := by decide +kernel
theorem dX4_near_13 : decode cX4_near 13 = .ok (.ireturn, 1) := by decide +kernel
theorem dX4_near_14 : decode cX4_near 14 = .ok (.iload_n 1, 1) := by decide +kernel
theorem dX4_near_15 : decode cX4_near 15 = .ok (.i2l, 1) := by decide +kernel
theorem dX4_near_16 : decode cX4_near 16 = .ok (.lstore_n 2, 1) := by decide +kernel
theorem dX4_near_17 : decode cX4_near 17 = .ok (.iconst 0, 1) := by decide +kernel
theorem dX4_near_18 : decode cX4_near 18 = .ok (.istore 4, 2) := by decide +kernel
theorem dX4_near_20 : decode cX4_near 20 = .ok (.iload 4, 2) := by decide +kernel
theorem dX4_near_22 : decode cX4_near 22 = .ok (.bipush 40, 2) := by decide +kernel
theorem dX4_near_24 : decode cX4_near 24 = .ok (.if_icmp .gt 32, 3) := by decide +kernel
theorem dX4_near_27 : decode cX4_near 27 = .ok (.aload_n 0, 1) := by decide +kernel
theorem dX4_near_28 : decode cX4_near 28 = .ok (.getfield 134, 3) := by decide +kernel
theorem dX4_near_31 : decode cX4_near 31 = .ok (.i2l, 1) := by decide +kernel
theorem dX4_near_32 : decode cX4_near 32 = .ok (.ldc2_w 95, 3) := by decide +kernel
theorem dX4_near_35 : decode cX4_near 35 = .ok (.lmul, 1) := by decide +kernel
theorem dX4_near_36 : decode cX4_near 36 = .ok (.lload_n 2, 1) := by decide +kernel
theorem dX4_near_37 : decode cX4_near 37 = .ok (.lcmp, 1) := by decide +kernel
theorem dX4_near_38 : decode cX4_near 38 = .ok (.ifCond .gt 6, 3) := by decide +kernel
theorem dX4_near_41 : decode cX4_near 41 = .ok (.iload 4, 2) := by decide +kernel
theorem dX4_near_43 : decode cX4_near 43 = .ok (.ireturn, 1) := by decide +kernel
theorem dX4_near_44 : decode cX4_near 44 = .ok (.lload_n 2, 1) := by decide +kernel
theorem dX4_near_45 : decode cX4_near 45 = .ok (.ldc2_w 53, 3) := by decide +kernel
theorem dX4_near_48 : decode cX4_near 48 = .ok (.lmul, 1) := by decide +kernel
theorem dX4_near_49 : decode cX4_near 49 = .ok (.lstore_n 2, 1) := by decide +kernel
theorem dX4_near_50 : decode cX4_near 50 = .ok (.iinc 4 1, 3) := by decide +kernel
theorem dX4_near_53 : decode cX4_near 53 = .ok (.goto (-33), 3) := by decide +kernel
theorem dX4_near_56 : decode cX4_near 56 = .ok (.bipush (-9), 2) := by decide +kernel
theorem dX4_near_58 : decode cX4_near 58 = .ok (.ireturn, 1) := by decide +kernel
set_option maxRecDepth 20000 in
theorem ggX4_wasted_X4_in : GoodIn wsX4_wasted wsX4_in := goodIn_r _ [6] (by decide +kernel) (by decide +kernel)
set_option maxRecDepth 20000 in
theorem gX4_wasted_X4_in : GoodIn wsX4_wasted (va_wsS RX4 57 yX4_in wsX4_in) := goodIn_app (goodIn_of _ (by decide +kernel)) ggX4_wasted_X4_in
set_option maxRecDepth 20000 in
theorem ggX4_wasted_X4_partOf : GoodIn wsX4_wasted wsX4_partOf := goodIn_r _ [10, 11, 12, 13, 14, 15, 16, 17, 18, 19, 20, 21, 22, 23, 24, 25, 26, 27, 28, 29, 30, 31, 32, 33, 34, 35] (by decide +kernel) (by decide +kernel)
set_option maxRecDepth 20000 in
theorem gX4_wasted_X4_partOf : GoodIn wsX4_wasted (wsV RX4 155 RX4 yX4_partOf wsX4_partOf) := goodIn_app (goodIn_of _ (by decide +kernel)) ggX4_wasted_X4_partOf
theorem dX4_wasted_0 : decode cX4_wasted 0 = .ok (.iload_n 1, 1) := by decide +kernel
theorem dX4_wasted_1 : decode cX4_wasted 1 = .ok (.i2l, 1) := by decide +kernel
theorem dX4_wasted_2 : decode cX4_wasted 2 = .ok (.lconst 0, 1) := by decide +kernel
theorem dX4_wasted_3 : decode cX4_wasted 3 = .ok (.lconst 1, 1) := by decide +kernel
theorem dX4_wasted_4 : decode cX4_wasted 4 = .ok (.invokestatic 57, 3) := by decide +kernel
theorem dX4_wasted_7 : decode cX4_wasted 7 = .ok (.ifCond .ne 5, 3) := by decide +kernel
theorem dX4_wasted_10 : decode cX4_wasted 10 = .ok (.iconst (-1), 1) := by decide +kernel
theorem dX4_wasted_11 : decode cX4_wasted 11 = .ok (.ireturn, 1) := by decide +kernel
theorem dX4_wasted_12 : decode cX4_wasted 12 = .ok (.iconst 0, 1) := by decide +kernel
theorem dX4_wasted_13 : decode cX4_wasted 13 = .ok (.istore_n 2, 1) := by decide +kernel
theorem dX4_wasted_14 : decode cX4_wasted 14 = .ok (.lconst 0, 1) := by decide +kernel
theorem dX4_wasted_15 : decode cX4_wasted 15 = .ok (.lstore_n 3, 1) := by decide +kernel
theorem dX4_wasted_16 : decode cX4_wasted 16 = .ok (.iconst 2, 1) := by decide +kernel
theorem dX4_wasted_17 : decode cX4_wasted 17 = .ok (.istore 5, 2) := by decide +kernel
theorem dX4_wasted_19 : decode cX4_wasted 19 = .ok (.iload 5, 2) := by decide +kernel
theorem dX4_wasted_21 : decode cX4_wasted 21 = .ok (.aload_n 0, 1) := by decide +kernel
theorem dX4_wasted_22 : decode cX4_wasted 22 = .ok (.getfield 20, 3) := by decide +kernel
theorem dX4_wasted_25 : decode cX4_wasted 25 = .ok (.if_icmp .ge 50, 3) := by decide +kernel
theorem dX4_wasted_28 : decode cX4_wasted 28 = .ok (.aload_n 0, 1) := by decide +kernel
theorem dX4_wasted_29 : decode cX4_wasted 29 = .ok (.iload 5, 2) := by decide +kernel
theorem dX4_wasted_31 : decode cX4_wasted 31 = .ok (.invokevirtual 155, 3) := by decide +kernel
theorem dX4_wasted_34 : decode cX4_wasted 34 = .ok (.istore 6, 2) := by decide +kernel
theorem dX4_wasted_36 : decode cX4_wasted 36 = .ok (.iload_n 2, 1) := by decide +kernel
theorem dX4_wasted_37 : decode cX4_wasted 37 = .ok (.iload 6, 2) := by decide +kernel
theorem dX4_wasted_39 : decode cX4_wasted 39 = .ok (.bipush (-9), 2) := by decide +kernel
theorem dX4_wasted_41 : decode cX4_wasted 41 = .ok (.if_icmp .ne 7, 3) := by decide +kernel
theorem dX4_wasted_44 : decode cX4_wasted 44 = .ok (.iconst 1, 1) := by decide +kernel
theorem dX4_wasted_45 : decode cX4_wasted 45 = .ok (.goto 4, 3) := by decide +kernel
theorem dX4_wasted_48 : decode cX4_wasted 48 = .ok (.iconst 0, 1) := by decide +kernel
theorem dX4_wasted_49 : decode cX4_wasted 49 = .ok (.iadd, 1) := by decide +kernel
theorem dX4_wasted_50 : decode cX4_wasted 50 = .ok (.istore_n 2, 1) := by decide +kernel
theorem dX4_wasted_51 : decode cX4_wasted 51 = .ok (.lload_n 3, 1) := by decide +kernel
theorem dX4_wasted_52 : decode cX4_wasted 52 = .ok (.iload 6, 2) := by decide +kernel
theorem dX4_wasted_54 : decode cX4_wasted 54 = .ok (.bipush (-9), 2) := by decide +kernel
theorem dX4_wasted_56 : decode cX4_wasted 56 = .ok (.if_icmp .ne 7, 3) := by decide +kernel
theorem dX4_wasted_59 : decode cX4_wasted 59 = .ok (.lconst 0, 1) := by decide +kernel
theorem dX4_wasted_60 : decode cX4_wasted 60 = .ok (.goto 7, 3) := by decide +kernel
theorem dX4_wasted_63 : decode cX4_wasted 63 = .ok (.lconst 1, 1) := by decide +kernel
theorem dX4_wasted_64 : decode cX4_wasted 64 = .ok (.iload 6, 2) := by decide +kernel
theorem dX4_wasted_66 : decode cX4_wasted 66 = .ok (.lshl, 1) := by decide +kernel
theorem dX4_wasted_67 : decode cX4_wasted 67 = .ok (.lor, 1) := by decide +kernel
theorem dX4_wasted_68 : decode cX4_wasted 68 = .ok (.lstore_n 3, 1) := by decide +kernel
theorem dX4_wasted_69 : decode cX4_wasted 69 = .ok (.iinc 5 1, 3) := by decide +kernel
theorem dX4_wasted_72 : decode cX4_wasted 72 = .ok (.goto (-53), 3) := by decide +kernel
theorem dX4_wasted_75 : decode cX4_wasted 75 = .ok (.iconst 0, 1) := by decide +kernel
theorem dX4_wasted_76 : decode cX4_wasted 76 = .ok (.istore 5, 2) := by decide +kernel
theorem dX4_wasted_78 : decode cX4_wasted 78 = .ok (.iconst 1, 1) := by decide +kernel
theorem dX4_wasted_79 : decode cX4_wasted 79 = .ok (.istore 6, 2) := by decide +kernel
theorem dX4_wasted_81 : decode cX4_wasted 81 = .ok (.iload 6, 2) := by decide +kernel
theorem dX4_wasted_83 : decode cX4_wasted 83 = .ok (.aload_n 0, 1) := by decide +kernel
theorem dX4_wasted_84 : decode cX4_wasted 84 = .ok (.getfield 13, 3) := by decide +kernel
theorem dX4_wasted_87 : decode cX4_wasted 87 = .ok (.if_icmp .ge 30, 3) := by decide +kernel
theorem dX4_wasted_90 : decode cX4_wasted 90 = .ok (.iload 5, 2) := by decide +kernel
theorem dX4_wasted_92 : decode cX4_wasted 92 = .ok (.lload_n 3, 1) := by decide +kernel
theorem dX4_wasted_93 : decode cX4_wasted 93 = .ok (.iload 6, 2) := by decide +kernel
theorem dX4_wasted_95 : decode cX4_wasted 95 = .ok (.lshr, 1) := by decide +kernel
theorem dX4_wasted_96 : decode cX4_wasted 96 = .ok (.lconst 1, 1) := by decide +kernel
theorem dX4_wasted_97 : decode cX4_wasted 97 = .ok (.land, 1) := by decide +kernel
theorem dX4_wasted_98 : decode cX4_wasted 98 = .ok (.lconst 0, 1) := by decide +kernel
theorem dX4_wasted_99 : decode cX4_wasted 99 = .ok (.lcmp, 1) := by decide +kernel
theorem dX4_wasted_100 : decode cX4_wasted 100 = .ok (.ifCond .ne 7, 3) := by decide +kernel
theorem dX4_wasted_103 : decode cX4_wasted 103 = .ok (.iconst 1, 1) := by decide +kernel
theorem dX4_wasted_104 : decode cX4_wasted 104 = .ok (.goto 4, 3) := by decide +kernel
theorem dX4_wasted_107 : decode cX4_wasted 107 = .ok (.iconst 0, 1) := by decide +kernel
theorem dX4_wasted_108 : decode cX4_wasted 108 = .ok (.iadd, 1) := by decide +kernel
theorem dX4_wasted_109 : decode cX4_wasted 109 = .ok (.istore 5, 2) := by decide +kernel
theorem dX4_wasted_111 : decode cX4_wasted 111 = .ok (.iinc 6 1, 3) := by decide +kernel
theorem dX4_wasted_114 : decode cX4_wasted 114 = .ok (.goto (-33), 3) := by decide +kernel
theorem dX4_wasted_117 : decode cX4_wasted 117 = .ok (.iload_n 1, 1) := by decide +kernel
theorem dX4_wasted_118 : decode cX4_wasted 118 = .ok (.ifCond .ne 7, 3) := by decide +kernel
theorem dX4_wasted_121 : decode cX4_wasted 121 = .ok (.iload_n 2, 1) := by decide +kernel
theorem dX4_wasted_122 : decode cX4_wasted 122 = .ok (.goto 5, 3) := by decide +kernel
theorem dX4_wasted_125 : decode cX4_wasted 125 = .ok (.iload 5, 2) := by decide +kernel
theorem dX4_wasted_127 : decode cX4_wasted 127 = .ok (.ireturn, 1) := by decide +kernel
set_option maxRecDepth 20000 in
theorem ggX4_fewest_X4_isPart : GoodIn wsX4_fewest wsX4_isPart := goodIn_r _ [6, 7, 8, 9, 5, 10, 18, 19, 20, 21, 22, 23, 24, 25, 26, 27, 28, 29, 30, 31, 32, 33, 34, 35, 36, 37, 38, 39, 40] (by decide +kernel) (by decide +kernel)
set_option maxRecDepth 20000 in
theorem gX4_fewest_X4_isPart : GoodIn wsX4_fewest (wsV RX4 163 RX4 yX4_isPart wsX4_isPart) := goodIn_app (goodIn_of _ (by decide +kernel)) ggX4_fewest_X4_isPart
set_option maxRecDepth 20000 in
theorem ggX4_fewest_X4_foldsTo : GoodIn wsX4_fewest wsX4_foldsTo := goodIn_r _ [14, 7, 15, 16, 5, 17, 18, 19, 20, 21, 22, 23, 24, 25, 26, 27, 28, 29, 30, 31, 32, 33, 34, 35, 36, 37, 38, 39, 40] (by decide +kernel) (by decide +kernel)
set_option maxRecDepth 20000 in
theorem gX4_fewest_X4_foldsTo : GoodIn wsX4_fewest (wsV RX4 170 RX4 yX4_foldsTo wsX4_foldsTo) := goodIn_app (goodIn_of _ (by decide +kernel)) ggX4_fewest_X4_foldsTo
theorem dX4_fewest_0 : decode cX4_fewest 0 = .ok (.aload_n 0, 1) := by decide +kernel
theorem dX4_fewest_1 : decode cX4_fewest 1 = .ok (.iload_n 1, 1) := by decide +kernel
theorem dX4_fewest_2 : decode cX4_fewest 2 = .ok (.invokevirtual 163, 3) := by decide +kernel
theorem dX4_fewest_5 : decode cX4_fewest 5 = .ok (.ifCond .eq 15, 3) := by decide +kernel
theorem dX4_fewest_8 : decode cX4_fewest 8 = .ok (.aload_n 0, 1) := by decide +kernel
theorem dX4_fewest_9 : decode cX4_fewest 9 = .ok (.aload_n 0, 1) := by decide +kernel
theorem dX4_fewest_10 : decode cX4_fewest 10 = .ok (.getfield 17, 3) := by decide +kernel
theorem dX4_fewest_13 : decode cX4_fewest 13 = .ok (.iload_n 1, 1) := by decide +kernel
theorem dX4_fewest_14 : decode cX4_fewest 14 = .ok (.invokevirtual 170, 3) := by decide +kernel
theorem dX4_fewest_17 : decode cX4_fewest 17 = .ok (.goto 4, 3) := by decide +kernel
theorem dX4_fewest_20 : decode cX4_fewest 20 = .ok (.iconst (-1), 1) := by decide +kernel
theorem dX4_fewest_21 : decode cX4_fewest 21 = .ok (.ireturn, 1) := by decide +kernel
set_option maxRecDepth 20000 in
theorem ggX4_comes_X4_in : GoodIn wsX4_comes wsX4_in := goodIn_r _ [6] (by decide +kernel) (by decide +kernel)
set_option maxRecDepth 20000 in
theorem gX4_comes_X4_in : GoodIn wsX4_comes (va_wsS RX4 57 yX4_in wsX4_in) := goodIn_app (goodIn_of _ (by decide +kernel)) ggX4_comes_X4_in
set_option maxRecDepth 20000 in
theorem ggX4_comes_X4_round : GoodIn wsX4_comes wsX4_round := goodIn_r _ [10, 2, 11, 12, 13, 5, 14, 3, 4, 6, 15, 16, 17, 18, 19, 20, 21, 22, 23, 24, 25, 26, 27, 28, 29, 30, 31, 32, 33, 34, 35, 36, 37, 38, 39, 40, 41, 42, 43, 44] (by decide +kernel) (by decide +kernel)
set_option maxRecDepth 20000 in
theorem gX4_comes_X4_round : GoodIn wsX4_comes (wsV RX4 175 RX4 yX4_round wsX4_round) := goodIn_app (goodIn_of _ (by decide +kernel)) ggX4_comes_X4_round
set_option maxRecDepth 20000 in
theorem ggX4_comes_X4_goes : GoodIn wsX4_comes wsX4_goes := goodIn_r _ [17] (by decide +kernel) (by decide +kernel)
set_option maxRecDepth 20000 in
theorem gX4_comes_X4_goes : GoodIn wsX4_comes (va_wsS RX4 166 yX4_goes wsX4_goes) := goodIn_app (goodIn_of _ (by decide +kernel)) ggX4_comes_X4_goes
theorem dX4_comes_0 : decode cX4_comes 0 = .ok (.iload_n 1, 1) := by decide +kernel
theorem dX4_comes_1 : decode cX4_comes 1 = .ok (.i2l, 1) := by decide +kernel
theorem dX4_comes_2 : decode cX4_comes 2 = .ok (.lconst 0, 1) := by decide +kernel
theorem dX4_comes_3 : decode cX4_comes 3 = .ok (.lconst 1, 1) := by decide +kernel
theorem dX4_comes_4 : decode cX4_comes 4 = .ok (.invokestatic 57, 3) := by decide +kernel
theorem dX4_comes_7 : decode cX4_comes 7 = .ok (.ifCond .ne 5, 3) := by decide +kernel
theorem dX4_comes_10 : decode cX4_comes 10 = .ok (.iconst (-1), 1) := by decide +kernel
theorem dX4_comes_11 : decode cX4_comes 11 = .ok (.ireturn, 1) := by decide +kernel
theorem dX4_comes_12 : decode cX4_comes 12 = .ok (.iload_n 1, 1) := by decide +kernel
theorem dX4_comes_13 : decode cX4_comes 13 = .ok (.ifCond .ne 12, 3) := by decide +kernel
theorem dX4_comes_16 : decode cX4_comes 16 = .ok (.aload_n 0, 1) := by decide +kernel
theorem dX4_comes_17 : decode cX4_comes 17 = .ok (.aload_n 0, 1) := by decide +kernel
theorem dX4_comes_18 : decode cX4_comes 18 = .ok (.getfield 17, 3) := by decide +kernel
theorem dX4_comes_21 : decode cX4_comes 21 = .ok (.invokevirtual 175, 3) := by decide +kernel
theorem dX4_comes_24 : decode cX4_comes 24 = .ok (.ireturn, 1) := by decide +kernel
theorem dX4_comes_25 : decode cX4_comes 25 = .ok (.iconst 0, 1) := by decide +kernel
theorem dX4_comes_26 : decode cX4_comes 26 = .ok (.istore_n 2, 1) := by decide +kernel
theorem dX4_comes_27 : decode cX4_comes 27 = .ok (.lconst 0, 1) := by decide +kernel
theorem dX4_comes_28 : decode cX4_comes 28 = .ok (.lstore_n 3, 1) := by decide +kernel
theorem dX4_comes_29 : decode cX4_comes 29 = .ok (.iconst 1, 1) := by decide +kernel
theorem dX4_comes_30 : decode cX4_comes 30 = .ok (.istore 5, 2) := by decide +kernel
theorem dX4_comes_32 : decode cX4_comes 32 = .ok (.iload 5, 2) := by decide +kernel
theorem dX4_comes_34 : decode cX4_comes 34 = .ok (.aload_n 0, 1) := by decide +kernel
theorem dX4_comes_35 : decode cX4_comes 35 = .ok (.getfield 13, 3) := by decide +kernel
theorem dX4_comes_38 : decode cX4_comes 38 = .ok (.if_icmp .ge 64, 3) := by decide +kernel
theorem dX4_comes_41 : decode cX4_comes 41 = .ok (.iload_n 2, 1) := by decide +kernel
theorem dX4_comes_42 : decode cX4_comes 42 = .ok (.lload_n 3, 1) := by decide +kernel
theorem dX4_comes_43 : decode cX4_comes 43 = .ok (.iload 5, 2) := by decide +kernel
theorem dX4_comes_45 : decode cX4_comes 45 = .ok (.lshr, 1) := by decide +kernel
theorem dX4_comes_46 : decode cX4_comes 46 = .ok (.lconst 1, 1) := by decide +kernel
theorem dX4_comes_47 : decode cX4_comes 47 = .ok (.land, 1) := by decide +kernel
theorem dX4_comes_48 : decode cX4_comes 48 = .ok (.lconst 0, 1) := by decide +kernel
theorem dX4_comes_49 : decode cX4_comes 49 = .ok (.lcmp, 1) := by decide +kernel
theorem dX4_comes_50 : decode cX4_comes 50 = .ok (.ifCond .ne 7, 3) := by decide +kernel
theorem dX4_comes_53 : decode cX4_comes 53 = .ok (.iconst 1, 1) := by decide +kernel
theorem dX4_comes_54 : decode cX4_comes 54 = .ok (.goto 4, 3) := by decide +kernel
theorem dX4_comes_57 : decode cX4_comes 57 = .ok (.iconst 0, 1) := by decide +kernel
theorem dX4_comes_58 : decode cX4_comes 58 = .ok (.iadd, 1) := by decide +kernel
theorem dX4_comes_59 : decode cX4_comes 59 = .ok (.istore_n 2, 1) := by decide +kernel
theorem dX4_comes_60 : decode cX4_comes 60 = .ok (.iload 5, 2) := by decide +kernel
theorem dX4_comes_62 : decode cX4_comes 62 = .ok (.istore 6, 2) := by decide +kernel
theorem dX4_comes_64 : decode cX4_comes 64 = .ok (.lload_n 3, 1) := by decide +kernel
theorem dX4_comes_65 : decode cX4_comes 65 = .ok (.iload 6, 2) := by decide +kernel
theorem dX4_comes_67 : decode cX4_comes 67 = .ok (.lshr, 1) := by decide +kernel
theorem dX4_comes_68 : decode cX4_comes 68 = .ok (.lconst 1, 1) := by decide +kernel
theorem dX4_comes_69 : decode cX4_comes 69 = .ok (.land, 1) := by decide +kernel
theorem dX4_comes_70 : decode cX4_comes 70 = .ok (.lconst 0, 1) := by decide +kernel
theorem dX4_comes_71 : decode cX4_comes 71 = .ok (.lcmp, 1) := by decide +kernel
theorem dX4_comes_72 : decode cX4_comes 72 = .ok (.ifCond .ne 24, 3) := by decide +kernel
theorem dX4_comes_75 : decode cX4_comes 75 = .ok (.lload_n 3, 1) := by decide +kernel
theorem dX4_comes_76 : decode cX4_comes 76 = .ok (.lconst 1, 1) := by decide +kernel
theorem dX4_comes_77 : decode cX4_comes 77 = .ok (.iload 6, 2) := by decide +kernel
theorem dX4_comes_79 : decode cX4_comes 79 = .ok (.lshl, 1) := by decide +kernel
theorem dX4_comes_80 : decode cX4_comes 80 = .ok (.lor, 1) := by decide +kernel
theorem dX4_comes_81 : decode cX4_comes 81 = .ok (.lstore_n 3, 1) := by decide +kernel
theorem dX4_comes_82 : decode cX4_comes 82 = .ok (.iload 6, 2) := by decide +kernel
theorem dX4_comes_84 : decode cX4_comes 84 = .ok (.aload_n 0, 1) := by decide +kernel
theorem dX4_comes_85 : decode cX4_comes 85 = .ok (.getfield 13, 3) := by decide +kernel
theorem dX4_comes_88 : decode cX4_comes 88 = .ok (.invokestatic 166, 3) := by decide +kernel
theorem dX4_comes_91 : decode cX4_comes 91 = .ok (.istore 6, 2) := by decide +kernel
theorem dX4_comes_93 : decode cX4_comes 93 = .ok (.goto (-29), 3) := by decide +kernel
theorem dX4_comes_96 : decode cX4_comes 96 = .ok (.iinc 5 1, 3) := by decide +kernel
theorem dX4_comes_99 : decode cX4_comes 99 = .ok (.goto (-67), 3) := by decide +kernel
theorem dX4_comes_102 : decode cX4_comes 102 = .ok (.iload_n 2, 1) := by decide +kernel
theorem dX4_comes_103 : decode cX4_comes 103 = .ok (.ireturn, 1) := by decide +kernel
set_option maxRecDepth 20000 in
theorem ggX4_letter_X4_in : GoodIn wsX4_letter wsX4_in := goodIn_r _ [6] (by decide +kernel) (by decide +kernel)
set_option maxRecDepth 20000 in
theorem gX4_letter_X4_in : GoodIn wsX4_letter (va_wsS RX4 57 yX4_in wsX4_in) := goodIn_app (goodIn_of _ (by decide +kernel)) ggX4_letter_X4_in
theorem dX4_letter_0 : decode cX4_letter 0 = .ok (.iload_n 1, 1) := by decide +kernel
theorem dX4_letter_1 : decode cX4_letter 1 = .ok (.i2l, 1) := by decide +kernel
theorem dX4_letter_2 : decode cX4_letter 2 = .ok (.lconst 0, 1) := by decide +kernel
theorem dX4_letter_3 : decode cX4_letter 3 = .ok (.lconst 1, 1) := by decide +kernel
theorem dX4_letter_4 : decode cX4_letter 4 = .ok (.invokestatic 57, 3) := by decide +kernel
theorem dX4_letter_7 : decode cX4_letter 7 = .ok (.ifCond .ne 5, 3) := by decide +kernel
theorem dX4_letter_10 : decode cX4_letter 10 = .ok (.iconst (-1), 1) := by decide +kernel
theorem dX4_letter_11 : decode cX4_letter 11 = .ok (.ireturn, 1) := by decide +kernel
theorem dX4_letter_12 : decode cX4_letter 12 = .ok (.aload_n 0, 1) := by decide +kernel
theorem dX4_letter_13 : decode cX4_letter 13 = .ok (.getfield 144, 3) := by decide +kernel
theorem dX4_letter_16 : decode cX4_letter 16 = .ok (.bipush 12, 2) := by decide +kernel
theorem dX4_letter_18 : decode cX4_letter 18 = .ok (.if_icmp .ne 6, 3) := by decide +kernel
theorem dX4_letter_21 : decode cX4_letter 21 = .ok (.bipush (-3), 2) := by decide +kernel
theorem dX4_letter_23 : decode cX4_letter 23 = .ok (.ireturn, 1) := by decide +kernel
theorem dX4_letter_24 : decode cX4_letter 24 = .ok (.aload_n 0, 1) := by decide +kernel
theorem dX4_letter_25 : decode cX4_letter 25 = .ok (.getfield 33, 3) := by decide +kernel
theorem dX4_letter_28 : decode cX4_letter 28 = .ok (.aload_n 0, 1) := by decide +kernel
theorem dX4_letter_29 : decode cX4_letter 29 = .ok (.getfield 144, 3) := by decide +kernel
theorem dX4_letter_32 : decode cX4_letter 32 = .ok (.iload_n 1, 1) := by decide +kernel
theorem dX4_letter_33 : decode cX4_letter 33 = .ok (.iastore, 1) := by decide +kernel
theorem dX4_letter_34 : decode cX4_letter 34 = .ok (.aload_n 0, 1) := by decide +kernel
theorem dX4_letter_35 : decode cX4_letter 35 = .ok (.dup, 1) := by decide +kernel
theorem dX4_letter_36 : decode cX4_letter 36 = .ok (.getfield 144, 3) := by decide +kernel
theorem dX4_letter_39 : decode cX4_letter 39 = .ok (.iconst 1, 1) := by decide +kernel
theorem dX4_letter_40 : decode cX4_letter 40 = .ok (.iadd, 1) := by decide +kernel
theorem dX4_letter_41 : decode cX4_letter 41 = .ok (.putfield 144, 3) := by decide +kernel
theorem dX4_letter_44 : decode cX4_letter 44 = .ok (.aload_n 0, 1) := by decide +kernel
theorem dX4_letter_45 : decode cX4_letter 45 = .ok (.getfield 144, 3) := by decide +kernel
theorem dX4_letter_48 : decode cX4_letter 48 = .ok (.ireturn, 1) := by decide +kernel
theorem dX4_hush_0 : decode cX4_hush 0 = .ok (.aload_n 0, 1) := by decide +kernel
theorem dX4_hush_1 : decode cX4_hush 1 = .ok (.getfield 144, 3) := by decide +kernel
theorem dX4_hush_4 : decode cX4_hush 4 = .ok (.istore_n 1, 1) := by decide +kernel
theorem dX4_hush_5 : decode cX4_hush 5 = .ok (.aload_n 0, 1) := by decide +kernel
theorem dX4_hush_6 : decode cX4_hush 6 = .ok (.iconst 0, 1) := by decide +kernel
theorem dX4_hush_7 : decode cX4_hush 7 = .ok (.putfield 144, 3) := by decide +kernel
theorem dX4_hush_10 : decode cX4_hush 10 = .ok (.iload_n 1, 1) := by decide +kernel
theorem dX4_hush_11 : decode cX4_hush 11 = .ok (.ireturn, 1) := by decide +kernel
set_option maxRecDepth 20000 in
theorem ggX4_wrongFrom_X4_goes : GoodIn wsX4_wrongFrom wsX4_goes := goodIn_r _ [6] (by decide +kernel) (by decide +kernel)
set_option maxRecDepth 20000 in
theorem gX4_wrongFrom_X4_goes : GoodIn wsX4_wrongFrom (va_wsS RX4 166 yX4_goes wsX4_goes) := goodIn_app (goodIn_of _ (by decide +kernel)) ggX4_wrongFrom_X4_goes
theorem dX4_wrongFrom_0 : decode cX4_wrongFrom 0 = .ok (.iload_n 1, 1) := by decide +kernel
theorem dX4_wrongFrom_1 : decode cX4_wrongFrom 1 = .ok (.istore_n 3, 1) := by decide +kernel
theorem dX4_wrongFrom_2 : decode cX4_wrongFrom 2 = .ok (.iconst 0, 1) := by decide +kernel
theorem dX4_wrongFrom_3 : decode cX4_wrongFrom 3 = .ok (.istore 4, 2) := by decide +kernel
theorem dX4_wrongFrom_5 : decode cX4_wrongFrom 5 = .ok (.iload 4, 2) := by decide +kernel
theorem dX4_wrongFrom_7 : decode cX4_wrongFrom 7 = .ok (.aload_n 0, 1) := by decide +kernel
theorem dX4_wrongFrom_8 : decode cX4_wrongFrom 8 = .ok (.getfield 144, 3) := by decide +kernel
theorem dX4_wrongFrom_11 : decode cX4_wrongFrom 11 = .ok (.if_icmp .ge 31, 3) := by decide +kernel
theorem dX4_wrongFrom_14 : decode cX4_wrongFrom 14 = .ok (.aload_n 0, 1) := by decide +kernel
theorem dX4_wrongFrom_15 : decode cX4_wrongFrom 15 = .ok (.getfield 33, 3) := by decide +kernel
theorem dX4_wrongFrom_18 : decode cX4_wrongFrom 18 = .ok (.iload 4, 2) := by decide +kernel
theorem dX4_wrongFrom_20 : decode cX4_wrongFrom 20 = .ok (.iaload, 1) := by decide +kernel
theorem dX4_wrongFrom_21 : decode cX4_wrongFrom 21 = .ok (.iload_n 3, 1) := by decide +kernel
theorem dX4_wrongFrom_22 : decode cX4_wrongFrom 22 = .ok (.iconst 2, 1) := by decide +kernel
theorem dX4_wrongFrom_23 : decode cX4_wrongFrom 23 = .ok (.irem, 1) := by decide +kernel
theorem dX4_wrongFrom_24 : decode cX4_wrongFrom 24 = .ok (.if_icmp .eq 6, 3) := by decide +kernel
theorem dX4_wrongFrom_27 : decode cX4_wrongFrom 27 = .ok (.iload 4, 2) := by decide +kernel
theorem dX4_wrongFrom_29 : decode cX4_wrongFrom 29 = .ok (.ireturn, 1) := by decide +kernel
theorem dX4_wrongFrom_30 : decode cX4_wrongFrom 30 = .ok (.iload_n 3, 1) := by decide +kernel
theorem dX4_wrongFrom_31 : decode cX4_wrongFrom 31 = .ok (.iload_n 2, 1) := by decide +kernel
theorem dX4_wrongFrom_32 : decode cX4_wrongFrom 32 = .ok (.invokestatic 166, 3) := by decide +kernel
theorem dX4_wrongFrom_35 : decode cX4_wrongFrom 35 = .ok (.istore_n 3, 1) := by decide +kernel
theorem dX4_wrongFrom_36 : decode cX4_wrongFrom 36 = .ok (.iinc 4 1, 3) := by decide +kernel
theorem dX4_wrongFrom_39 : decode cX4_wrongFrom 39 = .ok (.goto (-34), 3) := by decide +kernel
theorem dX4_wrongFrom_42 : decode cX4_wrongFrom 42 = .ok (.bipush (-9), 2) := by decide +kernel
theorem dX4_wrongFrom_44 : decode cX4_wrongFrom 44 = .ok (.ireturn, 1) := by decide +kernel
set_option maxRecDepth 20000 in
theorem ggX4_meant_X4_in : GoodIn wsX4_meant wsX4_in := goodIn_r _ [5] (by decide +kernel) (by decide +kernel)
set_option maxRecDepth 20000 in
theorem gX4_meant_X4_in : GoodIn wsX4_meant (va_wsS RX4 57 yX4_in wsX4_in) := goodIn_app (goodIn_of _ (by decide +kernel)) ggX4_meant_X4_in
set_option maxRecDepth 20000 in
theorem ggX4_meant_X4_wrongFrom : GoodIn wsX4_meant wsX4_wrongFrom := goodIn_r _ [9, 10, 11, 12, 13, 4, 14, 15, 16, 17, 18, 19, 20, 21, 22, 23, 24, 25, 26, 27, 28, 29, 30, 31, 32, 33, 34, 35, 36, 37] (by decide +kernel) (by decide +kernel)
set_option maxRecDepth 20000 in
theorem gX4_meant_X4_wrongFrom : GoodIn wsX4_meant (wsV RX4 178 RX4 yX4_wrongFrom wsX4_wrongFrom) := goodIn_app (goodIn_of _ (by decide +kernel)) ggX4_meant_X4_wrongFrom
theorem dX4_meant_0 : decode cX4_meant 0 = .ok (.iload_n 1, 1) := by decide +kernel
theorem dX4_meant_1 : decode cX4_meant 1 = .ok (.i2l, 1) := by decide +kernel
theorem dX4_meant_2 : decode cX4_meant 2 = .ok (.lconst 0, 1) := by decide +kernel
theorem dX4_meant_3 : decode cX4_meant 3 = .ok (.ldc2_w 53, 3) := by decide +kernel
theorem dX4_meant_6 : decode cX4_meant 6 = .ok (.invokestatic 57, 3) := by decide +kernel
theorem dX4_meant_9 : decode cX4_meant 9 = .ok (.ifCond .ne 5, 3) := by decide +kernel
theorem dX4_meant_12 : decode cX4_meant 12 = .ok (.iconst (-1), 1) := by decide +kernel
theorem dX4_meant_13 : decode cX4_meant 13 = .ok (.ireturn, 1) := by decide +kernel
theorem dX4_meant_14 : decode cX4_meant 14 = .ok (.iconst 0, 1) := by decide +kernel
theorem dX4_meant_15 : decode cX4_meant 15 = .ok (.istore_n 2, 1) := by decide +kernel
theorem dX4_meant_16 : decode cX4_meant 16 = .ok (.bipush (-9), 2) := by decide +kernel
theorem dX4_meant_18 : decode cX4_meant 18 = .ok (.istore_n 3, 1) := by decide +kernel
theorem dX4_meant_19 : decode cX4_meant 19 = .ok (.bipush (-9), 2) := by decide +kernel
theorem dX4_meant_21 : decode cX4_meant 21 = .ok (.istore 4, 2) := by decide +kernel
theorem dX4_meant_23 : decode cX4_meant 23 = .ok (.bipush 63, 2) := by decide +kernel
theorem dX4_meant_25 : decode cX4_meant 25 = .ok (.istore 5, 2) := by decide +kernel
theorem dX4_meant_27 : decode cX4_meant 27 = .ok (.iload 5, 2) := by decide +kernel
theorem dX4_meant_29 : decode cX4_meant 29 = .ok (.iconst 2, 1) := by decide +kernel
theorem dX4_meant_30 : decode cX4_meant 30 = .ok (.if_icmp .le 49, 3) := by decide +kernel
theorem dX4_meant_33 : decode cX4_meant 33 = .ok (.iload 5, 2) := by decide +kernel
theorem dX4_meant_35 : decode cX4_meant 35 = .ok (.iconst 1, 1) := by decide +kernel
theorem dX4_meant_36 : decode cX4_meant 36 = .ok (.isub, 1) := by decide +kernel
theorem dX4_meant_37 : decode cX4_meant 37 = .ok (.istore 6, 2) := by decide +kernel
theorem dX4_meant_39 : decode cX4_meant 39 = .ok (.iload 6, 2) := by decide +kernel
theorem dX4_meant_41 : decode cX4_meant 41 = .ok (.ifCond .le 32, 3) := by decide +kernel
theorem dX4_meant_44 : decode cX4_meant 44 = .ok (.aload_n 0, 1) := by decide +kernel
theorem dX4_meant_45 : decode cX4_meant 45 = .ok (.iload 6, 2) := by decide +kernel
theorem dX4_meant_47 : decode cX4_meant 47 = .ok (.iload 5, 2) := by decide +kernel
theorem dX4_meant_49 : decode cX4_meant 49 = .ok (.invokevirtual 178, 3) := by decide +kernel
theorem dX4_meant_52 : decode cX4_meant 52 = .ok (.bipush (-9), 2) := by decide +kernel
theorem dX4_meant_54 : decode cX4_meant 54 = .ok (.if_icmp .ne 13, 3) := by decide +kernel
theorem dX4_meant_57 : decode cX4_meant 57 = .ok (.iinc 2 1, 3) := by decide +kernel
theorem dX4_meant_60 : decode cX4_meant 60 = .ok (.iload 5, 2) := by decide +kernel
theorem dX4_meant_62 : decode cX4_meant 62 = .ok (.istore_n 3, 1) := by decide +kernel
theorem dX4_meant_63 : decode cX4_meant 63 = .ok (.iload 6, 2) := by decide +kernel
theorem dX4_meant_65 : decode cX4_meant 65 = .ok (.istore 4, 2) := by decide +kernel
theorem dX4_meant_67 : decode cX4_meant 67 = .ok (.iinc 6 (-1), 3) := by decide +kernel
theorem dX4_meant_70 : decode cX4_meant 70 = .ok (.goto (-31), 3) := by decide +kernel
theorem dX4_meant_73 : decode cX4_meant 73 = .ok (.iinc 5 (-2), 3) := by decide +kernel
theorem dX4_meant_76 : decode cX4_meant 76 = .ok (.goto (-49), 3) := by decide +kernel
theorem dX4_meant_79 : decode cX4_meant 79 = .ok (.iload_n 1, 1) := by decide +kernel
theorem dX4_meant_80 : decode cX4_meant 80 = .ok (.ifCond .ne 7, 3) := by decide +kernel
theorem dX4_meant_83 : decode cX4_meant 83 = .ok (.iload_n 2, 1) := by decide +kernel
theorem dX4_meant_84 : decode cX4_meant 84 = .ok (.goto 14, 3) := by decide +kernel
theorem dX4_meant_87 : decode cX4_meant 87 = .ok (.iload_n 1, 1) := by decide +kernel
theorem dX4_meant_88 : decode cX4_meant 88 = .ok (.iconst 1, 1) := by decide +kernel
theorem dX4_meant_89 : decode cX4_meant 89 = .ok (.if_icmp .ne 7, 3) := by decide +kernel
theorem dX4_meant_92 : decode cX4_meant 92 = .ok (.iload_n 3, 1) := by decide +kernel
theorem dX4_meant_93 : decode cX4_meant 93 = .ok (.goto 5, 3) := by decide +kernel
theorem dX4_meant_96 : decode cX4_meant 96 = .ok (.iload 4, 2) := by decide +kernel
theorem dX4_meant_98 : decode cX4_meant 98 = .ok (.ireturn, 1) := by decide +kernel
set_option maxRecDepth 20000 in
theorem ggX4_wrong_X4_wrongFrom : GoodIn wsX4_wrong wsX4_wrongFrom := goodIn_r _ [7, 8, 9, 10, 11, 6, 12, 13, 14, 15, 16, 17, 18, 19, 20, 21, 22, 23, 24, 25, 26, 27, 28, 29, 30, 31, 32, 33, 34, 35] (by decide +kernel) (by decide +kernel)
set_option maxRecDepth 20000 in
theorem gX4_wrong_X4_wrongFrom : GoodIn wsX4_wrong (wsV RX4 178 RX4 yX4_wrongFrom wsX4_wrongFrom) := goodIn_app (goodIn_of _ (by decide +kernel)) ggX4_wrong_X4_wrongFrom
theorem dX4_wrong_0 : decode cX4_wrong 0 = .ok (.aload_n 0, 1) := by decide +kernel
theorem dX4_wrong_1 : decode cX4_wrong 1 = .ok (.aload_n 0, 1) := by decide +kernel
theorem dX4_wrong_2 : decode cX4_wrong 2 = .ok (.getfield 17, 3) := by decide +kernel
theorem dX4_wrong_5 : decode cX4_wrong 5 = .ok (.aload_n 0, 1) := by decide +kernel
theorem dX4_wrong_6 : decode cX4_wrong 6 = .ok (.getfield 13, 3) := by decide +kernel
theorem dX4_wrong_9 : decode cX4_wrong 9 = .ok (.invokevirtual 178, 3) := by decide +kernel
theorem dX4_wrong_12 : decode cX4_wrong 12 = .ok (.ireturn, 1) := by decide +kernel
set_option maxRecDepth 20000 in
theorem ggX4_got_X4_in : GoodIn wsX4_got wsX4_in := goodIn_r _ [11] (by decide +kernel) (by decide +kernel)
set_option maxRecDepth 20000 in
theorem gX4_got_X4_in : GoodIn wsX4_got (va_wsS RX4 57 yX4_in wsX4_in) := goodIn_app (goodIn_of _ (by decide +kernel)) ggX4_got_X4_in
set_option maxRecDepth 20000 in
theorem ggX4_got_X4_least : GoodIn wsX4_got wsX4_least := goodIn_r _ [14] (by decide +kernel) (by decide +kernel)
set_option maxRecDepth 20000 in
theorem gX4_got_X4_least : GoodIn wsX4_got (va_wsS RX4 159 yX4_least wsX4_least) := goodIn_app (goodIn_of _ (by decide +kernel)) ggX4_got_X4_least
theorem dX4_got_0 : decode cX4_got 0 = .ok (.iload_n 1, 1) := by decide +kernel
theorem dX4_got_1 : decode cX4_got 1 = .ok (.i2l, 1) := by decide +kernel
theorem dX4_got_2 : decode cX4_got 2 = .ok (.lconst 0, 1) := by decide +kernel
theorem dX4_got_3 : decode cX4_got 3 = .ok (.lconst 1, 1) := by decide +kernel
theorem dX4_got_4 : decode cX4_got 4 = .ok (.invokestatic 57, 3) := by decide +kernel
theorem dX4_got_7 : decode cX4_got 7 = .ok (.ifCond .ne 7, 3) := by decide +kernel
theorem dX4_got_10 : decode cX4_got 10 = .ok (.ldc2_w 89, 3) := by decide +kernel
theorem dX4_got_13 : decode cX4_got 13 = .ok (.lreturn, 1) := by decide +kernel
theorem dX4_got_14 : decode cX4_got 14 = .ok (.aload_n 0, 1) := by decide +kernel
theorem dX4_got_15 : decode cX4_got 15 = .ok (.getfield 17, 3) := by decide +kernel
theorem dX4_got_18 : decode cX4_got 18 = .ok (.i2l, 1) := by decide +kernel
theorem dX4_got_19 : decode cX4_got 19 = .ok (.ldc2_w 51, 3) := by decide +kernel
theorem dX4_got_22 : decode cX4_got 22 = .ok (.lmul, 1) := by decide +kernel
theorem dX4_got_23 : decode cX4_got 23 = .ok (.lstore_n 2, 1) := by decide +kernel
theorem dX4_got_24 : decode cX4_got 24 = .ok (.iconst 0, 1) := by decide +kernel
theorem dX4_got_25 : decode cX4_got 25 = .ok (.istore 4, 2) := by decide +kernel
theorem dX4_got_27 : decode cX4_got 27 = .ok (.iload 4, 2) := by decide +kernel
theorem dX4_got_29 : decode cX4_got 29 = .ok (.aload_n 0, 1) := by decide +kernel
theorem dX4_got_30 : decode cX4_got 30 = .ok (.getfield 144, 3) := by decide +kernel
theorem dX4_got_33 : decode cX4_got 33 = .ok (.if_icmp .ge 33, 3) := by decide +kernel
theorem dX4_got_36 : decode cX4_got 36 = .ok (.lload_n 2, 1) := by decide +kernel
theorem dX4_got_37 : decode cX4_got 37 = .ok (.aload_n 0, 1) := by decide +kernel
theorem dX4_got_38 : decode cX4_got 38 = .ok (.getfield 33, 3) := by decide +kernel
theorem dX4_got_41 : decode cX4_got 41 = .ok (.iload 4, 2) := by decide +kernel
theorem dX4_got_43 : decode cX4_got 43 = .ok (.iaload, 1) := by decide +kernel
theorem dX4_got_44 : decode cX4_got 44 = .ok (.aload_n 0, 1) := by decide +kernel
theorem dX4_got_45 : decode cX4_got 45 = .ok (.getfield 13, 3) := by decide +kernel
theorem dX4_got_48 : decode cX4_got 48 = .ok (.imul, 1) := by decide +kernel
theorem dX4_got_49 : decode cX4_got 49 = .ok (.i2l, 1) := by decide +kernel
theorem dX4_got_50 : decode cX4_got 50 = .ok (.ldc2_w 51, 3) := by decide +kernel
theorem dX4_got_53 : decode cX4_got 53 = .ok (.lmul, 1) := by decide +kernel
theorem dX4_got_54 : decode cX4_got 54 = .ok (.ladd, 1) := by decide +kernel
theorem dX4_got_55 : decode cX4_got 55 = .ok (.ldc2_w 53, 3) := by decide +kernel
theorem dX4_got_58 : decode cX4_got 58 = .ok (.ldiv, 1) := by decide +kernel
theorem dX4_got_59 : decode cX4_got 59 = .ok (.lstore_n 2, 1) := by decide +kernel
theorem dX4_got_60 : decode cX4_got 60 = .ok (.iinc 4 1, 3) := by decide +kernel
theorem dX4_got_63 : decode cX4_got 63 = .ok (.goto (-36), 3) := by decide +kernel
theorem dX4_got_66 : decode cX4_got 66 = .ok (.lload_n 2, 1) := by decide +kernel
theorem dX4_got_67 : decode cX4_got 67 = .ok (.aload_n 0, 1) := by decide +kernel
theorem dX4_got_68 : decode cX4_got 68 = .ok (.getfield 13, 3) := by decide +kernel
theorem dX4_got_71 : decode cX4_got 71 = .ok (.i2l, 1) := by decide +kernel
theorem dX4_got_72 : decode cX4_got 72 = .ok (.ldc2_w 51, 3) := by decide +kernel
theorem dX4_got_75 : decode cX4_got 75 = .ok (.lmul, 1) := by decide +kernel
theorem dX4_got_76 : decode cX4_got 76 = .ok (.iload_n 1, 1) := by decide +kernel
theorem dX4_got_77 : decode cX4_got 77 = .ok (.ifCond .ne 7, 3) := by decide +kernel
theorem dX4_got_80 : decode cX4_got 80 = .ok (.iconst 1, 1) := by decide +kernel
theorem dX4_got_81 : decode cX4_got 81 = .ok (.goto 4, 3) := by decide +kernel
theorem dX4_got_84 : decode cX4_got 84 = .ok (.iconst 0, 1) := by decide +kernel
theorem dX4_got_85 : decode cX4_got 85 = .ok (.invokestatic 159, 3) := by decide +kernel
theorem dX4_got_88 : decode cX4_got 88 = .ok (.lreturn, 1) := by decide +kernel
set_option maxRecDepth 20000 in
theorem ggX4_saw_X4_isPart : GoodIn wsX4_saw wsX4_isPart := goodIn_r _ [7, 8, 9, 10, 6, 11, 12, 13, 14, 15, 16, 17, 18, 19, 20, 21, 22, 23, 24, 25, 26, 27, 28, 29, 30, 31, 32, 33, 34] (by decide +kernel) (by decide +kernel)
set_option maxRecDepth 20000 in
theorem gX4_saw_X4_isPart : GoodIn wsX4_saw (wsV RX4 163 RX4 yX4_isPart wsX4_isPart) := goodIn_app (goodIn_of _ (by decide +kernel)) ggX4_saw_X4_isPart
theorem dX4_saw_0 : decode cX4_saw 0 = .ok (.aload_n 0, 1) := by decide +kernel
theorem dX4_saw_1 : decode cX4_saw 1 = .ok (.iload_n 1, 1) := by decide +kernel
theorem dX4_saw_2 : decode cX4_saw 2 = .ok (.invokevirtual 163, 3) := by decide +kernel
theorem dX4_saw_5 : decode cX4_saw 5 = .ok (.ifCond .ne 5, 3) := by decide +kernel
theorem dX4_saw_8 : decode cX4_saw 8 = .ok (.iconst (-1), 1) := by decide +kernel
theorem dX4_saw_9 : decode cX4_saw 9 = .ok (.ireturn, 1) := by decide +kernel
theorem dX4_saw_10 : decode cX4_saw 10 = .ok (.aload_n 0, 1) := by decide +kernel
theorem dX4_saw_11 : decode cX4_saw 11 = .ok (.getfield 147, 3) := by decide +kernel
theorem dX4_saw_14 : decode cX4_saw 14 = .ok (.bipush 8, 2) := by decide +kernel
theorem dX4_saw_16 : decode cX4_saw 16 = .ok (.if_icmp .ne 6, 3) := by decide +kernel
theorem dX4_saw_19 : decode cX4_saw 19 = .ok (.bipush (-3), 2) := by decide +kernel
theorem dX4_saw_21 : decode cX4_saw 21 = .ok (.ireturn, 1) := by decide +kernel
theorem dX4_saw_22 : decode cX4_saw 22 = .ok (.aload_n 0, 1) := by decide +kernel
theorem dX4_saw_23 : decode cX4_saw 23 = .ok (.getfield 36, 3) := by decide +kernel
theorem dX4_saw_26 : decode cX4_saw 26 = .ok (.aload_n 0, 1) := by decide +kernel
theorem dX4_saw_27 : decode cX4_saw 27 = .ok (.getfield 147, 3) := by decide +kernel
theorem dX4_saw_30 : decode cX4_saw 30 = .ok (.iload_n 1, 1) := by decide +kernel
theorem dX4_saw_31 : decode cX4_saw 31 = .ok (.iastore, 1) := by decide +kernel
theorem dX4_saw_32 : decode cX4_saw 32 = .ok (.aload_n 0, 1) := by decide +kernel
theorem dX4_saw_33 : decode cX4_saw 33 = .ok (.dup, 1) := by decide +kernel
theorem dX4_saw_34 : decode cX4_saw 34 = .ok (.getfield 147, 3) := by decide +kernel
theorem dX4_saw_37 : decode cX4_saw 37 = .ok (.iconst 1, 1) := by decide +kernel
theorem dX4_saw_38 : decode cX4_saw 38 = .ok (.iadd, 1) := by decide +kernel
theorem dX4_saw_39 : decode cX4_saw 39 = .ok (.putfield 147, 3) := by decide +kernel
theorem dX4_saw_42 : decode cX4_saw 42 = .ok (.aload_n 0, 1) := by decide +kernel
theorem dX4_saw_43 : decode cX4_saw 43 = .ok (.getfield 147, 3) := by decide +kernel
theorem dX4_saw_46 : decode cX4_saw 46 = .ok (.ireturn, 1) := by decide +kernel
theorem dX4_forget_0 : decode cX4_forget 0 = .ok (.aload_n 0, 1) := by decide +kernel
theorem dX4_forget_1 : decode cX4_forget 1 = .ok (.getfield 147, 3) := by decide +kernel
theorem dX4_forget_4 : decode cX4_forget 4 = .ok (.istore_n 1, 1) := by decide +kernel
theorem dX4_forget_5 : decode cX4_forget 5 = .ok (.aload_n 0, 1) := by decide +kernel
theorem dX4_forget_6 : decode cX4_forget 6 = .ok (.iconst 0, 1) := by decide +kernel
theorem dX4_forget_7 : decode cX4_forget 7 = .ok (.putfield 147, 3) := by decide +kernel
theorem dX4_forget_10 : decode cX4_forget 10 = .ok (.iload_n 1, 1) := by decide +kernel
theorem dX4_forget_11 : decode cX4_forget 11 = .ok (.ireturn, 1) := by decide +kernel
set_option maxRecDepth 20000 in
theorem ggX4_from_X4_in : GoodIn wsX4_from wsX4_in := goodIn_r _ [7] (by decide +kernel) (by decide +kernel)
set_option maxRecDepth 20000 in
theorem gX4_from_X4_in : GoodIn wsX4_from (va_wsS RX4 57 yX4_in wsX4_in) := goodIn_app (goodIn_of _ (by decide +kernel)) ggX4_from_X4_in
set_option maxRecDepth 20000 in
theorem ggX4_from_X4_goes : GoodIn wsX4_from wsX4_goes := goodIn_r _ [10] (by decide +kernel) (by decide +kernel)
set_option maxRecDepth 20000 in
theorem gX4_from_X4_goes : GoodIn wsX4_from (va_wsS RX4 166 yX4_goes wsX4_goes) := goodIn_app (goodIn_of _ (by decide +kernel)) ggX4_from_X4_goes
theorem dX4_from_0 : decode cX4_from 0 = .ok (.iload_n 1, 1) := by decide +kernel
theorem dX4_from_1 : decode cX4_from 1 = .ok (.i2l, 1) := by decide +kernel
theorem dX4_from_2 : decode cX4_from 2 = .ok (.lconst 0, 1) := by decide +kernel
theorem dX4_from_3 : decode cX4_from 3 = .ok (.lconst 1, 1) := by decide +kernel
theorem dX4_from_4 : decode cX4_from 4 = .ok (.invokestatic 57, 3) := by decide +kernel
theorem dX4_from_7 : decode cX4_from 7 = .ok (.ifCond .ne 5, 3) := by decide +kernel
theorem dX4_from_10 : decode cX4_from 10 = .ok (.iconst (-1), 1) := by decide +kernel
theorem dX4_from_11 : decode cX4_from 11 = .ok (.ireturn, 1) := by decide +kernel
theorem dX4_from_12 : decode cX4_from 12 = .ok (.lconst 0, 1) := by decide +kernel
theorem dX4_from_13 : decode cX4_from 13 = .ok (.lstore_n 2, 1) := by decide +kernel
theorem dX4_from_14 : decode cX4_from 14 = .ok (.iconst 0, 1) := by decide +kernel
theorem dX4_from_15 : decode cX4_from 15 = .ok (.istore 4, 2) := by decide +kernel
theorem dX4_from_17 : decode cX4_from 17 = .ok (.iload 4, 2) := by decide +kernel
theorem dX4_from_19 : decode cX4_from 19 = .ok (.aload_n 0, 1) := by decide +kernel
theorem dX4_from_20 : decode cX4_from 20 = .ok (.getfield 147, 3) := by decide +kernel
theorem dX4_from_23 : decode cX4_from 23 = .ok (.if_icmp .ge 21, 3) := by decide +kernel
theorem dX4_from_26 : decode cX4_from 26 = .ok (.lload_n 2, 1) := by decide +kernel
theorem dX4_from_27 : decode cX4_from 27 = .ok (.lconst 1, 1) := by decide +kernel
theorem dX4_from_28 : decode cX4_from 28 = .ok (.aload_n 0, 1) := by decide +kernel
theorem dX4_from_29 : decode cX4_from 29 = .ok (.getfield 36, 3) := by decide +kernel
theorem dX4_from_32 : decode cX4_from 32 = .ok (.iload 4, 2) := by decide +kernel
theorem dX4_from_34 : decode cX4_from 34 = .ok (.iaload, 1) := by decide +kernel
theorem dX4_from_35 : decode cX4_from 35 = .ok (.lshl, 1) := by decide +kernel
theorem dX4_from_36 : decode cX4_from 36 = .ok (.lor, 1) := by decide +kernel
theorem dX4_from_37 : decode cX4_from 37 = .ok (.lstore_n 2, 1) := by decide +kernel
theorem dX4_from_38 : decode cX4_from 38 = .ok (.iinc 4 1, 3) := by decide +kernel
theorem dX4_from_41 : decode cX4_from 41 = .ok (.goto (-24), 3) := by decide +kernel
theorem dX4_from_44 : decode cX4_from 44 = .ok (.iconst 0, 1) := by decide +kernel
theorem dX4_from_45 : decode cX4_from 45 = .ok (.istore 4, 2) := by decide +kernel
theorem dX4_from_47 : decode cX4_from 47 = .ok (.bipush (-9), 2) := by decide +kernel
theorem dX4_from_49 : decode cX4_from 49 = .ok (.istore 5, 2) := by decide +kernel
theorem dX4_from_51 : decode cX4_from 51 = .ok (.aload_n 0, 1) := by decide +kernel
theorem dX4_from_52 : decode cX4_from 52 = .ok (.getfield 13, 3) := by decide +kernel
theorem dX4_from_55 : decode cX4_from 55 = .ok (.iconst 1, 1) := by decide +kernel
theorem dX4_from_56 : decode cX4_from 56 = .ok (.isub, 1) := by decide +kernel
theorem dX4_from_57 : decode cX4_from 57 = .ok (.istore 6, 2) := by decide +kernel
theorem dX4_from_59 : decode cX4_from 59 = .ok (.iload 6, 2) := by decide +kernel
theorem dX4_from_61 : decode cX4_from 61 = .ok (.ifCond .le 85, 3) := by decide +kernel
theorem dX4_from_64 : decode cX4_from 64 = .ok (.lconst 0, 1) := by decide +kernel
theorem dX4_from_65 : decode cX4_from 65 = .ok (.lstore 7, 2) := by decide +kernel
theorem dX4_from_67 : decode cX4_from 67 = .ok (.iload 6, 2) := by decide +kernel
theorem dX4_from_69 : decode cX4_from 69 = .ok (.istore 9, 2) := by decide +kernel
theorem dX4_from_71 : decode cX4_from 71 = .ok (.iconst 0, 1) := by decide +kernel
theorem dX4_from_72 : decode cX4_from 72 = .ok (.istore 10, 2) := by decide +kernel
theorem dX4_from_74 : decode cX4_from 74 = .ok (.iload 10, 2) := by decide +kernel
theorem dX4_from_76 : decode cX4_from 76 = .ok (.bipush 20, 2) := by decide +kernel
theorem dX4_from_78 : decode cX4_from 78 = .ok (.if_icmp .gt 62, 3) := by decide +kernel
theorem dX4_from_81 : decode cX4_from 81 = .ok (.lload 7, 2) := by decide +kernel
theorem dX4_from_83 : decode cX4_from 83 = .ok (.lconst 1, 1) := by decide +kernel
theorem dX4_from_84 : decode cX4_from 84 = .ok (.iload 9, 2) := by decide +kernel
theorem dX4_from_86 : decode cX4_from 86 = .ok (.lshl, 1) := by decide +kernel
theorem dX4_from_87 : decode cX4_from 87 = .ok (.lor, 1) := by decide +kernel
theorem dX4_from_88 : decode cX4_from 88 = .ok (.lstore 7, 2) := by decide +kernel
theorem dX4_from_90 : decode cX4_from 90 = .ok (.iload 4, 2) := by decide +kernel
theorem dX4_from_92 : decode cX4_from 92 = .ok (.lload 7, 2) := by decide +kernel
theorem dX4_from_94 : decode cX4_from 94 = .ok (.lload_n 2, 1) := by decide +kernel
theorem dX4_from_95 : decode cX4_from 95 = .ok (.lcmp, 1) := by decide +kernel
theorem dX4_from_96 : decode cX4_from 96 = .ok (.ifCond .ne 7, 3) := by decide +kernel
theorem dX4_from_99 : decode cX4_from 99 = .ok (.iconst 1, 1) := by decide +kernel
theorem dX4_from_100 : decode cX4_from 100 = .ok (.goto 4, 3) := by decide +kernel
theorem dX4_from_103 : decode cX4_from 103 = .ok (.iconst 0, 1) := by decide +kernel
theorem dX4_from_104 : decode cX4_from 104 = .ok (.iadd, 1) := by decide +kernel
theorem dX4_from_105 : decode cX4_from 105 = .ok (.istore 4, 2) := by decide +kernel
theorem dX4_from_107 : decode cX4_from 107 = .ok (.lload 7, 2) := by decide +kernel
theorem dX4_from_109 : decode cX4_from 109 = .ok (.lload_n 2, 1) := by decide +kernel
theorem dX4_from_110 : decode cX4_from 110 = .ok (.lcmp, 1) := by decide +kernel
theorem dX4_from_111 : decode cX4_from 111 = .ok (.ifCond .ne 8, 3) := by decide +kernel
theorem dX4_from_114 : decode cX4_from 114 = .ok (.iload 6, 2) := by decide +kernel
theorem dX4_from_116 : decode cX4_from 116 = .ok (.goto 5, 3) := by decide +kernel
theorem dX4_from_119 : decode cX4_from 119 = .ok (.iload 5, 2) := by decide +kernel
theorem dX4_from_121 : decode cX4_from 121 = .ok (.istore 5, 2) := by decide +kernel
theorem dX4_from_123 : decode cX4_from 123 = .ok (.iload 9, 2) := by decide +kernel
theorem dX4_from_125 : decode cX4_from 125 = .ok (.aload_n 0, 1) := by decide +kernel
theorem dX4_from_126 : decode cX4_from 126 = .ok (.getfield 13, 3) := by decide +kernel
theorem dX4_from_129 : decode cX4_from 129 = .ok (.invokestatic 166, 3) := by decide +kernel
theorem dX4_from_132 : decode cX4_from 132 = .ok (.istore 9, 2) := by decide +kernel
theorem dX4_from_134 : decode cX4_from 134 = .ok (.iinc 10 1, 3) := by decide +kernel
theorem dX4_from_137 : decode cX4_from 137 = .ok (.goto (-63), 3) := by decide +kernel
theorem dX4_from_140 : decode cX4_from 140 = .ok (.iinc 6 (-1), 3) := by decide +kernel
theorem dX4_from_143 : decode cX4_from 143 = .ok (.goto (-84), 3) := by decide +kernel
theorem dX4_from_146 : decode cX4_from 146 = .ok (.iload_n 1, 1) := by decide +kernel
theorem dX4_from_147 : decode cX4_from 147 = .ok (.ifCond .ne 8, 3) := by decide +kernel
theorem dX4_from_150 : decode cX4_from 150 = .ok (.iload 4, 2) := by decide +kernel
theorem dX4_from_152 : decode cX4_from 152 = .ok (.goto 5, 3) := by decide +kernel
theorem dX4_from_155 : decode cX4_from 155 = .ok (.iload 5, 2) := by decide +kernel
theorem dX4_from_157 : decode cX4_from 157 = .ok (.ireturn, 1) := by decide +kernel
set_option maxRecDepth 20000 in
theorem ggX4_mark_X4_in : GoodIn wsX4_mark wsX4_in := goodIn_r _ [15] (by decide +kernel) (by decide +kernel)
set_option maxRecDepth 20000 in
theorem gX4_mark_X4_in : GoodIn wsX4_mark (va_wsS RX4 57 yX4_in wsX4_in) := goodIn_app (goodIn_of _ (by decide +kernel)) ggX4_mark_X4_in
set_option maxRecDepth 20000 in
theorem ggX4_mark_X4_isCrease : GoodIn wsX4_mark wsX4_isCrease := goodIn_r _ [19, 9, 12, 13, 14, 15, 26, 27, 28, 29, 30, 31, 32, 33, 34, 35, 36, 37, 38, 39, 40, 41, 42, 43, 44, 45, 46, 47, 48] (by decide +kernel) (by decide +kernel)
set_option maxRecDepth 20000 in
theorem gX4_mark_X4_isCrease : GoodIn wsX4_mark (wsV RX4 150 RX4 yX4_isCrease wsX4_isCrease) := goodIn_app (goodIn_of _ (by decide +kernel)) ggX4_mark_X4_isCrease
set_option maxRecDepth 20000 in
theorem ggX4_mark_X4_partOf : GoodIn wsX4_mark wsX4_partOf := goodIn_r _ [23, 24, 25, 26, 27, 28, 29, 30, 31, 32, 33, 34, 35, 36, 37, 38, 39, 40, 41, 42, 43, 44, 45, 46, 47, 48] (by decide +kernel) (by decide +kernel)
set_option maxRecDepth 20000 in
theorem gX4_mark_X4_partOf : GoodIn wsX4_mark (wsV RX4 155 RX4 yX4_partOf wsX4_partOf) := goodIn_app (goodIn_of _ (by decide +kernel)) ggX4_mark_X4_partOf
theorem dX4_mark_0 : decode cX4_mark 0 = .ok (.iload_n 1, 1) := by decide +kernel
theorem dX4_mark_1 : decode cX4_mark 1 = .ok (.i2l, 1) := by decide +kernel
theorem dX4_mark_2 : decode cX4_mark 2 = .ok (.lconst 0, 1) := by decide +kernel
theorem dX4_mark_3 : decode cX4_mark 3 = .ok (.ldc2_w 181, 3) := by decide +kernel
theorem dX4_mark_6 : decode cX4_mark 6 = .ok (.invokestatic 57, 3) := by decide +kernel
theorem dX4_mark_9 : decode cX4_mark 9 = .ok (.ifCond .eq 11, 3) := by decide +kernel
theorem dX4_mark_12 : decode cX4_mark 12 = .ok (.aload_n 0, 1) := by decide +kernel
theorem dX4_mark_13 : decode cX4_mark 13 = .ok (.iload_n 2, 1) := by decide +kernel
theorem dX4_mark_14 : decode cX4_mark 14 = .ok (.invokevirtual 150, 3) := by decide +kernel
theorem dX4_mark_17 : decode cX4_mark 17 = .ok (.ifCond .ne 6, 3) := by decide +kernel
theorem dX4_mark_20 : decode cX4_mark 20 = .ok (.ldc 183, 2) := by decide +kernel
theorem dX4_mark_22 : decode cX4_mark 22 = .ok (.ireturn, 1) := by decide +kernel
theorem dX4_mark_23 : decode cX4_mark 23 = .ok (.aload_n 0, 1) := by decide +kernel
theorem dX4_mark_24 : decode cX4_mark 24 = .ok (.dup, 1) := by decide +kernel
theorem dX4_mark_25 : decode cX4_mark 25 = .ok (.getfield 184, 3) := by decide +kernel
theorem dX4_mark_28 : decode cX4_mark 28 = .ok (.iload_n 1, 1) := by decide +kernel
theorem dX4_mark_29 : decode cX4_mark 29 = .ok (.ifCond .ne 7, 3) := by decide +kernel
theorem dX4_mark_32 : decode cX4_mark 32 = .ok (.lconst 1, 1) := by decide +kernel
theorem dX4_mark_33 : decode cX4_mark 33 = .ok (.goto 50, 3) := by decide +kernel
theorem dX4_mark_36 : decode cX4_mark 36 = .ok (.iload_n 1, 1) := by decide +kernel
theorem dX4_mark_37 : decode cX4_mark 37 = .ok (.iconst 1, 1) := by decide +kernel
theorem dX4_mark_38 : decode cX4_mark 38 = .ok (.if_icmp .ne 9, 3) := by decide +kernel
theorem dX4_mark_41 : decode cX4_mark 41 = .ok (.ldc2_w 187, 3) := by decide +kernel
theorem dX4_mark_44 : decode cX4_mark 44 = .ok (.goto 39, 3) := by decide +kernel
theorem dX4_mark_47 : decode cX4_mark 47 = .ok (.iload_n 1, 1) := by decide +kernel
theorem dX4_mark_48 : decode cX4_mark 48 = .ok (.iconst 2, 1) := by decide +kernel
theorem dX4_mark_49 : decode cX4_mark 49 = .ok (.if_icmp .ne 9, 3) := by decide +kernel
theorem dX4_mark_52 : decode cX4_mark 52 = .ok (.ldc2_w 189, 3) := by decide +kernel
theorem dX4_mark_55 : decode cX4_mark 55 = .ok (.goto 28, 3) := by decide +kernel
theorem dX4_mark_58 : decode cX4_mark 58 = .ok (.iload_n 1, 1) := by decide +kernel
theorem dX4_mark_59 : decode cX4_mark 59 = .ok (.iconst 3, 1) := by decide +kernel
theorem dX4_mark_60 : decode cX4_mark 60 = .ok (.if_icmp .ne 9, 3) := by decide +kernel
theorem dX4_mark_63 : decode cX4_mark 63 = .ok (.ldc2_w 191, 3) := by decide +kernel
theorem dX4_mark_66 : decode cX4_mark 66 = .ok (.goto 17, 3) := by decide +kernel
theorem dX4_mark_69 : decode cX4_mark 69 = .ok (.iload_n 1, 1) := by decide +kernel
theorem dX4_mark_70 : decode cX4_mark 70 = .ok (.iconst 4, 1) := by decide +kernel
theorem dX4_mark_71 : decode cX4_mark 71 = .ok (.if_icmp .ne 9, 3) := by decide +kernel
theorem dX4_mark_74 : decode cX4_mark 74 = .ok (.ldc2_w 193, 3) := by decide +kernel
theorem dX4_mark_77 : decode cX4_mark 77 = .ok (.goto 6, 3) := by decide +kernel
theorem dX4_mark_80 : decode cX4_mark 80 = .ok (.ldc2_w 195, 3) := by decide +kernel
theorem dX4_mark_83 : decode cX4_mark 83 = .ok (.ladd, 1) := by decide +kernel
theorem dX4_mark_84 : decode cX4_mark 84 = .ok (.putfield 184, 3) := by decide +kernel
theorem dX4_mark_87 : decode cX4_mark 87 = .ok (.aload_n 0, 1) := by decide +kernel
theorem dX4_mark_88 : decode cX4_mark 88 = .ok (.iload_n 2, 1) := by decide +kernel
theorem dX4_mark_89 : decode cX4_mark 89 = .ok (.invokevirtual 155, 3) := by decide +kernel
theorem dX4_mark_92 : decode cX4_mark 92 = .ok (.istore_n 3, 1) := by decide +kernel
theorem dX4_mark_93 : decode cX4_mark 93 = .ok (.iload_n 2, 1) := by decide +kernel
theorem dX4_mark_94 : decode cX4_mark 94 = .ok (.iload_n 3, 1) := by decide +kernel
theorem dX4_mark_95 : decode cX4_mark 95 = .ok (.bipush (-9), 2) := by decide +kernel
theorem dX4_mark_97 : decode cX4_mark 97 = .ok (.if_icmp .ne 7, 3) := by decide +kernel
theorem dX4_mark_100 : decode cX4_mark 100 = .ok (.iconst 0, 1) := by decide +kernel
theorem dX4_mark_101 : decode cX4_mark 101 = .ok (.goto 4, 3) := by decide +kernel
theorem dX4_mark_104 : decode cX4_mark 104 = .ok (.iload_n 3, 1) := by decide +kernel
theorem dX4_mark_105 : decode cX4_mark 105 = .ok (.iadd, 1) := by decide +kernel
theorem dX4_mark_106 : decode cX4_mark 106 = .ok (.istore 4, 2) := by decide +kernel
theorem dX4_mark_108 : decode cX4_mark 108 = .ok (.iload_n 2, 1) := by decide +kernel
theorem dX4_mark_109 : decode cX4_mark 109 = .ok (.aload_n 0, 1) := by decide +kernel
theorem dX4_mark_110 : decode cX4_mark 110 = .ok (.getfield 20, 3) := by decide +kernel
theorem dX4_mark_113 : decode cX4_mark 113 = .ok (.isub, 1) := by decide +kernel
theorem dX4_mark_114 : decode cX4_mark 114 = .ok (.istore 5, 2) := by decide +kernel
theorem dX4_mark_116 : decode cX4_mark 116 = .ok (.iload_n 1, 1) := by decide +kernel
theorem dX4_mark_117 : decode cX4_mark 117 = .ok (.ifCond .ne 7, 3) := by decide +kernel
theorem dX4_mark_120 : decode cX4_mark 120 = .ok (.iload_n 2, 1) := by decide +kernel
theorem dX4_mark_121 : decode cX4_mark 121 = .ok (.goto 56, 3) := by decide +kernel
theorem dX4_mark_124 : decode cX4_mark 124 = .ok (.iload_n 1, 1) := by decide +kernel
theorem dX4_mark_125 : decode cX4_mark 125 = .ok (.iconst 1, 1) := by decide +kernel
theorem dX4_mark_126 : decode cX4_mark 126 = .ok (.if_icmp .ne 8, 3) := by decide +kernel
theorem dX4_mark_129 : decode cX4_mark 129 = .ok (.iload 4, 2) := by decide +kernel
theorem dX4_mark_131 : decode cX4_mark 131 = .ok (.goto 46, 3) := by decide +kernel
theorem dX4_mark_134 : decode cX4_mark 134 = .ok (.iload_n 1, 1) := by decide +kernel
theorem dX4_mark_135 : decode cX4_mark 135 = .ok (.iconst 2, 1) := by decide +kernel
theorem dX4_mark_136 : decode cX4_mark 136 = .ok (.if_icmp .ne 8, 3) := by decide +kernel
theorem dX4_mark_139 : decode cX4_mark 139 = .ok (.iload 5, 2) := by decide +kernel
theorem dX4_mark_141 : decode cX4_mark 141 = .ok (.goto 36, 3) := by decide +kernel
theorem dX4_mark_144 : decode cX4_mark 144 = .ok (.iload_n 1, 1) := by decide +kernel
theorem dX4_mark_145 : decode cX4_mark 145 = .ok (.iconst 3, 1) := by decide +kernel
theorem dX4_mark_146 : decode cX4_mark 146 = .ok (.if_icmp .ne 10, 3) := by decide +kernel
theorem dX4_mark_149 : decode cX4_mark 149 = .ok (.iconst 2, 1) := by decide +kernel
theorem dX4_mark_150 : decode cX4_mark 150 = .ok (.iload 4, 2) := by decide +kernel
theorem dX4_mark_152 : decode cX4_mark 152 = .ok (.imul, 1) := by decide +kernel
theorem dX4_mark_153 : decode cX4_mark 153 = .ok (.goto 24, 3) := by decide +kernel
theorem dX4_mark_156 : decode cX4_mark 156 = .ok (.iload_n 1, 1) := by decide +kernel
theorem dX4_mark_157 : decode cX4_mark 157 = .ok (.iconst 4, 1) := by decide +kernel
theorem dX4_mark_158 : decode cX4_mark 158 = .ok (.if_icmp .ne 13, 3) := by decide +kernel
theorem dX4_mark_161 : decode cX4_mark 161 = .ok (.iload 5, 2) := by decide +kernel
theorem dX4_mark_163 : decode cX4_mark 163 = .ok (.aload_n 0, 1) := by decide +kernel
theorem dX4_mark_164 : decode cX4_mark 164 = .ok (.getfield 144, 3) := by decide +kernel
theorem dX4_mark_167 : decode cX4_mark 167 = .ok (.iadd, 1) := by decide +kernel
theorem dX4_mark_168 : decode cX4_mark 168 = .ok (.goto 9, 3) := by decide +kernel
theorem dX4_mark_171 : decode cX4_mark 171 = .ok (.iload_n 2, 1) := by decide +kernel
theorem dX4_mark_172 : decode cX4_mark 172 = .ok (.aload_n 0, 1) := by decide +kernel
theorem dX4_mark_173 : decode cX4_mark 173 = .ok (.getfield 13, 3) := by decide +kernel
theorem dX4_mark_176 : decode cX4_mark 176 = .ok (.iadd, 1) := by decide +kernel
theorem dX4_mark_177 : decode cX4_mark 177 = .ok (.ireturn, 1) := by decide +kernel
set_option maxRecDepth 20000 in
theorem ggX4_keep_X4_in : GoodIn wsX4_keep wsX4_in := goodIn_r _ [13] (by decide +kernel) (by decide +kernel)
set_option maxRecDepth 20000 in
theorem gX4_keep_X4_in : GoodIn wsX4_keep (va_wsS RX4 57 yX4_in wsX4_in) := goodIn_app (goodIn_of _ (by decide +kernel)) ggX4_keep_X4_in
theorem dX4_keep_0 : decode cX4_keep 0 = .ok (.iload_n 1, 1) := by decide +kernel
theorem dX4_keep_1 : decode cX4_keep 1 = .ok (.i2l, 1) := by decide +kernel
theorem dX4_keep_2 : decode cX4_keep 2 = .ok (.lconst 0, 1) := by decide +kernel
theorem dX4_keep_3 : decode cX4_keep 3 = .ok (.lconst 1, 1) := by decide +kernel
theorem dX4_keep_4 : decode cX4_keep 4 = .ok (.invokestatic 57, 3) := by decide +kernel
theorem dX4_keep_7 : decode cX4_keep 7 = .ok (.ifCond .ne 5, 3) := by decide +kernel
theorem dX4_keep_10 : decode cX4_keep 10 = .ok (.iconst (-1), 1) := by decide +kernel
theorem dX4_keep_11 : decode cX4_keep 11 = .ok (.ireturn, 1) := by decide +kernel
theorem dX4_keep_12 : decode cX4_keep 12 = .ok (.bipush 100, 2) := by decide +kernel
theorem dX4_keep_14 : decode cX4_keep 14 = .ok (.iload_n 1, 1) := by decide +kernel
theorem dX4_keep_15 : decode cX4_keep 15 = .ok (.imul, 1) := by decide +kernel
theorem dX4_keep_16 : decode cX4_keep 16 = .ok (.istore_n 2, 1) := by decide +kernel
theorem dX4_keep_17 : decode cX4_keep 17 = .ok (.aload_n 0, 1) := by decide +kernel
theorem dX4_keep_18 : decode cX4_keep 18 = .ok (.getfield 39, 3) := by decide +kernel
theorem dX4_keep_21 : decode cX4_keep 21 = .ok (.iload_n 2, 1) := by decide +kernel
theorem dX4_keep_22 : decode cX4_keep 22 = .ok (.lconst 1, 1) := by decide +kernel
theorem dX4_keep_23 : decode cX4_keep 23 = .ok (.lastore, 1) := by decide +kernel
theorem dX4_keep_24 : decode cX4_keep 24 = .ok (.aload_n 0, 1) := by decide +kernel
theorem dX4_keep_25 : decode cX4_keep 25 = .ok (.getfield 39, 3) := by decide +kernel
theorem dX4_keep_28 : decode cX4_keep 28 = .ok (.iload_n 2, 1) := by decide +kernel
theorem dX4_keep_29 : decode cX4_keep 29 = .ok (.iconst 1, 1) := by decide +kernel
theorem dX4_keep_30 : decode cX4_keep 30 = .ok (.iadd, 1) := by decide +kernel
theorem dX4_keep_31 : decode cX4_keep 31 = .ok (.aload_n 0, 1) := by decide +kernel
theorem dX4_keep_32 : decode cX4_keep 32 = .ok (.getfield 20, 3) := by decide +kernel
theorem dX4_keep_35 : decode cX4_keep 35 = .ok (.i2l, 1) := by decide +kernel
theorem dX4_keep_36 : decode cX4_keep 36 = .ok (.lastore, 1) := by decide +kernel
theorem dX4_keep_37 : decode cX4_keep 37 = .ok (.aload_n 0, 1) := by decide +kernel
theorem dX4_keep_38 : decode cX4_keep 38 = .ok (.getfield 39, 3) := by decide +kernel
theorem dX4_keep_41 : decode cX4_keep 41 = .ok (.iload_n 2, 1) := by decide +kernel
theorem dX4_keep_42 : decode cX4_keep 42 = .ok (.iconst 2, 1) := by decide +kernel
theorem dX4_keep_43 : decode cX4_keep 43 = .ok (.iadd, 1) := by decide +kernel
theorem dX4_keep_44 : decode cX4_keep 44 = .ok (.aload_n 0, 1) := by decide +kernel
theorem dX4_keep_45 : decode cX4_keep 45 = .ok (.getfield 144, 3) := by decide +kernel
theorem dX4_keep_48 : decode cX4_keep 48 = .ok (.i2l, 1) := by decide +kernel
theorem dX4_keep_49 : decode cX4_keep 49 = .ok (.lastore, 1) := by decide +kernel
theorem dX4_keep_50 : decode cX4_keep 50 = .ok (.aload_n 0, 1) := by decide +kernel
theorem dX4_keep_51 : decode cX4_keep 51 = .ok (.getfield 39, 3) := by decide +kernel
theorem dX4_keep_54 : decode cX4_keep 54 = .ok (.iload_n 2, 1) := by decide +kernel
theorem dX4_keep_55 : decode cX4_keep 55 = .ok (.iconst 3, 1) := by decide +kernel
theorem dX4_keep_56 : decode cX4_keep 56 = .ok (.iadd, 1) := by decide +kernel
theorem dX4_keep_57 : decode cX4_keep 57 = .ok (.aload_n 0, 1) := by decide +kernel
theorem dX4_keep_58 : decode cX4_keep 58 = .ok (.getfield 147, 3) := by decide +kernel
theorem dX4_keep_61 : decode cX4_keep 61 = .ok (.i2l, 1) := by decide +kernel
theorem dX4_keep_62 : decode cX4_keep 62 = .ok (.lastore, 1) := by decide +kernel
theorem dX4_keep_63 : decode cX4_keep 63 = .ok (.iconst 0, 1) := by decide +kernel
theorem dX4_keep_64 : decode cX4_keep 64 = .ok (.istore_n 3, 1) := by decide +kernel
theorem dX4_keep_65 : decode cX4_keep 65 = .ok (.iload_n 3, 1) := by decide +kernel
theorem dX4_keep_66 : decode cX4_keep 66 = .ok (.bipush 12, 2) := by decide +kernel
theorem dX4_keep_68 : decode cX4_keep 68 = .ok (.if_icmp .ge 26, 3) := by decide +kernel
theorem dX4_keep_71 : decode cX4_keep 71 = .ok (.aload_n 0, 1) := by decide +kernel
theorem dX4_keep_72 : decode cX4_keep 72 = .ok (.getfield 39, 3) := by decide +kernel
theorem dX4_keep_75 : decode cX4_keep 75 = .ok (.iload_n 2, 1) := by decide +kernel
theorem dX4_keep_76 : decode cX4_keep 76 = .ok (.iconst 4, 1) := by decide +kernel
theorem dX4_keep_77 : decode cX4_keep 77 = .ok (.iadd, 1) := by decide +kernel
theorem dX4_keep_78 : decode cX4_keep 78 = .ok (.iload_n 3, 1) := by decide +kernel
theorem dX4_keep_79 : decode cX4_keep 79 = .ok (.iadd, 1) := by decide +kernel
theorem dX4_keep_80 : decode cX4_keep 80 = .ok (.aload_n 0, 1) := by decide +kernel
theorem dX4_keep_81 : decode cX4_keep 81 = .ok (.getfield 33, 3) := by decide +kernel
theorem dX4_keep_84 : decode cX4_keep 84 = .ok (.iload_n 3, 1) := by decide +kernel
theorem dX4_keep_85 : decode cX4_keep 85 = .ok (.iaload, 1) := by decide +kernel
theorem dX4_keep_86 : decode cX4_keep 86 = .ok (.i2l, 1) := by decide +kernel
theorem dX4_keep_87 : decode cX4_keep 87 = .ok (.lastore, 1) := by decide +kernel
theorem dX4_keep_88 : decode cX4_keep 88 = .ok (.iinc 3 1, 3) := by decide +kernel
theorem dX4_keep_91 : decode cX4_keep 91 = .ok (.goto (-26), 3) := by decide +kernel
theorem dX4_keep_94 : decode cX4_keep 94 = .ok (.iconst 0, 1) := by decide +kernel
theorem dX4_keep_95 : decode cX4_keep 95 = .ok (.istore_n 3, 1) := by decide +kernel
theorem dX4_keep_96 : decode cX4_keep 96 = .ok (.iload_n 3, 1) := by decide +kernel
theorem dX4_keep_97 : decode cX4_keep 97 = .ok (.bipush 8, 2) := by decide +kernel
theorem dX4_keep_99 : decode cX4_keep 99 = .ok (.if_icmp .ge 27, 3) := by decide +kernel
theorem dX4_keep_102 : decode cX4_keep 102 = .ok (.aload_n 0, 1) := by decide +kernel
theorem dX4_keep_103 : decode cX4_keep 103 = .ok (.getfield 39, 3) := by decide +kernel
theorem dX4_keep_106 : decode cX4_keep 106 = .ok (.iload_n 2, 1) := by decide +kernel
theorem dX4_keep_107 : decode cX4_keep 107 = .ok (.bipush 16, 2) := by decide +kernel
theorem dX4_keep_109 : decode cX4_keep 109 = .ok (.iadd, 1) := by decide +kernel
theorem dX4_keep_110 : decode cX4_keep 110 = .ok (.iload_n 3, 1) := by decide +kernel
theorem dX4_keep_111 : decode cX4_keep 111 = .ok (.iadd, 1) := by decide +kernel
theorem dX4_keep_112 : decode cX4_keep 112 = .ok (.aload_n 0, 1) := by decide +kernel
theorem dX4_keep_113 : decode cX4_keep 113 = .ok (.getfield 36, 3) := by decide +kernel
theorem dX4_keep_116 : decode cX4_keep 116 = .ok (.iload_n 3, 1) := by decide +kernel
theorem dX4_keep_117 : decode cX4_keep 117 = .ok (.iaload, 1) := by decide +kernel
theorem dX4_keep_118 : decode cX4_keep 118 = .ok (.i2l, 1) := by decide +kernel
theorem dX4_keep_119 : decode cX4_keep 119 = .ok (.lastore, 1) := by decide +kernel
theorem dX4_keep_120 : decode cX4_keep 120 = .ok (.iinc 3 1, 3) := by decide +kernel
theorem dX4_keep_123 : decode cX4_keep 123 = .ok (.goto (-27), 3) := by decide +kernel
theorem dX4_keep_126 : decode cX4_keep 126 = .ok (.iconst 0, 1) := by decide +kernel
theorem dX4_keep_127 : decode cX4_keep 127 = .ok (.istore_n 3, 1) := by decide +kernel
theorem dX4_keep_128 : decode cX4_keep 128 = .ok (.iload_n 3, 1) := by decide +kernel
theorem dX4_keep_129 : decode cX4_keep 129 = .ok (.bipush 23, 2) := by decide +kernel
theorem dX4_keep_131 : decode cX4_keep 131 = .ok (.if_icmp .ge 66, 3) := by decide +kernel
theorem dX4_keep_134 : decode cX4_keep 134 = .ok (.aload_n 0, 1) := by decide +kernel
theorem dX4_keep_135 : decode cX4_keep 135 = .ok (.getfield 39, 3) := by decide +kernel
theorem dX4_keep_138 : decode cX4_keep 138 = .ok (.iload_n 2, 1) := by decide +kernel
theorem dX4_keep_139 : decode cX4_keep 139 = .ok (.bipush 24, 2) := by decide +kernel
theorem dX4_keep_141 : decode cX4_keep 141 = .ok (.iadd, 1) := by decide +kernel
theorem dX4_keep_142 : decode cX4_keep 142 = .ok (.iconst 3, 1) := by decide +kernel
theorem dX4_keep_143 : decode cX4_keep 143 = .ok (.iload_n 3, 1) := by decide +kernel
theorem dX4_keep_144 : decode cX4_keep 144 = .ok (.imul, 1) := by decide +kernel
theorem dX4_keep_145 : decode cX4_keep 145 = .ok (.iadd, 1) := by decide +kernel
theorem dX4_keep_146 : decode cX4_keep 146 = .ok (.aload_n 0, 1) := by decide +kernel
theorem dX4_keep_147 : decode cX4_keep 147 = .ok (.getfield 23, 3) := by decide +kernel
theorem dX4_keep_150 : decode cX4_keep 150 = .ok (.iload_n 3, 1) := by decide +kernel
theorem dX4_keep_151 : decode cX4_keep 151 = .ok (.laload, 1) := by decide +kernel
theorem dX4_keep_152 : decode cX4_keep 152 = .ok (.lastore, 1) := by decide +kernel
theorem dX4_keep_153 : decode cX4_keep 153 = .ok (.aload_n 0, 1) := by decide +kernel
theorem dX4_keep_154 : decode cX4_keep 154 = .ok (.getfield 39, 3) := by decide +kernel
theorem dX4_keep_157 : decode cX4_keep 157 = .ok (.iload_n 2, 1) := by decide +kernel
theorem dX4_keep_158 : decode cX4_keep 158 = .ok (.bipush 25, 2) := by decide +kernel
theorem dX4_keep_160 : decode cX4_keep 160 = .ok (.iadd, 1) := by decide +kernel
theorem dX4_keep_161 : decode cX4_keep 161 = .ok (.iconst 3, 1) := by decide +kernel
theorem dX4_keep_162 : decode cX4_keep 162 = .ok (.iload_n 3, 1) := by decide +kernel
theorem dX4_keep_163 : decode cX4_keep 163 = .ok (.imul, 1) := by decide +kernel
theorem dX4_keep_164 : decode cX4_keep 164 = .ok (.iadd, 1) := by decide +kernel
theorem dX4_keep_165 : decode cX4_keep 165 = .ok (.aload_n 0, 1) := by decide +kernel
theorem dX4_keep_166 : decode cX4_keep 166 = .ok (.getfield 27, 3) := by decide +kernel
theorem dX4_keep_169 : decode cX4_keep 169 = .ok (.iload_n 3, 1) := by decide +kernel
theorem dX4_keep_170 : decode cX4_keep 170 = .ok (.laload, 1) := by decide +kernel
theorem dX4_keep_171 : decode cX4_keep 171 = .ok (.lastore, 1) := by decide +kernel
theorem dX4_keep_172 : decode cX4_keep 172 = .ok (.aload_n 0, 1) := by decide +kernel
theorem dX4_keep_173 : decode cX4_keep 173 = .ok (.getfield 39, 3) := by decide +kernel
theorem dX4_keep_176 : decode cX4_keep 176 = .ok (.iload_n 2, 1) := by decide +kernel
theorem dX4_keep_177 : decode cX4_keep 177 = .ok (.bipush 26, 2) := by decide +kernel
theorem dX4_keep_179 : decode cX4_keep 179 = .ok (.iadd, 1) := by decide +kernel
theorem dX4_keep_180 : decode cX4_keep 180 = .ok (.iconst 3, 1) := by decide +kernel
theorem dX4_keep_181 : decode cX4_keep 181 = .ok (.iload_n 3, 1) := by decide +kernel
theorem dX4_keep_182 : decode cX4_keep 182 = .ok (.imul, 1) := by decide +kernel
theorem dX4_keep_183 : decode cX4_keep 183 = .ok (.iadd, 1) := by decide +kernel
theorem dX4_keep_184 : decode cX4_keep 184 = .ok (.aload_n 0, 1) := by decide +kernel
theorem dX4_keep_185 : decode cX4_keep 185 = .ok (.getfield 30, 3) := by decide +kernel
theorem dX4_keep_188 : decode cX4_keep 188 = .ok (.iload_n 3, 1) := by decide +kernel
theorem dX4_keep_189 : decode cX4_keep 189 = .ok (.laload, 1) := by decide +kernel
theorem dX4_keep_190 : decode cX4_keep 190 = .ok (.lastore, 1) := by decide +kernel
theorem dX4_keep_191 : decode cX4_keep 191 = .ok (.iinc 3 1, 3) := by decide +kernel
theorem dX4_keep_194 : decode cX4_keep 194 = .ok (.goto (-66), 3) := by decide +kernel
theorem dX4_keep_197 : decode cX4_keep 197 = .ok (.aload_n 0, 1) := by decide +kernel
theorem dX4_keep_198 : decode cX4_keep 198 = .ok (.getfield 20, 3) := by decide +kernel
theorem dX4_keep_201 : decode cX4_keep 201 = .ok (.ireturn, 1) := by decide +kernel
set_option maxRecDepth 20000 in
theorem ggX4_back_X4_in : GoodIn wsX4_back wsX4_in := goodIn_r _ [13] (by decide +kernel) (by decide +kernel)
set_option maxRecDepth 20000 in
theorem gX4_back_X4_in : GoodIn wsX4_back (va_wsS RX4 57 yX4_in wsX4_in) := goodIn_app (goodIn_of _ (by decide +kernel)) ggX4_back_X4_in
theorem dX4_back_0 : decode cX4_back 0 = .ok (.iload_n 1, 1) := by decide +kernel
theorem dX4_back_1 : decode cX4_back 1 = .ok (.i2l, 1) := by decide +kernel
theorem dX4_back_2 : decode cX4_back 2 = .ok (.lconst 0, 1) := by decide +kernel
theorem dX4_back_3 : decode cX4_back 3 = .ok (.lconst 1, 1) := by decide +kernel
theorem dX4_back_4 : decode cX4_back 4 = .ok (.invokestatic 57, 3) := by decide +kernel
theorem dX4_back_7 : decode cX4_back 7 = .ok (.ifCond .ne 5, 3) := by decide +kernel
theorem dX4_back_10 : decode cX4_back 10 = .ok (.iconst (-1), 1) := by decide +kernel
theorem dX4_back_11 : decode cX4_back 11 = .ok (.ireturn, 1) := by decide +kernel
theorem dX4_back_12 : decode cX4_back 12 = .ok (.bipush 100, 2) := by decide +kernel
theorem dX4_back_14 : decode cX4_back 14 = .ok (.iload_n 1, 1) := by decide +kernel
theorem dX4_back_15 : decode cX4_back 15 = .ok (.imul, 1) := by decide +kernel
theorem dX4_back_16 : decode cX4_back 16 = .ok (.istore_n 2, 1) := by decide +kernel
theorem dX4_back_17 : decode cX4_back 17 = .ok (.aload_n 0, 1) := by decide +kernel
theorem dX4_back_18 : decode cX4_back 18 = .ok (.getfield 39, 3) := by decide +kernel
theorem dX4_back_21 : decode cX4_back 21 = .ok (.iload_n 2, 1) := by decide +kernel
theorem dX4_back_22 : decode cX4_back 22 = .ok (.laload, 1) := by decide +kernel
theorem dX4_back_23 : decode cX4_back 23 = .ok (.lconst 0, 1) := by decide +kernel
theorem dX4_back_24 : decode cX4_back 24 = .ok (.lcmp, 1) := by decide +kernel
theorem dX4_back_25 : decode cX4_back 25 = .ok (.ifCond .ne 6, 3) := by decide +kernel
theorem dX4_back_28 : decode cX4_back 28 = .ok (.bipush (-2), 2) := by decide +kernel
theorem dX4_back_30 : decode cX4_back 30 = .ok (.ireturn, 1) := by decide +kernel
theorem dX4_back_31 : decode cX4_back 31 = .ok (.aload_n 0, 1) := by decide +kernel
theorem dX4_back_32 : decode cX4_back 32 = .ok (.aload_n 0, 1) := by decide +kernel
theorem dX4_back_33 : decode cX4_back 33 = .ok (.getfield 39, 3) := by decide +kernel
theorem dX4_back_36 : decode cX4_back 36 = .ok (.iload_n 2, 1) := by decide +kernel
theorem dX4_back_37 : decode cX4_back 37 = .ok (.iconst 1, 1) := by decide +kernel
theorem dX4_back_38 : decode cX4_back 38 = .ok (.iadd, 1) := by decide +kernel
theorem dX4_back_39 : decode cX4_back 39 = .ok (.laload, 1) := by decide +kernel
theorem dX4_back_40 : decode cX4_back 40 = .ok (.l2i, 1) := by decide +kernel
theorem dX4_back_41 : decode cX4_back 41 = .ok (.putfield 20, 3) := by decide +kernel
theorem dX4_back_44 : decode cX4_back 44 = .ok (.aload_n 0, 1) := by decide +kernel
theorem dX4_back_45 : decode cX4_back 45 = .ok (.aload_n 0, 1) := by decide +kernel
theorem dX4_back_46 : decode cX4_back 46 = .ok (.getfield 39, 3) := by decide +kernel
theorem dX4_back_49 : decode cX4_back 49 = .ok (.iload_n 2, 1) := by decide +kernel
theorem dX4_back_50 : decode cX4_back 50 = .ok (.iconst 2, 1) := by decide +kernel
theorem dX4_back_51 : decode cX4_back 51 = .ok (.iadd, 1) := by decide +kernel
theorem dX4_back_52 : decode cX4_back 52 = .ok (.laload, 1) := by decide +kernel
theorem dX4_back_53 : decode cX4_back 53 = .ok (.l2i, 1) := by decide +kernel
theorem dX4_back_54 : decode cX4_back 54 = .ok (.putfield 144, 3) := by decide +kernel
theorem dX4_back_57 : decode cX4_back 57 = .ok (.aload_n 0, 1) := by decide +kernel
theorem dX4_back_58 : decode cX4_back 58 = .ok (.aload_n 0, 1) := by decide +kernel
theorem dX4_back_59 : decode cX4_back 59 = .ok (.getfield 39, 3) := by decide +kernel
theorem dX4_back_62 : decode cX4_back 62 = .ok (.iload_n 2, 1) := by decide +kernel
theorem dX4_back_63 : decode cX4_back 63 = .ok (.iconst 3, 1) := by decide +kernel
theorem dX4_back_64 : decode cX4_back 64 = .ok (.iadd, 1) := by decide +kernel
theorem dX4_back_65 : decode cX4_back 65 = .ok (.laload, 1) := by decide +kernel
theorem dX4_back_66 : decode cX4_back 66 = .ok (.l2i, 1) := by decide +kernel
theorem dX4_back_67 : decode cX4_back 67 = .ok (.putfield 147, 3) := by decide +kernel
theorem dX4_back_70 : decode cX4_back 70 = .ok (.iconst 0, 1) := by decide +kernel
theorem dX4_back_71 : decode cX4_back 71 = .ok (.istore_n 3, 1) := by decide +kernel
theorem dX4_back_72 : decode cX4_back 72 = .ok (.iload_n 3, 1) := by decide +kernel
theorem dX4_back_73 : decode cX4_back 73 = .ok (.bipush 12, 2) := by decide +kernel
theorem dX4_back_75 : decode cX4_back 75 = .ok (.if_icmp .ge 26, 3) := by decide +kernel
theorem dX4_back_78 : decode cX4_back 78 = .ok (.aload_n 0, 1) := by decide +kernel
theorem dX4_back_79 : decode cX4_back 79 = .ok (.getfield 33, 3) := by decide +kernel
theorem dX4_back_82 : decode cX4_back 82 = .ok (.iload_n 3, 1) := by decide +kernel
theorem dX4_back_83 : decode cX4_back 83 = .ok (.aload_n 0, 1) := by decide +kernel
theorem dX4_back_84 : decode cX4_back 84 = .ok (.getfield 39, 3) := by decide +kernel
theorem dX4_back_87 : decode cX4_back 87 = .ok (.iload_n 2, 1) := by decide +kernel
theorem dX4_back_88 : decode cX4_back 88 = .ok (.iconst 4, 1) := by decide +kernel
theorem dX4_back_89 : decode cX4_back 89 = .ok (.iadd, 1) := by decide +kernel
theorem dX4_back_90 : decode cX4_back 90 = .ok (.iload_n 3, 1) := by decide +kernel
theorem dX4_back_91 : decode cX4_back 91 = .ok (.iadd, 1) := by decide +kernel
theorem dX4_back_92 : decode cX4_back 92 = .ok (.laload, 1) := by decide +kernel
theorem dX4_back_93 : decode cX4_back 93 = .ok (.l2i, 1) := by decide +kernel
theorem dX4_back_94 : decode cX4_back 94 = .ok (.iastore, 1) := by decide +kernel
theorem dX4_back_95 : decode cX4_back 95 = .ok (.iinc 3 1, 3) := by decide +kernel
theorem dX4_back_98 : decode cX4_back 98 = .ok (.goto (-26), 3) := by decide +kernel
theorem dX4_back_101 : decode cX4_back 101 = .ok (.iconst 0, 1) := by decide +kernel
theorem dX4_back_102 : decode cX4_back 102 = .ok (.istore_n 3, 1) := by decide +kernel
theorem dX4_back_103 : decode cX4_back 103 = .ok (.iload_n 3, 1) := by decide +kernel
theorem dX4_back_104 : decode cX4_back 104 = .ok (.bipush 8, 2) := by decide +kernel
theorem dX4_back_106 : decode cX4_back 106 = .ok (.if_icmp .ge 27, 3) := by decide +kernel
theorem dX4_back_109 : decode cX4_back 109 = .ok (.aload_n 0, 1) := by decide +kernel
theorem dX4_back_110 : decode cX4_back 110 = .ok (.getfield 36, 3) := by decide +kernel
theorem dX4_back_113 : decode cX4_back 113 = .ok (.iload_n 3, 1) := by decide +kernel
theorem dX4_back_114 : decode cX4_back 114 = .ok (.aload_n 0, 1) := by decide +kernel
theorem dX4_back_115 : decode cX4_back 115 = .ok (.getfield 39, 3) := by decide +kernel
theorem dX4_back_118 : decode cX4_back 118 = .ok (.iload_n 2, 1) := by decide +kernel
theorem dX4_back_119 : decode cX4_back 119 = .ok (.bipush 16, 2) := by decide +kernel
theorem dX4_back_121 : decode cX4_back 121 = .ok (.iadd, 1) := by decide +kernel
theorem dX4_back_122 : decode cX4_back 122 = .ok (.iload_n 3, 1) := by decide +kernel
theorem dX4_back_123 : decode cX4_back 123 = .ok (.iadd, 1) := by decide +kernel
theorem dX4_back_124 : decode cX4_back 124 = .ok (.laload, 1) := by decide +kernel
theorem dX4_back_125 : decode cX4_back 125 = .ok (.l2i, 1) := by decide +kernel
theorem dX4_back_126 : decode cX4_back 126 = .ok (.iastore, 1) := by decide +kernel
theorem dX4_back_127 : decode cX4_back 127 = .ok (.iinc 3 1, 3) := by decide +kernel
theorem dX4_back_130 : decode cX4_back 130 = .ok (.goto (-27), 3) := by decide +kernel
theorem dX4_back_133 : decode cX4_back 133 = .ok (.iconst 0, 1) := by decide +kernel
theorem dX4_back_134 : decode cX4_back 134 = .ok (.istore_n 3, 1) := by decide +kernel
theorem dX4_back_135 : decode cX4_back 135 = .ok (.iload_n 3, 1) := by decide +kernel
theorem dX4_back_136 : decode cX4_back 136 = .ok (.bipush 23, 2) := by decide +kernel
theorem dX4_back_138 : decode cX4_back 138 = .ok (.if_icmp .ge 66, 3) := by decide +kernel
theorem dX4_back_141 : decode cX4_back 141 = .ok (.aload_n 0, 1) := by decide +kernel
theorem dX4_back_142 : decode cX4_back 142 = .ok (.getfield 23, 3) := by decide +kernel
theorem dX4_back_145 : decode cX4_back 145 = .ok (.iload_n 3, 1) := by decide +kernel
theorem dX4_back_146 : decode cX4_back 146 = .ok (.aload_n 0, 1) := by decide +kernel
theorem dX4_back_147 : decode cX4_back 147 = .ok (.getfield 39, 3) := by decide +kernel
theorem dX4_back_150 : decode cX4_back 150 = .ok (.iload_n 2, 1) := by decide +kernel
theorem dX4_back_151 : decode cX4_back 151 = .ok (.bipush 24, 2) := by decide +kernel
theorem dX4_back_153 : decode cX4_back 153 = .ok (.iadd, 1) := by decide +kernel
theorem dX4_back_154 : decode cX4_back 154 = .ok (.iconst 3, 1) := by decide +kernel
theorem dX4_back_155 : decode cX4_back 155 = .ok (.iload_n 3, 1) := by decide +kernel
theorem dX4_back_156 : decode cX4_back 156 = .ok (.imul, 1) := by decide +kernel
theorem dX4_back_157 : decode cX4_back 157 = .ok (.iadd, 1) := by decide +kernel
theorem dX4_back_158 : decode cX4_back 158 = .ok (.laload, 1) := by decide +kernel
theorem dX4_back_159 : decode cX4_back 159 = .ok (.lastore, 1) := by decide +kernel
theorem dX4_back_160 : decode cX4_back 160 = .ok (.aload_n 0, 1) := by decide +kernel
theorem dX4_back_161 : decode cX4_back 161 = .ok (.getfield 27, 3) := by decide +kernel
theorem dX4_back_164 : decode cX4_back 164 = .ok (.iload_n 3, 1) := by decide +kernel
theorem dX4_back_165 : decode cX4_back 165 = .ok (.aload_n 0, 1) := by decide +kernel
theorem dX4_back_166 : decode cX4_back 166 = .ok (.getfield 39, 3) := by decide +kernel
theorem dX4_back_169 : decode cX4_back 169 = .ok (.iload_n 2, 1) := by decide +kernel
theorem dX4_back_170 : decode cX4_back 170 = .ok (.bipush 25, 2) := by decide +kernel
theorem dX4_back_172 : decode cX4_back 172 = .ok (.iadd, 1) := by decide +kernel
theorem dX4_back_173 : decode cX4_back 173 = .ok (.iconst 3, 1) := by decide +kernel
theorem dX4_back_174 : decode cX4_back 174 = .ok (.iload_n 3, 1) := by decide +kernel
theorem dX4_back_175 : decode cX4_back 175 = .ok (.imul, 1) := by decide +kernel
theorem dX4_back_176 : decode cX4_back 176 = .ok (.iadd, 1) := by decide +kernel
theorem dX4_back_177 : decode cX4_back 177 = .ok (.laload, 1) := by decide +kernel
theorem dX4_back_178 : decode cX4_back 178 = .ok (.lastore, 1) := by decide +kernel
theorem dX4_back_179 : decode cX4_back 179 = .ok (.aload_n 0, 1) := by decide +kernel
theorem dX4_back_180 : decode cX4_back 180 = .ok (.getfield 30, 3) := by decide +kernel
theorem dX4_back_183 : decode cX4_back 183 = .ok (.iload_n 3, 1) := by decide +kernel
theorem dX4_back_184 : decode cX4_back 184 = .ok (.aload_n 0, 1) := by decide +kernel
theorem dX4_back_185 : decode cX4_back 185 = .ok (.getfield 39, 3) := by decide +kernel
theorem dX4_back_188 : decode cX4_back 188 = .ok (.iload_n 2, 1) := by decide +kernel
theorem dX4_back_189 : decode cX4_back 189 = .ok (.bipush 26, 2) := by decide +kernel
theorem dX4_back_191 : decode cX4_back 191 = .ok (.iadd, 1) := by decide +kernel
theorem dX4_back_192 : decode cX4_back 192 = .ok (.iconst 3, 1) := by decide +kernel
theorem dX4_back_193 : decode cX4_back 193 = .ok (.iload_n 3, 1) := by decide +kernel
theorem dX4_back_194 : decode cX4_back 194 = .ok (.imul, 1) := by decide +kernel
theorem dX4_back_195 : decode cX4_back 195 = .ok (.iadd, 1) := by decide +kernel
theorem dX4_back_196 : decode cX4_back 196 = .ok (.laload, 1) := by decide +kernel
theorem dX4_back_197 : decode cX4_back 197 = .ok (.lastore, 1) := by decide +kernel
theorem dX4_back_198 : decode cX4_back 198 = .ok (.iinc 3 1, 3) := by decide +kernel
theorem dX4_back_201 : decode cX4_back 201 = .ok (.goto (-66), 3) := by decide +kernel
theorem dX4_back_204 : decode cX4_back 204 = .ok (.aload_n 0, 1) := by decide +kernel
theorem dX4_back_205 : decode cX4_back 205 = .ok (.getfield 20, 3) := by decide +kernel
theorem dX4_back_208 : decode cX4_back 208 = .ok (.ireturn, 1) := by decide +kernel
theorem dX4_count_0 : decode cX4_count 0 = .ok (.iload_n 1, 1) := by decide +kernel
theorem dX4_count_1 : decode cX4_count 1 = .ok (.ifCond .ne 10, 3) := by decide +kernel
theorem dX4_count_4 : decode cX4_count 4 = .ok (.aload_n 0, 1) := by decide +kernel
theorem dX4_count_5 : decode cX4_count 5 = .ok (.getfield 20, 3) := by decide +kernel
theorem dX4_count_8 : decode cX4_count 8 = .ok (.goto 40, 3) := by decide +kernel
theorem dX4_count_11 : decode cX4_count 11 = .ok (.iload_n 1, 1) := by decide +kernel
theorem dX4_count_12 : decode cX4_count 12 = .ok (.iconst 1, 1) := by decide +kernel
theorem dX4_count_13 : decode cX4_count 13 = .ok (.if_icmp .ne 10, 3) := by decide +kernel
theorem dX4_count_16 : decode cX4_count 16 = .ok (.aload_n 0, 1) := by decide +kernel
theorem dX4_count_17 : decode cX4_count 17 = .ok (.getfield 144, 3) := by decide +kernel
theorem dX4_count_20 : decode cX4_count 20 = .ok (.goto 28, 3) := by decide +kernel
theorem dX4_count_23 : decode cX4_count 23 = .ok (.iload_n 1, 1) := by decide +kernel
theorem dX4_count_24 : decode cX4_count 24 = .ok (.iconst 2, 1) := by decide +kernel
theorem dX4_count_25 : decode cX4_count 25 = .ok (.if_icmp .ne 10, 3) := by decide +kernel
theorem dX4_count_28 : decode cX4_count 28 = .ok (.aload_n 0, 1) := by decide +kernel
theorem dX4_count_29 : decode cX4_count 29 = .ok (.getfield 147, 3) := by decide +kernel
theorem dX4_count_32 : decode cX4_count 32 = .ok (.goto 16, 3) := by decide +kernel
theorem dX4_count_35 : decode cX4_count 35 = .ok (.iload_n 1, 1) := by decide +kernel
theorem dX4_count_36 : decode cX4_count 36 = .ok (.iconst 3, 1) := by decide +kernel
theorem dX4_count_37 : decode cX4_count 37 = .ok (.if_icmp .ne 10, 3) := by decide +kernel
theorem dX4_count_40 : decode cX4_count 40 = .ok (.aload_n 0, 1) := by decide +kernel
theorem dX4_count_41 : decode cX4_count 41 = .ok (.getfield 61, 3) := by decide +kernel
theorem dX4_count_44 : decode cX4_count 44 = .ok (.goto 4, 3) := by decide +kernel
theorem dX4_count_47 : decode cX4_count 47 = .ok (.iconst (-1), 1) := by decide +kernel
theorem dX4_count_48 : decode cX4_count 48 = .ok (.ireturn, 1) := by decide +kernel
theorem dX4_trace_0 : decode cX4_trace 0 = .ok (.aload_n 0, 1) := by decide +kernel
theorem dX4_trace_1 : decode cX4_trace 1 = .ok (.getfield 184, 3) := by decide +kernel
theorem dX4_trace_4 : decode cX4_trace 4 = .ok (.lreturn, 1) := by decide +kernel
theorem dJ13_bitCount_95d88_0 : decode cJ13_bitCount_95d88 0 = .ok (.lload_n 0, 1) := by decide +kernel
theorem dJ13_bitCount_95d88_1 : decode cJ13_bitCount_95d88 1 = .ok (.lload_n 0, 1) := by decide +kernel
theorem dJ13_bitCount_95d88_2 : decode cJ13_bitCount_95d88 2 = .ok (.iconst 1, 1) := by decide +kernel
theorem dJ13_bitCount_95d88_3 : decode cJ13_bitCount_95d88 3 = .ok (.lushr, 1) := by decide +kernel
theorem dJ13_bitCount_95d88_4 : decode cJ13_bitCount_95d88 4 = .ok (.ldc2_w 314, 3) := by decide +kernel
theorem dJ13_bitCount_95d88_7 : decode cJ13_bitCount_95d88 7 = .ok (.land, 1) := by decide +kernel
theorem dJ13_bitCount_95d88_8 : decode cJ13_bitCount_95d88 8 = .ok (.lsub, 1) := by decide +kernel
theorem dJ13_bitCount_95d88_9 : decode cJ13_bitCount_95d88 9 = .ok (.lstore_n 0, 1) := by decide +kernel
theorem dJ13_bitCount_95d88_10 : decode cJ13_bitCount_95d88 10 = .ok (.lload_n 0, 1) := by decide +kernel
theorem dJ13_bitCount_95d88_11 : decode cJ13_bitCount_95d88 11 = .ok (.ldc2_w 316, 3) := by decide +kernel
theorem dJ13_bitCount_95d88_14 : decode cJ13_bitCount_95d88 14 = .ok (.land, 1) := by decide +kernel
theorem dJ13_bitCount_95d88_15 : decode cJ13_bitCount_95d88 15 = .ok (.lload_n 0, 1) := by decide +kernel
theorem dJ13_bitCount_95d88_16 : decode cJ13_bitCount_95d88 16 = .ok (.iconst 2, 1) := by decide +kernel
theorem dJ13_bitCount_95d88_17 : decode cJ13_bitCount_95d88 17 = .ok (.lushr, 1) := by decide +kernel
theorem dJ13_bitCount_95d88_18 : decode cJ13_bitCount_95d88 18 = .ok (.ldc2_w 316, 3) := by decide +kernel
theorem dJ13_bitCount_95d88_21 : decode cJ13_bitCount_95d88 21 = .ok (.land, 1) := by decide +kernel
theorem dJ13_bitCount_95d88_22 : decode cJ13_bitCount_95d88 22 = .ok (.ladd, 1) := by decide +kernel
theorem dJ13_bitCount_95d88_23 : decode cJ13_bitCount_95d88 23 = .ok (.lstore_n 0, 1) := by decide +kernel
theorem dJ13_bitCount_95d88_24 : decode cJ13_bitCount_95d88 24 = .ok (.lload_n 0, 1) := by decide +kernel
theorem dJ13_bitCount_95d88_25 : decode cJ13_bitCount_95d88 25 = .ok (.lload_n 0, 1) := by decide +kernel
theorem dJ13_bitCount_95d88_26 : decode cJ13_bitCount_95d88 26 = .ok (.iconst 4, 1) := by decide +kernel
theorem dJ13_bitCount_95d88_27 : decode cJ13_bitCount_95d88 27 = .ok (.lushr, 1) := by decide +kernel
theorem dJ13_bitCount_95d88_28 : decode cJ13_bitCount_95d88 28 = .ok (.ladd, 1) := by decide +kernel
theorem dJ13_bitCount_95d88_29 : decode cJ13_bitCount_95d88 29 = .ok (.ldc2_w 318, 3) := by decide +kernel
theorem dJ13_bitCount_95d88_32 : decode cJ13_bitCount_95d88 32 = .ok (.land, 1) := by decide +kernel
theorem dJ13_bitCount_95d88_33 : decode cJ13_bitCount_95d88 33 = .ok (.lstore_n 0, 1) := by decide +kernel
theorem dJ13_bitCount_95d88_34 : decode cJ13_bitCount_95d88 34 = .ok (.lload_n 0, 1) := by decide +kernel
theorem dJ13_bitCount_95d88_35 : decode cJ13_bitCount_95d88 35 = .ok (.lload_n 0, 1) := by decide +kernel
theorem dJ13_bitCount_95d88_36 : decode cJ13_bitCount_95d88 36 = .ok (.bipush 8, 2) := by decide +kernel
theorem dJ13_bitCount_95d88_38 : decode cJ13_bitCount_95d88 38 = .ok (.lushr, 1) := by decide +kernel
theorem dJ13_bitCount_95d88_39 : decode cJ13_bitCount_95d88 39 = .ok (.ladd, 1) := by decide +kernel
theorem dJ13_bitCount_95d88_40 : decode cJ13_bitCount_95d88 40 = .ok (.lstore_n 0, 1) := by decide +kernel
theorem dJ13_bitCount_95d88_41 : decode cJ13_bitCount_95d88 41 = .ok (.lload_n 0, 1) := by decide +kernel
theorem dJ13_bitCount_95d88_42 : decode cJ13_bitCount_95d88 42 = .ok (.lload_n 0, 1) := by decide +kernel
theorem dJ13_bitCount_95d88_43 : decode cJ13_bitCount_95d88 43 = .ok (.bipush 16, 2) := by decide +kernel
theorem dJ13_bitCount_95d88_45 : decode cJ13_bitCount_95d88 45 = .ok (.lushr, 1) := by decide +kernel
theorem dJ13_bitCount_95d88_46 : decode cJ13_bitCount_95d88 46 = .ok (.ladd, 1) := by decide +kernel
theorem dJ13_bitCount_95d88_47 : decode cJ13_bitCount_95d88 47 = .ok (.lstore_n 0, 1) := by decide +kernel
theorem dJ13_bitCount_95d88_48 : decode cJ13_bitCount_95d88 48 = .ok (.lload_n 0, 1) := by decide +kernel
theorem dJ13_bitCount_95d88_49 : decode cJ13_bitCount_95d88 49 = .ok (.lload_n 0, 1) := by decide +kernel
theorem dJ13_bitCount_95d88_50 : decode cJ13_bitCount_95d88 50 = .ok (.bipush 32, 2) := by decide +kernel
theorem dJ13_bitCount_95d88_52 : decode cJ13_bitCount_95d88 52 = .ok (.lushr, 1) := by decide +kernel
theorem dJ13_bitCount_95d88_53 : decode cJ13_bitCount_95d88 53 = .ok (.ladd, 1) := by decide +kernel
theorem dJ13_bitCount_95d88_54 : decode cJ13_bitCount_95d88 54 = .ok (.lstore_n 0, 1) := by decide +kernel
theorem dJ13_bitCount_95d88_55 : decode cJ13_bitCount_95d88 55 = .ok (.lload_n 0, 1) := by decide +kernel
theorem dJ13_bitCount_95d88_56 : decode cJ13_bitCount_95d88 56 = .ok (.l2i, 1) := by decide +kernel
theorem dJ13_bitCount_95d88_57 : decode cJ13_bitCount_95d88 57 = .ok (.bipush 127, 2) := by decide +kernel
theorem dJ13_bitCount_95d88_59 : decode cJ13_bitCount_95d88 59 = .ok (.iand, 1) := by decide +kernel
theorem dJ13_bitCount_95d88_60 : decode cJ13_bitCount_95d88 60 = .ok (.ireturn, 1) := by decide +kernel
theorem dJ9_max_7cf53_0 : decode cJ9_max_7cf53 0 = .ok (.iload_n 0, 1) := by decide +kernel
theorem dJ9_max_7cf53_1 : decode cJ9_max_7cf53 1 = .ok (.iload_n 1, 1) := by decide +kernel
theorem dJ9_max_7cf53_2 : decode cJ9_max_7cf53 2 = .ok (.if_icmp .lt 7, 3) := by decide +kernel
theorem dJ9_max_7cf53_5 : decode cJ9_max_7cf53 5 = .ok (.iload_n 0, 1) := by decide +kernel
theorem dJ9_max_7cf53_6 : decode cJ9_max_7cf53 6 = .ok (.goto 4, 3) := by decide +kernel
theorem dJ9_max_7cf53_9 : decode cJ9_max_7cf53 9 = .ok (.iload_n 1, 1) := by decide +kernel
theorem dJ9_max_7cf53_10 : decode cJ9_max_7cf53 10 = .ok (.ireturn, 1) := by decide +kernel
theorem dJ9_min_7cf53_0 : decode cJ9_min_7cf53 0 = .ok (.iload_n 0, 1) := by decide +kernel
theorem dJ9_min_7cf53_1 : decode cJ9_min_7cf53 1 = .ok (.iload_n 1, 1) := by decide +kernel
theorem dJ9_min_7cf53_2 : decode cJ9_min_7cf53 2 = .ok (.if_icmp .gt 7, 3) := by decide +kernel
theorem dJ9_min_7cf53_5 : decode cJ9_min_7cf53 5 = .ok (.iload_n 0, 1) := by decide +kernel
theorem dJ9_min_7cf53_6 : decode cJ9_min_7cf53 6 = .ok (.goto 4, 3) := by decide +kernel
theorem dJ9_min_7cf53_9 : decode cJ9_min_7cf53 9 = .ok (.iload_n 1, 1) := by decide +kernel
theorem dJ9_min_7cf53_10 : decode cJ9_min_7cf53 10 = .ok (.ireturn, 1) := by decide +kernel
set_option maxRecDepth 20000 in
theorem ggJ0_length_8abf5_J0_coder_7d493 : GoodIn wsJ0_length_8abf5 wsJ0_coder_7d493 := goodIn_r _ [6, 7, 8] (by decide +kernel) (by decide +kernel)
set_option maxRecDepth 20000 in
theorem gJ0_length_8abf5_J0_coder_7d493 : GoodIn wsJ0_length_8abf5 (wsV RJ0 335 RJ0 yJ0_coder_7d493 wsJ0_coder_7d493) := goodIn_app (goodIn_of _ (by decide +kernel)) ggJ0_length_8abf5_J0_coder_7d493
theorem dJ0_length_8abf5_0 : decode cJ0_length_8abf5 0 = .ok (.aload_n 0, 1) := by decide +kernel
theorem dJ0_length_8abf5_1 : decode cJ0_length_8abf5 1 = .ok (.getfield 9, 3) := by decide +kernel
theorem dJ0_length_8abf5_4 : decode cJ0_length_8abf5 4 = .ok (.arraylength, 1) := by decide +kernel
theorem dJ0_length_8abf5_5 : decode cJ0_length_8abf5 5 = .ok (.aload_n 0, 1) := by decide +kernel
theorem dJ0_length_8abf5_6 : decode cJ0_length_8abf5 6 = .ok (.invokevirtual 335, 3) := by decide +kernel
theorem dJ0_length_8abf5_9 : decode cJ0_length_8abf5 9 = .ok (.ishr, 1) := by decide +kernel
theorem dJ0_length_8abf5_10 : decode cJ0_length_8abf5 10 = .ok (.ireturn, 1) := by decide +kernel
set_option maxRecDepth 20000 in
theorem ggJ0_charAt_5068e_J0_isLatin1_aae02 : GoodIn wsJ0_charAt_5068e wsJ0_isLatin1_aae02 := goodIn_r _ [6, 7, 8] (by decide +kernel) (by decide +kernel)
set_option maxRecDepth 20000 in
theorem gJ0_charAt_5068e_J0_isLatin1_aae02 : GoodIn wsJ0_charAt_5068e (wsV RJ0 492 RJ0 yJ0_isLatin1_aae02 wsJ0_isLatin1_aae02) := goodIn_app (goodIn_of _ (by decide +kernel)) ggJ0_charAt_5068e_J0_isLatin1_aae02
set_option maxRecDepth 20000 in
theorem ggJ0_charAt_5068e_J1_charAt_3b067 : GoodIn wsJ0_charAt_5068e wsJ1_charAt_3b067 := goodIn_r _ [12, 13, 14, 5, 15, 16, 17, 18, 19, 20] (by decide +kernel) (by decide +kernel)
set_option maxRecDepth 20000 in
theorem gJ0_charAt_5068e_J1_charAt_3b067 : GoodIn wsJ0_charAt_5068e (va_wsS RJ0 495 yJ1_charAt_3b067 wsJ1_charAt_3b067) := goodIn_app (goodIn_of _ (by decide +kernel)) ggJ0_charAt_5068e_J1_charAt_3b067
set_option maxRecDepth 20000 in
theorem ggJ0_charAt_5068e_J2_charAt_3b067 : GoodIn wsJ0_charAt_5068e wsJ2_charAt_3b067 := goodIn_r _ [24, 25, 26, 23, 27, 28, 29, 30, 31, 14, 5, 15, 16, 17, 18, 19, 20, 32, 33, 34, 35, 36, 37] (by decide +kernel) (by decide +kernel)
set_option maxRecDepth 20000 in
theorem gJ0_charAt_5068e_J2_charAt_3b067 : GoodIn wsJ0_charAt_5068e (va_wsS RJ0 498 yJ2_charAt_3b067 wsJ2_charAt_3b067) := goodIn_app (goodIn_of _ (by decide +kernel)) ggJ0_charAt_5068e_J2_charAt_3b067
theorem dJ0_charAt_5068e_0 : decode cJ0_charAt_5068e 0 = .ok (.aload_n 0, 1) := by decide +kernel
theorem dJ0_charAt_5068e_1 : decode cJ0_charAt_5068e 1 = .ok (.invokevirtual 492, 3) := by decide +kernel
theorem dJ0_charAt_5068e_4 : decode cJ0_charAt_5068e 4 = .ok (.ifCond .eq 12, 3) := by decide +kernel
theorem dJ0_charAt_5068e_7 : decode cJ0_charAt_5068e 7 = .ok (.aload_n 0, 1) := by decide +kernel
theorem dJ0_charAt_5068e_8 : decode cJ0_charAt_5068e 8 = .ok (.getfield 9, 3) := by decide +kernel
theorem dJ0_charAt_5068e_11 : decode cJ0_charAt_5068e 11 = .ok (.iload_n 1, 1) := by decide +kernel
theorem dJ0_charAt_5068e_12 : decode cJ0_charAt_5068e 12 = .ok (.invokestatic 495, 3) := by decide +kernel
theorem dJ0_charAt_5068e_15 : decode cJ0_charAt_5068e 15 = .ok (.ireturn, 1) := by decide +kernel
theorem dJ0_charAt_5068e_16 : decode cJ0_charAt_5068e 16 = .ok (.aload_n 0, 1) := by decide +kernel
theorem dJ0_charAt_5068e_17 : decode cJ0_charAt_5068e 17 = .ok (.getfield 9, 3) := by decide +kernel
theorem dJ0_charAt_5068e_20 : decode cJ0_charAt_5068e 20 = .ok (.iload_n 1, 1) := by decide +kernel
theorem dJ0_charAt_5068e_21 : decode cJ0_charAt_5068e 21 = .ok (.invokestatic 498, 3) := by decide +kernel
theorem dJ0_charAt_5068e_24 : decode cJ0_charAt_5068e 24 = .ok (.ireturn, 1) := by decide +kernel
theorem dJ0_coder_7d493_0 : decode cJ0_coder_7d493 0 = .ok (.getstatic 38, 3) := by decide +kernel
theorem dJ0_coder_7d493_3 : decode cJ0_coder_7d493 3 = .ok (.ifCond .eq 10, 3) := by decide +kernel
theorem dJ0_coder_7d493_6 : decode cJ0_coder_7d493 6 = .ok (.aload_n 0, 1) := by decide +kernel
theorem dJ0_coder_7d493_7 : decode cJ0_coder_7d493 7 = .ok (.getfield 15, 3) := by decide +kernel
theorem dJ0_coder_7d493_10 : decode cJ0_coder_7d493 10 = .ok (.goto 4, 3) := by decide +kernel
theorem dJ0_coder_7d493_13 : decode cJ0_coder_7d493 13 = .ok (.iconst 1, 1) := by decide +kernel
theorem dJ0_coder_7d493_14 : decode cJ0_coder_7d493 14 = .ok (.ireturn, 1) := by decide +kernel
theorem dJ0_isLatin1_aae02_0 : decode cJ0_isLatin1_aae02 0 = .ok (.getstatic 38, 3) := by decide +kernel
theorem dJ0_isLatin1_aae02_3 : decode cJ0_isLatin1_aae02 3 = .ok (.ifCond .eq 14, 3) := by decide +kernel
theorem dJ0_isLatin1_aae02_6 : decode cJ0_isLatin1_aae02 6 = .ok (.aload_n 0, 1) := by decide +kernel
theorem dJ0_isLatin1_aae02_7 : decode cJ0_isLatin1_aae02 7 = .ok (.getfield 15, 3) := by decide +kernel
theorem dJ0_isLatin1_aae02_10 : decode cJ0_isLatin1_aae02 10 = .ok (.ifCond .ne 7, 3) := by decide +kernel
theorem dJ0_isLatin1_aae02_13 : decode cJ0_isLatin1_aae02 13 = .ok (.iconst 1, 1) := by decide +kernel
theorem dJ0_isLatin1_aae02_14 : decode cJ0_isLatin1_aae02 14 = .ok (.goto 4, 3) := by decide +kernel
theorem dJ0_isLatin1_aae02_17 : decode cJ0_isLatin1_aae02 17 = .ok (.iconst 0, 1) := by decide +kernel
theorem dJ0_isLatin1_aae02_18 : decode cJ0_isLatin1_aae02 18 = .ok (.ireturn, 1) := by decide +kernel
set_option maxRecDepth 20000 in
theorem ggJ0_checkIndex_df160_J3_checkIndex_8e157 : GoodIn wsJ0_checkIndex_df160 wsJ3_checkIndex_8e157 := goodIn_r _ [5] (by decide +kernel) (by decide +kernel)
set_option maxRecDepth 20000 in
theorem gJ0_checkIndex_df160_J3_checkIndex_8e157 : GoodIn wsJ0_checkIndex_df160 (va_wsS RJ0 1059 yJ3_checkIndex_8e157 wsJ3_checkIndex_8e157) := goodIn_app (goodIn_of _ (by decide +kernel)) ggJ0_checkIndex_df160_J3_checkIndex_8e157
theorem dJ0_checkIndex_df160_0 : decode cJ0_checkIndex_df160 0 = .ok (.iload_n 0, 1) := by decide +kernel
theorem dJ0_checkIndex_df160_1 : decode cJ0_checkIndex_df160 1 = .ok (.iload_n 1, 1) := by decide +kernel
theorem dJ0_checkIndex_df160_2 : decode cJ0_checkIndex_df160 2 = .ok (.getstatic 1053, 3) := by decide +kernel
theorem dJ0_checkIndex_df160_5 : decode cJ0_checkIndex_df160 5 = .ok (.invokestatic 1059, 3) := by decide +kernel
theorem dJ0_checkIndex_df160_8 : decode cJ0_checkIndex_df160 8 = .ok (.pop, 1) := by decide +kernel
theorem dJ0_checkIndex_df160_9 : decode cJ0_checkIndex_df160 9 = .ok (.return_, 1) := by decide +kernel
set_option maxRecDepth 20000 in
theorem ggJ1_charAt_3b067_J0_checkIndex_df160 : GoodIn wsJ1_charAt_3b067 wsJ0_checkIndex_df160 := goodIn_r _ [4, 5, 6, 7, 8, 9] (by decide +kernel) (by decide +kernel)
set_option maxRecDepth 20000 in
theorem gJ1_charAt_3b067_J0_checkIndex_df160 : GoodIn wsJ1_charAt_3b067 (va_wsS RJ1 9 yJ0_checkIndex_df160 wsJ0_checkIndex_df160) := goodIn_app (goodIn_of _ (by decide +kernel)) ggJ1_charAt_3b067_J0_checkIndex_df160
theorem dJ1_charAt_3b067_0 : decode cJ1_charAt_3b067 0 = .ok (.iload_n 1, 1) := by decide +kernel
theorem dJ1_charAt_3b067_1 : decode cJ1_charAt_3b067 1 = .ok (.aload_n 0, 1) := by decide +kernel
theorem dJ1_charAt_3b067_2 : decode cJ1_charAt_3b067 2 = .ok (.arraylength, 1) := by decide +kernel
theorem dJ1_charAt_3b067_3 : decode cJ1_charAt_3b067 3 = .ok (.invokestatic 9, 3) := by decide +kernel
theorem dJ1_charAt_3b067_6 : decode cJ1_charAt_3b067 6 = .ok (.aload_n 0, 1) := by decide +kernel
theorem dJ1_charAt_3b067_7 : decode cJ1_charAt_3b067 7 = .ok (.iload_n 1, 1) := by decide +kernel
theorem dJ1_charAt_3b067_8 : decode cJ1_charAt_3b067 8 = .ok (.baload, 1) := by decide +kernel
theorem dJ1_charAt_3b067_9 : decode cJ1_charAt_3b067 9 = .ok (.sipush 255, 3) := by decide +kernel
theorem dJ1_charAt_3b067_12 : decode cJ1_charAt_3b067 12 = .ok (.iand, 1) := by decide +kernel
theorem dJ1_charAt_3b067_13 : decode cJ1_charAt_3b067 13 = .ok (.i2c, 1) := by decide +kernel
theorem dJ1_charAt_3b067_14 : decode cJ1_charAt_3b067 14 = .ok (.ireturn, 1) := by decide +kernel
set_option maxRecDepth 20000 in
theorem ggJ2_getChar_3b067_J2_length_9d52b : GoodIn wsJ2_getChar_3b067 wsJ2_length_9d52b := goodIn_r _ [7] (by decide +kernel) (by decide +kernel)
set_option maxRecDepth 20000 in
theorem gJ2_getChar_3b067_J2_length_9d52b : GoodIn wsJ2_getChar_3b067 (va_wsS RJ2 48 yJ2_length_9d52b wsJ2_length_9d52b) := goodIn_app (goodIn_of _ (by decide +kernel)) ggJ2_getChar_3b067_J2_length_9d52b
theorem dJ2_getChar_3b067_0 : decode cJ2_getChar_3b067 0 = .ok (.getstatic 44, 3) := by decide +kernel
theorem dJ2_getChar_3b067_3 : decode cJ2_getChar_3b067 3 = .ok (.ifCond .ne 25, 3) := by decide +kernel
theorem dJ2_getChar_3b067_6 : decode cJ2_getChar_3b067 6 = .ok (.iload_n 1, 1) := by decide +kernel
theorem dJ2_getChar_3b067_7 : decode cJ2_getChar_3b067 7 = .ok (.ifCond .lt 11, 3) := by decide +kernel
theorem dJ2_getChar_3b067_10 : decode cJ2_getChar_3b067 10 = .ok (.iload_n 1, 1) := by decide +kernel
theorem dJ2_getChar_3b067_11 : decode cJ2_getChar_3b067 11 = .ok (.aload_n 0, 1) := by decide +kernel
theorem dJ2_getChar_3b067_12 : decode cJ2_getChar_3b067 12 = .ok (.invokestatic 48, 3) := by decide +kernel
theorem dJ2_getChar_3b067_15 : decode cJ2_getChar_3b067 15 = .ok (.if_icmp .lt 13, 3) := by decide +kernel
theorem dJ2_getChar_3b067_18 : decode cJ2_getChar_3b067 18 = .ok (.new 52, 3) := by decide +kernel
theorem dJ2_getChar_3b067_21 : decode cJ2_getChar_3b067 21 = .ok (.dup, 1) := by decide +kernel
theorem dJ2_getChar_3b067_22 : decode cJ2_getChar_3b067 22 = .ok (.ldc 54, 2) := by decide +kernel
theorem dJ2_getChar_3b067_24 : decode cJ2_getChar_3b067 24 = .ok (.invokespecial 56, 3) := by decide +kernel
theorem dJ2_getChar_3b067_27 : decode cJ2_getChar_3b067 27 = .ok (.athrow, 1) := by decide +kernel
theorem dJ2_getChar_3b067_28 : decode cJ2_getChar_3b067 28 = .ok (.iload_n 1, 1) := by decide +kernel
theorem dJ2_getChar_3b067_29 : decode cJ2_getChar_3b067 29 = .ok (.iconst 1, 1) := by decide +kernel
theorem dJ2_getChar_3b067_30 : decode cJ2_getChar_3b067 30 = .ok (.ishl, 1) := by decide +kernel
theorem dJ2_getChar_3b067_31 : decode cJ2_getChar_3b067 31 = .ok (.istore_n 1, 1) := by decide +kernel
theorem dJ2_getChar_3b067_32 : decode cJ2_getChar_3b067 32 = .ok (.aload_n 0, 1) := by decide +kernel
theorem dJ2_getChar_3b067_33 : decode cJ2_getChar_3b067 33 = .ok (.iload_n 1, 1) := by decide +kernel
theorem dJ2_getChar_3b067_34 : decode cJ2_getChar_3b067 34 = .ok (.iinc 1 1, 3) := by decide +kernel
theorem dJ2_getChar_3b067_37 : decode cJ2_getChar_3b067 37 = .ok (.baload, 1) := by decide +kernel
theorem dJ2_getChar_3b067_38 : decode cJ2_getChar_3b067 38 = .ok (.sipush 255, 3) := by decide +kernel
theorem dJ2_getChar_3b067_41 : decode cJ2_getChar_3b067 41 = .ok (.iand, 1) := by decide +kernel
theorem dJ2_getChar_3b067_42 : decode cJ2_getChar_3b067 42 = .ok (.getstatic 59, 3) := by decide +kernel
theorem dJ2_getChar_3b067_45 : decode cJ2_getChar_3b067 45 = .ok (.ishl, 1) := by decide +kernel
theorem dJ2_getChar_3b067_46 : decode cJ2_getChar_3b067 46 = .ok (.aload_n 0, 1) := by decide +kernel
theorem dJ2_getChar_3b067_47 : decode cJ2_getChar_3b067 47 = .ok (.iload_n 1, 1) := by decide +kernel
theorem dJ2_getChar_3b067_48 : decode cJ2_getChar_3b067 48 = .ok (.baload, 1) := by decide +kernel
theorem dJ2_getChar_3b067_49 : decode cJ2_getChar_3b067 49 = .ok (.sipush 255, 3) := by decide +kernel
theorem dJ2_getChar_3b067_52 : decode cJ2_getChar_3b067 52 = .ok (.iand, 1) := by decide +kernel
theorem dJ2_getChar_3b067_53 : decode cJ2_getChar_3b067 53 = .ok (.getstatic 63, 3) := by decide +kernel
theorem dJ2_getChar_3b067_56 : decode cJ2_getChar_3b067 56 = .ok (.ishl, 1) := by decide +kernel
theorem dJ2_getChar_3b067_57 : decode cJ2_getChar_3b067 57 = .ok (.ior, 1) := by decide +kernel
theorem dJ2_getChar_3b067_58 : decode cJ2_getChar_3b067 58 = .ok (.i2c, 1) := by decide +kernel
theorem dJ2_getChar_3b067_59 : decode cJ2_getChar_3b067 59 = .ok (.ireturn, 1) := by decide +kernel
theorem dJ2_length_9d52b_0 : decode cJ2_length_9d52b 0 = .ok (.aload_n 0, 1) := by decide +kernel
theorem dJ2_length_9d52b_1 : decode cJ2_length_9d52b 1 = .ok (.arraylength, 1) := by decide +kernel
theorem dJ2_length_9d52b_2 : decode cJ2_length_9d52b 2 = .ok (.iconst 1, 1) := by decide +kernel
theorem dJ2_length_9d52b_3 : decode cJ2_length_9d52b 3 = .ok (.ishr, 1) := by decide +kernel
theorem dJ2_length_9d52b_4 : decode cJ2_length_9d52b 4 = .ok (.ireturn, 1) := by decide +kernel
set_option maxRecDepth 20000 in
theorem ggJ2_charAt_3b067_J2_checkIndex_2214a : GoodIn wsJ2_charAt_3b067 wsJ2_checkIndex_2214a := goodIn_r _ [4, 5, 6, 3, 7, 8, 9, 10, 11, 12, 13, 14, 15, 16] (by decide +kernel) (by decide +kernel)
set_option maxRecDepth 20000 in
theorem gJ2_charAt_3b067_J2_checkIndex_2214a : GoodIn wsJ2_charAt_3b067 (va_wsS RJ2 67 yJ2_checkIndex_2214a wsJ2_checkIndex_2214a) := goodIn_app (goodIn_of _ (by decide +kernel)) ggJ2_charAt_3b067_J2_checkIndex_2214a
set_option maxRecDepth 20000 in
theorem ggJ2_charAt_3b067_J2_getChar_3b067 : GoodIn wsJ2_charAt_3b067 wsJ2_getChar_3b067 := goodIn_r _ [19, 20, 21, 22, 5, 6, 3, 7] (by decide +kernel) (by decide +kernel)
set_option maxRecDepth 20000 in
theorem gJ2_charAt_3b067_J2_getChar_3b067 : GoodIn wsJ2_charAt_3b067 (va_wsS RJ2 71 yJ2_getChar_3b067 wsJ2_getChar_3b067) := goodIn_app (goodIn_of _ (by decide +kernel)) ggJ2_charAt_3b067_J2_getChar_3b067
theorem dJ2_charAt_3b067_0 : decode cJ2_charAt_3b067 0 = .ok (.iload_n 1, 1) := by decide +kernel
theorem dJ2_charAt_3b067_1 : decode cJ2_charAt_3b067 1 = .ok (.aload_n 0, 1) := by decide +kernel
theorem dJ2_charAt_3b067_2 : decode cJ2_charAt_3b067 2 = .ok (.invokestatic 67, 3) := by decide +kernel
theorem dJ2_charAt_3b067_5 : decode cJ2_charAt_3b067 5 = .ok (.aload_n 0, 1) := by decide +kernel
theorem dJ2_charAt_3b067_6 : decode cJ2_charAt_3b067 6 = .ok (.iload_n 1, 1) := by decide +kernel
theorem dJ2_charAt_3b067_7 : decode cJ2_charAt_3b067 7 = .ok (.invokestatic 71, 3) := by decide +kernel
theorem dJ2_charAt_3b067_10 : decode cJ2_charAt_3b067 10 = .ok (.ireturn, 1) := by decide +kernel
set_option maxRecDepth 20000 in
theorem ggJ2_checkIndex_2214a_J2_length_9d52b : GoodIn wsJ2_checkIndex_2214a wsJ2_length_9d52b := goodIn_r _ [4] (by decide +kernel) (by decide +kernel)
set_option maxRecDepth 20000 in
theorem gJ2_checkIndex_2214a_J2_length_9d52b : GoodIn wsJ2_checkIndex_2214a (va_wsS RJ2 48 yJ2_length_9d52b wsJ2_length_9d52b) := goodIn_app (goodIn_of _ (by decide +kernel)) ggJ2_checkIndex_2214a_J2_length_9d52b
set_option maxRecDepth 20000 in
theorem ggJ2_checkIndex_2214a_J0_checkIndex_df160 : GoodIn wsJ2_checkIndex_2214a wsJ0_checkIndex_df160 := goodIn_r _ [8, 9, 10, 11, 12, 13] (by decide +kernel) (by decide +kernel)
set_option maxRecDepth 20000 in
theorem gJ2_checkIndex_2214a_J0_checkIndex_df160 : GoodIn wsJ2_checkIndex_2214a (va_wsS RJ2 414 yJ0_checkIndex_df160 wsJ0_checkIndex_df160) := goodIn_app (goodIn_of _ (by decide +kernel)) ggJ2_checkIndex_2214a_J0_checkIndex_df160
theorem dJ2_checkIndex_2214a_0 : decode cJ2_checkIndex_2214a 0 = .ok (.iload_n 0, 1) := by decide +kernel
theorem dJ2_checkIndex_2214a_1 : decode cJ2_checkIndex_2214a 1 = .ok (.aload_n 1, 1) := by decide +kernel
theorem dJ2_checkIndex_2214a_2 : decode cJ2_checkIndex_2214a 2 = .ok (.invokestatic 48, 3) := by decide +kernel
theorem dJ2_checkIndex_2214a_5 : decode cJ2_checkIndex_2214a 5 = .ok (.invokestatic 414, 3) := by decide +kernel
theorem dJ2_checkIndex_2214a_8 : decode cJ2_checkIndex_2214a 8 = .ok (.return_, 1) := by decide +kernel
theorem dJ3_checkIndex_8e157_0 : decode cJ3_checkIndex_8e157 0 = .ok (.iload_n 0, 1) := by decide +kernel
theorem dJ3_checkIndex_8e157_1 : decode cJ3_checkIndex_8e157 1 = .ok (.ifCond .lt 8, 3) := by decide +kernel
theorem dJ3_checkIndex_8e157_4 : decode cJ3_checkIndex_8e157 4 = .ok (.iload_n 0, 1) := by decide +kernel
theorem dJ3_checkIndex_8e157_5 : decode cJ3_checkIndex_8e157 5 = .ok (.iload_n 1, 1) := by decide +kernel
theorem dJ3_checkIndex_8e157_6 : decode cJ3_checkIndex_8e157 6 = .ok (.if_icmp .lt 10, 3) := by decide +kernel
theorem dJ3_checkIndex_8e157_9 : decode cJ3_checkIndex_8e157 9 = .ok (.aload_n 2, 1) := by decide +kernel
theorem dJ3_checkIndex_8e157_10 : decode cJ3_checkIndex_8e157 10 = .ok (.iload_n 0, 1) := by decide +kernel
theorem dJ3_checkIndex_8e157_11 : decode cJ3_checkIndex_8e157 11 = .ok (.iload_n 1, 1) := by decide +kernel
theorem dJ3_checkIndex_8e157_12 : decode cJ3_checkIndex_8e157 12 = .ok (.invokestatic 95, 3) := by decide +kernel
theorem dJ3_checkIndex_8e157_15 : decode cJ3_checkIndex_8e157 15 = .ok (.athrow, 1) := by decide +kernel
theorem dJ3_checkIndex_8e157_16 : decode cJ3_checkIndex_8e157 16 = .ok (.iload_n 0, 1) := by decide +kernel
theorem dJ3_checkIndex_8e157_17 : decode cJ3_checkIndex_8e157 17 = .ok (.ireturn, 1) := by decide +kernel
