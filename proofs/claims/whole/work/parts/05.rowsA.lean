set_option maxRecDepth 20000 in
theorem ggX0_init_X1_init : GoodIn wsX0_init wsX1_init := goodIn_r _ [14, 15, 2, 3, 16, 17, 18, 19, 20, 21, 22, 23, 24] (by decide +kernel) (by decide +kernel)
set_option maxRecDepth 20000 in
theorem gX0_init_X1_init : GoodIn wsX0_init (wsX1_init) := ggX0_init_X1_init
theorem dX0_init_0 : decode cX0_init 0 = .ok (.aload_n 0, 1) := by decide +kernel
theorem dX0_init_1 : decode cX0_init 1 = .ok (.invokespecial 3, 3) := by decide +kernel
theorem dX0_init_4 : decode cX0_init 4 = .ok (.aload_n 0, 1) := by decide +kernel
theorem dX0_init_5 : decode cX0_init 5 = .ok (.new 9, 3) := by decide +kernel
theorem dX0_init_8 : decode cX0_init 8 = .ok (.dup, 1) := by decide +kernel
theorem dX0_init_9 : decode cX0_init 9 = .ok (.bipush 23, 2) := by decide +kernel
theorem dX0_init_11 : decode cX0_init 11 = .ok (.invokespecial 11, 3) := by decide +kernel
theorem dX0_init_14 : decode cX0_init 14 = .ok (.putfield 14, 3) := by decide +kernel
theorem dX0_init_17 : decode cX0_init 17 = .ok (.aload_n 0, 1) := by decide +kernel
theorem dX0_init_18 : decode cX0_init 18 = .ok (.new 9, 3) := by decide +kernel
theorem dX0_init_21 : decode cX0_init 21 = .ok (.dup, 1) := by decide +kernel
theorem dX0_init_22 : decode cX0_init 22 = .ok (.bipush 23, 2) := by decide +kernel
theorem dX0_init_24 : decode cX0_init 24 = .ok (.invokespecial 11, 3) := by decide +kernel
theorem dX0_init_27 : decode cX0_init 27 = .ok (.putfield 20, 3) := by decide +kernel
theorem dX0_init_30 : decode cX0_init 30 = .ok (.aload_n 0, 1) := by decide +kernel
theorem dX0_init_31 : decode cX0_init 31 = .ok (.new 9, 3) := by decide +kernel
theorem dX0_init_34 : decode cX0_init 34 = .ok (.dup, 1) := by decide +kernel
theorem dX0_init_35 : decode cX0_init 35 = .ok (.bipush 23, 2) := by decide +kernel
theorem dX0_init_37 : decode cX0_init 37 = .ok (.invokespecial 11, 3) := by decide +kernel
theorem dX0_init_40 : decode cX0_init 40 = .ok (.putfield 23, 3) := by decide +kernel
theorem dX0_init_43 : decode cX0_init 43 = .ok (.aload_n 0, 1) := by decide +kernel
theorem dX0_init_44 : decode cX0_init 44 = .ok (.new 9, 3) := by decide +kernel
theorem dX0_init_47 : decode cX0_init 47 = .ok (.dup, 1) := by decide +kernel
theorem dX0_init_48 : decode cX0_init 48 = .ok (.bipush 12, 2) := by decide +kernel
theorem dX0_init_50 : decode cX0_init 50 = .ok (.invokespecial 11, 3) := by decide +kernel
theorem dX0_init_53 : decode cX0_init 53 = .ok (.putfield 26, 3) := by decide +kernel
theorem dX0_init_56 : decode cX0_init 56 = .ok (.aload_n 0, 1) := by decide +kernel
theorem dX0_init_57 : decode cX0_init 57 = .ok (.new 9, 3) := by decide +kernel
theorem dX0_init_60 : decode cX0_init 60 = .ok (.dup, 1) := by decide +kernel
theorem dX0_init_61 : decode cX0_init 61 = .ok (.bipush 8, 2) := by decide +kernel
theorem dX0_init_63 : decode cX0_init 63 = .ok (.invokespecial 11, 3) := by decide +kernel
theorem dX0_init_66 : decode cX0_init 66 = .ok (.putfield 29, 3) := by decide +kernel
theorem dX0_init_69 : decode cX0_init 69 = .ok (.return_, 1) := by decide +kernel
set_option maxRecDepth 20000 in
theorem ggX0_creases_X1_size : GoodIn wsX0_creases wsX1_size := goodIn_r _ [6, 7, 13, 14] (by decide +kernel) (by decide +kernel)
set_option maxRecDepth 20000 in
theorem gX0_creases_X1_size : GoodIn wsX0_creases (wsV RX0 32 RX1 yX1_size wsX1_size) := goodIn_app (goodIn_of _ (by decide +kernel)) ggX0_creases_X1_size
theorem dX0_creases_0 : decode cX0_creases 0 = .ok (.aload_n 0, 1) := by decide +kernel
theorem dX0_creases_1 : decode cX0_creases 1 = .ok (.getfield 14, 3) := by decide +kernel
theorem dX0_creases_4 : decode cX0_creases 4 = .ok (.invokevirtual 32, 3) := by decide +kernel
theorem dX0_creases_7 : decode cX0_creases 7 = .ok (.ireturn, 1) := by decide +kernel
set_option maxRecDepth 20000 in
theorem ggX0_begin_X0_empty : GoodIn wsX0_begin wsX0_empty := goodIn_r _ [6, 7, 8, 9, 10, 11, 12, 13, 14, 15, 16, 17, 27, 28, 29, 30, 31, 32, 33] (by decide +kernel) (by decide +kernel)
set_option maxRecDepth 20000 in
theorem gX0_begin_X0_empty : GoodIn wsX0_begin (wsV RX0 36 RX0 yX0_empty wsX0_empty) := goodIn_app (goodIn_of _ (by decide +kernel)) ggX0_begin_X0_empty
set_option maxRecDepth 20000 in
theorem ggX0_begin_X0_addCrease : GoodIn wsX0_begin wsX0_addCrease := goodIn_r _ [21, 7, 8, 9, 22, 23, 24, 15, 25, 17, 26, 27, 28, 29, 30, 31, 32, 33] (by decide +kernel) (by decide +kernel)
set_option maxRecDepth 20000 in
theorem gX0_begin_X0_addCrease : GoodIn wsX0_begin (wsV RX0 39 RX0 yX0_addCrease wsX0_addCrease) := goodIn_app (goodIn_of _ (by decide +kernel)) ggX0_begin_X0_addCrease
theorem dX0_begin_0 : decode cX0_begin 0 = .ok (.aload_n 0, 1) := by decide +kernel
theorem dX0_begin_1 : decode cX0_begin 1 = .ok (.invokevirtual 36, 3) := by decide +kernel
theorem dX0_begin_4 : decode cX0_begin 4 = .ok (.aload_n 0, 1) := by decide +kernel
theorem dX0_begin_5 : decode cX0_begin 5 = .ok (.lconst 0, 1) := by decide +kernel
theorem dX0_begin_6 : decode cX0_begin 6 = .ok (.lconst 0, 1) := by decide +kernel
theorem dX0_begin_7 : decode cX0_begin 7 = .ok (.lconst 0, 1) := by decide +kernel
theorem dX0_begin_8 : decode cX0_begin 8 = .ok (.invokevirtual 39, 3) := by decide +kernel
theorem dX0_begin_11 : decode cX0_begin 11 = .ok (.aload_n 0, 1) := by decide +kernel
theorem dX0_begin_12 : decode cX0_begin 12 = .ok (.iload_n 1, 1) := by decide +kernel
theorem dX0_begin_13 : decode cX0_begin 13 = .ok (.i2l, 1) := by decide +kernel
theorem dX0_begin_14 : decode cX0_begin 14 = .ok (.ldc2_w 43, 3) := by decide +kernel
theorem dX0_begin_17 : decode cX0_begin 17 = .ok (.lmul, 1) := by decide +kernel
theorem dX0_begin_18 : decode cX0_begin 18 = .ok (.lconst 0, 1) := by decide +kernel
theorem dX0_begin_19 : decode cX0_begin 19 = .ok (.lconst 0, 1) := by decide +kernel
theorem dX0_begin_20 : decode cX0_begin 20 = .ok (.invokevirtual 39, 3) := by decide +kernel
theorem dX0_begin_23 : decode cX0_begin 23 = .ok (.aload_n 0, 1) := by decide +kernel
theorem dX0_begin_24 : decode cX0_begin 24 = .ok (.iload_n 2, 1) := by decide +kernel
theorem dX0_begin_25 : decode cX0_begin 25 = .ok (.i2l, 1) := by decide +kernel
theorem dX0_begin_26 : decode cX0_begin 26 = .ok (.ldc2_w 43, 3) := by decide +kernel
theorem dX0_begin_29 : decode cX0_begin 29 = .ok (.lmul, 1) := by decide +kernel
theorem dX0_begin_30 : decode cX0_begin 30 = .ok (.ldc2_w 43, 3) := by decide +kernel
theorem dX0_begin_33 : decode cX0_begin 33 = .ok (.lconst 0, 1) := by decide +kernel
theorem dX0_begin_34 : decode cX0_begin 34 = .ok (.invokevirtual 39, 3) := by decide +kernel
theorem dX0_begin_37 : decode cX0_begin 37 = .ok (.return_, 1) := by decide +kernel
set_option maxRecDepth 20000 in
theorem ggX0_bring_X0_middle : GoodIn wsX0_bring wsX0_middle := goodIn_r _ [8, 9, 10, 11, 12, 13, 14, 15, 30, 31] (by decide +kernel) (by decide +kernel)
set_option maxRecDepth 20000 in
theorem gX0_bring_X0_middle : GoodIn wsX0_bring (va_wsS RX0 45 yX0_middle wsX0_middle) := goodIn_app (goodIn_of _ (by decide +kernel)) ggX0_bring_X0_middle
set_option maxRecDepth 20000 in
theorem ggX0_bring_X0_addCrease : GoodIn wsX0_bring wsX0_addCrease := goodIn_r _ [19, 1, 2, 3, 20, 21, 22, 13, 23, 24, 15, 25, 26, 27, 28, 29, 30, 31] (by decide +kernel) (by decide +kernel)
set_option maxRecDepth 20000 in
theorem gX0_bring_X0_addCrease : GoodIn wsX0_bring (wsV RX0 39 RX0 yX0_addCrease wsX0_addCrease) := goodIn_app (goodIn_of _ (by decide +kernel)) ggX0_bring_X0_addCrease
theorem dX0_bring_0 : decode cX0_bring 0 = .ok (.aload_n 0, 1) := by decide +kernel
theorem dX0_bring_1 : decode cX0_bring 1 = .ok (.aload_n 0, 1) := by decide +kernel
theorem dX0_bring_2 : decode cX0_bring 2 = .ok (.getfield 14, 3) := by decide +kernel
theorem dX0_bring_5 : decode cX0_bring 5 = .ok (.iload_n 1, 1) := by decide +kernel
theorem dX0_bring_6 : decode cX0_bring 6 = .ok (.iload_n 2, 1) := by decide +kernel
theorem dX0_bring_7 : decode cX0_bring 7 = .ok (.invokestatic 45, 3) := by decide +kernel
theorem dX0_bring_10 : decode cX0_bring 10 = .ok (.aload_n 0, 1) := by decide +kernel
theorem dX0_bring_11 : decode cX0_bring 11 = .ok (.getfield 20, 3) := by decide +kernel
theorem dX0_bring_14 : decode cX0_bring 14 = .ok (.iload_n 1, 1) := by decide +kernel
theorem dX0_bring_15 : decode cX0_bring 15 = .ok (.iload_n 2, 1) := by decide +kernel
theorem dX0_bring_16 : decode cX0_bring 16 = .ok (.invokestatic 45, 3) := by decide +kernel
theorem dX0_bring_19 : decode cX0_bring 19 = .ok (.aload_n 0, 1) := by decide +kernel
theorem dX0_bring_20 : decode cX0_bring 20 = .ok (.getfield 23, 3) := by decide +kernel
theorem dX0_bring_23 : decode cX0_bring 23 = .ok (.iload_n 1, 1) := by decide +kernel
theorem dX0_bring_24 : decode cX0_bring 24 = .ok (.iload_n 2, 1) := by decide +kernel
theorem dX0_bring_25 : decode cX0_bring 25 = .ok (.invokestatic 45, 3) := by decide +kernel
theorem dX0_bring_28 : decode cX0_bring 28 = .ok (.ldc2_w 43, 3) := by decide +kernel
theorem dX0_bring_31 : decode cX0_bring 31 = .ok (.ladd, 1) := by decide +kernel
theorem dX0_bring_32 : decode cX0_bring 32 = .ok (.invokevirtual 39, 3) := by decide +kernel
theorem dX0_bring_35 : decode cX0_bring 35 = .ok (.return_, 1) := by decide +kernel
set_option maxRecDepth 20000 in
theorem ggX0_unfold_X1_dropLast : GoodIn wsX0_unfold wsX1_dropLast := goodIn_r _ [8, 9, 10, 11, 12, 13, 19, 20] (by decide +kernel) (by decide +kernel)
set_option maxRecDepth 20000 in
theorem gX0_unfold_X1_dropLast : GoodIn wsX0_unfold (wsV RX0 49 RX1 yX1_dropLast wsX1_dropLast) := goodIn_app (goodIn_of _ (by decide +kernel)) ggX0_unfold_X1_dropLast
theorem dX0_unfold_0 : decode cX0_unfold 0 = .ok (.aload_n 0, 1) := by decide +kernel
theorem dX0_unfold_1 : decode cX0_unfold 1 = .ok (.getfield 14, 3) := by decide +kernel
theorem dX0_unfold_4 : decode cX0_unfold 4 = .ok (.invokevirtual 49, 3) := by decide +kernel
theorem dX0_unfold_7 : decode cX0_unfold 7 = .ok (.aload_n 0, 1) := by decide +kernel
theorem dX0_unfold_8 : decode cX0_unfold 8 = .ok (.getfield 20, 3) := by decide +kernel
theorem dX0_unfold_11 : decode cX0_unfold 11 = .ok (.invokevirtual 49, 3) := by decide +kernel
theorem dX0_unfold_14 : decode cX0_unfold 14 = .ok (.aload_n 0, 1) := by decide +kernel
theorem dX0_unfold_15 : decode cX0_unfold 15 = .ok (.getfield 23, 3) := by decide +kernel
theorem dX0_unfold_18 : decode cX0_unfold 18 = .ok (.invokevirtual 49, 3) := by decide +kernel
theorem dX0_unfold_21 : decode cX0_unfold 21 = .ok (.return_, 1) := by decide +kernel
set_option maxRecDepth 20000 in
theorem ggX0_empty_X1_empty : GoodIn wsX0_empty wsX1_empty := goodIn_r _ [10, 11, 17, 18] (by decide +kernel) (by decide +kernel)
set_option maxRecDepth 20000 in
theorem gX0_empty_X1_empty : GoodIn wsX0_empty (wsV RX0 52 RX1 yX1_empty wsX1_empty) := goodIn_app (goodIn_of _ (by decide +kernel)) ggX0_empty_X1_empty
theorem dX0_empty_0 : decode cX0_empty 0 = .ok (.aload_n 0, 1) := by decide +kernel
theorem dX0_empty_1 : decode cX0_empty 1 = .ok (.getfield 14, 3) := by decide +kernel
theorem dX0_empty_4 : decode cX0_empty 4 = .ok (.invokevirtual 52, 3) := by decide +kernel
theorem dX0_empty_7 : decode cX0_empty 7 = .ok (.pop, 1) := by decide +kernel
theorem dX0_empty_8 : decode cX0_empty 8 = .ok (.aload_n 0, 1) := by decide +kernel
theorem dX0_empty_9 : decode cX0_empty 9 = .ok (.getfield 20, 3) := by decide +kernel
theorem dX0_empty_12 : decode cX0_empty 12 = .ok (.invokevirtual 52, 3) := by decide +kernel
theorem dX0_empty_15 : decode cX0_empty 15 = .ok (.pop, 1) := by decide +kernel
theorem dX0_empty_16 : decode cX0_empty 16 = .ok (.aload_n 0, 1) := by decide +kernel
theorem dX0_empty_17 : decode cX0_empty 17 = .ok (.getfield 23, 3) := by decide +kernel
theorem dX0_empty_20 : decode cX0_empty 20 = .ok (.invokevirtual 52, 3) := by decide +kernel
theorem dX0_empty_23 : decode cX0_empty 23 = .ok (.pop, 1) := by decide +kernel
theorem dX0_empty_24 : decode cX0_empty 24 = .ok (.aload_n 0, 1) := by decide +kernel
theorem dX0_empty_25 : decode cX0_empty 25 = .ok (.getfield 26, 3) := by decide +kernel
theorem dX0_empty_28 : decode cX0_empty 28 = .ok (.invokevirtual 52, 3) := by decide +kernel
theorem dX0_empty_31 : decode cX0_empty 31 = .ok (.pop, 1) := by decide +kernel
theorem dX0_empty_32 : decode cX0_empty 32 = .ok (.aload_n 0, 1) := by decide +kernel
theorem dX0_empty_33 : decode cX0_empty 33 = .ok (.getfield 29, 3) := by decide +kernel
theorem dX0_empty_36 : decode cX0_empty 36 = .ok (.invokevirtual 52, 3) := by decide +kernel
theorem dX0_empty_39 : decode cX0_empty 39 = .ok (.pop, 1) := by decide +kernel
theorem dX0_empty_40 : decode cX0_empty 40 = .ok (.return_, 1) := by decide +kernel
set_option maxRecDepth 20000 in
theorem ggX0_copy_X1_copy : GoodIn wsX0_copy wsX1_copy := goodIn_r _ [10, 11, 12, 13, 14, 9, 15, 16, 17, 18, 19, 20, 21, 22, 23, 24, 30, 31] (by decide +kernel) (by decide +kernel)
set_option maxRecDepth 20000 in
theorem gX0_copy_X1_copy : GoodIn wsX0_copy (wsV RX0 54 RX1 yX1_copy wsX1_copy) := goodIn_app (goodIn_of _ (by decide +kernel)) ggX0_copy_X1_copy
theorem dX0_copy_0 : decode cX0_copy 0 = .ok (.aload_n 1, 1) := by decide +kernel
theorem dX0_copy_1 : decode cX0_copy 1 = .ok (.ifnonnull 4, 3) := by decide +kernel
theorem dX0_copy_4 : decode cX0_copy 4 = .ok (.return_, 1) := by decide +kernel
theorem dX0_copy_5 : decode cX0_copy 5 = .ok (.aload_n 0, 1) := by decide +kernel
theorem dX0_copy_6 : decode cX0_copy 6 = .ok (.getfield 14, 3) := by decide +kernel
theorem dX0_copy_9 : decode cX0_copy 9 = .ok (.aload_n 1, 1) := by decide +kernel
theorem dX0_copy_10 : decode cX0_copy 10 = .ok (.getfield 14, 3) := by decide +kernel
theorem dX0_copy_13 : decode cX0_copy 13 = .ok (.invokevirtual 54, 3) := by decide +kernel
theorem dX0_copy_16 : decode cX0_copy 16 = .ok (.aload_n 0, 1) := by decide +kernel
theorem dX0_copy_17 : decode cX0_copy 17 = .ok (.getfield 20, 3) := by decide +kernel
theorem dX0_copy_20 : decode cX0_copy 20 = .ok (.aload_n 1, 1) := by decide +kernel
theorem dX0_copy_21 : decode cX0_copy 21 = .ok (.getfield 20, 3) := by decide +kernel
theorem dX0_copy_24 : decode cX0_copy 24 = .ok (.invokevirtual 54, 3) := by decide +kernel
theorem dX0_copy_27 : decode cX0_copy 27 = .ok (.aload_n 0, 1) := by decide +kernel
theorem dX0_copy_28 : decode cX0_copy 28 = .ok (.getfield 23, 3) := by decide +kernel
theorem dX0_copy_31 : decode cX0_copy 31 = .ok (.aload_n 1, 1) := by decide +kernel
theorem dX0_copy_32 : decode cX0_copy 32 = .ok (.getfield 23, 3) := by decide +kernel
theorem dX0_copy_35 : decode cX0_copy 35 = .ok (.invokevirtual 54, 3) := by decide +kernel
theorem dX0_copy_38 : decode cX0_copy 38 = .ok (.aload_n 0, 1) := by decide +kernel
theorem dX0_copy_39 : decode cX0_copy 39 = .ok (.getfield 26, 3) := by decide +kernel
theorem dX0_copy_42 : decode cX0_copy 42 = .ok (.aload_n 1, 1) := by decide +kernel
theorem dX0_copy_43 : decode cX0_copy 43 = .ok (.getfield 26, 3) := by decide +kernel
theorem dX0_copy_46 : decode cX0_copy 46 = .ok (.invokevirtual 54, 3) := by decide +kernel
theorem dX0_copy_49 : decode cX0_copy 49 = .ok (.aload_n 0, 1) := by decide +kernel
theorem dX0_copy_50 : decode cX0_copy 50 = .ok (.getfield 29, 3) := by decide +kernel
theorem dX0_copy_53 : decode cX0_copy 53 = .ok (.aload_n 1, 1) := by decide +kernel
theorem dX0_copy_54 : decode cX0_copy 54 = .ok (.getfield 29, 3) := by decide +kernel
theorem dX0_copy_57 : decode cX0_copy 57 = .ok (.invokevirtual 54, 3) := by decide +kernel
theorem dX0_copy_60 : decode cX0_copy 60 = .ok (.return_, 1) := by decide +kernel
set_option maxRecDepth 20000 in
theorem ggX0_addCrease_X1_add : GoodIn wsX0_addCrease wsX1_add := goodIn_r _ [8, 9, 10, 16, 17] (by decide +kernel) (by decide +kernel)
set_option maxRecDepth 20000 in
theorem gX0_addCrease_X1_add : GoodIn wsX0_addCrease (wsV RX0 58 RX1 yX1_add wsX1_add) := goodIn_app (goodIn_of _ (by decide +kernel)) ggX0_addCrease_X1_add
theorem dX0_addCrease_0 : decode cX0_addCrease 0 = .ok (.aload_n 0, 1) := by decide +kernel
theorem dX0_addCrease_1 : decode cX0_addCrease 1 = .ok (.getfield 14, 3) := by decide +kernel
theorem dX0_addCrease_4 : decode cX0_addCrease 4 = .ok (.lload_n 1, 1) := by decide +kernel
theorem dX0_addCrease_5 : decode cX0_addCrease 5 = .ok (.invokevirtual 58, 3) := by decide +kernel
theorem dX0_addCrease_8 : decode cX0_addCrease 8 = .ok (.aload_n 0, 1) := by decide +kernel
theorem dX0_addCrease_9 : decode cX0_addCrease 9 = .ok (.getfield 20, 3) := by decide +kernel
theorem dX0_addCrease_12 : decode cX0_addCrease 12 = .ok (.lload_n 3, 1) := by decide +kernel
theorem dX0_addCrease_13 : decode cX0_addCrease 13 = .ok (.invokevirtual 58, 3) := by decide +kernel
theorem dX0_addCrease_16 : decode cX0_addCrease 16 = .ok (.aload_n 0, 1) := by decide +kernel
theorem dX0_addCrease_17 : decode cX0_addCrease 17 = .ok (.getfield 23, 3) := by decide +kernel
theorem dX0_addCrease_20 : decode cX0_addCrease 20 = .ok (.lload 5, 2) := by decide +kernel
theorem dX0_addCrease_22 : decode cX0_addCrease 22 = .ok (.invokevirtual 58, 3) := by decide +kernel
theorem dX0_addCrease_25 : decode cX0_addCrease 25 = .ok (.return_, 1) := by decide +kernel
set_option maxRecDepth 20000 in
theorem ggX0_middle_X1_at : GoodIn wsX0_middle wsX1_at := goodIn_r _ [6, 7, 8, 9] (by decide +kernel) (by decide +kernel)
set_option maxRecDepth 20000 in
theorem gX0_middle_X1_at : GoodIn wsX0_middle (wsV RX0 62 RX1 yX1_at wsX1_at) := goodIn_app (goodIn_of _ (by decide +kernel)) ggX0_middle_X1_at
theorem dX0_middle_0 : decode cX0_middle 0 = .ok (.aload_n 0, 1) := by decide +kernel
theorem dX0_middle_1 : decode cX0_middle 1 = .ok (.ifnonnull 7, 3) := by decide +kernel
theorem dX0_middle_4 : decode cX0_middle 4 = .ok (.lconst 0, 1) := by decide +kernel
theorem dX0_middle_5 : decode cX0_middle 5 = .ok (.goto 18, 3) := by decide +kernel
theorem dX0_middle_8 : decode cX0_middle 8 = .ok (.aload_n 0, 1) := by decide +kernel
theorem dX0_middle_9 : decode cX0_middle 9 = .ok (.iload_n 1, 1) := by decide +kernel
theorem dX0_middle_10 : decode cX0_middle 10 = .ok (.invokevirtual 62, 3) := by decide +kernel
theorem dX0_middle_13 : decode cX0_middle 13 = .ok (.aload_n 0, 1) := by decide +kernel
theorem dX0_middle_14 : decode cX0_middle 14 = .ok (.iload_n 2, 1) := by decide +kernel
theorem dX0_middle_15 : decode cX0_middle 15 = .ok (.invokevirtual 62, 3) := by decide +kernel
theorem dX0_middle_18 : decode cX0_middle 18 = .ok (.ladd, 1) := by decide +kernel
theorem dX0_middle_19 : decode cX0_middle 19 = .ok (.ldc2_w 66, 3) := by decide +kernel
theorem dX0_middle_22 : decode cX0_middle 22 = .ok (.ldiv, 1) := by decide +kernel
theorem dX0_middle_23 : decode cX0_middle 23 = .ok (.lreturn, 1) := by decide +kernel
theorem dX1_init_0 : decode cX1_init 0 = .ok (.aload_n 0, 1) := by decide +kernel
theorem dX1_init_1 : decode cX1_init 1 = .ok (.invokespecial 1, 3) := by decide +kernel
theorem dX1_init_4 : decode cX1_init 4 = .ok (.aload_n 0, 1) := by decide +kernel
theorem dX1_init_5 : decode cX1_init 5 = .ok (.iconst 0, 1) := by decide +kernel
theorem dX1_init_6 : decode cX1_init 6 = .ok (.putfield 7, 3) := by decide +kernel
theorem dX1_init_9 : decode cX1_init 9 = .ok (.aload_n 0, 1) := by decide +kernel
theorem dX1_init_10 : decode cX1_init 10 = .ok (.iload_n 1, 1) := by decide +kernel
theorem dX1_init_11 : decode cX1_init 11 = .ok (.iconst 0, 1) := by decide +kernel
theorem dX1_init_12 : decode cX1_init 12 = .ok (.invokestatic 13, 3) := by decide +kernel
theorem dX1_init_15 : decode cX1_init 15 = .ok (.newarray .long, 2) := by decide +kernel
theorem dX1_init_17 : decode cX1_init 17 = .ok (.putfield 19, 3) := by decide +kernel
theorem dX1_init_20 : decode cX1_init 20 = .ok (.return_, 1) := by decide +kernel
theorem dX1_size_0 : decode cX1_size 0 = .ok (.aload_n 0, 1) := by decide +kernel
theorem dX1_size_1 : decode cX1_size 1 = .ok (.getfield 7, 3) := by decide +kernel
theorem dX1_size_4 : decode cX1_size 4 = .ok (.ireturn, 1) := by decide +kernel
theorem dX1_hasRoom_0 : decode cX1_hasRoom 0 = .ok (.aload_n 0, 1) := by decide +kernel
theorem dX1_hasRoom_1 : decode cX1_hasRoom 1 = .ok (.getfield 7, 3) := by decide +kernel
theorem dX1_hasRoom_4 : decode cX1_hasRoom 4 = .ok (.iload_n 1, 1) := by decide +kernel
theorem dX1_hasRoom_5 : decode cX1_hasRoom 5 = .ok (.iadd, 1) := by decide +kernel
theorem dX1_hasRoom_6 : decode cX1_hasRoom 6 = .ok (.aload_n 0, 1) := by decide +kernel
theorem dX1_hasRoom_7 : decode cX1_hasRoom 7 = .ok (.getfield 19, 3) := by decide +kernel
theorem dX1_hasRoom_10 : decode cX1_hasRoom 10 = .ok (.arraylength, 1) := by decide +kernel
theorem dX1_hasRoom_11 : decode cX1_hasRoom 11 = .ok (.if_icmp .gt 7, 3) := by decide +kernel
theorem dX1_hasRoom_14 : decode cX1_hasRoom 14 = .ok (.iconst 1, 1) := by decide +kernel
theorem dX1_hasRoom_15 : decode cX1_hasRoom 15 = .ok (.goto 4, 3) := by decide +kernel
theorem dX1_hasRoom_18 : decode cX1_hasRoom 18 = .ok (.iconst 0, 1) := by decide +kernel
theorem dX1_hasRoom_19 : decode cX1_hasRoom 19 = .ok (.ireturn, 1) := by decide +kernel
theorem dX1_at_0 : decode cX1_at 0 = .ok (.iload_n 1, 1) := by decide +kernel
theorem dX1_at_1 : decode cX1_at 1 = .ok (.ifCond .lt 21, 3) := by decide +kernel
theorem dX1_at_4 : decode cX1_at 4 = .ok (.iload_n 1, 1) := by decide +kernel
theorem dX1_at_5 : decode cX1_at 5 = .ok (.aload_n 0, 1) := by decide +kernel
theorem dX1_at_6 : decode cX1_at 6 = .ok (.getfield 19, 3) := by decide +kernel
theorem dX1_at_9 : decode cX1_at 9 = .ok (.arraylength, 1) := by decide +kernel
theorem dX1_at_10 : decode cX1_at 10 = .ok (.if_icmp .ge 12, 3) := by decide +kernel
theorem dX1_at_13 : decode cX1_at 13 = .ok (.aload_n 0, 1) := by decide +kernel
theorem dX1_at_14 : decode cX1_at 14 = .ok (.getfield 19, 3) := by decide +kernel
theorem dX1_at_17 : decode cX1_at 17 = .ok (.iload_n 1, 1) := by decide +kernel
theorem dX1_at_18 : decode cX1_at 18 = .ok (.laload, 1) := by decide +kernel
theorem dX1_at_19 : decode cX1_at 19 = .ok (.goto 4, 3) := by decide +kernel
theorem dX1_at_22 : decode cX1_at 22 = .ok (.lconst 0, 1) := by decide +kernel
theorem dX1_at_23 : decode cX1_at 23 = .ok (.lreturn, 1) := by decide +kernel
theorem dX1_add_0 : decode cX1_add 0 = .ok (.aload_n 0, 1) := by decide +kernel
theorem dX1_add_1 : decode cX1_add 1 = .ok (.getfield 7, 3) := by decide +kernel
theorem dX1_add_4 : decode cX1_add 4 = .ok (.ifCond .lt 35, 3) := by decide +kernel
theorem dX1_add_7 : decode cX1_add 7 = .ok (.aload_n 0, 1) := by decide +kernel
theorem dX1_add_8 : decode cX1_add 8 = .ok (.getfield 7, 3) := by decide +kernel
theorem dX1_add_11 : decode cX1_add 11 = .ok (.aload_n 0, 1) := by decide +kernel
theorem dX1_add_12 : decode cX1_add 12 = .ok (.getfield 19, 3) := by decide +kernel
theorem dX1_add_15 : decode cX1_add 15 = .ok (.arraylength, 1) := by decide +kernel
theorem dX1_add_16 : decode cX1_add 16 = .ok (.if_icmp .ge 23, 3) := by decide +kernel
theorem dX1_add_19 : decode cX1_add 19 = .ok (.aload_n 0, 1) := by decide +kernel
theorem dX1_add_20 : decode cX1_add 20 = .ok (.getfield 19, 3) := by decide +kernel
theorem dX1_add_23 : decode cX1_add 23 = .ok (.aload_n 0, 1) := by decide +kernel
theorem dX1_add_24 : decode cX1_add 24 = .ok (.getfield 7, 3) := by decide +kernel
theorem dX1_add_27 : decode cX1_add 27 = .ok (.lload_n 1, 1) := by decide +kernel
theorem dX1_add_28 : decode cX1_add 28 = .ok (.lastore, 1) := by decide +kernel
theorem dX1_add_29 : decode cX1_add 29 = .ok (.aload_n 0, 1) := by decide +kernel
theorem dX1_add_30 : decode cX1_add 30 = .ok (.dup, 1) := by decide +kernel
theorem dX1_add_31 : decode cX1_add 31 = .ok (.getfield 7, 3) := by decide +kernel
theorem dX1_add_34 : decode cX1_add 34 = .ok (.iconst 1, 1) := by decide +kernel
theorem dX1_add_35 : decode cX1_add 35 = .ok (.iadd, 1) := by decide +kernel
theorem dX1_add_36 : decode cX1_add 36 = .ok (.putfield 7, 3) := by decide +kernel
theorem dX1_add_39 : decode cX1_add 39 = .ok (.return_, 1) := by decide +kernel
theorem dX1_dropLast_0 : decode cX1_dropLast 0 = .ok (.aload_n 0, 1) := by decide +kernel
theorem dX1_dropLast_1 : decode cX1_dropLast 1 = .ok (.aload_n 0, 1) := by decide +kernel
theorem dX1_dropLast_2 : decode cX1_dropLast 2 = .ok (.getfield 7, 3) := by decide +kernel
theorem dX1_dropLast_5 : decode cX1_dropLast 5 = .ok (.iconst 1, 1) := by decide +kernel
theorem dX1_dropLast_6 : decode cX1_dropLast 6 = .ok (.isub, 1) := by decide +kernel
theorem dX1_dropLast_7 : decode cX1_dropLast 7 = .ok (.iconst 0, 1) := by decide +kernel
theorem dX1_dropLast_8 : decode cX1_dropLast 8 = .ok (.invokestatic 13, 3) := by decide +kernel
theorem dX1_dropLast_11 : decode cX1_dropLast 11 = .ok (.putfield 7, 3) := by decide +kernel
theorem dX1_dropLast_14 : decode cX1_dropLast 14 = .ok (.return_, 1) := by decide +kernel
theorem dX1_empty_0 : decode cX1_empty 0 = .ok (.aload_n 0, 1) := by decide +kernel
theorem dX1_empty_1 : decode cX1_empty 1 = .ok (.getfield 7, 3) := by decide +kernel
theorem dX1_empty_4 : decode cX1_empty 4 = .ok (.istore_n 1, 1) := by decide +kernel
theorem dX1_empty_5 : decode cX1_empty 5 = .ok (.aload_n 0, 1) := by decide +kernel
theorem dX1_empty_6 : decode cX1_empty 6 = .ok (.iconst 0, 1) := by decide +kernel
theorem dX1_empty_7 : decode cX1_empty 7 = .ok (.putfield 7, 3) := by decide +kernel
theorem dX1_empty_10 : decode cX1_empty 10 = .ok (.iload_n 1, 1) := by decide +kernel
theorem dX1_empty_11 : decode cX1_empty 11 = .ok (.ireturn, 1) := by decide +kernel
set_option maxRecDepth 20000 in
theorem ggX1_copy_X1_empty : GoodIn wsX1_copy wsX1_empty := goodIn_r _ [6, 1, 16, 17] (by decide +kernel) (by decide +kernel)
set_option maxRecDepth 20000 in
theorem gX1_copy_X1_empty : GoodIn wsX1_copy (wsV RX1 23 RX1 yX1_empty wsX1_empty) := goodIn_app (goodIn_of _ (by decide +kernel)) ggX1_copy_X1_empty
set_option maxRecDepth 20000 in
theorem ggX1_copy_X1_at : GoodIn wsX1_copy wsX1_at := goodIn_r _ [10, 11, 16, 17] (by decide +kernel) (by decide +kernel)
set_option maxRecDepth 20000 in
theorem gX1_copy_X1_at : GoodIn wsX1_copy (wsV RX1 27 RX1 yX1_at wsX1_at) := goodIn_app (goodIn_of _ (by decide +kernel)) ggX1_copy_X1_at
set_option maxRecDepth 20000 in
theorem ggX1_copy_X1_add : GoodIn wsX1_copy wsX1_add := goodIn_r _ [15, 1, 11, 16, 17] (by decide +kernel) (by decide +kernel)
set_option maxRecDepth 20000 in
theorem gX1_copy_X1_add : GoodIn wsX1_copy (wsV RX1 31 RX1 yX1_add wsX1_add) := goodIn_app (goodIn_of _ (by decide +kernel)) ggX1_copy_X1_add
theorem dX1_copy_0 : decode cX1_copy 0 = .ok (.aload_n 1, 1) := by decide +kernel
theorem dX1_copy_1 : decode cX1_copy 1 = .ok (.ifnull 8, 3) := by decide +kernel
theorem dX1_copy_4 : decode cX1_copy 4 = .ok (.aload_n 1, 1) := by decide +kernel
theorem dX1_copy_5 : decode cX1_copy 5 = .ok (.aload_n 0, 1) := by decide +kernel
theorem dX1_copy_6 : decode cX1_copy 6 = .ok (.if_acmp .ne 4, 3) := by decide +kernel
theorem dX1_copy_9 : decode cX1_copy 9 = .ok (.return_, 1) := by decide +kernel
theorem dX1_copy_10 : decode cX1_copy 10 = .ok (.aload_n 0, 1) := by decide +kernel
theorem dX1_copy_11 : decode cX1_copy 11 = .ok (.invokevirtual 23, 3) := by decide +kernel
theorem dX1_copy_14 : decode cX1_copy 14 = .ok (.pop, 1) := by decide +kernel
theorem dX1_copy_15 : decode cX1_copy 15 = .ok (.iconst 0, 1) := by decide +kernel
theorem dX1_copy_16 : decode cX1_copy 16 = .ok (.istore_n 2, 1) := by decide +kernel
theorem dX1_copy_17 : decode cX1_copy 17 = .ok (.iload_n 2, 1) := by decide +kernel
theorem dX1_copy_18 : decode cX1_copy 18 = .ok (.aload_n 1, 1) := by decide +kernel
theorem dX1_copy_19 : decode cX1_copy 19 = .ok (.getfield 7, 3) := by decide +kernel
theorem dX1_copy_22 : decode cX1_copy 22 = .ok (.if_icmp .ge 18, 3) := by decide +kernel
theorem dX1_copy_25 : decode cX1_copy 25 = .ok (.aload_n 0, 1) := by decide +kernel
theorem dX1_copy_26 : decode cX1_copy 26 = .ok (.aload_n 1, 1) := by decide +kernel
theorem dX1_copy_27 : decode cX1_copy 27 = .ok (.iload_n 2, 1) := by decide +kernel
theorem dX1_copy_28 : decode cX1_copy 28 = .ok (.invokevirtual 27, 3) := by decide +kernel
theorem dX1_copy_31 : decode cX1_copy 31 = .ok (.invokevirtual 31, 3) := by decide +kernel
theorem dX1_copy_34 : decode cX1_copy 34 = .ok (.iinc 2 1, 3) := by decide +kernel
theorem dX1_copy_37 : decode cX1_copy 37 = .ok (.goto (-20), 3) := by decide +kernel
theorem dX1_copy_40 : decode cX1_copy 40 = .ok (.return_, 1) := by decide +kernel
set_option maxRecDepth 20000 in
theorem ggX2_init_X1_init : GoodIn wsX2_init wsX1_init := goodIn_r _ [12, 13, 2, 3, 14, 15, 16, 17, 18, 19, 20, 21, 22] (by decide +kernel) (by decide +kernel)
set_option maxRecDepth 20000 in
theorem gX2_init_X1_init : GoodIn wsX2_init (wsX1_init) := ggX2_init_X1_init
theorem dX2_init_0 : decode cX2_init 0 = .ok (.aload_n 0, 1) := by decide +kernel
theorem dX2_init_1 : decode cX2_init 1 = .ok (.invokespecial 3, 3) := by decide +kernel
theorem dX2_init_4 : decode cX2_init 4 = .ok (.aload_n 0, 1) := by decide +kernel
theorem dX2_init_5 : decode cX2_init 5 = .ok (.new 9, 3) := by decide +kernel
theorem dX2_init_8 : decode cX2_init 8 = .ok (.dup, 1) := by decide +kernel
theorem dX2_init_9 : decode cX2_init 9 = .ok (.sipush 200, 3) := by decide +kernel
theorem dX2_init_12 : decode cX2_init 12 = .ok (.invokespecial 11, 3) := by decide +kernel
theorem dX2_init_15 : decode cX2_init 15 = .ok (.putfield 14, 3) := by decide +kernel
theorem dX2_init_18 : decode cX2_init 18 = .ok (.aload_n 0, 1) := by decide +kernel
theorem dX2_init_19 : decode cX2_init 19 = .ok (.new 9, 3) := by decide +kernel
theorem dX2_init_22 : decode cX2_init 22 = .ok (.dup, 1) := by decide +kernel
theorem dX2_init_23 : decode cX2_init 23 = .ok (.bipush 20, 2) := by decide +kernel
theorem dX2_init_25 : decode cX2_init 25 = .ok (.invokespecial 11, 3) := by decide +kernel
theorem dX2_init_28 : decode cX2_init 28 = .ok (.putfield 20, 3) := by decide +kernel
theorem dX2_init_31 : decode cX2_init 31 = .ok (.aload_n 0, 1) := by decide +kernel
theorem dX2_init_32 : decode cX2_init 32 = .ok (.new 9, 3) := by decide +kernel
theorem dX2_init_35 : decode cX2_init 35 = .ok (.dup, 1) := by decide +kernel
theorem dX2_init_36 : decode cX2_init 36 = .ok (.bipush 20, 2) := by decide +kernel
theorem dX2_init_38 : decode cX2_init 38 = .ok (.invokespecial 11, 3) := by decide +kernel
theorem dX2_init_41 : decode cX2_init 41 = .ok (.putfield 23, 3) := by decide +kernel
theorem dX2_init_44 : decode cX2_init 44 = .ok (.return_, 1) := by decide +kernel
set_option maxRecDepth 20000 in
theorem ggX2_read_X2_begin : GoodIn wsX2_read wsX2_begin := goodIn_r _ [8, 9, 10, 11, 12, 13, 14, 15, 16, 2, 17, 18, 19, 20, 21, 22, 23, 163, 164, 165, 166, 167, 168, 169, 170, 171, 172, 173, 174, 175, 176, 177, 178, 179] (by decide +kernel) (by decide +kernel)
set_option maxRecDepth 20000 in
theorem gX2_read_X2_begin : GoodIn wsX2_read (wsV RX2 26 RX2 yX2_begin wsX2_begin) := goodIn_app (goodIn_of _ (by decide +kernel)) ggX2_read_X2_begin
set_option maxRecDepth 20000 in
theorem ggX2_read_X2_step : GoodIn wsX2_read wsX2_step := goodIn_r _ [27, 16, 3, 28, 29, 1, 30, 31, 32, 33, 21, 34, 23, 35, 36, 37, 38, 39, 40, 41, 42, 7, 43, 44, 45, 46, 47, 48, 49, 50, 51, 52, 53, 54, 55, 56, 57, 58, 59, 60, 61, 62, 63, 64, 65, 66, 67, 68, 69, 70, 71, 72, 73, 74, 75, 76, 77, 78, 79, 80, 81, 82, 83, 84, 85, 86, 87, 88, 89, 90, 91, 92, 93, 94, 95, 96, 97, 98, 99, 100, 101, 102, 103, 104, 105, 106, 107, 108, 109, 110, 111, 112, 113, 114, 115, 116, 117, 163, 164, 165, 166, 167, 168, 169, 170, 171, 172, 173, 174, 175, 176, 177, 178, 179] (by decide +kernel) (by decide +kernel)
set_option maxRecDepth 20000 in
theorem gX2_read_X2_step : GoodIn wsX2_read (wsV RX2 29 RX2 yX2_step wsX2_step) := goodIn_app (goodIn_of _ (by decide +kernel)) ggX2_read_X2_step
set_option maxRecDepth 20000 in
theorem ggX2_read_X2_takesToken : GoodIn wsX2_read wsX2_takesToken := goodIn_r _ [121, 2, 1, 122, 123, 124, 7, 125, 126, 17, 127, 128, 129, 130, 13, 131, 132, 133, 21, 134, 23, 39, 135, 136, 137, 138, 139, 140, 141, 142, 113, 9, 10, 11, 12, 143, 144, 145, 146, 147, 148, 149, 150, 14, 31, 32, 33, 34, 151, 152, 153, 154, 155, 156, 157, 158, 35, 36, 37, 38, 159, 160, 161, 162, 15, 163, 164, 165, 166, 167, 168, 169, 170, 171, 172, 173, 174, 175, 176, 177, 178, 179] (by decide +kernel) (by decide +kernel)
set_option maxRecDepth 20000 in
theorem gX2_read_X2_takesToken : GoodIn wsX2_read (wsV RX2 39 RX2 yX2_takesToken wsX2_takesToken) := goodIn_app (goodIn_of _ (by decide +kernel)) ggX2_read_X2_takesToken
theorem dX2_read_0 : decode cX2_read 0 = .ok (.aload_n 0, 1) := by decide +kernel
theorem dX2_read_1 : decode cX2_read 1 = .ok (.invokevirtual 26, 3) := by decide +kernel
theorem dX2_read_4 : decode cX2_read 4 = .ok (.iconst 0, 1) := by decide +kernel
theorem dX2_read_5 : decode cX2_read 5 = .ok (.istore_n 1, 1) := by decide +kernel
theorem dX2_read_6 : decode cX2_read 6 = .ok (.iload_n 1, 1) := by decide +kernel
theorem dX2_read_7 : decode cX2_read 7 = .ok (.sipush 200, 3) := by decide +kernel
theorem dX2_read_10 : decode cX2_read 10 = .ok (.if_icmp .gt 44, 3) := by decide +kernel
theorem dX2_read_13 : decode cX2_read 13 = .ok (.aload_n 0, 1) := by decide +kernel
theorem dX2_read_14 : decode cX2_read 14 = .ok (.invokevirtual 29, 3) := by decide +kernel
theorem dX2_read_17 : decode cX2_read 17 = .ok (.aload_n 0, 1) := by decide +kernel
theorem dX2_read_18 : decode cX2_read 18 = .ok (.getfield 32, 3) := by decide +kernel
theorem dX2_read_21 : decode cX2_read 21 = .ok (.bipush 7, 2) := by decide +kernel
theorem dX2_read_23 : decode cX2_read 23 = .ok (.if_icmp .ne 13, 3) := by decide +kernel
theorem dX2_read_26 : decode cX2_read 26 = .ok (.aload_n 0, 1) := by decide +kernel
theorem dX2_read_27 : decode cX2_read 27 = .ok (.getfield 36, 3) := by decide +kernel
theorem dX2_read_30 : decode cX2_read 30 = .ok (.ifCond .ne 6, 3) := by decide +kernel
theorem dX2_read_33 : decode cX2_read 33 = .ok (.bipush (-9), 2) := by decide +kernel
theorem dX2_read_35 : decode cX2_read 35 = .ok (.ireturn, 1) := by decide +kernel
theorem dX2_read_36 : decode cX2_read 36 = .ok (.aload_n 0, 1) := by decide +kernel
theorem dX2_read_37 : decode cX2_read 37 = .ok (.invokevirtual 39, 3) := by decide +kernel
theorem dX2_read_40 : decode cX2_read 40 = .ok (.ifCond .ne 8, 3) := by decide +kernel
theorem dX2_read_43 : decode cX2_read 43 = .ok (.aload_n 0, 1) := by decide +kernel
theorem dX2_read_44 : decode cX2_read 44 = .ok (.getfield 43, 3) := by decide +kernel
theorem dX2_read_47 : decode cX2_read 47 = .ok (.ireturn, 1) := by decide +kernel
theorem dX2_read_48 : decode cX2_read 48 = .ok (.iinc 1 1, 3) := by decide +kernel
theorem dX2_read_51 : decode cX2_read 51 = .ok (.goto (-45), 3) := by decide +kernel
theorem dX2_read_54 : decode cX2_read 54 = .ok (.aload_n 0, 1) := by decide +kernel
theorem dX2_read_55 : decode cX2_read 55 = .ok (.getfield 43, 3) := by decide +kernel
theorem dX2_read_58 : decode cX2_read 58 = .ok (.ireturn, 1) := by decide +kernel
set_option maxRecDepth 20000 in
theorem ggX2_begin_X1_empty : GoodIn wsX2_begin wsX1_empty := goodIn_r _ [15, 16, 32, 33] (by decide +kernel) (by decide +kernel)
set_option maxRecDepth 20000 in
theorem gX2_begin_X1_empty : GoodIn wsX2_begin (wsV RX2 58 RX1 yX1_empty wsX1_empty) := goodIn_app (goodIn_of _ (by decide +kernel)) ggX2_begin_X1_empty
theorem dX2_begin_0 : decode cX2_begin 0 = .ok (.aload_n 0, 1) := by decide +kernel
theorem dX2_begin_1 : decode cX2_begin 1 = .ok (.iconst 5, 1) := by decide +kernel
theorem dX2_begin_2 : decode cX2_begin 2 = .ok (.putfield 46, 3) := by decide +kernel
theorem dX2_begin_5 : decode cX2_begin 5 = .ok (.aload_n 0, 1) := by decide +kernel
theorem dX2_begin_6 : decode cX2_begin 6 = .ok (.iconst 1, 1) := by decide +kernel
theorem dX2_begin_7 : decode cX2_begin 7 = .ok (.putfield 49, 3) := by decide +kernel
theorem dX2_begin_10 : decode cX2_begin 10 = .ok (.aload_n 0, 1) := by decide +kernel
theorem dX2_begin_11 : decode cX2_begin 11 = .ok (.iconst 0, 1) := by decide +kernel
theorem dX2_begin_12 : decode cX2_begin 12 = .ok (.putfield 52, 3) := by decide +kernel
theorem dX2_begin_15 : decode cX2_begin 15 = .ok (.aload_n 0, 1) := by decide +kernel
theorem dX2_begin_16 : decode cX2_begin 16 = .ok (.iconst 0, 1) := by decide +kernel
theorem dX2_begin_17 : decode cX2_begin 17 = .ok (.putfield 55, 3) := by decide +kernel
theorem dX2_begin_20 : decode cX2_begin 20 = .ok (.aload_n 0, 1) := by decide +kernel
theorem dX2_begin_21 : decode cX2_begin 21 = .ok (.getfield 20, 3) := by decide +kernel
theorem dX2_begin_24 : decode cX2_begin 24 = .ok (.invokevirtual 58, 3) := by decide +kernel
theorem dX2_begin_27 : decode cX2_begin 27 = .ok (.pop, 1) := by decide +kernel
theorem dX2_begin_28 : decode cX2_begin 28 = .ok (.aload_n 0, 1) := by decide +kernel
theorem dX2_begin_29 : decode cX2_begin 29 = .ok (.getfield 23, 3) := by decide +kernel
theorem dX2_begin_32 : decode cX2_begin 32 = .ok (.invokevirtual 58, 3) := by decide +kernel
theorem dX2_begin_35 : decode cX2_begin 35 = .ok (.pop, 1) := by decide +kernel
theorem dX2_begin_36 : decode cX2_begin 36 = .ok (.aload_n 0, 1) := by decide +kernel
theorem dX2_begin_37 : decode cX2_begin 37 = .ok (.iconst 0, 1) := by decide +kernel
theorem dX2_begin_38 : decode cX2_begin 38 = .ok (.putfield 62, 3) := by decide +kernel
theorem dX2_begin_41 : decode cX2_begin 41 = .ok (.aload_n 0, 1) := by decide +kernel
theorem dX2_begin_42 : decode cX2_begin 42 = .ok (.iconst 0, 1) := by decide +kernel
theorem dX2_begin_43 : decode cX2_begin 43 = .ok (.putfield 65, 3) := by decide +kernel
theorem dX2_begin_46 : decode cX2_begin 46 = .ok (.aload_n 0, 1) := by decide +kernel
theorem dX2_begin_47 : decode cX2_begin 47 = .ok (.iconst 0, 1) := by decide +kernel
theorem dX2_begin_48 : decode cX2_begin 48 = .ok (.putfield 36, 3) := by decide +kernel
theorem dX2_begin_51 : decode cX2_begin 51 = .ok (.aload_n 0, 1) := by decide +kernel
theorem dX2_begin_52 : decode cX2_begin 52 = .ok (.iconst 0, 1) := by decide +kernel
theorem dX2_begin_53 : decode cX2_begin 53 = .ok (.putfield 68, 3) := by decide +kernel
theorem dX2_begin_56 : decode cX2_begin 56 = .ok (.return_, 1) := by decide +kernel
set_option maxRecDepth 20000 in
theorem ggX2_step_X1_size : GoodIn wsX2_step wsX1_size := goodIn_r _ [11, 12, 112, 113] (by decide +kernel) (by decide +kernel)
set_option maxRecDepth 20000 in
theorem gX2_step_X1_size : GoodIn wsX2_step (wsV RX2 71 RX1 yX1_size wsX1_size) := goodIn_app (goodIn_of _ (by decide +kernel)) ggX2_step_X1_size
set_option maxRecDepth 20000 in
theorem ggX2_step_X1_at : GoodIn wsX2_step wsX1_at := goodIn_r _ [16, 17, 112, 113] (by decide +kernel) (by decide +kernel)
set_option maxRecDepth 20000 in
theorem gX2_step_X1_at : GoodIn wsX2_step (wsV RX2 74 RX1 yX1_at wsX1_at) := goodIn_app (goodIn_of _ (by decide +kernel)) ggX2_step_X1_at
set_option maxRecDepth 20000 in
theorem ggX2_step_X2_isLetter : GoodIn wsX2_step wsX2_isLetter := goodIn_r _ [22, 3, 23, 24, 7, 8, 9, 10, 11, 12, 13, 14, 15, 16, 17, 97, 98, 99, 100, 101, 102, 103, 104, 105, 106, 107, 108, 109, 110, 111, 112, 113] (by decide +kernel) (by decide +kernel)
set_option maxRecDepth 20000 in
theorem gX2_step_X2_isLetter : GoodIn wsX2_step (wsV RX2 82 RX2 yX2_isLetter wsX2_isLetter) := goodIn_app (goodIn_of _ (by decide +kernel)) ggX2_step_X2_isLetter
set_option maxRecDepth 20000 in
theorem ggX2_step_X2_wordHere : GoodIn wsX2_step wsX2_wordHere := goodIn_r _ [28, 1, 3, 7, 8, 9, 10, 11, 12, 18, 19, 20, 21, 22, 23, 24, 13, 14, 15, 16, 17, 29, 30, 31, 32, 2, 33, 34, 35, 36, 37, 38, 39, 40, 41, 42, 43, 44, 45, 46, 47, 48, 49, 50, 51, 52, 53, 54, 55, 56, 57, 58, 59, 60, 61, 62, 63, 64, 65, 66, 67, 68, 69, 70, 71, 72, 73, 74, 75, 76, 77, 78, 79, 80, 81, 97, 98, 99, 100, 101, 102, 103, 104, 105, 106, 107, 108, 109, 110, 111, 112, 113] (by decide +kernel) (by decide +kernel)
set_option maxRecDepth 20000 in
theorem gX2_step_X2_wordHere : GoodIn wsX2_step (wsV RX2 86 RX2 yX2_wordHere wsX2_wordHere) := goodIn_app (goodIn_of _ (by decide +kernel)) ggX2_step_X2_wordHere
set_option maxRecDepth 20000 in
theorem ggX2_step_X2_isDigit : GoodIn wsX2_step wsX2_isDigit := goodIn_r _ [85, 3, 86, 87, 7, 8, 9, 10, 11, 12, 13, 14, 15, 16, 17, 97, 98, 99, 100, 101, 102, 103, 104, 105, 106, 107, 108, 109, 110, 111, 112, 113] (by decide +kernel) (by decide +kernel)
set_option maxRecDepth 20000 in
theorem gX2_step_X2_isDigit : GoodIn wsX2_step (wsV RX2 89 RX2 yX2_isDigit wsX2_isDigit) := goodIn_app (goodIn_of _ (by decide +kernel)) ggX2_step_X2_isDigit
set_option maxRecDepth 20000 in
theorem ggX2_step_X2_numberHere : GoodIn wsX2_step wsX2_numberHere := goodIn_r _ [91, 3, 2, 92, 1, 93, 94, 95, 96, 86, 13, 14, 15, 10, 16, 17, 7, 8, 9, 11, 12, 82, 83, 84, 21, 85, 87, 97, 98, 99, 100, 101, 102, 103, 104, 105, 106, 107, 108, 109, 110, 111, 112, 113] (by decide +kernel) (by decide +kernel)
set_option maxRecDepth 20000 in
theorem gX2_step_X2_numberHere : GoodIn wsX2_step (wsV RX2 92 RX2 yX2_numberHere wsX2_numberHere) := goodIn_app (goodIn_of _ (by decide +kernel)) ggX2_step_X2_numberHere
theorem dX2_step_0 : decode cX2_step 0 = .ok (.aload_n 0, 1) := by decide +kernel
theorem dX2_step_1 : decode cX2_step 1 = .ok (.aload_n 0, 1) := by decide +kernel
theorem dX2_step_2 : decode cX2_step 2 = .ok (.getfield 65, 3) := by decide +kernel
theorem dX2_step_5 : decode cX2_step 5 = .ok (.putfield 43, 3) := by decide +kernel
theorem dX2_step_8 : decode cX2_step 8 = .ok (.aload_n 0, 1) := by decide +kernel
theorem dX2_step_9 : decode cX2_step 9 = .ok (.getfield 43, 3) := by decide +kernel
theorem dX2_step_12 : decode cX2_step 12 = .ok (.aload_n 0, 1) := by decide +kernel
theorem dX2_step_13 : decode cX2_step 13 = .ok (.getfield 14, 3) := by decide +kernel
theorem dX2_step_16 : decode cX2_step 16 = .ok (.invokevirtual 71, 3) := by decide +kernel
theorem dX2_step_19 : decode cX2_step 19 = .ok (.if_icmp .ge 34, 3) := by decide +kernel
theorem dX2_step_22 : decode cX2_step 22 = .ok (.aload_n 0, 1) := by decide +kernel
theorem dX2_step_23 : decode cX2_step 23 = .ok (.getfield 14, 3) := by decide +kernel
theorem dX2_step_26 : decode cX2_step 26 = .ok (.aload_n 0, 1) := by decide +kernel
theorem dX2_step_27 : decode cX2_step 27 = .ok (.getfield 43, 3) := by decide +kernel
theorem dX2_step_30 : decode cX2_step 30 = .ok (.invokevirtual 74, 3) := by decide +kernel
theorem dX2_step_33 : decode cX2_step 33 = .ok (.ldc2_w 78, 3) := by decide +kernel
theorem dX2_step_36 : decode cX2_step 36 = .ok (.lcmp, 1) := by decide +kernel
theorem dX2_step_37 : decode cX2_step 37 = .ok (.ifCond .ne 16, 3) := by decide +kernel
theorem dX2_step_40 : decode cX2_step 40 = .ok (.aload_n 0, 1) := by decide +kernel
theorem dX2_step_41 : decode cX2_step 41 = .ok (.dup, 1) := by decide +kernel
theorem dX2_step_42 : decode cX2_step 42 = .ok (.getfield 43, 3) := by decide +kernel
theorem dX2_step_45 : decode cX2_step 45 = .ok (.iconst 1, 1) := by decide +kernel
theorem dX2_step_46 : decode cX2_step 46 = .ok (.iadd, 1) := by decide +kernel
theorem dX2_step_47 : decode cX2_step 47 = .ok (.putfield 43, 3) := by decide +kernel
theorem dX2_step_50 : decode cX2_step 50 = .ok (.goto (-42), 3) := by decide +kernel
theorem dX2_step_53 : decode cX2_step 53 = .ok (.aload_n 0, 1) := by decide +kernel
theorem dX2_step_54 : decode cX2_step 54 = .ok (.aload_n 0, 1) := by decide +kernel
theorem dX2_step_55 : decode cX2_step 55 = .ok (.getfield 43, 3) := by decide +kernel
theorem dX2_step_58 : decode cX2_step 58 = .ok (.iconst 1, 1) := by decide +kernel
theorem dX2_step_59 : decode cX2_step 59 = .ok (.iadd, 1) := by decide +kernel
theorem dX2_step_60 : decode cX2_step 60 = .ok (.putfield 65, 3) := by decide +kernel
theorem dX2_step_63 : decode cX2_step 63 = .ok (.aload_n 0, 1) := by decide +kernel
theorem dX2_step_64 : decode cX2_step 64 = .ok (.getfield 43, 3) := by decide +kernel
theorem dX2_step_67 : decode cX2_step 67 = .ok (.aload_n 0, 1) := by decide +kernel
theorem dX2_step_68 : decode cX2_step 68 = .ok (.getfield 14, 3) := by decide +kernel
theorem dX2_step_71 : decode cX2_step 71 = .ok (.invokevirtual 71, 3) := by decide +kernel
theorem dX2_step_74 : decode cX2_step 74 = .ok (.if_icmp .lt 12, 3) := by decide +kernel
theorem dX2_step_77 : decode cX2_step 77 = .ok (.aload_n 0, 1) := by decide +kernel
theorem dX2_step_78 : decode cX2_step 78 = .ok (.bipush 7, 2) := by decide +kernel
theorem dX2_step_80 : decode cX2_step 80 = .ok (.putfield 32, 3) := by decide +kernel
theorem dX2_step_83 : decode cX2_step 83 = .ok (.goto 80, 3) := by decide +kernel
theorem dX2_step_86 : decode cX2_step 86 = .ok (.aload_n 0, 1) := by decide +kernel
theorem dX2_step_87 : decode cX2_step 87 = .ok (.getfield 14, 3) := by decide +kernel
theorem dX2_step_90 : decode cX2_step 90 = .ok (.aload_n 0, 1) := by decide +kernel
theorem dX2_step_91 : decode cX2_step 91 = .ok (.getfield 43, 3) := by decide +kernel
theorem dX2_step_94 : decode cX2_step 94 = .ok (.invokevirtual 74, 3) := by decide +kernel
theorem dX2_step_97 : decode cX2_step 97 = .ok (.ldc2_w 80, 3) := by decide +kernel
theorem dX2_step_100 : decode cX2_step 100 = .ok (.lcmp, 1) := by decide +kernel
theorem dX2_step_101 : decode cX2_step 101 = .ok (.ifCond .ne 12, 3) := by decide +kernel
theorem dX2_step_104 : decode cX2_step 104 = .ok (.aload_n 0, 1) := by decide +kernel
theorem dX2_step_105 : decode cX2_step 105 = .ok (.bipush 6, 2) := by decide +kernel
theorem dX2_step_107 : decode cX2_step 107 = .ok (.putfield 32, 3) := by decide +kernel
theorem dX2_step_110 : decode cX2_step 110 = .ok (.goto 53, 3) := by decide +kernel
theorem dX2_step_113 : decode cX2_step 113 = .ok (.aload_n 0, 1) := by decide +kernel
theorem dX2_step_114 : decode cX2_step 114 = .ok (.aload_n 0, 1) := by decide +kernel
theorem dX2_step_115 : decode cX2_step 115 = .ok (.getfield 43, 3) := by decide +kernel
theorem dX2_step_118 : decode cX2_step 118 = .ok (.invokevirtual 82, 3) := by decide +kernel
theorem dX2_step_121 : decode cX2_step 121 = .ok (.ifCond .eq 14, 3) := by decide +kernel
theorem dX2_step_124 : decode cX2_step 124 = .ok (.aload_n 0, 1) := by decide +kernel
theorem dX2_step_125 : decode cX2_step 125 = .ok (.aload_n 0, 1) := by decide +kernel
theorem dX2_step_126 : decode cX2_step 126 = .ok (.invokevirtual 86, 3) := by decide +kernel
theorem dX2_step_129 : decode cX2_step 129 = .ok (.putfield 32, 3) := by decide +kernel
theorem dX2_step_132 : decode cX2_step 132 = .ok (.goto 31, 3) := by decide +kernel
theorem dX2_step_135 : decode cX2_step 135 = .ok (.aload_n 0, 1) := by decide +kernel
theorem dX2_step_136 : decode cX2_step 136 = .ok (.aload_n 0, 1) := by decide +kernel
theorem dX2_step_137 : decode cX2_step 137 = .ok (.getfield 43, 3) := by decide +kernel
theorem dX2_step_140 : decode cX2_step 140 = .ok (.invokevirtual 89, 3) := by decide +kernel
theorem dX2_step_143 : decode cX2_step 143 = .ok (.ifCond .eq 14, 3) := by decide +kernel
theorem dX2_step_146 : decode cX2_step 146 = .ok (.aload_n 0, 1) := by decide +kernel
theorem dX2_step_147 : decode cX2_step 147 = .ok (.aload_n 0, 1) := by decide +kernel
theorem dX2_step_148 : decode cX2_step 148 = .ok (.invokevirtual 92, 3) := by decide +kernel
theorem dX2_step_151 : decode cX2_step 151 = .ok (.putfield 32, 3) := by decide +kernel
theorem dX2_step_154 : decode cX2_step 154 = .ok (.goto 9, 3) := by decide +kernel
theorem dX2_step_157 : decode cX2_step 157 = .ok (.aload_n 0, 1) := by decide +kernel
theorem dX2_step_158 : decode cX2_step 158 = .ok (.bipush 8, 2) := by decide +kernel
theorem dX2_step_160 : decode cX2_step 160 = .ok (.putfield 32, 3) := by decide +kernel
theorem dX2_step_163 : decode cX2_step 163 = .ok (.return_, 1) := by decide +kernel
set_option maxRecDepth 20000 in
theorem ggX2_wordHere_X1_size : GoodIn wsX2_wordHere wsX1_size := goodIn_r _ [7, 8, 90, 91] (by decide +kernel) (by decide +kernel)
set_option maxRecDepth 20000 in
theorem gX2_wordHere_X1_size : GoodIn wsX2_wordHere (wsV RX2 71 RX1 yX1_size wsX1_size) := goodIn_app (goodIn_of _ (by decide +kernel)) ggX2_wordHere_X1_size
set_option maxRecDepth 20000 in
theorem ggX2_wordHere_X2_isLetter : GoodIn wsX2_wordHere wsX2_isLetter := goodIn_r _ [13, 2, 14, 15, 3, 4, 5, 6, 7, 8, 16, 17, 18, 19, 20, 75, 76, 77, 78, 79, 80, 81, 82, 83, 84, 85, 86, 87, 88, 89, 90, 91] (by decide +kernel) (by decide +kernel)
set_option maxRecDepth 20000 in
theorem gX2_wordHere_X2_isLetter : GoodIn wsX2_wordHere (wsV RX2 82 RX2 yX2_isLetter wsX2_isLetter) := goodIn_app (goodIn_of _ (by decide +kernel)) ggX2_wordHere_X2_isLetter
set_option maxRecDepth 20000 in
theorem ggX2_wordHere_X2_isHere : GoodIn wsX2_wordHere wsX2_isHere := goodIn_r _ [24, 1, 25, 2, 26, 27, 28, 29, 30, 31, 32, 33, 34, 35, 36, 37, 38, 39, 40, 41, 42, 43, 44, 45, 46, 47, 48, 49, 50, 51, 52, 53, 54, 55, 56, 57, 58, 59, 60, 61, 62, 63, 64, 65, 66, 67, 68, 69, 70, 71, 72, 73, 74, 16, 17, 18, 6, 19, 20, 75, 76, 77, 78, 79, 80, 81, 82, 83, 84, 85, 86, 87, 88, 89, 90, 91] (by decide +kernel) (by decide +kernel)
set_option maxRecDepth 20000 in
theorem gX2_wordHere_X2_isHere : GoodIn wsX2_wordHere (wsV RX2 97 RX2 yX2_isHere wsX2_isHere) := goodIn_app (goodIn_of _ (by decide +kernel)) ggX2_wordHere_X2_isHere
theorem dX2_wordHere_0 : decode cX2_wordHere 0 = .ok (.aload_n 0, 1) := by decide +kernel
theorem dX2_wordHere_1 : decode cX2_wordHere 1 = .ok (.getfield 65, 3) := by decide +kernel
theorem dX2_wordHere_4 : decode cX2_wordHere 4 = .ok (.aload_n 0, 1) := by decide +kernel
theorem dX2_wordHere_5 : decode cX2_wordHere 5 = .ok (.getfield 14, 3) := by decide +kernel
theorem dX2_wordHere_8 : decode cX2_wordHere 8 = .ok (.invokevirtual 71, 3) := by decide +kernel
theorem dX2_wordHere_11 : decode cX2_wordHere 11 = .ok (.if_icmp .ge 27, 3) := by decide +kernel
theorem dX2_wordHere_14 : decode cX2_wordHere 14 = .ok (.aload_n 0, 1) := by decide +kernel
theorem dX2_wordHere_15 : decode cX2_wordHere 15 = .ok (.aload_n 0, 1) := by decide +kernel
theorem dX2_wordHere_16 : decode cX2_wordHere 16 = .ok (.getfield 65, 3) := by decide +kernel
theorem dX2_wordHere_19 : decode cX2_wordHere 19 = .ok (.invokevirtual 82, 3) := by decide +kernel
theorem dX2_wordHere_22 : decode cX2_wordHere 22 = .ok (.ifCond .eq 16, 3) := by decide +kernel
theorem dX2_wordHere_25 : decode cX2_wordHere 25 = .ok (.aload_n 0, 1) := by decide +kernel
theorem dX2_wordHere_26 : decode cX2_wordHere 26 = .ok (.dup, 1) := by decide +kernel
theorem dX2_wordHere_27 : decode cX2_wordHere 27 = .ok (.getfield 65, 3) := by decide +kernel
theorem dX2_wordHere_30 : decode cX2_wordHere 30 = .ok (.iconst 1, 1) := by decide +kernel
theorem dX2_wordHere_31 : decode cX2_wordHere 31 = .ok (.iadd, 1) := by decide +kernel
theorem dX2_wordHere_32 : decode cX2_wordHere 32 = .ok (.putfield 65, 3) := by decide +kernel
theorem dX2_wordHere_35 : decode cX2_wordHere 35 = .ok (.goto (-35), 3) := by decide +kernel
theorem dX2_wordHere_38 : decode cX2_wordHere 38 = .ok (.aload_n 0, 1) := by decide +kernel
theorem dX2_wordHere_39 : decode cX2_wordHere 39 = .ok (.ldc 95, 2) := by decide +kernel
theorem dX2_wordHere_41 : decode cX2_wordHere 41 = .ok (.invokevirtual 97, 3) := by decide +kernel
theorem dX2_wordHere_44 : decode cX2_wordHere 44 = .ok (.ifCond .eq 5, 3) := by decide +kernel
theorem dX2_wordHere_47 : decode cX2_wordHere 47 = .ok (.iconst 0, 1) := by decide +kernel
theorem dX2_wordHere_48 : decode cX2_wordHere 48 = .ok (.ireturn, 1) := by decide +kernel
theorem dX2_wordHere_49 : decode cX2_wordHere 49 = .ok (.aload_n 0, 1) := by decide +kernel
theorem dX2_wordHere_50 : decode cX2_wordHere 50 = .ok (.ldc 101, 2) := by decide +kernel
theorem dX2_wordHere_52 : decode cX2_wordHere 52 = .ok (.invokevirtual 97, 3) := by decide +kernel
theorem dX2_wordHere_55 : decode cX2_wordHere 55 = .ok (.ifCond .eq 5, 3) := by decide +kernel
theorem dX2_wordHere_58 : decode cX2_wordHere 58 = .ok (.iconst 1, 1) := by decide +kernel
theorem dX2_wordHere_59 : decode cX2_wordHere 59 = .ok (.ireturn, 1) := by decide +kernel
theorem dX2_wordHere_60 : decode cX2_wordHere 60 = .ok (.aload_n 0, 1) := by decide +kernel
theorem dX2_wordHere_61 : decode cX2_wordHere 61 = .ok (.ldc 102, 2) := by decide +kernel
theorem dX2_wordHere_63 : decode cX2_wordHere 63 = .ok (.invokevirtual 97, 3) := by decide +kernel
theorem dX2_wordHere_66 : decode cX2_wordHere 66 = .ok (.ifCond .eq 5, 3) := by decide +kernel
theorem dX2_wordHere_69 : decode cX2_wordHere 69 = .ok (.iconst 2, 1) := by decide +kernel
theorem dX2_wordHere_70 : decode cX2_wordHere 70 = .ok (.ireturn, 1) := by decide +kernel
theorem dX2_wordHere_71 : decode cX2_wordHere 71 = .ok (.aload_n 0, 1) := by decide +kernel
theorem dX2_wordHere_72 : decode cX2_wordHere 72 = .ok (.ldc 103, 2) := by decide +kernel
theorem dX2_wordHere_74 : decode cX2_wordHere 74 = .ok (.invokevirtual 97, 3) := by decide +kernel
theorem dX2_wordHere_77 : decode cX2_wordHere 77 = .ok (.ifCond .eq 5, 3) := by decide +kernel
theorem dX2_wordHere_80 : decode cX2_wordHere 80 = .ok (.iconst 3, 1) := by decide +kernel
theorem dX2_wordHere_81 : decode cX2_wordHere 81 = .ok (.ireturn, 1) := by decide +kernel
theorem dX2_wordHere_82 : decode cX2_wordHere 82 = .ok (.aload_n 0, 1) := by decide +kernel
theorem dX2_wordHere_83 : decode cX2_wordHere 83 = .ok (.ldc 104, 2) := by decide +kernel
theorem dX2_wordHere_85 : decode cX2_wordHere 85 = .ok (.invokevirtual 97, 3) := by decide +kernel
theorem dX2_wordHere_88 : decode cX2_wordHere 88 = .ok (.ifCond .eq 7, 3) := by decide +kernel
theorem dX2_wordHere_91 : decode cX2_wordHere 91 = .ok (.iconst 4, 1) := by decide +kernel
theorem dX2_wordHere_92 : decode cX2_wordHere 92 = .ok (.goto 5, 3) := by decide +kernel
theorem dX2_wordHere_95 : decode cX2_wordHere 95 = .ok (.bipush 8, 2) := by decide +kernel
theorem dX2_wordHere_97 : decode cX2_wordHere 97 = .ok (.ireturn, 1) := by decide +kernel
set_option maxRecDepth 20000 in
theorem ggX2_isHere_J0_length_8abf5 : GoodIn wsX2_isHere wsJ0_length_8abf5 := goodIn_r _ [8, 9, 10, 11, 12, 7, 13, 14, 15] (by decide +kernel) (by decide +kernel)
set_option maxRecDepth 20000 in
theorem gX2_isHere_J0_length_8abf5 : GoodIn wsX2_isHere (wsV RX2 106 RJ0 yJ0_length_8abf5 wsJ0_length_8abf5) := goodIn_app (goodIn_of _ (by decide +kernel)) ggX2_isHere_J0_length_8abf5
set_option maxRecDepth 20000 in
theorem ggX2_isHere_J0_charAt_5068e : GoodIn wsX2_isHere wsJ0_charAt_5068e := goodIn_r _ [19, 9, 20, 21, 22, 7, 23, 14, 15, 24, 25, 26, 27, 28, 29, 30, 31, 32, 33, 34, 35, 36, 37, 38, 39, 40, 41, 42, 43, 44, 45, 46, 47, 48, 49, 50, 51, 52] (by decide +kernel) (by decide +kernel)
set_option maxRecDepth 20000 in
theorem gX2_isHere_J0_charAt_5068e : GoodIn wsX2_isHere (wsV RX2 111 RJ0 yJ0_charAt_5068e wsJ0_charAt_5068e) := goodIn_app (goodIn_of _ (by decide +kernel)) ggX2_isHere_J0_charAt_5068e
set_option maxRecDepth 20000 in
theorem ggX2_isHere_X1_at : GoodIn wsX2_isHere wsX1_at := goodIn_r _ [57, 58, 74, 75] (by decide +kernel) (by decide +kernel)
set_option maxRecDepth 20000 in
theorem gX2_isHere_X1_at : GoodIn wsX2_isHere (wsV RX2 74 RX1 yX1_at wsX1_at) := goodIn_app (goodIn_of _ (by decide +kernel)) ggX2_isHere_X1_at
theorem dX2_isHere_0 : decode cX2_isHere 0 = .ok (.aload_n 1, 1) := by decide +kernel
theorem dX2_isHere_1 : decode cX2_isHere 1 = .ok (.ifnull 19, 3) := by decide +kernel
theorem dX2_isHere_4 : decode cX2_isHere 4 = .ok (.aload_n 1, 1) := by decide +kernel
theorem dX2_isHere_5 : decode cX2_isHere 5 = .ok (.invokevirtual 106, 3) := by decide +kernel
theorem dX2_isHere_8 : decode cX2_isHere 8 = .ok (.aload_n 0, 1) := by decide +kernel
theorem dX2_isHere_9 : decode cX2_isHere 9 = .ok (.getfield 65, 3) := by decide +kernel
theorem dX2_isHere_12 : decode cX2_isHere 12 = .ok (.aload_n 0, 1) := by decide +kernel
theorem dX2_isHere_13 : decode cX2_isHere 13 = .ok (.getfield 43, 3) := by decide +kernel
theorem dX2_isHere_16 : decode cX2_isHere 16 = .ok (.isub, 1) := by decide +kernel
theorem dX2_isHere_17 : decode cX2_isHere 17 = .ok (.if_icmp .eq 5, 3) := by decide +kernel
theorem dX2_isHere_20 : decode cX2_isHere 20 = .ok (.iconst 0, 1) := by decide +kernel
theorem dX2_isHere_21 : decode cX2_isHere 21 = .ok (.ireturn, 1) := by decide +kernel
theorem dX2_isHere_22 : decode cX2_isHere 22 = .ok (.iconst 0, 1) := by decide +kernel
theorem dX2_isHere_23 : decode cX2_isHere 23 = .ok (.istore_n 2, 1) := by decide +kernel
theorem dX2_isHere_24 : decode cX2_isHere 24 = .ok (.iload_n 2, 1) := by decide +kernel
theorem dX2_isHere_25 : decode cX2_isHere 25 = .ok (.aload_n 1, 1) := by decide +kernel
theorem dX2_isHere_26 : decode cX2_isHere 26 = .ok (.invokevirtual 106, 3) := by decide +kernel
theorem dX2_isHere_29 : decode cX2_isHere 29 = .ok (.if_icmp .ge 34, 3) := by decide +kernel
theorem dX2_isHere_32 : decode cX2_isHere 32 = .ok (.aload_n 1, 1) := by decide +kernel
theorem dX2_isHere_33 : decode cX2_isHere 33 = .ok (.iload_n 2, 1) := by decide +kernel
theorem dX2_isHere_34 : decode cX2_isHere 34 = .ok (.invokevirtual 111, 3) := by decide +kernel
theorem dX2_isHere_37 : decode cX2_isHere 37 = .ok (.i2l, 1) := by decide +kernel
theorem dX2_isHere_38 : decode cX2_isHere 38 = .ok (.aload_n 0, 1) := by decide +kernel
theorem dX2_isHere_39 : decode cX2_isHere 39 = .ok (.getfield 14, 3) := by decide +kernel
theorem dX2_isHere_42 : decode cX2_isHere 42 = .ok (.aload_n 0, 1) := by decide +kernel
theorem dX2_isHere_43 : decode cX2_isHere 43 = .ok (.getfield 43, 3) := by decide +kernel
theorem dX2_isHere_46 : decode cX2_isHere 46 = .ok (.iload_n 2, 1) := by decide +kernel
theorem dX2_isHere_47 : decode cX2_isHere 47 = .ok (.iadd, 1) := by decide +kernel
theorem dX2_isHere_48 : decode cX2_isHere 48 = .ok (.invokevirtual 74, 3) := by decide +kernel
theorem dX2_isHere_51 : decode cX2_isHere 51 = .ok (.lcmp, 1) := by decide +kernel
theorem dX2_isHere_52 : decode cX2_isHere 52 = .ok (.ifCond .eq 5, 3) := by decide +kernel
theorem dX2_isHere_55 : decode cX2_isHere 55 = .ok (.iconst 0, 1) := by decide +kernel
theorem dX2_isHere_56 : decode cX2_isHere 56 = .ok (.ireturn, 1) := by decide +kernel
theorem dX2_isHere_57 : decode cX2_isHere 57 = .ok (.iinc 2 1, 3) := by decide +kernel
theorem dX2_isHere_60 : decode cX2_isHere 60 = .ok (.goto (-36), 3) := by decide +kernel
theorem dX2_isHere_63 : decode cX2_isHere 63 = .ok (.iconst 1, 1) := by decide +kernel
theorem dX2_isHere_64 : decode cX2_isHere 64 = .ok (.ireturn, 1) := by decide +kernel
set_option maxRecDepth 20000 in
theorem ggX2_numberHere_X1_at : GoodIn wsX2_numberHere wsX1_at := goodIn_r _ [14, 15, 42, 43] (by decide +kernel) (by decide +kernel)
set_option maxRecDepth 20000 in
theorem gX2_numberHere_X1_at : GoodIn wsX2_numberHere (wsV RX2 74 RX1 yX1_at wsX1_at) := goodIn_app (goodIn_of _ (by decide +kernel)) ggX2_numberHere_X1_at
set_option maxRecDepth 20000 in
theorem ggX2_numberHere_X1_size : GoodIn wsX2_numberHere wsX1_size := goodIn_r _ [19, 20, 42, 43] (by decide +kernel) (by decide +kernel)
set_option maxRecDepth 20000 in
theorem gX2_numberHere_X1_size : GoodIn wsX2_numberHere (wsV RX2 71 RX1 yX1_size wsX1_size) := goodIn_app (goodIn_of _ (by decide +kernel)) ggX2_numberHere_X1_size
set_option maxRecDepth 20000 in
theorem ggX2_numberHere_X2_isDigit : GoodIn wsX2_numberHere wsX2_isDigit := goodIn_r _ [25, 1, 9, 26, 16, 17, 18, 13, 19, 20, 10, 11, 12, 14, 15, 27, 28, 29, 30, 31, 32, 33, 34, 35, 36, 37, 38, 39, 40, 41, 42, 43] (by decide +kernel) (by decide +kernel)
set_option maxRecDepth 20000 in
theorem gX2_numberHere_X2_isDigit : GoodIn wsX2_numberHere (wsV RX2 89 RX2 yX2_isDigit wsX2_isDigit) := goodIn_app (goodIn_of _ (by decide +kernel)) ggX2_numberHere_X2_isDigit
theorem dX2_numberHere_0 : decode cX2_numberHere 0 = .ok (.aload_n 0, 1) := by decide +kernel
theorem dX2_numberHere_1 : decode cX2_numberHere 1 = .ok (.aload_n 0, 1) := by decide +kernel
theorem dX2_numberHere_2 : decode cX2_numberHere 2 = .ok (.getfield 14, 3) := by decide +kernel
theorem dX2_numberHere_5 : decode cX2_numberHere 5 = .ok (.aload_n 0, 1) := by decide +kernel
theorem dX2_numberHere_6 : decode cX2_numberHere 6 = .ok (.getfield 43, 3) := by decide +kernel
theorem dX2_numberHere_9 : decode cX2_numberHere 9 = .ok (.invokevirtual 74, 3) := by decide +kernel
theorem dX2_numberHere_12 : decode cX2_numberHere 12 = .ok (.l2i, 1) := by decide +kernel
theorem dX2_numberHere_13 : decode cX2_numberHere 13 = .ok (.bipush 48, 2) := by decide +kernel
theorem dX2_numberHere_15 : decode cX2_numberHere 15 = .ok (.isub, 1) := by decide +kernel
theorem dX2_numberHere_16 : decode cX2_numberHere 16 = .ok (.putfield 115, 3) := by decide +kernel
theorem dX2_numberHere_19 : decode cX2_numberHere 19 = .ok (.aload_n 0, 1) := by decide +kernel
theorem dX2_numberHere_20 : decode cX2_numberHere 20 = .ok (.getfield 65, 3) := by decide +kernel
theorem dX2_numberHere_23 : decode cX2_numberHere 23 = .ok (.aload_n 0, 1) := by decide +kernel
theorem dX2_numberHere_24 : decode cX2_numberHere 24 = .ok (.getfield 14, 3) := by decide +kernel
theorem dX2_numberHere_27 : decode cX2_numberHere 27 = .ok (.invokevirtual 71, 3) := by decide +kernel
theorem dX2_numberHere_30 : decode cX2_numberHere 30 = .ok (.if_icmp .ge 59, 3) := by decide +kernel
theorem dX2_numberHere_33 : decode cX2_numberHere 33 = .ok (.aload_n 0, 1) := by decide +kernel
theorem dX2_numberHere_34 : decode cX2_numberHere 34 = .ok (.aload_n 0, 1) := by decide +kernel
theorem dX2_numberHere_35 : decode cX2_numberHere 35 = .ok (.getfield 65, 3) := by decide +kernel
theorem dX2_numberHere_38 : decode cX2_numberHere 38 = .ok (.invokevirtual 89, 3) := by decide +kernel
theorem dX2_numberHere_41 : decode cX2_numberHere 41 = .ok (.ifCond .eq 48, 3) := by decide +kernel
theorem dX2_numberHere_44 : decode cX2_numberHere 44 = .ok (.aload_n 0, 1) := by decide +kernel
theorem dX2_numberHere_45 : decode cX2_numberHere 45 = .ok (.aload_n 0, 1) := by decide +kernel
theorem dX2_numberHere_46 : decode cX2_numberHere 46 = .ok (.getfield 115, 3) := by decide +kernel
theorem dX2_numberHere_49 : decode cX2_numberHere 49 = .ok (.bipush 10, 2) := by decide +kernel
theorem dX2_numberHere_51 : decode cX2_numberHere 51 = .ok (.imul, 1) := by decide +kernel
theorem dX2_numberHere_52 : decode cX2_numberHere 52 = .ok (.aload_n 0, 1) := by decide +kernel
theorem dX2_numberHere_53 : decode cX2_numberHere 53 = .ok (.getfield 14, 3) := by decide +kernel
theorem dX2_numberHere_56 : decode cX2_numberHere 56 = .ok (.aload_n 0, 1) := by decide +kernel
theorem dX2_numberHere_57 : decode cX2_numberHere 57 = .ok (.getfield 65, 3) := by decide +kernel
theorem dX2_numberHere_60 : decode cX2_numberHere 60 = .ok (.invokevirtual 74, 3) := by decide +kernel
theorem dX2_numberHere_63 : decode cX2_numberHere 63 = .ok (.l2i, 1) := by decide +kernel
theorem dX2_numberHere_64 : decode cX2_numberHere 64 = .ok (.iadd, 1) := by decide +kernel
theorem dX2_numberHere_65 : decode cX2_numberHere 65 = .ok (.bipush 48, 2) := by decide +kernel
theorem dX2_numberHere_67 : decode cX2_numberHere 67 = .ok (.isub, 1) := by decide +kernel
theorem dX2_numberHere_68 : decode cX2_numberHere 68 = .ok (.bipush 100, 2) := by decide +kernel
theorem dX2_numberHere_70 : decode cX2_numberHere 70 = .ok (.invokestatic 118, 3) := by decide +kernel
theorem dX2_numberHere_73 : decode cX2_numberHere 73 = .ok (.putfield 115, 3) := by decide +kernel
theorem dX2_numberHere_76 : decode cX2_numberHere 76 = .ok (.aload_n 0, 1) := by decide +kernel
theorem dX2_numberHere_77 : decode cX2_numberHere 77 = .ok (.dup, 1) := by decide +kernel
theorem dX2_numberHere_78 : decode cX2_numberHere 78 = .ok (.getfield 65, 3) := by decide +kernel
theorem dX2_numberHere_81 : decode cX2_numberHere 81 = .ok (.iconst 1, 1) := by decide +kernel
theorem dX2_numberHere_82 : decode cX2_numberHere 82 = .ok (.iadd, 1) := by decide +kernel
theorem dX2_numberHere_83 : decode cX2_numberHere 83 = .ok (.putfield 65, 3) := by decide +kernel
theorem dX2_numberHere_86 : decode cX2_numberHere 86 = .ok (.goto (-67), 3) := by decide +kernel
theorem dX2_numberHere_89 : decode cX2_numberHere 89 = .ok (.aload_n 0, 1) := by decide +kernel
theorem dX2_numberHere_90 : decode cX2_numberHere 90 = .ok (.getfield 14, 3) := by decide +kernel
theorem dX2_numberHere_93 : decode cX2_numberHere 93 = .ok (.aload_n 0, 1) := by decide +kernel
theorem dX2_numberHere_94 : decode cX2_numberHere 94 = .ok (.getfield 43, 3) := by decide +kernel
theorem dX2_numberHere_97 : decode cX2_numberHere 97 = .ok (.invokevirtual 74, 3) := by decide +kernel
theorem dX2_numberHere_100 : decode cX2_numberHere 100 = .ok (.ldc2_w 124, 3) := by decide +kernel
theorem dX2_numberHere_103 : decode cX2_numberHere 103 = .ok (.lcmp, 1) := by decide +kernel
theorem dX2_numberHere_104 : decode cX2_numberHere 104 = .ok (.ifCond .ne 20, 3) := by decide +kernel
theorem dX2_numberHere_107 : decode cX2_numberHere 107 = .ok (.aload_n 0, 1) := by decide +kernel
theorem dX2_numberHere_108 : decode cX2_numberHere 108 = .ok (.getfield 65, 3) := by decide +kernel
theorem dX2_numberHere_111 : decode cX2_numberHere 111 = .ok (.aload_n 0, 1) := by decide +kernel
theorem dX2_numberHere_112 : decode cX2_numberHere 112 = .ok (.getfield 43, 3) := by decide +kernel
theorem dX2_numberHere_115 : decode cX2_numberHere 115 = .ok (.isub, 1) := by decide +kernel
theorem dX2_numberHere_116 : decode cX2_numberHere 116 = .ok (.iconst 1, 1) := by decide +kernel
theorem dX2_numberHere_117 : decode cX2_numberHere 117 = .ok (.if_icmp .le 7, 3) := by decide +kernel
theorem dX2_numberHere_120 : decode cX2_numberHere 120 = .ok (.iconst 1, 1) := by decide +kernel
theorem dX2_numberHere_121 : decode cX2_numberHere 121 = .ok (.goto 4, 3) := by decide +kernel
theorem dX2_numberHere_124 : decode cX2_numberHere 124 = .ok (.iconst 0, 1) := by decide +kernel
theorem dX2_numberHere_125 : decode cX2_numberHere 125 = .ok (.istore_n 1, 1) := by decide +kernel
theorem dX2_numberHere_126 : decode cX2_numberHere 126 = .ok (.aload_n 0, 1) := by decide +kernel
theorem dX2_numberHere_127 : decode cX2_numberHere 127 = .ok (.getfield 115, 3) := by decide +kernel
theorem dX2_numberHere_130 : decode cX2_numberHere 130 = .ok (.bipush 99, 2) := by decide +kernel
theorem dX2_numberHere_132 : decode cX2_numberHere 132 = .ok (.if_icmp .gt 7, 3) := by decide +kernel
theorem dX2_numberHere_135 : decode cX2_numberHere 135 = .ok (.iload_n 1, 1) := by decide +kernel
theorem dX2_numberHere_136 : decode cX2_numberHere 136 = .ok (.ifCond .eq 8, 3) := by decide +kernel
theorem dX2_numberHere_139 : decode cX2_numberHere 139 = .ok (.bipush 8, 2) := by decide +kernel
theorem dX2_numberHere_141 : decode cX2_numberHere 141 = .ok (.goto 4, 3) := by decide +kernel
theorem dX2_numberHere_144 : decode cX2_numberHere 144 = .ok (.iconst 5, 1) := by decide +kernel
theorem dX2_numberHere_145 : decode cX2_numberHere 145 = .ok (.ireturn, 1) := by decide +kernel
set_option maxRecDepth 20000 in
theorem ggX2_isLetter_X1_size : GoodIn wsX2_isLetter wsX1_size := goodIn_r _ [8, 9, 30, 31] (by decide +kernel) (by decide +kernel)
set_option maxRecDepth 20000 in
theorem gX2_isLetter_X1_size : GoodIn wsX2_isLetter (wsV RX2 71 RX1 yX1_size wsX1_size) := goodIn_app (goodIn_of _ (by decide +kernel)) ggX2_isLetter_X1_size
set_option maxRecDepth 20000 in
theorem ggX2_isLetter_X1_at : GoodIn wsX2_isLetter wsX1_at := goodIn_r _ [13, 14, 30, 31] (by decide +kernel) (by decide +kernel)
set_option maxRecDepth 20000 in
theorem gX2_isLetter_X1_at : GoodIn wsX2_isLetter (wsV RX2 74 RX1 yX1_at wsX1_at) := goodIn_app (goodIn_of _ (by decide +kernel)) ggX2_isLetter_X1_at
theorem dX2_isLetter_0 : decode cX2_isLetter 0 = .ok (.iload_n 1, 1) := by decide +kernel
theorem dX2_isLetter_1 : decode cX2_isLetter 1 = .ok (.aload_n 0, 1) := by decide +kernel
theorem dX2_isLetter_2 : decode cX2_isLetter 2 = .ok (.getfield 14, 3) := by decide +kernel
theorem dX2_isLetter_5 : decode cX2_isLetter 5 = .ok (.invokevirtual 71, 3) := by decide +kernel
theorem dX2_isLetter_8 : decode cX2_isLetter 8 = .ok (.if_icmp .ge 37, 3) := by decide +kernel
theorem dX2_isLetter_11 : decode cX2_isLetter 11 = .ok (.aload_n 0, 1) := by decide +kernel
theorem dX2_isLetter_12 : decode cX2_isLetter 12 = .ok (.getfield 14, 3) := by decide +kernel
theorem dX2_isLetter_15 : decode cX2_isLetter 15 = .ok (.iload_n 1, 1) := by decide +kernel
theorem dX2_isLetter_16 : decode cX2_isLetter 16 = .ok (.invokevirtual 74, 3) := by decide +kernel
theorem dX2_isLetter_19 : decode cX2_isLetter 19 = .ok (.ldc2_w 126, 3) := by decide +kernel
theorem dX2_isLetter_22 : decode cX2_isLetter 22 = .ok (.lcmp, 1) := by decide +kernel
theorem dX2_isLetter_23 : decode cX2_isLetter 23 = .ok (.ifCond .lt 22, 3) := by decide +kernel
theorem dX2_isLetter_26 : decode cX2_isLetter 26 = .ok (.aload_n 0, 1) := by decide +kernel
theorem dX2_isLetter_27 : decode cX2_isLetter 27 = .ok (.getfield 14, 3) := by decide +kernel
theorem dX2_isLetter_30 : decode cX2_isLetter 30 = .ok (.iload_n 1, 1) := by decide +kernel
theorem dX2_isLetter_31 : decode cX2_isLetter 31 = .ok (.invokevirtual 74, 3) := by decide +kernel
theorem dX2_isLetter_34 : decode cX2_isLetter 34 = .ok (.ldc2_w 128, 3) := by decide +kernel
theorem dX2_isLetter_37 : decode cX2_isLetter 37 = .ok (.lcmp, 1) := by decide +kernel
theorem dX2_isLetter_38 : decode cX2_isLetter 38 = .ok (.ifCond .gt 7, 3) := by decide +kernel
theorem dX2_isLetter_41 : decode cX2_isLetter 41 = .ok (.iconst 1, 1) := by decide +kernel
theorem dX2_isLetter_42 : decode cX2_isLetter 42 = .ok (.goto 4, 3) := by decide +kernel
theorem dX2_isLetter_45 : decode cX2_isLetter 45 = .ok (.iconst 0, 1) := by decide +kernel
theorem dX2_isLetter_46 : decode cX2_isLetter 46 = .ok (.ireturn, 1) := by decide +kernel
set_option maxRecDepth 20000 in
theorem ggX2_isDigit_X1_size : GoodIn wsX2_isDigit wsX1_size := goodIn_r _ [8, 9, 30, 31] (by decide +kernel) (by decide +kernel)
set_option maxRecDepth 20000 in
theorem gX2_isDigit_X1_size : GoodIn wsX2_isDigit (wsV RX2 71 RX1 yX1_size wsX1_size) := goodIn_app (goodIn_of _ (by decide +kernel)) ggX2_isDigit_X1_size
set_option maxRecDepth 20000 in
theorem ggX2_isDigit_X1_at : GoodIn wsX2_isDigit wsX1_at := goodIn_r _ [13, 14, 30, 31] (by decide +kernel) (by decide +kernel)
set_option maxRecDepth 20000 in
theorem gX2_isDigit_X1_at : GoodIn wsX2_isDigit (wsV RX2 74 RX1 yX1_at wsX1_at) := goodIn_app (goodIn_of _ (by decide +kernel)) ggX2_isDigit_X1_at
theorem dX2_isDigit_0 : decode cX2_isDigit 0 = .ok (.iload_n 1, 1) := by decide +kernel
theorem dX2_isDigit_1 : decode cX2_isDigit 1 = .ok (.aload_n 0, 1) := by decide +kernel
theorem dX2_isDigit_2 : decode cX2_isDigit 2 = .ok (.getfield 14, 3) := by decide +kernel
theorem dX2_isDigit_5 : decode cX2_isDigit 5 = .ok (.invokevirtual 71, 3) := by decide +kernel
theorem dX2_isDigit_8 : decode cX2_isDigit 8 = .ok (.if_icmp .ge 37, 3) := by decide +kernel
theorem dX2_isDigit_11 : decode cX2_isDigit 11 = .ok (.aload_n 0, 1) := by decide +kernel
theorem dX2_isDigit_12 : decode cX2_isDigit 12 = .ok (.getfield 14, 3) := by decide +kernel
theorem dX2_isDigit_15 : decode cX2_isDigit 15 = .ok (.iload_n 1, 1) := by decide +kernel
theorem dX2_isDigit_16 : decode cX2_isDigit 16 = .ok (.invokevirtual 74, 3) := by decide +kernel
theorem dX2_isDigit_19 : decode cX2_isDigit 19 = .ok (.ldc2_w 124, 3) := by decide +kernel
theorem dX2_isDigit_22 : decode cX2_isDigit 22 = .ok (.lcmp, 1) := by decide +kernel
theorem dX2_isDigit_23 : decode cX2_isDigit 23 = .ok (.ifCond .lt 22, 3) := by decide +kernel
theorem dX2_isDigit_26 : decode cX2_isDigit 26 = .ok (.aload_n 0, 1) := by decide +kernel
theorem dX2_isDigit_27 : decode cX2_isDigit 27 = .ok (.getfield 14, 3) := by decide +kernel
theorem dX2_isDigit_30 : decode cX2_isDigit 30 = .ok (.iload_n 1, 1) := by decide +kernel
theorem dX2_isDigit_31 : decode cX2_isDigit 31 = .ok (.invokevirtual 74, 3) := by decide +kernel
theorem dX2_isDigit_34 : decode cX2_isDigit 34 = .ok (.ldc2_w 130, 3) := by decide +kernel
theorem dX2_isDigit_37 : decode cX2_isDigit 37 = .ok (.lcmp, 1) := by decide +kernel
theorem dX2_isDigit_38 : decode cX2_isDigit 38 = .ok (.ifCond .gt 7, 3) := by decide +kernel
theorem dX2_isDigit_41 : decode cX2_isDigit 41 = .ok (.iconst 1, 1) := by decide +kernel
theorem dX2_isDigit_42 : decode cX2_isDigit 42 = .ok (.goto 4, 3) := by decide +kernel
theorem dX2_isDigit_45 : decode cX2_isDigit 45 = .ok (.iconst 0, 1) := by decide +kernel
theorem dX2_isDigit_46 : decode cX2_isDigit 46 = .ok (.ireturn, 1) := by decide +kernel
set_option maxRecDepth 20000 in
theorem ggX2_takesToken_X2_takesWord : GoodIn wsX2_takesToken wsX2_takesWord := goodIn_r _ [7, 2, 8, 9, 1, 10, 11, 12, 6, 13, 14, 15, 16, 17, 18, 19, 20, 21, 22, 23, 24, 25, 65, 66, 67, 68, 69, 70, 71, 72, 73, 74, 75, 76, 77, 78, 79, 80, 81] (by decide +kernel) (by decide +kernel)
set_option maxRecDepth 20000 in
theorem gX2_takesToken_X2_takesWord : GoodIn wsX2_takesToken (wsV RX2 132 RX2 yX2_takesWord wsX2_takesWord) := goodIn_app (goodIn_of _ (by decide +kernel)) ggX2_takesToken_X2_takesWord
set_option maxRecDepth 20000 in
theorem ggX2_takesToken_X2_takesNumber : GoodIn wsX2_takesToken wsX2_takesNumber := goodIn_r _ [29, 30, 8, 31, 32, 33, 34, 14, 1, 35, 36, 37, 6, 38, 39, 40, 41, 42, 43, 44, 45, 46, 18, 47, 20, 48, 49, 50, 51, 21, 65, 66, 67, 68, 69, 70, 71, 72, 73, 74, 75, 76, 77, 78, 79, 80, 81] (by decide +kernel) (by decide +kernel)
set_option maxRecDepth 20000 in
theorem gX2_takesToken_X2_takesNumber : GoodIn wsX2_takesToken (wsV RX2 135 RX2 yX2_takesNumber wsX2_takesNumber) := goodIn_app (goodIn_of _ (by decide +kernel)) ggX2_takesToken_X2_takesNumber
set_option maxRecDepth 20000 in
theorem ggX2_takesToken_X2_takesSecond : GoodIn wsX2_takesToken wsX2_takesSecond := goodIn_r _ [55, 30, 14, 43, 1, 39, 40, 41, 6, 42, 44, 45, 46, 18, 47, 20, 56, 57, 58, 59, 21, 48, 49, 50, 51, 65, 66, 67, 68, 69, 70, 71, 72, 73, 74, 75, 76, 77, 78, 79, 80, 81] (by decide +kernel) (by decide +kernel)
set_option maxRecDepth 20000 in
theorem gX2_takesToken_X2_takesSecond : GoodIn wsX2_takesToken (wsV RX2 138 RX2 yX2_takesSecond wsX2_takesSecond) := goodIn_app (goodIn_of _ (by decide +kernel)) ggX2_takesToken_X2_takesSecond
set_option maxRecDepth 20000 in
theorem ggX2_takesToken_X2_takesSemicolon : GoodIn wsX2_takesToken wsX2_takesSemicolon := goodIn_r _ [63, 2, 64, 1, 65, 66, 67, 68, 69, 70, 71, 72, 73, 74, 75, 76, 77, 78, 79] (by decide +kernel) (by decide +kernel)
set_option maxRecDepth 20000 in
theorem gX2_takesToken_X2_takesSemicolon : GoodIn wsX2_takesToken (wsV RX2 141 RX2 yX2_takesSemicolon wsX2_takesSemicolon) := goodIn_app (goodIn_of _ (by decide +kernel)) ggX2_takesToken_X2_takesSemicolon
theorem dX2_takesToken_0 : decode cX2_takesToken 0 = .ok (.aload_n 0, 1) := by decide +kernel
theorem dX2_takesToken_1 : decode cX2_takesToken 1 = .ok (.getfield 36, 3) := by decide +kernel
theorem dX2_takesToken_4 : decode cX2_takesToken 4 = .ok (.tableswitch 75 0 2 #[28, 33, 54], 28) := by decide +kernel
theorem dX2_takesToken_32 : decode cX2_takesToken 32 = .ok (.aload_n 0, 1) := by decide +kernel
theorem dX2_takesToken_33 : decode cX2_takesToken 33 = .ok (.invokevirtual 132, 3) := by decide +kernel
theorem dX2_takesToken_36 : decode cX2_takesToken 36 = .ok (.ireturn, 1) := by decide +kernel
theorem dX2_takesToken_37 : decode cX2_takesToken 37 = .ok (.aload_n 0, 1) := by decide +kernel
theorem dX2_takesToken_38 : decode cX2_takesToken 38 = .ok (.getfield 32, 3) := by decide +kernel
theorem dX2_takesToken_41 : decode cX2_takesToken 41 = .ok (.iconst 5, 1) := by decide +kernel
theorem dX2_takesToken_42 : decode cX2_takesToken 42 = .ok (.if_icmp .ne 14, 3) := by decide +kernel
theorem dX2_takesToken_45 : decode cX2_takesToken 45 = .ok (.aload_n 0, 1) := by decide +kernel
theorem dX2_takesToken_46 : decode cX2_takesToken 46 = .ok (.invokevirtual 135, 3) := by decide +kernel
theorem dX2_takesToken_49 : decode cX2_takesToken 49 = .ok (.ifCond .eq 7, 3) := by decide +kernel
theorem dX2_takesToken_52 : decode cX2_takesToken 52 = .ok (.iconst 1, 1) := by decide +kernel
theorem dX2_takesToken_53 : decode cX2_takesToken 53 = .ok (.goto 4, 3) := by decide +kernel
theorem dX2_takesToken_56 : decode cX2_takesToken 56 = .ok (.iconst 0, 1) := by decide +kernel
theorem dX2_takesToken_57 : decode cX2_takesToken 57 = .ok (.ireturn, 1) := by decide +kernel
theorem dX2_takesToken_58 : decode cX2_takesToken 58 = .ok (.aload_n 0, 1) := by decide +kernel
theorem dX2_takesToken_59 : decode cX2_takesToken 59 = .ok (.getfield 32, 3) := by decide +kernel
theorem dX2_takesToken_62 : decode cX2_takesToken 62 = .ok (.iconst 5, 1) := by decide +kernel
theorem dX2_takesToken_63 : decode cX2_takesToken 63 = .ok (.if_icmp .ne 14, 3) := by decide +kernel
theorem dX2_takesToken_66 : decode cX2_takesToken 66 = .ok (.aload_n 0, 1) := by decide +kernel
theorem dX2_takesToken_67 : decode cX2_takesToken 67 = .ok (.invokevirtual 138, 3) := by decide +kernel
theorem dX2_takesToken_70 : decode cX2_takesToken 70 = .ok (.ifCond .eq 7, 3) := by decide +kernel
theorem dX2_takesToken_73 : decode cX2_takesToken 73 = .ok (.iconst 1, 1) := by decide +kernel
theorem dX2_takesToken_74 : decode cX2_takesToken 74 = .ok (.goto 4, 3) := by decide +kernel
theorem dX2_takesToken_77 : decode cX2_takesToken 77 = .ok (.iconst 0, 1) := by decide +kernel
theorem dX2_takesToken_78 : decode cX2_takesToken 78 = .ok (.ireturn, 1) := by decide +kernel
theorem dX2_takesToken_79 : decode cX2_takesToken 79 = .ok (.aload_n 0, 1) := by decide +kernel
theorem dX2_takesToken_80 : decode cX2_takesToken 80 = .ok (.invokevirtual 141, 3) := by decide +kernel
theorem dX2_takesToken_83 : decode cX2_takesToken 83 = .ok (.ireturn, 1) := by decide +kernel
set_option maxRecDepth 20000 in
theorem ggX2_takesWord_X2_mayStand : GoodIn wsX2_takesWord wsX2_mayStand := goodIn_r _ [9, 10, 11, 12, 13, 14, 15, 16, 17, 18, 19, 20, 8, 21, 3, 22, 23, 24, 25, 26, 27, 28, 29, 30, 31, 32, 33, 34, 35, 36, 37, 38] (by decide +kernel) (by decide +kernel)
set_option maxRecDepth 20000 in
theorem gX2_takesWord_X2_mayStand : GoodIn wsX2_takesWord (wsV RX2 144 RX2 yX2_mayStand wsX2_mayStand) := goodIn_app (goodIn_of _ (by decide +kernel)) ggX2_takesWord_X2_mayStand
theorem dX2_takesWord_0 : decode cX2_takesWord 0 = .ok (.aload_n 0, 1) := by decide +kernel
theorem dX2_takesWord_1 : decode cX2_takesWord 1 = .ok (.aload_n 0, 1) := by decide +kernel
theorem dX2_takesWord_2 : decode cX2_takesWord 2 = .ok (.getfield 32, 3) := by decide +kernel
theorem dX2_takesWord_5 : decode cX2_takesWord 5 = .ok (.invokevirtual 144, 3) := by decide +kernel
theorem dX2_takesWord_8 : decode cX2_takesWord 8 = .ok (.ifCond .ne 5, 3) := by decide +kernel
theorem dX2_takesWord_11 : decode cX2_takesWord 11 = .ok (.iconst 0, 1) := by decide +kernel
theorem dX2_takesWord_12 : decode cX2_takesWord 12 = .ok (.ireturn, 1) := by decide +kernel
theorem dX2_takesWord_13 : decode cX2_takesWord 13 = .ok (.aload_n 0, 1) := by decide +kernel
theorem dX2_takesWord_14 : decode cX2_takesWord 14 = .ok (.aload_n 0, 1) := by decide +kernel
theorem dX2_takesWord_15 : decode cX2_takesWord 15 = .ok (.getfield 32, 3) := by decide +kernel
theorem dX2_takesWord_18 : decode cX2_takesWord 18 = .ok (.putfield 147, 3) := by decide +kernel
theorem dX2_takesWord_21 : decode cX2_takesWord 21 = .ok (.aload_n 0, 1) := by decide +kernel
theorem dX2_takesWord_22 : decode cX2_takesWord 22 = .ok (.dup, 1) := by decide +kernel
theorem dX2_takesWord_23 : decode cX2_takesWord 23 = .ok (.getfield 68, 3) := by decide +kernel
theorem dX2_takesWord_26 : decode cX2_takesWord 26 = .ok (.iconst 1, 1) := by decide +kernel
theorem dX2_takesWord_27 : decode cX2_takesWord 27 = .ok (.aload_n 0, 1) := by decide +kernel
theorem dX2_takesWord_28 : decode cX2_takesWord 28 = .ok (.getfield 147, 3) := by decide +kernel
theorem dX2_takesWord_31 : decode cX2_takesWord 31 = .ok (.ishl, 1) := by decide +kernel
theorem dX2_takesWord_32 : decode cX2_takesWord 32 = .ok (.ior, 1) := by decide +kernel
theorem dX2_takesWord_33 : decode cX2_takesWord 33 = .ok (.putfield 68, 3) := by decide +kernel
theorem dX2_takesWord_36 : decode cX2_takesWord 36 = .ok (.aload_n 0, 1) := by decide +kernel
theorem dX2_takesWord_37 : decode cX2_takesWord 37 = .ok (.iconst 1, 1) := by decide +kernel
theorem dX2_takesWord_38 : decode cX2_takesWord 38 = .ok (.putfield 36, 3) := by decide +kernel
theorem dX2_takesWord_41 : decode cX2_takesWord 41 = .ok (.iconst 1, 1) := by decide +kernel
theorem dX2_takesWord_42 : decode cX2_takesWord 42 = .ok (.ireturn, 1) := by decide +kernel
set_option maxRecDepth 20000 in
theorem ggX2_mayStand_X1_hasRoom : GoodIn wsX2_mayStand wsX1_hasRoom := goodIn_r _ [6, 7, 8, 30, 31] (by decide +kernel) (by decide +kernel)
set_option maxRecDepth 20000 in
theorem gX2_mayStand_X1_hasRoom : GoodIn wsX2_mayStand (wsV RX2 150 RX1 yX1_hasRoom wsX1_hasRoom) := goodIn_app (goodIn_of _ (by decide +kernel)) ggX2_mayStand_X1_hasRoom
set_option maxRecDepth 20000 in
theorem ggX2_mayStand_X2_isTold : GoodIn wsX2_mayStand wsX2_isTold := goodIn_r _ [13, 14, 15, 16, 17, 18, 19, 20, 21, 22, 23, 24, 25, 26, 27, 28, 29] (by decide +kernel) (by decide +kernel)
set_option maxRecDepth 20000 in
theorem gX2_mayStand_X2_isTold : GoodIn wsX2_mayStand (wsV RX2 153 RX2 yX2_isTold wsX2_isTold) := goodIn_app (goodIn_of _ (by decide +kernel)) ggX2_mayStand_X2_isTold
theorem dX2_mayStand_0 : decode cX2_mayStand 0 = .ok (.iload_n 1, 1) := by decide +kernel
theorem dX2_mayStand_1 : decode cX2_mayStand 1 = .ok (.tableswitch 96 0 4 #[44, 74, 74, 74, 35], 35) := by decide +kernel
theorem dX2_mayStand_36 : decode cX2_mayStand 36 = .ok (.aload_n 0, 1) := by decide +kernel
theorem dX2_mayStand_37 : decode cX2_mayStand 37 = .ok (.getfield 20, 3) := by decide +kernel
theorem dX2_mayStand_40 : decode cX2_mayStand 40 = .ok (.iconst 1, 1) := by decide +kernel
theorem dX2_mayStand_41 : decode cX2_mayStand 41 = .ok (.invokevirtual 150, 3) := by decide +kernel
theorem dX2_mayStand_44 : decode cX2_mayStand 44 = .ok (.ireturn, 1) := by decide +kernel
theorem dX2_mayStand_45 : decode cX2_mayStand 45 = .ok (.aload_n 0, 1) := by decide +kernel
theorem dX2_mayStand_46 : decode cX2_mayStand 46 = .ok (.iconst 0, 1) := by decide +kernel
theorem dX2_mayStand_47 : decode cX2_mayStand 47 = .ok (.invokevirtual 153, 3) := by decide +kernel
theorem dX2_mayStand_50 : decode cX2_mayStand 50 = .ok (.ifCond .ne 23, 3) := by decide +kernel
theorem dX2_mayStand_53 : decode cX2_mayStand 53 = .ok (.aload_n 0, 1) := by decide +kernel
theorem dX2_mayStand_54 : decode cX2_mayStand 54 = .ok (.iconst 1, 1) := by decide +kernel
theorem dX2_mayStand_55 : decode cX2_mayStand 55 = .ok (.invokevirtual 153, 3) := by decide +kernel
theorem dX2_mayStand_58 : decode cX2_mayStand 58 = .ok (.ifCond .ne 15, 3) := by decide +kernel
theorem dX2_mayStand_61 : decode cX2_mayStand 61 = .ok (.aload_n 0, 1) := by decide +kernel
theorem dX2_mayStand_62 : decode cX2_mayStand 62 = .ok (.iconst 4, 1) := by decide +kernel
theorem dX2_mayStand_63 : decode cX2_mayStand 63 = .ok (.invokevirtual 153, 3) := by decide +kernel
theorem dX2_mayStand_66 : decode cX2_mayStand 66 = .ok (.ifCond .ne 7, 3) := by decide +kernel
theorem dX2_mayStand_69 : decode cX2_mayStand 69 = .ok (.iconst 1, 1) := by decide +kernel
theorem dX2_mayStand_70 : decode cX2_mayStand 70 = .ok (.goto 4, 3) := by decide +kernel
theorem dX2_mayStand_73 : decode cX2_mayStand 73 = .ok (.iconst 0, 1) := by decide +kernel
theorem dX2_mayStand_74 : decode cX2_mayStand 74 = .ok (.ireturn, 1) := by decide +kernel
theorem dX2_mayStand_75 : decode cX2_mayStand 75 = .ok (.aload_n 0, 1) := by decide +kernel
theorem dX2_mayStand_76 : decode cX2_mayStand 76 = .ok (.iload_n 1, 1) := by decide +kernel
theorem dX2_mayStand_77 : decode cX2_mayStand 77 = .ok (.invokevirtual 153, 3) := by decide +kernel
theorem dX2_mayStand_80 : decode cX2_mayStand 80 = .ok (.ifCond .ne 15, 3) := by decide +kernel
theorem dX2_mayStand_83 : decode cX2_mayStand 83 = .ok (.aload_n 0, 1) := by decide +kernel
theorem dX2_mayStand_84 : decode cX2_mayStand 84 = .ok (.iconst 4, 1) := by decide +kernel
theorem dX2_mayStand_85 : decode cX2_mayStand 85 = .ok (.invokevirtual 153, 3) := by decide +kernel
theorem dX2_mayStand_88 : decode cX2_mayStand 88 = .ok (.ifCond .ne 7, 3) := by decide +kernel
theorem dX2_mayStand_91 : decode cX2_mayStand 91 = .ok (.iconst 1, 1) := by decide +kernel
theorem dX2_mayStand_92 : decode cX2_mayStand 92 = .ok (.goto 4, 3) := by decide +kernel
theorem dX2_mayStand_95 : decode cX2_mayStand 95 = .ok (.iconst 0, 1) := by decide +kernel
theorem dX2_mayStand_96 : decode cX2_mayStand 96 = .ok (.ireturn, 1) := by decide +kernel
theorem dX2_mayStand_97 : decode cX2_mayStand 97 = .ok (.iconst 0, 1) := by decide +kernel
theorem dX2_mayStand_98 : decode cX2_mayStand 98 = .ok (.ireturn, 1) := by decide +kernel
theorem dX2_isTold_0 : decode cX2_isTold 0 = .ok (.aload_n 0, 1) := by decide +kernel
theorem dX2_isTold_1 : decode cX2_isTold 1 = .ok (.getfield 68, 3) := by decide +kernel
theorem dX2_isTold_4 : decode cX2_isTold 4 = .ok (.iconst 1, 1) := by decide +kernel
theorem dX2_isTold_5 : decode cX2_isTold 5 = .ok (.iload_n 1, 1) := by decide +kernel
theorem dX2_isTold_6 : decode cX2_isTold 6 = .ok (.ishl, 1) := by decide +kernel
theorem dX2_isTold_7 : decode cX2_isTold 7 = .ok (.iand, 1) := by decide +kernel
theorem dX2_isTold_8 : decode cX2_isTold 8 = .ok (.ifCond .eq 7, 3) := by decide +kernel
theorem dX2_isTold_11 : decode cX2_isTold 11 = .ok (.iconst 1, 1) := by decide +kernel
theorem dX2_isTold_12 : decode cX2_isTold 12 = .ok (.goto 4, 3) := by decide +kernel
theorem dX2_isTold_15 : decode cX2_isTold 15 = .ok (.iconst 0, 1) := by decide +kernel
theorem dX2_isTold_16 : decode cX2_isTold 16 = .ok (.ireturn, 1) := by decide +kernel
set_option maxRecDepth 20000 in
theorem ggX2_takesNumber_X2_mayBe : GoodIn wsX2_takesNumber wsX2_mayBe := goodIn_r _ [13, 2, 3, 14, 15, 16, 12, 17, 18, 19, 20, 21, 22, 23, 24, 30, 31, 32, 33, 34, 35, 36, 37, 38, 39, 40, 41, 42, 43, 44, 45, 46] (by decide +kernel) (by decide +kernel)
set_option maxRecDepth 20000 in
theorem gX2_takesNumber_X2_mayBe : GoodIn wsX2_takesNumber (wsV RX2 156 RX2 yX2_mayBe wsX2_mayBe) := goodIn_app (goodIn_of _ (by decide +kernel)) ggX2_takesNumber_X2_mayBe
set_option maxRecDepth 20000 in
theorem ggX2_takesNumber_X1_add : GoodIn wsX2_takesNumber wsX1_add := goodIn_r _ [28, 24, 29, 45, 46] (by decide +kernel) (by decide +kernel)
set_option maxRecDepth 20000 in
theorem gX2_takesNumber_X1_add : GoodIn wsX2_takesNumber (wsV RX2 159 RX1 yX1_add wsX1_add) := goodIn_app (goodIn_of _ (by decide +kernel)) ggX2_takesNumber_X1_add
theorem dX2_takesNumber_0 : decode cX2_takesNumber 0 = .ok (.aload_n 0, 1) := by decide +kernel
theorem dX2_takesNumber_1 : decode cX2_takesNumber 1 = .ok (.aload_n 0, 1) := by decide +kernel
theorem dX2_takesNumber_2 : decode cX2_takesNumber 2 = .ok (.getfield 115, 3) := by decide +kernel
theorem dX2_takesNumber_5 : decode cX2_takesNumber 5 = .ok (.invokevirtual 156, 3) := by decide +kernel
theorem dX2_takesNumber_8 : decode cX2_takesNumber 8 = .ok (.ifCond .ne 5, 3) := by decide +kernel
theorem dX2_takesNumber_11 : decode cX2_takesNumber 11 = .ok (.iconst 0, 1) := by decide +kernel
theorem dX2_takesNumber_12 : decode cX2_takesNumber 12 = .ok (.ireturn, 1) := by decide +kernel
theorem dX2_takesNumber_13 : decode cX2_takesNumber 13 = .ok (.aload_n 0, 1) := by decide +kernel
theorem dX2_takesNumber_14 : decode cX2_takesNumber 14 = .ok (.getfield 147, 3) := by decide +kernel
theorem dX2_takesNumber_17 : decode cX2_takesNumber 17 = .ok (.tableswitch 75 0 3 #[31, 42, 53, 64], 31) := by decide +kernel
theorem dX2_takesNumber_48 : decode cX2_takesNumber 48 = .ok (.aload_n 0, 1) := by decide +kernel
theorem dX2_takesNumber_49 : decode cX2_takesNumber 49 = .ok (.aload_n 0, 1) := by decide +kernel
theorem dX2_takesNumber_50 : decode cX2_takesNumber 50 = .ok (.getfield 115, 3) := by decide +kernel
theorem dX2_takesNumber_53 : decode cX2_takesNumber 53 = .ok (.putfield 46, 3) := by decide +kernel
theorem dX2_takesNumber_56 : decode cX2_takesNumber 56 = .ok (.goto 48, 3) := by decide +kernel
theorem dX2_takesNumber_59 : decode cX2_takesNumber 59 = .ok (.aload_n 0, 1) := by decide +kernel
theorem dX2_takesNumber_60 : decode cX2_takesNumber 60 = .ok (.aload_n 0, 1) := by decide +kernel
theorem dX2_takesNumber_61 : decode cX2_takesNumber 61 = .ok (.getfield 115, 3) := by decide +kernel
theorem dX2_takesNumber_64 : decode cX2_takesNumber 64 = .ok (.putfield 49, 3) := by decide +kernel
theorem dX2_takesNumber_67 : decode cX2_takesNumber 67 = .ok (.goto 37, 3) := by decide +kernel
theorem dX2_takesNumber_70 : decode cX2_takesNumber 70 = .ok (.aload_n 0, 1) := by decide +kernel
theorem dX2_takesNumber_71 : decode cX2_takesNumber 71 = .ok (.aload_n 0, 1) := by decide +kernel
theorem dX2_takesNumber_72 : decode cX2_takesNumber 72 = .ok (.getfield 115, 3) := by decide +kernel
theorem dX2_takesNumber_75 : decode cX2_takesNumber 75 = .ok (.putfield 52, 3) := by decide +kernel
theorem dX2_takesNumber_78 : decode cX2_takesNumber 78 = .ok (.goto 26, 3) := by decide +kernel
theorem dX2_takesNumber_81 : decode cX2_takesNumber 81 = .ok (.aload_n 0, 1) := by decide +kernel
theorem dX2_takesNumber_82 : decode cX2_takesNumber 82 = .ok (.aload_n 0, 1) := by decide +kernel
theorem dX2_takesNumber_83 : decode cX2_takesNumber 83 = .ok (.getfield 115, 3) := by decide +kernel
theorem dX2_takesNumber_86 : decode cX2_takesNumber 86 = .ok (.putfield 55, 3) := by decide +kernel
theorem dX2_takesNumber_89 : decode cX2_takesNumber 89 = .ok (.goto 15, 3) := by decide +kernel
theorem dX2_takesNumber_92 : decode cX2_takesNumber 92 = .ok (.aload_n 0, 1) := by decide +kernel
theorem dX2_takesNumber_93 : decode cX2_takesNumber 93 = .ok (.getfield 20, 3) := by decide +kernel
theorem dX2_takesNumber_96 : decode cX2_takesNumber 96 = .ok (.aload_n 0, 1) := by decide +kernel
theorem dX2_takesNumber_97 : decode cX2_takesNumber 97 = .ok (.getfield 115, 3) := by decide +kernel
theorem dX2_takesNumber_100 : decode cX2_takesNumber 100 = .ok (.i2l, 1) := by decide +kernel
theorem dX2_takesNumber_101 : decode cX2_takesNumber 101 = .ok (.invokevirtual 159, 3) := by decide +kernel
theorem dX2_takesNumber_104 : decode cX2_takesNumber 104 = .ok (.aload_n 0, 1) := by decide +kernel
theorem dX2_takesNumber_105 : decode cX2_takesNumber 105 = .ok (.aload_n 0, 1) := by decide +kernel
theorem dX2_takesNumber_106 : decode cX2_takesNumber 106 = .ok (.getfield 147, 3) := by decide +kernel
theorem dX2_takesNumber_109 : decode cX2_takesNumber 109 = .ok (.iconst 4, 1) := by decide +kernel
theorem dX2_takesNumber_110 : decode cX2_takesNumber 110 = .ok (.if_icmp .ne 7, 3) := by decide +kernel
theorem dX2_takesNumber_113 : decode cX2_takesNumber 113 = .ok (.iconst 2, 1) := by decide +kernel
theorem dX2_takesNumber_114 : decode cX2_takesNumber 114 = .ok (.goto 4, 3) := by decide +kernel
theorem dX2_takesNumber_117 : decode cX2_takesNumber 117 = .ok (.iconst 3, 1) := by decide +kernel
theorem dX2_takesNumber_118 : decode cX2_takesNumber 118 = .ok (.putfield 36, 3) := by decide +kernel
theorem dX2_takesNumber_121 : decode cX2_takesNumber 121 = .ok (.iconst 1, 1) := by decide +kernel
theorem dX2_takesNumber_122 : decode cX2_takesNumber 122 = .ok (.ireturn, 1) := by decide +kernel
set_option maxRecDepth 20000 in
theorem ggX2_mayBe_X2_isToldCrease : GoodIn wsX2_mayBe wsX2_isToldCrease := goodIn_r _ [7, 8, 9, 10, 11, 12, 13, 14, 15, 16, 17, 18, 19, 20, 21, 22, 23, 24, 25, 26, 27, 28, 29, 30, 31] (by decide +kernel) (by decide +kernel)
set_option maxRecDepth 20000 in
theorem gX2_mayBe_X2_isToldCrease : GoodIn wsX2_mayBe (wsV RX2 163 RX2 yX2_isToldCrease wsX2_isToldCrease) := goodIn_app (goodIn_of _ (by decide +kernel)) ggX2_mayBe_X2_isToldCrease
theorem dX2_mayBe_0 : decode cX2_mayBe 0 = .ok (.aload_n 0, 1) := by decide +kernel
theorem dX2_mayBe_1 : decode cX2_mayBe 1 = .ok (.getfield 147, 3) := by decide +kernel
theorem dX2_mayBe_4 : decode cX2_mayBe 4 = .ok (.tableswitch 107 0 3 #[32, 56, 75, 91], 32) := by decide +kernel
theorem dX2_mayBe_36 : decode cX2_mayBe 36 = .ok (.iload_n 1, 1) := by decide +kernel
theorem dX2_mayBe_37 : decode cX2_mayBe 37 = .ok (.iconst 3, 1) := by decide +kernel
theorem dX2_mayBe_38 : decode cX2_mayBe 38 = .ok (.if_icmp .lt 20, 3) := by decide +kernel
theorem dX2_mayBe_41 : decode cX2_mayBe 41 = .ok (.iload_n 1, 1) := by decide +kernel
theorem dX2_mayBe_42 : decode cX2_mayBe 42 = .ok (.bipush 63, 2) := by decide +kernel
theorem dX2_mayBe_44 : decode cX2_mayBe 44 = .ok (.if_icmp .gt 14, 3) := by decide +kernel
theorem dX2_mayBe_47 : decode cX2_mayBe 47 = .ok (.iload_n 1, 1) := by decide +kernel
theorem dX2_mayBe_48 : decode cX2_mayBe 48 = .ok (.iconst 2, 1) := by decide +kernel
theorem dX2_mayBe_49 : decode cX2_mayBe 49 = .ok (.irem, 1) := by decide +kernel
theorem dX2_mayBe_50 : decode cX2_mayBe 50 = .ok (.iconst 1, 1) := by decide +kernel
theorem dX2_mayBe_51 : decode cX2_mayBe 51 = .ok (.if_icmp .ne 7, 3) := by decide +kernel
theorem dX2_mayBe_54 : decode cX2_mayBe 54 = .ok (.iconst 1, 1) := by decide +kernel
theorem dX2_mayBe_55 : decode cX2_mayBe 55 = .ok (.goto 4, 3) := by decide +kernel
theorem dX2_mayBe_58 : decode cX2_mayBe 58 = .ok (.iconst 0, 1) := by decide +kernel
theorem dX2_mayBe_59 : decode cX2_mayBe 59 = .ok (.ireturn, 1) := by decide +kernel
theorem dX2_mayBe_60 : decode cX2_mayBe 60 = .ok (.iload_n 1, 1) := by decide +kernel
theorem dX2_mayBe_61 : decode cX2_mayBe 61 = .ok (.iconst 1, 1) := by decide +kernel
theorem dX2_mayBe_62 : decode cX2_mayBe 62 = .ok (.if_icmp .lt 15, 3) := by decide +kernel
theorem dX2_mayBe_65 : decode cX2_mayBe 65 = .ok (.iload_n 1, 1) := by decide +kernel
theorem dX2_mayBe_66 : decode cX2_mayBe 66 = .ok (.aload_n 0, 1) := by decide +kernel
theorem dX2_mayBe_67 : decode cX2_mayBe 67 = .ok (.getfield 46, 3) := by decide +kernel
theorem dX2_mayBe_70 : decode cX2_mayBe 70 = .ok (.if_icmp .ge 7, 3) := by decide +kernel
theorem dX2_mayBe_73 : decode cX2_mayBe 73 = .ok (.iconst 1, 1) := by decide +kernel
theorem dX2_mayBe_74 : decode cX2_mayBe 74 = .ok (.goto 4, 3) := by decide +kernel
theorem dX2_mayBe_77 : decode cX2_mayBe 77 = .ok (.iconst 0, 1) := by decide +kernel
theorem dX2_mayBe_78 : decode cX2_mayBe 78 = .ok (.ireturn, 1) := by decide +kernel
theorem dX2_mayBe_79 : decode cX2_mayBe 79 = .ok (.iload_n 1, 1) := by decide +kernel
theorem dX2_mayBe_80 : decode cX2_mayBe 80 = .ok (.ifCond .lt 13, 3) := by decide +kernel
theorem dX2_mayBe_83 : decode cX2_mayBe 83 = .ok (.iload_n 1, 1) := by decide +kernel
theorem dX2_mayBe_84 : decode cX2_mayBe 84 = .ok (.bipush 99, 2) := by decide +kernel
theorem dX2_mayBe_86 : decode cX2_mayBe 86 = .ok (.if_icmp .gt 7, 3) := by decide +kernel
theorem dX2_mayBe_89 : decode cX2_mayBe 89 = .ok (.iconst 1, 1) := by decide +kernel
theorem dX2_mayBe_90 : decode cX2_mayBe 90 = .ok (.goto 4, 3) := by decide +kernel
theorem dX2_mayBe_93 : decode cX2_mayBe 93 = .ok (.iconst 0, 1) := by decide +kernel
theorem dX2_mayBe_94 : decode cX2_mayBe 94 = .ok (.ireturn, 1) := by decide +kernel
theorem dX2_mayBe_95 : decode cX2_mayBe 95 = .ok (.iload_n 1, 1) := by decide +kernel
theorem dX2_mayBe_96 : decode cX2_mayBe 96 = .ok (.ifCond .lt 13, 3) := by decide +kernel
theorem dX2_mayBe_99 : decode cX2_mayBe 99 = .ok (.iload_n 1, 1) := by decide +kernel
theorem dX2_mayBe_100 : decode cX2_mayBe 100 = .ok (.bipush 9, 2) := by decide +kernel
theorem dX2_mayBe_102 : decode cX2_mayBe 102 = .ok (.if_icmp .gt 7, 3) := by decide +kernel
theorem dX2_mayBe_105 : decode cX2_mayBe 105 = .ok (.iconst 1, 1) := by decide +kernel
theorem dX2_mayBe_106 : decode cX2_mayBe 106 = .ok (.goto 4, 3) := by decide +kernel
theorem dX2_mayBe_109 : decode cX2_mayBe 109 = .ok (.iconst 0, 1) := by decide +kernel
theorem dX2_mayBe_110 : decode cX2_mayBe 110 = .ok (.ireturn, 1) := by decide +kernel
theorem dX2_mayBe_111 : decode cX2_mayBe 111 = .ok (.aload_n 0, 1) := by decide +kernel
theorem dX2_mayBe_112 : decode cX2_mayBe 112 = .ok (.iload_n 1, 1) := by decide +kernel
theorem dX2_mayBe_113 : decode cX2_mayBe 113 = .ok (.invokevirtual 163, 3) := by decide +kernel
theorem dX2_mayBe_116 : decode cX2_mayBe 116 = .ok (.ireturn, 1) := by decide +kernel
set_option maxRecDepth 20000 in
theorem ggX2_takesSecond_X2_isToldCrease : GoodIn wsX2_takesSecond wsX2_isToldCrease := goodIn_r _ [9, 3, 10, 11, 12, 13, 14, 15, 25, 26, 27, 28, 29, 30, 31, 32, 33, 34, 35, 36, 37, 38, 39, 40, 41] (by decide +kernel) (by decide +kernel)
set_option maxRecDepth 20000 in
theorem gX2_takesSecond_X2_isToldCrease : GoodIn wsX2_takesSecond (wsV RX2 163 RX2 yX2_isToldCrease wsX2_isToldCrease) := goodIn_app (goodIn_of _ (by decide +kernel)) ggX2_takesSecond_X2_isToldCrease
set_option maxRecDepth 20000 in
theorem ggX2_takesSecond_X1_size : GoodIn wsX2_takesSecond wsX1_size := goodIn_r _ [14, 15, 40, 41] (by decide +kernel) (by decide +kernel)
set_option maxRecDepth 20000 in
theorem gX2_takesSecond_X1_size : GoodIn wsX2_takesSecond (wsV RX2 71 RX1 yX1_size wsX1_size) := goodIn_app (goodIn_of _ (by decide +kernel)) ggX2_takesSecond_X1_size
set_option maxRecDepth 20000 in
theorem ggX2_takesSecond_X1_at : GoodIn wsX2_takesSecond wsX1_at := goodIn_r _ [19, 20, 40, 41] (by decide +kernel) (by decide +kernel)
set_option maxRecDepth 20000 in
theorem gX2_takesSecond_X1_at : GoodIn wsX2_takesSecond (wsV RX2 74 RX1 yX1_at wsX1_at) := goodIn_app (goodIn_of _ (by decide +kernel)) ggX2_takesSecond_X1_at
set_option maxRecDepth 20000 in
theorem ggX2_takesSecond_X1_add : GoodIn wsX2_takesSecond wsX1_add := goodIn_r _ [24, 15, 20, 40, 41] (by decide +kernel) (by decide +kernel)
set_option maxRecDepth 20000 in
theorem gX2_takesSecond_X1_add : GoodIn wsX2_takesSecond (wsV RX2 159 RX1 yX1_add wsX1_add) := goodIn_app (goodIn_of _ (by decide +kernel)) ggX2_takesSecond_X1_add
theorem dX2_takesSecond_0 : decode cX2_takesSecond 0 = .ok (.aload_n 0, 1) := by decide +kernel
theorem dX2_takesSecond_1 : decode cX2_takesSecond 1 = .ok (.aload_n 0, 1) := by decide +kernel
theorem dX2_takesSecond_2 : decode cX2_takesSecond 2 = .ok (.getfield 115, 3) := by decide +kernel
theorem dX2_takesSecond_5 : decode cX2_takesSecond 5 = .ok (.invokevirtual 163, 3) := by decide +kernel
theorem dX2_takesSecond_8 : decode cX2_takesSecond 8 = .ok (.ifCond .eq 26, 3) := by decide +kernel
theorem dX2_takesSecond_11 : decode cX2_takesSecond 11 = .ok (.aload_n 0, 1) := by decide +kernel
theorem dX2_takesSecond_12 : decode cX2_takesSecond 12 = .ok (.getfield 115, 3) := by decide +kernel
theorem dX2_takesSecond_15 : decode cX2_takesSecond 15 = .ok (.i2l, 1) := by decide +kernel
theorem dX2_takesSecond_16 : decode cX2_takesSecond 16 = .ok (.aload_n 0, 1) := by decide +kernel
theorem dX2_takesSecond_17 : decode cX2_takesSecond 17 = .ok (.getfield 20, 3) := by decide +kernel
theorem dX2_takesSecond_20 : decode cX2_takesSecond 20 = .ok (.aload_n 0, 1) := by decide +kernel
theorem dX2_takesSecond_21 : decode cX2_takesSecond 21 = .ok (.getfield 23, 3) := by decide +kernel
theorem dX2_takesSecond_24 : decode cX2_takesSecond 24 = .ok (.invokevirtual 71, 3) := by decide +kernel
theorem dX2_takesSecond_27 : decode cX2_takesSecond 27 = .ok (.invokevirtual 74, 3) := by decide +kernel
theorem dX2_takesSecond_30 : decode cX2_takesSecond 30 = .ok (.lcmp, 1) := by decide +kernel
theorem dX2_takesSecond_31 : decode cX2_takesSecond 31 = .ok (.ifCond .ne 5, 3) := by decide +kernel
theorem dX2_takesSecond_34 : decode cX2_takesSecond 34 = .ok (.iconst 0, 1) := by decide +kernel
theorem dX2_takesSecond_35 : decode cX2_takesSecond 35 = .ok (.ireturn, 1) := by decide +kernel
theorem dX2_takesSecond_36 : decode cX2_takesSecond 36 = .ok (.aload_n 0, 1) := by decide +kernel
theorem dX2_takesSecond_37 : decode cX2_takesSecond 37 = .ok (.getfield 23, 3) := by decide +kernel
theorem dX2_takesSecond_40 : decode cX2_takesSecond 40 = .ok (.aload_n 0, 1) := by decide +kernel
theorem dX2_takesSecond_41 : decode cX2_takesSecond 41 = .ok (.getfield 115, 3) := by decide +kernel
theorem dX2_takesSecond_44 : decode cX2_takesSecond 44 = .ok (.i2l, 1) := by decide +kernel
theorem dX2_takesSecond_45 : decode cX2_takesSecond 45 = .ok (.invokevirtual 159, 3) := by decide +kernel
theorem dX2_takesSecond_48 : decode cX2_takesSecond 48 = .ok (.aload_n 0, 1) := by decide +kernel
theorem dX2_takesSecond_49 : decode cX2_takesSecond 49 = .ok (.iconst 3, 1) := by decide +kernel
theorem dX2_takesSecond_50 : decode cX2_takesSecond 50 = .ok (.putfield 36, 3) := by decide +kernel
theorem dX2_takesSecond_53 : decode cX2_takesSecond 53 = .ok (.iconst 1, 1) := by decide +kernel
theorem dX2_takesSecond_54 : decode cX2_takesSecond 54 = .ok (.ireturn, 1) := by decide +kernel
set_option maxRecDepth 20000 in
theorem ggX2_isToldCrease_X1_size : GoodIn wsX2_isToldCrease wsX1_size := goodIn_r _ [6, 7, 23, 24] (by decide +kernel) (by decide +kernel)
set_option maxRecDepth 20000 in
theorem gX2_isToldCrease_X1_size : GoodIn wsX2_isToldCrease (wsV RX2 71 RX1 yX1_size wsX1_size) := goodIn_app (goodIn_of _ (by decide +kernel)) ggX2_isToldCrease_X1_size
theorem dX2_isToldCrease_0 : decode cX2_isToldCrease 0 = .ok (.iload_n 1, 1) := by decide +kernel
theorem dX2_isToldCrease_1 : decode cX2_isToldCrease 1 = .ok (.ifCond .lt 20, 3) := by decide +kernel
theorem dX2_isToldCrease_4 : decode cX2_isToldCrease 4 = .ok (.iload_n 1, 1) := by decide +kernel
theorem dX2_isToldCrease_5 : decode cX2_isToldCrease 5 = .ok (.iconst 3, 1) := by decide +kernel
theorem dX2_isToldCrease_6 : decode cX2_isToldCrease 6 = .ok (.aload_n 0, 1) := by decide +kernel
theorem dX2_isToldCrease_7 : decode cX2_isToldCrease 7 = .ok (.getfield 23, 3) := by decide +kernel
theorem dX2_isToldCrease_10 : decode cX2_isToldCrease 10 = .ok (.invokevirtual 71, 3) := by decide +kernel
theorem dX2_isToldCrease_13 : decode cX2_isToldCrease 13 = .ok (.iadd, 1) := by decide +kernel
theorem dX2_isToldCrease_14 : decode cX2_isToldCrease 14 = .ok (.if_icmp .ge 7, 3) := by decide +kernel
theorem dX2_isToldCrease_17 : decode cX2_isToldCrease 17 = .ok (.iconst 1, 1) := by decide +kernel
theorem dX2_isToldCrease_18 : decode cX2_isToldCrease 18 = .ok (.goto 4, 3) := by decide +kernel
theorem dX2_isToldCrease_21 : decode cX2_isToldCrease 21 = .ok (.iconst 0, 1) := by decide +kernel
theorem dX2_isToldCrease_22 : decode cX2_isToldCrease 22 = .ok (.ireturn, 1) := by decide +kernel
theorem dX2_takesSemicolon_0 : decode cX2_takesSemicolon 0 = .ok (.aload_n 0, 1) := by decide +kernel
theorem dX2_takesSemicolon_1 : decode cX2_takesSemicolon 1 = .ok (.getfield 32, 3) := by decide +kernel
theorem dX2_takesSemicolon_4 : decode cX2_takesSemicolon 4 = .ok (.bipush 6, 2) := by decide +kernel
theorem dX2_takesSemicolon_6 : decode cX2_takesSemicolon 6 = .ok (.if_icmp .eq 5, 3) := by decide +kernel
theorem dX2_takesSemicolon_9 : decode cX2_takesSemicolon 9 = .ok (.iconst 0, 1) := by decide +kernel
theorem dX2_takesSemicolon_10 : decode cX2_takesSemicolon 10 = .ok (.ireturn, 1) := by decide +kernel
theorem dX2_takesSemicolon_11 : decode cX2_takesSemicolon 11 = .ok (.aload_n 0, 1) := by decide +kernel
theorem dX2_takesSemicolon_12 : decode cX2_takesSemicolon 12 = .ok (.dup, 1) := by decide +kernel
theorem dX2_takesSemicolon_13 : decode cX2_takesSemicolon 13 = .ok (.getfield 62, 3) := by decide +kernel
theorem dX2_takesSemicolon_16 : decode cX2_takesSemicolon 16 = .ok (.iconst 1, 1) := by decide +kernel
theorem dX2_takesSemicolon_17 : decode cX2_takesSemicolon 17 = .ok (.iadd, 1) := by decide +kernel
theorem dX2_takesSemicolon_18 : decode cX2_takesSemicolon 18 = .ok (.putfield 62, 3) := by decide +kernel
theorem dX2_takesSemicolon_21 : decode cX2_takesSemicolon 21 = .ok (.aload_n 0, 1) := by decide +kernel
theorem dX2_takesSemicolon_22 : decode cX2_takesSemicolon 22 = .ok (.iconst 0, 1) := by decide +kernel
theorem dX2_takesSemicolon_23 : decode cX2_takesSemicolon 23 = .ok (.putfield 36, 3) := by decide +kernel
theorem dX2_takesSemicolon_26 : decode cX2_takesSemicolon 26 = .ok (.iconst 1, 1) := by decide +kernel
theorem dX2_takesSemicolon_27 : decode cX2_takesSemicolon 27 = .ok (.ireturn, 1) := by decide +kernel
