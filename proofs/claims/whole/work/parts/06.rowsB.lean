set_option maxRecDepth 20000 in
theorem ggX3_init_X2_init : GoodIn wsX3_init wsX2_init := goodIn_r _ [20, 21, 2, 3, 22, 23, 24, 25, 26, 27, 28, 29, 30, 31, 32, 33, 34, 35, 36, 37, 38, 99, 100, 70, 71, 72, 73, 74, 75, 76, 77, 78, 79, 80, 81, 82, 83, 84] (by decide +kernel) (by decide +kernel)
set_option maxRecDepth 20000 in
theorem gX3_init_X2_init_n11 : GoodIn wsX3_init (wsX2_init) := ggX3_init_X2_init
set_option maxRecDepth 20000 in
theorem ggX3_init_X0_init : GoodIn wsX3_init wsX0_init := goodIn_r _ [40, 41, 2, 3, 42, 23, 24, 43, 44, 45, 46, 47, 48, 29, 30, 31, 32, 33, 34, 35, 36, 37, 38, 99, 100, 94, 95, 96, 97, 98] (by decide +kernel) (by decide +kernel)
set_option maxRecDepth 20000 in
theorem gX3_init_X0_init_n18 : GoodIn wsX3_init (wsX0_init) := ggX3_init_X0_init
set_option maxRecDepth 20000 in
theorem ggX3_init_X0_begin : GoodIn wsX3_init wsX0_begin := goodIn_r _ [52, 53, 54, 55, 56, 10, 57, 43, 44, 45, 46, 47, 58, 59, 60, 24, 61, 32, 62, 63, 64, 65, 66, 67, 68, 69, 38, 94, 95, 96, 97, 98, 99, 100] (by decide +kernel) (by decide +kernel)
set_option maxRecDepth 20000 in
theorem gX3_init_X0_begin : GoodIn wsX3_init (wsV RX3 46 RX0 yX0_begin wsX0_begin) := goodIn_app (goodIn_of _ (by decide +kernel)) ggX3_init_X0_begin
theorem dX3_init_0 : decode cX3_init 0 = .ok (.aload_n 0, 1) := by decide +kernel
theorem dX3_init_1 : decode cX3_init 1 = .ok (.invokespecial 3, 3) := by decide +kernel
theorem dX3_init_4 : decode cX3_init 4 = .ok (.aload_n 0, 1) := by decide +kernel
theorem dX3_init_5 : decode cX3_init 5 = .ok (.new 9, 3) := by decide +kernel
theorem dX3_init_8 : decode cX3_init 8 = .ok (.dup, 1) := by decide +kernel
theorem dX3_init_9 : decode cX3_init 9 = .ok (.invokespecial 11, 3) := by decide +kernel
theorem dX3_init_12 : decode cX3_init 12 = .ok (.putfield 12, 3) := by decide +kernel
theorem dX3_init_15 : decode cX3_init 15 = .ok (.aload_n 0, 1) := by decide +kernel
theorem dX3_init_16 : decode cX3_init 16 = .ok (.new 16, 3) := by decide +kernel
theorem dX3_init_19 : decode cX3_init 19 = .ok (.dup, 1) := by decide +kernel
theorem dX3_init_20 : decode cX3_init 20 = .ok (.invokespecial 18, 3) := by decide +kernel
theorem dX3_init_23 : decode cX3_init 23 = .ok (.putfield 19, 3) := by decide +kernel
theorem dX3_init_26 : decode cX3_init 26 = .ok (.aload_n 0, 1) := by decide +kernel
theorem dX3_init_27 : decode cX3_init 27 = .ok (.new 16, 3) := by decide +kernel
theorem dX3_init_30 : decode cX3_init 30 = .ok (.dup, 1) := by decide +kernel
theorem dX3_init_31 : decode cX3_init 31 = .ok (.invokespecial 18, 3) := by decide +kernel
theorem dX3_init_34 : decode cX3_init 34 = .ok (.putfield 23, 3) := by decide +kernel
theorem dX3_init_37 : decode cX3_init 37 = .ok (.aload_n 0, 1) := by decide +kernel
theorem dX3_init_38 : decode cX3_init 38 = .ok (.new 16, 3) := by decide +kernel
theorem dX3_init_41 : decode cX3_init 41 = .ok (.dup, 1) := by decide +kernel
theorem dX3_init_42 : decode cX3_init 42 = .ok (.invokespecial 18, 3) := by decide +kernel
theorem dX3_init_45 : decode cX3_init 45 = .ok (.putfield 26, 3) := by decide +kernel
theorem dX3_init_48 : decode cX3_init 48 = .ok (.aload_n 0, 1) := by decide +kernel
theorem dX3_init_49 : decode cX3_init 49 = .ok (.iconst 5, 1) := by decide +kernel
theorem dX3_init_50 : decode cX3_init 50 = .ok (.putfield 29, 3) := by decide +kernel
theorem dX3_init_53 : decode cX3_init 53 = .ok (.aload_n 0, 1) := by decide +kernel
theorem dX3_init_54 : decode cX3_init 54 = .ok (.iconst 1, 1) := by decide +kernel
theorem dX3_init_55 : decode cX3_init 55 = .ok (.putfield 33, 3) := by decide +kernel
theorem dX3_init_58 : decode cX3_init 58 = .ok (.aload_n 0, 1) := by decide +kernel
theorem dX3_init_59 : decode cX3_init 59 = .ok (.iconst 0, 1) := by decide +kernel
theorem dX3_init_60 : decode cX3_init 60 = .ok (.putfield 36, 3) := by decide +kernel
theorem dX3_init_63 : decode cX3_init 63 = .ok (.aload_n 0, 1) := by decide +kernel
theorem dX3_init_64 : decode cX3_init 64 = .ok (.iconst 0, 1) := by decide +kernel
theorem dX3_init_65 : decode cX3_init 65 = .ok (.putfield 39, 3) := by decide +kernel
theorem dX3_init_68 : decode cX3_init 68 = .ok (.aload_n 0, 1) := by decide +kernel
theorem dX3_init_69 : decode cX3_init 69 = .ok (.lconst 0, 1) := by decide +kernel
theorem dX3_init_70 : decode cX3_init 70 = .ok (.putfield 42, 3) := by decide +kernel
theorem dX3_init_73 : decode cX3_init 73 = .ok (.aload_n 0, 1) := by decide +kernel
theorem dX3_init_74 : decode cX3_init 74 = .ok (.getfield 19, 3) := by decide +kernel
theorem dX3_init_77 : decode cX3_init 77 = .ok (.iconst 5, 1) := by decide +kernel
theorem dX3_init_78 : decode cX3_init 78 = .ok (.iconst 1, 1) := by decide +kernel
theorem dX3_init_79 : decode cX3_init 79 = .ok (.invokevirtual 46, 3) := by decide +kernel
theorem dX3_init_82 : decode cX3_init 82 = .ok (.return_, 1) := by decide +kernel
set_option maxRecDepth 20000 in
theorem ggX3_type_X1_hasRoom : GoodIn wsX3_type wsX1_hasRoom := goodIn_r _ [7, 8, 9, 42, 43] (by decide +kernel) (by decide +kernel)
set_option maxRecDepth 20000 in
theorem gX3_type_X1_hasRoom : GoodIn wsX3_type (wsV RX3 54 RX1 yX1_hasRoom wsX1_hasRoom) := goodIn_app (goodIn_of _ (by decide +kernel)) ggX3_type_X1_hasRoom
set_option maxRecDepth 20000 in
theorem ggX3_type_X1_add : GoodIn wsX3_type wsX1_add := goodIn_r _ [13, 8, 9, 42, 43] (by decide +kernel) (by decide +kernel)
set_option maxRecDepth 20000 in
theorem gX3_type_X1_add : GoodIn wsX3_type (wsV RX3 62 RX1 yX1_add wsX1_add) := goodIn_app (goodIn_of _ (by decide +kernel)) ggX3_type_X1_add
set_option maxRecDepth 20000 in
theorem ggX3_type_X1_size : GoodIn wsX3_type wsX1_size := goodIn_r _ [17, 8, 42, 43] (by decide +kernel) (by decide +kernel)
set_option maxRecDepth 20000 in
theorem gX3_type_X1_size : GoodIn wsX3_type (wsV RX3 66 RX1 yX1_size wsX1_size) := goodIn_app (goodIn_of _ (by decide +kernel)) ggX3_type_X1_size
theorem dX3_type_0 : decode cX3_type 0 = .ok (.iload_n 3, 1) := by decide +kernel
theorem dX3_type_1 : decode cX3_type 1 = .ok (.iconst 1, 1) := by decide +kernel
theorem dX3_type_2 : decode cX3_type 2 = .ok (.if_icmp .lt 9, 3) := by decide +kernel
theorem dX3_type_5 : decode cX3_type 5 = .ok (.iload_n 3, 1) := by decide +kernel
theorem dX3_type_6 : decode cX3_type 6 = .ok (.bipush 8, 2) := by decide +kernel
theorem dX3_type_8 : decode cX3_type 8 = .ok (.if_icmp .le 5, 3) := by decide +kernel
theorem dX3_type_11 : decode cX3_type 11 = .ok (.iconst (-1), 1) := by decide +kernel
theorem dX3_type_12 : decode cX3_type 12 = .ok (.ireturn, 1) := by decide +kernel
theorem dX3_type_13 : decode cX3_type 13 = .ok (.aload_n 0, 1) := by decide +kernel
theorem dX3_type_14 : decode cX3_type 14 = .ok (.getfield 12, 3) := by decide +kernel
theorem dX3_type_17 : decode cX3_type 17 = .ok (.getfield 50, 3) := by decide +kernel
theorem dX3_type_20 : decode cX3_type 20 = .ok (.iload_n 3, 1) := by decide +kernel
theorem dX3_type_21 : decode cX3_type 21 = .ok (.invokevirtual 54, 3) := by decide +kernel
theorem dX3_type_24 : decode cX3_type 24 = .ok (.ifCond .ne 6, 3) := by decide +kernel
theorem dX3_type_27 : decode cX3_type 27 = .ok (.bipush (-3), 2) := by decide +kernel
theorem dX3_type_29 : decode cX3_type 29 = .ok (.ireturn, 1) := by decide +kernel
theorem dX3_type_30 : decode cX3_type 30 = .ok (.iload_n 3, 1) := by decide +kernel
theorem dX3_type_31 : decode cX3_type 31 = .ok (.iconst 1, 1) := by decide +kernel
theorem dX3_type_32 : decode cX3_type 32 = .ok (.isub, 1) := by decide +kernel
theorem dX3_type_33 : decode cX3_type 33 = .ok (.istore 4, 2) := by decide +kernel
theorem dX3_type_35 : decode cX3_type 35 = .ok (.iload 4, 2) := by decide +kernel
theorem dX3_type_37 : decode cX3_type 37 = .ok (.ifCond .lt 30, 3) := by decide +kernel
theorem dX3_type_40 : decode cX3_type 40 = .ok (.aload_n 0, 1) := by decide +kernel
theorem dX3_type_41 : decode cX3_type 41 = .ok (.getfield 12, 3) := by decide +kernel
theorem dX3_type_44 : decode cX3_type 44 = .ok (.getfield 50, 3) := by decide +kernel
theorem dX3_type_47 : decode cX3_type 47 = .ok (.lload_n 1, 1) := by decide +kernel
theorem dX3_type_48 : decode cX3_type 48 = .ok (.bipush 8, 2) := by decide +kernel
theorem dX3_type_50 : decode cX3_type 50 = .ok (.iload 4, 2) := by decide +kernel
theorem dX3_type_52 : decode cX3_type 52 = .ok (.imul, 1) := by decide +kernel
theorem dX3_type_53 : decode cX3_type 53 = .ok (.lshr, 1) := by decide +kernel
theorem dX3_type_54 : decode cX3_type 54 = .ok (.ldc2_w 60, 3) := by decide +kernel
theorem dX3_type_57 : decode cX3_type 57 = .ok (.land, 1) := by decide +kernel
theorem dX3_type_58 : decode cX3_type 58 = .ok (.invokevirtual 62, 3) := by decide +kernel
theorem dX3_type_61 : decode cX3_type 61 = .ok (.iinc 4 (-1), 3) := by decide +kernel
theorem dX3_type_64 : decode cX3_type 64 = .ok (.goto (-29), 3) := by decide +kernel
theorem dX3_type_67 : decode cX3_type 67 = .ok (.aload_n 0, 1) := by decide +kernel
theorem dX3_type_68 : decode cX3_type 68 = .ok (.getfield 12, 3) := by decide +kernel
theorem dX3_type_71 : decode cX3_type 71 = .ok (.getfield 50, 3) := by decide +kernel
theorem dX3_type_74 : decode cX3_type 74 = .ok (.invokevirtual 66, 3) := by decide +kernel
theorem dX3_type_77 : decode cX3_type 77 = .ok (.ireturn, 1) := by decide +kernel
set_option maxRecDepth 20000 in
theorem ggX3_clear_X1_empty : GoodIn wsX3_clear wsX1_empty := goodIn_r _ [6, 7, 32, 33] (by decide +kernel) (by decide +kernel)
set_option maxRecDepth 20000 in
theorem gX3_clear_X1_empty : GoodIn wsX3_clear (wsV RX3 70 RX1 yX1_empty wsX1_empty) := goodIn_app (goodIn_of _ (by decide +kernel)) ggX3_clear_X1_empty
theorem dX3_clear_0 : decode cX3_clear 0 = .ok (.aload_n 0, 1) := by decide +kernel
theorem dX3_clear_1 : decode cX3_clear 1 = .ok (.getfield 12, 3) := by decide +kernel
theorem dX3_clear_4 : decode cX3_clear 4 = .ok (.getfield 50, 3) := by decide +kernel
theorem dX3_clear_7 : decode cX3_clear 7 = .ok (.invokevirtual 70, 3) := by decide +kernel
theorem dX3_clear_10 : decode cX3_clear 10 = .ok (.ireturn, 1) := by decide +kernel
set_option maxRecDepth 20000 in
theorem ggX3_strip_X2_read : GoodIn wsX3_strip wsX2_read := goodIn_r _ [13, 14, 15, 16, 17, 18, 19, 12, 20, 21, 22, 23, 24, 25, 26, 27, 28, 29, 30, 31, 32, 33, 34, 35, 36, 37, 38, 39, 40, 41, 42, 43, 44, 45, 46, 47, 48, 49, 50, 51, 52, 53, 54, 55, 56, 57, 58, 59, 60, 61, 62, 63, 64, 65, 66, 67, 68, 69, 70, 71, 72, 73, 74, 75, 76, 77, 78, 79, 80, 81, 82, 83, 84, 85, 86, 87, 88, 89, 90, 91, 92, 93, 94, 95, 96, 97, 98, 99, 100, 101, 102, 103, 104, 105, 106, 107, 108, 109, 110, 111, 112, 113, 114, 115, 116, 117, 118, 119, 120, 121, 122, 123, 124, 125, 126, 127, 128, 129, 130, 131, 132, 133, 134, 135, 136, 137, 138, 139, 140, 141, 142, 143, 144, 145, 146, 147, 148, 149, 150, 151, 152, 153, 154, 155, 156, 157, 158, 159, 160, 161, 162, 163, 164, 165, 166, 167, 168, 169, 170, 171, 172, 173, 174, 218, 219, 220, 221, 222, 223, 224, 225, 226, 227, 228, 229, 230, 231, 232, 233, 234] (by decide +kernel) (by decide +kernel)
set_option maxRecDepth 20000 in
theorem gX3_strip_X2_read : GoodIn wsX3_strip (wsV RX3 73 RX2 yX2_read wsX2_read) := goodIn_app (goodIn_of _ (by decide +kernel)) ggX3_strip_X2_read
set_option maxRecDepth 20000 in
theorem ggX3_strip_X0_begin : GoodIn wsX3_strip wsX0_begin := goodIn_r _ [179, 180, 181, 182, 183, 178, 184, 185, 186, 187, 188, 189, 190, 31, 32, 33, 34, 35, 191, 192, 193, 194, 195, 164, 165, 166, 51, 235, 236, 237, 238, 239, 233, 234] (by decide +kernel) (by decide +kernel)
set_option maxRecDepth 20000 in
theorem gX3_strip_X0_begin : GoodIn wsX3_strip (wsV RX3 46 RX0 yX0_begin wsX0_begin) := goodIn_app (goodIn_of _ (by decide +kernel)) ggX3_strip_X0_begin
set_option maxRecDepth 20000 in
theorem ggX3_strip_X1_size : GoodIn wsX3_strip wsX1_size := goodIn_r _ [46, 35, 233, 234] (by decide +kernel) (by decide +kernel)
set_option maxRecDepth 20000 in
theorem gX3_strip_X1_size : GoodIn wsX3_strip (wsV RX3 66 RX1 yX1_size wsX1_size) := goodIn_app (goodIn_of _ (by decide +kernel)) ggX3_strip_X1_size
set_option maxRecDepth 20000 in
theorem ggX3_strip_X1_at : GoodIn wsX3_strip wsX1_at := goodIn_r _ [50, 51, 233, 234] (by decide +kernel) (by decide +kernel)
set_option maxRecDepth 20000 in
theorem gX3_strip_X1_at : GoodIn wsX3_strip (wsV RX3 83 RX1 yX1_at wsX1_at) := goodIn_app (goodIn_of _ (by decide +kernel)) ggX3_strip_X1_at
set_option maxRecDepth 20000 in
theorem ggX3_strip_X0_bring : GoodIn wsX3_strip wsX0_bring := goodIn_r _ [201, 185, 186, 187, 180, 202, 203, 178, 204, 205, 206, 48, 49, 33, 50, 51, 191, 192, 193, 194, 195, 164, 165, 166, 35, 235, 236, 237, 238, 239, 233, 234] (by decide +kernel) (by decide +kernel)
set_option maxRecDepth 20000 in
theorem gX3_strip_X0_bring : GoodIn wsX3_strip (wsV RX3 90 RX0 yX0_bring wsX0_bring) := goodIn_app (goodIn_of _ (by decide +kernel)) ggX3_strip_X0_bring
set_option maxRecDepth 20000 in
theorem ggX3_strip_X0_empty : GoodIn wsX3_strip wsX0_empty := goodIn_r _ [184, 185, 186, 187, 188, 189, 190, 31, 32, 33, 34, 35, 235, 236, 237, 238, 239, 233, 234] (by decide +kernel) (by decide +kernel)
set_option maxRecDepth 20000 in
theorem gX3_strip_X0_empty : GoodIn wsX3_strip (wsV RX3 93 RX0 yX0_empty wsX0_empty) := goodIn_app (goodIn_of _ (by decide +kernel)) ggX3_strip_X0_empty
set_option maxRecDepth 20000 in
theorem ggX3_strip_X1_empty : GoodIn wsX3_strip wsX1_empty := goodIn_r _ [34, 35, 233, 234] (by decide +kernel) (by decide +kernel)
set_option maxRecDepth 20000 in
theorem gX3_strip_X1_empty : GoodIn wsX3_strip (wsV RX3 70 RX1 yX1_empty wsX1_empty) := goodIn_app (goodIn_of _ (by decide +kernel)) ggX3_strip_X1_empty
theorem dX3_strip_0 : decode cX3_strip 0 = .ok (.aload_n 0, 1) := by decide +kernel
theorem dX3_strip_1 : decode cX3_strip 1 = .ok (.getfield 12, 3) := by decide +kernel
theorem dX3_strip_4 : decode cX3_strip 4 = .ok (.invokevirtual 73, 3) := by decide +kernel
theorem dX3_strip_7 : decode cX3_strip 7 = .ok (.istore_n 1, 1) := by decide +kernel
theorem dX3_strip_8 : decode cX3_strip 8 = .ok (.iload_n 1, 1) := by decide +kernel
theorem dX3_strip_9 : decode cX3_strip 9 = .ok (.ifCond .lt 8, 3) := by decide +kernel
theorem dX3_strip_12 : decode cX3_strip 12 = .ok (.bipush (-10), 2) := by decide +kernel
theorem dX3_strip_14 : decode cX3_strip 14 = .ok (.iload_n 1, 1) := by decide +kernel
theorem dX3_strip_15 : decode cX3_strip 15 = .ok (.isub, 1) := by decide +kernel
theorem dX3_strip_16 : decode cX3_strip 16 = .ok (.ireturn, 1) := by decide +kernel
theorem dX3_strip_17 : decode cX3_strip 17 = .ok (.aload_n 0, 1) := by decide +kernel
theorem dX3_strip_18 : decode cX3_strip 18 = .ok (.aload_n 0, 1) := by decide +kernel
theorem dX3_strip_19 : decode cX3_strip 19 = .ok (.getfield 12, 3) := by decide +kernel
theorem dX3_strip_22 : decode cX3_strip 22 = .ok (.getfield 76, 3) := by decide +kernel
theorem dX3_strip_25 : decode cX3_strip 25 = .ok (.putfield 29, 3) := by decide +kernel
theorem dX3_strip_28 : decode cX3_strip 28 = .ok (.aload_n 0, 1) := by decide +kernel
theorem dX3_strip_29 : decode cX3_strip 29 = .ok (.aload_n 0, 1) := by decide +kernel
theorem dX3_strip_30 : decode cX3_strip 30 = .ok (.getfield 12, 3) := by decide +kernel
theorem dX3_strip_33 : decode cX3_strip 33 = .ok (.getfield 77, 3) := by decide +kernel
theorem dX3_strip_36 : decode cX3_strip 36 = .ok (.putfield 33, 3) := by decide +kernel
theorem dX3_strip_39 : decode cX3_strip 39 = .ok (.aload_n 0, 1) := by decide +kernel
theorem dX3_strip_40 : decode cX3_strip 40 = .ok (.aload_n 0, 1) := by decide +kernel
theorem dX3_strip_41 : decode cX3_strip 41 = .ok (.getfield 12, 3) := by decide +kernel
theorem dX3_strip_44 : decode cX3_strip 44 = .ok (.getfield 78, 3) := by decide +kernel
theorem dX3_strip_47 : decode cX3_strip 47 = .ok (.putfield 36, 3) := by decide +kernel
theorem dX3_strip_50 : decode cX3_strip 50 = .ok (.aload_n 0, 1) := by decide +kernel
theorem dX3_strip_51 : decode cX3_strip 51 = .ok (.aload_n 0, 1) := by decide +kernel
theorem dX3_strip_52 : decode cX3_strip 52 = .ok (.getfield 12, 3) := by decide +kernel
theorem dX3_strip_55 : decode cX3_strip 55 = .ok (.getfield 79, 3) := by decide +kernel
theorem dX3_strip_58 : decode cX3_strip 58 = .ok (.putfield 39, 3) := by decide +kernel
theorem dX3_strip_61 : decode cX3_strip 61 = .ok (.aload_n 0, 1) := by decide +kernel
theorem dX3_strip_62 : decode cX3_strip 62 = .ok (.getfield 19, 3) := by decide +kernel
theorem dX3_strip_65 : decode cX3_strip 65 = .ok (.aload_n 0, 1) := by decide +kernel
theorem dX3_strip_66 : decode cX3_strip 66 = .ok (.getfield 29, 3) := by decide +kernel
theorem dX3_strip_69 : decode cX3_strip 69 = .ok (.aload_n 0, 1) := by decide +kernel
theorem dX3_strip_70 : decode cX3_strip 70 = .ok (.getfield 33, 3) := by decide +kernel
theorem dX3_strip_73 : decode cX3_strip 73 = .ok (.invokevirtual 46, 3) := by decide +kernel
theorem dX3_strip_76 : decode cX3_strip 76 = .ok (.iconst 0, 1) := by decide +kernel
theorem dX3_strip_77 : decode cX3_strip 77 = .ok (.istore_n 2, 1) := by decide +kernel
theorem dX3_strip_78 : decode cX3_strip 78 = .ok (.iload_n 2, 1) := by decide +kernel
theorem dX3_strip_79 : decode cX3_strip 79 = .ok (.aload_n 0, 1) := by decide +kernel
theorem dX3_strip_80 : decode cX3_strip 80 = .ok (.getfield 12, 3) := by decide +kernel
theorem dX3_strip_83 : decode cX3_strip 83 = .ok (.getfield 80, 3) := by decide +kernel
theorem dX3_strip_86 : decode cX3_strip 86 = .ok (.invokevirtual 66, 3) := by decide +kernel
theorem dX3_strip_89 : decode cX3_strip 89 = .ok (.if_icmp .ge 40, 3) := by decide +kernel
theorem dX3_strip_92 : decode cX3_strip 92 = .ok (.aload_n 0, 1) := by decide +kernel
theorem dX3_strip_93 : decode cX3_strip 93 = .ok (.getfield 19, 3) := by decide +kernel
theorem dX3_strip_96 : decode cX3_strip 96 = .ok (.aload_n 0, 1) := by decide +kernel
theorem dX3_strip_97 : decode cX3_strip 97 = .ok (.getfield 12, 3) := by decide +kernel
theorem dX3_strip_100 : decode cX3_strip 100 = .ok (.getfield 80, 3) := by decide +kernel
theorem dX3_strip_103 : decode cX3_strip 103 = .ok (.iload_n 2, 1) := by decide +kernel
theorem dX3_strip_104 : decode cX3_strip 104 = .ok (.invokevirtual 83, 3) := by decide +kernel
theorem dX3_strip_107 : decode cX3_strip 107 = .ok (.l2i, 1) := by decide +kernel
theorem dX3_strip_108 : decode cX3_strip 108 = .ok (.aload_n 0, 1) := by decide +kernel
theorem dX3_strip_109 : decode cX3_strip 109 = .ok (.getfield 12, 3) := by decide +kernel
theorem dX3_strip_112 : decode cX3_strip 112 = .ok (.getfield 87, 3) := by decide +kernel
theorem dX3_strip_115 : decode cX3_strip 115 = .ok (.iload_n 2, 1) := by decide +kernel
theorem dX3_strip_116 : decode cX3_strip 116 = .ok (.invokevirtual 83, 3) := by decide +kernel
theorem dX3_strip_119 : decode cX3_strip 119 = .ok (.l2i, 1) := by decide +kernel
theorem dX3_strip_120 : decode cX3_strip 120 = .ok (.invokevirtual 90, 3) := by decide +kernel
theorem dX3_strip_123 : decode cX3_strip 123 = .ok (.iinc 2 1, 3) := by decide +kernel
theorem dX3_strip_126 : decode cX3_strip 126 = .ok (.goto (-48), 3) := by decide +kernel
theorem dX3_strip_129 : decode cX3_strip 129 = .ok (.aload_n 0, 1) := by decide +kernel
theorem dX3_strip_130 : decode cX3_strip 130 = .ok (.getfield 23, 3) := by decide +kernel
theorem dX3_strip_133 : decode cX3_strip 133 = .ok (.invokevirtual 93, 3) := by decide +kernel
theorem dX3_strip_136 : decode cX3_strip 136 = .ok (.aload_n 0, 1) := by decide +kernel
theorem dX3_strip_137 : decode cX3_strip 137 = .ok (.getfield 26, 3) := by decide +kernel
theorem dX3_strip_140 : decode cX3_strip 140 = .ok (.invokevirtual 93, 3) := by decide +kernel
theorem dX3_strip_143 : decode cX3_strip 143 = .ok (.aload_n 0, 1) := by decide +kernel
theorem dX3_strip_144 : decode cX3_strip 144 = .ok (.getfield 12, 3) := by decide +kernel
theorem dX3_strip_147 : decode cX3_strip 147 = .ok (.getfield 50, 3) := by decide +kernel
theorem dX3_strip_150 : decode cX3_strip 150 = .ok (.invokevirtual 70, 3) := by decide +kernel
theorem dX3_strip_153 : decode cX3_strip 153 = .ok (.pop, 1) := by decide +kernel
theorem dX3_strip_154 : decode cX3_strip 154 = .ok (.aload_n 0, 1) := by decide +kernel
theorem dX3_strip_155 : decode cX3_strip 155 = .ok (.getfield 12, 3) := by decide +kernel
theorem dX3_strip_158 : decode cX3_strip 158 = .ok (.getfield 95, 3) := by decide +kernel
theorem dX3_strip_161 : decode cX3_strip 161 = .ok (.ireturn, 1) := by decide +kernel
set_option maxRecDepth 20000 in
theorem ggX3_crease_X3_isCrease : GoodIn wsX3_crease wsX3_isCrease := goodIn_r _ [9, 2, 10, 11, 12, 13, 14, 15, 16, 17, 18, 19, 20, 21, 40, 41, 42, 43, 44, 45, 46, 47, 48, 49, 50, 51, 52, 53, 54, 55] (by decide +kernel) (by decide +kernel)
set_option maxRecDepth 20000 in
theorem gX3_crease_X3_isCrease : GoodIn wsX3_crease (wsV RX3 98 RX3 yX3_isCrease wsX3_isCrease) := goodIn_app (goodIn_of _ (by decide +kernel)) ggX3_crease_X3_isCrease
set_option maxRecDepth 20000 in
theorem ggX3_crease_X1_at : GoodIn wsX3_crease wsX1_at := goodIn_r _ [25, 26, 54, 55] (by decide +kernel) (by decide +kernel)
set_option maxRecDepth 20000 in
theorem gX3_crease_X1_at : GoodIn wsX3_crease (wsV RX3 83 RX1 yX1_at wsX1_at) := goodIn_app (goodIn_of _ (by decide +kernel)) ggX3_crease_X1_at
set_option maxRecDepth 20000 in
theorem ggX3_crease_X3_leastUpper : GoodIn wsX3_crease wsX3_leastUpper := goodIn_r _ [29, 30, 31, 8, 32] (by decide +kernel) (by decide +kernel)
set_option maxRecDepth 20000 in
theorem gX3_crease_X3_leastUpper : GoodIn wsX3_crease (va_wsS RX3 108 yX3_leastUpper wsX3_leastUpper) := goodIn_app (goodIn_of _ (by decide +kernel)) ggX3_crease_X3_leastUpper
set_option maxRecDepth 20000 in
theorem ggX3_crease_X3_leastLower : GoodIn wsX3_crease wsX3_leastLower := goodIn_r _ [35, 30, 31, 8, 32] (by decide +kernel) (by decide +kernel)
set_option maxRecDepth 20000 in
theorem gX3_crease_X3_leastLower : GoodIn wsX3_crease (va_wsS RX3 112 yX3_leastLower wsX3_leastLower) := goodIn_app (goodIn_of _ (by decide +kernel)) ggX3_crease_X3_leastLower
set_option maxRecDepth 20000 in
theorem ggX3_crease_X3_partOf : GoodIn wsX3_crease wsX3_partOf := goodIn_r _ [39, 2, 4, 22, 23, 24, 19, 25, 26, 40, 41, 42, 43, 44, 45, 46, 47, 48, 49, 50, 51, 52, 53, 54, 55] (by decide +kernel) (by decide +kernel)
set_option maxRecDepth 20000 in
theorem gX3_crease_X3_partOf : GoodIn wsX3_crease (wsV RX3 121 RX3 yX3_partOf wsX3_partOf) := goodIn_app (goodIn_of _ (by decide +kernel)) ggX3_crease_X3_partOf
theorem dX3_crease_0 : decode cX3_crease 0 = .ok (.aload_n 0, 1) := by decide +kernel
theorem dX3_crease_1 : decode cX3_crease 1 = .ok (.iload_n 1, 1) := by decide +kernel
theorem dX3_crease_2 : decode cX3_crease 2 = .ok (.invokevirtual 98, 3) := by decide +kernel
theorem dX3_crease_5 : decode cX3_crease 5 = .ok (.ifCond .eq 13, 3) := by decide +kernel
theorem dX3_crease_8 : decode cX3_crease 8 = .ok (.iload_n 2, 1) := by decide +kernel
theorem dX3_crease_9 : decode cX3_crease 9 = .ok (.ifCond .lt 9, 3) := by decide +kernel
theorem dX3_crease_12 : decode cX3_crease 12 = .ok (.iload_n 2, 1) := by decide +kernel
theorem dX3_crease_13 : decode cX3_crease 13 = .ok (.bipush 6, 2) := by decide +kernel
theorem dX3_crease_15 : decode cX3_crease 15 = .ok (.if_icmp .le 7, 3) := by decide +kernel
theorem dX3_crease_18 : decode cX3_crease 18 = .ok (.ldc2_w 101, 3) := by decide +kernel
theorem dX3_crease_21 : decode cX3_crease 21 = .ok (.lreturn, 1) := by decide +kernel
theorem dX3_crease_22 : decode cX3_crease 22 = .ok (.iload_n 2, 1) := by decide +kernel
theorem dX3_crease_23 : decode cX3_crease 23 = .ok (.tableswitch 157 0 5 #[37, 61, 85, 103, 121, 139], 37) := by decide +kernel
theorem dX3_crease_60 : decode cX3_crease 60 = .ok (.aload_n 0, 1) := by decide +kernel
theorem dX3_crease_61 : decode cX3_crease 61 = .ok (.getfield 19, 3) := by decide +kernel
theorem dX3_crease_64 : decode cX3_crease 64 = .ok (.getfield 103, 3) := by decide +kernel
theorem dX3_crease_67 : decode cX3_crease 67 = .ok (.iload_n 1, 1) := by decide +kernel
theorem dX3_crease_68 : decode cX3_crease 68 = .ok (.invokevirtual 83, 3) := by decide +kernel
theorem dX3_crease_71 : decode cX3_crease 71 = .ok (.aload_n 0, 1) := by decide +kernel
theorem dX3_crease_72 : decode cX3_crease 72 = .ok (.getfield 29, 3) := by decide +kernel
theorem dX3_crease_75 : decode cX3_crease 75 = .ok (.i2l, 1) := by decide +kernel
theorem dX3_crease_76 : decode cX3_crease 76 = .ok (.ldc2_w 106, 3) := by decide +kernel
theorem dX3_crease_79 : decode cX3_crease 79 = .ok (.lmul, 1) := by decide +kernel
theorem dX3_crease_80 : decode cX3_crease 80 = .ok (.invokestatic 108, 3) := by decide +kernel
theorem dX3_crease_83 : decode cX3_crease 83 = .ok (.lreturn, 1) := by decide +kernel
theorem dX3_crease_84 : decode cX3_crease 84 = .ok (.aload_n 0, 1) := by decide +kernel
theorem dX3_crease_85 : decode cX3_crease 85 = .ok (.getfield 19, 3) := by decide +kernel
theorem dX3_crease_88 : decode cX3_crease 88 = .ok (.getfield 103, 3) := by decide +kernel
theorem dX3_crease_91 : decode cX3_crease 91 = .ok (.iload_n 1, 1) := by decide +kernel
theorem dX3_crease_92 : decode cX3_crease 92 = .ok (.invokevirtual 83, 3) := by decide +kernel
theorem dX3_crease_95 : decode cX3_crease 95 = .ok (.aload_n 0, 1) := by decide +kernel
theorem dX3_crease_96 : decode cX3_crease 96 = .ok (.getfield 29, 3) := by decide +kernel
theorem dX3_crease_99 : decode cX3_crease 99 = .ok (.i2l, 1) := by decide +kernel
theorem dX3_crease_100 : decode cX3_crease 100 = .ok (.ldc2_w 106, 3) := by decide +kernel
theorem dX3_crease_103 : decode cX3_crease 103 = .ok (.lmul, 1) := by decide +kernel
theorem dX3_crease_104 : decode cX3_crease 104 = .ok (.invokestatic 112, 3) := by decide +kernel
theorem dX3_crease_107 : decode cX3_crease 107 = .ok (.lreturn, 1) := by decide +kernel
theorem dX3_crease_108 : decode cX3_crease 108 = .ok (.aload_n 0, 1) := by decide +kernel
theorem dX3_crease_109 : decode cX3_crease 109 = .ok (.getfield 19, 3) := by decide +kernel
theorem dX3_crease_112 : decode cX3_crease 112 = .ok (.getfield 115, 3) := by decide +kernel
theorem dX3_crease_115 : decode cX3_crease 115 = .ok (.iload_n 1, 1) := by decide +kernel
theorem dX3_crease_116 : decode cX3_crease 116 = .ok (.invokevirtual 83, 3) := by decide +kernel
theorem dX3_crease_119 : decode cX3_crease 119 = .ok (.ldc2_w 106, 3) := by decide +kernel
theorem dX3_crease_122 : decode cX3_crease 122 = .ok (.invokestatic 108, 3) := by decide +kernel
theorem dX3_crease_125 : decode cX3_crease 125 = .ok (.lreturn, 1) := by decide +kernel
theorem dX3_crease_126 : decode cX3_crease 126 = .ok (.aload_n 0, 1) := by decide +kernel
theorem dX3_crease_127 : decode cX3_crease 127 = .ok (.getfield 19, 3) := by decide +kernel
theorem dX3_crease_130 : decode cX3_crease 130 = .ok (.getfield 115, 3) := by decide +kernel
theorem dX3_crease_133 : decode cX3_crease 133 = .ok (.iload_n 1, 1) := by decide +kernel
theorem dX3_crease_134 : decode cX3_crease 134 = .ok (.invokevirtual 83, 3) := by decide +kernel
theorem dX3_crease_137 : decode cX3_crease 137 = .ok (.ldc2_w 106, 3) := by decide +kernel
theorem dX3_crease_140 : decode cX3_crease 140 = .ok (.invokestatic 112, 3) := by decide +kernel
theorem dX3_crease_143 : decode cX3_crease 143 = .ok (.lreturn, 1) := by decide +kernel
theorem dX3_crease_144 : decode cX3_crease 144 = .ok (.aload_n 0, 1) := by decide +kernel
theorem dX3_crease_145 : decode cX3_crease 145 = .ok (.getfield 19, 3) := by decide +kernel
theorem dX3_crease_148 : decode cX3_crease 148 = .ok (.getfield 118, 3) := by decide +kernel
theorem dX3_crease_151 : decode cX3_crease 151 = .ok (.iload_n 1, 1) := by decide +kernel
theorem dX3_crease_152 : decode cX3_crease 152 = .ok (.invokevirtual 83, 3) := by decide +kernel
theorem dX3_crease_155 : decode cX3_crease 155 = .ok (.ldc2_w 106, 3) := by decide +kernel
theorem dX3_crease_158 : decode cX3_crease 158 = .ok (.invokestatic 108, 3) := by decide +kernel
theorem dX3_crease_161 : decode cX3_crease 161 = .ok (.lreturn, 1) := by decide +kernel
theorem dX3_crease_162 : decode cX3_crease 162 = .ok (.aload_n 0, 1) := by decide +kernel
theorem dX3_crease_163 : decode cX3_crease 163 = .ok (.getfield 19, 3) := by decide +kernel
theorem dX3_crease_166 : decode cX3_crease 166 = .ok (.getfield 118, 3) := by decide +kernel
theorem dX3_crease_169 : decode cX3_crease 169 = .ok (.iload_n 1, 1) := by decide +kernel
theorem dX3_crease_170 : decode cX3_crease 170 = .ok (.invokevirtual 83, 3) := by decide +kernel
theorem dX3_crease_173 : decode cX3_crease 173 = .ok (.ldc2_w 106, 3) := by decide +kernel
theorem dX3_crease_176 : decode cX3_crease 176 = .ok (.invokestatic 112, 3) := by decide +kernel
theorem dX3_crease_179 : decode cX3_crease 179 = .ok (.lreturn, 1) := by decide +kernel
theorem dX3_crease_180 : decode cX3_crease 180 = .ok (.aload_n 0, 1) := by decide +kernel
theorem dX3_crease_181 : decode cX3_crease 181 = .ok (.iload_n 1, 1) := by decide +kernel
theorem dX3_crease_182 : decode cX3_crease 182 = .ok (.invokevirtual 121, 3) := by decide +kernel
theorem dX3_crease_185 : decode cX3_crease 185 = .ok (.i2l, 1) := by decide +kernel
theorem dX3_crease_186 : decode cX3_crease 186 = .ok (.lreturn, 1) := by decide +kernel
theorem dX3_told_0 : decode cX3_told 0 = .ok (.iload_n 1, 1) := by decide +kernel
theorem dX3_told_1 : decode cX3_told 1 = .ok (.tableswitch 51 0 3 #[31, 36, 41, 46], 31) := by decide +kernel
theorem dX3_told_32 : decode cX3_told 32 = .ok (.aload_n 0, 1) := by decide +kernel
theorem dX3_told_33 : decode cX3_told 33 = .ok (.getfield 29, 3) := by decide +kernel
theorem dX3_told_36 : decode cX3_told 36 = .ok (.ireturn, 1) := by decide +kernel
theorem dX3_told_37 : decode cX3_told 37 = .ok (.aload_n 0, 1) := by decide +kernel
theorem dX3_told_38 : decode cX3_told 38 = .ok (.getfield 33, 3) := by decide +kernel
theorem dX3_told_41 : decode cX3_told 41 = .ok (.ireturn, 1) := by decide +kernel
theorem dX3_told_42 : decode cX3_told 42 = .ok (.aload_n 0, 1) := by decide +kernel
theorem dX3_told_43 : decode cX3_told 43 = .ok (.getfield 36, 3) := by decide +kernel
theorem dX3_told_46 : decode cX3_told 46 = .ok (.ireturn, 1) := by decide +kernel
theorem dX3_told_47 : decode cX3_told 47 = .ok (.aload_n 0, 1) := by decide +kernel
theorem dX3_told_48 : decode cX3_told 48 = .ok (.getfield 39, 3) := by decide +kernel
theorem dX3_told_51 : decode cX3_told 51 = .ok (.ireturn, 1) := by decide +kernel
theorem dX3_told_52 : decode cX3_told 52 = .ok (.iconst (-1), 1) := by decide +kernel
theorem dX3_told_53 : decode cX3_told 53 = .ok (.ireturn, 1) := by decide +kernel
set_option maxRecDepth 20000 in
theorem ggX3_fold_X3_isCrease : GoodIn wsX3_fold wsX3_isCrease := goodIn_r _ [6, 1, 7, 8, 9, 10, 11, 12, 13, 14, 15, 16, 17, 18, 51, 52, 53, 54, 55, 56, 57, 58, 59, 60, 61, 62, 63, 64, 65, 66] (by decide +kernel) (by decide +kernel)
set_option maxRecDepth 20000 in
theorem gX3_fold_X3_isCrease : GoodIn wsX3_fold (wsV RX3 98 RX3 yX3_isCrease wsX3_isCrease) := goodIn_app (goodIn_of _ (by decide +kernel)) ggX3_fold_X3_isCrease
set_option maxRecDepth 20000 in
theorem ggX3_fold_X3_isFolded : GoodIn wsX3_fold wsX3_isFolded := goodIn_r _ [22, 1, 7, 8, 9, 10, 11, 12, 13, 14, 15, 16, 17, 18, 51, 52, 53, 54, 55, 56, 57, 58, 59, 60, 61, 62, 63, 64, 65, 66] (by decide +kernel) (by decide +kernel)
set_option maxRecDepth 20000 in
theorem gX3_fold_X3_isFolded : GoodIn wsX3_fold (wsV RX3 125 RX3 yX3_isFolded wsX3_isFolded) := goodIn_app (goodIn_of _ (by decide +kernel)) ggX3_fold_X3_isFolded
set_option maxRecDepth 20000 in
theorem ggX3_fold_X0_bring : GoodIn wsX3_fold wsX0_bring := goodIn_r _ [26, 12, 27, 28, 29, 30, 31, 10, 32, 33, 34, 35, 36, 16, 37, 38, 39, 40, 41, 42, 43, 44, 45, 46, 18, 60, 61, 62, 63, 64, 65, 66] (by decide +kernel) (by decide +kernel)
set_option maxRecDepth 20000 in
theorem gX3_fold_X0_bring : GoodIn wsX3_fold (wsV RX3 90 RX0 yX0_bring wsX0_bring) := goodIn_app (goodIn_of _ (by decide +kernel)) ggX3_fold_X0_bring
set_option maxRecDepth 20000 in
theorem ggX3_fold_X3_latest : GoodIn wsX3_fold wsX3_latest := goodIn_r _ [50, 1, 7, 8, 9, 10, 11, 12, 13, 14, 15, 16, 17, 18, 51, 52, 53, 54, 55, 56, 57, 58, 59, 60, 61, 62, 63, 64, 65, 66] (by decide +kernel) (by decide +kernel)
set_option maxRecDepth 20000 in
theorem gX3_fold_X3_latest : GoodIn wsX3_fold (wsV RX3 129 RX3 yX3_latest wsX3_latest) := goodIn_app (goodIn_of _ (by decide +kernel)) ggX3_fold_X3_latest
theorem dX3_fold_0 : decode cX3_fold 0 = .ok (.aload_n 0, 1) := by decide +kernel
theorem dX3_fold_1 : decode cX3_fold 1 = .ok (.iload_n 1, 1) := by decide +kernel
theorem dX3_fold_2 : decode cX3_fold 2 = .ok (.invokevirtual 98, 3) := by decide +kernel
theorem dX3_fold_5 : decode cX3_fold 5 = .ok (.ifCond .eq 16, 3) := by decide +kernel
theorem dX3_fold_8 : decode cX3_fold 8 = .ok (.aload_n 0, 1) := by decide +kernel
theorem dX3_fold_9 : decode cX3_fold 9 = .ok (.iload_n 2, 1) := by decide +kernel
theorem dX3_fold_10 : decode cX3_fold 10 = .ok (.invokevirtual 98, 3) := by decide +kernel
theorem dX3_fold_13 : decode cX3_fold 13 = .ok (.ifCond .eq 8, 3) := by decide +kernel
theorem dX3_fold_16 : decode cX3_fold 16 = .ok (.iload_n 1, 1) := by decide +kernel
theorem dX3_fold_17 : decode cX3_fold 17 = .ok (.iload_n 2, 1) := by decide +kernel
theorem dX3_fold_18 : decode cX3_fold 18 = .ok (.if_icmp .ne 5, 3) := by decide +kernel
theorem dX3_fold_21 : decode cX3_fold 21 = .ok (.iconst (-1), 1) := by decide +kernel
theorem dX3_fold_22 : decode cX3_fold 22 = .ok (.ireturn, 1) := by decide +kernel
theorem dX3_fold_23 : decode cX3_fold 23 = .ok (.aload_n 0, 1) := by decide +kernel
theorem dX3_fold_24 : decode cX3_fold 24 = .ok (.invokevirtual 125, 3) := by decide +kernel
theorem dX3_fold_27 : decode cX3_fold 27 = .ok (.ifCond .eq 6, 3) := by decide +kernel
theorem dX3_fold_30 : decode cX3_fold 30 = .ok (.bipush (-3), 2) := by decide +kernel
theorem dX3_fold_32 : decode cX3_fold 32 = .ok (.ireturn, 1) := by decide +kernel
theorem dX3_fold_33 : decode cX3_fold 33 = .ok (.aload_n 0, 1) := by decide +kernel
theorem dX3_fold_34 : decode cX3_fold 34 = .ok (.getfield 19, 3) := by decide +kernel
theorem dX3_fold_37 : decode cX3_fold 37 = .ok (.iload_n 1, 1) := by decide +kernel
theorem dX3_fold_38 : decode cX3_fold 38 = .ok (.iload_n 2, 1) := by decide +kernel
theorem dX3_fold_39 : decode cX3_fold 39 = .ok (.invokevirtual 90, 3) := by decide +kernel
theorem dX3_fold_42 : decode cX3_fold 42 = .ok (.aload_n 0, 1) := by decide +kernel
theorem dX3_fold_43 : decode cX3_fold 43 = .ok (.invokevirtual 129, 3) := by decide +kernel
theorem dX3_fold_46 : decode cX3_fold 46 = .ok (.ireturn, 1) := by decide +kernel
set_option maxRecDepth 20000 in
theorem ggX3_rule_X3_latest : GoodIn wsX3_rule wsX3_latest := goodIn_r _ [6, 1, 7, 8, 9, 10, 11, 12, 13, 14, 15, 16, 17, 18, 61, 62, 63, 64, 65, 66, 67, 68, 69, 70, 71, 72, 73, 74, 75, 76] (by decide +kernel) (by decide +kernel)
set_option maxRecDepth 20000 in
theorem gX3_rule_X3_latest : GoodIn wsX3_rule (wsV RX3 129 RX3 yX3_latest wsX3_latest) := goodIn_app (goodIn_of _ (by decide +kernel)) ggX3_rule_X3_latest
set_option maxRecDepth 20000 in
theorem ggX3_rule_X3_partOf : GoodIn wsX3_rule wsX3_partOf := goodIn_r _ [22, 1, 23, 24, 25, 26, 16, 27, 28, 61, 62, 63, 64, 65, 66, 67, 68, 69, 70, 71, 72, 73, 74, 75, 76] (by decide +kernel) (by decide +kernel)
set_option maxRecDepth 20000 in
theorem gX3_rule_X3_partOf : GoodIn wsX3_rule (wsV RX3 121 RX3 yX3_partOf wsX3_partOf) := goodIn_app (goodIn_of _ (by decide +kernel)) ggX3_rule_X3_partOf
set_option maxRecDepth 20000 in
theorem ggX3_rule_X3_isInner : GoodIn wsX3_rule wsX3_isInner := goodIn_r _ [32, 33, 61, 62, 63, 64, 65, 66, 67, 68, 69] (by decide +kernel) (by decide +kernel)
set_option maxRecDepth 20000 in
theorem gX3_rule_X3_isInner : GoodIn wsX3_rule (wsV RX3 132 RX3 yX3_isInner wsX3_isInner) := goodIn_app (goodIn_of _ (by decide +kernel)) ggX3_rule_X3_isInner
set_option maxRecDepth 20000 in
theorem ggX3_rule_X3_isFolded : GoodIn wsX3_rule wsX3_isFolded := goodIn_r _ [37, 1, 7, 8, 9, 10, 11, 12, 13, 14, 15, 16, 17, 18, 61, 62, 63, 64, 65, 66, 67, 68, 69, 70, 71, 72, 73, 74, 75, 76] (by decide +kernel) (by decide +kernel)
set_option maxRecDepth 20000 in
theorem gX3_rule_X3_isFolded : GoodIn wsX3_rule (wsV RX3 125 RX3 yX3_isFolded wsX3_isFolded) := goodIn_app (goodIn_of _ (by decide +kernel)) ggX3_rule_X3_isFolded
set_option maxRecDepth 20000 in
theorem ggX3_rule_X3_sideAt : GoodIn wsX3_rule wsX3_sideAt := goodIn_r _ [40] (by decide +kernel) (by decide +kernel)
set_option maxRecDepth 20000 in
theorem gX3_rule_X3_sideAt : GoodIn wsX3_rule (va_wsS RX3 135 yX3_sideAt wsX3_sideAt) := goodIn_app (goodIn_of _ (by decide +kernel)) ggX3_rule_X3_sideAt
set_option maxRecDepth 20000 in
theorem ggX3_rule_X0_bring : GoodIn wsX3_rule wsX0_bring := goodIn_r _ [44, 12, 45, 46, 47, 48, 49, 10, 50, 51, 52, 25, 26, 16, 27, 28, 53, 54, 55, 56, 57, 58, 59, 60, 18, 70, 71, 72, 73, 74, 75, 76] (by decide +kernel) (by decide +kernel)
set_option maxRecDepth 20000 in
theorem gX3_rule_X0_bring : GoodIn wsX3_rule (wsV RX3 90 RX0 yX0_bring wsX0_bring) := goodIn_app (goodIn_of _ (by decide +kernel)) ggX3_rule_X0_bring
theorem dX3_rule_0 : decode cX3_rule 0 = .ok (.aload_n 0, 1) := by decide +kernel
theorem dX3_rule_1 : decode cX3_rule 1 = .ok (.invokevirtual 129, 3) := by decide +kernel
theorem dX3_rule_4 : decode cX3_rule 4 = .ok (.istore_n 1, 1) := by decide +kernel
theorem dX3_rule_5 : decode cX3_rule 5 = .ok (.aload_n 0, 1) := by decide +kernel
theorem dX3_rule_6 : decode cX3_rule 6 = .ok (.iload_n 1, 1) := by decide +kernel
theorem dX3_rule_7 : decode cX3_rule 7 = .ok (.invokevirtual 121, 3) := by decide +kernel
theorem dX3_rule_10 : decode cX3_rule 10 = .ok (.istore_n 2, 1) := by decide +kernel
theorem dX3_rule_11 : decode cX3_rule 11 = .ok (.aload_n 0, 1) := by decide +kernel
theorem dX3_rule_12 : decode cX3_rule 12 = .ok (.iload_n 2, 1) := by decide +kernel
theorem dX3_rule_13 : decode cX3_rule 13 = .ok (.invokevirtual 132, 3) := by decide +kernel
theorem dX3_rule_16 : decode cX3_rule 16 = .ok (.ifCond .ne 6, 3) := by decide +kernel
theorem dX3_rule_19 : decode cX3_rule 19 = .ok (.bipush (-2), 2) := by decide +kernel
theorem dX3_rule_21 : decode cX3_rule 21 = .ok (.ireturn, 1) := by decide +kernel
theorem dX3_rule_22 : decode cX3_rule 22 = .ok (.aload_n 0, 1) := by decide +kernel
theorem dX3_rule_23 : decode cX3_rule 23 = .ok (.invokevirtual 125, 3) := by decide +kernel
theorem dX3_rule_26 : decode cX3_rule 26 = .ok (.ifCond .eq 6, 3) := by decide +kernel
theorem dX3_rule_29 : decode cX3_rule 29 = .ok (.bipush (-3), 2) := by decide +kernel
theorem dX3_rule_31 : decode cX3_rule 31 = .ok (.ireturn, 1) := by decide +kernel
theorem dX3_rule_32 : decode cX3_rule 32 = .ok (.iload_n 2, 1) := by decide +kernel
theorem dX3_rule_33 : decode cX3_rule 33 = .ok (.invokestatic 135, 3) := by decide +kernel
theorem dX3_rule_36 : decode cX3_rule 36 = .ok (.istore_n 3, 1) := by decide +kernel
theorem dX3_rule_37 : decode cX3_rule 37 = .ok (.aload_n 0, 1) := by decide +kernel
theorem dX3_rule_38 : decode cX3_rule 38 = .ok (.getfield 19, 3) := by decide +kernel
theorem dX3_rule_41 : decode cX3_rule 41 = .ok (.iload_n 3, 1) := by decide +kernel
theorem dX3_rule_42 : decode cX3_rule 42 = .ok (.ifCond .ne 7, 3) := by decide +kernel
theorem dX3_rule_45 : decode cX3_rule 45 = .ok (.iconst 0, 1) := by decide +kernel
theorem dX3_rule_46 : decode cX3_rule 46 = .ok (.goto 4, 3) := by decide +kernel
theorem dX3_rule_49 : decode cX3_rule 49 = .ok (.iconst 1, 1) := by decide +kernel
theorem dX3_rule_50 : decode cX3_rule 50 = .ok (.iload_n 1, 1) := by decide +kernel
theorem dX3_rule_51 : decode cX3_rule 51 = .ok (.invokevirtual 90, 3) := by decide +kernel
theorem dX3_rule_54 : decode cX3_rule 54 = .ok (.iload_n 3, 1) := by decide +kernel
theorem dX3_rule_55 : decode cX3_rule 55 = .ok (.ireturn, 1) := by decide +kernel
set_option maxRecDepth 20000 in
theorem ggX3_undo_X0_creases : GoodIn wsX3_undo wsX0_creases := goodIn_r _ [6, 7, 8, 9, 10, 11, 12, 13, 37, 38, 39, 40, 41, 42, 43] (by decide +kernel) (by decide +kernel)
set_option maxRecDepth 20000 in
theorem gX3_undo_X0_creases : GoodIn wsX3_undo (wsV RX3 138 RX0 yX0_creases wsX0_creases) := goodIn_app (goodIn_of _ (by decide +kernel)) ggX3_undo_X0_creases
set_option maxRecDepth 20000 in
theorem ggX3_undo_X0_unfold : GoodIn wsX3_undo wsX0_unfold := goodIn_r _ [17, 7, 18, 19, 20, 21, 22, 11, 23, 13, 24, 25, 26, 27, 37, 38, 39, 40, 41, 42, 43] (by decide +kernel) (by decide +kernel)
set_option maxRecDepth 20000 in
theorem gX3_undo_X0_unfold : GoodIn wsX3_undo (wsV RX3 141 RX0 yX0_unfold wsX0_unfold) := goodIn_app (goodIn_of _ (by decide +kernel)) ggX3_undo_X0_unfold
theorem dX3_undo_0 : decode cX3_undo 0 = .ok (.aload_n 0, 1) := by decide +kernel
theorem dX3_undo_1 : decode cX3_undo 1 = .ok (.getfield 19, 3) := by decide +kernel
theorem dX3_undo_4 : decode cX3_undo 4 = .ok (.invokevirtual 138, 3) := by decide +kernel
theorem dX3_undo_7 : decode cX3_undo 7 = .ok (.iconst 3, 1) := by decide +kernel
theorem dX3_undo_8 : decode cX3_undo 8 = .ok (.if_icmp .gt 6, 3) := by decide +kernel
theorem dX3_undo_11 : decode cX3_undo 11 = .ok (.bipush (-2), 2) := by decide +kernel
theorem dX3_undo_13 : decode cX3_undo 13 = .ok (.ireturn, 1) := by decide +kernel
theorem dX3_undo_14 : decode cX3_undo 14 = .ok (.aload_n 0, 1) := by decide +kernel
theorem dX3_undo_15 : decode cX3_undo 15 = .ok (.getfield 19, 3) := by decide +kernel
theorem dX3_undo_18 : decode cX3_undo 18 = .ok (.invokevirtual 141, 3) := by decide +kernel
theorem dX3_undo_21 : decode cX3_undo 21 = .ok (.aload_n 0, 1) := by decide +kernel
theorem dX3_undo_22 : decode cX3_undo 22 = .ok (.getfield 19, 3) := by decide +kernel
theorem dX3_undo_25 : decode cX3_undo 25 = .ok (.invokevirtual 138, 3) := by decide +kernel
theorem dX3_undo_28 : decode cX3_undo 28 = .ok (.ireturn, 1) := by decide +kernel
set_option maxRecDepth 20000 in
theorem ggX3_says_X3_isInner : GoodIn wsX3_says wsX3_isInner := goodIn_r _ [5, 6, 10, 11, 12, 13, 14, 15, 16, 17, 18] (by decide +kernel) (by decide +kernel)
set_option maxRecDepth 20000 in
theorem gX3_says_X3_isInner : GoodIn wsX3_says (wsV RX3 132 RX3 yX3_isInner wsX3_isInner) := goodIn_app (goodIn_of _ (by decide +kernel)) ggX3_says_X3_isInner
set_option maxRecDepth 20000 in
theorem ggX3_says_X3_sideAt : GoodIn wsX3_says wsX3_sideAt := goodIn_r _ [9] (by decide +kernel) (by decide +kernel)
set_option maxRecDepth 20000 in
theorem gX3_says_X3_sideAt : GoodIn wsX3_says (va_wsS RX3 135 yX3_sideAt wsX3_sideAt) := goodIn_app (goodIn_of _ (by decide +kernel)) ggX3_says_X3_sideAt
theorem dX3_says_0 : decode cX3_says 0 = .ok (.aload_n 0, 1) := by decide +kernel
theorem dX3_says_1 : decode cX3_says 1 = .ok (.iload_n 1, 1) := by decide +kernel
theorem dX3_says_2 : decode cX3_says 2 = .ok (.invokevirtual 132, 3) := by decide +kernel
theorem dX3_says_5 : decode cX3_says 5 = .ok (.ifCond .eq 10, 3) := by decide +kernel
theorem dX3_says_8 : decode cX3_says 8 = .ok (.iload_n 1, 1) := by decide +kernel
theorem dX3_says_9 : decode cX3_says 9 = .ok (.invokestatic 135, 3) := by decide +kernel
theorem dX3_says_12 : decode cX3_says 12 = .ok (.goto 4, 3) := by decide +kernel
theorem dX3_says_15 : decode cX3_says 15 = .ok (.iconst (-1), 1) := by decide +kernel
theorem dX3_says_16 : decode cX3_says 16 = .ok (.ireturn, 1) := by decide +kernel
set_option maxRecDepth 20000 in
theorem ggX3_round_X3_isInner : GoodIn wsX3_round wsX3_isInner := goodIn_r _ [5, 6, 17, 18, 19, 20, 21, 22, 23, 24, 25] (by decide +kernel) (by decide +kernel)
set_option maxRecDepth 20000 in
theorem gX3_round_X3_isInner : GoodIn wsX3_round (wsV RX3 132 RX3 yX3_isInner wsX3_isInner) := goodIn_app (goodIn_of _ (by decide +kernel)) ggX3_round_X3_isInner
set_option maxRecDepth 20000 in
theorem ggX3_round_X3_foldsAround : GoodIn wsX3_round wsX3_foldsAround := goodIn_r _ [10, 6, 11, 12, 4, 13, 14, 15, 16, 17, 18, 19, 20, 21, 22, 23, 24, 25] (by decide +kernel) (by decide +kernel)
set_option maxRecDepth 20000 in
theorem gX3_round_X3_foldsAround : GoodIn wsX3_round (wsV RX3 144 RX3 yX3_foldsAround wsX3_foldsAround) := goodIn_app (goodIn_of _ (by decide +kernel)) ggX3_round_X3_foldsAround
theorem dX3_round_0 : decode cX3_round 0 = .ok (.aload_n 0, 1) := by decide +kernel
theorem dX3_round_1 : decode cX3_round 1 = .ok (.iload_n 1, 1) := by decide +kernel
theorem dX3_round_2 : decode cX3_round 2 = .ok (.invokevirtual 132, 3) := by decide +kernel
theorem dX3_round_5 : decode cX3_round 5 = .ok (.ifCond .eq 11, 3) := by decide +kernel
theorem dX3_round_8 : decode cX3_round 8 = .ok (.aload_n 0, 1) := by decide +kernel
theorem dX3_round_9 : decode cX3_round 9 = .ok (.iload_n 1, 1) := by decide +kernel
theorem dX3_round_10 : decode cX3_round 10 = .ok (.invokevirtual 144, 3) := by decide +kernel
theorem dX3_round_13 : decode cX3_round 13 = .ok (.goto 4, 3) := by decide +kernel
theorem dX3_round_16 : decode cX3_round 16 = .ok (.iconst (-1), 1) := by decide +kernel
theorem dX3_round_17 : decode cX3_round 17 = .ok (.ireturn, 1) := by decide +kernel
theorem dX3_near_0 : decode cX3_near 0 = .ok (.iload_n 1, 1) := by decide +kernel
theorem dX3_near_1 : decode cX3_near 1 = .ok (.ifCond .lt 9, 3) := by decide +kernel
theorem dX3_near_4 : decode cX3_near 4 = .ok (.iload_n 1, 1) := by decide +kernel
theorem dX3_near_5 : decode cX3_near 5 = .ok (.ldc 147, 2) := by decide +kernel
theorem dX3_near_7 : decode cX3_near 7 = .ok (.if_icmp .le 5, 3) := by decide +kernel
theorem dX3_near_10 : decode cX3_near 10 = .ok (.iconst (-1), 1) := by decide +kernel
theorem dX3_near_11 : decode cX3_near 11 = .ok (.ireturn, 1) := by decide +kernel
theorem dX3_near_12 : decode cX3_near 12 = .ok (.iconst 0, 1) := by decide +kernel
theorem dX3_near_13 : decode cX3_near 13 = .ok (.istore_n 2, 1) := by decide +kernel
theorem dX3_near_14 : decode cX3_near 14 = .ok (.iload_n 2, 1) := by decide +kernel
theorem dX3_near_15 : decode cX3_near 15 = .ok (.bipush 40, 2) := by decide +kernel
theorem dX3_near_17 : decode cX3_near 17 = .ok (.if_icmp .gt 28, 3) := by decide +kernel
theorem dX3_near_20 : decode cX3_near 20 = .ok (.aload_n 0, 1) := by decide +kernel
theorem dX3_near_21 : decode cX3_near 21 = .ok (.getfield 36, 3) := by decide +kernel
theorem dX3_near_24 : decode cX3_near 24 = .ok (.i2l, 1) := by decide +kernel
theorem dX3_near_25 : decode cX3_near 25 = .ok (.ldc2_w 148, 3) := by decide +kernel
theorem dX3_near_28 : decode cX3_near 28 = .ok (.lmul, 1) := by decide +kernel
theorem dX3_near_29 : decode cX3_near 29 = .ok (.iload_n 1, 1) := by decide +kernel
theorem dX3_near_30 : decode cX3_near 30 = .ok (.i2l, 1) := by decide +kernel
theorem dX3_near_31 : decode cX3_near 31 = .ok (.iload_n 2, 1) := by decide +kernel
theorem dX3_near_32 : decode cX3_near 32 = .ok (.lshl, 1) := by decide +kernel
theorem dX3_near_33 : decode cX3_near 33 = .ok (.lcmp, 1) := by decide +kernel
theorem dX3_near_34 : decode cX3_near 34 = .ok (.ifCond .gt 5, 3) := by decide +kernel
theorem dX3_near_37 : decode cX3_near 37 = .ok (.iload_n 2, 1) := by decide +kernel
theorem dX3_near_38 : decode cX3_near 38 = .ok (.ireturn, 1) := by decide +kernel
theorem dX3_near_39 : decode cX3_near 39 = .ok (.iinc 2 1, 3) := by decide +kernel
theorem dX3_near_42 : decode cX3_near 42 = .ok (.goto (-28), 3) := by decide +kernel
theorem dX3_near_45 : decode cX3_near 45 = .ok (.bipush (-9), 2) := by decide +kernel
theorem dX3_near_47 : decode cX3_near 47 = .ok (.ireturn, 1) := by decide +kernel
set_option maxRecDepth 20000 in
theorem ggX3_wasted_X3_creasesAtNoPart : GoodIn wsX3_wasted wsX3_creasesAtNoPart := goodIn_r _ [5, 6, 7, 8, 9, 10, 11, 12, 13, 14, 15, 16, 17, 18, 19, 20, 21, 4, 22, 23, 24, 25, 26, 27, 28, 48, 49, 50, 51, 52, 53, 54, 55, 56, 57, 58, 59, 60, 61, 62, 63] (by decide +kernel) (by decide +kernel)
set_option maxRecDepth 20000 in
theorem gX3_wasted_X3_creasesAtNoPart : GoodIn wsX3_wasted (wsV RX3 150 RX3 yX3_creasesAtNoPart wsX3_creasesAtNoPart) := goodIn_app (goodIn_of _ (by decide +kernel)) ggX3_wasted_X3_creasesAtNoPart
set_option maxRecDepth 20000 in
theorem ggX3_wasted_X3_partsWithoutCrease : GoodIn wsX3_wasted wsX3_partsWithoutCrease := goodIn_r _ [32, 6, 33, 7, 8, 9, 10, 11, 12, 13, 14, 15, 16, 17, 18, 19, 20, 21, 4, 22, 23, 24, 25, 26, 27, 28, 34, 35, 36, 37, 38, 39, 40, 41, 42, 43, 44, 45, 46, 47, 48, 49, 50, 51, 52, 53, 54, 55, 56, 57, 58, 59, 60, 61, 62, 63] (by decide +kernel) (by decide +kernel)
set_option maxRecDepth 20000 in
theorem gX3_wasted_X3_partsWithoutCrease : GoodIn wsX3_wasted (wsV RX3 153 RX3 yX3_partsWithoutCrease wsX3_partsWithoutCrease) := goodIn_app (goodIn_of _ (by decide +kernel)) ggX3_wasted_X3_partsWithoutCrease
theorem dX3_wasted_0 : decode cX3_wasted 0 = .ok (.iload_n 1, 1) := by decide +kernel
theorem dX3_wasted_1 : decode cX3_wasted 1 = .ok (.lookupswitch 37 #[(0, 27), (1, 32)], 27) := by decide +kernel
theorem dX3_wasted_28 : decode cX3_wasted 28 = .ok (.aload_n 0, 1) := by decide +kernel
theorem dX3_wasted_29 : decode cX3_wasted 29 = .ok (.invokevirtual 150, 3) := by decide +kernel
theorem dX3_wasted_32 : decode cX3_wasted 32 = .ok (.ireturn, 1) := by decide +kernel
theorem dX3_wasted_33 : decode cX3_wasted 33 = .ok (.aload_n 0, 1) := by decide +kernel
theorem dX3_wasted_34 : decode cX3_wasted 34 = .ok (.invokevirtual 153, 3) := by decide +kernel
theorem dX3_wasted_37 : decode cX3_wasted 37 = .ok (.ireturn, 1) := by decide +kernel
theorem dX3_wasted_38 : decode cX3_wasted 38 = .ok (.iconst (-1), 1) := by decide +kernel
theorem dX3_wasted_39 : decode cX3_wasted 39 = .ok (.ireturn, 1) := by decide +kernel
set_option maxRecDepth 20000 in
theorem ggX3_fewest_X3_isInner : GoodIn wsX3_fewest wsX3_isInner := goodIn_r _ [7, 2, 14, 15, 16, 17, 18, 19, 20, 21, 22] (by decide +kernel) (by decide +kernel)
set_option maxRecDepth 20000 in
theorem gX3_fewest_X3_isInner : GoodIn wsX3_fewest (wsV RX3 132 RX3 yX3_isInner wsX3_isInner) := goodIn_app (goodIn_of _ (by decide +kernel)) ggX3_fewest_X3_isInner
set_option maxRecDepth 20000 in
theorem ggX3_fewest_X3_ruled : GoodIn wsX3_fewest wsX3_ruled := goodIn_r _ [10, 11, 12, 6, 13] (by decide +kernel) (by decide +kernel)
set_option maxRecDepth 20000 in
theorem gX3_fewest_X3_ruled : GoodIn wsX3_fewest (va_wsS RX3 156 yX3_ruled wsX3_ruled) := goodIn_app (goodIn_of _ (by decide +kernel)) ggX3_fewest_X3_ruled
theorem dX3_fewest_0 : decode cX3_fewest 0 = .ok (.aload_n 0, 1) := by decide +kernel
theorem dX3_fewest_1 : decode cX3_fewest 1 = .ok (.iload_n 1, 1) := by decide +kernel
theorem dX3_fewest_2 : decode cX3_fewest 2 = .ok (.invokevirtual 132, 3) := by decide +kernel
theorem dX3_fewest_5 : decode cX3_fewest 5 = .ok (.ifCond .ne 5, 3) := by decide +kernel
theorem dX3_fewest_8 : decode cX3_fewest 8 = .ok (.iconst (-1), 1) := by decide +kernel
theorem dX3_fewest_9 : decode cX3_fewest 9 = .ok (.ireturn, 1) := by decide +kernel
theorem dX3_fewest_10 : decode cX3_fewest 10 = .ok (.aload_n 0, 1) := by decide +kernel
theorem dX3_fewest_11 : decode cX3_fewest 11 = .ok (.getfield 33, 3) := by decide +kernel
theorem dX3_fewest_14 : decode cX3_fewest 14 = .ok (.istore_n 2, 1) := by decide +kernel
theorem dX3_fewest_15 : decode cX3_fewest 15 = .ok (.iconst 0, 1) := by decide +kernel
theorem dX3_fewest_16 : decode cX3_fewest 16 = .ok (.istore_n 3, 1) := by decide +kernel
theorem dX3_fewest_17 : decode cX3_fewest 17 = .ok (.iload_n 3, 1) := by decide +kernel
theorem dX3_fewest_18 : decode cX3_fewest 18 = .ok (.bipush 63, 2) := by decide +kernel
theorem dX3_fewest_20 : decode cX3_fewest 20 = .ok (.if_icmp .ge 25, 3) := by decide +kernel
theorem dX3_fewest_23 : decode cX3_fewest 23 = .ok (.iload_n 2, 1) := by decide +kernel
theorem dX3_fewest_24 : decode cX3_fewest 24 = .ok (.iload_n 1, 1) := by decide +kernel
theorem dX3_fewest_25 : decode cX3_fewest 25 = .ok (.if_icmp .ne 5, 3) := by decide +kernel
theorem dX3_fewest_28 : decode cX3_fewest 28 = .ok (.iload_n 3, 1) := by decide +kernel
theorem dX3_fewest_29 : decode cX3_fewest 29 = .ok (.ireturn, 1) := by decide +kernel
theorem dX3_fewest_30 : decode cX3_fewest 30 = .ok (.aload_n 0, 1) := by decide +kernel
theorem dX3_fewest_31 : decode cX3_fewest 31 = .ok (.getfield 29, 3) := by decide +kernel
theorem dX3_fewest_34 : decode cX3_fewest 34 = .ok (.iload_n 2, 1) := by decide +kernel
theorem dX3_fewest_35 : decode cX3_fewest 35 = .ok (.invokestatic 156, 3) := by decide +kernel
theorem dX3_fewest_38 : decode cX3_fewest 38 = .ok (.istore_n 2, 1) := by decide +kernel
theorem dX3_fewest_39 : decode cX3_fewest 39 = .ok (.iinc 3 1, 3) := by decide +kernel
theorem dX3_fewest_42 : decode cX3_fewest 42 = .ok (.goto (-25), 3) := by decide +kernel
theorem dX3_fewest_45 : decode cX3_fewest 45 = .ok (.bipush (-9), 2) := by decide +kernel
theorem dX3_fewest_47 : decode cX3_fewest 47 = .ok (.ireturn, 1) := by decide +kernel
set_option maxRecDepth 20000 in
theorem ggX3_comes_X3_foldsAround : GoodIn wsX3_comes wsX3_foldsAround := goodIn_r _ [6, 7, 8, 9, 5, 10, 11, 12, 13, 25, 26, 27, 28, 29, 30, 31, 32, 33] (by decide +kernel) (by decide +kernel)
set_option maxRecDepth 20000 in
theorem gX3_comes_X3_foldsAround : GoodIn wsX3_comes (wsV RX3 144 RX3 yX3_foldsAround wsX3_foldsAround) := goodIn_app (goodIn_of _ (by decide +kernel)) ggX3_comes_X3_foldsAround
set_option maxRecDepth 20000 in
theorem ggX3_comes_X3_starts : GoodIn wsX3_comes wsX3_starts := goodIn_r _ [17, 7, 18, 19, 5, 20, 21, 22, 23, 24, 8, 9, 10, 11, 12, 13, 25, 26, 27, 28, 29, 30, 31, 32, 33] (by decide +kernel) (by decide +kernel)
set_option maxRecDepth 20000 in
theorem gX3_comes_X3_starts : GoodIn wsX3_comes (wsV RX3 160 RX3 yX3_starts wsX3_starts) := goodIn_app (goodIn_of _ (by decide +kernel)) ggX3_comes_X3_starts
theorem dX3_comes_0 : decode cX3_comes 0 = .ok (.iload_n 1, 1) := by decide +kernel
theorem dX3_comes_1 : decode cX3_comes 1 = .ok (.lookupswitch 41 #[(0, 27), (1, 36)], 27) := by decide +kernel
theorem dX3_comes_28 : decode cX3_comes 28 = .ok (.aload_n 0, 1) := by decide +kernel
theorem dX3_comes_29 : decode cX3_comes 29 = .ok (.aload_n 0, 1) := by decide +kernel
theorem dX3_comes_30 : decode cX3_comes 30 = .ok (.getfield 33, 3) := by decide +kernel
theorem dX3_comes_33 : decode cX3_comes 33 = .ok (.invokevirtual 144, 3) := by decide +kernel
theorem dX3_comes_36 : decode cX3_comes 36 = .ok (.ireturn, 1) := by decide +kernel
theorem dX3_comes_37 : decode cX3_comes 37 = .ok (.aload_n 0, 1) := by decide +kernel
theorem dX3_comes_38 : decode cX3_comes 38 = .ok (.invokevirtual 160, 3) := by decide +kernel
theorem dX3_comes_41 : decode cX3_comes 41 = .ok (.ireturn, 1) := by decide +kernel
theorem dX3_comes_42 : decode cX3_comes 42 = .ok (.iconst (-1), 1) := by decide +kernel
theorem dX3_comes_43 : decode cX3_comes 43 = .ok (.ireturn, 1) := by decide +kernel
set_option maxRecDepth 20000 in
theorem ggX3_letter_X1_hasRoom : GoodIn wsX3_letter wsX1_hasRoom := goodIn_r _ [6, 7, 8, 31, 32] (by decide +kernel) (by decide +kernel)
set_option maxRecDepth 20000 in
theorem gX3_letter_X1_hasRoom : GoodIn wsX3_letter (wsV RX3 54 RX1 yX1_hasRoom wsX1_hasRoom) := goodIn_app (goodIn_of _ (by decide +kernel)) ggX3_letter_X1_hasRoom
set_option maxRecDepth 20000 in
theorem ggX3_letter_X1_add : GoodIn wsX3_letter wsX1_add := goodIn_r _ [12, 7, 8, 31, 32] (by decide +kernel) (by decide +kernel)
set_option maxRecDepth 20000 in
theorem gX3_letter_X1_add : GoodIn wsX3_letter (wsV RX3 62 RX1 yX1_add wsX1_add) := goodIn_app (goodIn_of _ (by decide +kernel)) ggX3_letter_X1_add
set_option maxRecDepth 20000 in
theorem ggX3_letter_X1_size : GoodIn wsX3_letter wsX1_size := goodIn_r _ [16, 7, 31, 32] (by decide +kernel) (by decide +kernel)
set_option maxRecDepth 20000 in
theorem gX3_letter_X1_size : GoodIn wsX3_letter (wsV RX3 66 RX1 yX1_size wsX1_size) := goodIn_app (goodIn_of _ (by decide +kernel)) ggX3_letter_X1_size
theorem dX3_letter_0 : decode cX3_letter 0 = .ok (.iload_n 1, 1) := by decide +kernel
theorem dX3_letter_1 : decode cX3_letter 1 = .ok (.ifCond .eq 10, 3) := by decide +kernel
theorem dX3_letter_4 : decode cX3_letter 4 = .ok (.iload_n 1, 1) := by decide +kernel
theorem dX3_letter_5 : decode cX3_letter 5 = .ok (.iconst 1, 1) := by decide +kernel
theorem dX3_letter_6 : decode cX3_letter 6 = .ok (.if_icmp .eq 5, 3) := by decide +kernel
theorem dX3_letter_9 : decode cX3_letter 9 = .ok (.iconst (-1), 1) := by decide +kernel
theorem dX3_letter_10 : decode cX3_letter 10 = .ok (.ireturn, 1) := by decide +kernel
theorem dX3_letter_11 : decode cX3_letter 11 = .ok (.aload_n 0, 1) := by decide +kernel
theorem dX3_letter_12 : decode cX3_letter 12 = .ok (.getfield 19, 3) := by decide +kernel
theorem dX3_letter_15 : decode cX3_letter 15 = .ok (.getfield 163, 3) := by decide +kernel
theorem dX3_letter_18 : decode cX3_letter 18 = .ok (.iconst 1, 1) := by decide +kernel
theorem dX3_letter_19 : decode cX3_letter 19 = .ok (.invokevirtual 54, 3) := by decide +kernel
theorem dX3_letter_22 : decode cX3_letter 22 = .ok (.ifCond .ne 6, 3) := by decide +kernel
theorem dX3_letter_25 : decode cX3_letter 25 = .ok (.bipush (-3), 2) := by decide +kernel
theorem dX3_letter_27 : decode cX3_letter 27 = .ok (.ireturn, 1) := by decide +kernel
theorem dX3_letter_28 : decode cX3_letter 28 = .ok (.aload_n 0, 1) := by decide +kernel
theorem dX3_letter_29 : decode cX3_letter 29 = .ok (.getfield 19, 3) := by decide +kernel
theorem dX3_letter_32 : decode cX3_letter 32 = .ok (.getfield 163, 3) := by decide +kernel
theorem dX3_letter_35 : decode cX3_letter 35 = .ok (.iload_n 1, 1) := by decide +kernel
theorem dX3_letter_36 : decode cX3_letter 36 = .ok (.i2l, 1) := by decide +kernel
theorem dX3_letter_37 : decode cX3_letter 37 = .ok (.invokevirtual 62, 3) := by decide +kernel
theorem dX3_letter_40 : decode cX3_letter 40 = .ok (.aload_n 0, 1) := by decide +kernel
theorem dX3_letter_41 : decode cX3_letter 41 = .ok (.getfield 19, 3) := by decide +kernel
theorem dX3_letter_44 : decode cX3_letter 44 = .ok (.getfield 163, 3) := by decide +kernel
theorem dX3_letter_47 : decode cX3_letter 47 = .ok (.invokevirtual 66, 3) := by decide +kernel
theorem dX3_letter_50 : decode cX3_letter 50 = .ok (.ireturn, 1) := by decide +kernel
set_option maxRecDepth 20000 in
theorem ggX3_hush_X1_empty : GoodIn wsX3_hush wsX1_empty := goodIn_r _ [6, 7, 22, 23] (by decide +kernel) (by decide +kernel)
set_option maxRecDepth 20000 in
theorem gX3_hush_X1_empty : GoodIn wsX3_hush (wsV RX3 70 RX1 yX1_empty wsX1_empty) := goodIn_app (goodIn_of _ (by decide +kernel)) ggX3_hush_X1_empty
theorem dX3_hush_0 : decode cX3_hush 0 = .ok (.aload_n 0, 1) := by decide +kernel
theorem dX3_hush_1 : decode cX3_hush 1 = .ok (.getfield 19, 3) := by decide +kernel
theorem dX3_hush_4 : decode cX3_hush 4 = .ok (.getfield 163, 3) := by decide +kernel
theorem dX3_hush_7 : decode cX3_hush 7 = .ok (.invokevirtual 70, 3) := by decide +kernel
theorem dX3_hush_10 : decode cX3_hush 10 = .ok (.ireturn, 1) := by decide +kernel
set_option maxRecDepth 20000 in
theorem ggX3_meant_X3_wrongLetter : GoodIn wsX3_meant wsX3_wrongLetter := goodIn_r _ [5, 6, 7, 8, 9, 10, 11, 12, 13, 14, 15, 16, 17, 18, 19, 4, 20, 21, 22, 23, 24, 25, 26, 27, 28, 29, 30, 31, 32, 33, 34, 35, 36, 37, 38, 39] (by decide +kernel) (by decide +kernel)
set_option maxRecDepth 20000 in
theorem gX3_meant_X3_wrongLetter : GoodIn wsX3_meant (wsV RX3 166 RX3 yX3_wrongLetter wsX3_wrongLetter) := goodIn_app (goodIn_of _ (by decide +kernel)) ggX3_meant_X3_wrongLetter
theorem dX3_meant_0 : decode cX3_meant 0 = .ok (.iload_n 1, 1) := by decide +kernel
theorem dX3_meant_1 : decode cX3_meant 1 = .ok (.ifCond .lt 8, 3) := by decide +kernel
theorem dX3_meant_4 : decode cX3_meant 4 = .ok (.iload_n 1, 1) := by decide +kernel
theorem dX3_meant_5 : decode cX3_meant 5 = .ok (.iconst 2, 1) := by decide +kernel
theorem dX3_meant_6 : decode cX3_meant 6 = .ok (.if_icmp .le 5, 3) := by decide +kernel
theorem dX3_meant_9 : decode cX3_meant 9 = .ok (.iconst (-1), 1) := by decide +kernel
theorem dX3_meant_10 : decode cX3_meant 10 = .ok (.ireturn, 1) := by decide +kernel
theorem dX3_meant_11 : decode cX3_meant 11 = .ok (.iconst 0, 1) := by decide +kernel
theorem dX3_meant_12 : decode cX3_meant 12 = .ok (.istore_n 2, 1) := by decide +kernel
theorem dX3_meant_13 : decode cX3_meant 13 = .ok (.bipush (-9), 2) := by decide +kernel
theorem dX3_meant_15 : decode cX3_meant 15 = .ok (.istore_n 3, 1) := by decide +kernel
theorem dX3_meant_16 : decode cX3_meant 16 = .ok (.bipush (-9), 2) := by decide +kernel
theorem dX3_meant_18 : decode cX3_meant 18 = .ok (.istore 4, 2) := by decide +kernel
theorem dX3_meant_20 : decode cX3_meant 20 = .ok (.iconst 3, 1) := by decide +kernel
theorem dX3_meant_21 : decode cX3_meant 21 = .ok (.istore 5, 2) := by decide +kernel
theorem dX3_meant_23 : decode cX3_meant 23 = .ok (.iload 5, 2) := by decide +kernel
theorem dX3_meant_25 : decode cX3_meant 25 = .ok (.bipush 63, 2) := by decide +kernel
theorem dX3_meant_27 : decode cX3_meant 27 = .ok (.if_icmp .gt 65, 3) := by decide +kernel
theorem dX3_meant_30 : decode cX3_meant 30 = .ok (.iconst 1, 1) := by decide +kernel
theorem dX3_meant_31 : decode cX3_meant 31 = .ok (.istore 6, 2) := by decide +kernel
theorem dX3_meant_33 : decode cX3_meant 33 = .ok (.iload 6, 2) := by decide +kernel
theorem dX3_meant_35 : decode cX3_meant 35 = .ok (.iload 5, 2) := by decide +kernel
theorem dX3_meant_37 : decode cX3_meant 37 = .ok (.if_icmp .ge 49, 3) := by decide +kernel
theorem dX3_meant_40 : decode cX3_meant 40 = .ok (.aload_n 0, 1) := by decide +kernel
theorem dX3_meant_41 : decode cX3_meant 41 = .ok (.iload 5, 2) := by decide +kernel
theorem dX3_meant_43 : decode cX3_meant 43 = .ok (.iload 6, 2) := by decide +kernel
theorem dX3_meant_45 : decode cX3_meant 45 = .ok (.invokevirtual 166, 3) := by decide +kernel
theorem dX3_meant_48 : decode cX3_meant 48 = .ok (.bipush (-9), 2) := by decide +kernel
theorem dX3_meant_50 : decode cX3_meant 50 = .ok (.if_icmp .ne 30, 3) := by decide +kernel
theorem dX3_meant_53 : decode cX3_meant 53 = .ok (.iload_n 2, 1) := by decide +kernel
theorem dX3_meant_54 : decode cX3_meant 54 = .ok (.ifCond .ne 8, 3) := by decide +kernel
theorem dX3_meant_57 : decode cX3_meant 57 = .ok (.iload 5, 2) := by decide +kernel
theorem dX3_meant_59 : decode cX3_meant 59 = .ok (.goto 4, 3) := by decide +kernel
theorem dX3_meant_62 : decode cX3_meant 62 = .ok (.iload_n 3, 1) := by decide +kernel
theorem dX3_meant_63 : decode cX3_meant 63 = .ok (.istore_n 3, 1) := by decide +kernel
theorem dX3_meant_64 : decode cX3_meant 64 = .ok (.iload_n 2, 1) := by decide +kernel
theorem dX3_meant_65 : decode cX3_meant 65 = .ok (.ifCond .ne 8, 3) := by decide +kernel
theorem dX3_meant_68 : decode cX3_meant 68 = .ok (.iload 6, 2) := by decide +kernel
theorem dX3_meant_70 : decode cX3_meant 70 = .ok (.goto 5, 3) := by decide +kernel
theorem dX3_meant_73 : decode cX3_meant 73 = .ok (.iload 4, 2) := by decide +kernel
theorem dX3_meant_75 : decode cX3_meant 75 = .ok (.istore 4, 2) := by decide +kernel
theorem dX3_meant_77 : decode cX3_meant 77 = .ok (.iinc 2 1, 3) := by decide +kernel
theorem dX3_meant_80 : decode cX3_meant 80 = .ok (.iinc 6 1, 3) := by decide +kernel
theorem dX3_meant_83 : decode cX3_meant 83 = .ok (.goto (-50), 3) := by decide +kernel
theorem dX3_meant_86 : decode cX3_meant 86 = .ok (.iinc 5 2, 3) := by decide +kernel
theorem dX3_meant_89 : decode cX3_meant 89 = .ok (.goto (-66), 3) := by decide +kernel
theorem dX3_meant_92 : decode cX3_meant 92 = .ok (.iload_n 1, 1) := by decide +kernel
theorem dX3_meant_93 : decode cX3_meant 93 = .ok (.ifCond .ne 5, 3) := by decide +kernel
theorem dX3_meant_96 : decode cX3_meant 96 = .ok (.iload_n 2, 1) := by decide +kernel
theorem dX3_meant_97 : decode cX3_meant 97 = .ok (.ireturn, 1) := by decide +kernel
theorem dX3_meant_98 : decode cX3_meant 98 = .ok (.iload_n 1, 1) := by decide +kernel
theorem dX3_meant_99 : decode cX3_meant 99 = .ok (.iconst 1, 1) := by decide +kernel
theorem dX3_meant_100 : decode cX3_meant 100 = .ok (.if_icmp .ne 7, 3) := by decide +kernel
theorem dX3_meant_103 : decode cX3_meant 103 = .ok (.iload_n 3, 1) := by decide +kernel
theorem dX3_meant_104 : decode cX3_meant 104 = .ok (.goto 5, 3) := by decide +kernel
theorem dX3_meant_107 : decode cX3_meant 107 = .ok (.iload 4, 2) := by decide +kernel
theorem dX3_meant_109 : decode cX3_meant 109 = .ok (.ireturn, 1) := by decide +kernel
set_option maxRecDepth 20000 in
theorem ggX3_wrong_X3_wrongLetter : GoodIn wsX3_wrong wsX3_wrongLetter := goodIn_r _ [7, 8, 9, 10, 11, 12, 13, 14, 15, 16, 17, 18, 19, 20, 21, 6, 22, 23, 24, 25, 26, 27, 28, 29, 30, 31, 32, 33, 34, 35, 36, 37, 38, 39, 40, 41] (by decide +kernel) (by decide +kernel)
set_option maxRecDepth 20000 in
theorem gX3_wrong_X3_wrongLetter : GoodIn wsX3_wrong (wsV RX3 166 RX3 yX3_wrongLetter wsX3_wrongLetter) := goodIn_app (goodIn_of _ (by decide +kernel)) ggX3_wrong_X3_wrongLetter
theorem dX3_wrong_0 : decode cX3_wrong 0 = .ok (.aload_n 0, 1) := by decide +kernel
theorem dX3_wrong_1 : decode cX3_wrong 1 = .ok (.aload_n 0, 1) := by decide +kernel
theorem dX3_wrong_2 : decode cX3_wrong 2 = .ok (.getfield 29, 3) := by decide +kernel
theorem dX3_wrong_5 : decode cX3_wrong 5 = .ok (.aload_n 0, 1) := by decide +kernel
theorem dX3_wrong_6 : decode cX3_wrong 6 = .ok (.getfield 33, 3) := by decide +kernel
theorem dX3_wrong_9 : decode cX3_wrong 9 = .ok (.invokevirtual 166, 3) := by decide +kernel
theorem dX3_wrong_12 : decode cX3_wrong 12 = .ok (.ireturn, 1) := by decide +kernel
set_option maxRecDepth 20000 in
theorem ggX3_got_X1_size : GoodIn wsX3_got wsX1_size := goodIn_r _ [11, 12, 42, 43] (by decide +kernel) (by decide +kernel)
set_option maxRecDepth 20000 in
theorem gX3_got_X1_size : GoodIn wsX3_got (wsV RX3 66 RX1 yX1_size wsX1_size) := goodIn_app (goodIn_of _ (by decide +kernel)) ggX3_got_X1_size
set_option maxRecDepth 20000 in
theorem ggX3_got_X1_at : GoodIn wsX3_got wsX1_at := goodIn_r _ [16, 17, 42, 43] (by decide +kernel) (by decide +kernel)
set_option maxRecDepth 20000 in
theorem gX3_got_X1_at : GoodIn wsX3_got (wsV RX3 83 RX1 yX1_at wsX1_at) := goodIn_app (goodIn_of _ (by decide +kernel)) ggX3_got_X1_at
set_option maxRecDepth 20000 in
theorem ggX3_got_X3_leastUpper : GoodIn wsX3_got wsX3_leastUpper := goodIn_r _ [21, 22, 23, 20, 24] (by decide +kernel) (by decide +kernel)
set_option maxRecDepth 20000 in
theorem gX3_got_X3_leastUpper : GoodIn wsX3_got (va_wsS RX3 108 yX3_leastUpper wsX3_leastUpper) := goodIn_app (goodIn_of _ (by decide +kernel)) ggX3_got_X3_leastUpper
set_option maxRecDepth 20000 in
theorem ggX3_got_X3_leastLower : GoodIn wsX3_got wsX3_leastLower := goodIn_r _ [27, 22, 23, 20, 24] (by decide +kernel) (by decide +kernel)
set_option maxRecDepth 20000 in
theorem gX3_got_X3_leastLower : GoodIn wsX3_got (va_wsS RX3 112 yX3_leastLower wsX3_leastLower) := goodIn_app (goodIn_of _ (by decide +kernel)) ggX3_got_X3_leastLower
theorem dX3_got_0 : decode cX3_got 0 = .ok (.iload_n 1, 1) := by decide +kernel
theorem dX3_got_1 : decode cX3_got 1 = .ok (.ifCond .eq 12, 3) := by decide +kernel
theorem dX3_got_4 : decode cX3_got 4 = .ok (.iload_n 1, 1) := by decide +kernel
theorem dX3_got_5 : decode cX3_got 5 = .ok (.iconst 1, 1) := by decide +kernel
theorem dX3_got_6 : decode cX3_got 6 = .ok (.if_icmp .eq 7, 3) := by decide +kernel
theorem dX3_got_9 : decode cX3_got 9 = .ok (.ldc2_w 101, 3) := by decide +kernel
theorem dX3_got_12 : decode cX3_got 12 = .ok (.lreturn, 1) := by decide +kernel
theorem dX3_got_13 : decode cX3_got 13 = .ok (.aload_n 0, 1) := by decide +kernel
theorem dX3_got_14 : decode cX3_got 14 = .ok (.getfield 29, 3) := by decide +kernel
theorem dX3_got_17 : decode cX3_got 17 = .ok (.i2l, 1) := by decide +kernel
theorem dX3_got_18 : decode cX3_got 18 = .ok (.ldc2_w 106, 3) := by decide +kernel
theorem dX3_got_21 : decode cX3_got 21 = .ok (.lmul, 1) := by decide +kernel
theorem dX3_got_22 : decode cX3_got 22 = .ok (.lstore_n 2, 1) := by decide +kernel
theorem dX3_got_23 : decode cX3_got 23 = .ok (.aload_n 0, 1) := by decide +kernel
theorem dX3_got_24 : decode cX3_got 24 = .ok (.getfield 33, 3) := by decide +kernel
theorem dX3_got_27 : decode cX3_got 27 = .ok (.i2l, 1) := by decide +kernel
theorem dX3_got_28 : decode cX3_got 28 = .ok (.ldc2_w 106, 3) := by decide +kernel
theorem dX3_got_31 : decode cX3_got 31 = .ok (.lmul, 1) := by decide +kernel
theorem dX3_got_32 : decode cX3_got 32 = .ok (.lstore 4, 2) := by decide +kernel
theorem dX3_got_34 : decode cX3_got 34 = .ok (.iconst 0, 1) := by decide +kernel
theorem dX3_got_35 : decode cX3_got 35 = .ok (.istore 6, 2) := by decide +kernel
theorem dX3_got_37 : decode cX3_got 37 = .ok (.iload 6, 2) := by decide +kernel
theorem dX3_got_39 : decode cX3_got 39 = .ok (.aload_n 0, 1) := by decide +kernel
theorem dX3_got_40 : decode cX3_got 40 = .ok (.getfield 19, 3) := by decide +kernel
theorem dX3_got_43 : decode cX3_got 43 = .ok (.getfield 163, 3) := by decide +kernel
theorem dX3_got_46 : decode cX3_got 46 = .ok (.invokevirtual 66, 3) := by decide +kernel
theorem dX3_got_49 : decode cX3_got 49 = .ok (.if_icmp .ge 41, 3) := by decide +kernel
theorem dX3_got_52 : decode cX3_got 52 = .ok (.aload_n 0, 1) := by decide +kernel
theorem dX3_got_53 : decode cX3_got 53 = .ok (.getfield 19, 3) := by decide +kernel
theorem dX3_got_56 : decode cX3_got 56 = .ok (.getfield 163, 3) := by decide +kernel
theorem dX3_got_59 : decode cX3_got 59 = .ok (.iload 6, 2) := by decide +kernel
theorem dX3_got_61 : decode cX3_got 61 = .ok (.invokevirtual 83, 3) := by decide +kernel
theorem dX3_got_64 : decode cX3_got 64 = .ok (.lconst 0, 1) := by decide +kernel
theorem dX3_got_65 : decode cX3_got 65 = .ok (.lcmp, 1) := by decide +kernel
theorem dX3_got_66 : decode cX3_got 66 = .ok (.ifCond .ne 8, 3) := by decide +kernel
theorem dX3_got_69 : decode cX3_got 69 = .ok (.lload 4, 2) := by decide +kernel
theorem dX3_got_71 : decode cX3_got 71 = .ok (.goto 7, 3) := by decide +kernel
theorem dX3_got_74 : decode cX3_got 74 = .ok (.lload 4, 2) := by decide +kernel
theorem dX3_got_76 : decode cX3_got 76 = .ok (.lload_n 2, 1) := by decide +kernel
theorem dX3_got_77 : decode cX3_got 77 = .ok (.ladd, 1) := by decide +kernel
theorem dX3_got_78 : decode cX3_got 78 = .ok (.ldc2_w 169, 3) := by decide +kernel
theorem dX3_got_81 : decode cX3_got 81 = .ok (.ldiv, 1) := by decide +kernel
theorem dX3_got_82 : decode cX3_got 82 = .ok (.lstore 4, 2) := by decide +kernel
theorem dX3_got_84 : decode cX3_got 84 = .ok (.iinc 6 1, 3) := by decide +kernel
theorem dX3_got_87 : decode cX3_got 87 = .ok (.goto (-50), 3) := by decide +kernel
theorem dX3_got_90 : decode cX3_got 90 = .ok (.iload_n 1, 1) := by decide +kernel
theorem dX3_got_91 : decode cX3_got 91 = .ok (.ifCond .ne 12, 3) := by decide +kernel
theorem dX3_got_94 : decode cX3_got 94 = .ok (.lload 4, 2) := by decide +kernel
theorem dX3_got_96 : decode cX3_got 96 = .ok (.lload_n 2, 1) := by decide +kernel
theorem dX3_got_97 : decode cX3_got 97 = .ok (.invokestatic 108, 3) := by decide +kernel
theorem dX3_got_100 : decode cX3_got 100 = .ok (.goto 9, 3) := by decide +kernel
theorem dX3_got_103 : decode cX3_got 103 = .ok (.lload 4, 2) := by decide +kernel
theorem dX3_got_105 : decode cX3_got 105 = .ok (.lload_n 2, 1) := by decide +kernel
theorem dX3_got_106 : decode cX3_got 106 = .ok (.invokestatic 112, 3) := by decide +kernel
theorem dX3_got_109 : decode cX3_got 109 = .ok (.lreturn, 1) := by decide +kernel
set_option maxRecDepth 20000 in
theorem ggX3_saw_X3_isInner : GoodIn wsX3_saw wsX3_isInner := goodIn_r _ [6, 7, 23, 24, 25, 26, 27, 28, 29, 30, 31] (by decide +kernel) (by decide +kernel)
set_option maxRecDepth 20000 in
theorem gX3_saw_X3_isInner : GoodIn wsX3_saw (wsV RX3 132 RX3 yX3_isInner wsX3_isInner) := goodIn_app (goodIn_of _ (by decide +kernel)) ggX3_saw_X3_isInner
set_option maxRecDepth 20000 in
theorem ggX3_saw_X1_hasRoom : GoodIn wsX3_saw wsX1_hasRoom := goodIn_r _ [12, 13, 14, 37, 38] (by decide +kernel) (by decide +kernel)
set_option maxRecDepth 20000 in
theorem gX3_saw_X1_hasRoom : GoodIn wsX3_saw (wsV RX3 54 RX1 yX1_hasRoom wsX1_hasRoom) := goodIn_app (goodIn_of _ (by decide +kernel)) ggX3_saw_X1_hasRoom
set_option maxRecDepth 20000 in
theorem ggX3_saw_X1_add : GoodIn wsX3_saw wsX1_add := goodIn_r _ [18, 13, 14, 37, 38] (by decide +kernel) (by decide +kernel)
set_option maxRecDepth 20000 in
theorem gX3_saw_X1_add : GoodIn wsX3_saw (wsV RX3 62 RX1 yX1_add wsX1_add) := goodIn_app (goodIn_of _ (by decide +kernel)) ggX3_saw_X1_add
set_option maxRecDepth 20000 in
theorem ggX3_saw_X1_size : GoodIn wsX3_saw wsX1_size := goodIn_r _ [22, 13, 37, 38] (by decide +kernel) (by decide +kernel)
set_option maxRecDepth 20000 in
theorem gX3_saw_X1_size : GoodIn wsX3_saw (wsV RX3 66 RX1 yX1_size wsX1_size) := goodIn_app (goodIn_of _ (by decide +kernel)) ggX3_saw_X1_size
theorem dX3_saw_0 : decode cX3_saw 0 = .ok (.aload_n 0, 1) := by decide +kernel
theorem dX3_saw_1 : decode cX3_saw 1 = .ok (.iload_n 1, 1) := by decide +kernel
theorem dX3_saw_2 : decode cX3_saw 2 = .ok (.invokevirtual 132, 3) := by decide +kernel
theorem dX3_saw_5 : decode cX3_saw 5 = .ok (.ifCond .ne 5, 3) := by decide +kernel
theorem dX3_saw_8 : decode cX3_saw 8 = .ok (.iconst (-1), 1) := by decide +kernel
theorem dX3_saw_9 : decode cX3_saw 9 = .ok (.ireturn, 1) := by decide +kernel
theorem dX3_saw_10 : decode cX3_saw 10 = .ok (.aload_n 0, 1) := by decide +kernel
theorem dX3_saw_11 : decode cX3_saw 11 = .ok (.getfield 19, 3) := by decide +kernel
theorem dX3_saw_14 : decode cX3_saw 14 = .ok (.getfield 171, 3) := by decide +kernel
theorem dX3_saw_17 : decode cX3_saw 17 = .ok (.iconst 1, 1) := by decide +kernel
theorem dX3_saw_18 : decode cX3_saw 18 = .ok (.invokevirtual 54, 3) := by decide +kernel
theorem dX3_saw_21 : decode cX3_saw 21 = .ok (.ifCond .ne 6, 3) := by decide +kernel
theorem dX3_saw_24 : decode cX3_saw 24 = .ok (.bipush (-3), 2) := by decide +kernel
theorem dX3_saw_26 : decode cX3_saw 26 = .ok (.ireturn, 1) := by decide +kernel
theorem dX3_saw_27 : decode cX3_saw 27 = .ok (.aload_n 0, 1) := by decide +kernel
theorem dX3_saw_28 : decode cX3_saw 28 = .ok (.getfield 19, 3) := by decide +kernel
theorem dX3_saw_31 : decode cX3_saw 31 = .ok (.getfield 171, 3) := by decide +kernel
theorem dX3_saw_34 : decode cX3_saw 34 = .ok (.iload_n 1, 1) := by decide +kernel
theorem dX3_saw_35 : decode cX3_saw 35 = .ok (.i2l, 1) := by decide +kernel
theorem dX3_saw_36 : decode cX3_saw 36 = .ok (.invokevirtual 62, 3) := by decide +kernel
theorem dX3_saw_39 : decode cX3_saw 39 = .ok (.aload_n 0, 1) := by decide +kernel
theorem dX3_saw_40 : decode cX3_saw 40 = .ok (.getfield 19, 3) := by decide +kernel
theorem dX3_saw_43 : decode cX3_saw 43 = .ok (.getfield 171, 3) := by decide +kernel
theorem dX3_saw_46 : decode cX3_saw 46 = .ok (.invokevirtual 66, 3) := by decide +kernel
theorem dX3_saw_49 : decode cX3_saw 49 = .ok (.ireturn, 1) := by decide +kernel
set_option maxRecDepth 20000 in
theorem ggX3_forget_X1_empty : GoodIn wsX3_forget wsX1_empty := goodIn_r _ [6, 7, 22, 23] (by decide +kernel) (by decide +kernel)
set_option maxRecDepth 20000 in
theorem gX3_forget_X1_empty : GoodIn wsX3_forget (wsV RX3 70 RX1 yX1_empty wsX1_empty) := goodIn_app (goodIn_of _ (by decide +kernel)) ggX3_forget_X1_empty
theorem dX3_forget_0 : decode cX3_forget 0 = .ok (.aload_n 0, 1) := by decide +kernel
theorem dX3_forget_1 : decode cX3_forget 1 = .ok (.getfield 19, 3) := by decide +kernel
theorem dX3_forget_4 : decode cX3_forget 4 = .ok (.getfield 171, 3) := by decide +kernel
theorem dX3_forget_7 : decode cX3_forget 7 = .ok (.invokevirtual 70, 3) := by decide +kernel
theorem dX3_forget_10 : decode cX3_forget 10 = .ok (.ireturn, 1) := by decide +kernel
set_option maxRecDepth 20000 in
theorem ggX3_from_X3_seenSet : GoodIn wsX3_from wsX3_seenSet := goodIn_r _ [6, 7, 8, 9, 10, 11, 12, 13, 14, 15, 16, 17, 18, 19, 20, 5, 21, 32, 33, 34, 35, 36, 37, 38, 39, 40, 41, 42, 43, 44, 45, 46, 47] (by decide +kernel) (by decide +kernel)
set_option maxRecDepth 20000 in
theorem gX3_from_X3_seenSet : GoodIn wsX3_from (wsV RX3 174 RX3 yX3_seenSet wsX3_seenSet) := goodIn_app (goodIn_of _ (by decide +kernel)) ggX3_from_X3_seenSet
set_option maxRecDepth 20000 in
theorem ggX3_from_X3_waysFrom : GoodIn wsX3_from wsX3_waysFrom := goodIn_r _ [25, 1, 19, 20, 5, 21, 26, 27, 28, 29, 30, 31, 32, 33, 34, 35, 36, 37, 38, 39, 40] (by decide +kernel) (by decide +kernel)
set_option maxRecDepth 20000 in
theorem gX3_from_X3_waysFrom : GoodIn wsX3_from (wsV RX3 178 RX3 yX3_waysFrom wsX3_waysFrom) := goodIn_app (goodIn_of _ (by decide +kernel)) ggX3_from_X3_waysFrom
theorem dX3_from_0 : decode cX3_from 0 = .ok (.iload_n 1, 1) := by decide +kernel
theorem dX3_from_1 : decode cX3_from 1 = .ok (.ifCond .eq 10, 3) := by decide +kernel
theorem dX3_from_4 : decode cX3_from 4 = .ok (.iload_n 1, 1) := by decide +kernel
theorem dX3_from_5 : decode cX3_from 5 = .ok (.iconst 1, 1) := by decide +kernel
theorem dX3_from_6 : decode cX3_from 6 = .ok (.if_icmp .eq 5, 3) := by decide +kernel
theorem dX3_from_9 : decode cX3_from 9 = .ok (.iconst (-1), 1) := by decide +kernel
theorem dX3_from_10 : decode cX3_from 10 = .ok (.ireturn, 1) := by decide +kernel
theorem dX3_from_11 : decode cX3_from 11 = .ok (.aload_n 0, 1) := by decide +kernel
theorem dX3_from_12 : decode cX3_from 12 = .ok (.invokevirtual 174, 3) := by decide +kernel
theorem dX3_from_15 : decode cX3_from 15 = .ok (.lstore_n 2, 1) := by decide +kernel
theorem dX3_from_16 : decode cX3_from 16 = .ok (.iconst 0, 1) := by decide +kernel
theorem dX3_from_17 : decode cX3_from 17 = .ok (.istore 4, 2) := by decide +kernel
theorem dX3_from_19 : decode cX3_from 19 = .ok (.bipush (-9), 2) := by decide +kernel
theorem dX3_from_21 : decode cX3_from 21 = .ok (.istore 5, 2) := by decide +kernel
theorem dX3_from_23 : decode cX3_from 23 = .ok (.iconst 1, 1) := by decide +kernel
theorem dX3_from_24 : decode cX3_from 24 = .ok (.istore 6, 2) := by decide +kernel
theorem dX3_from_26 : decode cX3_from 26 = .ok (.iload 6, 2) := by decide +kernel
theorem dX3_from_28 : decode cX3_from 28 = .ok (.aload_n 0, 1) := by decide +kernel
theorem dX3_from_29 : decode cX3_from 29 = .ok (.getfield 29, 3) := by decide +kernel
theorem dX3_from_32 : decode cX3_from 32 = .ok (.if_icmp .ge 41, 3) := by decide +kernel
theorem dX3_from_35 : decode cX3_from 35 = .ok (.aload_n 0, 1) := by decide +kernel
theorem dX3_from_36 : decode cX3_from 36 = .ok (.iload 6, 2) := by decide +kernel
theorem dX3_from_38 : decode cX3_from 38 = .ok (.lload_n 2, 1) := by decide +kernel
theorem dX3_from_39 : decode cX3_from 39 = .ok (.invokevirtual 178, 3) := by decide +kernel
theorem dX3_from_42 : decode cX3_from 42 = .ok (.istore 7, 2) := by decide +kernel
theorem dX3_from_44 : decode cX3_from 44 = .ok (.iload 7, 2) := by decide +kernel
theorem dX3_from_46 : decode cX3_from 46 = .ok (.ifCond .le 14, 3) := by decide +kernel
theorem dX3_from_49 : decode cX3_from 49 = .ok (.iload 5, 2) := by decide +kernel
theorem dX3_from_51 : decode cX3_from 51 = .ok (.bipush (-9), 2) := by decide +kernel
theorem dX3_from_53 : decode cX3_from 53 = .ok (.if_icmp .ne 7, 3) := by decide +kernel
theorem dX3_from_56 : decode cX3_from 56 = .ok (.iload 6, 2) := by decide +kernel
theorem dX3_from_58 : decode cX3_from 58 = .ok (.istore 5, 2) := by decide +kernel
theorem dX3_from_60 : decode cX3_from 60 = .ok (.iload 4, 2) := by decide +kernel
theorem dX3_from_62 : decode cX3_from 62 = .ok (.iload 7, 2) := by decide +kernel
theorem dX3_from_64 : decode cX3_from 64 = .ok (.iadd, 1) := by decide +kernel
theorem dX3_from_65 : decode cX3_from 65 = .ok (.istore 4, 2) := by decide +kernel
theorem dX3_from_67 : decode cX3_from 67 = .ok (.iinc 6 1, 3) := by decide +kernel
theorem dX3_from_70 : decode cX3_from 70 = .ok (.goto (-44), 3) := by decide +kernel
theorem dX3_from_73 : decode cX3_from 73 = .ok (.iload_n 1, 1) := by decide +kernel
theorem dX3_from_74 : decode cX3_from 74 = .ok (.ifCond .ne 8, 3) := by decide +kernel
theorem dX3_from_77 : decode cX3_from 77 = .ok (.iload 4, 2) := by decide +kernel
theorem dX3_from_79 : decode cX3_from 79 = .ok (.goto 5, 3) := by decide +kernel
theorem dX3_from_82 : decode cX3_from 82 = .ok (.iload 5, 2) := by decide +kernel
theorem dX3_from_84 : decode cX3_from 84 = .ok (.ireturn, 1) := by decide +kernel
set_option maxRecDepth 20000 in
theorem ggX3_mark_X3_isCrease : GoodIn wsX3_mark wsX3_isCrease := goodIn_r _ [6, 7, 8, 9, 10, 11, 12, 13, 14, 15, 16, 17, 18, 19, 62, 63, 64, 65, 66, 67, 68, 69, 70, 71, 72, 73, 74, 75, 76, 77] (by decide +kernel) (by decide +kernel)
set_option maxRecDepth 20000 in
theorem gX3_mark_X3_isCrease : GoodIn wsX3_mark (wsV RX3 98 RX3 yX3_isCrease wsX3_isCrease) := goodIn_app (goodIn_of _ (by decide +kernel)) ggX3_mark_X3_isCrease
set_option maxRecDepth 20000 in
theorem ggX3_mark_X3_asCrease : GoodIn wsX3_mark wsX3_asCrease := goodIn_r _ [23, 24, 62, 63, 64, 65, 66, 67, 68, 69, 70] (by decide +kernel) (by decide +kernel)
set_option maxRecDepth 20000 in
theorem gX3_mark_X3_asCrease : GoodIn wsX3_mark (wsV RX3 183 RX3 yX3_asCrease wsX3_asCrease) := goodIn_app (goodIn_of _ (by decide +kernel)) ggX3_mark_X3_asCrease
set_option maxRecDepth 20000 in
theorem ggX3_mark_X3_asPinch : GoodIn wsX3_mark wsX3_asPinch := goodIn_r _ [28, 24, 29, 30, 31, 32, 5, 33, 7, 34, 35, 36, 37, 17, 38, 39, 20, 21, 22, 23, 62, 63, 64, 65, 66, 67, 68, 69, 70, 71, 72, 73, 74, 75, 76, 77] (by decide +kernel) (by decide +kernel)
set_option maxRecDepth 20000 in
theorem gX3_mark_X3_asPinch : GoodIn wsX3_mark (wsV RX3 186 RX3 yX3_asPinch wsX3_asPinch) := goodIn_app (goodIn_of _ (by decide +kernel)) ggX3_mark_X3_asPinch
set_option maxRecDepth 20000 in
theorem ggX3_mark_X3_asEnd : GoodIn wsX3_mark wsX3_asEnd := goodIn_r _ [43, 24, 44, 7, 20, 21, 22, 5, 23, 8, 9, 10, 11, 12, 13, 14, 15, 16, 17, 18, 19, 62, 63, 64, 65, 66, 67, 68, 69, 70, 71, 72, 73, 74, 75, 76, 77] (by decide +kernel) (by decide +kernel)
set_option maxRecDepth 20000 in
theorem gX3_mark_X3_asEnd : GoodIn wsX3_mark (wsV RX3 189 RX3 yX3_asEnd wsX3_asEnd) := goodIn_app (goodIn_of _ (by decide +kernel)) ggX3_mark_X3_asEnd
set_option maxRecDepth 20000 in
theorem ggX3_mark_X3_asThumb : GoodIn wsX3_mark wsX3_asThumb := goodIn_r _ [48, 24, 49, 25, 26, 27, 5, 28, 29, 30, 31, 32, 33, 7, 34, 35, 36, 37, 17, 38, 39, 20, 21, 22, 23, 62, 63, 64, 65, 66, 67, 68, 69, 70, 71, 72, 73, 74, 75, 76, 77] (by decide +kernel) (by decide +kernel)
set_option maxRecDepth 20000 in
theorem gX3_mark_X3_asThumb : GoodIn wsX3_mark (wsV RX3 192 RX3 yX3_asThumb wsX3_asThumb) := goodIn_app (goodIn_of _ (by decide +kernel)) ggX3_mark_X3_asThumb
set_option maxRecDepth 20000 in
theorem ggX3_mark_X3_asCorner : GoodIn wsX3_mark wsX3_asCorner := goodIn_r _ [53, 24, 54, 7, 40, 41, 42, 5, 43, 44, 20, 21, 22, 23, 8, 9, 10, 11, 12, 13, 14, 15, 16, 17, 18, 19, 55, 62, 63, 64, 65, 66, 67, 68, 69, 70, 71, 72, 73, 74, 75, 76, 77] (by decide +kernel) (by decide +kernel)
set_option maxRecDepth 20000 in
theorem gX3_mark_X3_asCorner : GoodIn wsX3_mark (wsV RX3 195 RX3 yX3_asCorner wsX3_asCorner) := goodIn_app (goodIn_of _ (by decide +kernel)) ggX3_mark_X3_asCorner
set_option maxRecDepth 20000 in
theorem ggX3_mark_X3_asSeam : GoodIn wsX3_mark wsX3_asSeam := goodIn_r _ [59, 24, 60, 61, 20, 21, 22, 5, 23, 62, 63, 64, 65, 66, 67, 68, 69, 70] (by decide +kernel) (by decide +kernel)
set_option maxRecDepth 20000 in
theorem gX3_mark_X3_asSeam : GoodIn wsX3_mark (wsV RX3 198 RX3 yX3_asSeam wsX3_asSeam) := goodIn_app (goodIn_of _ (by decide +kernel)) ggX3_mark_X3_asSeam
theorem dX3_mark_0 : decode cX3_mark 0 = .ok (.aload_n 0, 1) := by decide +kernel
theorem dX3_mark_1 : decode cX3_mark 1 = .ok (.iload_n 2, 1) := by decide +kernel
theorem dX3_mark_2 : decode cX3_mark 2 = .ok (.invokevirtual 98, 3) := by decide +kernel
theorem dX3_mark_5 : decode cX3_mark 5 = .ok (.ifCond .ne 6, 3) := by decide +kernel
theorem dX3_mark_8 : decode cX3_mark 8 = .ok (.ldc 182, 2) := by decide +kernel
theorem dX3_mark_10 : decode cX3_mark 10 = .ok (.ireturn, 1) := by decide +kernel
theorem dX3_mark_11 : decode cX3_mark 11 = .ok (.iload_n 1, 1) := by decide +kernel
theorem dX3_mark_12 : decode cX3_mark 12 = .ok (.tableswitch 76 0 5 #[40, 46, 52, 58, 64, 70], 40) := by decide +kernel
theorem dX3_mark_52 : decode cX3_mark 52 = .ok (.aload_n 0, 1) := by decide +kernel
theorem dX3_mark_53 : decode cX3_mark 53 = .ok (.iload_n 2, 1) := by decide +kernel
theorem dX3_mark_54 : decode cX3_mark 54 = .ok (.invokevirtual 183, 3) := by decide +kernel
theorem dX3_mark_57 : decode cX3_mark 57 = .ok (.ireturn, 1) := by decide +kernel
theorem dX3_mark_58 : decode cX3_mark 58 = .ok (.aload_n 0, 1) := by decide +kernel
theorem dX3_mark_59 : decode cX3_mark 59 = .ok (.iload_n 2, 1) := by decide +kernel
theorem dX3_mark_60 : decode cX3_mark 60 = .ok (.invokevirtual 186, 3) := by decide +kernel
theorem dX3_mark_63 : decode cX3_mark 63 = .ok (.ireturn, 1) := by decide +kernel
theorem dX3_mark_64 : decode cX3_mark 64 = .ok (.aload_n 0, 1) := by decide +kernel
theorem dX3_mark_65 : decode cX3_mark 65 = .ok (.iload_n 2, 1) := by decide +kernel
theorem dX3_mark_66 : decode cX3_mark 66 = .ok (.invokevirtual 189, 3) := by decide +kernel
theorem dX3_mark_69 : decode cX3_mark 69 = .ok (.ireturn, 1) := by decide +kernel
theorem dX3_mark_70 : decode cX3_mark 70 = .ok (.aload_n 0, 1) := by decide +kernel
theorem dX3_mark_71 : decode cX3_mark 71 = .ok (.iload_n 2, 1) := by decide +kernel
theorem dX3_mark_72 : decode cX3_mark 72 = .ok (.invokevirtual 192, 3) := by decide +kernel
theorem dX3_mark_75 : decode cX3_mark 75 = .ok (.ireturn, 1) := by decide +kernel
theorem dX3_mark_76 : decode cX3_mark 76 = .ok (.aload_n 0, 1) := by decide +kernel
theorem dX3_mark_77 : decode cX3_mark 77 = .ok (.iload_n 2, 1) := by decide +kernel
theorem dX3_mark_78 : decode cX3_mark 78 = .ok (.invokevirtual 195, 3) := by decide +kernel
theorem dX3_mark_81 : decode cX3_mark 81 = .ok (.ireturn, 1) := by decide +kernel
theorem dX3_mark_82 : decode cX3_mark 82 = .ok (.aload_n 0, 1) := by decide +kernel
theorem dX3_mark_83 : decode cX3_mark 83 = .ok (.iload_n 2, 1) := by decide +kernel
theorem dX3_mark_84 : decode cX3_mark 84 = .ok (.invokevirtual 198, 3) := by decide +kernel
theorem dX3_mark_87 : decode cX3_mark 87 = .ok (.ireturn, 1) := by decide +kernel
theorem dX3_mark_88 : decode cX3_mark 88 = .ok (.ldc 182, 2) := by decide +kernel
theorem dX3_mark_90 : decode cX3_mark 90 = .ok (.ireturn, 1) := by decide +kernel
set_option maxRecDepth 20000 in
theorem ggX3_keep_X3_imageOf : GoodIn wsX3_keep wsX3_imageOf := goodIn_r _ [6, 7, 8, 46, 47, 48, 49, 50, 51, 52, 53, 54] (by decide +kernel) (by decide +kernel)
set_option maxRecDepth 20000 in
theorem gX3_keep_X3_imageOf : GoodIn wsX3_keep (wsV RX3 201 RX3 yX3_imageOf wsX3_imageOf) := goodIn_app (goodIn_of _ (by decide +kernel)) ggX3_keep_X3_imageOf
set_option maxRecDepth 20000 in
theorem ggX3_keep_X0_copy : GoodIn wsX3_keep wsX0_copy := goodIn_r _ [13, 14, 15, 16, 17, 18, 19, 20, 21, 22, 23, 24, 25, 26, 27, 28, 29, 30, 31, 32, 33, 34, 35, 36, 37, 55, 56, 57, 58, 59, 60, 61] (by decide +kernel) (by decide +kernel)
set_option maxRecDepth 20000 in
theorem gX3_keep_X0_copy : GoodIn wsX3_keep (wsV RX3 205 RX0 yX0_copy wsX0_copy) := goodIn_app (goodIn_of _ (by decide +kernel)) ggX3_keep_X0_copy
set_option maxRecDepth 20000 in
theorem ggX3_keep_X0_creases : GoodIn wsX3_keep wsX0_creases := goodIn_r _ [41, 14, 42, 43, 44, 22, 45, 24, 55, 56, 57, 58, 59, 60, 61] (by decide +kernel) (by decide +kernel)
set_option maxRecDepth 20000 in
theorem gX3_keep_X0_creases : GoodIn wsX3_keep (wsV RX3 138 RX0 yX0_creases wsX0_creases) := goodIn_app (goodIn_of _ (by decide +kernel)) ggX3_keep_X0_creases
theorem dX3_keep_0 : decode cX3_keep 0 = .ok (.aload_n 0, 1) := by decide +kernel
theorem dX3_keep_1 : decode cX3_keep 1 = .ok (.iload_n 1, 1) := by decide +kernel
theorem dX3_keep_2 : decode cX3_keep 2 = .ok (.invokevirtual 201, 3) := by decide +kernel
theorem dX3_keep_5 : decode cX3_keep 5 = .ok (.astore_n 2, 1) := by decide +kernel
theorem dX3_keep_6 : decode cX3_keep 6 = .ok (.aload_n 2, 1) := by decide +kernel
theorem dX3_keep_7 : decode cX3_keep 7 = .ok (.ifnonnull 5, 3) := by decide +kernel
theorem dX3_keep_10 : decode cX3_keep 10 = .ok (.iconst (-1), 1) := by decide +kernel
theorem dX3_keep_11 : decode cX3_keep 11 = .ok (.ireturn, 1) := by decide +kernel
theorem dX3_keep_12 : decode cX3_keep 12 = .ok (.aload_n 2, 1) := by decide +kernel
theorem dX3_keep_13 : decode cX3_keep 13 = .ok (.aload_n 0, 1) := by decide +kernel
theorem dX3_keep_14 : decode cX3_keep 14 = .ok (.getfield 19, 3) := by decide +kernel
theorem dX3_keep_17 : decode cX3_keep 17 = .ok (.invokevirtual 205, 3) := by decide +kernel
theorem dX3_keep_20 : decode cX3_keep 20 = .ok (.aload_n 0, 1) := by decide +kernel
theorem dX3_keep_21 : decode cX3_keep 21 = .ok (.getfield 19, 3) := by decide +kernel
theorem dX3_keep_24 : decode cX3_keep 24 = .ok (.invokevirtual 138, 3) := by decide +kernel
theorem dX3_keep_27 : decode cX3_keep 27 = .ok (.ireturn, 1) := by decide +kernel
set_option maxRecDepth 20000 in
theorem ggX3_back_X3_imageOf : GoodIn wsX3_back wsX3_imageOf := goodIn_r _ [6, 7, 8, 46, 47, 48, 49, 50, 51, 52, 53, 54] (by decide +kernel) (by decide +kernel)
set_option maxRecDepth 20000 in
theorem gX3_back_X3_imageOf : GoodIn wsX3_back (wsV RX3 201 RX3 yX3_imageOf wsX3_imageOf) := goodIn_app (goodIn_of _ (by decide +kernel)) ggX3_back_X3_imageOf
set_option maxRecDepth 20000 in
theorem ggX3_back_X0_creases : GoodIn wsX3_back wsX0_creases := goodIn_r _ [13, 14, 15, 16, 17, 18, 19, 20, 55, 56, 57, 58, 59, 60, 61] (by decide +kernel) (by decide +kernel)
set_option maxRecDepth 20000 in
theorem gX3_back_X0_creases : GoodIn wsX3_back (wsV RX3 138 RX0 yX0_creases wsX0_creases) := goodIn_app (goodIn_of _ (by decide +kernel)) ggX3_back_X0_creases
set_option maxRecDepth 20000 in
theorem ggX3_back_X0_copy : GoodIn wsX3_back wsX0_copy := goodIn_r _ [24, 14, 25, 26, 27, 28, 29, 30, 31, 18, 32, 20, 33, 34, 35, 36, 37, 38, 39, 40, 41, 42, 43, 44, 45, 55, 56, 57, 58, 59, 60, 61] (by decide +kernel) (by decide +kernel)
set_option maxRecDepth 20000 in
theorem gX3_back_X0_copy : GoodIn wsX3_back (wsV RX3 205 RX0 yX0_copy wsX0_copy) := goodIn_app (goodIn_of _ (by decide +kernel)) ggX3_back_X0_copy
theorem dX3_back_0 : decode cX3_back 0 = .ok (.aload_n 0, 1) := by decide +kernel
theorem dX3_back_1 : decode cX3_back 1 = .ok (.iload_n 1, 1) := by decide +kernel
theorem dX3_back_2 : decode cX3_back 2 = .ok (.invokevirtual 201, 3) := by decide +kernel
theorem dX3_back_5 : decode cX3_back 5 = .ok (.astore_n 2, 1) := by decide +kernel
theorem dX3_back_6 : decode cX3_back 6 = .ok (.aload_n 2, 1) := by decide +kernel
theorem dX3_back_7 : decode cX3_back 7 = .ok (.ifnonnull 5, 3) := by decide +kernel
theorem dX3_back_10 : decode cX3_back 10 = .ok (.iconst (-1), 1) := by decide +kernel
theorem dX3_back_11 : decode cX3_back 11 = .ok (.ireturn, 1) := by decide +kernel
theorem dX3_back_12 : decode cX3_back 12 = .ok (.aload_n 2, 1) := by decide +kernel
theorem dX3_back_13 : decode cX3_back 13 = .ok (.invokevirtual 138, 3) := by decide +kernel
theorem dX3_back_16 : decode cX3_back 16 = .ok (.ifCond .ne 6, 3) := by decide +kernel
theorem dX3_back_19 : decode cX3_back 19 = .ok (.bipush (-2), 2) := by decide +kernel
theorem dX3_back_21 : decode cX3_back 21 = .ok (.ireturn, 1) := by decide +kernel
theorem dX3_back_22 : decode cX3_back 22 = .ok (.aload_n 0, 1) := by decide +kernel
theorem dX3_back_23 : decode cX3_back 23 = .ok (.getfield 19, 3) := by decide +kernel
theorem dX3_back_26 : decode cX3_back 26 = .ok (.aload_n 2, 1) := by decide +kernel
theorem dX3_back_27 : decode cX3_back 27 = .ok (.invokevirtual 205, 3) := by decide +kernel
theorem dX3_back_30 : decode cX3_back 30 = .ok (.aload_n 0, 1) := by decide +kernel
theorem dX3_back_31 : decode cX3_back 31 = .ok (.getfield 19, 3) := by decide +kernel
theorem dX3_back_34 : decode cX3_back 34 = .ok (.invokevirtual 138, 3) := by decide +kernel
theorem dX3_back_37 : decode cX3_back 37 = .ok (.ireturn, 1) := by decide +kernel
set_option maxRecDepth 20000 in
theorem ggX3_count_X0_creases : GoodIn wsX3_count wsX0_creases := goodIn_r _ [7, 8, 9, 10, 11, 12, 13, 14, 25, 26, 27, 28, 29, 45, 46] (by decide +kernel) (by decide +kernel)
set_option maxRecDepth 20000 in
theorem gX3_count_X0_creases : GoodIn wsX3_count (wsV RX3 138 RX0 yX0_creases wsX0_creases) := goodIn_app (goodIn_of _ (by decide +kernel)) ggX3_count_X0_creases
set_option maxRecDepth 20000 in
theorem ggX3_count_X1_size : GoodIn wsX3_count wsX1_size := goodIn_r _ [13, 14, 45, 46] (by decide +kernel) (by decide +kernel)
set_option maxRecDepth 20000 in
theorem gX3_count_X1_size : GoodIn wsX3_count (wsV RX3 66 RX1 yX1_size wsX1_size) := goodIn_app (goodIn_of _ (by decide +kernel)) ggX3_count_X1_size
theorem dX3_count_0 : decode cX3_count 0 = .ok (.iload_n 1, 1) := by decide +kernel
theorem dX3_count_1 : decode cX3_count 1 = .ok (.tableswitch 72 0 3 #[31, 39, 50, 61], 31) := by decide +kernel
theorem dX3_count_32 : decode cX3_count 32 = .ok (.aload_n 0, 1) := by decide +kernel
theorem dX3_count_33 : decode cX3_count 33 = .ok (.getfield 19, 3) := by decide +kernel
theorem dX3_count_36 : decode cX3_count 36 = .ok (.invokevirtual 138, 3) := by decide +kernel
theorem dX3_count_39 : decode cX3_count 39 = .ok (.ireturn, 1) := by decide +kernel
theorem dX3_count_40 : decode cX3_count 40 = .ok (.aload_n 0, 1) := by decide +kernel
theorem dX3_count_41 : decode cX3_count 41 = .ok (.getfield 19, 3) := by decide +kernel
theorem dX3_count_44 : decode cX3_count 44 = .ok (.getfield 163, 3) := by decide +kernel
theorem dX3_count_47 : decode cX3_count 47 = .ok (.invokevirtual 66, 3) := by decide +kernel
theorem dX3_count_50 : decode cX3_count 50 = .ok (.ireturn, 1) := by decide +kernel
theorem dX3_count_51 : decode cX3_count 51 = .ok (.aload_n 0, 1) := by decide +kernel
theorem dX3_count_52 : decode cX3_count 52 = .ok (.getfield 19, 3) := by decide +kernel
theorem dX3_count_55 : decode cX3_count 55 = .ok (.getfield 171, 3) := by decide +kernel
theorem dX3_count_58 : decode cX3_count 58 = .ok (.invokevirtual 66, 3) := by decide +kernel
theorem dX3_count_61 : decode cX3_count 61 = .ok (.ireturn, 1) := by decide +kernel
theorem dX3_count_62 : decode cX3_count 62 = .ok (.aload_n 0, 1) := by decide +kernel
theorem dX3_count_63 : decode cX3_count 63 = .ok (.getfield 12, 3) := by decide +kernel
theorem dX3_count_66 : decode cX3_count 66 = .ok (.getfield 50, 3) := by decide +kernel
theorem dX3_count_69 : decode cX3_count 69 = .ok (.invokevirtual 66, 3) := by decide +kernel
theorem dX3_count_72 : decode cX3_count 72 = .ok (.ireturn, 1) := by decide +kernel
theorem dX3_count_73 : decode cX3_count 73 = .ok (.iconst (-1), 1) := by decide +kernel
theorem dX3_count_74 : decode cX3_count 74 = .ok (.ireturn, 1) := by decide +kernel
theorem dX3_trace_0 : decode cX3_trace 0 = .ok (.aload_n 0, 1) := by decide +kernel
theorem dX3_trace_1 : decode cX3_trace 1 = .ok (.getfield 42, 3) := by decide +kernel
theorem dX3_trace_4 : decode cX3_trace 4 = .ok (.lreturn, 1) := by decide +kernel
set_option maxRecDepth 20000 in
theorem ggX3_isCrease_X0_creases : GoodIn wsX3_isCrease wsX0_creases := goodIn_r _ [6, 7, 8, 9, 10, 11, 12, 13, 23, 24, 25, 26, 27, 28, 29] (by decide +kernel) (by decide +kernel)
set_option maxRecDepth 20000 in
theorem gX3_isCrease_X0_creases : GoodIn wsX3_isCrease (wsV RX3 138 RX0 yX0_creases wsX0_creases) := goodIn_app (goodIn_of _ (by decide +kernel)) ggX3_isCrease_X0_creases
theorem dX3_isCrease_0 : decode cX3_isCrease 0 = .ok (.iload_n 1, 1) := by decide +kernel
theorem dX3_isCrease_1 : decode cX3_isCrease 1 = .ok (.ifCond .lt 18, 3) := by decide +kernel
theorem dX3_isCrease_4 : decode cX3_isCrease 4 = .ok (.iload_n 1, 1) := by decide +kernel
theorem dX3_isCrease_5 : decode cX3_isCrease 5 = .ok (.aload_n 0, 1) := by decide +kernel
theorem dX3_isCrease_6 : decode cX3_isCrease 6 = .ok (.getfield 19, 3) := by decide +kernel
theorem dX3_isCrease_9 : decode cX3_isCrease 9 = .ok (.invokevirtual 138, 3) := by decide +kernel
theorem dX3_isCrease_12 : decode cX3_isCrease 12 = .ok (.if_icmp .ge 7, 3) := by decide +kernel
theorem dX3_isCrease_15 : decode cX3_isCrease 15 = .ok (.iconst 1, 1) := by decide +kernel
theorem dX3_isCrease_16 : decode cX3_isCrease 16 = .ok (.goto 4, 3) := by decide +kernel
theorem dX3_isCrease_19 : decode cX3_isCrease 19 = .ok (.iconst 0, 1) := by decide +kernel
theorem dX3_isCrease_20 : decode cX3_isCrease 20 = .ok (.ireturn, 1) := by decide +kernel
set_option maxRecDepth 20000 in
theorem ggX3_isFolded_X0_creases : GoodIn wsX3_isFolded wsX0_creases := goodIn_r _ [6, 7, 8, 9, 10, 11, 12, 13, 23, 24, 25, 26, 27, 28, 29] (by decide +kernel) (by decide +kernel)
set_option maxRecDepth 20000 in
theorem gX3_isFolded_X0_creases : GoodIn wsX3_isFolded (wsV RX3 138 RX0 yX0_creases wsX0_creases) := goodIn_app (goodIn_of _ (by decide +kernel)) ggX3_isFolded_X0_creases
theorem dX3_isFolded_0 : decode cX3_isFolded 0 = .ok (.aload_n 0, 1) := by decide +kernel
theorem dX3_isFolded_1 : decode cX3_isFolded 1 = .ok (.getfield 19, 3) := by decide +kernel
theorem dX3_isFolded_4 : decode cX3_isFolded 4 = .ok (.invokevirtual 138, 3) := by decide +kernel
theorem dX3_isFolded_7 : decode cX3_isFolded 7 = .ok (.bipush 23, 2) := by decide +kernel
theorem dX3_isFolded_9 : decode cX3_isFolded 9 = .ok (.if_icmp .lt 7, 3) := by decide +kernel
theorem dX3_isFolded_12 : decode cX3_isFolded 12 = .ok (.iconst 1, 1) := by decide +kernel
theorem dX3_isFolded_13 : decode cX3_isFolded 13 = .ok (.goto 4, 3) := by decide +kernel
theorem dX3_isFolded_16 : decode cX3_isFolded 16 = .ok (.iconst 0, 1) := by decide +kernel
theorem dX3_isFolded_17 : decode cX3_isFolded 17 = .ok (.ireturn, 1) := by decide +kernel
set_option maxRecDepth 20000 in
theorem ggX3_latest_X0_creases : GoodIn wsX3_latest wsX0_creases := goodIn_r _ [6, 7, 8, 9, 10, 11, 12, 13, 23, 24, 25, 26, 27, 28, 29] (by decide +kernel) (by decide +kernel)
set_option maxRecDepth 20000 in
theorem gX3_latest_X0_creases : GoodIn wsX3_latest (wsV RX3 138 RX0 yX0_creases wsX0_creases) := goodIn_app (goodIn_of _ (by decide +kernel)) ggX3_latest_X0_creases
theorem dX3_latest_0 : decode cX3_latest 0 = .ok (.aload_n 0, 1) := by decide +kernel
theorem dX3_latest_1 : decode cX3_latest 1 = .ok (.getfield 19, 3) := by decide +kernel
theorem dX3_latest_4 : decode cX3_latest 4 = .ok (.invokevirtual 138, 3) := by decide +kernel
theorem dX3_latest_7 : decode cX3_latest 7 = .ok (.iconst 1, 1) := by decide +kernel
theorem dX3_latest_8 : decode cX3_latest 8 = .ok (.isub, 1) := by decide +kernel
theorem dX3_latest_9 : decode cX3_latest 9 = .ok (.ireturn, 1) := by decide +kernel
set_option maxRecDepth 20000 in
theorem ggX3_partOf_X1_at : GoodIn wsX3_partOf wsX1_at := goodIn_r _ [7, 8, 23, 24] (by decide +kernel) (by decide +kernel)
set_option maxRecDepth 20000 in
theorem gX3_partOf_X1_at : GoodIn wsX3_partOf (wsV RX3 83 RX1 yX1_at wsX1_at) := goodIn_app (goodIn_of _ (by decide +kernel)) ggX3_partOf_X1_at
theorem dX3_partOf_0 : decode cX3_partOf 0 = .ok (.aload_n 0, 1) := by decide +kernel
theorem dX3_partOf_1 : decode cX3_partOf 1 = .ok (.getfield 19, 3) := by decide +kernel
theorem dX3_partOf_4 : decode cX3_partOf 4 = .ok (.getfield 103, 3) := by decide +kernel
theorem dX3_partOf_7 : decode cX3_partOf 7 = .ok (.iload_n 1, 1) := by decide +kernel
theorem dX3_partOf_8 : decode cX3_partOf 8 = .ok (.invokevirtual 83, 3) := by decide +kernel
theorem dX3_partOf_11 : decode cX3_partOf 11 = .ok (.lstore_n 2, 1) := by decide +kernel
theorem dX3_partOf_12 : decode cX3_partOf 12 = .ok (.lload_n 2, 1) := by decide +kernel
theorem dX3_partOf_13 : decode cX3_partOf 13 = .ok (.ldc2_w 106, 3) := by decide +kernel
theorem dX3_partOf_16 : decode cX3_partOf 16 = .ok (.lrem, 1) := by decide +kernel
theorem dX3_partOf_17 : decode cX3_partOf 17 = .ok (.lconst 0, 1) := by decide +kernel
theorem dX3_partOf_18 : decode cX3_partOf 18 = .ok (.lcmp, 1) := by decide +kernel
theorem dX3_partOf_19 : decode cX3_partOf 19 = .ok (.ifCond .ne 12, 3) := by decide +kernel
theorem dX3_partOf_22 : decode cX3_partOf 22 = .ok (.lload_n 2, 1) := by decide +kernel
theorem dX3_partOf_23 : decode cX3_partOf 23 = .ok (.ldc2_w 106, 3) := by decide +kernel
theorem dX3_partOf_26 : decode cX3_partOf 26 = .ok (.ldiv, 1) := by decide +kernel
theorem dX3_partOf_27 : decode cX3_partOf 27 = .ok (.l2i, 1) := by decide +kernel
theorem dX3_partOf_28 : decode cX3_partOf 28 = .ok (.goto 5, 3) := by decide +kernel
theorem dX3_partOf_31 : decode cX3_partOf 31 = .ok (.bipush (-9), 2) := by decide +kernel
theorem dX3_partOf_33 : decode cX3_partOf 33 = .ok (.ireturn, 1) := by decide +kernel
set_option maxRecDepth 20000 in
theorem ggX3_creasesAtNoPart_X0_creases : GoodIn wsX3_creasesAtNoPart wsX0_creases := goodIn_r _ [6, 7, 8, 9, 10, 11, 12, 13, 34, 35, 36, 37, 38, 39, 40] (by decide +kernel) (by decide +kernel)
set_option maxRecDepth 20000 in
theorem gX3_creasesAtNoPart_X0_creases : GoodIn wsX3_creasesAtNoPart (wsV RX3 138 RX0 yX0_creases wsX0_creases) := goodIn_app (goodIn_of _ (by decide +kernel)) ggX3_creasesAtNoPart_X0_creases
set_option maxRecDepth 20000 in
theorem ggX3_creasesAtNoPart_X3_partOf : GoodIn wsX3_creasesAtNoPart wsX3_partOf := goodIn_r _ [18, 1, 19, 20, 21, 22, 11, 23, 24, 25, 26, 27, 28, 29, 30, 31, 32, 33, 34, 35, 36, 37, 38, 39, 40] (by decide +kernel) (by decide +kernel)
set_option maxRecDepth 20000 in
theorem gX3_creasesAtNoPart_X3_partOf : GoodIn wsX3_creasesAtNoPart (wsV RX3 121 RX3 yX3_partOf wsX3_partOf) := goodIn_app (goodIn_of _ (by decide +kernel)) ggX3_creasesAtNoPart_X3_partOf
theorem dX3_creasesAtNoPart_0 : decode cX3_creasesAtNoPart 0 = .ok (.iconst 0, 1) := by decide +kernel
theorem dX3_creasesAtNoPart_1 : decode cX3_creasesAtNoPart 1 = .ok (.istore_n 1, 1) := by decide +kernel
theorem dX3_creasesAtNoPart_2 : decode cX3_creasesAtNoPart 2 = .ok (.iconst 2, 1) := by decide +kernel
theorem dX3_creasesAtNoPart_3 : decode cX3_creasesAtNoPart 3 = .ok (.istore_n 2, 1) := by decide +kernel
theorem dX3_creasesAtNoPart_4 : decode cX3_creasesAtNoPart 4 = .ok (.iload_n 2, 1) := by decide +kernel
theorem dX3_creasesAtNoPart_5 : decode cX3_creasesAtNoPart 5 = .ok (.aload_n 0, 1) := by decide +kernel
theorem dX3_creasesAtNoPart_6 : decode cX3_creasesAtNoPart 6 = .ok (.getfield 19, 3) := by decide +kernel
theorem dX3_creasesAtNoPart_9 : decode cX3_creasesAtNoPart 9 = .ok (.invokevirtual 138, 3) := by decide +kernel
theorem dX3_creasesAtNoPart_12 : decode cX3_creasesAtNoPart 12 = .ok (.if_icmp .ge 22, 3) := by decide +kernel
theorem dX3_creasesAtNoPart_15 : decode cX3_creasesAtNoPart 15 = .ok (.aload_n 0, 1) := by decide +kernel
theorem dX3_creasesAtNoPart_16 : decode cX3_creasesAtNoPart 16 = .ok (.iload_n 2, 1) := by decide +kernel
theorem dX3_creasesAtNoPart_17 : decode cX3_creasesAtNoPart 17 = .ok (.invokevirtual 121, 3) := by decide +kernel
theorem dX3_creasesAtNoPart_20 : decode cX3_creasesAtNoPart 20 = .ok (.bipush (-9), 2) := by decide +kernel
theorem dX3_creasesAtNoPart_22 : decode cX3_creasesAtNoPart 22 = .ok (.if_icmp .ne 6, 3) := by decide +kernel
theorem dX3_creasesAtNoPart_25 : decode cX3_creasesAtNoPart 25 = .ok (.iinc 1 1, 3) := by decide +kernel
theorem dX3_creasesAtNoPart_28 : decode cX3_creasesAtNoPart 28 = .ok (.iinc 2 1, 3) := by decide +kernel
theorem dX3_creasesAtNoPart_31 : decode cX3_creasesAtNoPart 31 = .ok (.goto (-27), 3) := by decide +kernel
theorem dX3_creasesAtNoPart_34 : decode cX3_creasesAtNoPart 34 = .ok (.iload_n 1, 1) := by decide +kernel
theorem dX3_creasesAtNoPart_35 : decode cX3_creasesAtNoPart 35 = .ok (.ireturn, 1) := by decide +kernel
set_option maxRecDepth 20000 in
theorem ggX3_partsWithoutCrease_X0_creases : GoodIn wsX3_partsWithoutCrease wsX0_creases := goodIn_r _ [7, 8, 9, 10, 11, 12, 13, 14, 49, 50, 51, 52, 53, 54, 55] (by decide +kernel) (by decide +kernel)
set_option maxRecDepth 20000 in
theorem gX3_partsWithoutCrease_X0_creases : GoodIn wsX3_partsWithoutCrease (wsV RX3 138 RX0 yX0_creases wsX0_creases) := goodIn_app (goodIn_of _ (by decide +kernel)) ggX3_partsWithoutCrease_X0_creases
set_option maxRecDepth 20000 in
theorem ggX3_partsWithoutCrease_X3_partOf : GoodIn wsX3_partsWithoutCrease wsX3_partOf := goodIn_r _ [19, 1, 20, 21, 22, 23, 12, 24, 25, 40, 41, 42, 43, 44, 45, 46, 47, 48, 49, 50, 51, 52, 53, 54, 55] (by decide +kernel) (by decide +kernel)
set_option maxRecDepth 20000 in
theorem gX3_partsWithoutCrease_X3_partOf : GoodIn wsX3_partsWithoutCrease (wsV RX3 121 RX3 yX3_partOf wsX3_partOf) := goodIn_app (goodIn_of _ (by decide +kernel)) ggX3_partsWithoutCrease_X3_partOf
set_option maxRecDepth 20000 in
theorem ggX3_partsWithoutCrease_X3_isInner : GoodIn wsX3_partsWithoutCrease wsX3_isInner := goodIn_r _ [29, 2, 40, 41, 42, 43, 44, 45, 46, 47, 48] (by decide +kernel) (by decide +kernel)
set_option maxRecDepth 20000 in
theorem gX3_partsWithoutCrease_X3_isInner : GoodIn wsX3_partsWithoutCrease (wsV RX3 132 RX3 yX3_isInner wsX3_isInner) := goodIn_app (goodIn_of _ (by decide +kernel)) ggX3_partsWithoutCrease_X3_isInner
set_option maxRecDepth 20000 in
theorem ggX3_partsWithoutCrease_X3_bit : GoodIn wsX3_partsWithoutCrease wsX3_bit := goodIn_r _ [32] (by decide +kernel) (by decide +kernel)
set_option maxRecDepth 20000 in
theorem gX3_partsWithoutCrease_X3_bit : GoodIn wsX3_partsWithoutCrease (va_wsS RX3 209 yX3_bit wsX3_bit) := goodIn_app (goodIn_of _ (by decide +kernel)) ggX3_partsWithoutCrease_X3_bit
set_option maxRecDepth 20000 in
theorem ggX3_partsWithoutCrease_J13_bitCount_95d88 : GoodIn wsX3_partsWithoutCrease wsJ13_bitCount_95d88 := goodIn_r _ [36, 37, 38, 39] (by decide +kernel) (by decide +kernel)
set_option maxRecDepth 20000 in
theorem gX3_partsWithoutCrease_J13_bitCount_95d88 : GoodIn wsX3_partsWithoutCrease (va_wsS RX3 212 yJ13_bitCount_95d88 wsJ13_bitCount_95d88) := goodIn_app (goodIn_of _ (by decide +kernel)) ggX3_partsWithoutCrease_J13_bitCount_95d88
theorem dX3_partsWithoutCrease_0 : decode cX3_partsWithoutCrease 0 = .ok (.lconst 0, 1) := by decide +kernel
theorem dX3_partsWithoutCrease_1 : decode cX3_partsWithoutCrease 1 = .ok (.lstore_n 1, 1) := by decide +kernel
theorem dX3_partsWithoutCrease_2 : decode cX3_partsWithoutCrease 2 = .ok (.iconst 2, 1) := by decide +kernel
theorem dX3_partsWithoutCrease_3 : decode cX3_partsWithoutCrease 3 = .ok (.istore_n 3, 1) := by decide +kernel
theorem dX3_partsWithoutCrease_4 : decode cX3_partsWithoutCrease 4 = .ok (.iload_n 3, 1) := by decide +kernel
theorem dX3_partsWithoutCrease_5 : decode cX3_partsWithoutCrease 5 = .ok (.aload_n 0, 1) := by decide +kernel
theorem dX3_partsWithoutCrease_6 : decode cX3_partsWithoutCrease 6 = .ok (.getfield 19, 3) := by decide +kernel
theorem dX3_partsWithoutCrease_9 : decode cX3_partsWithoutCrease 9 = .ok (.invokevirtual 138, 3) := by decide +kernel
theorem dX3_partsWithoutCrease_12 : decode cX3_partsWithoutCrease 12 = .ok (.if_icmp .ge 33, 3) := by decide +kernel
theorem dX3_partsWithoutCrease_15 : decode cX3_partsWithoutCrease 15 = .ok (.aload_n 0, 1) := by decide +kernel
theorem dX3_partsWithoutCrease_16 : decode cX3_partsWithoutCrease 16 = .ok (.iload_n 3, 1) := by decide +kernel
theorem dX3_partsWithoutCrease_17 : decode cX3_partsWithoutCrease 17 = .ok (.invokevirtual 121, 3) := by decide +kernel
theorem dX3_partsWithoutCrease_20 : decode cX3_partsWithoutCrease 20 = .ok (.istore 4, 2) := by decide +kernel
theorem dX3_partsWithoutCrease_22 : decode cX3_partsWithoutCrease 22 = .ok (.aload_n 0, 1) := by decide +kernel
theorem dX3_partsWithoutCrease_23 : decode cX3_partsWithoutCrease 23 = .ok (.iload 4, 2) := by decide +kernel
theorem dX3_partsWithoutCrease_25 : decode cX3_partsWithoutCrease 25 = .ok (.invokevirtual 132, 3) := by decide +kernel
theorem dX3_partsWithoutCrease_28 : decode cX3_partsWithoutCrease 28 = .ok (.ifCond .eq 11, 3) := by decide +kernel
theorem dX3_partsWithoutCrease_31 : decode cX3_partsWithoutCrease 31 = .ok (.lload_n 1, 1) := by decide +kernel
theorem dX3_partsWithoutCrease_32 : decode cX3_partsWithoutCrease 32 = .ok (.iload 4, 2) := by decide +kernel
theorem dX3_partsWithoutCrease_34 : decode cX3_partsWithoutCrease 34 = .ok (.invokestatic 209, 3) := by decide +kernel
theorem dX3_partsWithoutCrease_37 : decode cX3_partsWithoutCrease 37 = .ok (.lor, 1) := by decide +kernel
theorem dX3_partsWithoutCrease_38 : decode cX3_partsWithoutCrease 38 = .ok (.lstore_n 1, 1) := by decide +kernel
theorem dX3_partsWithoutCrease_39 : decode cX3_partsWithoutCrease 39 = .ok (.iinc 3 1, 3) := by decide +kernel
theorem dX3_partsWithoutCrease_42 : decode cX3_partsWithoutCrease 42 = .ok (.goto (-38), 3) := by decide +kernel
theorem dX3_partsWithoutCrease_45 : decode cX3_partsWithoutCrease 45 = .ok (.aload_n 0, 1) := by decide +kernel
theorem dX3_partsWithoutCrease_46 : decode cX3_partsWithoutCrease 46 = .ok (.getfield 29, 3) := by decide +kernel
theorem dX3_partsWithoutCrease_49 : decode cX3_partsWithoutCrease 49 = .ok (.iconst 1, 1) := by decide +kernel
theorem dX3_partsWithoutCrease_50 : decode cX3_partsWithoutCrease 50 = .ok (.isub, 1) := by decide +kernel
theorem dX3_partsWithoutCrease_51 : decode cX3_partsWithoutCrease 51 = .ok (.lload_n 1, 1) := by decide +kernel
theorem dX3_partsWithoutCrease_52 : decode cX3_partsWithoutCrease 52 = .ok (.invokestatic 212, 3) := by decide +kernel
theorem dX3_partsWithoutCrease_55 : decode cX3_partsWithoutCrease 55 = .ok (.isub, 1) := by decide +kernel
theorem dX3_partsWithoutCrease_56 : decode cX3_partsWithoutCrease 56 = .ok (.ireturn, 1) := by decide +kernel
theorem dX3_isInner_0 : decode cX3_isInner 0 = .ok (.iload_n 1, 1) := by decide +kernel
theorem dX3_isInner_1 : decode cX3_isInner 1 = .ok (.iconst 1, 1) := by decide +kernel
theorem dX3_isInner_2 : decode cX3_isInner 2 = .ok (.if_icmp .lt 15, 3) := by decide +kernel
theorem dX3_isInner_5 : decode cX3_isInner 5 = .ok (.iload_n 1, 1) := by decide +kernel
theorem dX3_isInner_6 : decode cX3_isInner 6 = .ok (.aload_n 0, 1) := by decide +kernel
theorem dX3_isInner_7 : decode cX3_isInner 7 = .ok (.getfield 29, 3) := by decide +kernel
theorem dX3_isInner_10 : decode cX3_isInner 10 = .ok (.if_icmp .ge 7, 3) := by decide +kernel
theorem dX3_isInner_13 : decode cX3_isInner 13 = .ok (.iconst 1, 1) := by decide +kernel
theorem dX3_isInner_14 : decode cX3_isInner 14 = .ok (.goto 4, 3) := by decide +kernel
theorem dX3_isInner_17 : decode cX3_isInner 17 = .ok (.iconst 0, 1) := by decide +kernel
theorem dX3_isInner_18 : decode cX3_isInner 18 = .ok (.ireturn, 1) := by decide +kernel
theorem dX3_sideAt_0 : decode cX3_sideAt 0 = .ok (.iload_n 0, 1) := by decide +kernel
theorem dX3_sideAt_1 : decode cX3_sideAt 1 = .ok (.iconst 2, 1) := by decide +kernel
theorem dX3_sideAt_2 : decode cX3_sideAt 2 = .ok (.irem, 1) := by decide +kernel
theorem dX3_sideAt_3 : decode cX3_sideAt 3 = .ok (.ifCond .ne 7, 3) := by decide +kernel
theorem dX3_sideAt_6 : decode cX3_sideAt 6 = .ok (.iconst 0, 1) := by decide +kernel
theorem dX3_sideAt_7 : decode cX3_sideAt 7 = .ok (.goto 4, 3) := by decide +kernel
theorem dX3_sideAt_10 : decode cX3_sideAt 10 = .ok (.iconst 1, 1) := by decide +kernel
theorem dX3_sideAt_11 : decode cX3_sideAt 11 = .ok (.ireturn, 1) := by decide +kernel
set_option maxRecDepth 20000 in
theorem ggX3_ruled_X3_sideAt : GoodIn wsX3_ruled wsX3_sideAt := goodIn_r _ [4] (by decide +kernel) (by decide +kernel)
set_option maxRecDepth 20000 in
theorem gX3_ruled_X3_sideAt : GoodIn wsX3_ruled (va_wsS RX3 135 yX3_sideAt wsX3_sideAt) := goodIn_app (goodIn_of _ (by decide +kernel)) ggX3_ruled_X3_sideAt
theorem dX3_ruled_0 : decode cX3_ruled 0 = .ok (.iload_n 1, 1) := by decide +kernel
theorem dX3_ruled_1 : decode cX3_ruled 1 = .ok (.invokestatic 135, 3) := by decide +kernel
theorem dX3_ruled_4 : decode cX3_ruled 4 = .ok (.ifCond .ne 7, 3) := by decide +kernel
theorem dX3_ruled_7 : decode cX3_ruled 7 = .ok (.iload_n 1, 1) := by decide +kernel
theorem dX3_ruled_8 : decode cX3_ruled 8 = .ok (.goto 6, 3) := by decide +kernel
theorem dX3_ruled_11 : decode cX3_ruled 11 = .ok (.iload_n 1, 1) := by decide +kernel
theorem dX3_ruled_12 : decode cX3_ruled 12 = .ok (.iload_n 0, 1) := by decide +kernel
theorem dX3_ruled_13 : decode cX3_ruled 13 = .ok (.iadd, 1) := by decide +kernel
theorem dX3_ruled_14 : decode cX3_ruled 14 = .ok (.iconst 2, 1) := by decide +kernel
theorem dX3_ruled_15 : decode cX3_ruled 15 = .ok (.idiv, 1) := by decide +kernel
theorem dX3_ruled_16 : decode cX3_ruled 16 = .ok (.ireturn, 1) := by decide +kernel
set_option maxRecDepth 20000 in
theorem ggX3_foldsAround_X3_ruled : GoodIn wsX3_foldsAround wsX3_ruled := goodIn_r _ [5, 6, 7, 4, 8] (by decide +kernel) (by decide +kernel)
set_option maxRecDepth 20000 in
theorem gX3_foldsAround_X3_ruled : GoodIn wsX3_foldsAround (va_wsS RX3 156 yX3_ruled wsX3_ruled) := goodIn_app (goodIn_of _ (by decide +kernel)) ggX3_foldsAround_X3_ruled
theorem dX3_foldsAround_0 : decode cX3_foldsAround 0 = .ok (.aload_n 0, 1) := by decide +kernel
theorem dX3_foldsAround_1 : decode cX3_foldsAround 1 = .ok (.getfield 29, 3) := by decide +kernel
theorem dX3_foldsAround_4 : decode cX3_foldsAround 4 = .ok (.iload_n 1, 1) := by decide +kernel
theorem dX3_foldsAround_5 : decode cX3_foldsAround 5 = .ok (.invokestatic 156, 3) := by decide +kernel
theorem dX3_foldsAround_8 : decode cX3_foldsAround 8 = .ok (.istore_n 2, 1) := by decide +kernel
theorem dX3_foldsAround_9 : decode cX3_foldsAround 9 = .ok (.iconst 1, 1) := by decide +kernel
theorem dX3_foldsAround_10 : decode cX3_foldsAround 10 = .ok (.istore_n 3, 1) := by decide +kernel
theorem dX3_foldsAround_11 : decode cX3_foldsAround 11 = .ok (.iload_n 2, 1) := by decide +kernel
theorem dX3_foldsAround_12 : decode cX3_foldsAround 12 = .ok (.iload_n 1, 1) := by decide +kernel
theorem dX3_foldsAround_13 : decode cX3_foldsAround 13 = .ok (.if_icmp .eq 24, 3) := by decide +kernel
theorem dX3_foldsAround_16 : decode cX3_foldsAround 16 = .ok (.iload_n 3, 1) := by decide +kernel
theorem dX3_foldsAround_17 : decode cX3_foldsAround 17 = .ok (.bipush 63, 2) := by decide +kernel
theorem dX3_foldsAround_19 : decode cX3_foldsAround 19 = .ok (.if_icmp .ge 18, 3) := by decide +kernel
theorem dX3_foldsAround_22 : decode cX3_foldsAround 22 = .ok (.aload_n 0, 1) := by decide +kernel
theorem dX3_foldsAround_23 : decode cX3_foldsAround 23 = .ok (.getfield 29, 3) := by decide +kernel
theorem dX3_foldsAround_26 : decode cX3_foldsAround 26 = .ok (.iload_n 2, 1) := by decide +kernel
theorem dX3_foldsAround_27 : decode cX3_foldsAround 27 = .ok (.invokestatic 156, 3) := by decide +kernel
theorem dX3_foldsAround_30 : decode cX3_foldsAround 30 = .ok (.istore_n 2, 1) := by decide +kernel
theorem dX3_foldsAround_31 : decode cX3_foldsAround 31 = .ok (.iinc 3 1, 3) := by decide +kernel
theorem dX3_foldsAround_34 : decode cX3_foldsAround 34 = .ok (.goto (-23), 3) := by decide +kernel
theorem dX3_foldsAround_37 : decode cX3_foldsAround 37 = .ok (.iload_n 3, 1) := by decide +kernel
theorem dX3_foldsAround_38 : decode cX3_foldsAround 38 = .ok (.ireturn, 1) := by decide +kernel
set_option maxRecDepth 20000 in
theorem ggX3_starts_X3_bit : GoodIn wsX3_starts wsX3_bit := goodIn_r _ [5] (by decide +kernel) (by decide +kernel)
set_option maxRecDepth 20000 in
theorem gX3_starts_X3_bit : GoodIn wsX3_starts (va_wsS RX3 209 yX3_bit wsX3_bit) := goodIn_app (goodIn_of _ (by decide +kernel)) ggX3_starts_X3_bit
set_option maxRecDepth 20000 in
theorem ggX3_starts_X3_ringOf : GoodIn wsX3_starts wsX3_ringOf := goodIn_r _ [9, 1, 2, 3, 4, 5, 10, 11, 12, 13, 14, 15, 16, 17, 18, 19, 20, 21, 22, 23, 24] (by decide +kernel) (by decide +kernel)
set_option maxRecDepth 20000 in
theorem gX3_starts_X3_ringOf : GoodIn wsX3_starts (wsV RX3 218 RX3 yX3_ringOf wsX3_ringOf) := goodIn_app (goodIn_of _ (by decide +kernel)) ggX3_starts_X3_ringOf
theorem dX3_starts_0 : decode cX3_starts 0 = .ok (.lconst 0, 1) := by decide +kernel
theorem dX3_starts_1 : decode cX3_starts 1 = .ok (.lstore_n 1, 1) := by decide +kernel
theorem dX3_starts_2 : decode cX3_starts 2 = .ok (.iconst 0, 1) := by decide +kernel
theorem dX3_starts_3 : decode cX3_starts 3 = .ok (.istore_n 3, 1) := by decide +kernel
theorem dX3_starts_4 : decode cX3_starts 4 = .ok (.iconst 1, 1) := by decide +kernel
theorem dX3_starts_5 : decode cX3_starts 5 = .ok (.istore 4, 2) := by decide +kernel
theorem dX3_starts_7 : decode cX3_starts 7 = .ok (.iload 4, 2) := by decide +kernel
theorem dX3_starts_9 : decode cX3_starts 9 = .ok (.aload_n 0, 1) := by decide +kernel
theorem dX3_starts_10 : decode cX3_starts 10 = .ok (.getfield 29, 3) := by decide +kernel
theorem dX3_starts_13 : decode cX3_starts 13 = .ok (.if_icmp .ge 33, 3) := by decide +kernel
theorem dX3_starts_16 : decode cX3_starts 16 = .ok (.lload_n 1, 1) := by decide +kernel
theorem dX3_starts_17 : decode cX3_starts 17 = .ok (.iload 4, 2) := by decide +kernel
theorem dX3_starts_19 : decode cX3_starts 19 = .ok (.invokestatic 209, 3) := by decide +kernel
theorem dX3_starts_22 : decode cX3_starts 22 = .ok (.land, 1) := by decide +kernel
theorem dX3_starts_23 : decode cX3_starts 23 = .ok (.lconst 0, 1) := by decide +kernel
theorem dX3_starts_24 : decode cX3_starts 24 = .ok (.lcmp, 1) := by decide +kernel
theorem dX3_starts_25 : decode cX3_starts 25 = .ok (.ifCond .ne 15, 3) := by decide +kernel
theorem dX3_starts_28 : decode cX3_starts 28 = .ok (.iinc 3 1, 3) := by decide +kernel
theorem dX3_starts_31 : decode cX3_starts 31 = .ok (.lload_n 1, 1) := by decide +kernel
theorem dX3_starts_32 : decode cX3_starts 32 = .ok (.aload_n 0, 1) := by decide +kernel
theorem dX3_starts_33 : decode cX3_starts 33 = .ok (.iload 4, 2) := by decide +kernel
theorem dX3_starts_35 : decode cX3_starts 35 = .ok (.invokevirtual 218, 3) := by decide +kernel
theorem dX3_starts_38 : decode cX3_starts 38 = .ok (.lor, 1) := by decide +kernel
theorem dX3_starts_39 : decode cX3_starts 39 = .ok (.lstore_n 1, 1) := by decide +kernel
theorem dX3_starts_40 : decode cX3_starts 40 = .ok (.iinc 4 1, 3) := by decide +kernel
theorem dX3_starts_43 : decode cX3_starts 43 = .ok (.goto (-36), 3) := by decide +kernel
theorem dX3_starts_46 : decode cX3_starts 46 = .ok (.iload_n 3, 1) := by decide +kernel
theorem dX3_starts_47 : decode cX3_starts 47 = .ok (.ireturn, 1) := by decide +kernel
set_option maxRecDepth 20000 in
theorem ggX3_ringOf_X3_bit : GoodIn wsX3_ringOf wsX3_bit := goodIn_r _ [5] (by decide +kernel) (by decide +kernel)
set_option maxRecDepth 20000 in
theorem gX3_ringOf_X3_bit : GoodIn wsX3_ringOf (va_wsS RX3 209 yX3_bit wsX3_bit) := goodIn_app (goodIn_of _ (by decide +kernel)) ggX3_ringOf_X3_bit
set_option maxRecDepth 20000 in
theorem ggX3_ringOf_X3_ruled : GoodIn wsX3_ringOf wsX3_ruled := goodIn_r _ [8, 9, 10, 4, 11] (by decide +kernel) (by decide +kernel)
set_option maxRecDepth 20000 in
theorem gX3_ringOf_X3_ruled : GoodIn wsX3_ringOf (va_wsS RX3 156 yX3_ruled wsX3_ruled) := goodIn_app (goodIn_of _ (by decide +kernel)) ggX3_ringOf_X3_ruled
theorem dX3_ringOf_0 : decode cX3_ringOf 0 = .ok (.lconst 0, 1) := by decide +kernel
theorem dX3_ringOf_1 : decode cX3_ringOf 1 = .ok (.lstore_n 2, 1) := by decide +kernel
theorem dX3_ringOf_2 : decode cX3_ringOf 2 = .ok (.iload_n 1, 1) := by decide +kernel
theorem dX3_ringOf_3 : decode cX3_ringOf 3 = .ok (.istore 4, 2) := by decide +kernel
theorem dX3_ringOf_5 : decode cX3_ringOf 5 = .ok (.iconst 0, 1) := by decide +kernel
theorem dX3_ringOf_6 : decode cX3_ringOf 6 = .ok (.istore 5, 2) := by decide +kernel
theorem dX3_ringOf_8 : decode cX3_ringOf 8 = .ok (.iload 5, 2) := by decide +kernel
theorem dX3_ringOf_10 : decode cX3_ringOf 10 = .ok (.bipush 63, 2) := by decide +kernel
theorem dX3_ringOf_12 : decode cX3_ringOf 12 = .ok (.if_icmp .ge 28, 3) := by decide +kernel
theorem dX3_ringOf_15 : decode cX3_ringOf 15 = .ok (.lload_n 2, 1) := by decide +kernel
theorem dX3_ringOf_16 : decode cX3_ringOf 16 = .ok (.iload 4, 2) := by decide +kernel
theorem dX3_ringOf_18 : decode cX3_ringOf 18 = .ok (.invokestatic 209, 3) := by decide +kernel
theorem dX3_ringOf_21 : decode cX3_ringOf 21 = .ok (.lor, 1) := by decide +kernel
theorem dX3_ringOf_22 : decode cX3_ringOf 22 = .ok (.lstore_n 2, 1) := by decide +kernel
theorem dX3_ringOf_23 : decode cX3_ringOf 23 = .ok (.aload_n 0, 1) := by decide +kernel
theorem dX3_ringOf_24 : decode cX3_ringOf 24 = .ok (.getfield 29, 3) := by decide +kernel
theorem dX3_ringOf_27 : decode cX3_ringOf 27 = .ok (.iload 4, 2) := by decide +kernel
theorem dX3_ringOf_29 : decode cX3_ringOf 29 = .ok (.invokestatic 156, 3) := by decide +kernel
theorem dX3_ringOf_32 : decode cX3_ringOf 32 = .ok (.istore 4, 2) := by decide +kernel
theorem dX3_ringOf_34 : decode cX3_ringOf 34 = .ok (.iinc 5 1, 3) := by decide +kernel
theorem dX3_ringOf_37 : decode cX3_ringOf 37 = .ok (.goto (-29), 3) := by decide +kernel
theorem dX3_ringOf_40 : decode cX3_ringOf 40 = .ok (.lload_n 2, 1) := by decide +kernel
theorem dX3_ringOf_41 : decode cX3_ringOf 41 = .ok (.lreturn, 1) := by decide +kernel
set_option maxRecDepth 20000 in
theorem ggX3_wrongLetter_X1_size : GoodIn wsX3_wrongLetter wsX1_size := goodIn_r _ [6, 7, 34, 35] (by decide +kernel) (by decide +kernel)
set_option maxRecDepth 20000 in
theorem gX3_wrongLetter_X1_size : GoodIn wsX3_wrongLetter (wsV RX3 66 RX1 yX1_size wsX1_size) := goodIn_app (goodIn_of _ (by decide +kernel)) ggX3_wrongLetter_X1_size
set_option maxRecDepth 20000 in
theorem ggX3_wrongLetter_X1_at : GoodIn wsX3_wrongLetter wsX1_at := goodIn_r _ [11, 12, 34, 35] (by decide +kernel) (by decide +kernel)
set_option maxRecDepth 20000 in
theorem gX3_wrongLetter_X1_at : GoodIn wsX3_wrongLetter (wsV RX3 83 RX1 yX1_at wsX1_at) := goodIn_app (goodIn_of _ (by decide +kernel)) ggX3_wrongLetter_X1_at
set_option maxRecDepth 20000 in
theorem ggX3_wrongLetter_X3_sideAt : GoodIn wsX3_wrongLetter wsX3_sideAt := goodIn_r _ [16] (by decide +kernel) (by decide +kernel)
set_option maxRecDepth 20000 in
theorem gX3_wrongLetter_X3_sideAt : GoodIn wsX3_wrongLetter (va_wsS RX3 135 yX3_sideAt wsX3_sideAt) := goodIn_app (goodIn_of _ (by decide +kernel)) ggX3_wrongLetter_X3_sideAt
set_option maxRecDepth 20000 in
theorem ggX3_wrongLetter_X3_ruled : GoodIn wsX3_wrongLetter wsX3_ruled := goodIn_r _ [19, 13, 14, 15, 16] (by decide +kernel) (by decide +kernel)
set_option maxRecDepth 20000 in
theorem gX3_wrongLetter_X3_ruled : GoodIn wsX3_wrongLetter (va_wsS RX3 156 yX3_ruled wsX3_ruled) := goodIn_app (goodIn_of _ (by decide +kernel)) ggX3_wrongLetter_X3_ruled
theorem dX3_wrongLetter_0 : decode cX3_wrongLetter 0 = .ok (.iload_n 2, 1) := by decide +kernel
theorem dX3_wrongLetter_1 : decode cX3_wrongLetter 1 = .ok (.istore_n 3, 1) := by decide +kernel
theorem dX3_wrongLetter_2 : decode cX3_wrongLetter 2 = .ok (.iconst 0, 1) := by decide +kernel
theorem dX3_wrongLetter_3 : decode cX3_wrongLetter 3 = .ok (.istore 4, 2) := by decide +kernel
theorem dX3_wrongLetter_5 : decode cX3_wrongLetter 5 = .ok (.iload 4, 2) := by decide +kernel
theorem dX3_wrongLetter_7 : decode cX3_wrongLetter 7 = .ok (.aload_n 0, 1) := by decide +kernel
theorem dX3_wrongLetter_8 : decode cX3_wrongLetter 8 = .ok (.getfield 19, 3) := by decide +kernel
theorem dX3_wrongLetter_11 : decode cX3_wrongLetter 11 = .ok (.getfield 163, 3) := by decide +kernel
theorem dX3_wrongLetter_14 : decode cX3_wrongLetter 14 = .ok (.invokevirtual 66, 3) := by decide +kernel
theorem dX3_wrongLetter_17 : decode cX3_wrongLetter 17 = .ok (.if_icmp .ge 39, 3) := by decide +kernel
theorem dX3_wrongLetter_20 : decode cX3_wrongLetter 20 = .ok (.aload_n 0, 1) := by decide +kernel
theorem dX3_wrongLetter_21 : decode cX3_wrongLetter 21 = .ok (.getfield 19, 3) := by decide +kernel
theorem dX3_wrongLetter_24 : decode cX3_wrongLetter 24 = .ok (.getfield 163, 3) := by decide +kernel
theorem dX3_wrongLetter_27 : decode cX3_wrongLetter 27 = .ok (.iload 4, 2) := by decide +kernel
theorem dX3_wrongLetter_29 : decode cX3_wrongLetter 29 = .ok (.invokevirtual 83, 3) := by decide +kernel
theorem dX3_wrongLetter_32 : decode cX3_wrongLetter 32 = .ok (.iload_n 3, 1) := by decide +kernel
theorem dX3_wrongLetter_33 : decode cX3_wrongLetter 33 = .ok (.invokestatic 135, 3) := by decide +kernel
theorem dX3_wrongLetter_36 : decode cX3_wrongLetter 36 = .ok (.i2l, 1) := by decide +kernel
theorem dX3_wrongLetter_37 : decode cX3_wrongLetter 37 = .ok (.lcmp, 1) := by decide +kernel
theorem dX3_wrongLetter_38 : decode cX3_wrongLetter 38 = .ok (.ifCond .eq 6, 3) := by decide +kernel
theorem dX3_wrongLetter_41 : decode cX3_wrongLetter 41 = .ok (.iload 4, 2) := by decide +kernel
theorem dX3_wrongLetter_43 : decode cX3_wrongLetter 43 = .ok (.ireturn, 1) := by decide +kernel
theorem dX3_wrongLetter_44 : decode cX3_wrongLetter 44 = .ok (.iload_n 1, 1) := by decide +kernel
theorem dX3_wrongLetter_45 : decode cX3_wrongLetter 45 = .ok (.iload_n 3, 1) := by decide +kernel
theorem dX3_wrongLetter_46 : decode cX3_wrongLetter 46 = .ok (.invokestatic 156, 3) := by decide +kernel
theorem dX3_wrongLetter_49 : decode cX3_wrongLetter 49 = .ok (.istore_n 3, 1) := by decide +kernel
theorem dX3_wrongLetter_50 : decode cX3_wrongLetter 50 = .ok (.iinc 4 1, 3) := by decide +kernel
theorem dX3_wrongLetter_53 : decode cX3_wrongLetter 53 = .ok (.goto (-48), 3) := by decide +kernel
theorem dX3_wrongLetter_56 : decode cX3_wrongLetter 56 = .ok (.bipush (-9), 2) := by decide +kernel
theorem dX3_wrongLetter_58 : decode cX3_wrongLetter 58 = .ok (.ireturn, 1) := by decide +kernel
theorem dX3_bit_0 : decode cX3_bit 0 = .ok (.lconst 1, 1) := by decide +kernel
theorem dX3_bit_1 : decode cX3_bit 1 = .ok (.iload_n 0, 1) := by decide +kernel
theorem dX3_bit_2 : decode cX3_bit 2 = .ok (.lshl, 1) := by decide +kernel
theorem dX3_bit_3 : decode cX3_bit 3 = .ok (.lreturn, 1) := by decide +kernel
set_option maxRecDepth 20000 in
theorem ggX3_seenSet_X1_size : GoodIn wsX3_seenSet wsX1_size := goodIn_r _ [6, 7, 31, 32] (by decide +kernel) (by decide +kernel)
set_option maxRecDepth 20000 in
theorem gX3_seenSet_X1_size : GoodIn wsX3_seenSet (wsV RX3 66 RX1 yX1_size wsX1_size) := goodIn_app (goodIn_of _ (by decide +kernel)) ggX3_seenSet_X1_size
set_option maxRecDepth 20000 in
theorem ggX3_seenSet_X1_at : GoodIn wsX3_seenSet wsX1_at := goodIn_r _ [11, 12, 31, 32] (by decide +kernel) (by decide +kernel)
set_option maxRecDepth 20000 in
theorem gX3_seenSet_X1_at : GoodIn wsX3_seenSet (wsV RX3 83 RX1 yX1_at wsX1_at) := goodIn_app (goodIn_of _ (by decide +kernel)) ggX3_seenSet_X1_at
set_option maxRecDepth 20000 in
theorem ggX3_seenSet_X3_bit : GoodIn wsX3_seenSet wsX3_bit := goodIn_r _ [16] (by decide +kernel) (by decide +kernel)
set_option maxRecDepth 20000 in
theorem gX3_seenSet_X3_bit : GoodIn wsX3_seenSet (va_wsS RX3 209 yX3_bit wsX3_bit) := goodIn_app (goodIn_of _ (by decide +kernel)) ggX3_seenSet_X3_bit
theorem dX3_seenSet_0 : decode cX3_seenSet 0 = .ok (.lconst 0, 1) := by decide +kernel
theorem dX3_seenSet_1 : decode cX3_seenSet 1 = .ok (.lstore_n 1, 1) := by decide +kernel
theorem dX3_seenSet_2 : decode cX3_seenSet 2 = .ok (.iconst 0, 1) := by decide +kernel
theorem dX3_seenSet_3 : decode cX3_seenSet 3 = .ok (.istore_n 3, 1) := by decide +kernel
theorem dX3_seenSet_4 : decode cX3_seenSet 4 = .ok (.iload_n 3, 1) := by decide +kernel
theorem dX3_seenSet_5 : decode cX3_seenSet 5 = .ok (.aload_n 0, 1) := by decide +kernel
theorem dX3_seenSet_6 : decode cX3_seenSet 6 = .ok (.getfield 19, 3) := by decide +kernel
theorem dX3_seenSet_9 : decode cX3_seenSet 9 = .ok (.getfield 171, 3) := by decide +kernel
theorem dX3_seenSet_12 : decode cX3_seenSet 12 = .ok (.invokevirtual 66, 3) := by decide +kernel
theorem dX3_seenSet_15 : decode cX3_seenSet 15 = .ok (.if_icmp .ge 27, 3) := by decide +kernel
theorem dX3_seenSet_18 : decode cX3_seenSet 18 = .ok (.lload_n 1, 1) := by decide +kernel
theorem dX3_seenSet_19 : decode cX3_seenSet 19 = .ok (.aload_n 0, 1) := by decide +kernel
theorem dX3_seenSet_20 : decode cX3_seenSet 20 = .ok (.getfield 19, 3) := by decide +kernel
theorem dX3_seenSet_23 : decode cX3_seenSet 23 = .ok (.getfield 171, 3) := by decide +kernel
theorem dX3_seenSet_26 : decode cX3_seenSet 26 = .ok (.iload_n 3, 1) := by decide +kernel
theorem dX3_seenSet_27 : decode cX3_seenSet 27 = .ok (.invokevirtual 83, 3) := by decide +kernel
theorem dX3_seenSet_30 : decode cX3_seenSet 30 = .ok (.l2i, 1) := by decide +kernel
theorem dX3_seenSet_31 : decode cX3_seenSet 31 = .ok (.invokestatic 209, 3) := by decide +kernel
theorem dX3_seenSet_34 : decode cX3_seenSet 34 = .ok (.lor, 1) := by decide +kernel
theorem dX3_seenSet_35 : decode cX3_seenSet 35 = .ok (.lstore_n 1, 1) := by decide +kernel
theorem dX3_seenSet_36 : decode cX3_seenSet 36 = .ok (.iinc 3 1, 3) := by decide +kernel
theorem dX3_seenSet_39 : decode cX3_seenSet 39 = .ok (.goto (-35), 3) := by decide +kernel
theorem dX3_seenSet_42 : decode cX3_seenSet 42 = .ok (.lload_n 1, 1) := by decide +kernel
theorem dX3_seenSet_43 : decode cX3_seenSet 43 = .ok (.lreturn, 1) := by decide +kernel
set_option maxRecDepth 20000 in
theorem ggX3_waysFrom_X3_bit : GoodIn wsX3_waysFrom wsX3_bit := goodIn_r _ [5] (by decide +kernel) (by decide +kernel)
set_option maxRecDepth 20000 in
theorem gX3_waysFrom_X3_bit : GoodIn wsX3_waysFrom (va_wsS RX3 209 yX3_bit wsX3_bit) := goodIn_app (goodIn_of _ (by decide +kernel)) ggX3_waysFrom_X3_bit
set_option maxRecDepth 20000 in
theorem ggX3_waysFrom_X3_ruled : GoodIn wsX3_waysFrom wsX3_ruled := goodIn_r _ [8, 9, 10, 4, 11] (by decide +kernel) (by decide +kernel)
set_option maxRecDepth 20000 in
theorem gX3_waysFrom_X3_ruled : GoodIn wsX3_waysFrom (va_wsS RX3 156 yX3_ruled wsX3_ruled) := goodIn_app (goodIn_of _ (by decide +kernel)) ggX3_waysFrom_X3_ruled
theorem dX3_waysFrom_0 : decode cX3_waysFrom 0 = .ok (.lconst 0, 1) := by decide +kernel
theorem dX3_waysFrom_1 : decode cX3_waysFrom 1 = .ok (.lstore 4, 2) := by decide +kernel
theorem dX3_waysFrom_3 : decode cX3_waysFrom 3 = .ok (.iconst 0, 1) := by decide +kernel
theorem dX3_waysFrom_4 : decode cX3_waysFrom 4 = .ok (.istore 6, 2) := by decide +kernel
theorem dX3_waysFrom_6 : decode cX3_waysFrom 6 = .ok (.iload_n 1, 1) := by decide +kernel
theorem dX3_waysFrom_7 : decode cX3_waysFrom 7 = .ok (.istore 7, 2) := by decide +kernel
theorem dX3_waysFrom_9 : decode cX3_waysFrom 9 = .ok (.iconst 0, 1) := by decide +kernel
theorem dX3_waysFrom_10 : decode cX3_waysFrom 10 = .ok (.istore 8, 2) := by decide +kernel
theorem dX3_waysFrom_12 : decode cX3_waysFrom 12 = .ok (.iload 8, 2) := by decide +kernel
theorem dX3_waysFrom_14 : decode cX3_waysFrom 14 = .ok (.bipush 20, 2) := by decide +kernel
theorem dX3_waysFrom_16 : decode cX3_waysFrom 16 = .ok (.if_icmp .gt 40, 3) := by decide +kernel
theorem dX3_waysFrom_19 : decode cX3_waysFrom 19 = .ok (.lload 4, 2) := by decide +kernel
theorem dX3_waysFrom_21 : decode cX3_waysFrom 21 = .ok (.iload 7, 2) := by decide +kernel
theorem dX3_waysFrom_23 : decode cX3_waysFrom 23 = .ok (.invokestatic 209, 3) := by decide +kernel
theorem dX3_waysFrom_26 : decode cX3_waysFrom 26 = .ok (.lor, 1) := by decide +kernel
theorem dX3_waysFrom_27 : decode cX3_waysFrom 27 = .ok (.lstore 4, 2) := by decide +kernel
theorem dX3_waysFrom_29 : decode cX3_waysFrom 29 = .ok (.lload 4, 2) := by decide +kernel
theorem dX3_waysFrom_31 : decode cX3_waysFrom 31 = .ok (.lload_n 2, 1) := by decide +kernel
theorem dX3_waysFrom_32 : decode cX3_waysFrom 32 = .ok (.lcmp, 1) := by decide +kernel
theorem dX3_waysFrom_33 : decode cX3_waysFrom 33 = .ok (.ifCond .ne 6, 3) := by decide +kernel
theorem dX3_waysFrom_36 : decode cX3_waysFrom 36 = .ok (.iinc 6 1, 3) := by decide +kernel
theorem dX3_waysFrom_39 : decode cX3_waysFrom 39 = .ok (.aload_n 0, 1) := by decide +kernel
theorem dX3_waysFrom_40 : decode cX3_waysFrom 40 = .ok (.getfield 29, 3) := by decide +kernel
theorem dX3_waysFrom_43 : decode cX3_waysFrom 43 = .ok (.iload 7, 2) := by decide +kernel
theorem dX3_waysFrom_45 : decode cX3_waysFrom 45 = .ok (.invokestatic 156, 3) := by decide +kernel
theorem dX3_waysFrom_48 : decode cX3_waysFrom 48 = .ok (.istore 7, 2) := by decide +kernel
theorem dX3_waysFrom_50 : decode cX3_waysFrom 50 = .ok (.iinc 8 1, 3) := by decide +kernel
theorem dX3_waysFrom_53 : decode cX3_waysFrom 53 = .ok (.goto (-41), 3) := by decide +kernel
theorem dX3_waysFrom_56 : decode cX3_waysFrom 56 = .ok (.iload 6, 2) := by decide +kernel
theorem dX3_waysFrom_58 : decode cX3_waysFrom 58 = .ok (.ireturn, 1) := by decide +kernel
theorem dX3_asCrease_0 : decode cX3_asCrease 0 = .ok (.aload_n 0, 1) := by decide +kernel
theorem dX3_asCrease_1 : decode cX3_asCrease 1 = .ok (.dup, 1) := by decide +kernel
theorem dX3_asCrease_2 : decode cX3_asCrease 2 = .ok (.getfield 42, 3) := by decide +kernel
theorem dX3_asCrease_5 : decode cX3_asCrease 5 = .ok (.lconst 1, 1) := by decide +kernel
theorem dX3_asCrease_6 : decode cX3_asCrease 6 = .ok (.ladd, 1) := by decide +kernel
theorem dX3_asCrease_7 : decode cX3_asCrease 7 = .ok (.putfield 42, 3) := by decide +kernel
theorem dX3_asCrease_10 : decode cX3_asCrease 10 = .ok (.iload_n 1, 1) := by decide +kernel
theorem dX3_asCrease_11 : decode cX3_asCrease 11 = .ok (.ireturn, 1) := by decide +kernel
set_option maxRecDepth 20000 in
theorem ggX3_asPinch_X3_partOf : GoodIn wsX3_asPinch wsX3_partOf := goodIn_r _ [7, 8, 9, 10, 11, 12, 13, 14, 15, 20, 21, 22, 23, 24, 25, 26, 27, 28, 29, 30, 31, 32, 33, 34, 35] (by decide +kernel) (by decide +kernel)
set_option maxRecDepth 20000 in
theorem gX3_asPinch_X3_partOf : GoodIn wsX3_asPinch (wsV RX3 121 RX3 yX3_partOf wsX3_partOf) := goodIn_app (goodIn_of _ (by decide +kernel)) ggX3_asPinch_X3_partOf
set_option maxRecDepth 20000 in
theorem ggX3_asPinch_X3_asCrease : GoodIn wsX3_asPinch wsX3_asCrease := goodIn_r _ [19, 1, 20, 21, 22, 23, 24, 25, 26, 27, 28] (by decide +kernel) (by decide +kernel)
set_option maxRecDepth 20000 in
theorem gX3_asPinch_X3_asCrease : GoodIn wsX3_asPinch (wsV RX3 183 RX3 yX3_asCrease wsX3_asCrease) := goodIn_app (goodIn_of _ (by decide +kernel)) ggX3_asPinch_X3_asCrease
theorem dX3_asPinch_0 : decode cX3_asPinch 0 = .ok (.aload_n 0, 1) := by decide +kernel
theorem dX3_asPinch_1 : decode cX3_asPinch 1 = .ok (.dup, 1) := by decide +kernel
theorem dX3_asPinch_2 : decode cX3_asPinch 2 = .ok (.getfield 42, 3) := by decide +kernel
theorem dX3_asPinch_5 : decode cX3_asPinch 5 = .ok (.ldc2_w 221, 3) := by decide +kernel
theorem dX3_asPinch_8 : decode cX3_asPinch 8 = .ok (.ladd, 1) := by decide +kernel
theorem dX3_asPinch_9 : decode cX3_asPinch 9 = .ok (.putfield 42, 3) := by decide +kernel
theorem dX3_asPinch_12 : decode cX3_asPinch 12 = .ok (.aload_n 0, 1) := by decide +kernel
theorem dX3_asPinch_13 : decode cX3_asPinch 13 = .ok (.iload_n 1, 1) := by decide +kernel
theorem dX3_asPinch_14 : decode cX3_asPinch 14 = .ok (.invokevirtual 121, 3) := by decide +kernel
theorem dX3_asPinch_17 : decode cX3_asPinch 17 = .ok (.istore_n 2, 1) := by decide +kernel
theorem dX3_asPinch_18 : decode cX3_asPinch 18 = .ok (.aload_n 0, 1) := by decide +kernel
theorem dX3_asPinch_19 : decode cX3_asPinch 19 = .ok (.iload_n 1, 1) := by decide +kernel
theorem dX3_asPinch_20 : decode cX3_asPinch 20 = .ok (.invokevirtual 183, 3) := by decide +kernel
theorem dX3_asPinch_23 : decode cX3_asPinch 23 = .ok (.iload_n 2, 1) := by decide +kernel
theorem dX3_asPinch_24 : decode cX3_asPinch 24 = .ok (.bipush (-9), 2) := by decide +kernel
theorem dX3_asPinch_26 : decode cX3_asPinch 26 = .ok (.if_icmp .ne 7, 3) := by decide +kernel
theorem dX3_asPinch_29 : decode cX3_asPinch 29 = .ok (.iconst 0, 1) := by decide +kernel
theorem dX3_asPinch_30 : decode cX3_asPinch 30 = .ok (.goto 4, 3) := by decide +kernel
theorem dX3_asPinch_33 : decode cX3_asPinch 33 = .ok (.iload_n 2, 1) := by decide +kernel
theorem dX3_asPinch_34 : decode cX3_asPinch 34 = .ok (.iadd, 1) := by decide +kernel
theorem dX3_asPinch_35 : decode cX3_asPinch 35 = .ok (.ireturn, 1) := by decide +kernel
set_option maxRecDepth 20000 in
theorem ggX3_asEnd_X3_asCrease : GoodIn wsX3_asEnd wsX3_asCrease := goodIn_r _ [8, 1, 21, 22, 23, 24, 25, 26, 27, 28, 29] (by decide +kernel) (by decide +kernel)
set_option maxRecDepth 20000 in
theorem gX3_asEnd_X3_asCrease : GoodIn wsX3_asEnd (wsV RX3 183 RX3 yX3_asCrease wsX3_asCrease) := goodIn_app (goodIn_of _ (by decide +kernel)) ggX3_asEnd_X3_asCrease
set_option maxRecDepth 20000 in
theorem ggX3_asEnd_X0_creases : GoodIn wsX3_asEnd wsX0_creases := goodIn_r _ [13, 14, 15, 16, 17, 18, 19, 20, 30, 31, 32, 33, 34, 35, 36] (by decide +kernel) (by decide +kernel)
set_option maxRecDepth 20000 in
theorem gX3_asEnd_X0_creases : GoodIn wsX3_asEnd (wsV RX3 138 RX0 yX0_creases wsX0_creases) := goodIn_app (goodIn_of _ (by decide +kernel)) ggX3_asEnd_X0_creases
theorem dX3_asEnd_0 : decode cX3_asEnd 0 = .ok (.aload_n 0, 1) := by decide +kernel
theorem dX3_asEnd_1 : decode cX3_asEnd 1 = .ok (.dup, 1) := by decide +kernel
theorem dX3_asEnd_2 : decode cX3_asEnd 2 = .ok (.getfield 42, 3) := by decide +kernel
theorem dX3_asEnd_5 : decode cX3_asEnd 5 = .ok (.ldc2_w 223, 3) := by decide +kernel
theorem dX3_asEnd_8 : decode cX3_asEnd 8 = .ok (.ladd, 1) := by decide +kernel
theorem dX3_asEnd_9 : decode cX3_asEnd 9 = .ok (.putfield 42, 3) := by decide +kernel
theorem dX3_asEnd_12 : decode cX3_asEnd 12 = .ok (.aload_n 0, 1) := by decide +kernel
theorem dX3_asEnd_13 : decode cX3_asEnd 13 = .ok (.iload_n 1, 1) := by decide +kernel
theorem dX3_asEnd_14 : decode cX3_asEnd 14 = .ok (.invokevirtual 183, 3) := by decide +kernel
theorem dX3_asEnd_17 : decode cX3_asEnd 17 = .ok (.aload_n 0, 1) := by decide +kernel
theorem dX3_asEnd_18 : decode cX3_asEnd 18 = .ok (.getfield 19, 3) := by decide +kernel
theorem dX3_asEnd_21 : decode cX3_asEnd 21 = .ok (.invokevirtual 138, 3) := by decide +kernel
theorem dX3_asEnd_24 : decode cX3_asEnd 24 = .ok (.isub, 1) := by decide +kernel
theorem dX3_asEnd_25 : decode cX3_asEnd 25 = .ok (.ireturn, 1) := by decide +kernel
set_option maxRecDepth 20000 in
theorem ggX3_asThumb_X3_asPinch : GoodIn wsX3_asThumb wsX3_asPinch := goodIn_r _ [7, 1, 8, 9, 10, 11, 6, 12, 13, 14, 15, 16, 17, 18, 19, 20, 21, 22, 23, 24, 25, 26, 27, 28, 29, 30, 31, 32, 33, 34, 35, 36, 37, 38, 39, 40] (by decide +kernel) (by decide +kernel)
set_option maxRecDepth 20000 in
theorem gX3_asThumb_X3_asPinch : GoodIn wsX3_asThumb (wsV RX3 186 RX3 yX3_asPinch wsX3_asPinch) := goodIn_app (goodIn_of _ (by decide +kernel)) ggX3_asThumb_X3_asPinch
theorem dX3_asThumb_0 : decode cX3_asThumb 0 = .ok (.aload_n 0, 1) := by decide +kernel
theorem dX3_asThumb_1 : decode cX3_asThumb 1 = .ok (.dup, 1) := by decide +kernel
theorem dX3_asThumb_2 : decode cX3_asThumb 2 = .ok (.getfield 42, 3) := by decide +kernel
theorem dX3_asThumb_5 : decode cX3_asThumb 5 = .ok (.ldc2_w 148, 3) := by decide +kernel
theorem dX3_asThumb_8 : decode cX3_asThumb 8 = .ok (.ladd, 1) := by decide +kernel
theorem dX3_asThumb_9 : decode cX3_asThumb 9 = .ok (.putfield 42, 3) := by decide +kernel
theorem dX3_asThumb_12 : decode cX3_asThumb 12 = .ok (.aload_n 0, 1) := by decide +kernel
theorem dX3_asThumb_13 : decode cX3_asThumb 13 = .ok (.iload_n 1, 1) := by decide +kernel
theorem dX3_asThumb_14 : decode cX3_asThumb 14 = .ok (.invokevirtual 186, 3) := by decide +kernel
theorem dX3_asThumb_17 : decode cX3_asThumb 17 = .ok (.iconst 2, 1) := by decide +kernel
theorem dX3_asThumb_18 : decode cX3_asThumb 18 = .ok (.imul, 1) := by decide +kernel
theorem dX3_asThumb_19 : decode cX3_asThumb 19 = .ok (.ireturn, 1) := by decide +kernel
set_option maxRecDepth 20000 in
theorem ggX3_asCorner_X3_asEnd : GoodIn wsX3_asCorner wsX3_asEnd := goodIn_r _ [8, 1, 9, 3, 10, 11, 12, 7, 13, 14, 15, 16, 17, 18, 19, 20, 21, 22, 23, 24, 25, 27, 28, 29, 30, 31, 32, 33, 34, 35, 36, 37, 38, 39, 40, 41, 42] (by decide +kernel) (by decide +kernel)
set_option maxRecDepth 20000 in
theorem gX3_asCorner_X3_asEnd : GoodIn wsX3_asCorner (wsV RX3 189 RX3 yX3_asEnd wsX3_asEnd) := goodIn_app (goodIn_of _ (by decide +kernel)) ggX3_asCorner_X3_asEnd
set_option maxRecDepth 20000 in
theorem ggX3_asCorner_X1_size : GoodIn wsX3_asCorner wsX1_size := goodIn_r _ [24, 25, 41, 42] (by decide +kernel) (by decide +kernel)
set_option maxRecDepth 20000 in
theorem gX3_asCorner_X1_size : GoodIn wsX3_asCorner (wsV RX3 66 RX1 yX1_size wsX1_size) := goodIn_app (goodIn_of _ (by decide +kernel)) ggX3_asCorner_X1_size
theorem dX3_asCorner_0 : decode cX3_asCorner 0 = .ok (.aload_n 0, 1) := by decide +kernel
theorem dX3_asCorner_1 : decode cX3_asCorner 1 = .ok (.dup, 1) := by decide +kernel
theorem dX3_asCorner_2 : decode cX3_asCorner 2 = .ok (.getfield 42, 3) := by decide +kernel
theorem dX3_asCorner_5 : decode cX3_asCorner 5 = .ok (.ldc2_w 225, 3) := by decide +kernel
theorem dX3_asCorner_8 : decode cX3_asCorner 8 = .ok (.ladd, 1) := by decide +kernel
theorem dX3_asCorner_9 : decode cX3_asCorner 9 = .ok (.putfield 42, 3) := by decide +kernel
theorem dX3_asCorner_12 : decode cX3_asCorner 12 = .ok (.aload_n 0, 1) := by decide +kernel
theorem dX3_asCorner_13 : decode cX3_asCorner 13 = .ok (.iload_n 1, 1) := by decide +kernel
theorem dX3_asCorner_14 : decode cX3_asCorner 14 = .ok (.invokevirtual 189, 3) := by decide +kernel
theorem dX3_asCorner_17 : decode cX3_asCorner 17 = .ok (.aload_n 0, 1) := by decide +kernel
theorem dX3_asCorner_18 : decode cX3_asCorner 18 = .ok (.getfield 19, 3) := by decide +kernel
theorem dX3_asCorner_21 : decode cX3_asCorner 21 = .ok (.getfield 163, 3) := by decide +kernel
theorem dX3_asCorner_24 : decode cX3_asCorner 24 = .ok (.invokevirtual 66, 3) := by decide +kernel
theorem dX3_asCorner_27 : decode cX3_asCorner 27 = .ok (.iadd, 1) := by decide +kernel
theorem dX3_asCorner_28 : decode cX3_asCorner 28 = .ok (.ireturn, 1) := by decide +kernel
set_option maxRecDepth 20000 in
theorem ggX3_asSeam_X3_asCrease : GoodIn wsX3_asSeam wsX3_asCrease := goodIn_r _ [8, 1, 9, 10, 11, 12, 13, 14, 15, 16, 17] (by decide +kernel) (by decide +kernel)
set_option maxRecDepth 20000 in
theorem gX3_asSeam_X3_asCrease : GoodIn wsX3_asSeam (wsV RX3 183 RX3 yX3_asCrease wsX3_asCrease) := goodIn_app (goodIn_of _ (by decide +kernel)) ggX3_asSeam_X3_asCrease
theorem dX3_asSeam_0 : decode cX3_asSeam 0 = .ok (.aload_n 0, 1) := by decide +kernel
theorem dX3_asSeam_1 : decode cX3_asSeam 1 = .ok (.dup, 1) := by decide +kernel
theorem dX3_asSeam_2 : decode cX3_asSeam 2 = .ok (.getfield 42, 3) := by decide +kernel
theorem dX3_asSeam_5 : decode cX3_asSeam 5 = .ok (.ldc2_w 227, 3) := by decide +kernel
theorem dX3_asSeam_8 : decode cX3_asSeam 8 = .ok (.ladd, 1) := by decide +kernel
theorem dX3_asSeam_9 : decode cX3_asSeam 9 = .ok (.putfield 42, 3) := by decide +kernel
theorem dX3_asSeam_12 : decode cX3_asSeam 12 = .ok (.aload_n 0, 1) := by decide +kernel
theorem dX3_asSeam_13 : decode cX3_asSeam 13 = .ok (.iload_n 1, 1) := by decide +kernel
theorem dX3_asSeam_14 : decode cX3_asSeam 14 = .ok (.invokevirtual 183, 3) := by decide +kernel
theorem dX3_asSeam_17 : decode cX3_asSeam 17 = .ok (.aload_n 0, 1) := by decide +kernel
theorem dX3_asSeam_18 : decode cX3_asSeam 18 = .ok (.getfield 29, 3) := by decide +kernel
theorem dX3_asSeam_21 : decode cX3_asSeam 21 = .ok (.iadd, 1) := by decide +kernel
theorem dX3_asSeam_22 : decode cX3_asSeam 22 = .ok (.ireturn, 1) := by decide +kernel
theorem dX3_imageOf_0 : decode cX3_imageOf 0 = .ok (.iload_n 1, 1) := by decide +kernel
theorem dX3_imageOf_1 : decode cX3_imageOf 1 = .ok (.lookupswitch 37 #[(0, 27), (1, 32)], 27) := by decide +kernel
theorem dX3_imageOf_28 : decode cX3_imageOf 28 = .ok (.aload_n 0, 1) := by decide +kernel
theorem dX3_imageOf_29 : decode cX3_imageOf 29 = .ok (.getfield 23, 3) := by decide +kernel
theorem dX3_imageOf_32 : decode cX3_imageOf 32 = .ok (.areturn, 1) := by decide +kernel
theorem dX3_imageOf_33 : decode cX3_imageOf 33 = .ok (.aload_n 0, 1) := by decide +kernel
theorem dX3_imageOf_34 : decode cX3_imageOf 34 = .ok (.getfield 26, 3) := by decide +kernel
theorem dX3_imageOf_37 : decode cX3_imageOf 37 = .ok (.areturn, 1) := by decide +kernel
theorem dX3_imageOf_38 : decode cX3_imageOf 38 = .ok (.aconst_null, 1) := by decide +kernel
theorem dX3_imageOf_39 : decode cX3_imageOf 39 = .ok (.areturn, 1) := by decide +kernel
set_option maxRecDepth 20000 in
theorem ggX3_leastUpper_X3_shared : GoodIn wsX3_leastUpper wsX3_shared := goodIn_r _ [4] (by decide +kernel) (by decide +kernel)
set_option maxRecDepth 20000 in
theorem gX3_leastUpper_X3_shared : GoodIn wsX3_leastUpper (va_wsS RX3 229 yX3_shared wsX3_shared) := goodIn_app (goodIn_of _ (by decide +kernel)) ggX3_leastUpper_X3_shared
theorem dX3_leastUpper_0 : decode cX3_leastUpper 0 = .ok (.lload_n 0, 1) := by decide +kernel
theorem dX3_leastUpper_1 : decode cX3_leastUpper 1 = .ok (.lload_n 2, 1) := by decide +kernel
theorem dX3_leastUpper_2 : decode cX3_leastUpper 2 = .ok (.invokestatic 229, 3) := by decide +kernel
theorem dX3_leastUpper_5 : decode cX3_leastUpper 5 = .ok (.lstore 4, 2) := by decide +kernel
theorem dX3_leastUpper_7 : decode cX3_leastUpper 7 = .ok (.lload 4, 2) := by decide +kernel
theorem dX3_leastUpper_9 : decode cX3_leastUpper 9 = .ok (.lconst 0, 1) := by decide +kernel
theorem dX3_leastUpper_10 : decode cX3_leastUpper 10 = .ok (.lcmp, 1) := by decide +kernel
theorem dX3_leastUpper_11 : decode cX3_leastUpper 11 = .ok (.ifCond .ne 7, 3) := by decide +kernel
theorem dX3_leastUpper_14 : decode cX3_leastUpper 14 = .ok (.lconst 0, 1) := by decide +kernel
theorem dX3_leastUpper_15 : decode cX3_leastUpper 15 = .ok (.goto 7, 3) := by decide +kernel
theorem dX3_leastUpper_18 : decode cX3_leastUpper 18 = .ok (.lload_n 0, 1) := by decide +kernel
theorem dX3_leastUpper_19 : decode cX3_leastUpper 19 = .ok (.lload 4, 2) := by decide +kernel
theorem dX3_leastUpper_21 : decode cX3_leastUpper 21 = .ok (.ldiv, 1) := by decide +kernel
theorem dX3_leastUpper_22 : decode cX3_leastUpper 22 = .ok (.lreturn, 1) := by decide +kernel
set_option maxRecDepth 20000 in
theorem ggX3_leastLower_X3_shared : GoodIn wsX3_leastLower wsX3_shared := goodIn_r _ [4] (by decide +kernel) (by decide +kernel)
set_option maxRecDepth 20000 in
theorem gX3_leastLower_X3_shared : GoodIn wsX3_leastLower (va_wsS RX3 229 yX3_shared wsX3_shared) := goodIn_app (goodIn_of _ (by decide +kernel)) ggX3_leastLower_X3_shared
theorem dX3_leastLower_0 : decode cX3_leastLower 0 = .ok (.lload_n 0, 1) := by decide +kernel
theorem dX3_leastLower_1 : decode cX3_leastLower 1 = .ok (.lload_n 2, 1) := by decide +kernel
theorem dX3_leastLower_2 : decode cX3_leastLower 2 = .ok (.invokestatic 229, 3) := by decide +kernel
theorem dX3_leastLower_5 : decode cX3_leastLower 5 = .ok (.lstore 4, 2) := by decide +kernel
theorem dX3_leastLower_7 : decode cX3_leastLower 7 = .ok (.lload 4, 2) := by decide +kernel
theorem dX3_leastLower_9 : decode cX3_leastLower 9 = .ok (.lconst 0, 1) := by decide +kernel
theorem dX3_leastLower_10 : decode cX3_leastLower 10 = .ok (.lcmp, 1) := by decide +kernel
theorem dX3_leastLower_11 : decode cX3_leastLower 11 = .ok (.ifCond .ne 7, 3) := by decide +kernel
theorem dX3_leastLower_14 : decode cX3_leastLower 14 = .ok (.lconst 1, 1) := by decide +kernel
theorem dX3_leastLower_15 : decode cX3_leastLower 15 = .ok (.goto 7, 3) := by decide +kernel
theorem dX3_leastLower_18 : decode cX3_leastLower 18 = .ok (.lload_n 2, 1) := by decide +kernel
theorem dX3_leastLower_19 : decode cX3_leastLower 19 = .ok (.lload 4, 2) := by decide +kernel
theorem dX3_leastLower_21 : decode cX3_leastLower 21 = .ok (.ldiv, 1) := by decide +kernel
theorem dX3_leastLower_22 : decode cX3_leastLower 22 = .ok (.lreturn, 1) := by decide +kernel
theorem dX3_shared_0 : decode cX3_shared 0 = .ok (.lload_n 0, 1) := by decide +kernel
theorem dX3_shared_1 : decode cX3_shared 1 = .ok (.lstore 4, 2) := by decide +kernel
theorem dX3_shared_3 : decode cX3_shared 3 = .ok (.lload_n 2, 1) := by decide +kernel
theorem dX3_shared_4 : decode cX3_shared 4 = .ok (.lstore 6, 2) := by decide +kernel
theorem dX3_shared_6 : decode cX3_shared 6 = .ok (.iconst 0, 1) := by decide +kernel
theorem dX3_shared_7 : decode cX3_shared 7 = .ok (.istore 8, 2) := by decide +kernel
theorem dX3_shared_9 : decode cX3_shared 9 = .ok (.iload 8, 2) := by decide +kernel
theorem dX3_shared_11 : decode cX3_shared 11 = .ok (.bipush 100, 2) := by decide +kernel
theorem dX3_shared_13 : decode cX3_shared 13 = .ok (.if_icmp .ge 31, 3) := by decide +kernel
theorem dX3_shared_16 : decode cX3_shared 16 = .ok (.lload 6, 2) := by decide +kernel
theorem dX3_shared_18 : decode cX3_shared 18 = .ok (.lconst 0, 1) := by decide +kernel
theorem dX3_shared_19 : decode cX3_shared 19 = .ok (.lcmp, 1) := by decide +kernel
theorem dX3_shared_20 : decode cX3_shared 20 = .ok (.ifCond .eq 24, 3) := by decide +kernel
theorem dX3_shared_23 : decode cX3_shared 23 = .ok (.lload 4, 2) := by decide +kernel
theorem dX3_shared_25 : decode cX3_shared 25 = .ok (.lload 6, 2) := by decide +kernel
theorem dX3_shared_27 : decode cX3_shared 27 = .ok (.lrem, 1) := by decide +kernel
theorem dX3_shared_28 : decode cX3_shared 28 = .ok (.lstore 9, 2) := by decide +kernel
theorem dX3_shared_30 : decode cX3_shared 30 = .ok (.lload 6, 2) := by decide +kernel
theorem dX3_shared_32 : decode cX3_shared 32 = .ok (.lstore 4, 2) := by decide +kernel
theorem dX3_shared_34 : decode cX3_shared 34 = .ok (.lload 9, 2) := by decide +kernel
theorem dX3_shared_36 : decode cX3_shared 36 = .ok (.lstore 6, 2) := by decide +kernel
theorem dX3_shared_38 : decode cX3_shared 38 = .ok (.iinc 8 1, 3) := by decide +kernel
theorem dX3_shared_41 : decode cX3_shared 41 = .ok (.goto (-32), 3) := by decide +kernel
theorem dX3_shared_44 : decode cX3_shared 44 = .ok (.lload 4, 2) := by decide +kernel
theorem dX3_shared_46 : decode cX3_shared 46 = .ok (.lreturn, 1) := by decide +kernel
