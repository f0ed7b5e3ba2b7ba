theorem dX8_spotIn_2 : decode cX8_spotIn 2 = .ok (.iload_n 1, 1) := by decide +kernel
theorem dX8_spotIn_3 : decode cX8_spotIn 3 = .ok (.imul, 1) := by decide +kernel
theorem dX8_spotIn_4 : decode cX8_spotIn 4 = .ok (.invokevirtual 30, 3) := by decide +kernel
theorem dX8_spotIn_7 : decode cX8_spotIn 7 = .ok (.bipush 100, 2) := by decide +kernel
theorem dX8_spotIn_9 : decode cX8_spotIn 9 = .ok (.imul, 1) := by decide +kernel
theorem dX8_spotIn_10 : decode cX8_spotIn 10 = .ok (.aload_n 0, 1) := by decide +kernel
theorem dX8_spotIn_11 : decode cX8_spotIn 11 = .ok (.iconst 3, 1) := by decide +kernel
theorem dX8_spotIn_12 : decode cX8_spotIn 12 = .ok (.iload_n 1, 1) := by decide +kernel
theorem dX8_spotIn_13 : decode cX8_spotIn 13 = .ok (.imul, 1) := by decide +kernel
theorem dX8_spotIn_14 : decode cX8_spotIn 14 = .ok (.iconst 1, 1) := by decide +kernel
theorem dX8_spotIn_15 : decode cX8_spotIn 15 = .ok (.iadd, 1) := by decide +kernel
theorem dX8_spotIn_16 : decode cX8_spotIn 16 = .ok (.invokevirtual 30, 3) := by decide +kernel
theorem dX8_spotIn_19 : decode cX8_spotIn 19 = .ok (.iadd, 1) := by decide +kernel
theorem dX8_spotIn_20 : decode cX8_spotIn 20 = .ok (.ireturn, 1) := by decide +kernel
set_option maxRecDepth 20000 in
theorem ggX8_write_X11_spelling : GoodIn wsX8_write wsX11_spelling := goodIn_r _ [6] (by decide +kernel) (by decide +kernel)
set_option maxRecDepth 20000 in
theorem gX8_write_X11_spelling_n54 : GoodIn wsX8_write (wsX11_spelling) := ggX8_write_X11_spelling
set_option maxRecDepth 20000 in
theorem ggX8_write_J4_init_da8c8 : GoodIn wsX8_write wsJ4_init_da8c8 := goodIn_r _ [9, 10, 11, 12, 13, 14, 15, 16, 17, 18, 19, 20, 21, 22, 23, 24, 25, 26, 27, 28, 261, 262, 263, 264] (by decide +kernel) (by decide +kernel)
set_option maxRecDepth 20000 in
theorem gX8_write_J4_init_da8c8 : GoodIn wsX8_write (wsJ4_init_da8c8) := ggX8_write_J4_init_da8c8
set_option maxRecDepth 20000 in
theorem ggX8_write_J4_append_15ec4 : GoodIn wsX8_write wsJ4_append_15ec4 := goodIn_r _ [32, 33, 34, 35, 36, 12, 37, 38, 39, 40, 41, 42, 43, 19, 44, 45, 46, 47, 48, 20, 49, 50, 51, 52, 53, 54, 55, 56, 57, 58, 59, 60, 61, 62, 63, 64, 65, 66, 67, 68, 69, 70, 71, 72, 73, 74, 75, 76, 18, 77, 78, 79, 80, 81, 82, 83, 84, 85, 86, 87, 88, 17, 89, 90, 23, 91, 92, 93, 94, 95, 96, 97, 98, 99, 100, 101, 102, 103, 104, 105, 106, 107, 108, 109, 110, 111, 112, 113, 114, 115, 116, 117, 118, 119, 120, 121, 122, 123, 124, 125, 126, 127, 128, 129, 130, 131, 132, 133, 134, 135, 136, 137, 138, 139, 21, 22, 24, 25, 26, 27, 28, 140, 141, 142, 143, 144, 145, 146, 147, 148, 149, 150, 151, 152, 153, 154, 155, 156, 157, 158, 159, 160, 161, 261, 262, 263, 264, 265, 266, 267, 268] (by decide +kernel) (by decide +kernel)
set_option maxRecDepth 20000 in
theorem gX8_write_J4_append_15ec4 : GoodIn wsX8_write (wsV RX8 63 RJ4 yJ4_append_15ec4 wsJ4_append_15ec4) := goodIn_app (goodIn_of _ (by decide +kernel)) ggX8_write_J4_append_15ec4
set_option maxRecDepth 20000 in
theorem ggX8_write_J4_append_cf468 : GoodIn wsX8_write wsJ4_append_cf468 := goodIn_r _ [165, 166, 167, 35, 168, 12, 169, 38, 19, 44, 45, 46, 47, 48, 20, 49, 50, 51, 52, 53, 54, 55, 56, 57, 58, 59, 60, 61, 62, 63, 64, 65, 66, 67, 68, 69, 70, 71, 72, 73, 74, 75, 76, 18, 77, 78, 79, 80, 81, 82, 83, 84, 85, 86, 87, 88, 17, 170, 171, 142, 172, 135, 136, 137, 138, 139, 21, 22, 23, 24, 25, 26, 27, 28, 140, 141, 143, 144, 145, 146, 147, 148, 149, 96, 97, 98, 150, 151, 101, 152, 103, 153, 154, 106, 155, 108, 109, 110, 92, 111, 112, 173, 174, 175, 176, 177, 178, 179, 180, 181, 182, 183, 184, 261, 262, 263, 264] (by decide +kernel) (by decide +kernel)
set_option maxRecDepth 20000 in
theorem gX8_write_J4_append_cf468 : GoodIn wsX8_write (wsV RX8 67 RJ4 yJ4_append_cf468 wsJ4_append_cf468) := goodIn_app (goodIn_of _ (by decide +kernel)) ggX8_write_J4_append_cf468
set_option maxRecDepth 20000 in
theorem ggX8_write_J4_append_bf812 : GoodIn wsX8_write wsJ4_append_bf812 := goodIn_r _ [188, 189, 190, 35, 191, 12, 192, 38, 19, 193, 194, 195, 196, 44, 45, 46, 47, 48, 20, 49, 50, 51, 52, 53, 54, 55, 56, 57, 58, 59, 60, 61, 62, 63, 64, 65, 66, 67, 68, 69, 70, 71, 72, 73, 74, 75, 76, 18, 77, 78, 79, 80, 81, 82, 83, 84, 85, 86, 87, 88, 17, 197, 198, 199, 200, 201, 202, 203, 23, 204, 92, 93, 94, 95, 96, 97, 98, 99, 100, 101, 102, 103, 104, 105, 106, 107, 205, 206, 207, 208, 209, 108, 109, 110, 111, 112, 261, 262, 263, 264] (by decide +kernel) (by decide +kernel)
set_option maxRecDepth 20000 in
theorem gX8_write_J4_append_bf812 : GoodIn wsX8_write (wsV RX8 70 RJ4 yJ4_append_bf812 wsJ4_append_bf812) := goodIn_app (goodIn_of _ (by decide +kernel)) ggX8_write_J4_append_bf812
set_option maxRecDepth 20000 in
theorem ggX8_write_J4_toString_0e30d : GoodIn wsX8_write wsJ4_toString_0e30d := goodIn_r _ [213, 214, 215, 101, 216, 217, 218, 219, 220, 221, 222, 15, 16, 123, 117, 122, 223, 224, 225, 226, 227, 12, 228, 19, 229, 230, 231, 232, 233, 3, 234, 235, 35, 236, 237, 38, 238, 85, 86, 87, 88, 17, 20, 239, 240, 69, 241, 71, 72, 73, 74, 75, 76, 242, 243, 244, 18, 77, 78, 61, 79, 80, 81, 82, 83, 245, 246, 247, 248, 249, 23, 250, 251, 252, 253, 147, 148, 149, 96, 97, 98, 150, 151, 152, 103, 153, 154, 106, 155, 254, 255, 256, 92, 111, 112, 25, 26, 27, 28, 257, 258, 259, 260, 265, 266, 267, 268, 261, 262, 263, 264] (by decide +kernel) (by decide +kernel)
set_option maxRecDepth 20000 in
theorem gX8_write_J4_toString_0e30d : GoodIn wsX8_write (wsV RX8 73 RJ4 yJ4_toString_0e30d wsJ4_toString_0e30d) := goodIn_app (goodIn_of _ (by decide +kernel)) ggX8_write_J4_toString_0e30d
theorem dX8_write_0 : decode cX8_write 0 = .ok (.aload_n 0, 1) := by decide +kernel
theorem dX8_write_1 : decode cX8_write 1 = .ok (.arraylength, 1) := by decide +kernel
theorem dX8_write_2 : decode cX8_write 2 = .ok (.ifCond .ne 9, 3) := by decide +kernel
theorem dX8_write_5 : decode cX8_write 5 = .ok (.bipush 101, 2) := by decide +kernel
theorem dX8_write_7 : decode cX8_write 7 = .ok (.invokestatic 54, 3) := by decide +kernel
theorem dX8_write_10 : decode cX8_write 10 = .ok (.areturn, 1) := by decide +kernel
theorem dX8_write_11 : decode cX8_write 11 = .ok (.new 58, 3) := by decide +kernel
theorem dX8_write_14 : decode cX8_write 14 = .ok (.dup, 1) := by decide +kernel
theorem dX8_write_15 : decode cX8_write 15 = .ok (.invokespecial 60, 3) := by decide +kernel
theorem dX8_write_18 : decode cX8_write 18 = .ok (.astore_n 2, 1) := by decide +kernel
theorem dX8_write_19 : decode cX8_write 19 = .ok (.iconst 0, 1) := by decide +kernel
theorem dX8_write_20 : decode cX8_write 20 = .ok (.istore_n 3, 1) := by decide +kernel
theorem dX8_write_21 : decode cX8_write 21 = .ok (.iload_n 3, 1) := by decide +kernel
theorem dX8_write_22 : decode cX8_write 22 = .ok (.aload_n 0, 1) := by decide +kernel
theorem dX8_write_23 : decode cX8_write 23 = .ok (.arraylength, 1) := by decide +kernel
theorem dX8_write_24 : decode cX8_write 24 = .ok (.if_icmp .ge 70, 3) := by decide +kernel
theorem dX8_write_27 : decode cX8_write 27 = .ok (.iload_n 3, 1) := by decide +kernel
theorem dX8_write_28 : decode cX8_write 28 = .ok (.aload_n 1, 1) := by decide +kernel
theorem dX8_write_29 : decode cX8_write 29 = .ok (.arraylength, 1) := by decide +kernel
theorem dX8_write_30 : decode cX8_write 30 = .ok (.if_icmp .ge 64, 3) := by decide +kernel
theorem dX8_write_33 : decode cX8_write 33 = .ok (.iload_n 3, 1) := by decide +kernel
theorem dX8_write_34 : decode cX8_write 34 = .ok (.ifCond .le 10, 3) := by decide +kernel
theorem dX8_write_37 : decode cX8_write 37 = .ok (.aload_n 2, 1) := by decide +kernel
theorem dX8_write_38 : decode cX8_write 38 = .ok (.ldc 61, 2) := by decide +kernel
theorem dX8_write_40 : decode cX8_write 40 = .ok (.invokevirtual 63, 3) := by decide +kernel
theorem dX8_write_43 : decode cX8_write 43 = .ok (.pop, 1) := by decide +kernel
theorem dX8_write_44 : decode cX8_write 44 = .ok (.aload_n 2, 1) := by decide +kernel
theorem dX8_write_45 : decode cX8_write 45 = .ok (.bipush 107, 2) := by decide +kernel
theorem dX8_write_47 : decode cX8_write 47 = .ok (.aload_n 0, 1) := by decide +kernel
theorem dX8_write_48 : decode cX8_write 48 = .ok (.iload_n 3, 1) := by decide +kernel
theorem dX8_write_49 : decode cX8_write 49 = .ok (.iaload, 1) := by decide +kernel
theorem dX8_write_50 : decode cX8_write 50 = .ok (.bipush 100, 2) := by decide +kernel
theorem dX8_write_52 : decode cX8_write 52 = .ok (.idiv, 1) := by decide +kernel
theorem dX8_write_53 : decode cX8_write 53 = .ok (.iadd, 1) := by decide +kernel
theorem dX8_write_54 : decode cX8_write 54 = .ok (.invokestatic 54, 3) := by decide +kernel
theorem dX8_write_57 : decode cX8_write 57 = .ok (.invokevirtual 63, 3) := by decide +kernel
theorem dX8_write_60 : decode cX8_write 60 = .ok (.bipush 32, 2) := by decide +kernel
theorem dX8_write_62 : decode cX8_write 62 = .ok (.invokevirtual 67, 3) := by decide +kernel
theorem dX8_write_65 : decode cX8_write 65 = .ok (.pop, 1) := by decide +kernel
theorem dX8_write_66 : decode cX8_write 66 = .ok (.aload_n 2, 1) := by decide +kernel
theorem dX8_write_67 : decode cX8_write 67 = .ok (.aload_n 0, 1) := by decide +kernel
theorem dX8_write_68 : decode cX8_write 68 = .ok (.iload_n 3, 1) := by decide +kernel
theorem dX8_write_69 : decode cX8_write 69 = .ok (.iaload, 1) := by decide +kernel
theorem dX8_write_70 : decode cX8_write 70 = .ok (.bipush 100, 2) := by decide +kernel
theorem dX8_write_72 : decode cX8_write 72 = .ok (.irem, 1) := by decide +kernel
theorem dX8_write_73 : decode cX8_write 73 = .ok (.invokevirtual 70, 3) := by decide +kernel
theorem dX8_write_76 : decode cX8_write 76 = .ok (.bipush 32, 2) := by decide +kernel
theorem dX8_write_78 : decode cX8_write 78 = .ok (.invokevirtual 67, 3) := by decide +kernel
theorem dX8_write_81 : decode cX8_write 81 = .ok (.aload_n 1, 1) := by decide +kernel
theorem dX8_write_82 : decode cX8_write 82 = .ok (.iload_n 3, 1) := by decide +kernel
theorem dX8_write_83 : decode cX8_write 83 = .ok (.iaload, 1) := by decide +kernel
theorem dX8_write_84 : decode cX8_write 84 = .ok (.invokevirtual 70, 3) := by decide +kernel
theorem dX8_write_87 : decode cX8_write 87 = .ok (.pop, 1) := by decide +kernel
theorem dX8_write_88 : decode cX8_write 88 = .ok (.iinc 3 1, 3) := by decide +kernel
theorem dX8_write_91 : decode cX8_write 91 = .ok (.goto (-70), 3) := by decide +kernel
theorem dX8_write_94 : decode cX8_write 94 = .ok (.aload_n 2, 1) := by decide +kernel
theorem dX8_write_95 : decode cX8_write 95 = .ok (.invokevirtual 73, 3) := by decide +kernel
theorem dX8_write_98 : decode cX8_write 98 = .ok (.areturn, 1) := by decide +kernel
theorem dX8_harmsTold_0 : decode cX8_harmsTold 0 = .ok (.aload_n 0, 1) := by decide +kernel
theorem dX8_harmsTold_1 : decode cX8_harmsTold 1 = .ok (.getfield 19, 3) := by decide +kernel
theorem dX8_harmsTold_4 : decode cX8_harmsTold 4 = .ok (.arraylength, 1) := by decide +kernel
theorem dX8_harmsTold_5 : decode cX8_harmsTold 5 = .ok (.ireturn, 1) := by decide +kernel
set_option maxRecDepth 20000 in
theorem ggX8_worseThan_X8_sizeAt : GoodIn wsX8_worseThan wsX8_sizeAt := goodIn_r _ [11, 1, 2, 15, 16, 17, 18] (by decide +kernel) (by decide +kernel)
set_option maxRecDepth 20000 in
theorem gX8_worseThan_X8_sizeAt : GoodIn wsX8_worseThan (wsV RX8 77 RX8 yX8_sizeAt wsX8_sizeAt) := goodIn_app (goodIn_of _ (by decide +kernel)) ggX8_worseThan_X8_sizeAt
set_option maxRecDepth 20000 in
theorem ggX8_worseThan_X11_gravity : GoodIn wsX8_worseThan wsX11_gravity := goodIn_r _ [14] (by decide +kernel) (by decide +kernel)
set_option maxRecDepth 20000 in
theorem gX8_worseThan_X11_gravity_n80 : GoodIn wsX8_worseThan (wsX11_gravity) := ggX8_worseThan_X11_gravity
theorem dX8_worseThan_0 : decode cX8_worseThan 0 = .ok (.iconst 0, 1) := by decide +kernel
theorem dX8_worseThan_1 : decode cX8_worseThan 1 = .ok (.istore_n 2, 1) := by decide +kernel
theorem dX8_worseThan_2 : decode cX8_worseThan 2 = .ok (.iconst 0, 1) := by decide +kernel
theorem dX8_worseThan_3 : decode cX8_worseThan 3 = .ok (.istore_n 3, 1) := by decide +kernel
theorem dX8_worseThan_4 : decode cX8_worseThan 4 = .ok (.iload_n 3, 1) := by decide +kernel
theorem dX8_worseThan_5 : decode cX8_worseThan 5 = .ok (.aload_n 0, 1) := by decide +kernel
theorem dX8_worseThan_6 : decode cX8_worseThan 6 = .ok (.getfield 19, 3) := by decide +kernel
theorem dX8_worseThan_9 : decode cX8_worseThan 9 = .ok (.arraylength, 1) := by decide +kernel
theorem dX8_worseThan_10 : decode cX8_worseThan 10 = .ok (.if_icmp .ge 59, 3) := by decide +kernel
theorem dX8_worseThan_13 : decode cX8_worseThan 13 = .ok (.iload_n 3, 1) := by decide +kernel
theorem dX8_worseThan_14 : decode cX8_worseThan 14 = .ok (.aload_n 0, 1) := by decide +kernel
theorem dX8_worseThan_15 : decode cX8_worseThan 15 = .ok (.getfield 23, 3) := by decide +kernel
theorem dX8_worseThan_18 : decode cX8_worseThan 18 = .ok (.arraylength, 1) := by decide +kernel
theorem dX8_worseThan_19 : decode cX8_worseThan 19 = .ok (.if_icmp .ge 50, 3) := by decide +kernel
theorem dX8_worseThan_22 : decode cX8_worseThan 22 = .ok (.aload_n 0, 1) := by decide +kernel
theorem dX8_worseThan_23 : decode cX8_worseThan 23 = .ok (.getfield 23, 3) := by decide +kernel
theorem dX8_worseThan_26 : decode cX8_worseThan 26 = .ok (.iload_n 3, 1) := by decide +kernel
theorem dX8_worseThan_27 : decode cX8_worseThan 27 = .ok (.iaload, 1) := by decide +kernel
theorem dX8_worseThan_28 : decode cX8_worseThan 28 = .ok (.aload_n 1, 1) := by decide +kernel
theorem dX8_worseThan_29 : decode cX8_worseThan 29 = .ok (.aload_n 0, 1) := by decide +kernel
theorem dX8_worseThan_30 : decode cX8_worseThan 30 = .ok (.getfield 19, 3) := by decide +kernel
theorem dX8_worseThan_33 : decode cX8_worseThan 33 = .ok (.iload_n 3, 1) := by decide +kernel
theorem dX8_worseThan_34 : decode cX8_worseThan 34 = .ok (.iaload, 1) := by decide +kernel
theorem dX8_worseThan_35 : decode cX8_worseThan 35 = .ok (.invokevirtual 77, 3) := by decide +kernel
theorem dX8_worseThan_38 : decode cX8_worseThan 38 = .ok (.isub, 1) := by decide +kernel
theorem dX8_worseThan_39 : decode cX8_worseThan 39 = .ok (.istore 4, 2) := by decide +kernel
theorem dX8_worseThan_41 : decode cX8_worseThan 41 = .ok (.iload_n 2, 1) := by decide +kernel
theorem dX8_worseThan_42 : decode cX8_worseThan 42 = .ok (.iload 4, 2) := by decide +kernel
theorem dX8_worseThan_44 : decode cX8_worseThan 44 = .ok (.iconst 0, 1) := by decide +kernel
theorem dX8_worseThan_45 : decode cX8_worseThan 45 = .ok (.invokestatic 48, 3) := by decide +kernel
theorem dX8_worseThan_48 : decode cX8_worseThan 48 = .ok (.aload_n 0, 1) := by decide +kernel
theorem dX8_worseThan_49 : decode cX8_worseThan 49 = .ok (.getfield 19, 3) := by decide +kernel
theorem dX8_worseThan_52 : decode cX8_worseThan 52 = .ok (.iload_n 3, 1) := by decide +kernel
theorem dX8_worseThan_53 : decode cX8_worseThan 53 = .ok (.iaload, 1) := by decide +kernel
theorem dX8_worseThan_54 : decode cX8_worseThan 54 = .ok (.bipush 100, 2) := by decide +kernel
theorem dX8_worseThan_56 : decode cX8_worseThan 56 = .ok (.idiv, 1) := by decide +kernel
theorem dX8_worseThan_57 : decode cX8_worseThan 57 = .ok (.invokestatic 80, 3) := by decide +kernel
theorem dX8_worseThan_60 : decode cX8_worseThan 60 = .ok (.imul, 1) := by decide +kernel
theorem dX8_worseThan_61 : decode cX8_worseThan 61 = .ok (.iadd, 1) := by decide +kernel
theorem dX8_worseThan_62 : decode cX8_worseThan 62 = .ok (.istore_n 2, 1) := by decide +kernel
theorem dX8_worseThan_63 : decode cX8_worseThan 63 = .ok (.iinc 3 1, 3) := by decide +kernel
theorem dX8_worseThan_66 : decode cX8_worseThan 66 = .ok (.goto (-62), 3) := by decide +kernel
theorem dX8_worseThan_69 : decode cX8_worseThan 69 = .ok (.iload_n 2, 1) := by decide +kernel
theorem dX8_worseThan_70 : decode cX8_worseThan 70 = .ok (.ireturn, 1) := by decide +kernel
theorem dX8_sizeAt_0 : decode cX8_sizeAt 0 = .ok (.iconst 0, 1) := by decide +kernel
theorem dX8_sizeAt_1 : decode cX8_sizeAt 1 = .ok (.istore_n 2, 1) := by decide +kernel
theorem dX8_sizeAt_2 : decode cX8_sizeAt 2 = .ok (.iload_n 2, 1) := by decide +kernel
theorem dX8_sizeAt_3 : decode cX8_sizeAt 3 = .ok (.aload_n 0, 1) := by decide +kernel
theorem dX8_sizeAt_4 : decode cX8_sizeAt 4 = .ok (.getfield 19, 3) := by decide +kernel
theorem dX8_sizeAt_7 : decode cX8_sizeAt 7 = .ok (.arraylength, 1) := by decide +kernel
theorem dX8_sizeAt_8 : decode cX8_sizeAt 8 = .ok (.if_icmp .ge 35, 3) := by decide +kernel
theorem dX8_sizeAt_11 : decode cX8_sizeAt 11 = .ok (.iload_n 2, 1) := by decide +kernel
theorem dX8_sizeAt_12 : decode cX8_sizeAt 12 = .ok (.aload_n 0, 1) := by decide +kernel
theorem dX8_sizeAt_13 : decode cX8_sizeAt 13 = .ok (.getfield 23, 3) := by decide +kernel
theorem dX8_sizeAt_16 : decode cX8_sizeAt 16 = .ok (.arraylength, 1) := by decide +kernel
theorem dX8_sizeAt_17 : decode cX8_sizeAt 17 = .ok (.if_icmp .ge 26, 3) := by decide +kernel
theorem dX8_sizeAt_20 : decode cX8_sizeAt 20 = .ok (.aload_n 0, 1) := by decide +kernel
theorem dX8_sizeAt_21 : decode cX8_sizeAt 21 = .ok (.getfield 19, 3) := by decide +kernel
theorem dX8_sizeAt_24 : decode cX8_sizeAt 24 = .ok (.iload_n 2, 1) := by decide +kernel
theorem dX8_sizeAt_25 : decode cX8_sizeAt 25 = .ok (.iaload, 1) := by decide +kernel
theorem dX8_sizeAt_26 : decode cX8_sizeAt 26 = .ok (.iload_n 1, 1) := by decide +kernel
theorem dX8_sizeAt_27 : decode cX8_sizeAt 27 = .ok (.if_icmp .ne 10, 3) := by decide +kernel
theorem dX8_sizeAt_30 : decode cX8_sizeAt 30 = .ok (.aload_n 0, 1) := by decide +kernel
theorem dX8_sizeAt_31 : decode cX8_sizeAt 31 = .ok (.getfield 23, 3) := by decide +kernel
theorem dX8_sizeAt_34 : decode cX8_sizeAt 34 = .ok (.iload_n 2, 1) := by decide +kernel
theorem dX8_sizeAt_35 : decode cX8_sizeAt 35 = .ok (.iaload, 1) := by decide +kernel
theorem dX8_sizeAt_36 : decode cX8_sizeAt 36 = .ok (.ireturn, 1) := by decide +kernel
theorem dX8_sizeAt_37 : decode cX8_sizeAt 37 = .ok (.iinc 2 1, 3) := by decide +kernel
theorem dX8_sizeAt_40 : decode cX8_sizeAt 40 = .ok (.goto (-38), 3) := by decide +kernel
theorem dX8_sizeAt_43 : decode cX8_sizeAt 43 = .ok (.iconst 0, 1) := by decide +kernel
theorem dX8_sizeAt_44 : decode cX8_sizeAt 44 = .ok (.ireturn, 1) := by decide +kernel
theorem dX9_init_0 : decode cX9_init 0 = .ok (.aload_n 0, 1) := by decide +kernel
theorem dX9_init_1 : decode cX9_init 1 = .ok (.invokespecial 3, 3) := by decide +kernel
theorem dX9_init_4 : decode cX9_init 4 = .ok (.aload_n 0, 1) := by decide +kernel
theorem dX9_init_5 : decode cX9_init 5 = .ok (.bipush 120, 2) := by decide +kernel
theorem dX9_init_7 : decode cX9_init 7 = .ok (.newarray .int, 2) := by decide +kernel
theorem dX9_init_9 : decode cX9_init 9 = .ok (.putfield 11, 3) := by decide +kernel
theorem dX9_init_12 : decode cX9_init 12 = .ok (.aload_n 0, 1) := by decide +kernel
theorem dX9_init_13 : decode cX9_init 13 = .ok (.iconst 0, 1) := by decide +kernel
theorem dX9_init_14 : decode cX9_init 14 = .ok (.putfield 15, 3) := by decide +kernel
theorem dX9_init_17 : decode cX9_init 17 = .ok (.return_, 1) := by decide +kernel
theorem dX9_size_0 : decode cX9_size 0 = .ok (.aload_n 0, 1) := by decide +kernel
theorem dX9_size_1 : decode cX9_size 1 = .ok (.getfield 15, 3) := by decide +kernel
theorem dX9_size_4 : decode cX9_size 4 = .ok (.ireturn, 1) := by decide +kernel
theorem dX9_hasRoomForFive_0 : decode cX9_hasRoomForFive 0 = .ok (.aload_n 0, 1) := by decide +kernel
theorem dX9_hasRoomForFive_1 : decode cX9_hasRoomForFive 1 = .ok (.getfield 15, 3) := by decide +kernel
theorem dX9_hasRoomForFive_4 : decode cX9_hasRoomForFive 4 = .ok (.bipush 20, 2) := by decide +kernel
theorem dX9_hasRoomForFive_6 : decode cX9_hasRoomForFive 6 = .ok (.iadd, 1) := by decide +kernel
theorem dX9_hasRoomForFive_7 : decode cX9_hasRoomForFive 7 = .ok (.bipush 120, 2) := by decide +kernel
theorem dX9_hasRoomForFive_9 : decode cX9_hasRoomForFive 9 = .ok (.if_icmp .gt 7, 3) := by decide +kernel
theorem dX9_hasRoomForFive_12 : decode cX9_hasRoomForFive 12 = .ok (.iconst 1, 1) := by decide +kernel
theorem dX9_hasRoomForFive_13 : decode cX9_hasRoomForFive 13 = .ok (.goto 4, 3) := by decide +kernel
theorem dX9_hasRoomForFive_16 : decode cX9_hasRoomForFive 16 = .ok (.iconst 0, 1) := by decide +kernel
theorem dX9_hasRoomForFive_17 : decode cX9_hasRoomForFive 17 = .ok (.ireturn, 1) := by decide +kernel
theorem dX9_append_0 : decode cX9_append 0 = .ok (.bipush 24, 2) := by decide +kernel
theorem dX9_append_2 : decode cX9_append 2 = .ok (.istore_n 2, 1) := by decide +kernel
theorem dX9_append_3 : decode cX9_append 3 = .ok (.iload_n 2, 1) := by decide +kernel
theorem dX9_append_4 : decode cX9_append 4 = .ok (.ifCond .lt 44, 3) := by decide +kernel
theorem dX9_append_7 : decode cX9_append 7 = .ok (.aload_n 0, 1) := by decide +kernel
theorem dX9_append_8 : decode cX9_append 8 = .ok (.getfield 15, 3) := by decide +kernel
theorem dX9_append_11 : decode cX9_append 11 = .ok (.bipush 120, 2) := by decide +kernel
theorem dX9_append_13 : decode cX9_append 13 = .ok (.if_icmp .ge 35, 3) := by decide +kernel
theorem dX9_append_16 : decode cX9_append 16 = .ok (.aload_n 0, 1) := by decide +kernel
theorem dX9_append_17 : decode cX9_append 17 = .ok (.getfield 11, 3) := by decide +kernel
theorem dX9_append_20 : decode cX9_append 20 = .ok (.aload_n 0, 1) := by decide +kernel
theorem dX9_append_21 : decode cX9_append 21 = .ok (.getfield 15, 3) := by decide +kernel
theorem dX9_append_24 : decode cX9_append 24 = .ok (.iload_n 1, 1) := by decide +kernel
theorem dX9_append_25 : decode cX9_append 25 = .ok (.iload_n 2, 1) := by decide +kernel
theorem dX9_append_26 : decode cX9_append 26 = .ok (.iushr, 1) := by decide +kernel
theorem dX9_append_27 : decode cX9_append 27 = .ok (.sipush 255, 3) := by decide +kernel
theorem dX9_append_30 : decode cX9_append 30 = .ok (.iand, 1) := by decide +kernel
theorem dX9_append_31 : decode cX9_append 31 = .ok (.iastore, 1) := by decide +kernel
theorem dX9_append_32 : decode cX9_append 32 = .ok (.aload_n 0, 1) := by decide +kernel
theorem dX9_append_33 : decode cX9_append 33 = .ok (.dup, 1) := by decide +kernel
theorem dX9_append_34 : decode cX9_append 34 = .ok (.getfield 15, 3) := by decide +kernel
theorem dX9_append_37 : decode cX9_append 37 = .ok (.iconst 1, 1) := by decide +kernel
theorem dX9_append_38 : decode cX9_append 38 = .ok (.iadd, 1) := by decide +kernel
theorem dX9_append_39 : decode cX9_append 39 = .ok (.putfield 15, 3) := by decide +kernel
theorem dX9_append_42 : decode cX9_append 42 = .ok (.iinc 2 (-8), 3) := by decide +kernel
theorem dX9_append_45 : decode cX9_append 45 = .ok (.goto (-42), 3) := by decide +kernel
theorem dX9_append_48 : decode cX9_append 48 = .ok (.return_, 1) := by decide +kernel
theorem dX9_keep_0 : decode cX9_keep 0 = .ok (.iload_n 1, 1) := by decide +kernel
theorem dX9_keep_1 : decode cX9_keep 1 = .ok (.ifCond .lt 16, 3) := by decide +kernel
theorem dX9_keep_4 : decode cX9_keep 4 = .ok (.iload_n 1, 1) := by decide +kernel
theorem dX9_keep_5 : decode cX9_keep 5 = .ok (.aload_n 0, 1) := by decide +kernel
theorem dX9_keep_6 : decode cX9_keep 6 = .ok (.getfield 15, 3) := by decide +kernel
theorem dX9_keep_9 : decode cX9_keep 9 = .ok (.if_icmp .gt 8, 3) := by decide +kernel
theorem dX9_keep_12 : decode cX9_keep 12 = .ok (.aload_n 0, 1) := by decide +kernel
theorem dX9_keep_13 : decode cX9_keep 13 = .ok (.iload_n 1, 1) := by decide +kernel
theorem dX9_keep_14 : decode cX9_keep 14 = .ok (.putfield 15, 3) := by decide +kernel
theorem dX9_keep_17 : decode cX9_keep 17 = .ok (.return_, 1) := by decide +kernel
theorem dX9_byteAt_0 : decode cX9_byteAt 0 = .ok (.iload_n 1, 1) := by decide +kernel
theorem dX9_byteAt_1 : decode cX9_byteAt 1 = .ok (.ifCond .lt 20, 3) := by decide +kernel
theorem dX9_byteAt_4 : decode cX9_byteAt 4 = .ok (.iload_n 1, 1) := by decide +kernel
theorem dX9_byteAt_5 : decode cX9_byteAt 5 = .ok (.aload_n 0, 1) := by decide +kernel
theorem dX9_byteAt_6 : decode cX9_byteAt 6 = .ok (.getfield 15, 3) := by decide +kernel
theorem dX9_byteAt_9 : decode cX9_byteAt 9 = .ok (.if_icmp .ge 12, 3) := by decide +kernel
theorem dX9_byteAt_12 : decode cX9_byteAt 12 = .ok (.aload_n 0, 1) := by decide +kernel
theorem dX9_byteAt_13 : decode cX9_byteAt 13 = .ok (.getfield 11, 3) := by decide +kernel
theorem dX9_byteAt_16 : decode cX9_byteAt 16 = .ok (.iload_n 1, 1) := by decide +kernel
theorem dX9_byteAt_17 : decode cX9_byteAt 17 = .ok (.iaload, 1) := by decide +kernel
theorem dX9_byteAt_18 : decode cX9_byteAt 18 = .ok (.goto 4, 3) := by decide +kernel
theorem dX9_byteAt_21 : decode cX9_byteAt 21 = .ok (.iconst (-1), 1) := by decide +kernel
theorem dX9_byteAt_22 : decode cX9_byteAt 22 = .ok (.ireturn, 1) := by decide +kernel
set_option maxRecDepth 20000 in
theorem ggX10_init_X1_init : GoodIn wsX10_init wsX1_init := goodIn_r _ [24, 25, 2, 3, 26, 27, 28, 29, 30, 31, 32, 329, 330] (by decide +kernel) (by decide +kernel)
set_option maxRecDepth 20000 in
theorem gX10_init_X1_init : GoodIn wsX10_init (wsX1_init) := ggX10_init_X1_init
set_option maxRecDepth 20000 in
theorem ggX10_init_X0_init : GoodIn wsX10_init wsX0_init := goodIn_r _ [34, 35, 2, 3, 26, 36, 37, 38, 340, 341, 342] (by decide +kernel) (by decide +kernel)
set_option maxRecDepth 20000 in
theorem gX10_init_X0_init_n22 : GoodIn wsX10_init (wsX0_init) := ggX10_init_X0_init
set_option maxRecDepth 20000 in
theorem ggX10_init_Jx4a65c_init_da8c8 : GoodIn wsX10_init wsJx4a65c_init_da8c8 := goodIn_r _ [41, 42, 43, 44, 45, 46, 47, 48, 49, 50, 51, 52, 53, 2, 3, 343, 344, 345] (by decide +kernel) (by decide +kernel)
set_option maxRecDepth 20000 in
theorem gX10_init_Jx4a65c_init_da8c8 : GoodIn wsX10_init (wsJx4a65c_init_da8c8) := ggX10_init_Jx4a65c_init_da8c8
set_option maxRecDepth 20000 in
theorem ggX10_init_X7_told : GoodIn wsX10_init wsX7_told := goodIn_r _ [58, 59, 60, 346, 347, 348, 349, 350] (by decide +kernel) (by decide +kernel)
set_option maxRecDepth 20000 in
theorem gX10_init_X7_told : GoodIn wsX10_init (wsV RX10 38 RX7 yX7_told wsX7_told) := goodIn_app (goodIn_of _ (by decide +kernel)) ggX10_init_X7_told
set_option maxRecDepth 20000 in
theorem ggX10_init_X7_size : GoodIn wsX10_init wsX7_size := goodIn_r _ [64, 59, 346, 347, 348, 349, 350] (by decide +kernel) (by decide +kernel)
set_option maxRecDepth 20000 in
theorem gX10_init_X7_size : GoodIn wsX10_init (wsV RX10 53 RX7 yX7_size wsX7_size) := goodIn_app (goodIn_of _ (by decide +kernel)) ggX10_init_X7_size
set_option maxRecDepth 20000 in
theorem ggX10_init_X10_write : GoodIn wsX10_init wsX10_write := goodIn_r _ [68, 69, 70, 71, 72, 73, 74, 75, 76, 77, 78, 79, 2, 3, 80, 81, 82, 83, 84, 85, 86, 87, 88, 89, 90, 91, 92, 93, 94, 95, 96, 97, 98, 99, 100, 101, 102, 103, 104, 105, 106, 107, 108, 109, 110, 111, 112, 113, 114, 115, 116, 117, 118, 119, 120, 121, 122, 123, 124, 125, 126, 127, 128, 129, 130, 131, 132, 133, 134, 31, 135, 136, 137, 138, 139, 140, 141, 142, 143, 144, 145, 146, 147, 148, 149, 150, 151, 152, 153, 154, 155, 156, 157, 158, 159, 160, 161, 162, 163, 164, 165, 166, 167, 168, 169, 170, 171, 172, 173, 174, 175, 176, 177, 178, 179, 180, 181, 182, 183, 184, 185, 186, 187, 188, 189, 190, 191, 192, 193, 194, 195, 196, 197, 198, 199, 200, 201, 202, 203, 204, 205, 206, 207, 208, 209, 210, 211, 212, 213, 214, 215, 216, 217, 218, 219, 220, 221, 222, 223, 224, 225, 226, 227, 228, 229, 230, 231, 232, 233, 234, 235, 236, 237, 238, 239, 240, 241, 242, 243, 244, 245, 246, 247, 248, 249, 250, 251, 252, 253, 254, 255, 256, 257, 258, 259, 260, 261, 262, 263, 264, 265, 266, 267, 268, 269, 270, 271, 272, 273, 274, 275, 276, 67, 277, 278, 279, 280, 281, 282, 283, 284, 285, 286, 287, 288, 289, 290, 291, 292, 293, 294, 295, 296, 297, 298, 299, 300, 301, 302, 303, 304, 305, 306, 307, 308, 309, 310, 311, 312, 313, 314, 315, 316, 317, 318, 319, 320, 321, 322, 323, 324, 325, 326, 327, 328, 351, 352, 353, 354, 355, 356, 357, 358] (by decide +kernel) (by decide +kernel)
set_option maxRecDepth 20000 in
theorem gX10_init_X10_write : GoodIn wsX10_init (va_wsS RX10 60 yX10_write wsX10_write) := goodIn_app (goodIn_of _ (by decide +kernel)) ggX10_init_X10_write
theorem dX10_init_0 : decode cX10_init 0 = .ok (.aload_n 0, 1) := by decide +kernel
theorem dX10_init_1 : decode cX10_init 1 = .ok (.invokespecial 3, 3) := by decide +kernel
theorem dX10_init_4 : decode cX10_init 4 = .ok (.aload_n 0, 1) := by decide +kernel
theorem dX10_init_5 : decode cX10_init 5 = .ok (.new 9, 3) := by decide +kernel
theorem dX10_init_8 : decode cX10_init 8 = .ok (.dup, 1) := by decide +kernel
theorem dX10_init_9 : decode cX10_init 9 = .ok (.iconst 1, 1) := by decide +kernel
theorem dX10_init_10 : decode cX10_init 10 = .ok (.invokespecial 11, 3) := by decide +kernel
theorem dX10_init_13 : decode cX10_init 13 = .ok (.putfield 14, 3) := by decide +kernel
theorem dX10_init_16 : decode cX10_init 16 = .ok (.aload_n 0, 1) := by decide +kernel
theorem dX10_init_17 : decode cX10_init 17 = .ok (.new 20, 3) := by decide +kernel
theorem dX10_init_20 : decode cX10_init 20 = .ok (.dup, 1) := by decide +kernel
theorem dX10_init_21 : decode cX10_init 21 = .ok (.invokespecial 22, 3) := by decide +kernel
theorem dX10_init_24 : decode cX10_init 24 = .ok (.putfield 23, 3) := by decide +kernel
theorem dX10_init_27 : decode cX10_init 27 = .ok (.aload_n 0, 1) := by decide +kernel
theorem dX10_init_28 : decode cX10_init 28 = .ok (.new 27, 3) := by decide +kernel
theorem dX10_init_31 : decode cX10_init 31 = .ok (.dup, 1) := by decide +kernel
theorem dX10_init_32 : decode cX10_init 32 = .ok (.invokespecial 29, 3) := by decide +kernel
theorem dX10_init_35 : decode cX10_init 35 = .ok (.putfield 30, 3) := by decide +kernel
theorem dX10_init_38 : decode cX10_init 38 = .ok (.aload_n 0, 1) := by decide +kernel
theorem dX10_init_39 : decode cX10_init 39 = .ok (.iload_n 1, 1) := by decide +kernel
theorem dX10_init_40 : decode cX10_init 40 = .ok (.putfield 34, 3) := by decide +kernel
theorem dX10_init_43 : decode cX10_init 43 = .ok (.aload_n 0, 1) := by decide +kernel
theorem dX10_init_44 : decode cX10_init 44 = .ok (.aload_n 2, 1) := by decide +kernel
theorem dX10_init_45 : decode cX10_init 45 = .ok (.iconst 0, 1) := by decide +kernel
theorem dX10_init_46 : decode cX10_init 46 = .ok (.invokevirtual 38, 3) := by decide +kernel
theorem dX10_init_49 : decode cX10_init 49 = .ok (.putfield 44, 3) := by decide +kernel
theorem dX10_init_52 : decode cX10_init 52 = .ok (.aload_n 0, 1) := by decide +kernel
theorem dX10_init_53 : decode cX10_init 53 = .ok (.aload_n 2, 1) := by decide +kernel
theorem dX10_init_54 : decode cX10_init 54 = .ok (.iconst 1, 1) := by decide +kernel
theorem dX10_init_55 : decode cX10_init 55 = .ok (.invokevirtual 38, 3) := by decide +kernel
theorem dX10_init_58 : decode cX10_init 58 = .ok (.putfield 47, 3) := by decide +kernel
theorem dX10_init_61 : decode cX10_init 61 = .ok (.aload_n 0, 1) := by decide +kernel
theorem dX10_init_62 : decode cX10_init 62 = .ok (.aload_n 2, 1) := by decide +kernel
theorem dX10_init_63 : decode cX10_init 63 = .ok (.iconst 2, 1) := by decide +kernel
theorem dX10_init_64 : decode cX10_init 64 = .ok (.invokevirtual 38, 3) := by decide +kernel
theorem dX10_init_67 : decode cX10_init 67 = .ok (.putfield 50, 3) := by decide +kernel
theorem dX10_init_70 : decode cX10_init 70 = .ok (.iconst 0, 1) := by decide +kernel
theorem dX10_init_71 : decode cX10_init 71 = .ok (.istore_n 3, 1) := by decide +kernel
theorem dX10_init_72 : decode cX10_init 72 = .ok (.iconst 3, 1) := by decide +kernel
theorem dX10_init_73 : decode cX10_init 73 = .ok (.istore 4, 2) := by decide +kernel
theorem dX10_init_75 : decode cX10_init 75 = .ok (.iload 4, 2) := by decide +kernel
theorem dX10_init_77 : decode cX10_init 77 = .ok (.aload_n 2, 1) := by decide +kernel
theorem dX10_init_78 : decode cX10_init 78 = .ok (.invokevirtual 53, 3) := by decide +kernel
theorem dX10_init_81 : decode cX10_init 81 = .ok (.if_icmp .ge 20, 3) := by decide +kernel
theorem dX10_init_84 : decode cX10_init 84 = .ok (.iload_n 3, 1) := by decide +kernel
theorem dX10_init_85 : decode cX10_init 85 = .ok (.iconst 1, 1) := by decide +kernel
theorem dX10_init_86 : decode cX10_init 86 = .ok (.aload_n 2, 1) := by decide +kernel
theorem dX10_init_87 : decode cX10_init 87 = .ok (.iload 4, 2) := by decide +kernel
theorem dX10_init_89 : decode cX10_init 89 = .ok (.invokevirtual 38, 3) := by decide +kernel
theorem dX10_init_92 : decode cX10_init 92 = .ok (.ishl, 1) := by decide +kernel
theorem dX10_init_93 : decode cX10_init 93 = .ok (.ior, 1) := by decide +kernel
theorem dX10_init_94 : decode cX10_init 94 = .ok (.istore_n 3, 1) := by decide +kernel
theorem dX10_init_95 : decode cX10_init 95 = .ok (.iinc 4 1, 3) := by decide +kernel
theorem dX10_init_98 : decode cX10_init 98 = .ok (.goto (-23), 3) := by decide +kernel
theorem dX10_init_101 : decode cX10_init 101 = .ok (.aload_n 0, 1) := by decide +kernel
theorem dX10_init_102 : decode cX10_init 102 = .ok (.iload_n 3, 1) := by decide +kernel
theorem dX10_init_103 : decode cX10_init 103 = .ok (.putfield 57, 3) := by decide +kernel
theorem dX10_init_106 : decode cX10_init 106 = .ok (.aload_n 0, 1) := by decide +kernel
theorem dX10_init_107 : decode cX10_init 107 = .ok (.aload_n 0, 1) := by decide +kernel
theorem dX10_init_108 : decode cX10_init 108 = .ok (.getfield 44, 3) := by decide +kernel
theorem dX10_init_111 : decode cX10_init 111 = .ok (.aload_n 0, 1) := by decide +kernel
theorem dX10_init_112 : decode cX10_init 112 = .ok (.getfield 47, 3) := by decide +kernel
theorem dX10_init_115 : decode cX10_init 115 = .ok (.aload_n 0, 1) := by decide +kernel
theorem dX10_init_116 : decode cX10_init 116 = .ok (.getfield 50, 3) := by decide +kernel
theorem dX10_init_119 : decode cX10_init 119 = .ok (.aload_n 0, 1) := by decide +kernel
theorem dX10_init_120 : decode cX10_init 120 = .ok (.getfield 57, 3) := by decide +kernel
theorem dX10_init_123 : decode cX10_init 123 = .ok (.invokestatic 60, 3) := by decide +kernel
theorem dX10_init_126 : decode cX10_init 126 = .ok (.putfield 64, 3) := by decide +kernel
theorem dX10_init_129 : decode cX10_init 129 = .ok (.return_, 1) := by decide +kernel
set_option maxRecDepth 20000 in
theorem ggX10_faultIn_X7_told : GoodIn wsX10_faultIn wsX7_told := goodIn_r _ [5, 6, 7, 16, 17, 18, 19, 20] (by decide +kernel) (by decide +kernel)
set_option maxRecDepth 20000 in
theorem gX10_faultIn_X7_told : GoodIn wsX10_faultIn (wsV RX10 38 RX7 yX7_told wsX7_told) := goodIn_app (goodIn_of _ (by decide +kernel)) ggX10_faultIn_X7_told
set_option maxRecDepth 20000 in
theorem ggX10_faultIn_X7_size : GoodIn wsX10_faultIn wsX7_size := goodIn_r _ [11, 6, 16, 17, 18, 19, 20] (by decide +kernel) (by decide +kernel)
set_option maxRecDepth 20000 in
theorem gX10_faultIn_X7_size : GoodIn wsX10_faultIn (wsV RX10 53 RX7 yX7_size wsX7_size) := goodIn_app (goodIn_of _ (by decide +kernel)) ggX10_faultIn_X7_size
set_option maxRecDepth 20000 in
theorem ggX10_faultIn_X10_holdsBit : GoodIn wsX10_faultIn wsX10_holdsBit := goodIn_r _ [15] (by decide +kernel) (by decide +kernel)
set_option maxRecDepth 20000 in
theorem gX10_faultIn_X10_holdsBit : GoodIn wsX10_faultIn (va_wsS RX10 68 yX10_holdsBit wsX10_holdsBit) := goodIn_app (goodIn_of _ (by decide +kernel)) ggX10_faultIn_X10_holdsBit
theorem dX10_faultIn_0 : decode cX10_faultIn 0 = .ok (.aload_n 0, 1) := by decide +kernel
theorem dX10_faultIn_1 : decode cX10_faultIn 1 = .ok (.iconst 1, 1) := by decide +kernel
theorem dX10_faultIn_2 : decode cX10_faultIn 2 = .ok (.invokevirtual 38, 3) := by decide +kernel
theorem dX10_faultIn_5 : decode cX10_faultIn 5 = .ok (.iconst 1, 1) := by decide +kernel
theorem dX10_faultIn_6 : decode cX10_faultIn 6 = .ok (.if_icmp .lt 23, 3) := by decide +kernel
theorem dX10_faultIn_9 : decode cX10_faultIn 9 = .ok (.aload_n 0, 1) := by decide +kernel
theorem dX10_faultIn_10 : decode cX10_faultIn 10 = .ok (.iconst 2, 1) := by decide +kernel
theorem dX10_faultIn_11 : decode cX10_faultIn 11 = .ok (.invokevirtual 38, 3) := by decide +kernel
theorem dX10_faultIn_14 : decode cX10_faultIn 14 = .ok (.iconst 1, 1) := by decide +kernel
theorem dX10_faultIn_15 : decode cX10_faultIn 15 = .ok (.if_icmp .lt 14, 3) := by decide +kernel
theorem dX10_faultIn_18 : decode cX10_faultIn 18 = .ok (.aload_n 0, 1) := by decide +kernel
theorem dX10_faultIn_19 : decode cX10_faultIn 19 = .ok (.iconst 2, 1) := by decide +kernel
theorem dX10_faultIn_20 : decode cX10_faultIn 20 = .ok (.invokevirtual 38, 3) := by decide +kernel
theorem dX10_faultIn_23 : decode cX10_faultIn 23 = .ok (.sipush 999, 3) := by decide +kernel
theorem dX10_faultIn_26 : decode cX10_faultIn 26 = .ok (.if_icmp .le 5, 3) := by decide +kernel
theorem dX10_faultIn_29 : decode cX10_faultIn 29 = .ok (.iconst 1, 1) := by decide +kernel
theorem dX10_faultIn_30 : decode cX10_faultIn 30 = .ok (.ireturn, 1) := by decide +kernel
theorem dX10_faultIn_31 : decode cX10_faultIn 31 = .ok (.iconst 0, 1) := by decide +kernel
theorem dX10_faultIn_32 : decode cX10_faultIn 32 = .ok (.istore_n 1, 1) := by decide +kernel
theorem dX10_faultIn_33 : decode cX10_faultIn 33 = .ok (.iconst 3, 1) := by decide +kernel
theorem dX10_faultIn_34 : decode cX10_faultIn 34 = .ok (.istore_n 2, 1) := by decide +kernel
theorem dX10_faultIn_35 : decode cX10_faultIn 35 = .ok (.iload_n 2, 1) := by decide +kernel
theorem dX10_faultIn_36 : decode cX10_faultIn 36 = .ok (.aload_n 0, 1) := by decide +kernel
theorem dX10_faultIn_37 : decode cX10_faultIn 37 = .ok (.invokevirtual 53, 3) := by decide +kernel
theorem dX10_faultIn_40 : decode cX10_faultIn 40 = .ok (.if_icmp .ge 33, 3) := by decide +kernel
theorem dX10_faultIn_43 : decode cX10_faultIn 43 = .ok (.iload_n 1, 1) := by decide +kernel
theorem dX10_faultIn_44 : decode cX10_faultIn 44 = .ok (.aload_n 0, 1) := by decide +kernel
theorem dX10_faultIn_45 : decode cX10_faultIn 45 = .ok (.iload_n 2, 1) := by decide +kernel
theorem dX10_faultIn_46 : decode cX10_faultIn 46 = .ok (.invokevirtual 38, 3) := by decide +kernel
theorem dX10_faultIn_49 : decode cX10_faultIn 49 = .ok (.invokestatic 68, 3) := by decide +kernel
theorem dX10_faultIn_52 : decode cX10_faultIn 52 = .ok (.ifCond .eq 5, 3) := by decide +kernel
theorem dX10_faultIn_55 : decode cX10_faultIn 55 = .ok (.iconst 2, 1) := by decide +kernel
theorem dX10_faultIn_56 : decode cX10_faultIn 56 = .ok (.ireturn, 1) := by decide +kernel
theorem dX10_faultIn_57 : decode cX10_faultIn 57 = .ok (.iload_n 1, 1) := by decide +kernel
theorem dX10_faultIn_58 : decode cX10_faultIn 58 = .ok (.iconst 1, 1) := by decide +kernel
theorem dX10_faultIn_59 : decode cX10_faultIn 59 = .ok (.aload_n 0, 1) := by decide +kernel
theorem dX10_faultIn_60 : decode cX10_faultIn 60 = .ok (.iload_n 2, 1) := by decide +kernel
theorem dX10_faultIn_61 : decode cX10_faultIn 61 = .ok (.invokevirtual 38, 3) := by decide +kernel
theorem dX10_faultIn_64 : decode cX10_faultIn 64 = .ok (.ishl, 1) := by decide +kernel
theorem dX10_faultIn_65 : decode cX10_faultIn 65 = .ok (.ior, 1) := by decide +kernel
theorem dX10_faultIn_66 : decode cX10_faultIn 66 = .ok (.istore_n 1, 1) := by decide +kernel
theorem dX10_faultIn_67 : decode cX10_faultIn 67 = .ok (.iinc 2 1, 3) := by decide +kernel
theorem dX10_faultIn_70 : decode cX10_faultIn 70 = .ok (.goto (-35), 3) := by decide +kernel
theorem dX10_faultIn_73 : decode cX10_faultIn 73 = .ok (.iconst 0, 1) := by decide +kernel
theorem dX10_faultIn_74 : decode cX10_faultIn 74 = .ok (.ireturn, 1) := by decide +kernel
set_option maxRecDepth 20000 in
theorem ggX10_write_J4_init_da8c8 : GoodIn wsX10_write wsJ4_init_da8c8 := goodIn_r _ [6, 7, 8, 9, 10, 11, 12, 13, 14, 15, 16, 17, 18, 19, 20, 21, 22, 23, 24, 25, 265, 266, 267, 268] (by decide +kernel) (by decide +kernel)
set_option maxRecDepth 20000 in
theorem gX10_write_J4_init_da8c8 : GoodIn wsX10_write (wsJ4_init_da8c8) := ggX10_write_J4_init_da8c8
set_option maxRecDepth 20000 in
theorem ggX10_write_X11_spelling : GoodIn wsX10_write wsX11_spelling := goodIn_r _ [28] (by decide +kernel) (by decide +kernel)
set_option maxRecDepth 20000 in
theorem gX10_write_X11_spelling_n75 : GoodIn wsX10_write (wsX11_spelling) := ggX10_write_X11_spelling
set_option maxRecDepth 20000 in
theorem ggX10_write_J4_append_15ec4 : GoodIn wsX10_write wsJ4_append_15ec4 := goodIn_r _ [32, 33, 34, 35, 36, 9, 37, 38, 39, 40, 41, 42, 43, 16, 44, 45, 46, 47, 48, 17, 49, 50, 51, 52, 53, 54, 55, 56, 57, 58, 59, 60, 61, 62, 63, 64, 65, 66, 67, 68, 69, 70, 71, 72, 73, 74, 75, 76, 15, 77, 78, 79, 80, 81, 82, 83, 84, 85, 86, 87, 88, 14, 89, 90, 20, 91, 92, 93, 94, 95, 96, 97, 98, 99, 100, 101, 102, 103, 104, 105, 106, 107, 108, 109, 110, 111, 112, 113, 114, 115, 116, 117, 118, 119, 120, 121, 122, 123, 124, 125, 126, 127, 128, 129, 130, 131, 132, 133, 134, 135, 136, 137, 138, 139, 18, 19, 21, 22, 23, 24, 25, 140, 141, 142, 143, 144, 145, 146, 147, 148, 149, 150, 151, 152, 153, 154, 155, 156, 157, 158, 159, 160, 161, 265, 266, 267, 268, 269, 270, 271, 272] (by decide +kernel) (by decide +kernel)
set_option maxRecDepth 20000 in
theorem gX10_write_J4_append_15ec4 : GoodIn wsX10_write (wsV RX10 79 RJ4 yJ4_append_15ec4 wsJ4_append_15ec4) := goodIn_app (goodIn_of _ (by decide +kernel)) ggX10_write_J4_append_15ec4
set_option maxRecDepth 20000 in
theorem ggX10_write_J4_append_cf468 : GoodIn wsX10_write wsJ4_append_cf468 := goodIn_r _ [165, 166, 167, 35, 168, 9, 169, 38, 16, 44, 45, 46, 47, 48, 17, 49, 50, 51, 52, 53, 54, 55, 56, 57, 58, 59, 60, 61, 62, 63, 64, 65, 66, 67, 68, 69, 70, 71, 72, 73, 74, 75, 76, 15, 77, 78, 79, 80, 81, 82, 83, 84, 85, 86, 87, 88, 14, 170, 171, 142, 172, 135, 136, 137, 138, 139, 18, 19, 20, 21, 22, 23, 24, 25, 140, 141, 143, 144, 145, 146, 147, 148, 149, 96, 97, 98, 150, 151, 101, 152, 103, 153, 154, 106, 155, 108, 109, 110, 92, 111, 112, 173, 174, 175, 176, 177, 178, 179, 180, 181, 182, 183, 184, 265, 266, 267, 268] (by decide +kernel) (by decide +kernel)
set_option maxRecDepth 20000 in
theorem gX10_write_J4_append_cf468 : GoodIn wsX10_write (wsV RX10 83 RJ4 yJ4_append_cf468 wsJ4_append_cf468) := goodIn_app (goodIn_of _ (by decide +kernel)) ggX10_write_J4_append_cf468
set_option maxRecDepth 20000 in
theorem ggX10_write_J4_append_bf812 : GoodIn wsX10_write wsJ4_append_bf812 := goodIn_r _ [188, 189, 190, 35, 191, 9, 192, 38, 16, 193, 194, 195, 196, 44, 45, 46, 47, 48, 17, 49, 50, 51, 52, 53, 54, 55, 56, 57, 58, 59, 60, 61, 62, 63, 64, 65, 66, 67, 68, 69, 70, 71, 72, 73, 74, 75, 76, 15, 77, 78, 79, 80, 81, 82, 83, 84, 85, 86, 87, 88, 14, 197, 198, 199, 200, 201, 202, 203, 20, 204, 92, 93, 94, 95, 96, 97, 98, 99, 100, 101, 102, 103, 104, 105, 106, 107, 205, 206, 207, 208, 209, 108, 109, 110, 111, 112, 265, 266, 267, 268] (by decide +kernel) (by decide +kernel)
set_option maxRecDepth 20000 in
theorem gX10_write_J4_append_bf812 : GoodIn wsX10_write (wsV RX10 86 RJ4 yJ4_append_bf812 wsJ4_append_bf812) := goodIn_app (goodIn_of _ (by decide +kernel)) ggX10_write_J4_append_bf812
set_option maxRecDepth 20000 in
theorem ggX10_write_X10_holdsBit : GoodIn wsX10_write wsX10_holdsBit := goodIn_r _ [213] (by decide +kernel) (by decide +kernel)
set_option maxRecDepth 20000 in
theorem gX10_write_X10_holdsBit : GoodIn wsX10_write (va_wsS RX10 68 yX10_holdsBit wsX10_holdsBit) := goodIn_app (goodIn_of _ (by decide +kernel)) ggX10_write_X10_holdsBit
set_option maxRecDepth 20000 in
theorem ggX10_write_J4_toString_0e30d : GoodIn wsX10_write wsJ4_toString_0e30d := goodIn_r _ [217, 218, 219, 101, 220, 221, 222, 223, 224, 225, 226, 12, 13, 123, 117, 122, 227, 228, 229, 230, 231, 9, 232, 16, 233, 234, 235, 236, 237, 3, 238, 239, 35, 240, 241, 38, 242, 85, 86, 87, 88, 14, 17, 243, 244, 69, 245, 71, 72, 73, 74, 75, 76, 246, 247, 248, 15, 77, 78, 61, 79, 80, 81, 82, 83, 249, 250, 251, 252, 253, 20, 254, 255, 256, 257, 147, 148, 149, 96, 97, 98, 150, 151, 152, 103, 153, 154, 106, 155, 258, 259, 260, 92, 111, 112, 22, 23, 24, 25, 261, 262, 263, 264, 269, 270, 271, 272, 265, 266, 267, 268] (by decide +kernel) (by decide +kernel)
set_option maxRecDepth 20000 in
theorem gX10_write_J4_toString_0e30d : GoodIn wsX10_write (wsV RX10 91 RJ4 yJ4_toString_0e30d wsJ4_toString_0e30d) := goodIn_app (goodIn_of _ (by decide +kernel)) ggX10_write_J4_toString_0e30d
theorem dX10_write_0 : decode cX10_write 0 = .ok (.new 72, 3) := by decide +kernel
theorem dX10_write_3 : decode cX10_write 3 = .ok (.dup, 1) := by decide +kernel
theorem dX10_write_4 : decode cX10_write 4 = .ok (.invokespecial 74, 3) := by decide +kernel
theorem dX10_write_7 : decode cX10_write 7 = .ok (.astore 4, 2) := by decide +kernel
theorem dX10_write_9 : decode cX10_write 9 = .ok (.aload 4, 2) := by decide +kernel
theorem dX10_write_11 : decode cX10_write 11 = .ok (.bipush 102, 2) := by decide +kernel
theorem dX10_write_13 : decode cX10_write 13 = .ok (.iload_n 0, 1) := by decide +kernel
theorem dX10_write_14 : decode cX10_write 14 = .ok (.iadd, 1) := by decide +kernel
theorem dX10_write_15 : decode cX10_write 15 = .ok (.invokestatic 75, 3) := by decide +kernel
theorem dX10_write_18 : decode cX10_write 18 = .ok (.invokevirtual 79, 3) := by decide +kernel
theorem dX10_write_21 : decode cX10_write 21 = .ok (.bipush 32, 2) := by decide +kernel
theorem dX10_write_23 : decode cX10_write 23 = .ok (.invokevirtual 83, 3) := by decide +kernel
theorem dX10_write_26 : decode cX10_write 26 = .ok (.iload_n 1, 1) := by decide +kernel
theorem dX10_write_27 : decode cX10_write 27 = .ok (.invokevirtual 86, 3) := by decide +kernel
theorem dX10_write_30 : decode cX10_write 30 = .ok (.bipush 32, 2) := by decide +kernel
theorem dX10_write_32 : decode cX10_write 32 = .ok (.invokevirtual 83, 3) := by decide +kernel
theorem dX10_write_35 : decode cX10_write 35 = .ok (.iload_n 2, 1) := by decide +kernel
theorem dX10_write_36 : decode cX10_write 36 = .ok (.invokevirtual 86, 3) := by decide +kernel
theorem dX10_write_39 : decode cX10_write 39 = .ok (.pop, 1) := by decide +kernel
theorem dX10_write_40 : decode cX10_write 40 = .ok (.iconst 0, 1) := by decide +kernel
theorem dX10_write_41 : decode cX10_write 41 = .ok (.istore 5, 2) := by decide +kernel
theorem dX10_write_43 : decode cX10_write 43 = .ok (.iload 5, 2) := by decide +kernel
theorem dX10_write_45 : decode cX10_write 45 = .ok (.iconst 5, 1) := by decide +kernel
theorem dX10_write_46 : decode cX10_write 46 = .ok (.if_icmp .ge 37, 3) := by decide +kernel
theorem dX10_write_49 : decode cX10_write 49 = .ok (.iload_n 3, 1) := by decide +kernel
theorem dX10_write_50 : decode cX10_write 50 = .ok (.iload 5, 2) := by decide +kernel
theorem dX10_write_52 : decode cX10_write 52 = .ok (.invokestatic 68, 3) := by decide +kernel
theorem dX10_write_55 : decode cX10_write 55 = .ok (.ifCond .eq 22, 3) := by decide +kernel
theorem dX10_write_58 : decode cX10_write 58 = .ok (.aload 4, 2) := by decide +kernel
theorem dX10_write_60 : decode cX10_write 60 = .ok (.ldc 89, 2) := by decide +kernel
theorem dX10_write_62 : decode cX10_write 62 = .ok (.invokevirtual 79, 3) := by decide +kernel
theorem dX10_write_65 : decode cX10_write 65 = .ok (.bipush 102, 2) := by decide +kernel
theorem dX10_write_67 : decode cX10_write 67 = .ok (.iload 5, 2) := by decide +kernel
theorem dX10_write_69 : decode cX10_write 69 = .ok (.iadd, 1) := by decide +kernel
theorem dX10_write_70 : decode cX10_write 70 = .ok (.invokestatic 75, 3) := by decide +kernel
theorem dX10_write_73 : decode cX10_write 73 = .ok (.invokevirtual 79, 3) := by decide +kernel
theorem dX10_write_76 : decode cX10_write 76 = .ok (.pop, 1) := by decide +kernel
theorem dX10_write_77 : decode cX10_write 77 = .ok (.iinc 5 1, 3) := by decide +kernel
theorem dX10_write_80 : decode cX10_write 80 = .ok (.goto (-37), 3) := by decide +kernel
theorem dX10_write_83 : decode cX10_write 83 = .ok (.aload 4, 2) := by decide +kernel
theorem dX10_write_85 : decode cX10_write 85 = .ok (.invokevirtual 91, 3) := by decide +kernel
theorem dX10_write_88 : decode cX10_write 88 = .ok (.areturn, 1) := by decide +kernel
set_option maxRecDepth 20000 in
theorem ggX10_bars_X10_holdsBit : GoodIn wsX10_bars wsX10_holdsBit := goodIn_r _ [5] (by decide +kernel) (by decide +kernel)
set_option maxRecDepth 20000 in
theorem gX10_bars_X10_holdsBit : GoodIn wsX10_bars (va_wsS RX10 68 yX10_holdsBit wsX10_holdsBit) := goodIn_app (goodIn_of _ (by decide +kernel)) ggX10_bars_X10_holdsBit
theorem dX10_bars_0 : decode cX10_bars 0 = .ok (.aload_n 0, 1) := by decide +kernel
theorem dX10_bars_1 : decode cX10_bars 1 = .ok (.getfield 57, 3) := by decide +kernel
theorem dX10_bars_4 : decode cX10_bars 4 = .ok (.iload_n 1, 1) := by decide +kernel
theorem dX10_bars_5 : decode cX10_bars 5 = .ok (.invokestatic 68, 3) := by decide +kernel
theorem dX10_bars_8 : decode cX10_bars 8 = .ok (.ireturn, 1) := by decide +kernel
theorem dX10_holdsBit_0 : decode cX10_holdsBit 0 = .ok (.iload_n 0, 1) := by decide +kernel
theorem dX10_holdsBit_1 : decode cX10_holdsBit 1 = .ok (.iload_n 1, 1) := by decide +kernel
theorem dX10_holdsBit_2 : decode cX10_holdsBit 2 = .ok (.ishr, 1) := by decide +kernel
theorem dX10_holdsBit_3 : decode cX10_holdsBit 3 = .ok (.iconst 1, 1) := by decide +kernel
theorem dX10_holdsBit_4 : decode cX10_holdsBit 4 = .ok (.iand, 1) := by decide +kernel
theorem dX10_holdsBit_5 : decode cX10_holdsBit 5 = .ok (.iconst 1, 1) := by decide +kernel
theorem dX10_holdsBit_6 : decode cX10_holdsBit 6 = .ok (.if_icmp .ne 7, 3) := by decide +kernel
theorem dX10_holdsBit_9 : decode cX10_holdsBit 9 = .ok (.iconst 1, 1) := by decide +kernel
theorem dX10_holdsBit_10 : decode cX10_holdsBit 10 = .ok (.goto 4, 3) := by decide +kernel
theorem dX10_holdsBit_13 : decode cX10_holdsBit 13 = .ok (.iconst 0, 1) := by decide +kernel
theorem dX10_holdsBit_14 : decode cX10_holdsBit 14 = .ok (.ireturn, 1) := by decide +kernel
set_option maxRecDepth 20000 in
theorem ggX10_valueOn_X0_latestValue : GoodIn wsX10_valueOn wsX0_latestValue := goodIn_r _ [7, 8, 9, 10, 11, 12, 6, 13, 14, 24, 25, 26] (by decide +kernel) (by decide +kernel)
set_option maxRecDepth 20000 in
theorem gX10_valueOn_X0_latestValue : GoodIn wsX10_valueOn (wsV RX10 95 RX0 yX0_latestValue wsX0_latestValue) := goodIn_app (goodIn_of _ (by decide +kernel)) ggX10_valueOn_X0_latestValue
theorem dX10_valueOn_0 : decode cX10_valueOn 0 = .ok (.aload_n 0, 1) := by decide +kernel
theorem dX10_valueOn_1 : decode cX10_valueOn 1 = .ok (.getfield 23, 3) := by decide +kernel
theorem dX10_valueOn_4 : decode cX10_valueOn 4 = .ok (.iload_n 1, 1) := by decide +kernel
theorem dX10_valueOn_5 : decode cX10_valueOn 5 = .ok (.aload_n 0, 1) := by decide +kernel
theorem dX10_valueOn_6 : decode cX10_valueOn 6 = .ok (.getfield 47, 3) := by decide +kernel
theorem dX10_valueOn_9 : decode cX10_valueOn 9 = .ok (.invokevirtual 95, 3) := by decide +kernel
theorem dX10_valueOn_12 : decode cX10_valueOn 12 = .ok (.ireturn, 1) := by decide +kernel
set_option maxRecDepth 20000 in
theorem ggX10_reportsTold_Jx4a65c_size_8abf5 : GoodIn wsX10_reportsTold wsJx4a65c_size_8abf5 := goodIn_r _ [6, 7, 17, 18, 19] (by decide +kernel) (by decide +kernel)
set_option maxRecDepth 20000 in
theorem gX10_reportsTold_Jx4a65c_size_8abf5 : GoodIn wsX10_reportsTold (wsV RX10 99 RJx4a65c yJx4a65c_size_8abf5 wsJx4a65c_size_8abf5) := goodIn_app (goodIn_of _ (by decide +kernel)) ggX10_reportsTold_Jx4a65c_size_8abf5
theorem dX10_reportsTold_0 : decode cX10_reportsTold 0 = .ok (.aload_n 0, 1) := by decide +kernel
theorem dX10_reportsTold_1 : decode cX10_reportsTold 1 = .ok (.getfield 30, 3) := by decide +kernel
theorem dX10_reportsTold_4 : decode cX10_reportsTold 4 = .ok (.invokevirtual 99, 3) := by decide +kernel
theorem dX10_reportsTold_7 : decode cX10_reportsTold 7 = .ok (.ireturn, 1) := by decide +kernel
set_option maxRecDepth 20000 in
theorem ggX10_reportAt_Jx4a65c_size_8abf5 : GoodIn wsX10_reportAt wsJx4a65c_size_8abf5 := goodIn_r _ [7, 8, 35, 36, 37] (by decide +kernel) (by decide +kernel)
set_option maxRecDepth 20000 in
theorem gX10_reportAt_Jx4a65c_size_8abf5 : GoodIn wsX10_reportAt (wsV RX10 99 RJx4a65c yJx4a65c_size_8abf5 wsJx4a65c_size_8abf5) := goodIn_app (goodIn_of _ (by decide +kernel)) ggX10_reportAt_Jx4a65c_size_8abf5
set_option maxRecDepth 20000 in
theorem ggX10_reportAt_Jx4a65c_get_915e3 : GoodIn wsX10_reportAt wsJx4a65c_get_915e3 := goodIn_r _ [12, 8, 13, 14, 15, 16, 17, 18, 19, 20, 21, 22, 23, 6, 24, 25, 35, 36, 37] (by decide +kernel) (by decide +kernel)
set_option maxRecDepth 20000 in
theorem gX10_reportAt_Jx4a65c_get_915e3 : GoodIn wsX10_reportAt (wsV RX10 100 RJx4a65c yJx4a65c_get_915e3 wsJx4a65c_get_915e3) := goodIn_app (goodIn_of _ (by decide +kernel)) ggX10_reportAt_Jx4a65c_get_915e3
theorem dX10_reportAt_0 : decode cX10_reportAt 0 = .ok (.iload_n 1, 1) := by decide +kernel
theorem dX10_reportAt_1 : decode cX10_reportAt 1 = .ok (.ifCond .lt 28, 3) := by decide +kernel
theorem dX10_reportAt_4 : decode cX10_reportAt 4 = .ok (.iload_n 1, 1) := by decide +kernel
theorem dX10_reportAt_5 : decode cX10_reportAt 5 = .ok (.aload_n 0, 1) := by decide +kernel
theorem dX10_reportAt_6 : decode cX10_reportAt 6 = .ok (.getfield 30, 3) := by decide +kernel
theorem dX10_reportAt_9 : decode cX10_reportAt 9 = .ok (.invokevirtual 99, 3) := by decide +kernel
theorem dX10_reportAt_12 : decode cX10_reportAt 12 = .ok (.if_icmp .ge 17, 3) := by decide +kernel
theorem dX10_reportAt_15 : decode cX10_reportAt 15 = .ok (.aload_n 0, 1) := by decide +kernel
theorem dX10_reportAt_16 : decode cX10_reportAt 16 = .ok (.getfield 30, 3) := by decide +kernel
theorem dX10_reportAt_19 : decode cX10_reportAt 19 = .ok (.iload_n 1, 1) := by decide +kernel
theorem dX10_reportAt_20 : decode cX10_reportAt 20 = .ok (.invokevirtual 100, 3) := by decide +kernel
theorem dX10_reportAt_23 : decode cX10_reportAt 23 = .ok (.checkcast 104, 3) := by decide +kernel
theorem dX10_reportAt_26 : decode cX10_reportAt 26 = .ok (.goto 4, 3) := by decide +kernel
theorem dX10_reportAt_29 : decode cX10_reportAt 29 = .ok (.aconst_null, 1) := by decide +kernel
theorem dX10_reportAt_30 : decode cX10_reportAt 30 = .ok (.areturn, 1) := by decide +kernel
set_option maxRecDepth 20000 in
theorem ggX10_latestReport_Jx4a65c_size_8abf5 : GoodIn wsX10_latestReport wsJx4a65c_size_8abf5 := goodIn_r _ [8, 9, 40, 41, 42] (by decide +kernel) (by decide +kernel)
set_option maxRecDepth 20000 in
theorem gX10_latestReport_Jx4a65c_size_8abf5 : GoodIn wsX10_latestReport (wsV RX10 99 RJx4a65c yJx4a65c_size_8abf5 wsJx4a65c_size_8abf5) := goodIn_app (goodIn_of _ (by decide +kernel)) ggX10_latestReport_Jx4a65c_size_8abf5
set_option maxRecDepth 20000 in
theorem ggX10_latestReport_Jx4a65c_get_915e3 : GoodIn wsX10_latestReport wsJx4a65c_get_915e3 := goodIn_r _ [13, 9, 14, 15, 16, 17, 18, 19, 20, 21, 22, 23, 24, 7, 25, 26, 40, 41, 42] (by decide +kernel) (by decide +kernel)
set_option maxRecDepth 20000 in
theorem gX10_latestReport_Jx4a65c_get_915e3 : GoodIn wsX10_latestReport (wsV RX10 100 RJx4a65c yJx4a65c_get_915e3 wsJx4a65c_get_915e3) := goodIn_app (goodIn_of _ (by decide +kernel)) ggX10_latestReport_Jx4a65c_get_915e3
theorem dX10_latestReport_0 : decode cX10_latestReport 0 = .ok (.aload_n 0, 1) := by decide +kernel
theorem dX10_latestReport_1 : decode cX10_latestReport 1 = .ok (.getfield 30, 3) := by decide +kernel
theorem dX10_latestReport_4 : decode cX10_latestReport 4 = .ok (.invokevirtual 99, 3) := by decide +kernel
theorem dX10_latestReport_7 : decode cX10_latestReport 7 = .ok (.iconst 1, 1) := by decide +kernel
theorem dX10_latestReport_8 : decode cX10_latestReport 8 = .ok (.isub, 1) := by decide +kernel
theorem dX10_latestReport_9 : decode cX10_latestReport 9 = .ok (.istore_n 2, 1) := by decide +kernel
theorem dX10_latestReport_10 : decode cX10_latestReport 10 = .ok (.iload_n 2, 1) := by decide +kernel
theorem dX10_latestReport_11 : decode cX10_latestReport 11 = .ok (.ifCond .lt 27, 3) := by decide +kernel
theorem dX10_latestReport_14 : decode cX10_latestReport 14 = .ok (.aload_n 0, 1) := by decide +kernel
theorem dX10_latestReport_15 : decode cX10_latestReport 15 = .ok (.getfield 30, 3) := by decide +kernel
theorem dX10_latestReport_18 : decode cX10_latestReport 18 = .ok (.iload_n 2, 1) := by decide +kernel
theorem dX10_latestReport_19 : decode cX10_latestReport 19 = .ok (.invokevirtual 100, 3) := by decide +kernel
theorem dX10_latestReport_22 : decode cX10_latestReport 22 = .ok (.checkcast 104, 3) := by decide +kernel
theorem dX10_latestReport_25 : decode cX10_latestReport 25 = .ok (.getfield 106, 3) := by decide +kernel
theorem dX10_latestReport_28 : decode cX10_latestReport 28 = .ok (.iload_n 1, 1) := by decide +kernel
theorem dX10_latestReport_29 : decode cX10_latestReport 29 = .ok (.if_icmp .le 9, 3) := by decide +kernel
theorem dX10_latestReport_32 : decode cX10_latestReport 32 = .ok (.iinc 2 (-1), 3) := by decide +kernel
theorem dX10_latestReport_35 : decode cX10_latestReport 35 = .ok (.goto (-25), 3) := by decide +kernel
theorem dX10_latestReport_38 : decode cX10_latestReport 38 = .ok (.iload_n 2, 1) := by decide +kernel
theorem dX10_latestReport_39 : decode cX10_latestReport 39 = .ok (.ireturn, 1) := by decide +kernel
set_option maxRecDepth 20000 in
theorem ggX10_reportOn_X10_latestReport : GoodIn wsX10_reportOn wsX10_latestReport := goodIn_r _ [6, 7, 8, 1, 9, 10, 11, 12, 13, 14, 15, 16, 17, 18, 19, 20, 21, 22, 23, 24, 25, 26, 27, 28, 29, 30, 31, 40, 41, 42, 43, 44, 45, 46, 47, 48, 36, 37, 38, 39, 49, 50, 51] (by decide +kernel) (by decide +kernel)
set_option maxRecDepth 20000 in
theorem gX10_reportOn_X10_latestReport : GoodIn wsX10_reportOn (wsV RX10 109 RX10 yX10_latestReport wsX10_latestReport) := goodIn_app (goodIn_of _ (by decide +kernel)) ggX10_reportOn_X10_latestReport
set_option maxRecDepth 20000 in
theorem ggX10_reportOn_X10_reportAt : GoodIn wsX10_reportOn wsX10_reportAt := goodIn_r _ [35, 7, 8, 9, 10, 11, 12, 13, 14, 15, 16, 17, 18, 19, 20, 21, 22, 23, 24, 25, 26, 27, 28, 29, 30, 31, 40, 41, 42, 43, 44, 45, 46, 47, 48, 49, 50, 51] (by decide +kernel) (by decide +kernel)
set_option maxRecDepth 20000 in
theorem gX10_reportOn_X10_reportAt : GoodIn wsX10_reportOn (wsV RX10 112 RX10 yX10_reportAt wsX10_reportAt) := goodIn_app (goodIn_of _ (by decide +kernel)) ggX10_reportOn_X10_reportAt
theorem dX10_reportOn_0 : decode cX10_reportOn 0 = .ok (.aload_n 0, 1) := by decide +kernel
theorem dX10_reportOn_1 : decode cX10_reportOn 1 = .ok (.aload_n 0, 1) := by decide +kernel
theorem dX10_reportOn_2 : decode cX10_reportOn 2 = .ok (.iload_n 1, 1) := by decide +kernel
theorem dX10_reportOn_3 : decode cX10_reportOn 3 = .ok (.invokevirtual 109, 3) := by decide +kernel
theorem dX10_reportOn_6 : decode cX10_reportOn 6 = .ok (.invokevirtual 112, 3) := by decide +kernel
theorem dX10_reportOn_9 : decode cX10_reportOn 9 = .ok (.astore_n 2, 1) := by decide +kernel
theorem dX10_reportOn_10 : decode cX10_reportOn 10 = .ok (.aload_n 2, 1) := by decide +kernel
theorem dX10_reportOn_11 : decode cX10_reportOn 11 = .ok (.ifnull 15, 3) := by decide +kernel
theorem dX10_reportOn_14 : decode cX10_reportOn 14 = .ok (.aload_n 2, 1) := by decide +kernel
theorem dX10_reportOn_15 : decode cX10_reportOn 15 = .ok (.getfield 106, 3) := by decide +kernel
theorem dX10_reportOn_18 : decode cX10_reportOn 18 = .ok (.iload_n 1, 1) := by decide +kernel
theorem dX10_reportOn_19 : decode cX10_reportOn 19 = .ok (.if_icmp .ne 7, 3) := by decide +kernel
theorem dX10_reportOn_22 : decode cX10_reportOn 22 = .ok (.aload_n 2, 1) := by decide +kernel
theorem dX10_reportOn_23 : decode cX10_reportOn 23 = .ok (.goto 4, 3) := by decide +kernel
theorem dX10_reportOn_26 : decode cX10_reportOn 26 = .ok (.aconst_null, 1) := by decide +kernel
theorem dX10_reportOn_27 : decode cX10_reportOn 27 = .ok (.areturn, 1) := by decide +kernel
set_option maxRecDepth 20000 in
theorem ggX10_addReport_X10_latestReport : GoodIn wsX10_addReport wsX10_latestReport := goodIn_r _ [7, 1, 8, 2, 9, 10, 11, 12, 13, 14, 15, 16, 17, 18, 19, 20, 21, 22, 23, 24, 25, 26, 27, 28, 29, 30, 31, 86, 87, 88, 89, 90, 91, 92, 93, 94, 95, 96, 97, 98, 99, 100, 101] (by decide +kernel) (by decide +kernel)
set_option maxRecDepth 20000 in
theorem gX10_addReport_X10_latestReport : GoodIn wsX10_addReport (wsV RX10 109 RX10 yX10_latestReport wsX10_latestReport) := goodIn_app (goodIn_of _ (by decide +kernel)) ggX10_addReport_X10_latestReport
set_option maxRecDepth 20000 in
theorem ggX10_addReport_Jx4a65c_add_7a177 : GoodIn wsX10_addReport wsJx4a65c_add_7a177 := goodIn_r _ [35, 36, 37, 14, 31, 38, 39, 40, 41, 42, 43, 44, 12, 45, 46, 47, 48, 49, 50, 51, 52, 53, 54, 55, 56, 57, 58, 59, 60, 61, 62, 63, 64, 65, 66, 67, 68, 69, 70, 71, 72, 73, 74, 75, 76, 77, 78, 79, 80, 81, 82, 83, 84, 85, 99, 100, 101] (by decide +kernel) (by decide +kernel)
set_option maxRecDepth 20000 in
theorem gX10_addReport_Jx4a65c_add_7a177 : GoodIn wsX10_addReport (wsV RX10 116 RJx4a65c yJx4a65c_add_7a177 wsJx4a65c_add_7a177) := goodIn_app (goodIn_of _ (by decide +kernel)) ggX10_addReport_Jx4a65c_add_7a177
theorem dX10_addReport_0 : decode cX10_addReport 0 = .ok (.aload_n 0, 1) := by decide +kernel
theorem dX10_addReport_1 : decode cX10_addReport 1 = .ok (.getfield 30, 3) := by decide +kernel
theorem dX10_addReport_4 : decode cX10_addReport 4 = .ok (.aload_n 0, 1) := by decide +kernel
theorem dX10_addReport_5 : decode cX10_addReport 5 = .ok (.aload_n 1, 1) := by decide +kernel
theorem dX10_addReport_6 : decode cX10_addReport 6 = .ok (.getfield 106, 3) := by decide +kernel
theorem dX10_addReport_9 : decode cX10_addReport 9 = .ok (.invokevirtual 109, 3) := by decide +kernel
theorem dX10_addReport_12 : decode cX10_addReport 12 = .ok (.iconst 1, 1) := by decide +kernel
theorem dX10_addReport_13 : decode cX10_addReport 13 = .ok (.iadd, 1) := by decide +kernel
theorem dX10_addReport_14 : decode cX10_addReport 14 = .ok (.aload_n 1, 1) := by decide +kernel
theorem dX10_addReport_15 : decode cX10_addReport 15 = .ok (.invokevirtual 116, 3) := by decide +kernel
theorem dX10_addReport_18 : decode cX10_addReport 18 = .ok (.return_, 1) := by decide +kernel
set_option maxRecDepth 20000 in
theorem ggX10_harmsOn_X10_latestReport : GoodIn wsX10_harmsOn wsX10_latestReport := goodIn_r _ [5, 6, 7, 8, 9, 10, 11, 12, 13, 14, 15, 16, 17, 18, 19, 20, 21, 22, 23, 24, 25, 26, 27, 28, 29, 30, 31, 42, 43, 44, 45, 46, 47, 48, 49, 50, 51, 52, 53, 54, 55, 56, 57] (by decide +kernel) (by decide +kernel)
set_option maxRecDepth 20000 in
theorem gX10_harmsOn_X10_latestReport : GoodIn wsX10_harmsOn (wsV RX10 109 RX10 yX10_latestReport wsX10_latestReport) := goodIn_app (goodIn_of _ (by decide +kernel)) ggX10_harmsOn_X10_latestReport
set_option maxRecDepth 20000 in
theorem ggX10_harmsOn_X10_reportAt : GoodIn wsX10_harmsOn wsX10_reportAt := goodIn_r _ [35, 6, 7, 9, 10, 11, 12, 13, 14, 15, 16, 17, 18, 19, 20, 21, 22, 23, 24, 25, 26, 27, 28, 29, 30, 31, 42, 43, 44, 45, 46, 47, 48, 49, 50, 55, 56, 57] (by decide +kernel) (by decide +kernel)
set_option maxRecDepth 20000 in
theorem gX10_harmsOn_X10_reportAt : GoodIn wsX10_harmsOn (wsV RX10 112 RX10 yX10_reportAt wsX10_reportAt) := goodIn_app (goodIn_of _ (by decide +kernel)) ggX10_harmsOn_X10_reportAt
set_option maxRecDepth 20000 in
theorem ggX10_harmsOn_X8_harmsTold : GoodIn wsX10_harmsOn wsX8_harmsTold := goodIn_r _ [40, 41, 51, 52, 53, 54] (by decide +kernel) (by decide +kernel)
set_option maxRecDepth 20000 in
theorem gX10_harmsOn_X8_harmsTold : GoodIn wsX10_harmsOn (wsV RX10 120 RX8 yX8_harmsTold wsX8_harmsTold) := goodIn_app (goodIn_of _ (by decide +kernel)) ggX10_harmsOn_X8_harmsTold
theorem dX10_harmsOn_0 : decode cX10_harmsOn 0 = .ok (.aload_n 0, 1) := by decide +kernel
theorem dX10_harmsOn_1 : decode cX10_harmsOn 1 = .ok (.aload_n 0, 1) := by decide +kernel
theorem dX10_harmsOn_2 : decode cX10_harmsOn 2 = .ok (.iload_n 1, 1) := by decide +kernel
theorem dX10_harmsOn_3 : decode cX10_harmsOn 3 = .ok (.invokevirtual 109, 3) := by decide +kernel
theorem dX10_harmsOn_6 : decode cX10_harmsOn 6 = .ok (.invokevirtual 112, 3) := by decide +kernel
theorem dX10_harmsOn_9 : decode cX10_harmsOn 9 = .ok (.astore_n 2, 1) := by decide +kernel
theorem dX10_harmsOn_10 : decode cX10_harmsOn 10 = .ok (.aload_n 2, 1) := by decide +kernel
theorem dX10_harmsOn_11 : decode cX10_harmsOn 11 = .ok (.ifnonnull 7, 3) := by decide +kernel
theorem dX10_harmsOn_14 : decode cX10_harmsOn 14 = .ok (.iconst 0, 1) := by decide +kernel
theorem dX10_harmsOn_15 : decode cX10_harmsOn 15 = .ok (.goto 7, 3) := by decide +kernel
theorem dX10_harmsOn_18 : decode cX10_harmsOn 18 = .ok (.aload_n 2, 1) := by decide +kernel
theorem dX10_harmsOn_19 : decode cX10_harmsOn 19 = .ok (.invokevirtual 120, 3) := by decide +kernel
theorem dX10_harmsOn_22 : decode cX10_harmsOn 22 = .ok (.ireturn, 1) := by decide +kernel
set_option maxRecDepth 20000 in
theorem ggX10_damageTold_X10_reportAt : GoodIn wsX10_damageTold wsX10_reportAt := goodIn_r _ [6, 7, 8, 9, 10, 11, 12, 13, 14, 15, 16, 17, 18, 19, 20, 21, 22, 23, 24, 25, 26, 27, 28, 29, 30, 31, 72, 73, 74, 75, 76, 77, 78, 79, 80, 81, 82, 83] (by decide +kernel) (by decide +kernel)
set_option maxRecDepth 20000 in
theorem gX10_damageTold_X10_reportAt : GoodIn wsX10_damageTold (wsV RX10 112 RX10 yX10_reportAt wsX10_reportAt) := goodIn_app (goodIn_of _ (by decide +kernel)) ggX10_damageTold_X10_reportAt
set_option maxRecDepth 20000 in
theorem ggX10_damageTold_X8_worseThan : GoodIn wsX10_damageTold wsX8_worseThan := goodIn_r _ [36, 37, 38, 39, 40, 41, 42, 43, 44, 45, 35, 46, 47, 48, 49, 68, 69, 70, 71] (by decide +kernel) (by decide +kernel)
set_option maxRecDepth 20000 in
theorem gX10_damageTold_X8_worseThan : GoodIn wsX10_damageTold (wsV RX10 123 RX8 yX8_worseThan wsX8_worseThan) := goodIn_app (goodIn_of _ (by decide +kernel)) ggX10_damageTold_X8_worseThan
set_option maxRecDepth 20000 in
theorem ggX10_damageTold_X10_valueOn : GoodIn wsX10_damageTold wsX10_valueOn := goodIn_r _ [53, 54, 55, 56, 57, 58, 59, 60, 61, 62, 63, 64, 65, 66, 67, 72, 73, 74, 75, 76, 77, 78, 79, 80, 84, 85, 86] (by decide +kernel) (by decide +kernel)
set_option maxRecDepth 20000 in
theorem gX10_damageTold_X10_valueOn : GoodIn wsX10_damageTold (wsV RX10 127 RX10 yX10_valueOn wsX10_valueOn) := goodIn_app (goodIn_of _ (by decide +kernel)) ggX10_damageTold_X10_valueOn
theorem dX10_damageTold_0 : decode cX10_damageTold 0 = .ok (.aload_n 0, 1) := by decide +kernel
theorem dX10_damageTold_1 : decode cX10_damageTold 1 = .ok (.iload_n 1, 1) := by decide +kernel
theorem dX10_damageTold_2 : decode cX10_damageTold 2 = .ok (.invokevirtual 112, 3) := by decide +kernel
theorem dX10_damageTold_5 : decode cX10_damageTold 5 = .ok (.astore_n 2, 1) := by decide +kernel
theorem dX10_damageTold_6 : decode cX10_damageTold 6 = .ok (.aload_n 0, 1) := by decide +kernel
theorem dX10_damageTold_7 : decode cX10_damageTold 7 = .ok (.iload_n 1, 1) := by decide +kernel
theorem dX10_damageTold_8 : decode cX10_damageTold 8 = .ok (.iconst 1, 1) := by decide +kernel
theorem dX10_damageTold_9 : decode cX10_damageTold 9 = .ok (.isub, 1) := by decide +kernel
theorem dX10_damageTold_10 : decode cX10_damageTold 10 = .ok (.invokevirtual 112, 3) := by decide +kernel
theorem dX10_damageTold_13 : decode cX10_damageTold 13 = .ok (.astore_n 3, 1) := by decide +kernel
theorem dX10_damageTold_14 : decode cX10_damageTold 14 = .ok (.aload_n 2, 1) := by decide +kernel
theorem dX10_damageTold_15 : decode cX10_damageTold 15 = .ok (.ifnull 7, 3) := by decide +kernel
theorem dX10_damageTold_18 : decode cX10_damageTold 18 = .ok (.aload_n 3, 1) := by decide +kernel
theorem dX10_damageTold_19 : decode cX10_damageTold 19 = .ok (.ifnonnull 7, 3) := by decide +kernel
theorem dX10_damageTold_22 : decode cX10_damageTold 22 = .ok (.iconst 0, 1) := by decide +kernel
theorem dX10_damageTold_23 : decode cX10_damageTold 23 = .ok (.goto 17, 3) := by decide +kernel
theorem dX10_damageTold_26 : decode cX10_damageTold 26 = .ok (.aload_n 2, 1) := by decide +kernel
theorem dX10_damageTold_27 : decode cX10_damageTold 27 = .ok (.aload_n 3, 1) := by decide +kernel
theorem dX10_damageTold_28 : decode cX10_damageTold 28 = .ok (.invokevirtual 123, 3) := by decide +kernel
theorem dX10_damageTold_31 : decode cX10_damageTold 31 = .ok (.aload_n 0, 1) := by decide +kernel
theorem dX10_damageTold_32 : decode cX10_damageTold 32 = .ok (.aload_n 2, 1) := by decide +kernel
theorem dX10_damageTold_33 : decode cX10_damageTold 33 = .ok (.getfield 106, 3) := by decide +kernel
theorem dX10_damageTold_36 : decode cX10_damageTold 36 = .ok (.invokevirtual 127, 3) := by decide +kernel
theorem dX10_damageTold_39 : decode cX10_damageTold 39 = .ok (.imul, 1) := by decide +kernel
theorem dX10_damageTold_40 : decode cX10_damageTold 40 = .ok (.ireturn, 1) := by decide +kernel
set_option maxRecDepth 20000 in
theorem ggX11_init_X9_init : GoodIn wsX11_init wsX9_init := goodIn_r _ [25, 26, 2, 3, 27, 28, 29, 64, 65] (by decide +kernel) (by decide +kernel)
set_option maxRecDepth 20000 in
theorem gX11_init_X9_init_n9 : GoodIn wsX11_init (wsX9_init) := ggX11_init_X9_init
set_option maxRecDepth 20000 in
theorem ggX11_init_X7_init : GoodIn wsX11_init wsX7_init := goodIn_r _ [31, 32, 2, 3, 33, 34, 35, 36, 27, 37, 38, 39, 40, 41, 42, 43, 44, 45, 46, 47, 48, 85, 86, 87, 88, 89, 77, 78, 79, 80, 81] (by decide +kernel) (by decide +kernel)
set_option maxRecDepth 20000 in
theorem gX11_init_X7_init_n18 : GoodIn wsX11_init (wsX7_init) := ggX11_init_X7_init
set_option maxRecDepth 20000 in
theorem ggX11_init_Jx4a65c_init_da8c8 : GoodIn wsX11_init wsJx4a65c_init_da8c8 := goodIn_r _ [51, 52, 53, 54, 55, 56, 57, 58, 59, 60, 61, 62, 63, 2, 3, 82, 83, 84] (by decide +kernel) (by decide +kernel)
set_option maxRecDepth 20000 in
theorem gX11_init_Jx4a65c_init_da8c8 : GoodIn wsX11_init (wsJx4a65c_init_da8c8) := ggX11_init_Jx4a65c_init_da8c8
theorem dX11_init_0 : decode cX11_init 0 = .ok (.aload_n 0, 1) := by decide +kernel
theorem dX11_init_1 : decode cX11_init 1 = .ok (.invokespecial 1, 3) := by decide +kernel
theorem dX11_init_4 : decode cX11_init 4 = .ok (.aload_n 0, 1) := by decide +kernel
theorem dX11_init_5 : decode cX11_init 5 = .ok (.new 7, 3) := by decide +kernel
theorem dX11_init_8 : decode cX11_init 8 = .ok (.dup, 1) := by decide +kernel
theorem dX11_init_9 : decode cX11_init 9 = .ok (.invokespecial 9, 3) := by decide +kernel
theorem dX11_init_12 : decode cX11_init 12 = .ok (.putfield 10, 3) := by decide +kernel
theorem dX11_init_15 : decode cX11_init 15 = .ok (.aload_n 0, 1) := by decide +kernel
theorem dX11_init_16 : decode cX11_init 16 = .ok (.new 16, 3) := by decide +kernel
theorem dX11_init_19 : decode cX11_init 19 = .ok (.dup, 1) := by decide +kernel
theorem dX11_init_20 : decode cX11_init 20 = .ok (.invokespecial 18, 3) := by decide +kernel
theorem dX11_init_23 : decode cX11_init 23 = .ok (.putfield 19, 3) := by decide +kernel
theorem dX11_init_26 : decode cX11_init 26 = .ok (.aload_n 0, 1) := by decide +kernel
theorem dX11_init_27 : decode cX11_init 27 = .ok (.new 23, 3) := by decide +kernel
theorem dX11_init_30 : decode cX11_init 30 = .ok (.dup, 1) := by decide +kernel
theorem dX11_init_31 : decode cX11_init 31 = .ok (.invokespecial 25, 3) := by decide +kernel
theorem dX11_init_34 : decode cX11_init 34 = .ok (.putfield 26, 3) := by decide +kernel
theorem dX11_init_37 : decode cX11_init 37 = .ok (.aload_n 0, 1) := by decide +kernel
theorem dX11_init_38 : decode cX11_init 38 = .ok (.new 23, 3) := by decide +kernel
theorem dX11_init_41 : decode cX11_init 41 = .ok (.dup, 1) := by decide +kernel
theorem dX11_init_42 : decode cX11_init 42 = .ok (.invokespecial 25, 3) := by decide +kernel
theorem dX11_init_45 : decode cX11_init 45 = .ok (.putfield 30, 3) := by decide +kernel
theorem dX11_init_48 : decode cX11_init 48 = .ok (.aload_n 0, 1) := by decide +kernel
theorem dX11_init_49 : decode cX11_init 49 = .ok (.new 23, 3) := by decide +kernel
theorem dX11_init_52 : decode cX11_init 52 = .ok (.dup, 1) := by decide +kernel
theorem dX11_init_53 : decode cX11_init 53 = .ok (.invokespecial 25, 3) := by decide +kernel
theorem dX11_init_56 : decode cX11_init 56 = .ok (.putfield 33, 3) := by decide +kernel
theorem dX11_init_59 : decode cX11_init 59 = .ok (.aload_n 0, 1) := by decide +kernel
theorem dX11_init_60 : decode cX11_init 60 = .ok (.new 23, 3) := by decide +kernel
theorem dX11_init_63 : decode cX11_init 63 = .ok (.dup, 1) := by decide +kernel
theorem dX11_init_64 : decode cX11_init 64 = .ok (.invokespecial 25, 3) := by decide +kernel
theorem dX11_init_67 : decode cX11_init 67 = .ok (.putfield 36, 3) := by decide +kernel
theorem dX11_init_70 : decode cX11_init 70 = .ok (.aload_n 0, 1) := by decide +kernel
theorem dX11_init_71 : decode cX11_init 71 = .ok (.iconst 0, 1) := by decide +kernel
theorem dX11_init_72 : decode cX11_init 72 = .ok (.putfield 39, 3) := by decide +kernel
theorem dX11_init_75 : decode cX11_init 75 = .ok (.aload_n 0, 1) := by decide +kernel
theorem dX11_init_76 : decode cX11_init 76 = .ok (.iconst 0, 1) := by decide +kernel
theorem dX11_init_77 : decode cX11_init 77 = .ok (.putfield 43, 3) := by decide +kernel
theorem dX11_init_80 : decode cX11_init 80 = .ok (.aload_n 0, 1) := by decide +kernel
theorem dX11_init_81 : decode cX11_init 81 = .ok (.iconst 0, 1) := by decide +kernel
theorem dX11_init_82 : decode cX11_init 82 = .ok (.putfield 46, 3) := by decide +kernel
theorem dX11_init_85 : decode cX11_init 85 = .ok (.aload_n 0, 1) := by decide +kernel
theorem dX11_init_86 : decode cX11_init 86 = .ok (.iconst 0, 1) := by decide +kernel
theorem dX11_init_87 : decode cX11_init 87 = .ok (.putfield 49, 3) := by decide +kernel
theorem dX11_init_90 : decode cX11_init 90 = .ok (.aload_n 0, 1) := by decide +kernel
theorem dX11_init_91 : decode cX11_init 91 = .ok (.iconst 0, 1) := by decide +kernel
theorem dX11_init_92 : decode cX11_init 92 = .ok (.putfield 52, 3) := by decide +kernel
theorem dX11_init_95 : decode cX11_init 95 = .ok (.return_, 1) := by decide +kernel
set_option maxRecDepth 20000 in
theorem ggX11_feed_X9_hasRoomForFive : GoodIn wsX11_feed wsX9_hasRoomForFive := goodIn_r _ [6, 7, 38, 39] (by decide +kernel) (by decide +kernel)
set_option maxRecDepth 20000 in
theorem gX11_feed_X9_hasRoomForFive : GoodIn wsX11_feed (wsV RX11 55 RX9 yX9_hasRoomForFive wsX9_hasRoomForFive) := goodIn_app (goodIn_of _ (by decide +kernel)) ggX11_feed_X9_hasRoomForFive
set_option maxRecDepth 20000 in
theorem ggX11_feed_X11_refuse : GoodIn wsX11_feed wsX11_refuse := goodIn_r _ [12, 13, 27, 28, 29, 30, 31, 32, 33, 34, 35, 36, 37] (by decide +kernel) (by decide +kernel)
set_option maxRecDepth 20000 in
theorem gX11_feed_X11_refuse : GoodIn wsX11_feed (wsV RX11 59 RX11 yX11_refuse wsX11_refuse) := goodIn_app (goodIn_of _ (by decide +kernel)) ggX11_feed_X11_refuse
set_option maxRecDepth 20000 in
theorem ggX11_feed_X9_append : GoodIn wsX11_feed wsX9_append := goodIn_r _ [17, 7, 18, 38, 39] (by decide +kernel) (by decide +kernel)
set_option maxRecDepth 20000 in
theorem gX11_feed_X9_append : GoodIn wsX11_feed (wsV RX11 63 RX9 yX9_append wsX9_append) := goodIn_app (goodIn_of _ (by decide +kernel)) ggX11_feed_X9_append
set_option maxRecDepth 20000 in
theorem ggX11_feed_X9_size : GoodIn wsX11_feed wsX9_size := goodIn_r _ [22, 7, 38, 39] (by decide +kernel) (by decide +kernel)
set_option maxRecDepth 20000 in
theorem gX11_feed_X9_size : GoodIn wsX11_feed (wsV RX11 67 RX9 yX9_size wsX9_size) := goodIn_app (goodIn_of _ (by decide +kernel)) ggX11_feed_X9_size
set_option maxRecDepth 20000 in
theorem ggX11_feed_X11_answer : GoodIn wsX11_feed wsX11_answer := goodIn_r _ [26, 13, 27, 28, 29, 30, 31, 32, 33, 34, 35, 36, 37] (by decide +kernel) (by decide +kernel)
set_option maxRecDepth 20000 in
theorem gX11_feed_X11_answer : GoodIn wsX11_feed (wsV RX11 71 RX11 yX11_answer wsX11_answer) := goodIn_app (goodIn_of _ (by decide +kernel)) ggX11_feed_X11_answer
theorem dX11_feed_0 : decode cX11_feed 0 = .ok (.aload_n 0, 1) := by decide +kernel
theorem dX11_feed_1 : decode cX11_feed 1 = .ok (.getfield 10, 3) := by decide +kernel
theorem dX11_feed_4 : decode cX11_feed 4 = .ok (.invokevirtual 55, 3) := by decide +kernel
theorem dX11_feed_7 : decode cX11_feed 7 = .ok (.ifCond .ne 10, 3) := by decide +kernel
theorem dX11_feed_10 : decode cX11_feed 10 = .ok (.aload_n 0, 1) := by decide +kernel
theorem dX11_feed_11 : decode cX11_feed 11 = .ok (.bipush 9, 2) := by decide +kernel
theorem dX11_feed_13 : decode cX11_feed 13 = .ok (.invokevirtual 59, 3) := by decide +kernel
theorem dX11_feed_16 : decode cX11_feed 16 = .ok (.ireturn, 1) := by decide +kernel
theorem dX11_feed_17 : decode cX11_feed 17 = .ok (.aload_n 0, 1) := by decide +kernel
theorem dX11_feed_18 : decode cX11_feed 18 = .ok (.getfield 10, 3) := by decide +kernel
theorem dX11_feed_21 : decode cX11_feed 21 = .ok (.iload_n 1, 1) := by decide +kernel
theorem dX11_feed_22 : decode cX11_feed 22 = .ok (.invokevirtual 63, 3) := by decide +kernel
theorem dX11_feed_25 : decode cX11_feed 25 = .ok (.aload_n 0, 1) := by decide +kernel
theorem dX11_feed_26 : decode cX11_feed 26 = .ok (.getfield 10, 3) := by decide +kernel
theorem dX11_feed_29 : decode cX11_feed 29 = .ok (.iload_n 2, 1) := by decide +kernel
theorem dX11_feed_30 : decode cX11_feed 30 = .ok (.invokevirtual 63, 3) := by decide +kernel
theorem dX11_feed_33 : decode cX11_feed 33 = .ok (.aload_n 0, 1) := by decide +kernel
theorem dX11_feed_34 : decode cX11_feed 34 = .ok (.getfield 10, 3) := by decide +kernel
theorem dX11_feed_37 : decode cX11_feed 37 = .ok (.iload_n 3, 1) := by decide +kernel
theorem dX11_feed_38 : decode cX11_feed 38 = .ok (.invokevirtual 63, 3) := by decide +kernel
theorem dX11_feed_41 : decode cX11_feed 41 = .ok (.aload_n 0, 1) := by decide +kernel
theorem dX11_feed_42 : decode cX11_feed 42 = .ok (.getfield 10, 3) := by decide +kernel
theorem dX11_feed_45 : decode cX11_feed 45 = .ok (.iload 4, 2) := by decide +kernel
theorem dX11_feed_47 : decode cX11_feed 47 = .ok (.invokevirtual 63, 3) := by decide +kernel
theorem dX11_feed_50 : decode cX11_feed 50 = .ok (.aload_n 0, 1) := by decide +kernel
theorem dX11_feed_51 : decode cX11_feed 51 = .ok (.getfield 10, 3) := by decide +kernel
theorem dX11_feed_54 : decode cX11_feed 54 = .ok (.iload 5, 2) := by decide +kernel
theorem dX11_feed_56 : decode cX11_feed 56 = .ok (.invokevirtual 63, 3) := by decide +kernel
theorem dX11_feed_59 : decode cX11_feed 59 = .ok (.aload_n 0, 1) := by decide +kernel
theorem dX11_feed_60 : decode cX11_feed 60 = .ok (.aload_n 0, 1) := by decide +kernel
theorem dX11_feed_61 : decode cX11_feed 61 = .ok (.getfield 10, 3) := by decide +kernel
theorem dX11_feed_64 : decode cX11_feed 64 = .ok (.invokevirtual 67, 3) := by decide +kernel
theorem dX11_feed_67 : decode cX11_feed 67 = .ok (.invokevirtual 71, 3) := by decide +kernel
theorem dX11_feed_70 : decode cX11_feed 70 = .ok (.ireturn, 1) := by decide +kernel
set_option maxRecDepth 20000 in
theorem ggX11_end_X9_size : GoodIn wsX11_end wsX9_size := goodIn_r _ [6, 7, 33, 34] (by decide +kernel) (by decide +kernel)
set_option maxRecDepth 20000 in
theorem gX11_end_X9_size : GoodIn wsX11_end (wsV RX11 67 RX9 yX9_size wsX9_size) := goodIn_app (goodIn_of _ (by decide +kernel)) ggX11_end_X9_size
set_option maxRecDepth 20000 in
theorem ggX11_end_X11_refuse : GoodIn wsX11_end wsX11_refuse := goodIn_r _ [12, 13, 22, 23, 24, 25, 26, 27, 28, 29, 30, 31, 32] (by decide +kernel) (by decide +kernel)
set_option maxRecDepth 20000 in
theorem gX11_end_X11_refuse : GoodIn wsX11_end (wsV RX11 59 RX11 yX11_refuse wsX11_refuse) := goodIn_app (goodIn_of _ (by decide +kernel)) ggX11_end_X11_refuse
set_option maxRecDepth 20000 in
theorem ggX11_end_X9_keep : GoodIn wsX11_end wsX9_keep := goodIn_r _ [17, 7, 33, 34] (by decide +kernel) (by decide +kernel)
set_option maxRecDepth 20000 in
theorem gX11_end_X9_keep : GoodIn wsX11_end (wsV RX11 74 RX9 yX9_keep wsX9_keep) := goodIn_app (goodIn_of _ (by decide +kernel)) ggX11_end_X9_keep
set_option maxRecDepth 20000 in
theorem ggX11_end_X11_answer : GoodIn wsX11_end wsX11_answer := goodIn_r _ [21, 13, 22, 23, 24, 25, 26, 27, 28, 29, 30, 31, 32] (by decide +kernel) (by decide +kernel)
set_option maxRecDepth 20000 in
theorem gX11_end_X11_answer : GoodIn wsX11_end (wsV RX11 71 RX11 yX11_answer wsX11_answer) := goodIn_app (goodIn_of _ (by decide +kernel)) ggX11_end_X11_answer
theorem dX11_end_0 : decode cX11_end 0 = .ok (.iload_n 1, 1) := by decide +kernel
theorem dX11_end_1 : decode cX11_end 1 = .ok (.ifCond .lt 14, 3) := by decide +kernel
theorem dX11_end_4 : decode cX11_end 4 = .ok (.iload_n 1, 1) := by decide +kernel
theorem dX11_end_5 : decode cX11_end 5 = .ok (.aload_n 0, 1) := by decide +kernel
theorem dX11_end_6 : decode cX11_end 6 = .ok (.getfield 10, 3) := by decide +kernel
theorem dX11_end_9 : decode cX11_end 9 = .ok (.invokevirtual 67, 3) := by decide +kernel
theorem dX11_end_12 : decode cX11_end 12 = .ok (.if_icmp .le 9, 3) := by decide +kernel
theorem dX11_end_15 : decode cX11_end 15 = .ok (.aload_n 0, 1) := by decide +kernel
theorem dX11_end_16 : decode cX11_end 16 = .ok (.iconst 3, 1) := by decide +kernel
theorem dX11_end_17 : decode cX11_end 17 = .ok (.invokevirtual 59, 3) := by decide +kernel
theorem dX11_end_20 : decode cX11_end 20 = .ok (.ireturn, 1) := by decide +kernel
theorem dX11_end_21 : decode cX11_end 21 = .ok (.aload_n 0, 1) := by decide +kernel
theorem dX11_end_22 : decode cX11_end 22 = .ok (.getfield 10, 3) := by decide +kernel
theorem dX11_end_25 : decode cX11_end 25 = .ok (.iload_n 1, 1) := by decide +kernel
theorem dX11_end_26 : decode cX11_end 26 = .ok (.invokevirtual 74, 3) := by decide +kernel
theorem dX11_end_29 : decode cX11_end 29 = .ok (.aload_n 0, 1) := by decide +kernel
theorem dX11_end_30 : decode cX11_end 30 = .ok (.iload_n 1, 1) := by decide +kernel
theorem dX11_end_31 : decode cX11_end 31 = .ok (.invokevirtual 71, 3) := by decide +kernel
theorem dX11_end_34 : decode cX11_end 34 = .ok (.ireturn, 1) := by decide +kernel
set_option maxRecDepth 20000 in
theorem ggX11_thing_X7_begin : GoodIn wsX11_thing wsX7_begin := goodIn_r _ [11, 12, 13, 14, 15, 16, 17, 18, 19, 20, 21, 22, 23, 24, 25, 26, 27, 28, 29, 30, 31, 32, 33, 34, 35, 36, 37, 38, 39, 40, 41, 42, 43, 44, 45, 46, 47, 48, 49, 50, 51, 52, 53, 54, 55, 56, 57, 58, 59, 60, 61, 62, 63, 64, 65, 66, 67, 68, 69, 70, 71, 72, 73, 74, 75, 76, 77, 78, 79, 80, 81, 82, 83, 84, 85, 86, 87, 88, 89, 90, 91, 92, 93, 94, 95, 96, 97, 98, 99, 100, 101, 102, 103, 104, 105, 106, 107, 108, 109, 110, 111, 112, 528, 529, 530, 531, 532, 533, 534, 535, 536, 537, 538, 539, 540, 541, 542, 543] (by decide +kernel) (by decide +kernel)
set_option maxRecDepth 20000 in
theorem gX11_thing_X7_begin : GoodIn wsX11_thing (wsV RX11 77 RX7 yX7_begin wsX7_begin) := goodIn_app (goodIn_of _ (by decide +kernel)) ggX11_thing_X7_begin
set_option maxRecDepth 20000 in
theorem ggX11_thing_X9_keep : GoodIn wsX11_thing wsX9_keep := goodIn_r _ [116, 28, 538, 539] (by decide +kernel) (by decide +kernel)
set_option maxRecDepth 20000 in
theorem gX11_thing_X9_keep : GoodIn wsX11_thing (wsV RX11 74 RX9 yX9_keep wsX9_keep) := goodIn_app (goodIn_of _ (by decide +kernel)) ggX11_thing_X9_keep
set_option maxRecDepth 20000 in
theorem ggX11_thing_X7_readsThing : GoodIn wsX11_thing wsX7_readsThing := goodIn_r _ [120, 121, 122, 123, 10, 124, 12, 14, 125, 126, 127, 19, 128, 21, 51, 129, 130, 131, 132, 15, 133, 134, 135, 136, 50, 22, 137, 138, 139, 140, 13, 141, 142, 143, 144, 145, 146, 147, 148, 149, 52, 150, 151, 152, 153, 154, 155, 156, 157, 158, 159, 160, 161, 528, 529, 530, 531, 532, 533, 534, 535, 536, 537] (by decide +kernel) (by decide +kernel)
set_option maxRecDepth 20000 in
theorem gX11_thing_X7_readsThing : GoodIn wsX11_thing (wsV RX11 81 RX7 yX7_readsThing wsX7_readsThing) := goodIn_app (goodIn_of _ (by decide +kernel)) ggX11_thing_X7_readsThing
set_option maxRecDepth 20000 in
theorem ggX11_thing_X10_faultIn : GoodIn wsX11_thing wsX10_faultIn := goodIn_r _ [164, 165, 166, 167, 10, 168, 13, 141, 169, 170, 171, 172, 173, 174, 6, 175, 528, 529, 530, 531, 532] (by decide +kernel) (by decide +kernel)
set_option maxRecDepth 20000 in
theorem gX11_thing_X10_faultIn : GoodIn wsX11_thing (va_wsS RX11 84 yX10_faultIn wsX10_faultIn) := goodIn_app (goodIn_of _ (by decide +kernel)) ggX11_thing_X10_faultIn
set_option maxRecDepth 20000 in
theorem ggX11_thing_Jx4a65c_size_8abf5 : GoodIn wsX11_thing wsJx4a65c_size_8abf5 := goodIn_r _ [180, 181, 544, 545, 546] (by decide +kernel) (by decide +kernel)
set_option maxRecDepth 20000 in
theorem gX11_thing_Jx4a65c_size_8abf5 : GoodIn wsX11_thing (wsV RX11 90 RJx4a65c yJx4a65c_size_8abf5 wsJx4a65c_size_8abf5) := goodIn_app (goodIn_of _ (by decide +kernel)) ggX11_thing_Jx4a65c_size_8abf5
set_option maxRecDepth 20000 in
theorem ggX11_thing_X11_refusalOfText : GoodIn wsX11_thing wsX11_refusalOfText := goodIn_r _ [185, 186, 508, 509, 510, 511, 512, 513, 514, 515, 516, 517, 518] (by decide +kernel) (by decide +kernel)
set_option maxRecDepth 20000 in
theorem gX11_thing_X11_refusalOfText : GoodIn wsX11_thing (wsV RX11 91 RX11 yX11_refusalOfText wsX11_refusalOfText) := goodIn_app (goodIn_of _ (by decide +kernel)) ggX11_thing_X11_refusalOfText
set_option maxRecDepth 20000 in
theorem ggX11_thing_X11_refuse : GoodIn wsX11_thing wsX11_refuse := goodIn_r _ [190, 191, 508, 509, 510, 511, 512, 513, 514, 515, 516, 517, 518] (by decide +kernel) (by decide +kernel)
set_option maxRecDepth 20000 in
theorem gX11_thing_X11_refuse : GoodIn wsX11_thing (wsV RX11 59 RX11 yX11_refuse wsX11_refuse) := goodIn_app (goodIn_of _ (by decide +kernel)) ggX11_thing_X11_refuse
set_option maxRecDepth 20000 in
theorem ggX11_thing_X10_init : GoodIn wsX11_thing wsX10_init := goodIn_r _ [194, 195, 196, 197, 198, 199, 200, 201, 202, 203, 204, 205, 206, 207, 179, 208, 209, 210, 211, 212, 213, 214, 215, 216, 217, 218, 219, 220, 221, 222, 223, 224, 225, 226, 227, 228, 229, 230, 231, 232, 233, 234, 235, 236, 237, 238, 239, 240, 241, 242, 243, 244, 245, 246, 165, 166, 167, 10, 168, 13, 141, 169, 170, 171, 172, 247, 248, 6, 249, 250, 251, 252, 253, 254, 255, 256, 257, 258, 259, 260, 261, 262, 263, 264, 265, 266, 98, 267, 268, 269, 270, 271, 57, 58, 59, 272, 273, 274, 275, 276, 277, 278, 279, 280, 281, 282, 283, 284, 285, 286, 287, 288, 289, 290, 291, 292, 293, 294, 295, 296, 297, 298, 299, 300, 301, 302, 303, 304, 305, 306, 307, 308, 309, 310, 311, 312, 313, 314, 315, 316, 317, 318, 319, 320, 321, 322, 323, 324, 325, 326, 327, 328, 329, 330, 331, 332, 333, 110, 334, 335, 336, 103, 104, 105, 337, 338, 67, 339, 91, 340, 341, 94, 342, 343, 344, 345, 111, 112, 346, 65, 66, 68, 69, 70, 71, 72, 73, 74, 75, 347, 348, 349, 350, 351, 352, 353, 354, 355, 356, 357, 358, 359, 360, 361, 362, 363, 364, 86, 365, 366, 367, 368, 369, 370, 371, 372, 373, 374, 375, 376, 377, 378, 379, 380, 381, 382, 383, 384, 385, 386, 387, 388, 389, 390, 391, 392, 393, 394, 395, 396, 397, 100, 101, 102, 106, 89, 90, 92, 93, 95, 398, 399, 400, 401, 402, 403, 404, 405, 406, 407, 408, 409, 410, 411, 412, 413, 414, 415, 416, 417, 418, 419, 420, 421, 422, 173, 174, 175, 423, 424, 425, 426, 427, 428, 429, 430, 431, 432, 433, 434, 435, 436, 437, 438, 439, 440, 441, 442, 443, 444, 445, 446, 447, 448, 449, 450, 451, 452, 453, 454, 455, 456, 457, 458, 459, 460, 461, 462, 463, 464, 465, 466, 107, 108, 109, 467, 468, 469, 470, 547, 548, 519, 520, 521, 522, 523, 524, 525, 526, 527, 549, 550, 551, 544, 545, 546, 528, 529, 530, 531, 532, 552, 553, 554, 555, 540, 541, 542, 543] (by decide +kernel) (by decide +kernel)
set_option maxRecDepth 20000 in
theorem gX11_thing_X10_init : GoodIn wsX11_thing (wsX10_init) := ggX11_thing_X10_init
set_option maxRecDepth 20000 in
theorem ggX11_thing_Jx4a65c_add_9ea2d : GoodIn wsX11_thing wsJx4a65c_add_9ea2d := goodIn_r _ [474, 475, 476, 236, 181, 477, 478, 479, 179, 480, 481, 482, 483, 484, 485, 486, 487, 488, 235, 489, 303, 304, 305, 490, 491, 299, 300, 301, 302, 306, 307, 308, 309, 492, 493, 224, 494, 495, 496, 497, 498, 499, 500, 501, 502, 503, 319, 320, 321, 322, 323, 324, 325, 544, 545, 546] (by decide +kernel) (by decide +kernel)
set_option maxRecDepth 20000 in
theorem gX11_thing_Jx4a65c_add_9ea2d : GoodIn wsX11_thing (wsV RX11 98 RJx4a65c yJx4a65c_add_9ea2d wsJx4a65c_add_9ea2d) := goodIn_app (goodIn_of _ (by decide +kernel)) ggX11_thing_Jx4a65c_add_9ea2d
set_option maxRecDepth 20000 in
theorem ggX11_thing_X11_answer : GoodIn wsX11_thing wsX11_answer := goodIn_r _ [507, 191, 508, 509, 510, 511, 512, 513, 514, 515, 516, 517, 518] (by decide +kernel) (by decide +kernel)
set_option maxRecDepth 20000 in
theorem gX11_thing_X11_answer : GoodIn wsX11_thing (wsV RX11 71 RX11 yX11_answer wsX11_answer) := goodIn_app (goodIn_of _ (by decide +kernel)) ggX11_thing_X11_answer
theorem dX11_thing_0 : decode cX11_thing 0 = .ok (.aload_n 0, 1) := by decide +kernel
theorem dX11_thing_1 : decode cX11_thing 1 = .ok (.getfield 19, 3) := by decide +kernel
theorem dX11_thing_4 : decode cX11_thing 4 = .ok (.aload_n 0, 1) := by decide +kernel
theorem dX11_thing_5 : decode cX11_thing 5 = .ok (.getfield 10, 3) := by decide +kernel
theorem dX11_thing_8 : decode cX11_thing 8 = .ok (.invokevirtual 77, 3) := by decide +kernel
theorem dX11_thing_11 : decode cX11_thing 11 = .ok (.aload_n 0, 1) := by decide +kernel
theorem dX11_thing_12 : decode cX11_thing 12 = .ok (.getfield 10, 3) := by decide +kernel
theorem dX11_thing_15 : decode cX11_thing 15 = .ok (.iconst 0, 1) := by decide +kernel
theorem dX11_thing_16 : decode cX11_thing 16 = .ok (.invokevirtual 74, 3) := by decide +kernel
theorem dX11_thing_19 : decode cX11_thing 19 = .ok (.aload_n 0, 1) := by decide +kernel
theorem dX11_thing_20 : decode cX11_thing 20 = .ok (.getfield 19, 3) := by decide +kernel
theorem dX11_thing_23 : decode cX11_thing 23 = .ok (.invokevirtual 81, 3) := by decide +kernel
theorem dX11_thing_26 : decode cX11_thing 26 = .ok (.istore_n 1, 1) := by decide +kernel
theorem dX11_thing_27 : decode cX11_thing 27 = .ok (.iload_n 1, 1) := by decide +kernel
theorem dX11_thing_28 : decode cX11_thing 28 = .ok (.ifCond .eq 13, 3) := by decide +kernel
theorem dX11_thing_31 : decode cX11_thing 31 = .ok (.aload_n 0, 1) := by decide +kernel
theorem dX11_thing_32 : decode cX11_thing 32 = .ok (.getfield 19, 3) := by decide +kernel
theorem dX11_thing_35 : decode cX11_thing 35 = .ok (.invokestatic 84, 3) := by decide +kernel
theorem dX11_thing_38 : decode cX11_thing 38 = .ok (.goto 4, 3) := by decide +kernel
theorem dX11_thing_41 : decode cX11_thing 41 = .ok (.iconst 0, 1) := by decide +kernel
theorem dX11_thing_42 : decode cX11_thing 42 = .ok (.istore_n 2, 1) := by decide +kernel
theorem dX11_thing_43 : decode cX11_thing 43 = .ok (.aload_n 0, 1) := by decide +kernel
theorem dX11_thing_44 : decode cX11_thing 44 = .ok (.iload_n 1, 1) := by decide +kernel
theorem dX11_thing_45 : decode cX11_thing 45 = .ok (.iload_n 2, 1) := by decide +kernel
theorem dX11_thing_46 : decode cX11_thing 46 = .ok (.aload_n 0, 1) := by decide +kernel
theorem dX11_thing_47 : decode cX11_thing 47 = .ok (.getfield 26, 3) := by decide +kernel
theorem dX11_thing_50 : decode cX11_thing 50 = .ok (.invokevirtual 90, 3) := by decide +kernel
theorem dX11_thing_53 : decode cX11_thing 53 = .ok (.bipush 16, 2) := by decide +kernel
theorem dX11_thing_55 : decode cX11_thing 55 = .ok (.if_icmp .ge 7, 3) := by decide +kernel
theorem dX11_thing_58 : decode cX11_thing 58 = .ok (.iconst 1, 1) := by decide +kernel
theorem dX11_thing_59 : decode cX11_thing 59 = .ok (.goto 4, 3) := by decide +kernel
theorem dX11_thing_62 : decode cX11_thing 62 = .ok (.iconst 0, 1) := by decide +kernel
theorem dX11_thing_63 : decode cX11_thing 63 = .ok (.invokevirtual 91, 3) := by decide +kernel
theorem dX11_thing_66 : decode cX11_thing 66 = .ok (.istore_n 3, 1) := by decide +kernel
theorem dX11_thing_67 : decode cX11_thing 67 = .ok (.iload_n 3, 1) := by decide +kernel
theorem dX11_thing_68 : decode cX11_thing 68 = .ok (.ifCond .eq 9, 3) := by decide +kernel
theorem dX11_thing_71 : decode cX11_thing 71 = .ok (.aload_n 0, 1) := by decide +kernel
theorem dX11_thing_72 : decode cX11_thing 72 = .ok (.iload_n 3, 1) := by decide +kernel
theorem dX11_thing_73 : decode cX11_thing 73 = .ok (.invokevirtual 59, 3) := by decide +kernel
theorem dX11_thing_76 : decode cX11_thing 76 = .ok (.ireturn, 1) := by decide +kernel
theorem dX11_thing_77 : decode cX11_thing 77 = .ok (.aload_n 0, 1) := by decide +kernel
theorem dX11_thing_78 : decode cX11_thing 78 = .ok (.getfield 26, 3) := by decide +kernel
theorem dX11_thing_81 : decode cX11_thing 81 = .ok (.new 85, 3) := by decide +kernel
theorem dX11_thing_84 : decode cX11_thing 84 = .ok (.dup, 1) := by decide +kernel
theorem dX11_thing_85 : decode cX11_thing 85 = .ok (.aload_n 0, 1) := by decide +kernel
theorem dX11_thing_86 : decode cX11_thing 86 = .ok (.getfield 26, 3) := by decide +kernel
theorem dX11_thing_89 : decode cX11_thing 89 = .ok (.invokevirtual 90, 3) := by decide +kernel
theorem dX11_thing_92 : decode cX11_thing 92 = .ok (.aload_n 0, 1) := by decide +kernel
theorem dX11_thing_93 : decode cX11_thing 93 = .ok (.getfield 19, 3) := by decide +kernel
theorem dX11_thing_96 : decode cX11_thing 96 = .ok (.invokespecial 95, 3) := by decide +kernel
theorem dX11_thing_99 : decode cX11_thing 99 = .ok (.invokevirtual 98, 3) := by decide +kernel
theorem dX11_thing_102 : decode cX11_thing 102 = .ok (.pop, 1) := by decide +kernel
theorem dX11_thing_103 : decode cX11_thing 103 = .ok (.aload_n 0, 1) := by decide +kernel
theorem dX11_thing_104 : decode cX11_thing 104 = .ok (.aload_n 0, 1) := by decide +kernel
theorem dX11_thing_105 : decode cX11_thing 105 = .ok (.getfield 26, 3) := by decide +kernel
theorem dX11_thing_108 : decode cX11_thing 108 = .ok (.invokevirtual 90, 3) := by decide +kernel
theorem dX11_thing_111 : decode cX11_thing 111 = .ok (.iconst 1, 1) := by decide +kernel
theorem dX11_thing_112 : decode cX11_thing 112 = .ok (.isub, 1) := by decide +kernel
theorem dX11_thing_113 : decode cX11_thing 113 = .ok (.invokevirtual 71, 3) := by decide +kernel
theorem dX11_thing_116 : decode cX11_thing 116 = .ok (.ireturn, 1) := by decide +kernel
set_option maxRecDepth 20000 in
theorem ggX11_house_X7_begin : GoodIn wsX11_house wsX7_begin := goodIn_r _ [11, 12, 13, 14, 15, 16, 17, 18, 19, 20, 21, 22, 23, 24, 25, 26, 27, 28, 29, 30, 31, 32, 33, 34, 35, 36, 37, 38, 39, 40, 41, 42, 43, 44, 45, 46, 47, 48, 49, 50, 51, 52, 53, 54, 55, 56, 57, 58, 59, 60, 61, 62, 63, 64, 65, 66, 67, 68, 69, 70, 71, 72, 73, 74, 75, 76, 77, 78, 79, 80, 81, 82, 83, 84, 85, 86, 87, 88, 89, 90, 91, 92, 93, 94, 95, 96, 97, 98, 99, 100, 101, 102, 103, 104, 105, 106, 107, 108, 109, 110, 111, 112, 427, 428, 429, 430, 431, 432, 433, 434, 435, 436, 437, 438, 439, 440, 441, 442] (by decide +kernel) (by decide +kernel)
set_option maxRecDepth 20000 in
theorem gX11_house_X7_begin : GoodIn wsX11_house (wsV RX11 77 RX7 yX7_begin wsX7_begin) := goodIn_app (goodIn_of _ (by decide +kernel)) ggX11_house_X7_begin
set_option maxRecDepth 20000 in
theorem ggX11_house_X9_keep : GoodIn wsX11_house wsX9_keep := goodIn_r _ [116, 28, 437, 438] (by decide +kernel) (by decide +kernel)
set_option maxRecDepth 20000 in
theorem gX11_house_X9_keep : GoodIn wsX11_house (wsV RX11 74 RX9 yX9_keep wsX9_keep) := goodIn_app (goodIn_of _ (by decide +kernel)) ggX11_house_X9_keep
set_option maxRecDepth 20000 in
theorem ggX11_house_X7_readsHouse : GoodIn wsX11_house wsX7_readsHouse := goodIn_r _ [120, 121, 122, 123, 10, 124, 12, 14, 125, 126, 127, 19, 128, 21, 51, 129, 130, 131, 132, 15, 133, 134, 135, 136, 50, 22, 137, 138, 139, 140, 52, 141, 142, 143, 144, 13, 145, 146, 147, 148, 149, 427, 428, 429, 430, 431, 432, 433, 434, 435, 436] (by decide +kernel) (by decide +kernel)
set_option maxRecDepth 20000 in
theorem gX11_house_X7_readsHouse : GoodIn wsX11_house (wsV RX11 102 RX7 yX7_readsHouse wsX7_readsHouse) := goodIn_app (goodIn_of _ (by decide +kernel)) ggX11_house_X7_readsHouse
set_option maxRecDepth 20000 in
theorem ggX11_house_X3_faultIn : GoodIn wsX11_house wsX3_faultIn := goodIn_r _ [152, 153, 154, 155, 10, 156, 13, 145, 427, 428, 429, 430, 431] (by decide +kernel) (by decide +kernel)
set_option maxRecDepth 20000 in
theorem gX11_house_X3_faultIn : GoodIn wsX11_house (va_wsS RX11 105 yX3_faultIn wsX3_faultIn) := goodIn_app (goodIn_of _ (by decide +kernel)) ggX11_house_X3_faultIn
set_option maxRecDepth 20000 in
theorem ggX11_house_Jx4a65c_size_8abf5 : GoodIn wsX11_house wsJx4a65c_size_8abf5 := goodIn_r _ [161, 162, 443, 444, 445] (by decide +kernel) (by decide +kernel)
set_option maxRecDepth 20000 in
theorem gX11_house_Jx4a65c_size_8abf5 : GoodIn wsX11_house (wsV RX11 90 RJx4a65c yJx4a65c_size_8abf5 wsJx4a65c_size_8abf5) := goodIn_app (goodIn_of _ (by decide +kernel)) ggX11_house_Jx4a65c_size_8abf5
set_option maxRecDepth 20000 in
theorem ggX11_house_X11_refusalOfText : GoodIn wsX11_house wsX11_refusalOfText := goodIn_r _ [166, 167, 411, 412, 413, 414, 415, 416, 417, 418, 419, 420, 421] (by decide +kernel) (by decide +kernel)
set_option maxRecDepth 20000 in
theorem gX11_house_X11_refusalOfText : GoodIn wsX11_house (wsV RX11 91 RX11 yX11_refusalOfText wsX11_refusalOfText) := goodIn_app (goodIn_of _ (by decide +kernel)) ggX11_house_X11_refusalOfText
set_option maxRecDepth 20000 in
theorem ggX11_house_X11_refuse : GoodIn wsX11_house wsX11_refuse := goodIn_r _ [171, 172, 411, 412, 413, 414, 415, 416, 417, 418, 419, 420, 421] (by decide +kernel) (by decide +kernel)
set_option maxRecDepth 20000 in
theorem gX11_house_X11_refuse : GoodIn wsX11_house (wsV RX11 59 RX11 yX11_refuse wsX11_refuse) := goodIn_app (goodIn_of _ (by decide +kernel)) ggX11_house_X11_refuse
set_option maxRecDepth 20000 in
theorem ggX11_house_X3_init : GoodIn wsX11_house wsX3_init := goodIn_r _ [175, 176, 177, 178, 179, 180, 181, 182, 183, 184, 185, 186, 153, 154, 155, 10, 156, 13, 145, 187, 188, 189, 190, 191, 192, 193, 194, 195, 196, 197, 198, 199, 200, 98, 201, 202, 203, 204, 205, 206, 207, 208, 209, 210, 211, 212, 213, 214, 215, 216, 217, 218, 219, 220, 221, 222, 223, 224, 225, 226, 227, 228, 229, 230, 231, 232, 233, 234, 235, 236, 237, 238, 239, 240, 241, 242, 243, 244, 245, 246, 247, 248, 249, 250, 251, 252, 253, 254, 255, 256, 257, 258, 259, 260, 261, 262, 263, 264, 265, 266, 267, 268, 269, 270, 271, 272, 110, 273, 274, 275, 103, 104, 105, 276, 277, 67, 278, 91, 279, 280, 94, 281, 282, 283, 284, 285, 286, 287, 288, 289, 111, 112, 290, 291, 292, 293, 294, 295, 296, 297, 298, 299, 86, 300, 301, 302, 303, 304, 305, 306, 307, 308, 309, 310, 311, 312, 313, 314, 315, 316, 317, 318, 319, 320, 321, 322, 323, 100, 101, 102, 106, 89, 90, 92, 93, 95, 324, 325, 326, 327, 328, 329, 330, 331, 332, 333, 334, 335, 336, 75, 69, 74, 337, 338, 339, 340, 341, 342, 343, 344, 345, 346, 347, 348, 349, 350, 351, 352, 353, 354, 355, 356, 357, 358, 359, 360, 361, 362, 363, 364, 365, 366, 367, 107, 108, 109, 368, 369, 370, 371, 422, 423, 424, 425, 426, 446, 447, 448, 449, 427, 428, 429, 430, 431, 439, 440, 441, 442] (by decide +kernel) (by decide +kernel)
set_option maxRecDepth 20000 in
theorem gX11_house_X3_init : GoodIn wsX11_house (wsX3_init) := ggX11_house_X3_init
set_option maxRecDepth 20000 in
theorem ggX11_house_Jx4a65c_add_9ea2d : GoodIn wsX11_house wsJx4a65c_add_9ea2d := goodIn_r _ [375, 376, 377, 378, 162, 379, 380, 381, 160, 382, 383, 384, 385, 386, 387, 388, 389, 390, 391, 392, 236, 237, 238, 393, 394, 232, 233, 234, 235, 239, 240, 241, 242, 395, 396, 245, 397, 398, 399, 400, 401, 402, 403, 404, 405, 406, 253, 254, 255, 256, 257, 258, 259, 443, 444, 445] (by decide +kernel) (by decide +kernel)
set_option maxRecDepth 20000 in
theorem gX11_house_Jx4a65c_add_9ea2d : GoodIn wsX11_house (wsV RX11 98 RJx4a65c yJx4a65c_add_9ea2d wsJx4a65c_add_9ea2d) := goodIn_app (goodIn_of _ (by decide +kernel)) ggX11_house_Jx4a65c_add_9ea2d
set_option maxRecDepth 20000 in
theorem ggX11_house_X11_answer : GoodIn wsX11_house wsX11_answer := goodIn_r _ [410, 172, 411, 412, 413, 414, 415, 416, 417, 418, 419, 420, 421] (by decide +kernel) (by decide +kernel)
set_option maxRecDepth 20000 in
theorem gX11_house_X11_answer : GoodIn wsX11_house (wsV RX11 71 RX11 yX11_answer wsX11_answer) := goodIn_app (goodIn_of _ (by decide +kernel)) ggX11_house_X11_answer
theorem dX11_house_0 : decode cX11_house 0 = .ok (.aload_n 0, 1) := by decide +kernel
theorem dX11_house_1 : decode cX11_house 1 = .ok (.getfield 19, 3) := by decide +kernel
theorem dX11_house_4 : decode cX11_house 4 = .ok (.aload_n 0, 1) := by decide +kernel
theorem dX11_house_5 : decode cX11_house 5 = .ok (.getfield 10, 3) := by decide +kernel
theorem dX11_house_8 : decode cX11_house 8 = .ok (.invokevirtual 77, 3) := by decide +kernel
theorem dX11_house_11 : decode cX11_house 11 = .ok (.aload_n 0, 1) := by decide +kernel
theorem dX11_house_12 : decode cX11_house 12 = .ok (.getfield 10, 3) := by decide +kernel
theorem dX11_house_15 : decode cX11_house 15 = .ok (.iconst 0, 1) := by decide +kernel
theorem dX11_house_16 : decode cX11_house 16 = .ok (.invokevirtual 74, 3) := by decide +kernel
theorem dX11_house_19 : decode cX11_house 19 = .ok (.aload_n 0, 1) := by decide +kernel
theorem dX11_house_20 : decode cX11_house 20 = .ok (.getfield 19, 3) := by decide +kernel
theorem dX11_house_23 : decode cX11_house 23 = .ok (.invokevirtual 102, 3) := by decide +kernel
theorem dX11_house_26 : decode cX11_house 26 = .ok (.istore_n 1, 1) := by decide +kernel
theorem dX11_house_27 : decode cX11_house 27 = .ok (.iload_n 1, 1) := by decide +kernel
theorem dX11_house_28 : decode cX11_house 28 = .ok (.ifCond .eq 13, 3) := by decide +kernel
theorem dX11_house_31 : decode cX11_house 31 = .ok (.aload_n 0, 1) := by decide +kernel
theorem dX11_house_32 : decode cX11_house 32 = .ok (.getfield 19, 3) := by decide +kernel
theorem dX11_house_35 : decode cX11_house 35 = .ok (.invokestatic 105, 3) := by decide +kernel
theorem dX11_house_38 : decode cX11_house 38 = .ok (.goto 4, 3) := by decide +kernel
theorem dX11_house_41 : decode cX11_house 41 = .ok (.iconst 0, 1) := by decide +kernel
theorem dX11_house_42 : decode cX11_house 42 = .ok (.istore_n 2, 1) := by decide +kernel
theorem dX11_house_43 : decode cX11_house 43 = .ok (.aload_n 0, 1) := by decide +kernel
theorem dX11_house_44 : decode cX11_house 44 = .ok (.iload_n 1, 1) := by decide +kernel
theorem dX11_house_45 : decode cX11_house 45 = .ok (.iload_n 2, 1) := by decide +kernel
theorem dX11_house_46 : decode cX11_house 46 = .ok (.aload_n 0, 1) := by decide +kernel
theorem dX11_house_47 : decode cX11_house 47 = .ok (.getfield 30, 3) := by decide +kernel
theorem dX11_house_50 : decode cX11_house 50 = .ok (.invokevirtual 90, 3) := by decide +kernel
theorem dX11_house_53 : decode cX11_house 53 = .ok (.bipush 6, 2) := by decide +kernel
theorem dX11_house_55 : decode cX11_house 55 = .ok (.if_icmp .ge 7, 3) := by decide +kernel
theorem dX11_house_58 : decode cX11_house 58 = .ok (.iconst 1, 1) := by decide +kernel
theorem dX11_house_59 : decode cX11_house 59 = .ok (.goto 4, 3) := by decide +kernel
theorem dX11_house_62 : decode cX11_house 62 = .ok (.iconst 0, 1) := by decide +kernel
theorem dX11_house_63 : decode cX11_house 63 = .ok (.invokevirtual 91, 3) := by decide +kernel
theorem dX11_house_66 : decode cX11_house 66 = .ok (.istore_n 3, 1) := by decide +kernel
theorem dX11_house_67 : decode cX11_house 67 = .ok (.iload_n 3, 1) := by decide +kernel
theorem dX11_house_68 : decode cX11_house 68 = .ok (.ifCond .eq 9, 3) := by decide +kernel
theorem dX11_house_71 : decode cX11_house 71 = .ok (.aload_n 0, 1) := by decide +kernel
theorem dX11_house_72 : decode cX11_house 72 = .ok (.iload_n 3, 1) := by decide +kernel
theorem dX11_house_73 : decode cX11_house 73 = .ok (.invokevirtual 59, 3) := by decide +kernel
theorem dX11_house_76 : decode cX11_house 76 = .ok (.ireturn, 1) := by decide +kernel
theorem dX11_house_77 : decode cX11_house 77 = .ok (.aload_n 0, 1) := by decide +kernel
theorem dX11_house_78 : decode cX11_house 78 = .ok (.getfield 30, 3) := by decide +kernel
theorem dX11_house_81 : decode cX11_house 81 = .ok (.new 106, 3) := by decide +kernel
theorem dX11_house_84 : decode cX11_house 84 = .ok (.dup, 1) := by decide +kernel
theorem dX11_house_85 : decode cX11_house 85 = .ok (.aload_n 0, 1) := by decide +kernel
theorem dX11_house_86 : decode cX11_house 86 = .ok (.getfield 19, 3) := by decide +kernel
theorem dX11_house_89 : decode cX11_house 89 = .ok (.invokespecial 108, 3) := by decide +kernel
theorem dX11_house_92 : decode cX11_house 92 = .ok (.invokevirtual 98, 3) := by decide +kernel
theorem dX11_house_95 : decode cX11_house 95 = .ok (.pop, 1) := by decide +kernel
theorem dX11_house_96 : decode cX11_house 96 = .ok (.aload_n 0, 1) := by decide +kernel
theorem dX11_house_97 : decode cX11_house 97 = .ok (.aload_n 0, 1) := by decide +kernel
theorem dX11_house_98 : decode cX11_house 98 = .ok (.getfield 30, 3) := by decide +kernel
theorem dX11_house_101 : decode cX11_house 101 = .ok (.invokevirtual 90, 3) := by decide +kernel
theorem dX11_house_104 : decode cX11_house 104 = .ok (.iconst 1, 1) := by decide +kernel
theorem dX11_house_105 : decode cX11_house 105 = .ok (.isub, 1) := by decide +kernel
theorem dX11_house_106 : decode cX11_house 106 = .ok (.invokevirtual 71, 3) := by decide +kernel
theorem dX11_house_109 : decode cX11_house 109 = .ok (.ireturn, 1) := by decide +kernel
set_option maxRecDepth 20000 in
theorem ggX11_courier_X7_begin : GoodIn wsX11_courier wsX7_begin := goodIn_r _ [11, 12, 13, 14, 15, 16, 17, 18, 19, 20, 21, 22, 23, 24, 25, 26, 27, 28, 29, 30, 31, 32, 33, 34, 35, 36, 37, 38, 39, 40, 41, 42, 43, 44, 45, 46, 47, 48, 49, 50, 51, 52, 53, 54, 55, 56, 57, 58, 59, 60, 61, 62, 63, 64, 65, 66, 67, 68, 69, 70, 71, 72, 73, 74, 75, 76, 77, 78, 79, 80, 81, 82, 83, 84, 85, 86, 87, 88, 89, 90, 91, 92, 93, 94, 95, 96, 97, 98, 99, 100, 101, 102, 103, 104, 105, 106, 107, 108, 109, 110, 111, 112, 495, 496, 497, 498, 499, 500, 501, 502, 503, 504, 505, 506, 507, 508, 509, 510] (by decide +kernel) (by decide +kernel)
set_option maxRecDepth 20000 in
theorem gX11_courier_X7_begin : GoodIn wsX11_courier (wsV RX11 77 RX7 yX7_begin wsX7_begin) := goodIn_app (goodIn_of _ (by decide +kernel)) ggX11_courier_X7_begin
set_option maxRecDepth 20000 in
theorem ggX11_courier_X9_keep : GoodIn wsX11_courier wsX9_keep := goodIn_r _ [116, 28, 505, 506] (by decide +kernel) (by decide +kernel)
set_option maxRecDepth 20000 in
theorem gX11_courier_X9_keep : GoodIn wsX11_courier (wsV RX11 74 RX9 yX9_keep wsX9_keep) := goodIn_app (goodIn_of _ (by decide +kernel)) ggX11_courier_X9_keep
set_option maxRecDepth 20000 in
theorem ggX11_courier_X7_readsCourier : GoodIn wsX11_courier wsX7_readsCourier := goodIn_r _ [120, 121, 122, 123, 10, 124, 125, 126, 127, 128, 12, 14, 129, 130, 131, 19, 132, 21, 51, 133, 134, 135, 136, 15, 137, 138, 139, 140, 50, 22, 141, 142, 143, 144, 52, 145, 146, 147, 148, 13, 149, 150, 151, 152, 153, 154, 155, 156, 157, 158, 159, 160, 161, 495, 496, 497, 498, 499, 500, 501, 502, 503, 504] (by decide +kernel) (by decide +kernel)
set_option maxRecDepth 20000 in
theorem gX11_courier_X7_readsCourier : GoodIn wsX11_courier (wsV RX11 111 RX7 yX7_readsCourier wsX7_readsCourier) := goodIn_app (goodIn_of _ (by decide +kernel)) ggX11_courier_X7_readsCourier
set_option maxRecDepth 20000 in
theorem ggX11_courier_X2_faultIn : GoodIn wsX11_courier wsX2_faultIn := goodIn_r _ [164, 165, 166, 167, 10, 168, 13, 169, 170, 171, 172, 149, 495, 496, 497, 498, 499] (by decide +kernel) (by decide +kernel)
set_option maxRecDepth 20000 in
theorem gX11_courier_X2_faultIn : GoodIn wsX11_courier (va_wsS RX11 114 yX2_faultIn wsX2_faultIn) := goodIn_app (goodIn_of _ (by decide +kernel)) ggX11_courier_X2_faultIn
set_option maxRecDepth 20000 in
theorem ggX11_courier_Jx4a65c_size_8abf5 : GoodIn wsX11_courier wsJx4a65c_size_8abf5 := goodIn_r _ [177, 178, 511, 512, 513] (by decide +kernel) (by decide +kernel)
set_option maxRecDepth 20000 in
theorem gX11_courier_Jx4a65c_size_8abf5 : GoodIn wsX11_courier (wsV RX11 90 RJx4a65c yJx4a65c_size_8abf5 wsJx4a65c_size_8abf5) := goodIn_app (goodIn_of _ (by decide +kernel)) ggX11_courier_Jx4a65c_size_8abf5
set_option maxRecDepth 20000 in
theorem ggX11_courier_X11_refusalOfText : GoodIn wsX11_courier wsX11_refusalOfText := goodIn_r _ [182, 183, 481, 482, 483, 484, 485, 486, 487, 488, 489, 490, 491] (by decide +kernel) (by decide +kernel)
set_option maxRecDepth 20000 in
theorem gX11_courier_X11_refusalOfText : GoodIn wsX11_courier (wsV RX11 91 RX11 yX11_refusalOfText wsX11_refusalOfText) := goodIn_app (goodIn_of _ (by decide +kernel)) ggX11_courier_X11_refusalOfText
set_option maxRecDepth 20000 in
theorem ggX11_courier_X11_refuse : GoodIn wsX11_courier wsX11_refuse := goodIn_r _ [187, 188, 481, 482, 483, 484, 485, 486, 487, 488, 489, 490, 491] (by decide +kernel) (by decide +kernel)
set_option maxRecDepth 20000 in
theorem gX11_courier_X11_refuse : GoodIn wsX11_courier (wsV RX11 59 RX11 yX11_refuse wsX11_refuse) := goodIn_app (goodIn_of _ (by decide +kernel)) ggX11_courier_X11_refuse
set_option maxRecDepth 20000 in
theorem ggX11_courier_X2_init : GoodIn wsX11_courier wsX2_init := goodIn_r _ [191, 192, 193, 194, 195, 196, 197, 198, 199, 200, 201, 202, 203, 204, 205, 206, 207, 208, 209, 210, 211, 212, 213, 214, 215, 216, 217, 218, 219, 220, 221, 222, 223, 224, 225, 226, 227, 228, 98, 229, 230, 231, 232, 233, 165, 166, 167, 10, 168, 13, 169, 170, 171, 172, 149, 234, 235, 236, 237, 238, 239, 240, 241, 242, 243, 244, 245, 246, 247, 248, 249, 250, 251, 252, 253, 254, 255, 256, 257, 258, 259, 260, 261, 262, 263, 264, 265, 266, 267, 268, 269, 270, 271, 272, 273, 274, 275, 276, 277, 278, 279, 280, 281, 282, 283, 284, 285, 286, 287, 288, 289, 290, 291, 292, 293, 294, 295, 296, 297, 298, 299, 300, 301, 302, 303, 304, 110, 305, 306, 307, 103, 104, 105, 308, 309, 67, 310, 91, 311, 312, 94, 313, 314, 315, 316, 111, 112, 317, 65, 66, 68, 69, 70, 71, 72, 73, 74, 75, 318, 319, 320, 321, 322, 323, 324, 325, 326, 327, 328, 329, 330, 331, 332, 333, 334, 335, 86, 336, 337, 338, 339, 340, 341, 342, 343, 344, 345, 346, 347, 348, 349, 350, 351, 352, 353, 354, 355, 356, 357, 358, 359, 360, 361, 362, 363, 364, 365, 366, 367, 368, 369, 370, 371, 372, 373, 374, 375, 376, 377, 378, 379, 380, 381, 382, 383, 384, 385, 386, 387, 388, 389, 390, 391, 392, 393, 100, 101, 102, 106, 89, 90, 92, 93, 95, 394, 395, 396, 397, 398, 399, 400, 401, 402, 403, 404, 405, 406, 407, 408, 409, 410, 411, 412, 413, 414, 415, 416, 417, 418, 419, 420, 421, 422, 423, 424, 425, 426, 427, 428, 429, 430, 431, 432, 433, 434, 435, 436, 437, 107, 108, 109, 438, 439, 440, 441, 514, 515, 492, 493, 494, 516, 517, 518, 519, 495, 496, 497, 498, 499, 507, 508, 509, 510] (by decide +kernel) (by decide +kernel)
set_option maxRecDepth 20000 in
theorem gX11_courier_X2_init : GoodIn wsX11_courier (wsX2_init) := ggX11_courier_X2_init
set_option maxRecDepth 20000 in
theorem ggX11_courier_Jx4a65c_add_9ea2d : GoodIn wsX11_courier wsJx4a65c_add_9ea2d := goodIn_r _ [445, 446, 447, 448, 178, 449, 450, 451, 176, 452, 453, 454, 455, 456, 457, 458, 459, 460, 461, 462, 243, 244, 245, 463, 464, 273, 274, 275, 276, 277, 278, 279, 280, 465, 466, 213, 467, 468, 469, 470, 471, 472, 473, 474, 475, 476, 290, 291, 292, 293, 294, 295, 296, 511, 512, 513] (by decide +kernel) (by decide +kernel)
set_option maxRecDepth 20000 in
theorem gX11_courier_Jx4a65c_add_9ea2d : GoodIn wsX11_courier (wsV RX11 98 RJx4a65c yJx4a65c_add_9ea2d wsJx4a65c_add_9ea2d) := goodIn_app (goodIn_of _ (by decide +kernel)) ggX11_courier_Jx4a65c_add_9ea2d
set_option maxRecDepth 20000 in
theorem ggX11_courier_X11_answer : GoodIn wsX11_courier wsX11_answer := goodIn_r _ [480, 188, 481, 482, 483, 484, 485, 486, 487, 488, 489, 490, 491] (by decide +kernel) (by decide +kernel)
set_option maxRecDepth 20000 in
theorem gX11_courier_X11_answer : GoodIn wsX11_courier (wsV RX11 71 RX11 yX11_answer wsX11_answer) := goodIn_app (goodIn_of _ (by decide +kernel)) ggX11_courier_X11_answer
theorem dX11_courier_0 : decode cX11_courier 0 = .ok (.aload_n 0, 1) := by decide +kernel
theorem dX11_courier_1 : decode cX11_courier 1 = .ok (.getfield 19, 3) := by decide +kernel
theorem dX11_courier_4 : decode cX11_courier 4 = .ok (.aload_n 0, 1) := by decide +kernel
theorem dX11_courier_5 : decode cX11_courier 5 = .ok (.getfield 10, 3) := by decide +kernel
theorem dX11_courier_8 : decode cX11_courier 8 = .ok (.invokevirtual 77, 3) := by decide +kernel
theorem dX11_courier_11 : decode cX11_courier 11 = .ok (.aload_n 0, 1) := by decide +kernel
theorem dX11_courier_12 : decode cX11_courier 12 = .ok (.getfield 10, 3) := by decide +kernel
theorem dX11_courier_15 : decode cX11_courier 15 = .ok (.iconst 0, 1) := by decide +kernel
theorem dX11_courier_16 : decode cX11_courier 16 = .ok (.invokevirtual 74, 3) := by decide +kernel
theorem dX11_courier_19 : decode cX11_courier 19 = .ok (.aload_n 0, 1) := by decide +kernel
theorem dX11_courier_20 : decode cX11_courier 20 = .ok (.getfield 19, 3) := by decide +kernel
theorem dX11_courier_23 : decode cX11_courier 23 = .ok (.invokevirtual 111, 3) := by decide +kernel
theorem dX11_courier_26 : decode cX11_courier 26 = .ok (.istore_n 1, 1) := by decide +kernel
theorem dX11_courier_27 : decode cX11_courier 27 = .ok (.iload_n 1, 1) := by decide +kernel
theorem dX11_courier_28 : decode cX11_courier 28 = .ok (.ifCond .eq 13, 3) := by decide +kernel
theorem dX11_courier_31 : decode cX11_courier 31 = .ok (.aload_n 0, 1) := by decide +kernel
theorem dX11_courier_32 : decode cX11_courier 32 = .ok (.getfield 19, 3) := by decide +kernel
theorem dX11_courier_35 : decode cX11_courier 35 = .ok (.invokestatic 114, 3) := by decide +kernel
theorem dX11_courier_38 : decode cX11_courier 38 = .ok (.goto 4, 3) := by decide +kernel
theorem dX11_courier_41 : decode cX11_courier 41 = .ok (.iconst 0, 1) := by decide +kernel
theorem dX11_courier_42 : decode cX11_courier 42 = .ok (.istore_n 2, 1) := by decide +kernel
theorem dX11_courier_43 : decode cX11_courier 43 = .ok (.aload_n 0, 1) := by decide +kernel
theorem dX11_courier_44 : decode cX11_courier 44 = .ok (.iload_n 1, 1) := by decide +kernel
theorem dX11_courier_45 : decode cX11_courier 45 = .ok (.iload_n 2, 1) := by decide +kernel
theorem dX11_courier_46 : decode cX11_courier 46 = .ok (.aload_n 0, 1) := by decide +kernel
theorem dX11_courier_47 : decode cX11_courier 47 = .ok (.getfield 33, 3) := by decide +kernel
theorem dX11_courier_50 : decode cX11_courier 50 = .ok (.invokevirtual 90, 3) := by decide +kernel
theorem dX11_courier_53 : decode cX11_courier 53 = .ok (.bipush 8, 2) := by decide +kernel
theorem dX11_courier_55 : decode cX11_courier 55 = .ok (.if_icmp .ge 7, 3) := by decide +kernel
theorem dX11_courier_58 : decode cX11_courier 58 = .ok (.iconst 1, 1) := by decide +kernel
theorem dX11_courier_59 : decode cX11_courier 59 = .ok (.goto 4, 3) := by decide +kernel
theorem dX11_courier_62 : decode cX11_courier 62 = .ok (.iconst 0, 1) := by decide +kernel
theorem dX11_courier_63 : decode cX11_courier 63 = .ok (.invokevirtual 91, 3) := by decide +kernel
theorem dX11_courier_66 : decode cX11_courier 66 = .ok (.istore_n 3, 1) := by decide +kernel
theorem dX11_courier_67 : decode cX11_courier 67 = .ok (.iload_n 3, 1) := by decide +kernel
theorem dX11_courier_68 : decode cX11_courier 68 = .ok (.ifCond .eq 9, 3) := by decide +kernel
theorem dX11_courier_71 : decode cX11_courier 71 = .ok (.aload_n 0, 1) := by decide +kernel
theorem dX11_courier_72 : decode cX11_courier 72 = .ok (.iload_n 3, 1) := by decide +kernel
theorem dX11_courier_73 : decode cX11_courier 73 = .ok (.invokevirtual 59, 3) := by decide +kernel
theorem dX11_courier_76 : decode cX11_courier 76 = .ok (.ireturn, 1) := by decide +kernel
theorem dX11_courier_77 : decode cX11_courier 77 = .ok (.aload_n 0, 1) := by decide +kernel
theorem dX11_courier_78 : decode cX11_courier 78 = .ok (.getfield 33, 3) := by decide +kernel
theorem dX11_courier_81 : decode cX11_courier 81 = .ok (.new 115, 3) := by decide +kernel
theorem dX11_courier_84 : decode cX11_courier 84 = .ok (.dup, 1) := by decide +kernel
theorem dX11_courier_85 : decode cX11_courier 85 = .ok (.aload_n 0, 1) := by decide +kernel
theorem dX11_courier_86 : decode cX11_courier 86 = .ok (.getfield 33, 3) := by decide +kernel
theorem dX11_courier_89 : decode cX11_courier 89 = .ok (.invokevirtual 90, 3) := by decide +kernel
theorem dX11_courier_92 : decode cX11_courier 92 = .ok (.aload_n 0, 1) := by decide +kernel
theorem dX11_courier_93 : decode cX11_courier 93 = .ok (.getfield 19, 3) := by decide +kernel
theorem dX11_courier_96 : decode cX11_courier 96 = .ok (.invokespecial 117, 3) := by decide +kernel
theorem dX11_courier_99 : decode cX11_courier 99 = .ok (.invokevirtual 98, 3) := by decide +kernel
theorem dX11_courier_102 : decode cX11_courier 102 = .ok (.pop, 1) := by decide +kernel
theorem dX11_courier_103 : decode cX11_courier 103 = .ok (.aload_n 0, 1) := by decide +kernel
theorem dX11_courier_104 : decode cX11_courier 104 = .ok (.aload_n 0, 1) := by decide +kernel
theorem dX11_courier_105 : decode cX11_courier 105 = .ok (.getfield 33, 3) := by decide +kernel
theorem dX11_courier_108 : decode cX11_courier 108 = .ok (.invokevirtual 90, 3) := by decide +kernel
theorem dX11_courier_111 : decode cX11_courier 111 = .ok (.iconst 1, 1) := by decide +kernel
theorem dX11_courier_112 : decode cX11_courier 112 = .ok (.isub, 1) := by decide +kernel
theorem dX11_courier_113 : decode cX11_courier 113 = .ok (.invokevirtual 71, 3) := by decide +kernel
theorem dX11_courier_116 : decode cX11_courier 116 = .ok (.ireturn, 1) := by decide +kernel
set_option maxRecDepth 20000 in
theorem ggX11_loan_X11_houseAt : GoodIn wsX11_loan wsX11_houseAt := goodIn_r _ [9, 10, 11, 12, 13, 14, 15, 16, 17, 18, 19, 20, 21, 22, 23, 24, 25, 26, 27, 28, 29, 30, 31, 32, 33, 34, 469, 470, 471, 472, 473, 474, 475, 476, 477, 478, 479, 480, 481, 482] (by decide +kernel) (by decide +kernel)
set_option maxRecDepth 20000 in
theorem gX11_loan_X11_houseAt : GoodIn wsX11_loan (wsV RX11 118 RX11 yX11_houseAt wsX11_houseAt) := goodIn_app (goodIn_of _ (by decide +kernel)) ggX11_loan_X11_houseAt
set_option maxRecDepth 20000 in
theorem ggX11_loan_X9_keep : GoodIn wsX11_loan wsX9_keep := goodIn_r _ [39, 40, 483, 484] (by decide +kernel) (by decide +kernel)
set_option maxRecDepth 20000 in
theorem gX11_loan_X9_keep : GoodIn wsX11_loan (wsV RX11 74 RX9 yX9_keep wsX9_keep) := goodIn_app (goodIn_of _ (by decide +kernel)) ggX11_loan_X9_keep
set_option maxRecDepth 20000 in
theorem ggX11_loan_X11_refuse : GoodIn wsX11_loan wsX11_refuse := goodIn_r _ [44, 45, 469, 470, 471, 472, 473, 474, 475, 476, 477, 478, 479] (by decide +kernel) (by decide +kernel)
set_option maxRecDepth 20000 in
theorem gX11_loan_X11_refuse : GoodIn wsX11_loan (wsV RX11 59 RX11 yX11_refuse wsX11_refuse) := goodIn_app (goodIn_of _ (by decide +kernel)) ggX11_loan_X11_refuse
set_option maxRecDepth 20000 in
theorem ggX11_loan_X7_begin : GoodIn wsX11_loan wsX7_begin := goodIn_r _ [50, 51, 52, 53, 54, 55, 56, 57, 58, 59, 60, 61, 62, 63, 64, 38, 65, 40, 66, 67, 68, 69, 70, 71, 72, 73, 74, 75, 76, 77, 78, 79, 80, 81, 82, 83, 84, 85, 86, 87, 88, 89, 90, 91, 92, 93, 94, 8, 95, 96, 97, 98, 99, 100, 101, 102, 103, 104, 105, 106, 107, 108, 109, 110, 111, 112, 113, 114, 115, 116, 117, 118, 119, 120, 121, 122, 123, 124, 125, 126, 127, 128, 27, 28, 29, 129, 130, 131, 132, 133, 134, 135, 136, 137, 138, 139, 140, 141, 142, 143, 144, 145, 485, 486, 487, 488, 489, 490, 491, 492, 493, 494, 483, 484, 495, 496, 497, 498] (by decide +kernel) (by decide +kernel)
set_option maxRecDepth 20000 in
theorem gX11_loan_X7_begin : GoodIn wsX11_loan (wsV RX11 77 RX7 yX7_begin wsX7_begin) := goodIn_app (goodIn_of _ (by decide +kernel)) ggX11_loan_X7_begin
set_option maxRecDepth 20000 in
theorem ggX11_loan_X7_readsLoan : GoodIn wsX11_loan wsX7_readsLoan := goodIn_r _ [149, 150, 151, 152, 49, 153, 51, 53, 154, 155, 156, 58, 157, 60, 88, 158, 159, 160, 161, 54, 162, 163, 164, 165, 87, 61, 166, 167, 168, 169, 89, 170, 171, 172, 173, 52, 174, 175, 176, 177, 178, 179, 180, 181, 182, 183, 184, 185, 186, 485, 486, 487, 488, 489, 490, 491, 492, 493, 494] (by decide +kernel) (by decide +kernel)
set_option maxRecDepth 20000 in
theorem gX11_loan_X7_readsLoan : GoodIn wsX11_loan (wsV RX11 122 RX7 yX7_readsLoan wsX7_readsLoan) := goodIn_app (goodIn_of _ (by decide +kernel)) ggX11_loan_X7_readsLoan
set_option maxRecDepth 20000 in
theorem ggX11_loan_Jx4a65c_size_8abf5 : GoodIn wsX11_loan wsJx4a65c_size_8abf5 := goodIn_r _ [16, 17, 480, 481, 482] (by decide +kernel) (by decide +kernel)
set_option maxRecDepth 20000 in
theorem gX11_loan_Jx4a65c_size_8abf5 : GoodIn wsX11_loan (wsV RX11 90 RJx4a65c yJx4a65c_size_8abf5 wsJx4a65c_size_8abf5) := goodIn_app (goodIn_of _ (by decide +kernel)) ggX11_loan_Jx4a65c_size_8abf5
set_option maxRecDepth 20000 in
theorem ggX11_loan_X11_faultInLoan : GoodIn wsX11_loan wsX11_faultInLoan := goodIn_r _ [190, 2, 191, 192, 193, 194, 195, 196, 197, 49, 198, 52, 174, 199, 200, 201, 8, 202, 203, 204, 205, 206, 207, 12, 13, 14, 15, 16, 17, 208, 209, 210, 211, 212, 18, 19, 20, 21, 22, 23, 24, 25, 26, 27, 28, 29, 30, 31, 32, 33, 34, 213, 214, 215, 216, 217, 218, 219, 220, 469, 470, 471, 472, 473, 474, 475, 476, 477, 478, 479, 499, 500, 501, 502, 503, 504, 505, 506, 507, 508, 509, 510, 511, 512, 485, 486, 487, 488, 489, 480, 481, 482, 513, 514] (by decide +kernel) (by decide +kernel)
set_option maxRecDepth 20000 in
theorem gX11_loan_X11_faultInLoan : GoodIn wsX11_loan (wsV RX11 125 RX11 yX11_faultInLoan wsX11_faultInLoan) := goodIn_app (goodIn_of _ (by decide +kernel)) ggX11_loan_X11_faultInLoan
set_option maxRecDepth 20000 in
theorem ggX11_loan_X11_draftLoan : GoodIn wsX11_loan wsX11_draftLoan := goodIn_r _ [224, 225, 226, 227, 2, 228, 229, 15, 212, 195, 196, 197, 49, 198, 52, 174, 230, 231, 232, 233, 234, 235, 236, 237, 238, 239, 240, 241, 242, 243, 244, 245, 34, 246, 247, 248, 249, 250, 251, 252, 253, 254, 255, 256, 204, 205, 206, 207, 208, 209, 210, 8, 211, 203, 12, 13, 14, 16, 17, 18, 19, 20, 21, 22, 23, 24, 25, 26, 27, 28, 29, 30, 31, 32, 33, 257, 258, 259, 193, 260, 261, 262, 263, 264, 265, 266, 267, 268, 269, 270, 271, 272, 273, 274, 275, 276, 277, 278, 279, 280, 281, 282, 283, 284, 285, 286, 287, 288, 289, 290, 291, 292, 293, 294, 295, 296, 297, 298, 299, 300, 301, 302, 303, 304, 305, 306, 307, 308, 309, 310, 311, 312, 313, 314, 315, 316, 317, 318, 319, 320, 321, 322, 323, 324, 325, 326, 327, 328, 329, 330, 331, 332, 333, 334, 335, 336, 337, 338, 339, 340, 341, 342, 343, 344, 345, 346, 347, 348, 349, 350, 351, 352, 353, 354, 355, 356, 357, 358, 359, 360, 361, 362, 363, 515, 516, 517, 518, 519, 469, 470, 471, 472, 473, 474, 475, 476, 477, 478, 479, 480, 481, 482, 485, 486, 487, 488, 489, 504, 505, 506, 507, 508, 509, 510, 511, 512, 499, 500, 501, 502, 503, 520, 521, 522, 523] (by decide +kernel) (by decide +kernel)
set_option maxRecDepth 20000 in
theorem gX11_loan_X11_draftLoan : GoodIn wsX11_loan (wsV RX11 129 RX11 yX11_draftLoan wsX11_draftLoan) := goodIn_app (goodIn_of _ (by decide +kernel)) ggX11_loan_X11_draftLoan
set_option maxRecDepth 20000 in
theorem ggX11_loan_X11_findCouriers : GoodIn wsX11_loan wsX11_findCouriers := goodIn_r _ [367, 368, 191, 369, 370, 371, 372, 373, 374, 227, 375, 240, 239, 376, 241, 12, 13, 14, 15, 16, 17, 377, 378, 379, 380, 381, 237, 317, 322, 323, 19, 20, 21, 22, 23, 24, 25, 26, 27, 28, 29, 30, 31, 32, 33, 34, 382, 383, 384, 385, 321, 386, 330, 331, 333, 334, 387, 388, 389, 338, 390, 391, 392, 393, 394, 395, 396, 397, 398, 399, 400, 401, 402, 403, 404, 405, 406, 407, 408, 360, 361, 409, 410, 411, 8, 412, 413, 414, 18, 415, 416, 417, 216, 418, 419, 213, 214, 215, 217, 218, 219, 220, 420, 421, 422, 423, 424, 425, 426, 427, 428, 283, 284, 285, 429, 430, 431, 432, 515, 516, 517, 518, 519, 499, 500, 501, 502, 503, 524, 525, 526, 480, 481, 482, 520, 521, 522, 523, 504, 505, 506, 507, 508, 509, 510, 511, 512, 527, 528, 529, 469, 470, 471, 472, 473, 474, 475, 476, 477, 478, 479, 513, 514] (by decide +kernel) (by decide +kernel)
set_option maxRecDepth 20000 in
theorem gX11_loan_X11_findCouriers : GoodIn wsX11_loan (wsV RX11 133 RX11 yX11_findCouriers wsX11_findCouriers) := goodIn_app (goodIn_of _ (by decide +kernel)) ggX11_loan_X11_findCouriers
set_option maxRecDepth 20000 in
theorem ggX11_loan_X11_refusalOfText : GoodIn wsX11_loan wsX11_refusalOfText := goodIn_r _ [436, 437, 469, 470, 471, 472, 473, 474, 475, 476, 477, 478, 479] (by decide +kernel) (by decide +kernel)
set_option maxRecDepth 20000 in
theorem gX11_loan_X11_refusalOfText : GoodIn wsX11_loan (wsV RX11 91 RX11 yX11_refusalOfText wsX11_refusalOfText) := goodIn_app (goodIn_of _ (by decide +kernel)) ggX11_loan_X11_refusalOfText
set_option maxRecDepth 20000 in
theorem ggX11_loan_X11_releaseCouriers : GoodIn wsX11_loan wsX11_releaseCouriers := goodIn_r _ [441, 413, 414, 370, 12, 13, 14, 15, 16, 17, 18, 19, 20, 21, 22, 23, 24, 25, 26, 27, 28, 29, 30, 31, 32, 33, 34, 442, 443, 444, 216, 445, 218, 419, 469, 470, 471, 472, 473, 474, 475, 476, 477, 478, 479, 524, 525, 526, 480, 481, 482, 513, 514] (by decide +kernel) (by decide +kernel)
set_option maxRecDepth 20000 in
theorem gX11_loan_X11_releaseCouriers : GoodIn wsX11_loan (wsV RX11 137 RX11 yX11_releaseCouriers wsX11_releaseCouriers) := goodIn_app (goodIn_of _ (by decide +kernel)) ggX11_loan_X11_releaseCouriers
set_option maxRecDepth 20000 in
theorem ggX11_loan_Jx4a65c_add_9ea2d : GoodIn wsX11_loan wsJx4a65c_add_9ea2d := goodIn_r _ [351, 264, 265, 34, 17, 352, 353, 354, 15, 355, 274, 275, 276, 277, 278, 279, 280, 281, 245, 282, 283, 284, 285, 286, 287, 288, 289, 290, 291, 292, 293, 294, 295, 296, 297, 298, 299, 300, 301, 302, 303, 304, 305, 306, 307, 308, 309, 310, 311, 312, 267, 268, 269, 480, 481, 482] (by decide +kernel) (by decide +kernel)
set_option maxRecDepth 20000 in
theorem gX11_loan_Jx4a65c_add_9ea2d : GoodIn wsX11_loan (wsV RX11 98 RJx4a65c yJx4a65c_add_9ea2d wsJx4a65c_add_9ea2d) := goodIn_app (goodIn_of _ (by decide +kernel)) ggX11_loan_Jx4a65c_add_9ea2d
set_option maxRecDepth 20000 in
theorem ggX11_loan_X11_takeThings : GoodIn wsX11_loan wsX11_takeThings := goodIn_r _ [450, 203, 212, 192, 451, 12, 13, 14, 15, 16, 17, 18, 19, 20, 21, 22, 23, 24, 25, 26, 27, 28, 29, 30, 31, 32, 33, 34, 452, 453, 454, 227, 455, 237, 317, 322, 323, 456, 457, 458, 321, 459, 330, 331, 460, 333, 334, 461, 462, 463, 464, 240, 239, 376, 241, 420, 421, 422, 216, 423, 419, 424, 425, 426, 427, 428, 283, 284, 285, 218, 469, 470, 471, 472, 473, 474, 475, 476, 477, 478, 479, 504, 505, 506, 507, 508, 509, 510, 511, 512, 515, 516, 517, 518, 519, 480, 481, 482, 520, 521, 522, 523, 499, 500, 501, 502, 503, 513, 514] (by decide +kernel) (by decide +kernel)
set_option maxRecDepth 20000 in
theorem gX11_loan_X11_takeThings : GoodIn wsX11_loan (wsV RX11 140 RX11 yX11_takeThings wsX11_takeThings) := goodIn_app (goodIn_of _ (by decide +kernel)) ggX11_loan_X11_takeThings
set_option maxRecDepth 20000 in
theorem ggX11_loan_X11_answer : GoodIn wsX11_loan wsX11_answer := goodIn_r _ [468, 45, 469, 470, 471, 472, 473, 474, 475, 476, 477, 478, 479] (by decide +kernel) (by decide +kernel)
set_option maxRecDepth 20000 in
theorem gX11_loan_X11_answer : GoodIn wsX11_loan (wsV RX11 71 RX11 yX11_answer wsX11_answer) := goodIn_app (goodIn_of _ (by decide +kernel)) ggX11_loan_X11_answer
theorem dX11_loan_0 : decode cX11_loan 0 = .ok (.aload_n 0, 1) := by decide +kernel
theorem dX11_loan_1 : decode cX11_loan 1 = .ok (.iload_n 1, 1) := by decide +kernel
theorem dX11_loan_2 : decode cX11_loan 2 = .ok (.invokevirtual 118, 3) := by decide +kernel
theorem dX11_loan_5 : decode cX11_loan 5 = .ok (.astore_n 2, 1) := by decide +kernel
theorem dX11_loan_6 : decode cX11_loan 6 = .ok (.aload_n 2, 1) := by decide +kernel
theorem dX11_loan_7 : decode cX11_loan 7 = .ok (.ifnonnull 17, 3) := by decide +kernel
theorem dX11_loan_10 : decode cX11_loan 10 = .ok (.aload_n 0, 1) := by decide +kernel
theorem dX11_loan_11 : decode cX11_loan 11 = .ok (.getfield 10, 3) := by decide +kernel
theorem dX11_loan_14 : decode cX11_loan 14 = .ok (.iconst 0, 1) := by decide +kernel
theorem dX11_loan_15 : decode cX11_loan 15 = .ok (.invokevirtual 74, 3) := by decide +kernel
theorem dX11_loan_18 : decode cX11_loan 18 = .ok (.aload_n 0, 1) := by decide +kernel
theorem dX11_loan_19 : decode cX11_loan 19 = .ok (.iconst 1, 1) := by decide +kernel
theorem dX11_loan_20 : decode cX11_loan 20 = .ok (.invokevirtual 59, 3) := by decide +kernel
theorem dX11_loan_23 : decode cX11_loan 23 = .ok (.ireturn, 1) := by decide +kernel
theorem dX11_loan_24 : decode cX11_loan 24 = .ok (.aload_n 0, 1) := by decide +kernel
theorem dX11_loan_25 : decode cX11_loan 25 = .ok (.getfield 19, 3) := by decide +kernel
theorem dX11_loan_28 : decode cX11_loan 28 = .ok (.aload_n 0, 1) := by decide +kernel
theorem dX11_loan_29 : decode cX11_loan 29 = .ok (.getfield 10, 3) := by decide +kernel
theorem dX11_loan_32 : decode cX11_loan 32 = .ok (.invokevirtual 77, 3) := by decide +kernel
theorem dX11_loan_35 : decode cX11_loan 35 = .ok (.aload_n 0, 1) := by decide +kernel
theorem dX11_loan_36 : decode cX11_loan 36 = .ok (.getfield 10, 3) := by decide +kernel
theorem dX11_loan_39 : decode cX11_loan 39 = .ok (.iconst 0, 1) := by decide +kernel
theorem dX11_loan_40 : decode cX11_loan 40 = .ok (.invokevirtual 74, 3) := by decide +kernel
theorem dX11_loan_43 : decode cX11_loan 43 = .ok (.aload_n 0, 1) := by decide +kernel
theorem dX11_loan_44 : decode cX11_loan 44 = .ok (.getfield 19, 3) := by decide +kernel
theorem dX11_loan_47 : decode cX11_loan 47 = .ok (.invokevirtual 122, 3) := by decide +kernel
theorem dX11_loan_50 : decode cX11_loan 50 = .ok (.istore_n 3, 1) := by decide +kernel
theorem dX11_loan_51 : decode cX11_loan 51 = .ok (.aload_n 0, 1) := by decide +kernel
theorem dX11_loan_52 : decode cX11_loan 52 = .ok (.getfield 36, 3) := by decide +kernel
theorem dX11_loan_55 : decode cX11_loan 55 = .ok (.invokevirtual 90, 3) := by decide +kernel
theorem dX11_loan_58 : decode cX11_loan 58 = .ok (.istore 4, 2) := by decide +kernel
theorem dX11_loan_60 : decode cX11_loan 60 = .ok (.iload_n 3, 1) := by decide +kernel
theorem dX11_loan_61 : decode cX11_loan 61 = .ok (.ifCond .eq 11, 3) := by decide +kernel
theorem dX11_loan_64 : decode cX11_loan 64 = .ok (.aload_n 0, 1) := by decide +kernel
theorem dX11_loan_65 : decode cX11_loan 65 = .ok (.aload_n 2, 1) := by decide +kernel
theorem dX11_loan_66 : decode cX11_loan 66 = .ok (.invokevirtual 125, 3) := by decide +kernel
theorem dX11_loan_69 : decode cX11_loan 69 = .ok (.goto 4, 3) := by decide +kernel
theorem dX11_loan_72 : decode cX11_loan 72 = .ok (.iconst 0, 1) := by decide +kernel
theorem dX11_loan_73 : decode cX11_loan 73 = .ok (.istore 5, 2) := by decide +kernel
theorem dX11_loan_75 : decode cX11_loan 75 = .ok (.aconst_null, 1) := by decide +kernel
theorem dX11_loan_76 : decode cX11_loan 76 = .ok (.astore 6, 2) := by decide +kernel
theorem dX11_loan_78 : decode cX11_loan 78 = .ok (.iload_n 3, 1) := by decide +kernel
theorem dX11_loan_79 : decode cX11_loan 79 = .ok (.ifCond .eq 59, 3) := by decide +kernel
theorem dX11_loan_82 : decode cX11_loan 82 = .ok (.iload 5, 2) := by decide +kernel
theorem dX11_loan_84 : decode cX11_loan 84 = .ok (.ifCond .ne 54, 3) := by decide +kernel
theorem dX11_loan_87 : decode cX11_loan 87 = .ok (.aload_n 0, 1) := by decide +kernel
theorem dX11_loan_88 : decode cX11_loan 88 = .ok (.aload_n 2, 1) := by decide +kernel
theorem dX11_loan_89 : decode cX11_loan 89 = .ok (.invokevirtual 129, 3) := by decide +kernel
theorem dX11_loan_92 : decode cX11_loan 92 = .ok (.astore 6, 2) := by decide +kernel
theorem dX11_loan_94 : decode cX11_loan 94 = .ok (.aload_n 0, 1) := by decide +kernel
theorem dX11_loan_95 : decode cX11_loan 95 = .ok (.aload 6, 2) := by decide +kernel
theorem dX11_loan_97 : decode cX11_loan 97 = .ok (.iload 4, 2) := by decide +kernel
theorem dX11_loan_99 : decode cX11_loan 99 = .ok (.iconst 0, 1) := by decide +kernel
theorem dX11_loan_100 : decode cX11_loan 100 = .ok (.invokevirtual 133, 3) := by decide +kernel
theorem dX11_loan_103 : decode cX11_loan 103 = .ok (.ifCond .eq 19, 3) := by decide +kernel
theorem dX11_loan_106 : decode cX11_loan 106 = .ok (.aload_n 0, 1) := by decide +kernel
theorem dX11_loan_107 : decode cX11_loan 107 = .ok (.aload 6, 2) := by decide +kernel
theorem dX11_loan_109 : decode cX11_loan 109 = .ok (.iload 4, 2) := by decide +kernel
theorem dX11_loan_111 : decode cX11_loan 111 = .ok (.iconst 1, 1) := by decide +kernel
theorem dX11_loan_112 : decode cX11_loan 112 = .ok (.invokevirtual 133, 3) := by decide +kernel
theorem dX11_loan_115 : decode cX11_loan 115 = .ok (.ifCond .eq 7, 3) := by decide +kernel
theorem dX11_loan_118 : decode cX11_loan 118 = .ok (.iconst 1, 1) := by decide +kernel
theorem dX11_loan_119 : decode cX11_loan 119 = .ok (.goto 4, 3) := by decide +kernel
theorem dX11_loan_122 : decode cX11_loan 122 = .ok (.iconst 0, 1) := by decide +kernel
theorem dX11_loan_123 : decode cX11_loan 123 = .ok (.istore 7, 2) := by decide +kernel
theorem dX11_loan_125 : decode cX11_loan 125 = .ok (.iload 7, 2) := by decide +kernel
theorem dX11_loan_127 : decode cX11_loan 127 = .ok (.ifCond .eq 7, 3) := by decide +kernel
theorem dX11_loan_130 : decode cX11_loan 130 = .ok (.iconst 0, 1) := by decide +kernel
theorem dX11_loan_131 : decode cX11_loan 131 = .ok (.goto 5, 3) := by decide +kernel
theorem dX11_loan_134 : decode cX11_loan 134 = .ok (.bipush 8, 2) := by decide +kernel
theorem dX11_loan_136 : decode cX11_loan 136 = .ok (.istore 5, 2) := by decide +kernel
theorem dX11_loan_138 : decode cX11_loan 138 = .ok (.aload_n 0, 1) := by decide +kernel
theorem dX11_loan_139 : decode cX11_loan 139 = .ok (.iload_n 3, 1) := by decide +kernel
theorem dX11_loan_140 : decode cX11_loan 140 = .ok (.iload 5, 2) := by decide +kernel
theorem dX11_loan_142 : decode cX11_loan 142 = .ok (.iload 4, 2) := by decide +kernel
theorem dX11_loan_144 : decode cX11_loan 144 = .ok (.bipush 16, 2) := by decide +kernel
theorem dX11_loan_146 : decode cX11_loan 146 = .ok (.if_icmp .ge 7, 3) := by decide +kernel
theorem dX11_loan_149 : decode cX11_loan 149 = .ok (.iconst 1, 1) := by decide +kernel
theorem dX11_loan_150 : decode cX11_loan 150 = .ok (.goto 4, 3) := by decide +kernel
theorem dX11_loan_153 : decode cX11_loan 153 = .ok (.iconst 0, 1) := by decide +kernel
theorem dX11_loan_154 : decode cX11_loan 154 = .ok (.invokevirtual 91, 3) := by decide +kernel
theorem dX11_loan_157 : decode cX11_loan 157 = .ok (.istore 7, 2) := by decide +kernel
theorem dX11_loan_159 : decode cX11_loan 159 = .ok (.iload 7, 2) := by decide +kernel
theorem dX11_loan_161 : decode cX11_loan 161 = .ok (.ifCond .ne 8, 3) := by decide +kernel
theorem dX11_loan_164 : decode cX11_loan 164 = .ok (.aload 6, 2) := by decide +kernel
theorem dX11_loan_166 : decode cX11_loan 166 = .ok (.ifnonnull 16, 3) := by decide +kernel
theorem dX11_loan_169 : decode cX11_loan 169 = .ok (.aload_n 0, 1) := by decide +kernel
theorem dX11_loan_170 : decode cX11_loan 170 = .ok (.iload 4, 2) := by decide +kernel
theorem dX11_loan_172 : decode cX11_loan 172 = .ok (.invokevirtual 137, 3) := by decide +kernel
theorem dX11_loan_175 : decode cX11_loan 175 = .ok (.aload_n 0, 1) := by decide +kernel
theorem dX11_loan_176 : decode cX11_loan 176 = .ok (.iload 7, 2) := by decide +kernel
theorem dX11_loan_178 : decode cX11_loan 178 = .ok (.invokevirtual 59, 3) := by decide +kernel
theorem dX11_loan_181 : decode cX11_loan 181 = .ok (.ireturn, 1) := by decide +kernel
theorem dX11_loan_182 : decode cX11_loan 182 = .ok (.aload_n 0, 1) := by decide +kernel
theorem dX11_loan_183 : decode cX11_loan 183 = .ok (.getfield 36, 3) := by decide +kernel
theorem dX11_loan_186 : decode cX11_loan 186 = .ok (.aload 6, 2) := by decide +kernel
theorem dX11_loan_188 : decode cX11_loan 188 = .ok (.invokevirtual 98, 3) := by decide +kernel
theorem dX11_loan_191 : decode cX11_loan 191 = .ok (.pop, 1) := by decide +kernel
theorem dX11_loan_192 : decode cX11_loan 192 = .ok (.aload_n 0, 1) := by decide +kernel
theorem dX11_loan_193 : decode cX11_loan 193 = .ok (.dup, 1) := by decide +kernel
theorem dX11_loan_194 : decode cX11_loan 194 = .ok (.getfield 39, 3) := by decide +kernel
theorem dX11_loan_197 : decode cX11_loan 197 = .ok (.iconst 1, 1) := by decide +kernel
theorem dX11_loan_198 : decode cX11_loan 198 = .ok (.iadd, 1) := by decide +kernel
theorem dX11_loan_199 : decode cX11_loan 199 = .ok (.putfield 39, 3) := by decide +kernel
theorem dX11_loan_202 : decode cX11_loan 202 = .ok (.aload_n 0, 1) := by decide +kernel
theorem dX11_loan_203 : decode cX11_loan 203 = .ok (.aload 6, 2) := by decide +kernel
theorem dX11_loan_205 : decode cX11_loan 205 = .ok (.iload 4, 2) := by decide +kernel
theorem dX11_loan_207 : decode cX11_loan 207 = .ok (.invokevirtual 140, 3) := by decide +kernel
theorem dX11_loan_210 : decode cX11_loan 210 = .ok (.aload_n 0, 1) := by decide +kernel
theorem dX11_loan_211 : decode cX11_loan 211 = .ok (.iload 4, 2) := by decide +kernel
theorem dX11_loan_213 : decode cX11_loan 213 = .ok (.invokevirtual 71, 3) := by decide +kernel
theorem dX11_loan_216 : decode cX11_loan 216 = .ok (.ireturn, 1) := by decide +kernel
set_option maxRecDepth 20000 in
theorem ggX11_report_X11_thingAt : GoodIn wsX11_report wsX11_thingAt := goodIn_r _ [11, 12, 13, 14, 15, 16, 17, 18, 19, 20, 21, 22, 23, 24, 25, 26, 27, 28, 29, 30, 31, 32, 33, 34, 35, 36, 524, 525, 526, 527, 528, 529, 530, 531, 532, 533, 534, 539, 540, 541] (by decide +kernel) (by decide +kernel)
set_option maxRecDepth 20000 in
theorem gX11_report_X11_thingAt : GoodIn wsX11_report (wsV RX11 144 RX11 yX11_thingAt wsX11_thingAt) := goodIn_app (goodIn_of _ (by decide +kernel)) ggX11_report_X11_thingAt
set_option maxRecDepth 20000 in
theorem ggX11_report_X11_isDay : GoodIn wsX11_report wsX11_isDay := goodIn_r _ [39] (by decide +kernel) (by decide +kernel)
set_option maxRecDepth 20000 in
theorem gX11_report_X11_isDay : GoodIn wsX11_report (va_wsS RX11 148 yX11_isDay wsX11_isDay) := goodIn_app (goodIn_of _ (by decide +kernel)) ggX11_report_X11_isDay
set_option maxRecDepth 20000 in
theorem ggX11_report_X9_keep : GoodIn wsX11_report wsX9_keep := goodIn_r _ [44, 45, 542, 543] (by decide +kernel) (by decide +kernel)
set_option maxRecDepth 20000 in
theorem gX11_report_X9_keep : GoodIn wsX11_report (wsV RX11 74 RX9 yX9_keep wsX9_keep) := goodIn_app (goodIn_of _ (by decide +kernel)) ggX11_report_X9_keep
set_option maxRecDepth 20000 in
theorem ggX11_report_X11_refuseAsked : GoodIn wsX11_report wsX11_refuseAsked := goodIn_r _ [49, 50, 51, 52, 10, 53, 54, 524, 525, 526, 527, 528, 529, 530, 531, 532, 533, 534] (by decide +kernel) (by decide +kernel)
set_option maxRecDepth 20000 in
theorem gX11_report_X11_refuseAsked : GoodIn wsX11_report (wsV RX11 152 RX11 yX11_refuseAsked wsX11_refuseAsked) := goodIn_app (goodIn_of _ (by decide +kernel)) ggX11_report_X11_refuseAsked
set_option maxRecDepth 20000 in
theorem ggX11_report_X7_begin : GoodIn wsX11_report wsX7_begin := goodIn_r _ [59, 60, 61, 62, 63, 64, 65, 66, 67, 68, 69, 70, 71, 72, 73, 43, 74, 45, 75, 76, 77, 78, 79, 80, 81, 82, 83, 84, 85, 86, 87, 88, 89, 90, 91, 92, 93, 94, 95, 96, 97, 98, 99, 100, 101, 102, 103, 10, 104, 105, 106, 107, 108, 109, 110, 111, 112, 113, 114, 115, 116, 117, 118, 119, 120, 121, 122, 123, 124, 125, 126, 127, 128, 129, 130, 131, 132, 133, 134, 135, 136, 137, 29, 30, 31, 138, 139, 140, 141, 142, 143, 144, 145, 146, 147, 148, 149, 150, 151, 152, 153, 154, 544, 545, 546, 547, 548, 549, 550, 551, 552, 553, 542, 543, 554, 555, 556, 557] (by decide +kernel) (by decide +kernel)
set_option maxRecDepth 20000 in
theorem gX11_report_X7_begin : GoodIn wsX11_report (wsV RX11 77 RX7 yX7_begin wsX7_begin) := goodIn_app (goodIn_of _ (by decide +kernel)) ggX11_report_X7_begin
set_option maxRecDepth 20000 in
theorem ggX11_report_X7_readsReport : GoodIn wsX11_report wsX7_readsReport := goodIn_r _ [158, 159, 160, 161, 58, 162, 60, 62, 163, 164, 165, 67, 166, 69, 97, 167, 168, 169, 170, 171, 172, 173, 174, 63, 175, 176, 177, 178, 96, 70, 179, 180, 181, 182, 183, 184, 185, 186, 187, 188, 189, 190, 61, 191, 192, 193, 194, 195, 196, 197, 198, 199, 98, 544, 545, 546, 547, 548, 549, 550, 551, 552, 553] (by decide +kernel) (by decide +kernel)
set_option maxRecDepth 20000 in
theorem gX11_report_X7_readsReport : GoodIn wsX11_report (wsV RX11 156 RX7 yX7_readsReport wsX7_readsReport) := goodIn_app (goodIn_of _ (by decide +kernel)) ggX11_report_X7_readsReport
set_option maxRecDepth 20000 in
theorem ggX11_report_X8_faultIn : GoodIn wsX11_report wsX8_faultIn := goodIn_r _ [202, 203, 204, 6, 205, 206, 207, 208, 209, 210, 211, 212, 58, 213, 61, 214, 215, 216, 217, 191, 218, 219, 220, 544, 545, 546, 547, 548] (by decide +kernel) (by decide +kernel)
set_option maxRecDepth 20000 in
theorem gX11_report_X8_faultIn : GoodIn wsX11_report (va_wsS RX11 159 yX8_faultIn wsX8_faultIn) := goodIn_app (goodIn_of _ (by decide +kernel)) ggX11_report_X8_faultIn
set_option maxRecDepth 20000 in
theorem ggX11_report_X10_reportOn : GoodIn wsX11_report wsX10_reportOn := goodIn_r _ [225, 226, 227, 228, 229, 224, 230, 231, 232, 233, 15, 16, 17, 18, 19, 234, 21, 22, 23, 24, 25, 26, 27, 28, 29, 30, 31, 32, 33, 34, 35, 36, 235, 236, 237, 238, 535, 536, 537, 538, 558, 559, 560, 561, 562, 563, 564, 565, 566, 539, 540, 541] (by decide +kernel) (by decide +kernel)
set_option maxRecDepth 20000 in
theorem gX11_report_X10_reportOn : GoodIn wsX11_report (wsV RX11 162 RX10 yX10_reportOn wsX10_reportOn) := goodIn_app (goodIn_of _ (by decide +kernel)) ggX11_report_X10_reportOn
set_option maxRecDepth 20000 in
theorem ggX11_report_X11_refusalOfText : GoodIn wsX11_report wsX11_refusalOfText := goodIn_r _ [242, 243, 524, 525, 526, 527, 528, 529, 530, 531, 532, 533, 534] (by decide +kernel) (by decide +kernel)
set_option maxRecDepth 20000 in
theorem gX11_report_X11_refusalOfText : GoodIn wsX11_report (wsV RX11 91 RX11 yX11_refusalOfText wsX11_refusalOfText) := goodIn_app (goodIn_of _ (by decide +kernel)) ggX11_report_X11_refusalOfText
set_option maxRecDepth 20000 in
theorem ggX11_report_X11_refuse : GoodIn wsX11_report wsX11_refuse := goodIn_r _ [53, 54, 524, 525, 526, 527, 528, 529, 530, 531, 532, 533, 534] (by decide +kernel) (by decide +kernel)
set_option maxRecDepth 20000 in
theorem gX11_report_X11_refuse : GoodIn wsX11_report (wsV RX11 59 RX11 yX11_refuse wsX11_refuse) := goodIn_app (goodIn_of _ (by decide +kernel)) ggX11_report_X11_refuse
set_option maxRecDepth 20000 in
theorem ggX11_report_X8_init : GoodIn wsX11_report wsX8_init := goodIn_r _ [246, 247, 248, 249, 250, 251, 252, 253, 254, 203, 204, 6, 205, 206, 207, 208, 209, 210, 211, 212, 58, 213, 61, 218, 219, 220, 214, 215, 216, 217, 191, 255, 256, 257, 258, 259, 260, 103, 10, 104, 261, 262, 263, 264, 265, 266, 267, 268, 269, 270, 271, 272, 273, 274, 140, 275, 276, 277, 278, 279, 280, 281, 282, 283, 284, 285, 286, 287, 288, 289, 290, 291, 292, 293, 294, 295, 296, 297, 298, 299, 300, 301, 302, 303, 304, 305, 306, 307, 308, 309, 310, 311, 312, 313, 314, 315, 316, 317, 318, 319, 320, 321, 322, 323, 324, 325, 326, 327, 328, 329, 330, 331, 332, 333, 334, 335, 336, 337, 338, 339, 152, 340, 341, 342, 145, 146, 147, 343, 344, 112, 345, 136, 346, 347, 30, 348, 349, 350, 351, 153, 154, 352, 110, 111, 113, 114, 115, 116, 117, 118, 119, 120, 353, 354, 355, 356, 357, 358, 359, 360, 361, 362, 363, 364, 365, 366, 367, 368, 369, 370, 131, 371, 372, 373, 374, 375, 376, 377, 378, 379, 380, 381, 382, 383, 384, 385, 386, 387, 388, 389, 390, 391, 392, 393, 394, 395, 396, 397, 398, 399, 400, 401, 402, 403, 142, 143, 144, 148, 134, 135, 137, 29, 31, 404, 405, 406, 407, 408, 409, 410, 411, 412, 413, 414, 415, 416, 417, 418, 419, 420, 421, 422, 423, 424, 425, 426, 427, 428, 429, 430, 431, 432, 433, 434, 435, 436, 437, 438, 439, 440, 441, 442, 443, 444, 445, 446, 447, 448, 449, 450, 451, 452, 453, 454, 455, 456, 457, 458, 459, 460, 461, 462, 463, 464, 465, 466, 467, 468, 469, 470, 471, 472, 149, 150, 151, 473, 474, 475, 476, 535, 536, 537, 538, 544, 545, 546, 547, 548, 567, 568, 569, 570, 554, 555, 556, 557] (by decide +kernel) (by decide +kernel)
set_option maxRecDepth 20000 in
theorem gX11_report_X8_init : GoodIn wsX11_report (wsX8_init) := ggX11_report_X8_init
set_option maxRecDepth 20000 in
theorem ggX11_report_X10_addReport : GoodIn wsX11_report wsX10_addReport := goodIn_r _ [480, 231, 226, 227, 228, 229, 224, 230, 232, 233, 15, 16, 17, 18, 19, 234, 21, 22, 23, 24, 25, 26, 27, 28, 29, 30, 31, 32, 33, 34, 35, 36, 481, 482, 483, 484, 485, 486, 487, 329, 330, 331, 488, 489, 490, 491, 492, 493, 494, 495, 496, 497, 498, 499, 500, 501, 207, 208, 209, 502, 503, 307, 308, 309, 310, 311, 312, 313, 314, 504, 505, 317, 506, 507, 508, 509, 510, 511, 512, 513, 514, 515, 325, 326, 327, 328, 558, 559, 560, 561, 562, 563, 564, 565, 566, 535, 536, 537, 538, 539, 540, 541] (by decide +kernel) (by decide +kernel)
set_option maxRecDepth 20000 in
theorem gX11_report_X10_addReport : GoodIn wsX11_report (wsV RX11 167 RX10 yX10_addReport wsX10_addReport) := goodIn_app (goodIn_of _ (by decide +kernel)) ggX11_report_X10_addReport
set_option maxRecDepth 20000 in
theorem ggX11_report_X10_reportsTold : GoodIn wsX11_report wsX10_reportsTold := goodIn_r _ [519, 231, 233, 15, 16, 17, 18, 19, 558, 559, 560, 561, 562, 563, 564, 565, 566, 539, 540, 541] (by decide +kernel) (by decide +kernel)
set_option maxRecDepth 20000 in
theorem gX11_report_X10_reportsTold : GoodIn wsX11_report (wsV RX11 171 RX10 yX10_reportsTold wsX10_reportsTold) := goodIn_app (goodIn_of _ (by decide +kernel)) ggX11_report_X10_reportsTold
set_option maxRecDepth 20000 in
theorem ggX11_report_X11_answer : GoodIn wsX11_report wsX11_answer := goodIn_r _ [523, 54, 524, 525, 526, 527, 528, 529, 530, 531, 532, 533, 534] (by decide +kernel) (by decide +kernel)
set_option maxRecDepth 20000 in
theorem gX11_report_X11_answer : GoodIn wsX11_report (wsV RX11 71 RX11 yX11_answer wsX11_answer) := goodIn_app (goodIn_of _ (by decide +kernel)) ggX11_report_X11_answer
theorem dX11_report_0 : decode cX11_report 0 = .ok (.aload_n 0, 1) := by decide +kernel
theorem dX11_report_1 : decode cX11_report 1 = .ok (.iload_n 1, 1) := by decide +kernel
theorem dX11_report_2 : decode cX11_report 2 = .ok (.invokevirtual 144, 3) := by decide +kernel
theorem dX11_report_5 : decode cX11_report 5 = .ok (.astore_n 3, 1) := by decide +kernel
theorem dX11_report_6 : decode cX11_report 6 = .ok (.aload_n 3, 1) := by decide +kernel
theorem dX11_report_7 : decode cX11_report 7 = .ok (.ifnull 10, 3) := by decide +kernel
theorem dX11_report_10 : decode cX11_report 10 = .ok (.iload_n 2, 1) := by decide +kernel
theorem dX11_report_11 : decode cX11_report 11 = .ok (.invokestatic 148, 3) := by decide +kernel
theorem dX11_report_14 : decode cX11_report 14 = .ok (.ifCond .ne 25, 3) := by decide +kernel
theorem dX11_report_17 : decode cX11_report 17 = .ok (.aload_n 0, 1) := by decide +kernel
theorem dX11_report_18 : decode cX11_report 18 = .ok (.getfield 10, 3) := by decide +kernel
theorem dX11_report_21 : decode cX11_report 21 = .ok (.iconst 0, 1) := by decide +kernel
theorem dX11_report_22 : decode cX11_report 22 = .ok (.invokevirtual 74, 3) := by decide +kernel
theorem dX11_report_25 : decode cX11_report 25 = .ok (.aload_n 0, 1) := by decide +kernel
theorem dX11_report_26 : decode cX11_report 26 = .ok (.aload_n 3, 1) := by decide +kernel
theorem dX11_report_27 : decode cX11_report 27 = .ok (.ifnull 7, 3) := by decide +kernel
theorem dX11_report_30 : decode cX11_report 30 = .ok (.iconst 1, 1) := by decide +kernel
theorem dX11_report_31 : decode cX11_report 31 = .ok (.goto 4, 3) := by decide +kernel
theorem dX11_report_34 : decode cX11_report 34 = .ok (.iconst 0, 1) := by decide +kernel
theorem dX11_report_35 : decode cX11_report 35 = .ok (.invokevirtual 152, 3) := by decide +kernel
theorem dX11_report_38 : decode cX11_report 38 = .ok (.ireturn, 1) := by decide +kernel
theorem dX11_report_39 : decode cX11_report 39 = .ok (.aload_n 0, 1) := by decide +kernel
theorem dX11_report_40 : decode cX11_report 40 = .ok (.getfield 19, 3) := by decide +kernel
theorem dX11_report_43 : decode cX11_report 43 = .ok (.aload_n 0, 1) := by decide +kernel
theorem dX11_report_44 : decode cX11_report 44 = .ok (.getfield 10, 3) := by decide +kernel
theorem dX11_report_47 : decode cX11_report 47 = .ok (.invokevirtual 77, 3) := by decide +kernel
theorem dX11_report_50 : decode cX11_report 50 = .ok (.aload_n 0, 1) := by decide +kernel
theorem dX11_report_51 : decode cX11_report 51 = .ok (.getfield 10, 3) := by decide +kernel
theorem dX11_report_54 : decode cX11_report 54 = .ok (.iconst 0, 1) := by decide +kernel
theorem dX11_report_55 : decode cX11_report 55 = .ok (.invokevirtual 74, 3) := by decide +kernel
theorem dX11_report_58 : decode cX11_report 58 = .ok (.aload_n 0, 1) := by decide +kernel
theorem dX11_report_59 : decode cX11_report 59 = .ok (.getfield 19, 3) := by decide +kernel
theorem dX11_report_62 : decode cX11_report 62 = .ok (.invokevirtual 156, 3) := by decide +kernel
theorem dX11_report_65 : decode cX11_report 65 = .ok (.istore 4, 2) := by decide +kernel
theorem dX11_report_67 : decode cX11_report 67 = .ok (.iload 4, 2) := by decide +kernel
theorem dX11_report_69 : decode cX11_report 69 = .ok (.ifCond .eq 13, 3) := by decide +kernel
theorem dX11_report_72 : decode cX11_report 72 = .ok (.aload_n 0, 1) := by decide +kernel
theorem dX11_report_73 : decode cX11_report 73 = .ok (.getfield 19, 3) := by decide +kernel
theorem dX11_report_76 : decode cX11_report 76 = .ok (.invokestatic 159, 3) := by decide +kernel
theorem dX11_report_79 : decode cX11_report 79 = .ok (.goto 4, 3) := by decide +kernel
theorem dX11_report_82 : decode cX11_report 82 = .ok (.iconst 0, 1) := by decide +kernel
theorem dX11_report_83 : decode cX11_report 83 = .ok (.istore 5, 2) := by decide +kernel
theorem dX11_report_85 : decode cX11_report 85 = .ok (.iload 4, 2) := by decide +kernel
theorem dX11_report_87 : decode cX11_report 87 = .ok (.ifCond .eq 20, 3) := by decide +kernel
theorem dX11_report_90 : decode cX11_report 90 = .ok (.iload 5, 2) := by decide +kernel
theorem dX11_report_92 : decode cX11_report 92 = .ok (.ifCond .ne 15, 3) := by decide +kernel
theorem dX11_report_95 : decode cX11_report 95 = .ok (.aload_n 3, 1) := by decide +kernel
theorem dX11_report_96 : decode cX11_report 96 = .ok (.iload_n 2, 1) := by decide +kernel
theorem dX11_report_97 : decode cX11_report 97 = .ok (.invokevirtual 162, 3) := by decide +kernel
theorem dX11_report_100 : decode cX11_report 100 = .ok (.ifnull 7, 3) := by decide +kernel
theorem dX11_report_103 : decode cX11_report 103 = .ok (.bipush 11, 2) := by decide +kernel
theorem dX11_report_105 : decode cX11_report 105 = .ok (.istore 5, 2) := by decide +kernel
theorem dX11_report_107 : decode cX11_report 107 = .ok (.aload_n 0, 1) := by decide +kernel
theorem dX11_report_108 : decode cX11_report 108 = .ok (.iload 4, 2) := by decide +kernel
theorem dX11_report_110 : decode cX11_report 110 = .ok (.iload 5, 2) := by decide +kernel
theorem dX11_report_112 : decode cX11_report 112 = .ok (.aload_n 0, 1) := by decide +kernel
theorem dX11_report_113 : decode cX11_report 113 = .ok (.getfield 43, 3) := by decide +kernel
theorem dX11_report_116 : decode cX11_report 116 = .ok (.bipush 48, 2) := by decide +kernel
theorem dX11_report_118 : decode cX11_report 118 = .ok (.if_icmp .ge 7, 3) := by decide +kernel
theorem dX11_report_121 : decode cX11_report 121 = .ok (.iconst 1, 1) := by decide +kernel
theorem dX11_report_122 : decode cX11_report 122 = .ok (.goto 4, 3) := by decide +kernel
theorem dX11_report_125 : decode cX11_report 125 = .ok (.iconst 0, 1) := by decide +kernel
theorem dX11_report_126 : decode cX11_report 126 = .ok (.invokevirtual 91, 3) := by decide +kernel
theorem dX11_report_129 : decode cX11_report 129 = .ok (.istore 6, 2) := by decide +kernel
theorem dX11_report_131 : decode cX11_report 131 = .ok (.iload 6, 2) := by decide +kernel
theorem dX11_report_133 : decode cX11_report 133 = .ok (.ifCond .eq 10, 3) := by decide +kernel
theorem dX11_report_136 : decode cX11_report 136 = .ok (.aload_n 0, 1) := by decide +kernel
theorem dX11_report_137 : decode cX11_report 137 = .ok (.iload 6, 2) := by decide +kernel
theorem dX11_report_139 : decode cX11_report 139 = .ok (.invokevirtual 59, 3) := by decide +kernel
theorem dX11_report_142 : decode cX11_report 142 = .ok (.ireturn, 1) := by decide +kernel
theorem dX11_report_143 : decode cX11_report 143 = .ok (.aload_n 3, 1) := by decide +kernel
theorem dX11_report_144 : decode cX11_report 144 = .ok (.new 160, 3) := by decide +kernel
theorem dX11_report_147 : decode cX11_report 147 = .ok (.dup, 1) := by decide +kernel
theorem dX11_report_148 : decode cX11_report 148 = .ok (.iload_n 2, 1) := by decide +kernel
theorem dX11_report_149 : decode cX11_report 149 = .ok (.aload_n 0, 1) := by decide +kernel
theorem dX11_report_150 : decode cX11_report 150 = .ok (.getfield 19, 3) := by decide +kernel
theorem dX11_report_153 : decode cX11_report 153 = .ok (.invokespecial 166, 3) := by decide +kernel
theorem dX11_report_156 : decode cX11_report 156 = .ok (.invokevirtual 167, 3) := by decide +kernel
theorem dX11_report_159 : decode cX11_report 159 = .ok (.aload_n 0, 1) := by decide +kernel
theorem dX11_report_160 : decode cX11_report 160 = .ok (.dup, 1) := by decide +kernel
theorem dX11_report_161 : decode cX11_report 161 = .ok (.getfield 43, 3) := by decide +kernel
theorem dX11_report_164 : decode cX11_report 164 = .ok (.iconst 1, 1) := by decide +kernel
theorem dX11_report_165 : decode cX11_report 165 = .ok (.iadd, 1) := by decide +kernel
theorem dX11_report_166 : decode cX11_report 166 = .ok (.putfield 43, 3) := by decide +kernel
theorem dX11_report_169 : decode cX11_report 169 = .ok (.aload_n 0, 1) := by decide +kernel
theorem dX11_report_170 : decode cX11_report 170 = .ok (.aload_n 3, 1) := by decide +kernel
theorem dX11_report_171 : decode cX11_report 171 = .ok (.invokevirtual 171, 3) := by decide +kernel
theorem dX11_report_174 : decode cX11_report 174 = .ok (.invokevirtual 71, 3) := by decide +kernel
theorem dX11_report_177 : decode cX11_report 177 = .ok (.ireturn, 1) := by decide +kernel
set_option maxRecDepth 20000 in
theorem ggX11_appraise_X11_thingAt : GoodIn wsX11_appraise wsX11_thingAt := goodIn_r _ [7, 8, 9, 10, 11, 12, 13, 14, 15, 16, 17, 18, 19, 20, 21, 22, 23, 24, 25, 26, 27, 28, 29, 30, 31, 32, 90, 91, 92, 93, 94, 95, 96, 97, 98, 99, 100, 101, 102, 103] (by decide +kernel) (by decide +kernel)
set_option maxRecDepth 20000 in
theorem gX11_appraise_X11_thingAt : GoodIn wsX11_appraise (wsV RX11 144 RX11 yX11_thingAt wsX11_thingAt) := goodIn_app (goodIn_of _ (by decide +kernel)) ggX11_appraise_X11_thingAt
set_option maxRecDepth 20000 in
theorem ggX11_appraise_X11_isDay : GoodIn wsX11_appraise wsX11_isDay := goodIn_r _ [35] (by decide +kernel) (by decide +kernel)
set_option maxRecDepth 20000 in
theorem gX11_appraise_X11_isDay : GoodIn wsX11_appraise (va_wsS RX11 148 yX11_isDay wsX11_isDay) := goodIn_app (goodIn_of _ (by decide +kernel)) ggX11_appraise_X11_isDay
set_option maxRecDepth 20000 in
theorem ggX11_appraise_X11_refuseAsked : GoodIn wsX11_appraise wsX11_refuseAsked := goodIn_r _ [39, 40, 41, 42, 6, 43, 44, 90, 91, 92, 93, 94, 95, 96, 97, 98, 99, 100] (by decide +kernel) (by decide +kernel)
set_option maxRecDepth 20000 in
theorem gX11_appraise_X11_refuseAsked : GoodIn wsX11_appraise (wsV RX11 152 RX11 yX11_refuseAsked wsX11_refuseAsked) := goodIn_app (goodIn_of _ (by decide +kernel)) ggX11_appraise_X11_refuseAsked
set_option maxRecDepth 20000 in
theorem ggX11_appraise_X0_tells : GoodIn wsX11_appraise wsX0_tells := goodIn_r _ [49, 50, 51, 52, 53, 54, 48, 55, 104, 105, 106] (by decide +kernel) (by decide +kernel)
set_option maxRecDepth 20000 in
theorem gX11_appraise_X0_tells : GoodIn wsX11_appraise (wsV RX11 177 RX0 yX0_tells wsX0_tells) := goodIn_app (goodIn_of _ (by decide +kernel)) ggX11_appraise_X0_tells
set_option maxRecDepth 20000 in
theorem ggX11_appraise_X11_refuse : GoodIn wsX11_appraise wsX11_refuse := goodIn_r _ [43, 44, 90, 91, 92, 93, 94, 95, 96, 97, 98, 99, 100] (by decide +kernel) (by decide +kernel)
set_option maxRecDepth 20000 in
theorem gX11_appraise_X11_refuse : GoodIn wsX11_appraise (wsV RX11 59 RX11 yX11_refuse wsX11_refuse) := goodIn_app (goodIn_of _ (by decide +kernel)) ggX11_appraise_X11_refuse
set_option maxRecDepth 20000 in
theorem ggX11_appraise_X10_valueOn : GoodIn wsX11_appraise wsX10_valueOn := goodIn_r _ [60, 61, 62, 63, 64, 65, 48, 66, 50, 67, 52, 53, 54, 55, 51, 81, 82, 83, 84, 85, 86, 87, 88, 89, 104, 105, 106] (by decide +kernel) (by decide +kernel)
set_option maxRecDepth 20000 in
theorem gX11_appraise_X10_valueOn : GoodIn wsX11_appraise (wsV RX11 182 RX10 yX10_valueOn wsX10_valueOn) := goodIn_app (goodIn_of _ (by decide +kernel)) ggX11_appraise_X10_valueOn
set_option maxRecDepth 20000 in
theorem ggX11_appraise_X0_tell : GoodIn wsX11_appraise wsX0_tell := goodIn_r _ [71, 50, 67, 72, 46, 47, 48, 49, 51, 52, 53, 54, 55, 73, 74, 75, 76, 104, 105, 106] (by decide +kernel) (by decide +kernel)
set_option maxRecDepth 20000 in
theorem gX11_appraise_X0_tell : GoodIn wsX11_appraise (wsV RX11 185 RX0 yX0_tell wsX0_tell) := goodIn_app (goodIn_of _ (by decide +kernel)) ggX11_appraise_X0_tell
set_option maxRecDepth 20000 in
theorem ggX11_appraise_X11_answer : GoodIn wsX11_appraise wsX11_answer := goodIn_r _ [80, 44, 90, 91, 92, 93, 94, 95, 96, 97, 98, 99, 100] (by decide +kernel) (by decide +kernel)
set_option maxRecDepth 20000 in
theorem gX11_appraise_X11_answer : GoodIn wsX11_appraise (wsV RX11 71 RX11 yX11_answer wsX11_answer) := goodIn_app (goodIn_of _ (by decide +kernel)) ggX11_appraise_X11_answer
theorem dX11_appraise_0 : decode cX11_appraise 0 = .ok (.aload_n 0, 1) := by decide +kernel
theorem dX11_appraise_1 : decode cX11_appraise 1 = .ok (.iload_n 1, 1) := by decide +kernel
theorem dX11_appraise_2 : decode cX11_appraise 2 = .ok (.invokevirtual 144, 3) := by decide +kernel
theorem dX11_appraise_5 : decode cX11_appraise 5 = .ok (.astore 4, 2) := by decide +kernel
theorem dX11_appraise_7 : decode cX11_appraise 7 = .ok (.aload 4, 2) := by decide +kernel
theorem dX11_appraise_9 : decode cX11_appraise 9 = .ok (.ifnull 22, 3) := by decide +kernel
theorem dX11_appraise_12 : decode cX11_appraise 12 = .ok (.iload_n 2, 1) := by decide +kernel
theorem dX11_appraise_13 : decode cX11_appraise 13 = .ok (.invokestatic 148, 3) := by decide +kernel
theorem dX11_appraise_16 : decode cX11_appraise 16 = .ok (.ifCond .eq 15, 3) := by decide +kernel
theorem dX11_appraise_19 : decode cX11_appraise 19 = .ok (.iload_n 3, 1) := by decide +kernel
theorem dX11_appraise_20 : decode cX11_appraise 20 = .ok (.iconst 1, 1) := by decide +kernel
theorem dX11_appraise_21 : decode cX11_appraise 21 = .ok (.if_icmp .lt 10, 3) := by decide +kernel
theorem dX11_appraise_24 : decode cX11_appraise 24 = .ok (.iload_n 3, 1) := by decide +kernel
theorem dX11_appraise_25 : decode cX11_appraise 25 = .ok (.sipush 9999, 3) := by decide +kernel
theorem dX11_appraise_28 : decode cX11_appraise 28 = .ok (.if_icmp .le 18, 3) := by decide +kernel
theorem dX11_appraise_31 : decode cX11_appraise 31 = .ok (.aload_n 0, 1) := by decide +kernel
theorem dX11_appraise_32 : decode cX11_appraise 32 = .ok (.aload 4, 2) := by decide +kernel
theorem dX11_appraise_34 : decode cX11_appraise 34 = .ok (.ifnull 7, 3) := by decide +kernel
theorem dX11_appraise_37 : decode cX11_appraise 37 = .ok (.iconst 1, 1) := by decide +kernel
theorem dX11_appraise_38 : decode cX11_appraise 38 = .ok (.goto 4, 3) := by decide +kernel
theorem dX11_appraise_41 : decode cX11_appraise 41 = .ok (.iconst 0, 1) := by decide +kernel
theorem dX11_appraise_42 : decode cX11_appraise 42 = .ok (.invokevirtual 152, 3) := by decide +kernel
theorem dX11_appraise_45 : decode cX11_appraise 45 = .ok (.ireturn, 1) := by decide +kernel
theorem dX11_appraise_46 : decode cX11_appraise 46 = .ok (.aload 4, 2) := by decide +kernel
theorem dX11_appraise_48 : decode cX11_appraise 48 = .ok (.getfield 174, 3) := by decide +kernel
theorem dX11_appraise_51 : decode cX11_appraise 51 = .ok (.iload_n 2, 1) := by decide +kernel
theorem dX11_appraise_52 : decode cX11_appraise 52 = .ok (.invokevirtual 177, 3) := by decide +kernel
theorem dX11_appraise_55 : decode cX11_appraise 55 = .ok (.ifCond .ne 7, 3) := by decide +kernel
theorem dX11_appraise_58 : decode cX11_appraise 58 = .ok (.iconst 1, 1) := by decide +kernel
theorem dX11_appraise_59 : decode cX11_appraise 59 = .ok (.goto 4, 3) := by decide +kernel
theorem dX11_appraise_62 : decode cX11_appraise 62 = .ok (.iconst 0, 1) := by decide +kernel
theorem dX11_appraise_63 : decode cX11_appraise 63 = .ok (.istore 5, 2) := by decide +kernel
theorem dX11_appraise_65 : decode cX11_appraise 65 = .ok (.iload 5, 2) := by decide +kernel
theorem dX11_appraise_67 : decode cX11_appraise 67 = .ok (.ifCond .eq 19, 3) := by decide +kernel
theorem dX11_appraise_70 : decode cX11_appraise 70 = .ok (.aload_n 0, 1) := by decide +kernel
theorem dX11_appraise_71 : decode cX11_appraise 71 = .ok (.getfield 46, 3) := by decide +kernel
theorem dX11_appraise_74 : decode cX11_appraise 74 = .ok (.bipush 48, 2) := by decide +kernel
theorem dX11_appraise_76 : decode cX11_appraise 76 = .ok (.if_icmp .lt 10, 3) := by decide +kernel
theorem dX11_appraise_79 : decode cX11_appraise 79 = .ok (.aload_n 0, 1) := by decide +kernel
theorem dX11_appraise_80 : decode cX11_appraise 80 = .ok (.bipush 9, 2) := by decide +kernel
theorem dX11_appraise_82 : decode cX11_appraise 82 = .ok (.invokevirtual 59, 3) := by decide +kernel
theorem dX11_appraise_85 : decode cX11_appraise 85 = .ok (.ireturn, 1) := by decide +kernel
theorem dX11_appraise_86 : decode cX11_appraise 86 = .ok (.aload 4, 2) := by decide +kernel
theorem dX11_appraise_88 : decode cX11_appraise 88 = .ok (.iload_n 2, 1) := by decide +kernel
theorem dX11_appraise_89 : decode cX11_appraise 89 = .ok (.invokevirtual 182, 3) := by decide +kernel
theorem dX11_appraise_92 : decode cX11_appraise 92 = .ok (.istore 6, 2) := by decide +kernel
theorem dX11_appraise_94 : decode cX11_appraise 94 = .ok (.aload 4, 2) := by decide +kernel
theorem dX11_appraise_96 : decode cX11_appraise 96 = .ok (.getfield 174, 3) := by decide +kernel
theorem dX11_appraise_99 : decode cX11_appraise 99 = .ok (.iload_n 2, 1) := by decide +kernel
theorem dX11_appraise_100 : decode cX11_appraise 100 = .ok (.iload_n 3, 1) := by decide +kernel
theorem dX11_appraise_101 : decode cX11_appraise 101 = .ok (.invokevirtual 185, 3) := by decide +kernel
theorem dX11_appraise_104 : decode cX11_appraise 104 = .ok (.iload 5, 2) := by decide +kernel
theorem dX11_appraise_106 : decode cX11_appraise 106 = .ok (.ifCond .eq 13, 3) := by decide +kernel
theorem dX11_appraise_109 : decode cX11_appraise 109 = .ok (.aload_n 0, 1) := by decide +kernel
theorem dX11_appraise_110 : decode cX11_appraise 110 = .ok (.dup, 1) := by decide +kernel
theorem dX11_appraise_111 : decode cX11_appraise 111 = .ok (.getfield 46, 3) := by decide +kernel
theorem dX11_appraise_114 : decode cX11_appraise 114 = .ok (.iconst 1, 1) := by decide +kernel
theorem dX11_appraise_115 : decode cX11_appraise 115 = .ok (.iadd, 1) := by decide +kernel
theorem dX11_appraise_116 : decode cX11_appraise 116 = .ok (.putfield 46, 3) := by decide +kernel
theorem dX11_appraise_119 : decode cX11_appraise 119 = .ok (.aload_n 0, 1) := by decide +kernel
theorem dX11_appraise_120 : decode cX11_appraise 120 = .ok (.iload 6, 2) := by decide +kernel
theorem dX11_appraise_122 : decode cX11_appraise 122 = .ok (.invokevirtual 71, 3) := by decide +kernel
theorem dX11_appraise_125 : decode cX11_appraise 125 = .ok (.ireturn, 1) := by decide +kernel
set_option maxRecDepth 20000 in
theorem ggX11_cancel_X11_standingLoanAt : GoodIn wsX11_cancel wsX11_standingLoanAt := goodIn_r _ [7, 8, 9, 1, 10, 11, 12, 13, 14, 15, 16, 17, 18, 19, 20, 21, 22, 23, 24, 25, 26, 27, 28, 29, 30, 31, 32, 68, 69, 70, 71, 72, 73, 74, 75, 76, 77, 78, 63, 64, 65, 66, 67, 79, 80, 81] (by decide +kernel) (by decide +kernel)
set_option maxRecDepth 20000 in
theorem gX11_cancel_X11_standingLoanAt : GoodIn wsX11_cancel (wsV RX11 189 RX11 yX11_standingLoanAt wsX11_standingLoanAt) := goodIn_app (goodIn_of _ (by decide +kernel)) ggX11_cancel_X11_standingLoanAt
set_option maxRecDepth 20000 in
theorem ggX11_cancel_X11_refuse : GoodIn wsX11_cancel wsX11_refuse := goodIn_r _ [36, 37, 68, 69, 70, 71, 72, 73, 74, 75, 76, 77, 78] (by decide +kernel) (by decide +kernel)
set_option maxRecDepth 20000 in
theorem gX11_cancel_X11_refuse : GoodIn wsX11_cancel (wsV RX11 59 RX11 yX11_refuse wsX11_refuse) := goodIn_app (goodIn_of _ (by decide +kernel)) ggX11_cancel_X11_refuse
set_option maxRecDepth 20000 in
theorem ggX11_cancel_X11_releaseThings : GoodIn wsX11_cancel wsX11_releaseThings := goodIn_r _ [41, 42, 43, 44, 10, 11, 12, 13, 14, 15, 16, 17, 18, 19, 20, 21, 22, 23, 24, 25, 26, 27, 28, 29, 30, 31, 32, 45, 46, 47, 48, 49, 50, 51, 68, 69, 70, 71, 72, 73, 74, 75, 76, 77, 78, 82, 83, 84, 85, 86, 87, 88, 89, 90, 79, 80, 81, 91, 92] (by decide +kernel) (by decide +kernel)
set_option maxRecDepth 20000 in
theorem gX11_cancel_X11_releaseThings : GoodIn wsX11_cancel (wsV RX11 199 RX11 yX11_releaseThings wsX11_releaseThings) := goodIn_app (goodIn_of _ (by decide +kernel)) ggX11_cancel_X11_releaseThings
set_option maxRecDepth 20000 in
theorem ggX11_cancel_X11_releaseCouriers : GoodIn wsX11_cancel wsX11_releaseCouriers := goodIn_r _ [55, 56, 57, 58, 10, 11, 12, 13, 14, 15, 16, 17, 18, 19, 20, 21, 22, 23, 24, 25, 26, 27, 28, 29, 30, 31, 32, 45, 46, 47, 48, 49, 50, 51, 68, 69, 70, 71, 72, 73, 74, 75, 76, 77, 78, 93, 94, 95, 79, 80, 81, 91, 92] (by decide +kernel) (by decide +kernel)
set_option maxRecDepth 20000 in
theorem gX11_cancel_X11_releaseCouriers : GoodIn wsX11_cancel (wsV RX11 137 RX11 yX11_releaseCouriers wsX11_releaseCouriers) := goodIn_app (goodIn_of _ (by decide +kernel)) ggX11_cancel_X11_releaseCouriers
set_option maxRecDepth 20000 in
theorem ggX11_cancel_X11_answer : GoodIn wsX11_cancel wsX11_answer := goodIn_r _ [62, 37, 68, 69, 70, 71, 72, 73, 74, 75, 76, 77, 78] (by decide +kernel) (by decide +kernel)
set_option maxRecDepth 20000 in
theorem gX11_cancel_X11_answer : GoodIn wsX11_cancel (wsV RX11 71 RX11 yX11_answer wsX11_answer) := goodIn_app (goodIn_of _ (by decide +kernel)) ggX11_cancel_X11_answer
theorem dX11_cancel_0 : decode cX11_cancel 0 = .ok (.aload_n 0, 1) := by decide +kernel
theorem dX11_cancel_1 : decode cX11_cancel 1 = .ok (.iload_n 1, 1) := by decide +kernel
theorem dX11_cancel_2 : decode cX11_cancel 2 = .ok (.invokevirtual 189, 3) := by decide +kernel
theorem dX11_cancel_5 : decode cX11_cancel 5 = .ok (.astore_n 2, 1) := by decide +kernel
theorem dX11_cancel_6 : decode cX11_cancel 6 = .ok (.aload_n 2, 1) := by decide +kernel
theorem dX11_cancel_7 : decode cX11_cancel 7 = .ok (.ifnonnull 9, 3) := by decide +kernel
theorem dX11_cancel_10 : decode cX11_cancel 10 = .ok (.aload_n 0, 1) := by decide +kernel
theorem dX11_cancel_11 : decode cX11_cancel 11 = .ok (.iconst 1, 1) := by decide +kernel
theorem dX11_cancel_12 : decode cX11_cancel 12 = .ok (.invokevirtual 59, 3) := by decide +kernel
theorem dX11_cancel_15 : decode cX11_cancel 15 = .ok (.ireturn, 1) := by decide +kernel
theorem dX11_cancel_16 : decode cX11_cancel 16 = .ok (.aload_n 2, 1) := by decide +kernel
theorem dX11_cancel_17 : decode cX11_cancel 17 = .ok (.iconst 0, 1) := by decide +kernel
theorem dX11_cancel_18 : decode cX11_cancel 18 = .ok (.putfield 193, 3) := by decide +kernel
theorem dX11_cancel_21 : decode cX11_cancel 21 = .ok (.aload_n 0, 1) := by decide +kernel
theorem dX11_cancel_22 : decode cX11_cancel 22 = .ok (.dup, 1) := by decide +kernel
theorem dX11_cancel_23 : decode cX11_cancel 23 = .ok (.getfield 39, 3) := by decide +kernel
theorem dX11_cancel_26 : decode cX11_cancel 26 = .ok (.iconst 1, 1) := by decide +kernel
theorem dX11_cancel_27 : decode cX11_cancel 27 = .ok (.isub, 1) := by decide +kernel
theorem dX11_cancel_28 : decode cX11_cancel 28 = .ok (.putfield 39, 3) := by decide +kernel
theorem dX11_cancel_31 : decode cX11_cancel 31 = .ok (.aload_n 0, 1) := by decide +kernel
theorem dX11_cancel_32 : decode cX11_cancel 32 = .ok (.iload_n 1, 1) := by decide +kernel
theorem dX11_cancel_33 : decode cX11_cancel 33 = .ok (.invokevirtual 199, 3) := by decide +kernel
theorem dX11_cancel_36 : decode cX11_cancel 36 = .ok (.aload_n 0, 1) := by decide +kernel
theorem dX11_cancel_37 : decode cX11_cancel 37 = .ok (.iload_n 1, 1) := by decide +kernel
theorem dX11_cancel_38 : decode cX11_cancel 38 = .ok (.invokevirtual 137, 3) := by decide +kernel
theorem dX11_cancel_41 : decode cX11_cancel 41 = .ok (.aload_n 0, 1) := by decide +kernel
theorem dX11_cancel_42 : decode cX11_cancel 42 = .ok (.aload_n 0, 1) := by decide +kernel
theorem dX11_cancel_43 : decode cX11_cancel 43 = .ok (.getfield 39, 3) := by decide +kernel
theorem dX11_cancel_46 : decode cX11_cancel 46 = .ok (.invokevirtual 71, 3) := by decide +kernel
theorem dX11_cancel_49 : decode cX11_cancel 49 = .ok (.ireturn, 1) := by decide +kernel
set_option maxRecDepth 20000 in
theorem ggX11_place_X7_wrongAt : GoodIn wsX11_place wsX7_wrongAt := goodIn_r _ [6, 7, 19, 20, 21, 22, 23] (by decide +kernel) (by decide +kernel)
set_option maxRecDepth 20000 in
theorem gX11_place_X7_wrongAt : GoodIn wsX11_place (wsV RX11 202 RX7 yX7_wrongAt wsX7_wrongAt) := goodIn_app (goodIn_of _ (by decide +kernel)) ggX11_place_X7_wrongAt
theorem dX11_place_0 : decode cX11_place 0 = .ok (.aload_n 0, 1) := by decide +kernel
theorem dX11_place_1 : decode cX11_place 1 = .ok (.getfield 19, 3) := by decide +kernel
theorem dX11_place_4 : decode cX11_place 4 = .ok (.invokevirtual 202, 3) := by decide +kernel
theorem dX11_place_7 : decode cX11_place 7 = .ok (.ireturn, 1) := by decide +kernel
theorem dX11_fault_0 : decode cX11_fault 0 = .ok (.aload_n 0, 1) := by decide +kernel
theorem dX11_fault_1 : decode cX11_fault 1 = .ok (.getfield 49, 3) := by decide +kernel
theorem dX11_fault_4 : decode cX11_fault 4 = .ok (.ireturn, 1) := by decide +kernel
set_option maxRecDepth 20000 in
theorem ggX11_count_Jx4a65c_size_8abf5 : GoodIn wsX11_count wsJx4a65c_size_8abf5 := goodIn_r _ [12, 13, 41, 42, 43] (by decide +kernel) (by decide +kernel)
set_option maxRecDepth 20000 in
theorem gX11_count_Jx4a65c_size_8abf5 : GoodIn wsX11_count (wsV RX11 90 RJx4a65c yJx4a65c_size_8abf5 wsJx4a65c_size_8abf5) := goodIn_app (goodIn_of _ (by decide +kernel)) ggX11_count_Jx4a65c_size_8abf5
set_option maxRecDepth 20000 in
theorem ggX11_count_X11_answer : GoodIn wsX11_count wsX11_answer := goodIn_r _ [18, 19, 30, 31, 32, 33, 34, 35, 36, 37, 38, 39, 40] (by decide +kernel) (by decide +kernel)
set_option maxRecDepth 20000 in
theorem gX11_count_X11_answer : GoodIn wsX11_count (wsV RX11 71 RX11 yX11_answer wsX11_answer) := goodIn_app (goodIn_of _ (by decide +kernel)) ggX11_count_X11_answer
set_option maxRecDepth 20000 in
theorem ggX11_count_X9_size : GoodIn wsX11_count wsX9_size := goodIn_r _ [24, 25, 44, 45] (by decide +kernel) (by decide +kernel)
set_option maxRecDepth 20000 in
theorem gX11_count_X9_size : GoodIn wsX11_count (wsV RX11 67 RX9 yX9_size wsX9_size) := goodIn_app (goodIn_of _ (by decide +kernel)) ggX11_count_X9_size
set_option maxRecDepth 20000 in
theorem ggX11_count_X11_refuse : GoodIn wsX11_count wsX11_refuse := goodIn_r _ [29, 19, 30, 31, 32, 33, 34, 35, 36, 37, 38, 39, 40] (by decide +kernel) (by decide +kernel)
set_option maxRecDepth 20000 in
theorem gX11_count_X11_refuse : GoodIn wsX11_count (wsV RX11 59 RX11 yX11_refuse wsX11_refuse) := goodIn_app (goodIn_of _ (by decide +kernel)) ggX11_count_X11_refuse
theorem dX11_count_0 : decode cX11_count 0 = .ok (.iload_n 1, 1) := by decide +kernel
theorem dX11_count_1 : decode cX11_count 1 = .ok (.tableswitch 121 0 6 #[43, 55, 67, 79, 91, 100, 109], 43) := by decide +kernel
theorem dX11_count_44 : decode cX11_count 44 = .ok (.aload_n 0, 1) := by decide +kernel
theorem dX11_count_45 : decode cX11_count 45 = .ok (.aload_n 0, 1) := by decide +kernel
theorem dX11_count_46 : decode cX11_count 46 = .ok (.getfield 26, 3) := by decide +kernel
theorem dX11_count_49 : decode cX11_count 49 = .ok (.invokevirtual 90, 3) := by decide +kernel
theorem dX11_count_52 : decode cX11_count 52 = .ok (.invokevirtual 71, 3) := by decide +kernel
theorem dX11_count_55 : decode cX11_count 55 = .ok (.ireturn, 1) := by decide +kernel
theorem dX11_count_56 : decode cX11_count 56 = .ok (.aload_n 0, 1) := by decide +kernel
theorem dX11_count_57 : decode cX11_count 57 = .ok (.aload_n 0, 1) := by decide +kernel
theorem dX11_count_58 : decode cX11_count 58 = .ok (.getfield 30, 3) := by decide +kernel
theorem dX11_count_61 : decode cX11_count 61 = .ok (.invokevirtual 90, 3) := by decide +kernel
theorem dX11_count_64 : decode cX11_count 64 = .ok (.invokevirtual 71, 3) := by decide +kernel
theorem dX11_count_67 : decode cX11_count 67 = .ok (.ireturn, 1) := by decide +kernel
theorem dX11_count_68 : decode cX11_count 68 = .ok (.aload_n 0, 1) := by decide +kernel
theorem dX11_count_69 : decode cX11_count 69 = .ok (.aload_n 0, 1) := by decide +kernel
theorem dX11_count_70 : decode cX11_count 70 = .ok (.getfield 33, 3) := by decide +kernel
theorem dX11_count_73 : decode cX11_count 73 = .ok (.invokevirtual 90, 3) := by decide +kernel
theorem dX11_count_76 : decode cX11_count 76 = .ok (.invokevirtual 71, 3) := by decide +kernel
theorem dX11_count_79 : decode cX11_count 79 = .ok (.ireturn, 1) := by decide +kernel
theorem dX11_count_80 : decode cX11_count 80 = .ok (.aload_n 0, 1) := by decide +kernel
theorem dX11_count_81 : decode cX11_count 81 = .ok (.aload_n 0, 1) := by decide +kernel
theorem dX11_count_82 : decode cX11_count 82 = .ok (.getfield 36, 3) := by decide +kernel
theorem dX11_count_85 : decode cX11_count 85 = .ok (.invokevirtual 90, 3) := by decide +kernel
theorem dX11_count_88 : decode cX11_count 88 = .ok (.invokevirtual 71, 3) := by decide +kernel
theorem dX11_count_91 : decode cX11_count 91 = .ok (.ireturn, 1) := by decide +kernel
theorem dX11_count_92 : decode cX11_count 92 = .ok (.aload_n 0, 1) := by decide +kernel
theorem dX11_count_93 : decode cX11_count 93 = .ok (.aload_n 0, 1) := by decide +kernel
theorem dX11_count_94 : decode cX11_count 94 = .ok (.getfield 39, 3) := by decide +kernel
theorem dX11_count_97 : decode cX11_count 97 = .ok (.invokevirtual 71, 3) := by decide +kernel
theorem dX11_count_100 : decode cX11_count 100 = .ok (.ireturn, 1) := by decide +kernel
theorem dX11_count_101 : decode cX11_count 101 = .ok (.aload_n 0, 1) := by decide +kernel
theorem dX11_count_102 : decode cX11_count 102 = .ok (.aload_n 0, 1) := by decide +kernel
theorem dX11_count_103 : decode cX11_count 103 = .ok (.getfield 43, 3) := by decide +kernel
theorem dX11_count_106 : decode cX11_count 106 = .ok (.invokevirtual 71, 3) := by decide +kernel
theorem dX11_count_109 : decode cX11_count 109 = .ok (.ireturn, 1) := by decide +kernel
theorem dX11_count_110 : decode cX11_count 110 = .ok (.aload_n 0, 1) := by decide +kernel
theorem dX11_count_111 : decode cX11_count 111 = .ok (.aload_n 0, 1) := by decide +kernel
theorem dX11_count_112 : decode cX11_count 112 = .ok (.getfield 10, 3) := by decide +kernel
theorem dX11_count_115 : decode cX11_count 115 = .ok (.invokevirtual 67, 3) := by decide +kernel
theorem dX11_count_118 : decode cX11_count 118 = .ok (.invokevirtual 71, 3) := by decide +kernel
theorem dX11_count_121 : decode cX11_count 121 = .ok (.ireturn, 1) := by decide +kernel
theorem dX11_count_122 : decode cX11_count 122 = .ok (.aload_n 0, 1) := by decide +kernel
theorem dX11_count_123 : decode cX11_count 123 = .ok (.iconst 3, 1) := by decide +kernel
theorem dX11_count_124 : decode cX11_count 124 = .ok (.invokevirtual 59, 3) := by decide +kernel
theorem dX11_count_127 : decode cX11_count 127 = .ok (.ireturn, 1) := by decide +kernel
set_option maxRecDepth 20000 in
theorem ggX11_value_X11_thingAt : GoodIn wsX11_value wsX11_thingAt := goodIn_r _ [5, 6, 7, 8, 9, 10, 11, 12, 13, 14, 15, 16, 17, 18, 19, 20, 21, 22, 23, 24, 25, 26, 27, 28, 29, 30, 66, 67, 68, 69, 70, 71, 72, 73, 74, 75, 76, 77, 78, 79] (by decide +kernel) (by decide +kernel)
set_option maxRecDepth 20000 in
theorem gX11_value_X11_thingAt : GoodIn wsX11_value (wsV RX11 144 RX11 yX11_thingAt wsX11_thingAt) := goodIn_app (goodIn_of _ (by decide +kernel)) ggX11_value_X11_thingAt
set_option maxRecDepth 20000 in
theorem ggX11_value_X11_isDay : GoodIn wsX11_value wsX11_isDay := goodIn_r _ [33] (by decide +kernel) (by decide +kernel)
set_option maxRecDepth 20000 in
theorem gX11_value_X11_isDay : GoodIn wsX11_value (va_wsS RX11 148 yX11_isDay wsX11_isDay) := goodIn_app (goodIn_of _ (by decide +kernel)) ggX11_value_X11_isDay
set_option maxRecDepth 20000 in
theorem ggX11_value_X11_refuseAsked : GoodIn wsX11_value wsX11_refuseAsked := goodIn_r _ [37, 38, 39, 40, 4, 41, 42, 66, 67, 68, 69, 70, 71, 72, 73, 74, 75, 76] (by decide +kernel) (by decide +kernel)
set_option maxRecDepth 20000 in
theorem gX11_value_X11_refuseAsked : GoodIn wsX11_value (wsV RX11 152 RX11 yX11_refuseAsked wsX11_refuseAsked) := goodIn_app (goodIn_of _ (by decide +kernel)) ggX11_value_X11_refuseAsked
set_option maxRecDepth 20000 in
theorem ggX11_value_X10_valueOn : GoodIn wsX11_value wsX10_valueOn := goodIn_r _ [47, 48, 49, 50, 51, 52, 53, 54, 55, 56, 57, 58, 59, 60, 61, 80, 81, 82, 83, 84, 85, 86, 87, 88, 89, 90, 91] (by decide +kernel) (by decide +kernel)
set_option maxRecDepth 20000 in
theorem gX11_value_X10_valueOn : GoodIn wsX11_value (wsV RX11 182 RX10 yX10_valueOn wsX10_valueOn) := goodIn_app (goodIn_of _ (by decide +kernel)) ggX11_value_X10_valueOn
set_option maxRecDepth 20000 in
theorem ggX11_value_X11_answer : GoodIn wsX11_value wsX11_answer := goodIn_r _ [65, 42, 66, 67, 68, 69, 70, 71, 72, 73, 74, 75, 76] (by decide +kernel) (by decide +kernel)
set_option maxRecDepth 20000 in
theorem gX11_value_X11_answer : GoodIn wsX11_value (wsV RX11 71 RX11 yX11_answer wsX11_answer) := goodIn_app (goodIn_of _ (by decide +kernel)) ggX11_value_X11_answer
theorem dX11_value_0 : decode cX11_value 0 = .ok (.aload_n 0, 1) := by decide +kernel
theorem dX11_value_1 : decode cX11_value 1 = .ok (.iload_n 1, 1) := by decide +kernel
theorem dX11_value_2 : decode cX11_value 2 = .ok (.invokevirtual 144, 3) := by decide +kernel
theorem dX11_value_5 : decode cX11_value 5 = .ok (.astore_n 3, 1) := by decide +kernel
theorem dX11_value_6 : decode cX11_value 6 = .ok (.aload_n 3, 1) := by decide +kernel
theorem dX11_value_7 : decode cX11_value 7 = .ok (.ifnull 10, 3) := by decide +kernel
theorem dX11_value_10 : decode cX11_value 10 = .ok (.iload_n 2, 1) := by decide +kernel
theorem dX11_value_11 : decode cX11_value 11 = .ok (.invokestatic 148, 3) := by decide +kernel
theorem dX11_value_14 : decode cX11_value 14 = .ok (.ifCond .ne 17, 3) := by decide +kernel
theorem dX11_value_17 : decode cX11_value 17 = .ok (.aload_n 0, 1) := by decide +kernel
theorem dX11_value_18 : decode cX11_value 18 = .ok (.aload_n 3, 1) := by decide +kernel
theorem dX11_value_19 : decode cX11_value 19 = .ok (.ifnull 7, 3) := by decide +kernel
theorem dX11_value_22 : decode cX11_value 22 = .ok (.iconst 1, 1) := by decide +kernel
theorem dX11_value_23 : decode cX11_value 23 = .ok (.goto 4, 3) := by decide +kernel
theorem dX11_value_26 : decode cX11_value 26 = .ok (.iconst 0, 1) := by decide +kernel
theorem dX11_value_27 : decode cX11_value 27 = .ok (.invokevirtual 152, 3) := by decide +kernel
theorem dX11_value_30 : decode cX11_value 30 = .ok (.ireturn, 1) := by decide +kernel
theorem dX11_value_31 : decode cX11_value 31 = .ok (.aload_n 0, 1) := by decide +kernel
theorem dX11_value_32 : decode cX11_value 32 = .ok (.aload_n 3, 1) := by decide +kernel
theorem dX11_value_33 : decode cX11_value 33 = .ok (.iload_n 2, 1) := by decide +kernel
theorem dX11_value_34 : decode cX11_value 34 = .ok (.invokevirtual 182, 3) := by decide +kernel
theorem dX11_value_37 : decode cX11_value 37 = .ok (.invokevirtual 71, 3) := by decide +kernel
theorem dX11_value_40 : decode cX11_value 40 = .ok (.ireturn, 1) := by decide +kernel
set_option maxRecDepth 20000 in
theorem ggX11_together_X11_thingAt : GoodIn wsX11_together wsX11_thingAt := goodIn_r _ [6, 7, 8, 9, 10, 11, 12, 13, 14, 15, 16, 17, 18, 19, 20, 21, 22, 23, 24, 25, 26, 27, 28, 29, 30, 31, 59, 60, 61, 62, 63, 64, 65, 66, 67, 68, 69, 70, 71, 72] (by decide +kernel) (by decide +kernel)
set_option maxRecDepth 20000 in
theorem gX11_together_X11_thingAt : GoodIn wsX11_together (wsV RX11 144 RX11 yX11_thingAt wsX11_thingAt) := goodIn_app (goodIn_of _ (by decide +kernel)) ggX11_together_X11_thingAt
set_option maxRecDepth 20000 in
theorem ggX11_together_X11_refuse : GoodIn wsX11_together wsX11_refuse := goodIn_r _ [35, 36, 59, 60, 61, 62, 63, 64, 65, 66, 67, 68, 69] (by decide +kernel) (by decide +kernel)
set_option maxRecDepth 20000 in
theorem gX11_together_X11_refuse : GoodIn wsX11_together (wsV RX11 59 RX11 yX11_refuse wsX11_refuse) := goodIn_app (goodIn_of _ (by decide +kernel)) ggX11_together_X11_refuse
set_option maxRecDepth 20000 in
theorem ggX11_together_X10_bars : GoodIn wsX11_together wsX10_bars := goodIn_r _ [41, 42, 43, 44, 40, 45, 50, 51, 52, 53, 54, 55, 56, 57, 58] (by decide +kernel) (by decide +kernel)
set_option maxRecDepth 20000 in
theorem gX11_together_X10_bars : GoodIn wsX11_together (wsV RX11 208 RX10 yX10_bars wsX10_bars) := goodIn_app (goodIn_of _ (by decide +kernel)) ggX11_together_X10_bars
set_option maxRecDepth 20000 in
theorem ggX11_together_X11_answer : GoodIn wsX11_together wsX11_answer := goodIn_r _ [49, 36, 59, 60, 61, 62, 63, 64, 65, 66, 67, 68, 69] (by decide +kernel) (by decide +kernel)
set_option maxRecDepth 20000 in
theorem gX11_together_X11_answer : GoodIn wsX11_together (wsV RX11 71 RX11 yX11_answer wsX11_answer) := goodIn_app (goodIn_of _ (by decide +kernel)) ggX11_together_X11_answer
theorem dX11_together_0 : decode cX11_together 0 = .ok (.aload_n 0, 1) := by decide +kernel
theorem dX11_together_1 : decode cX11_together 1 = .ok (.iload_n 1, 1) := by decide +kernel
theorem dX11_together_2 : decode cX11_together 2 = .ok (.invokevirtual 144, 3) := by decide +kernel
theorem dX11_together_5 : decode cX11_together 5 = .ok (.astore_n 3, 1) := by decide +kernel
theorem dX11_together_6 : decode cX11_together 6 = .ok (.aload_n 0, 1) := by decide +kernel
theorem dX11_together_7 : decode cX11_together 7 = .ok (.iload_n 2, 1) := by decide +kernel
theorem dX11_together_8 : decode cX11_together 8 = .ok (.invokevirtual 144, 3) := by decide +kernel
theorem dX11_together_11 : decode cX11_together 11 = .ok (.astore 4, 2) := by decide +kernel
theorem dX11_together_13 : decode cX11_together 13 = .ok (.aload_n 3, 1) := by decide +kernel
theorem dX11_together_14 : decode cX11_together 14 = .ok (.ifnull 8, 3) := by decide +kernel
theorem dX11_together_17 : decode cX11_together 17 = .ok (.aload 4, 2) := by decide +kernel
theorem dX11_together_19 : decode cX11_together 19 = .ok (.ifnonnull 9, 3) := by decide +kernel
theorem dX11_together_22 : decode cX11_together 22 = .ok (.aload_n 0, 1) := by decide +kernel
theorem dX11_together_23 : decode cX11_together 23 = .ok (.iconst 1, 1) := by decide +kernel
theorem dX11_together_24 : decode cX11_together 24 = .ok (.invokevirtual 59, 3) := by decide +kernel
theorem dX11_together_27 : decode cX11_together 27 = .ok (.ireturn, 1) := by decide +kernel
theorem dX11_together_28 : decode cX11_together 28 = .ok (.aload_n 0, 1) := by decide +kernel
theorem dX11_together_29 : decode cX11_together 29 = .ok (.aload_n 3, 1) := by decide +kernel
theorem dX11_together_30 : decode cX11_together 30 = .ok (.aload 4, 2) := by decide +kernel
theorem dX11_together_32 : decode cX11_together 32 = .ok (.getfield 205, 3) := by decide +kernel
theorem dX11_together_35 : decode cX11_together 35 = .ok (.invokevirtual 208, 3) := by decide +kernel
theorem dX11_together_38 : decode cX11_together 38 = .ok (.ifCond .ne 15, 3) := by decide +kernel
theorem dX11_together_41 : decode cX11_together 41 = .ok (.aload 4, 2) := by decide +kernel
theorem dX11_together_43 : decode cX11_together 43 = .ok (.aload_n 3, 1) := by decide +kernel
theorem dX11_together_44 : decode cX11_together 44 = .ok (.getfield 205, 3) := by decide +kernel
theorem dX11_together_47 : decode cX11_together 47 = .ok (.invokevirtual 208, 3) := by decide +kernel
theorem dX11_together_50 : decode cX11_together 50 = .ok (.ifCond .eq 7, 3) := by decide +kernel
theorem dX11_together_53 : decode cX11_together 53 = .ok (.iconst 0, 1) := by decide +kernel
theorem dX11_together_54 : decode cX11_together 54 = .ok (.goto 4, 3) := by decide +kernel
theorem dX11_together_57 : decode cX11_together 57 = .ok (.iconst 1, 1) := by decide +kernel
theorem dX11_together_58 : decode cX11_together 58 = .ok (.invokevirtual 71, 3) := by decide +kernel
theorem dX11_together_61 : decode cX11_together 61 = .ok (.ireturn, 1) := by decide +kernel
set_option maxRecDepth 20000 in
theorem ggX11_where_X11_thingAt : GoodIn wsX11_where wsX11_thingAt := goodIn_r _ [6, 7, 8, 9, 10, 11, 12, 13, 14, 15, 16, 17, 18, 19, 20, 21, 22, 23, 24, 25, 26, 27, 28, 29, 30, 31, 67, 68, 69, 70, 71, 72, 73, 74, 75, 76, 77, 78, 79, 80] (by decide +kernel) (by decide +kernel)
set_option maxRecDepth 20000 in
theorem gX11_where_X11_thingAt : GoodIn wsX11_where (wsV RX11 144 RX11 yX11_thingAt wsX11_thingAt) := goodIn_app (goodIn_of _ (by decide +kernel)) ggX11_where_X11_thingAt
set_option maxRecDepth 20000 in
theorem ggX11_where_X11_isDay : GoodIn wsX11_where wsX11_isDay := goodIn_r _ [34] (by decide +kernel) (by decide +kernel)
set_option maxRecDepth 20000 in
theorem gX11_where_X11_isDay : GoodIn wsX11_where (va_wsS RX11 148 yX11_isDay wsX11_isDay) := goodIn_app (goodIn_of _ (by decide +kernel)) ggX11_where_X11_isDay
set_option maxRecDepth 20000 in
theorem ggX11_where_X11_refuseAsked : GoodIn wsX11_where wsX11_refuseAsked := goodIn_r _ [38, 39, 40, 41, 5, 42, 43, 67, 68, 69, 70, 71, 72, 73, 74, 75, 76, 77] (by decide +kernel) (by decide +kernel)
set_option maxRecDepth 20000 in
theorem gX11_where_X11_refuseAsked : GoodIn wsX11_where (wsV RX11 152 RX11 yX11_refuseAsked wsX11_refuseAsked) := goodIn_app (goodIn_of _ (by decide +kernel)) ggX11_where_X11_refuseAsked
set_option maxRecDepth 20000 in
theorem ggX11_where_X1_loanOn : GoodIn wsX11_where wsX1_loanOn := goodIn_r _ [48, 49, 50, 51, 52, 53, 33, 5, 34, 81, 82] (by decide +kernel) (by decide +kernel)
set_option maxRecDepth 20000 in
theorem gX11_where_X1_loanOn : GoodIn wsX11_where (wsV RX11 215 RX1 yX1_loanOn wsX1_loanOn) := goodIn_app (goodIn_of _ (by decide +kernel)) ggX11_where_X1_loanOn
set_option maxRecDepth 20000 in
theorem ggX11_where_X11_answer : GoodIn wsX11_where wsX11_answer := goodIn_r _ [57, 43, 67, 68, 69, 70, 71, 72, 73, 74, 75, 76, 77] (by decide +kernel) (by decide +kernel)
set_option maxRecDepth 20000 in
theorem gX11_where_X11_answer : GoodIn wsX11_where (wsV RX11 71 RX11 yX11_answer wsX11_answer) := goodIn_app (goodIn_of _ (by decide +kernel)) ggX11_where_X11_answer
theorem dX11_where_0 : decode cX11_where 0 = .ok (.aload_n 0, 1) := by decide +kernel
theorem dX11_where_1 : decode cX11_where 1 = .ok (.iload_n 1, 1) := by decide +kernel
theorem dX11_where_2 : decode cX11_where 2 = .ok (.invokevirtual 144, 3) := by decide +kernel
theorem dX11_where_5 : decode cX11_where 5 = .ok (.astore_n 3, 1) := by decide +kernel
theorem dX11_where_6 : decode cX11_where 6 = .ok (.aload_n 3, 1) := by decide +kernel
theorem dX11_where_7 : decode cX11_where 7 = .ok (.ifnull 10, 3) := by decide +kernel
theorem dX11_where_10 : decode cX11_where 10 = .ok (.iload_n 2, 1) := by decide +kernel
theorem dX11_where_11 : decode cX11_where 11 = .ok (.invokestatic 148, 3) := by decide +kernel
theorem dX11_where_14 : decode cX11_where 14 = .ok (.ifCond .ne 17, 3) := by decide +kernel
theorem dX11_where_17 : decode cX11_where 17 = .ok (.aload_n 0, 1) := by decide +kernel
theorem dX11_where_18 : decode cX11_where 18 = .ok (.aload_n 3, 1) := by decide +kernel
theorem dX11_where_19 : decode cX11_where 19 = .ok (.ifnull 7, 3) := by decide +kernel
theorem dX11_where_22 : decode cX11_where 22 = .ok (.iconst 1, 1) := by decide +kernel
theorem dX11_where_23 : decode cX11_where 23 = .ok (.goto 4, 3) := by decide +kernel
theorem dX11_where_26 : decode cX11_where 26 = .ok (.iconst 0, 1) := by decide +kernel
theorem dX11_where_27 : decode cX11_where 27 = .ok (.invokevirtual 152, 3) := by decide +kernel
theorem dX11_where_30 : decode cX11_where 30 = .ok (.ireturn, 1) := by decide +kernel
theorem dX11_where_31 : decode cX11_where 31 = .ok (.aload_n 0, 1) := by decide +kernel
theorem dX11_where_32 : decode cX11_where 32 = .ok (.aload_n 3, 1) := by decide +kernel
theorem dX11_where_33 : decode cX11_where 33 = .ok (.getfield 211, 3) := by decide +kernel
theorem dX11_where_36 : decode cX11_where 36 = .ok (.iload_n 2, 1) := by decide +kernel
theorem dX11_where_37 : decode cX11_where 37 = .ok (.invokevirtual 215, 3) := by decide +kernel
theorem dX11_where_40 : decode cX11_where 40 = .ok (.invokevirtual 71, 3) := by decide +kernel
theorem dX11_where_43 : decode cX11_where 43 = .ok (.ireturn, 1) := by decide +kernel
set_option maxRecDepth 20000 in
theorem ggX11_free_X11_thingAt : GoodIn wsX11_free wsX11_thingAt := goodIn_r _ [6, 7, 8, 9, 10, 11, 12, 13, 14, 15, 16, 17, 18, 19, 20, 21, 22, 23, 24, 25, 26, 27, 28, 29, 30, 31, 70, 71, 72, 73, 74, 75, 76, 77, 78, 79, 80, 81, 82, 83] (by decide +kernel) (by decide +kernel)
set_option maxRecDepth 20000 in
theorem gX11_free_X11_thingAt : GoodIn wsX11_free (wsV RX11 144 RX11 yX11_thingAt wsX11_thingAt) := goodIn_app (goodIn_of _ (by decide +kernel)) ggX11_free_X11_thingAt
set_option maxRecDepth 20000 in
theorem ggX11_free_X11_isDay : GoodIn wsX11_free wsX11_isDay := goodIn_r _ [34] (by decide +kernel) (by decide +kernel)
set_option maxRecDepth 20000 in
theorem gX11_free_X11_isDay : GoodIn wsX11_free (va_wsS RX11 148 yX11_isDay wsX11_isDay) := goodIn_app (goodIn_of _ (by decide +kernel)) ggX11_free_X11_isDay
set_option maxRecDepth 20000 in
theorem ggX11_free_X11_isLength : GoodIn wsX11_free wsX11_isLength := goodIn_r _ [37] (by decide +kernel) (by decide +kernel)
set_option maxRecDepth 20000 in
theorem gX11_free_X11_isLength : GoodIn wsX11_free (va_wsS RX11 220 yX11_isLength wsX11_isLength) := goodIn_app (goodIn_of _ (by decide +kernel)) ggX11_free_X11_isLength
set_option maxRecDepth 20000 in
theorem ggX11_free_X11_refuseAsked : GoodIn wsX11_free wsX11_refuseAsked := goodIn_r _ [41, 42, 43, 44, 5, 45, 46, 70, 71, 72, 73, 74, 75, 76, 77, 78, 79, 80] (by decide +kernel) (by decide +kernel)
set_option maxRecDepth 20000 in
theorem gX11_free_X11_refuseAsked : GoodIn wsX11_free (wsV RX11 152 RX11 yX11_refuseAsked wsX11_refuseAsked) := goodIn_app (goodIn_of _ (by decide +kernel)) ggX11_free_X11_refuseAsked
set_option maxRecDepth 20000 in
theorem ggX11_free_X1_firstOpen : GoodIn wsX11_free wsX1_firstOpen := goodIn_r _ [51, 52, 53, 54, 55, 56, 84, 85] (by decide +kernel) (by decide +kernel)
set_option maxRecDepth 20000 in
theorem gX11_free_X1_firstOpen : GoodIn wsX11_free (wsV RX11 223 RX1 yX1_firstOpen wsX1_firstOpen) := goodIn_app (goodIn_of _ (by decide +kernel)) ggX11_free_X1_firstOpen
set_option maxRecDepth 20000 in
theorem ggX11_free_X11_answer : GoodIn wsX11_free wsX11_answer := goodIn_r _ [60, 46, 70, 71, 72, 73, 74, 75, 76, 77, 78, 79, 80] (by decide +kernel) (by decide +kernel)
set_option maxRecDepth 20000 in
theorem gX11_free_X11_answer : GoodIn wsX11_free (wsV RX11 71 RX11 yX11_answer wsX11_answer) := goodIn_app (goodIn_of _ (by decide +kernel)) ggX11_free_X11_answer
theorem dX11_free_0 : decode cX11_free 0 = .ok (.aload_n 0, 1) := by decide +kernel
theorem dX11_free_1 : decode cX11_free 1 = .ok (.iload_n 1, 1) := by decide +kernel
theorem dX11_free_2 : decode cX11_free 2 = .ok (.invokevirtual 144, 3) := by decide +kernel
theorem dX11_free_5 : decode cX11_free 5 = .ok (.astore 4, 2) := by decide +kernel
theorem dX11_free_7 : decode cX11_free 7 = .ok (.aload 4, 2) := by decide +kernel
theorem dX11_free_9 : decode cX11_free 9 = .ok (.ifnull 17, 3) := by decide +kernel
theorem dX11_free_12 : decode cX11_free 12 = .ok (.iload_n 2, 1) := by decide +kernel
theorem dX11_free_13 : decode cX11_free 13 = .ok (.invokestatic 148, 3) := by decide +kernel
theorem dX11_free_16 : decode cX11_free 16 = .ok (.ifCond .eq 10, 3) := by decide +kernel
theorem dX11_free_19 : decode cX11_free 19 = .ok (.iload_n 3, 1) := by decide +kernel
theorem dX11_free_20 : decode cX11_free 20 = .ok (.invokestatic 220, 3) := by decide +kernel
theorem dX11_free_23 : decode cX11_free 23 = .ok (.ifCond .ne 18, 3) := by decide +kernel
theorem dX11_free_26 : decode cX11_free 26 = .ok (.aload_n 0, 1) := by decide +kernel
theorem dX11_free_27 : decode cX11_free 27 = .ok (.aload 4, 2) := by decide +kernel
theorem dX11_free_29 : decode cX11_free 29 = .ok (.ifnull 7, 3) := by decide +kernel
theorem dX11_free_32 : decode cX11_free 32 = .ok (.iconst 1, 1) := by decide +kernel
theorem dX11_free_33 : decode cX11_free 33 = .ok (.goto 4, 3) := by decide +kernel
theorem dX11_free_36 : decode cX11_free 36 = .ok (.iconst 0, 1) := by decide +kernel
theorem dX11_free_37 : decode cX11_free 37 = .ok (.invokevirtual 152, 3) := by decide +kernel
theorem dX11_free_40 : decode cX11_free 40 = .ok (.ireturn, 1) := by decide +kernel
theorem dX11_free_41 : decode cX11_free 41 = .ok (.aload_n 0, 1) := by decide +kernel
theorem dX11_free_42 : decode cX11_free 42 = .ok (.aload 4, 2) := by decide +kernel
theorem dX11_free_44 : decode cX11_free 44 = .ok (.getfield 211, 3) := by decide +kernel
theorem dX11_free_47 : decode cX11_free 47 = .ok (.iload_n 2, 1) := by decide +kernel
theorem dX11_free_48 : decode cX11_free 48 = .ok (.iload_n 3, 1) := by decide +kernel
theorem dX11_free_49 : decode cX11_free 49 = .ok (.invokevirtual 223, 3) := by decide +kernel
theorem dX11_free_52 : decode cX11_free 52 = .ok (.invokevirtual 71, 3) := by decide +kernel
theorem dX11_free_55 : decode cX11_free 55 = .ok (.ireturn, 1) := by decide +kernel
set_option maxRecDepth 20000 in
theorem ggX11_stage_X11_standingLoanAt : GoodIn wsX11_stage wsX11_standingLoanAt := goodIn_r _ [5, 6, 7, 8, 9, 10, 11, 12, 13, 14, 15, 16, 17, 18, 19, 20, 21, 22, 23, 24, 25, 26, 27, 28, 29, 30, 31, 65, 66, 67, 68, 69, 70, 71, 72, 73, 74, 75, 76, 77, 78, 79, 80, 81, 82, 83] (by decide +kernel) (by decide +kernel)
set_option maxRecDepth 20000 in
theorem gX11_stage_X11_standingLoanAt : GoodIn wsX11_stage (wsV RX11 189 RX11 yX11_standingLoanAt wsX11_standingLoanAt) := goodIn_app (goodIn_of _ (by decide +kernel)) ggX11_stage_X11_standingLoanAt
set_option maxRecDepth 20000 in
theorem ggX11_stage_X11_isDay : GoodIn wsX11_stage wsX11_isDay := goodIn_r _ [34] (by decide +kernel) (by decide +kernel)
set_option maxRecDepth 20000 in
theorem gX11_stage_X11_isDay : GoodIn wsX11_stage (va_wsS RX11 148 yX11_isDay wsX11_isDay) := goodIn_app (goodIn_of _ (by decide +kernel)) ggX11_stage_X11_isDay
set_option maxRecDepth 20000 in
theorem ggX11_stage_X11_refuseAsked : GoodIn wsX11_stage wsX11_refuseAsked := goodIn_r _ [38, 39, 40, 41, 4, 42, 43, 65, 66, 67, 68, 69, 70, 71, 72, 73, 74, 75] (by decide +kernel) (by decide +kernel)
set_option maxRecDepth 20000 in
theorem gX11_stage_X11_refuseAsked : GoodIn wsX11_stage (wsV RX11 152 RX11 yX11_refuseAsked wsX11_refuseAsked) := goodIn_app (goodIn_of _ (by decide +kernel)) ggX11_stage_X11_refuseAsked
set_option maxRecDepth 20000 in
theorem ggX11_stage_X4_stageOn : GoodIn wsX11_stage wsX4_stageOn := goodIn_r _ [48, 49, 50, 51, 52, 53, 54, 47, 55, 56, 57, 58, 59, 60, 76, 77, 78, 79, 80, 84, 85, 86, 87, 88] (by decide +kernel) (by decide +kernel)
set_option maxRecDepth 20000 in
theorem gX11_stage_X4_stageOn : GoodIn wsX11_stage (wsV RX11 227 RX4 yX4_stageOn wsX4_stageOn) := goodIn_app (goodIn_of _ (by decide +kernel)) ggX11_stage_X4_stageOn
set_option maxRecDepth 20000 in
theorem ggX11_stage_X11_answer : GoodIn wsX11_stage wsX11_answer := goodIn_r _ [64, 43, 65, 66, 67, 68, 69, 70, 71, 72, 73, 74, 75] (by decide +kernel) (by decide +kernel)
set_option maxRecDepth 20000 in
theorem gX11_stage_X11_answer : GoodIn wsX11_stage (wsV RX11 71 RX11 yX11_answer wsX11_answer) := goodIn_app (goodIn_of _ (by decide +kernel)) ggX11_stage_X11_answer
theorem dX11_stage_0 : decode cX11_stage 0 = .ok (.aload_n 0, 1) := by decide +kernel
theorem dX11_stage_1 : decode cX11_stage 1 = .ok (.iload_n 1, 1) := by decide +kernel
theorem dX11_stage_2 : decode cX11_stage 2 = .ok (.invokevirtual 189, 3) := by decide +kernel
theorem dX11_stage_5 : decode cX11_stage 5 = .ok (.astore_n 3, 1) := by decide +kernel
theorem dX11_stage_6 : decode cX11_stage 6 = .ok (.aload_n 3, 1) := by decide +kernel
theorem dX11_stage_7 : decode cX11_stage 7 = .ok (.ifnull 10, 3) := by decide +kernel
theorem dX11_stage_10 : decode cX11_stage 10 = .ok (.iload_n 2, 1) := by decide +kernel
theorem dX11_stage_11 : decode cX11_stage 11 = .ok (.invokestatic 148, 3) := by decide +kernel
theorem dX11_stage_14 : decode cX11_stage 14 = .ok (.ifCond .ne 17, 3) := by decide +kernel
theorem dX11_stage_17 : decode cX11_stage 17 = .ok (.aload_n 0, 1) := by decide +kernel
theorem dX11_stage_18 : decode cX11_stage 18 = .ok (.aload_n 3, 1) := by decide +kernel
theorem dX11_stage_19 : decode cX11_stage 19 = .ok (.ifnull 7, 3) := by decide +kernel
theorem dX11_stage_22 : decode cX11_stage 22 = .ok (.iconst 1, 1) := by decide +kernel
theorem dX11_stage_23 : decode cX11_stage 23 = .ok (.goto 4, 3) := by decide +kernel
theorem dX11_stage_26 : decode cX11_stage 26 = .ok (.iconst 0, 1) := by decide +kernel
theorem dX11_stage_27 : decode cX11_stage 27 = .ok (.invokevirtual 152, 3) := by decide +kernel
theorem dX11_stage_30 : decode cX11_stage 30 = .ok (.ireturn, 1) := by decide +kernel
theorem dX11_stage_31 : decode cX11_stage 31 = .ok (.aload_n 0, 1) := by decide +kernel
theorem dX11_stage_32 : decode cX11_stage 32 = .ok (.aload_n 3, 1) := by decide +kernel
theorem dX11_stage_33 : decode cX11_stage 33 = .ok (.iload_n 2, 1) := by decide +kernel
theorem dX11_stage_34 : decode cX11_stage 34 = .ok (.invokevirtual 227, 3) := by decide +kernel
theorem dX11_stage_37 : decode cX11_stage 37 = .ok (.invokevirtual 71, 3) := by decide +kernel
theorem dX11_stage_40 : decode cX11_stage 40 = .ok (.ireturn, 1) := by decide +kernel
set_option maxRecDepth 20000 in
theorem ggX11_parcels_X11_standingLoanAt : GoodIn wsX11_parcels wsX11_standingLoanAt := goodIn_r _ [6, 7, 8, 9, 10, 11, 12, 13, 14, 15, 16, 17, 18, 19, 20, 21, 22, 23, 24, 25, 26, 27, 28, 29, 30, 31, 32, 47, 48, 49, 50, 51, 52, 53, 54, 55, 56, 57, 42, 43, 44, 45, 46, 58, 59, 60] (by decide +kernel) (by decide +kernel)
set_option maxRecDepth 20000 in
theorem gX11_parcels_X11_standingLoanAt : GoodIn wsX11_parcels (wsV RX11 189 RX11 yX11_standingLoanAt wsX11_standingLoanAt) := goodIn_app (goodIn_of _ (by decide +kernel)) ggX11_parcels_X11_standingLoanAt
set_option maxRecDepth 20000 in
theorem ggX11_parcels_X11_refuse : GoodIn wsX11_parcels wsX11_refuse := goodIn_r _ [36, 37, 47, 48, 49, 50, 51, 52, 53, 54, 55, 56, 57] (by decide +kernel) (by decide +kernel)
set_option maxRecDepth 20000 in
theorem gX11_parcels_X11_refuse : GoodIn wsX11_parcels (wsV RX11 59 RX11 yX11_refuse wsX11_refuse) := goodIn_app (goodIn_of _ (by decide +kernel)) ggX11_parcels_X11_refuse
set_option maxRecDepth 20000 in
theorem ggX11_parcels_Jx4a65c_size_8abf5 : GoodIn wsX11_parcels wsJx4a65c_size_8abf5 := goodIn_r _ [14, 15, 58, 59, 60] (by decide +kernel) (by decide +kernel)
set_option maxRecDepth 20000 in
theorem gX11_parcels_Jx4a65c_size_8abf5 : GoodIn wsX11_parcels (wsV RX11 90 RJx4a65c yJx4a65c_size_8abf5 wsJx4a65c_size_8abf5) := goodIn_app (goodIn_of _ (by decide +kernel)) ggX11_parcels_Jx4a65c_size_8abf5
set_option maxRecDepth 20000 in
theorem ggX11_parcels_X11_answer : GoodIn wsX11_parcels wsX11_answer := goodIn_r _ [41, 37, 47, 48, 49, 50, 51, 52, 53, 54, 55, 56, 57] (by decide +kernel) (by decide +kernel)
set_option maxRecDepth 20000 in
theorem gX11_parcels_X11_answer : GoodIn wsX11_parcels (wsV RX11 71 RX11 yX11_answer wsX11_answer) := goodIn_app (goodIn_of _ (by decide +kernel)) ggX11_parcels_X11_answer
theorem dX11_parcels_0 : decode cX11_parcels 0 = .ok (.aload_n 0, 1) := by decide +kernel
theorem dX11_parcels_1 : decode cX11_parcels 1 = .ok (.iload_n 1, 1) := by decide +kernel
theorem dX11_parcels_2 : decode cX11_parcels 2 = .ok (.invokevirtual 189, 3) := by decide +kernel
theorem dX11_parcels_5 : decode cX11_parcels 5 = .ok (.astore_n 2, 1) := by decide +kernel
theorem dX11_parcels_6 : decode cX11_parcels 6 = .ok (.aload_n 2, 1) := by decide +kernel
theorem dX11_parcels_7 : decode cX11_parcels 7 = .ok (.ifnonnull 9, 3) := by decide +kernel
theorem dX11_parcels_10 : decode cX11_parcels 10 = .ok (.aload_n 0, 1) := by decide +kernel
theorem dX11_parcels_11 : decode cX11_parcels 11 = .ok (.iconst 1, 1) := by decide +kernel
theorem dX11_parcels_12 : decode cX11_parcels 12 = .ok (.invokevirtual 59, 3) := by decide +kernel
theorem dX11_parcels_15 : decode cX11_parcels 15 = .ok (.ireturn, 1) := by decide +kernel
theorem dX11_parcels_16 : decode cX11_parcels 16 = .ok (.aload_n 0, 1) := by decide +kernel
theorem dX11_parcels_17 : decode cX11_parcels 17 = .ok (.aload_n 2, 1) := by decide +kernel
theorem dX11_parcels_18 : decode cX11_parcels 18 = .ok (.getfield 230, 3) := by decide +kernel
theorem dX11_parcels_21 : decode cX11_parcels 21 = .ok (.invokevirtual 90, 3) := by decide +kernel
theorem dX11_parcels_24 : decode cX11_parcels 24 = .ok (.invokevirtual 71, 3) := by decide +kernel
theorem dX11_parcels_27 : decode cX11_parcels 27 = .ok (.ireturn, 1) := by decide +kernel
set_option maxRecDepth 20000 in
theorem ggX11_parcel_X11_standingLoanAt : GoodIn wsX11_parcel wsX11_standingLoanAt := goodIn_r _ [5, 6, 7, 8, 9, 10, 11, 12, 13, 14, 15, 16, 17, 18, 19, 20, 21, 22, 23, 24, 25, 26, 27, 28, 29, 30, 31, 60, 61, 62, 63, 64, 65, 66, 67, 68, 69, 70, 71, 72, 73, 74, 75, 76, 77, 78] (by decide +kernel) (by decide +kernel)
set_option maxRecDepth 20000 in
theorem gX11_parcel_X11_standingLoanAt : GoodIn wsX11_parcel (wsV RX11 189 RX11 yX11_standingLoanAt wsX11_standingLoanAt) := goodIn_app (goodIn_of _ (by decide +kernel)) ggX11_parcel_X11_standingLoanAt
set_option maxRecDepth 20000 in
theorem ggX11_parcel_X4_parcelWith : GoodIn wsX11_parcel wsX4_parcelWith := goodIn_r _ [36, 37, 38, 39, 10, 11, 12, 13, 14, 40, 16, 17, 18, 19, 20, 21, 22, 23, 24, 25, 26, 27, 28, 29, 30, 31, 41, 42, 43, 44, 45, 46, 47, 48, 49, 50, 71, 72, 73, 74, 75, 76, 77, 78, 79, 80, 81, 82, 83, 84, 85, 86, 87, 88, 89, 90, 91] (by decide +kernel) (by decide +kernel)
set_option maxRecDepth 20000 in
theorem gX11_parcel_X4_parcelWith : GoodIn wsX11_parcel (wsV RX11 233 RX4 yX4_parcelWith wsX4_parcelWith) := goodIn_app (goodIn_of _ (by decide +kernel)) ggX11_parcel_X4_parcelWith
set_option maxRecDepth 20000 in
theorem ggX11_parcel_X11_refuse : GoodIn wsX11_parcel wsX11_refuse := goodIn_r _ [54, 55, 60, 61, 62, 63, 64, 65, 66, 67, 68, 69, 70] (by decide +kernel) (by decide +kernel)
set_option maxRecDepth 20000 in
theorem gX11_parcel_X11_refuse : GoodIn wsX11_parcel (wsV RX11 59 RX11 yX11_refuse wsX11_refuse) := goodIn_app (goodIn_of _ (by decide +kernel)) ggX11_parcel_X11_refuse
set_option maxRecDepth 20000 in
theorem ggX11_parcel_X11_answer : GoodIn wsX11_parcel wsX11_answer := goodIn_r _ [59, 55, 60, 61, 62, 63, 64, 65, 66, 67, 68, 69, 70] (by decide +kernel) (by decide +kernel)
set_option maxRecDepth 20000 in
theorem gX11_parcel_X11_answer : GoodIn wsX11_parcel (wsV RX11 71 RX11 yX11_answer wsX11_answer) := goodIn_app (goodIn_of _ (by decide +kernel)) ggX11_parcel_X11_answer
theorem dX11_parcel_0 : decode cX11_parcel 0 = .ok (.aload_n 0, 1) := by decide +kernel
theorem dX11_parcel_1 : decode cX11_parcel 1 = .ok (.iload_n 1, 1) := by decide +kernel
theorem dX11_parcel_2 : decode cX11_parcel 2 = .ok (.invokevirtual 189, 3) := by decide +kernel
theorem dX11_parcel_5 : decode cX11_parcel 5 = .ok (.astore_n 3, 1) := by decide +kernel
theorem dX11_parcel_6 : decode cX11_parcel 6 = .ok (.aload_n 3, 1) := by decide +kernel
theorem dX11_parcel_7 : decode cX11_parcel 7 = .ok (.ifnonnull 7, 3) := by decide +kernel
theorem dX11_parcel_10 : decode cX11_parcel 10 = .ok (.iconst (-1), 1) := by decide +kernel
theorem dX11_parcel_11 : decode cX11_parcel 11 = .ok (.goto 8, 3) := by decide +kernel
theorem dX11_parcel_14 : decode cX11_parcel 14 = .ok (.aload_n 3, 1) := by decide +kernel
theorem dX11_parcel_15 : decode cX11_parcel 15 = .ok (.iload_n 2, 1) := by decide +kernel
theorem dX11_parcel_16 : decode cX11_parcel 16 = .ok (.invokevirtual 233, 3) := by decide +kernel
theorem dX11_parcel_19 : decode cX11_parcel 19 = .ok (.istore 4, 2) := by decide +kernel
theorem dX11_parcel_21 : decode cX11_parcel 21 = .ok (.iload 4, 2) := by decide +kernel
theorem dX11_parcel_23 : decode cX11_parcel 23 = .ok (.iconst (-1), 1) := by decide +kernel
theorem dX11_parcel_24 : decode cX11_parcel 24 = .ok (.if_icmp .ne 9, 3) := by decide +kernel
theorem dX11_parcel_27 : decode cX11_parcel 27 = .ok (.aload_n 0, 1) := by decide +kernel
theorem dX11_parcel_28 : decode cX11_parcel 28 = .ok (.iconst 1, 1) := by decide +kernel
theorem dX11_parcel_29 : decode cX11_parcel 29 = .ok (.invokevirtual 59, 3) := by decide +kernel
theorem dX11_parcel_32 : decode cX11_parcel 32 = .ok (.ireturn, 1) := by decide +kernel
theorem dX11_parcel_33 : decode cX11_parcel 33 = .ok (.aload_n 0, 1) := by decide +kernel
theorem dX11_parcel_34 : decode cX11_parcel 34 = .ok (.iload 4, 2) := by decide +kernel
theorem dX11_parcel_36 : decode cX11_parcel 36 = .ok (.invokevirtual 71, 3) := by decide +kernel
theorem dX11_parcel_39 : decode cX11_parcel 39 = .ok (.ireturn, 1) := by decide +kernel
set_option maxRecDepth 20000 in
theorem ggX11_weight_X11_standingLoanAt : GoodIn wsX11_weight wsX11_standingLoanAt := goodIn_r _ [6, 7, 8, 9, 10, 11, 12, 13, 14, 15, 16, 17, 18, 19, 20, 21, 22, 23, 24, 25, 26, 27, 28, 29, 30, 31, 32, 55, 56, 57, 58, 59, 60, 61, 62, 63, 64, 65, 66, 67, 68, 69, 70, 71, 72, 73] (by decide +kernel) (by decide +kernel)
set_option maxRecDepth 20000 in
theorem gX11_weight_X11_standingLoanAt : GoodIn wsX11_weight (wsV RX11 189 RX11 yX11_standingLoanAt wsX11_standingLoanAt) := goodIn_app (goodIn_of _ (by decide +kernel)) ggX11_weight_X11_standingLoanAt
set_option maxRecDepth 20000 in
theorem ggX11_weight_X4_parcelAt : GoodIn wsX11_weight wsX4_parcelAt := goodIn_r _ [37, 38, 39, 40, 11, 12, 13, 14, 15, 41, 17, 18, 19, 20, 21, 22, 23, 24, 25, 26, 27, 28, 29, 30, 31, 32, 66, 67, 68, 69, 70, 71, 72, 73] (by decide +kernel) (by decide +kernel)
set_option maxRecDepth 20000 in
theorem gX11_weight_X4_parcelAt : GoodIn wsX11_weight (wsV RX11 236 RX4 yX4_parcelAt wsX4_parcelAt) := goodIn_app (goodIn_of _ (by decide +kernel)) ggX11_weight_X4_parcelAt
set_option maxRecDepth 20000 in
theorem ggX11_weight_X11_refuse : GoodIn wsX11_weight wsX11_refuse := goodIn_r _ [45, 46, 55, 56, 57, 58, 59, 60, 61, 62, 63, 64, 65] (by decide +kernel) (by decide +kernel)
set_option maxRecDepth 20000 in
theorem gX11_weight_X11_refuse : GoodIn wsX11_weight (wsV RX11 59 RX11 yX11_refuse wsX11_refuse) := goodIn_app (goodIn_of _ (by decide +kernel)) ggX11_weight_X11_refuse
set_option maxRecDepth 20000 in
theorem ggX11_weight_X11_answer : GoodIn wsX11_weight wsX11_answer := goodIn_r _ [50, 46, 55, 56, 57, 58, 59, 60, 61, 62, 63, 64, 65] (by decide +kernel) (by decide +kernel)
set_option maxRecDepth 20000 in
theorem gX11_weight_X11_answer : GoodIn wsX11_weight (wsV RX11 71 RX11 yX11_answer wsX11_answer) := goodIn_app (goodIn_of _ (by decide +kernel)) ggX11_weight_X11_answer
theorem dX11_weight_0 : decode cX11_weight 0 = .ok (.aload_n 0, 1) := by decide +kernel
theorem dX11_weight_1 : decode cX11_weight 1 = .ok (.iload_n 1, 1) := by decide +kernel
theorem dX11_weight_2 : decode cX11_weight 2 = .ok (.invokevirtual 189, 3) := by decide +kernel
theorem dX11_weight_5 : decode cX11_weight 5 = .ok (.astore_n 3, 1) := by decide +kernel
theorem dX11_weight_6 : decode cX11_weight 6 = .ok (.aload_n 3, 1) := by decide +kernel
theorem dX11_weight_7 : decode cX11_weight 7 = .ok (.ifnonnull 7, 3) := by decide +kernel
theorem dX11_weight_10 : decode cX11_weight 10 = .ok (.aconst_null, 1) := by decide +kernel
theorem dX11_weight_11 : decode cX11_weight 11 = .ok (.goto 8, 3) := by decide +kernel
theorem dX11_weight_14 : decode cX11_weight 14 = .ok (.aload_n 3, 1) := by decide +kernel
theorem dX11_weight_15 : decode cX11_weight 15 = .ok (.iload_n 2, 1) := by decide +kernel
theorem dX11_weight_16 : decode cX11_weight 16 = .ok (.invokevirtual 236, 3) := by decide +kernel
theorem dX11_weight_19 : decode cX11_weight 19 = .ok (.astore 4, 2) := by decide +kernel
theorem dX11_weight_21 : decode cX11_weight 21 = .ok (.aload 4, 2) := by decide +kernel
theorem dX11_weight_23 : decode cX11_weight 23 = .ok (.ifnonnull 9, 3) := by decide +kernel
theorem dX11_weight_26 : decode cX11_weight 26 = .ok (.aload_n 0, 1) := by decide +kernel
theorem dX11_weight_27 : decode cX11_weight 27 = .ok (.iconst 1, 1) := by decide +kernel
theorem dX11_weight_28 : decode cX11_weight 28 = .ok (.invokevirtual 59, 3) := by decide +kernel
theorem dX11_weight_31 : decode cX11_weight 31 = .ok (.ireturn, 1) := by decide +kernel
theorem dX11_weight_32 : decode cX11_weight 32 = .ok (.aload_n 0, 1) := by decide +kernel
theorem dX11_weight_33 : decode cX11_weight 33 = .ok (.aload 4, 2) := by decide +kernel
theorem dX11_weight_35 : decode cX11_weight 35 = .ok (.getfield 240, 3) := by decide +kernel
theorem dX11_weight_38 : decode cX11_weight 38 = .ok (.invokevirtual 71, 3) := by decide +kernel
theorem dX11_weight_41 : decode cX11_weight 41 = .ok (.ireturn, 1) := by decide +kernel
set_option maxRecDepth 20000 in
theorem ggX11_guard_X11_standingLoanAt : GoodIn wsX11_guard wsX11_standingLoanAt := goodIn_r _ [5, 6, 7, 8, 9, 10, 11, 12, 13, 14, 15, 16, 17, 18, 19, 20, 21, 22, 23, 24, 25, 26, 27, 28, 29, 30, 31, 61, 62, 63, 64, 65, 66, 67, 68, 69, 70, 71, 72, 73, 74, 75, 76, 77, 78, 79] (by decide +kernel) (by decide +kernel)
set_option maxRecDepth 20000 in
theorem gX11_guard_X11_standingLoanAt : GoodIn wsX11_guard (wsV RX11 189 RX11 yX11_standingLoanAt wsX11_standingLoanAt) := goodIn_app (goodIn_of _ (by decide +kernel)) ggX11_guard_X11_standingLoanAt
set_option maxRecDepth 20000 in
theorem ggX11_guard_X4_parcelAt : GoodIn wsX11_guard wsX4_parcelAt := goodIn_r _ [36, 37, 38, 39, 10, 11, 12, 13, 14, 40, 16, 17, 18, 19, 20, 21, 22, 23, 24, 25, 26, 27, 28, 29, 30, 31, 72, 73, 74, 75, 76, 77, 78, 79] (by decide +kernel) (by decide +kernel)
set_option maxRecDepth 20000 in
theorem gX11_guard_X4_parcelAt : GoodIn wsX11_guard (wsV RX11 236 RX4 yX4_parcelAt wsX4_parcelAt) := goodIn_app (goodIn_of _ (by decide +kernel)) ggX11_guard_X4_parcelAt
set_option maxRecDepth 20000 in
theorem ggX11_guard_X11_refuseAsked : GoodIn wsX11_guard wsX11_refuseAsked := goodIn_r _ [44, 45, 46, 47, 4, 48, 49, 61, 62, 63, 64, 65, 66, 67, 68, 69, 70, 71] (by decide +kernel) (by decide +kernel)
set_option maxRecDepth 20000 in
theorem gX11_guard_X11_refuseAsked : GoodIn wsX11_guard (wsV RX11 152 RX11 yX11_refuseAsked wsX11_refuseAsked) := goodIn_app (goodIn_of _ (by decide +kernel)) ggX11_guard_X11_refuseAsked
set_option maxRecDepth 20000 in
theorem ggX11_guard_X5_courierOn : GoodIn wsX11_guard wsX5_courierOn := goodIn_r _ [54, 55, 56, 80, 81, 82, 83] (by decide +kernel) (by decide +kernel)
set_option maxRecDepth 20000 in
theorem gX11_guard_X5_courierOn : GoodIn wsX11_guard (wsV RX11 245 RX5 yX5_courierOn wsX5_courierOn) := goodIn_app (goodIn_of _ (by decide +kernel)) ggX11_guard_X5_courierOn
set_option maxRecDepth 20000 in
theorem ggX11_guard_X11_answer : GoodIn wsX11_guard wsX11_answer := goodIn_r _ [60, 49, 61, 62, 63, 64, 65, 66, 67, 68, 69, 70, 71] (by decide +kernel) (by decide +kernel)
set_option maxRecDepth 20000 in
theorem gX11_guard_X11_answer : GoodIn wsX11_guard (wsV RX11 71 RX11 yX11_answer wsX11_answer) := goodIn_app (goodIn_of _ (by decide +kernel)) ggX11_guard_X11_answer
theorem dX11_guard_0 : decode cX11_guard 0 = .ok (.aload_n 0, 1) := by decide +kernel
theorem dX11_guard_1 : decode cX11_guard 1 = .ok (.iload_n 1, 1) := by decide +kernel
theorem dX11_guard_2 : decode cX11_guard 2 = .ok (.invokevirtual 189, 3) := by decide +kernel
theorem dX11_guard_5 : decode cX11_guard 5 = .ok (.astore 4, 2) := by decide +kernel
theorem dX11_guard_7 : decode cX11_guard 7 = .ok (.aload 4, 2) := by decide +kernel
theorem dX11_guard_9 : decode cX11_guard 9 = .ok (.ifnonnull 7, 3) := by decide +kernel
theorem dX11_guard_12 : decode cX11_guard 12 = .ok (.aconst_null, 1) := by decide +kernel
theorem dX11_guard_13 : decode cX11_guard 13 = .ok (.goto 9, 3) := by decide +kernel
theorem dX11_guard_16 : decode cX11_guard 16 = .ok (.aload 4, 2) := by decide +kernel
theorem dX11_guard_18 : decode cX11_guard 18 = .ok (.iload_n 2, 1) := by decide +kernel
theorem dX11_guard_19 : decode cX11_guard 19 = .ok (.invokevirtual 236, 3) := by decide +kernel
theorem dX11_guard_22 : decode cX11_guard 22 = .ok (.astore 5, 2) := by decide +kernel
theorem dX11_guard_24 : decode cX11_guard 24 = .ok (.aload 5, 2) := by decide +kernel
theorem dX11_guard_26 : decode cX11_guard 26 = .ok (.ifnull 12, 3) := by decide +kernel
theorem dX11_guard_29 : decode cX11_guard 29 = .ok (.iload_n 3, 1) := by decide +kernel
theorem dX11_guard_30 : decode cX11_guard 30 = .ok (.ifCond .eq 23, 3) := by decide +kernel
theorem dX11_guard_33 : decode cX11_guard 33 = .ok (.iload_n 3, 1) := by decide +kernel
theorem dX11_guard_34 : decode cX11_guard 34 = .ok (.iconst 1, 1) := by decide +kernel
theorem dX11_guard_35 : decode cX11_guard 35 = .ok (.if_icmp .eq 18, 3) := by decide +kernel
theorem dX11_guard_38 : decode cX11_guard 38 = .ok (.aload_n 0, 1) := by decide +kernel
theorem dX11_guard_39 : decode cX11_guard 39 = .ok (.aload 5, 2) := by decide +kernel
theorem dX11_guard_41 : decode cX11_guard 41 = .ok (.ifnull 7, 3) := by decide +kernel
theorem dX11_guard_44 : decode cX11_guard 44 = .ok (.iconst 1, 1) := by decide +kernel
theorem dX11_guard_45 : decode cX11_guard 45 = .ok (.goto 4, 3) := by decide +kernel
theorem dX11_guard_48 : decode cX11_guard 48 = .ok (.iconst 0, 1) := by decide +kernel
theorem dX11_guard_49 : decode cX11_guard 49 = .ok (.invokevirtual 152, 3) := by decide +kernel
theorem dX11_guard_52 : decode cX11_guard 52 = .ok (.ireturn, 1) := by decide +kernel
theorem dX11_guard_53 : decode cX11_guard 53 = .ok (.aload_n 0, 1) := by decide +kernel
theorem dX11_guard_54 : decode cX11_guard 54 = .ok (.aload 5, 2) := by decide +kernel
theorem dX11_guard_56 : decode cX11_guard 56 = .ok (.iload_n 3, 1) := by decide +kernel
theorem dX11_guard_57 : decode cX11_guard 57 = .ok (.invokevirtual 245, 3) := by decide +kernel
theorem dX11_guard_60 : decode cX11_guard 60 = .ok (.invokevirtual 71, 3) := by decide +kernel
theorem dX11_guard_63 : decode cX11_guard 63 = .ok (.ireturn, 1) := by decide +kernel
set_option maxRecDepth 20000 in
theorem ggX11_busy_X11_courierAt : GoodIn wsX11_busy wsX11_courierAt := goodIn_r _ [6, 7, 8, 9, 10, 11, 12, 13, 14, 15, 16, 17, 18, 19, 20, 21, 22, 23, 24, 25, 26, 27, 28, 29, 30, 31, 50, 51, 52, 53, 54, 55, 56, 57, 58, 59, 60, 61, 62, 63] (by decide +kernel) (by decide +kernel)
set_option maxRecDepth 20000 in
theorem gX11_busy_X11_courierAt : GoodIn wsX11_busy (wsV RX11 248 RX11 yX11_courierAt wsX11_courierAt) := goodIn_app (goodIn_of _ (by decide +kernel)) ggX11_busy_X11_courierAt
set_option maxRecDepth 20000 in
theorem ggX11_busy_X11_refuse : GoodIn wsX11_busy wsX11_refuse := goodIn_r _ [35, 36, 50, 51, 52, 53, 54, 55, 56, 57, 58, 59, 60] (by decide +kernel) (by decide +kernel)
set_option maxRecDepth 20000 in
theorem gX11_busy_X11_refuse : GoodIn wsX11_busy (wsV RX11 59 RX11 yX11_refuse wsX11_refuse) := goodIn_app (goodIn_of _ (by decide +kernel)) ggX11_busy_X11_refuse
set_option maxRecDepth 20000 in
theorem ggX11_busy_X1_daysTaken : GoodIn wsX11_busy wsX1_daysTaken := goodIn_r _ [41, 42, 64, 65] (by decide +kernel) (by decide +kernel)
set_option maxRecDepth 20000 in
theorem gX11_busy_X1_daysTaken : GoodIn wsX11_busy (wsV RX11 253 RX1 yX1_daysTaken wsX1_daysTaken) := goodIn_app (goodIn_of _ (by decide +kernel)) ggX11_busy_X1_daysTaken
set_option maxRecDepth 20000 in
theorem ggX11_busy_X11_answer : GoodIn wsX11_busy wsX11_answer := goodIn_r _ [46, 36, 50, 51, 52, 53, 54, 55, 56, 57, 58, 59, 60] (by decide +kernel) (by decide +kernel)
set_option maxRecDepth 20000 in
theorem gX11_busy_X11_answer : GoodIn wsX11_busy (wsV RX11 71 RX11 yX11_answer wsX11_answer) := goodIn_app (goodIn_of _ (by decide +kernel)) ggX11_busy_X11_answer
theorem dX11_busy_0 : decode cX11_busy 0 = .ok (.aload_n 0, 1) := by decide +kernel
theorem dX11_busy_1 : decode cX11_busy 1 = .ok (.iload_n 1, 1) := by decide +kernel
theorem dX11_busy_2 : decode cX11_busy 2 = .ok (.invokevirtual 248, 3) := by decide +kernel
theorem dX11_busy_5 : decode cX11_busy 5 = .ok (.astore_n 2, 1) := by decide +kernel
theorem dX11_busy_6 : decode cX11_busy 6 = .ok (.aload_n 2, 1) := by decide +kernel
theorem dX11_busy_7 : decode cX11_busy 7 = .ok (.ifnonnull 9, 3) := by decide +kernel
theorem dX11_busy_10 : decode cX11_busy 10 = .ok (.aload_n 0, 1) := by decide +kernel
theorem dX11_busy_11 : decode cX11_busy 11 = .ok (.iconst 1, 1) := by decide +kernel
theorem dX11_busy_12 : decode cX11_busy 12 = .ok (.invokevirtual 59, 3) := by decide +kernel
theorem dX11_busy_15 : decode cX11_busy 15 = .ok (.ireturn, 1) := by decide +kernel
theorem dX11_busy_16 : decode cX11_busy 16 = .ok (.aload_n 0, 1) := by decide +kernel
theorem dX11_busy_17 : decode cX11_busy 17 = .ok (.aload_n 2, 1) := by decide +kernel
theorem dX11_busy_18 : decode cX11_busy 18 = .ok (.getfield 252, 3) := by decide +kernel
theorem dX11_busy_21 : decode cX11_busy 21 = .ok (.invokevirtual 253, 3) := by decide +kernel
theorem dX11_busy_24 : decode cX11_busy 24 = .ok (.invokevirtual 71, 3) := by decide +kernel
theorem dX11_busy_27 : decode cX11_busy 27 = .ok (.ireturn, 1) := by decide +kernel
set_option maxRecDepth 20000 in
theorem ggX11_with_X11_courierAt : GoodIn wsX11_with wsX11_courierAt := goodIn_r _ [6, 7, 8, 9, 10, 11, 12, 13, 14, 15, 16, 17, 18, 19, 20, 21, 22, 23, 24, 25, 26, 27, 28, 29, 30, 31, 61, 62, 63, 64, 65, 66, 67, 68, 69, 70, 71, 72, 73, 74] (by decide +kernel) (by decide +kernel)
set_option maxRecDepth 20000 in
theorem gX11_with_X11_courierAt : GoodIn wsX11_with (wsV RX11 248 RX11 yX11_courierAt wsX11_courierAt) := goodIn_app (goodIn_of _ (by decide +kernel)) ggX11_with_X11_courierAt
set_option maxRecDepth 20000 in
theorem ggX11_with_X11_isDay : GoodIn wsX11_with wsX11_isDay := goodIn_r _ [34] (by decide +kernel) (by decide +kernel)
set_option maxRecDepth 20000 in
theorem gX11_with_X11_isDay : GoodIn wsX11_with (va_wsS RX11 148 yX11_isDay wsX11_isDay) := goodIn_app (goodIn_of _ (by decide +kernel)) ggX11_with_X11_isDay
set_option maxRecDepth 20000 in
theorem ggX11_with_X11_refuseAsked : GoodIn wsX11_with wsX11_refuseAsked := goodIn_r _ [38, 39, 40, 41, 5, 42, 43, 61, 62, 63, 64, 65, 66, 67, 68, 69, 70, 71] (by decide +kernel) (by decide +kernel)
set_option maxRecDepth 20000 in
theorem gX11_with_X11_refuseAsked : GoodIn wsX11_with (wsV RX11 152 RX11 yX11_refuseAsked wsX11_refuseAsked) := goodIn_app (goodIn_of _ (by decide +kernel)) ggX11_with_X11_refuseAsked
set_option maxRecDepth 20000 in
theorem ggX11_with_X1_loanOn : GoodIn wsX11_with wsX1_loanOn := goodIn_r _ [48, 49, 50, 51, 52, 53, 33, 5, 34, 75, 76] (by decide +kernel) (by decide +kernel)
set_option maxRecDepth 20000 in
theorem gX11_with_X1_loanOn : GoodIn wsX11_with (wsV RX11 215 RX1 yX1_loanOn wsX1_loanOn) := goodIn_app (goodIn_of _ (by decide +kernel)) ggX11_with_X1_loanOn
set_option maxRecDepth 20000 in
theorem ggX11_with_X11_answer : GoodIn wsX11_with wsX11_answer := goodIn_r _ [57, 43, 61, 62, 63, 64, 65, 66, 67, 68, 69, 70, 71] (by decide +kernel) (by decide +kernel)
set_option maxRecDepth 20000 in
theorem gX11_with_X11_answer : GoodIn wsX11_with (wsV RX11 71 RX11 yX11_answer wsX11_answer) := goodIn_app (goodIn_of _ (by decide +kernel)) ggX11_with_X11_answer
theorem dX11_with_0 : decode cX11_with 0 = .ok (.aload_n 0, 1) := by decide +kernel
theorem dX11_with_1 : decode cX11_with 1 = .ok (.iload_n 1, 1) := by decide +kernel
theorem dX11_with_2 : decode cX11_with 2 = .ok (.invokevirtual 248, 3) := by decide +kernel
theorem dX11_with_5 : decode cX11_with 5 = .ok (.astore_n 3, 1) := by decide +kernel
theorem dX11_with_6 : decode cX11_with 6 = .ok (.aload_n 3, 1) := by decide +kernel
theorem dX11_with_7 : decode cX11_with 7 = .ok (.ifnull 10, 3) := by decide +kernel
theorem dX11_with_10 : decode cX11_with 10 = .ok (.iload_n 2, 1) := by decide +kernel
theorem dX11_with_11 : decode cX11_with 11 = .ok (.invokestatic 148, 3) := by decide +kernel
theorem dX11_with_14 : decode cX11_with 14 = .ok (.ifCond .ne 17, 3) := by decide +kernel
theorem dX11_with_17 : decode cX11_with 17 = .ok (.aload_n 0, 1) := by decide +kernel
theorem dX11_with_18 : decode cX11_with 18 = .ok (.aload_n 3, 1) := by decide +kernel
theorem dX11_with_19 : decode cX11_with 19 = .ok (.ifnull 7, 3) := by decide +kernel
theorem dX11_with_22 : decode cX11_with 22 = .ok (.iconst 1, 1) := by decide +kernel
theorem dX11_with_23 : decode cX11_with 23 = .ok (.goto 4, 3) := by decide +kernel
theorem dX11_with_26 : decode cX11_with 26 = .ok (.iconst 0, 1) := by decide +kernel
theorem dX11_with_27 : decode cX11_with 27 = .ok (.invokevirtual 152, 3) := by decide +kernel
theorem dX11_with_30 : decode cX11_with 30 = .ok (.ireturn, 1) := by decide +kernel
theorem dX11_with_31 : decode cX11_with 31 = .ok (.aload_n 0, 1) := by decide +kernel
theorem dX11_with_32 : decode cX11_with 32 = .ok (.aload_n 3, 1) := by decide +kernel
theorem dX11_with_33 : decode cX11_with 33 = .ok (.getfield 252, 3) := by decide +kernel
theorem dX11_with_36 : decode cX11_with 36 = .ok (.iload_n 2, 1) := by decide +kernel
theorem dX11_with_37 : decode cX11_with 37 = .ok (.invokevirtual 215, 3) := by decide +kernel
theorem dX11_with_40 : decode cX11_with 40 = .ok (.invokevirtual 71, 3) := by decide +kernel
theorem dX11_with_43 : decode cX11_with 43 = .ok (.ireturn, 1) := by decide +kernel
set_option maxRecDepth 20000 in
theorem ggX11_ready_X11_courierAt : GoodIn wsX11_ready wsX11_courierAt := goodIn_r _ [6, 7, 8, 9, 10, 11, 12, 13, 14, 15, 16, 17, 18, 19, 20, 21, 22, 23, 24, 25, 26, 27, 28, 29, 30, 31, 64, 65, 66, 67, 68, 69, 70, 71, 72, 73, 74, 75, 76, 77] (by decide +kernel) (by decide +kernel)
set_option maxRecDepth 20000 in
theorem gX11_ready_X11_courierAt : GoodIn wsX11_ready (wsV RX11 248 RX11 yX11_courierAt wsX11_courierAt) := goodIn_app (goodIn_of _ (by decide +kernel)) ggX11_ready_X11_courierAt
set_option maxRecDepth 20000 in
theorem ggX11_ready_X11_isDay : GoodIn wsX11_ready wsX11_isDay := goodIn_r _ [34] (by decide +kernel) (by decide +kernel)
set_option maxRecDepth 20000 in
theorem gX11_ready_X11_isDay : GoodIn wsX11_ready (va_wsS RX11 148 yX11_isDay wsX11_isDay) := goodIn_app (goodIn_of _ (by decide +kernel)) ggX11_ready_X11_isDay
set_option maxRecDepth 20000 in
theorem ggX11_ready_X11_isLength : GoodIn wsX11_ready wsX11_isLength := goodIn_r _ [37] (by decide +kernel) (by decide +kernel)
set_option maxRecDepth 20000 in
theorem gX11_ready_X11_isLength : GoodIn wsX11_ready (va_wsS RX11 220 yX11_isLength wsX11_isLength) := goodIn_app (goodIn_of _ (by decide +kernel)) ggX11_ready_X11_isLength
set_option maxRecDepth 20000 in
theorem ggX11_ready_X11_refuseAsked : GoodIn wsX11_ready wsX11_refuseAsked := goodIn_r _ [41, 42, 43, 44, 5, 45, 46, 64, 65, 66, 67, 68, 69, 70, 71, 72, 73, 74] (by decide +kernel) (by decide +kernel)
set_option maxRecDepth 20000 in
theorem gX11_ready_X11_refuseAsked : GoodIn wsX11_ready (wsV RX11 152 RX11 yX11_refuseAsked wsX11_refuseAsked) := goodIn_app (goodIn_of _ (by decide +kernel)) ggX11_ready_X11_refuseAsked
set_option maxRecDepth 20000 in
theorem ggX11_ready_X1_firstOpen : GoodIn wsX11_ready wsX1_firstOpen := goodIn_r _ [51, 52, 53, 54, 55, 56, 78, 79] (by decide +kernel) (by decide +kernel)
set_option maxRecDepth 20000 in
theorem gX11_ready_X1_firstOpen : GoodIn wsX11_ready (wsV RX11 223 RX1 yX1_firstOpen wsX1_firstOpen) := goodIn_app (goodIn_of _ (by decide +kernel)) ggX11_ready_X1_firstOpen
set_option maxRecDepth 20000 in
theorem ggX11_ready_X11_answer : GoodIn wsX11_ready wsX11_answer := goodIn_r _ [60, 46, 64, 65, 66, 67, 68, 69, 70, 71, 72, 73, 74] (by decide +kernel) (by decide +kernel)
set_option maxRecDepth 20000 in
theorem gX11_ready_X11_answer : GoodIn wsX11_ready (wsV RX11 71 RX11 yX11_answer wsX11_answer) := goodIn_app (goodIn_of _ (by decide +kernel)) ggX11_ready_X11_answer
theorem dX11_ready_0 : decode cX11_ready 0 = .ok (.aload_n 0, 1) := by decide +kernel
theorem dX11_ready_1 : decode cX11_ready 1 = .ok (.iload_n 1, 1) := by decide +kernel
theorem dX11_ready_2 : decode cX11_ready 2 = .ok (.invokevirtual 248, 3) := by decide +kernel
theorem dX11_ready_5 : decode cX11_ready 5 = .ok (.astore 4, 2) := by decide +kernel
theorem dX11_ready_7 : decode cX11_ready 7 = .ok (.aload 4, 2) := by decide +kernel
theorem dX11_ready_9 : decode cX11_ready 9 = .ok (.ifnull 17, 3) := by decide +kernel
theorem dX11_ready_12 : decode cX11_ready 12 = .ok (.iload_n 2, 1) := by decide +kernel
theorem dX11_ready_13 : decode cX11_ready 13 = .ok (.invokestatic 148, 3) := by decide +kernel
theorem dX11_ready_16 : decode cX11_ready 16 = .ok (.ifCond .eq 10, 3) := by decide +kernel
theorem dX11_ready_19 : decode cX11_ready 19 = .ok (.iload_n 3, 1) := by decide +kernel
theorem dX11_ready_20 : decode cX11_ready 20 = .ok (.invokestatic 220, 3) := by decide +kernel
theorem dX11_ready_23 : decode cX11_ready 23 = .ok (.ifCond .ne 18, 3) := by decide +kernel
theorem dX11_ready_26 : decode cX11_ready 26 = .ok (.aload_n 0, 1) := by decide +kernel
theorem dX11_ready_27 : decode cX11_ready 27 = .ok (.aload 4, 2) := by decide +kernel
theorem dX11_ready_29 : decode cX11_ready 29 = .ok (.ifnull 7, 3) := by decide +kernel
theorem dX11_ready_32 : decode cX11_ready 32 = .ok (.iconst 1, 1) := by decide +kernel
theorem dX11_ready_33 : decode cX11_ready 33 = .ok (.goto 4, 3) := by decide +kernel
theorem dX11_ready_36 : decode cX11_ready 36 = .ok (.iconst 0, 1) := by decide +kernel
theorem dX11_ready_37 : decode cX11_ready 37 = .ok (.invokevirtual 152, 3) := by decide +kernel
theorem dX11_ready_40 : decode cX11_ready 40 = .ok (.ireturn, 1) := by decide +kernel
theorem dX11_ready_41 : decode cX11_ready 41 = .ok (.aload_n 0, 1) := by decide +kernel
theorem dX11_ready_42 : decode cX11_ready 42 = .ok (.aload 4, 2) := by decide +kernel
theorem dX11_ready_44 : decode cX11_ready 44 = .ok (.getfield 252, 3) := by decide +kernel
theorem dX11_ready_47 : decode cX11_ready 47 = .ok (.iload_n 2, 1) := by decide +kernel
theorem dX11_ready_48 : decode cX11_ready 48 = .ok (.iload_n 3, 1) := by decide +kernel
theorem dX11_ready_49 : decode cX11_ready 49 = .ok (.invokevirtual 223, 3) := by decide +kernel
theorem dX11_ready_52 : decode cX11_ready 52 = .ok (.invokevirtual 71, 3) := by decide +kernel
theorem dX11_ready_55 : decode cX11_ready 55 = .ok (.ireturn, 1) := by decide +kernel
set_option maxRecDepth 20000 in
theorem ggX11_cost_X11_standingLoanAt : GoodIn wsX11_cost wsX11_standingLoanAt := goodIn_r _ [5, 6, 7, 8, 9, 10, 11, 12, 13, 14, 15, 16, 17, 18, 19, 20, 21, 22, 23, 24, 25, 26, 27, 28, 29, 30, 31, 134, 135, 136, 137, 138, 139, 140, 141, 142, 143, 144, 145, 146, 147, 148, 149, 150, 151, 152] (by decide +kernel) (by decide +kernel)
set_option maxRecDepth 20000 in
theorem gX11_cost_X11_standingLoanAt : GoodIn wsX11_cost (wsV RX11 189 RX11 yX11_standingLoanAt wsX11_standingLoanAt) := goodIn_app (goodIn_of _ (by decide +kernel)) ggX11_cost_X11_standingLoanAt
set_option maxRecDepth 20000 in
theorem ggX11_cost_X11_isDay : GoodIn wsX11_cost wsX11_isDay := goodIn_r _ [34] (by decide +kernel) (by decide +kernel)
set_option maxRecDepth 20000 in
theorem gX11_cost_X11_isDay : GoodIn wsX11_cost (va_wsS RX11 148 yX11_isDay wsX11_isDay) := goodIn_app (goodIn_of _ (by decide +kernel)) ggX11_cost_X11_isDay
set_option maxRecDepth 20000 in
theorem ggX11_cost_X11_refuseAsked : GoodIn wsX11_cost wsX11_refuseAsked := goodIn_r _ [38, 39, 40, 41, 4, 42, 43, 134, 135, 136, 137, 138, 139, 140, 141, 142, 143, 144] (by decide +kernel) (by decide +kernel)
set_option maxRecDepth 20000 in
theorem gX11_cost_X11_refuseAsked : GoodIn wsX11_cost (wsV RX11 152 RX11 yX11_refuseAsked wsX11_refuseAsked) := goodIn_app (goodIn_of _ (by decide +kernel)) ggX11_cost_X11_refuseAsked
set_option maxRecDepth 20000 in
theorem ggX11_cost_X4_costOn : GoodIn wsX11_cost wsX4_costOn := goodIn_r _ [48, 49, 50, 51, 52, 53, 54, 55, 47, 56, 57, 58, 59, 60, 61, 62, 63, 64, 65, 66, 67, 68, 10, 11, 12, 13, 14, 69, 16, 17, 18, 19, 20, 21, 22, 23, 24, 25, 26, 27, 28, 29, 30, 31, 70, 71, 72, 73, 74, 75, 76, 77, 78, 79, 80, 81, 82, 83, 84, 85, 86, 87, 88, 89, 90, 91, 92, 93, 94, 95, 96, 97, 98, 99, 100, 101, 102, 103, 104, 105, 106, 107, 108, 109, 110, 111, 112, 113, 114, 115, 116, 117, 118, 119, 120, 121, 122, 123, 124, 125, 126, 127, 128, 129, 145, 146, 147, 148, 149, 153, 154, 155, 156, 157, 150, 151, 152, 158, 159, 160, 161, 162, 163, 164, 165, 166, 167, 168, 169, 170, 171, 172, 173, 174, 175, 176, 177] (by decide +kernel) (by decide +kernel)
set_option maxRecDepth 20000 in
theorem gX11_cost_X4_costOn : GoodIn wsX11_cost (wsV RX11 256 RX4 yX4_costOn wsX4_costOn) := goodIn_app (goodIn_of _ (by decide +kernel)) ggX11_cost_X4_costOn
set_option maxRecDepth 20000 in
theorem ggX11_cost_X11_answer : GoodIn wsX11_cost wsX11_answer := goodIn_r _ [133, 43, 134, 135, 136, 137, 138, 139, 140, 141, 142, 143, 144] (by decide +kernel) (by decide +kernel)
set_option maxRecDepth 20000 in
theorem gX11_cost_X11_answer : GoodIn wsX11_cost (wsV RX11 71 RX11 yX11_answer wsX11_answer) := goodIn_app (goodIn_of _ (by decide +kernel)) ggX11_cost_X11_answer
theorem dX11_cost_0 : decode cX11_cost 0 = .ok (.aload_n 0, 1) := by decide +kernel
theorem dX11_cost_1 : decode cX11_cost 1 = .ok (.iload_n 1, 1) := by decide +kernel
theorem dX11_cost_2 : decode cX11_cost 2 = .ok (.invokevirtual 189, 3) := by decide +kernel
theorem dX11_cost_5 : decode cX11_cost 5 = .ok (.astore_n 3, 1) := by decide +kernel
theorem dX11_cost_6 : decode cX11_cost 6 = .ok (.aload_n 3, 1) := by decide +kernel
theorem dX11_cost_7 : decode cX11_cost 7 = .ok (.ifnull 10, 3) := by decide +kernel
theorem dX11_cost_10 : decode cX11_cost 10 = .ok (.iload_n 2, 1) := by decide +kernel
theorem dX11_cost_11 : decode cX11_cost 11 = .ok (.invokestatic 148, 3) := by decide +kernel
theorem dX11_cost_14 : decode cX11_cost 14 = .ok (.ifCond .ne 17, 3) := by decide +kernel
theorem dX11_cost_17 : decode cX11_cost 17 = .ok (.aload_n 0, 1) := by decide +kernel
theorem dX11_cost_18 : decode cX11_cost 18 = .ok (.aload_n 3, 1) := by decide +kernel
theorem dX11_cost_19 : decode cX11_cost 19 = .ok (.ifnull 7, 3) := by decide +kernel
theorem dX11_cost_22 : decode cX11_cost 22 = .ok (.iconst 1, 1) := by decide +kernel
theorem dX11_cost_23 : decode cX11_cost 23 = .ok (.goto 4, 3) := by decide +kernel
theorem dX11_cost_26 : decode cX11_cost 26 = .ok (.iconst 0, 1) := by decide +kernel
theorem dX11_cost_27 : decode cX11_cost 27 = .ok (.invokevirtual 152, 3) := by decide +kernel
theorem dX11_cost_30 : decode cX11_cost 30 = .ok (.ireturn, 1) := by decide +kernel
theorem dX11_cost_31 : decode cX11_cost 31 = .ok (.aload_n 0, 1) := by decide +kernel
theorem dX11_cost_32 : decode cX11_cost 32 = .ok (.aload_n 3, 1) := by decide +kernel
theorem dX11_cost_33 : decode cX11_cost 33 = .ok (.iload_n 2, 1) := by decide +kernel
theorem dX11_cost_34 : decode cX11_cost 34 = .ok (.invokevirtual 256, 3) := by decide +kernel
theorem dX11_cost_37 : decode cX11_cost 37 = .ok (.invokevirtual 71, 3) := by decide +kernel
theorem dX11_cost_40 : decode cX11_cost 40 = .ok (.ireturn, 1) := by decide +kernel
set_option maxRecDepth 20000 in
theorem ggX11_premium_X11_standingLoanAt : GoodIn wsX11_premium wsX11_standingLoanAt := goodIn_r _ [6, 7, 8, 9, 10, 11, 12, 13, 14, 15, 16, 17, 18, 19, 20, 21, 22, 23, 24, 25, 26, 27, 28, 29, 30, 31, 32, 146, 147, 148, 149, 150, 151, 152, 153, 154, 155, 156, 157, 158, 159, 160, 161, 162, 163, 164] (by decide +kernel) (by decide +kernel)
set_option maxRecDepth 20000 in
theorem gX11_premium_X11_standingLoanAt : GoodIn wsX11_premium (wsV RX11 189 RX11 yX11_standingLoanAt wsX11_standingLoanAt) := goodIn_app (goodIn_of _ (by decide +kernel)) ggX11_premium_X11_standingLoanAt
set_option maxRecDepth 20000 in
theorem ggX11_premium_X11_isDay : GoodIn wsX11_premium wsX11_isDay := goodIn_r _ [35] (by decide +kernel) (by decide +kernel)
set_option maxRecDepth 20000 in
theorem gX11_premium_X11_isDay : GoodIn wsX11_premium (va_wsS RX11 148 yX11_isDay wsX11_isDay) := goodIn_app (goodIn_of _ (by decide +kernel)) ggX11_premium_X11_isDay
set_option maxRecDepth 20000 in
theorem ggX11_premium_X11_refuseAsked : GoodIn wsX11_premium wsX11_refuseAsked := goodIn_r _ [39, 40, 41, 42, 5, 43, 44, 146, 147, 148, 149, 150, 151, 152, 153, 154, 155, 156] (by decide +kernel) (by decide +kernel)
set_option maxRecDepth 20000 in
theorem gX11_premium_X11_refuseAsked : GoodIn wsX11_premium (wsV RX11 152 RX11 yX11_refuseAsked wsX11_refuseAsked) := goodIn_app (goodIn_of _ (by decide +kernel)) ggX11_premium_X11_refuseAsked
set_option maxRecDepth 20000 in
theorem ggX11_premium_X4_costBetween : GoodIn wsX11_premium wsX4_costBetween := goodIn_r _ [49, 50, 51, 52, 53, 54, 55, 56, 57, 58, 59, 60, 48, 61, 62, 63, 64, 65, 66, 67, 68, 69, 70, 71, 72, 73, 74, 75, 76, 77, 78, 79, 80, 11, 12, 13, 14, 15, 81, 17, 18, 19, 20, 21, 22, 23, 24, 25, 26, 27, 28, 29, 30, 31, 32, 82, 83, 84, 85, 86, 87, 88, 89, 90, 91, 92, 93, 94, 95, 96, 97, 98, 99, 100, 101, 102, 103, 104, 105, 106, 107, 108, 109, 110, 111, 112, 113, 114, 115, 116, 117, 118, 119, 120, 121, 122, 123, 124, 125, 126, 127, 128, 129, 130, 131, 132, 133, 134, 135, 136, 137, 138, 139, 140, 141, 157, 158, 159, 160, 161, 165, 166, 167, 168, 169, 162, 163, 164, 170, 171, 172, 173, 174, 175, 176, 177, 178, 179, 180, 181, 182, 183, 184, 185, 186, 187, 188, 189] (by decide +kernel) (by decide +kernel)
set_option maxRecDepth 20000 in
theorem gX11_premium_X4_costBetween : GoodIn wsX11_premium (wsV RX11 259 RX4 yX4_costBetween wsX4_costBetween) := goodIn_app (goodIn_of _ (by decide +kernel)) ggX11_premium_X4_costBetween
set_option maxRecDepth 20000 in
theorem ggX11_premium_X11_answer : GoodIn wsX11_premium wsX11_answer := goodIn_r _ [145, 44, 146, 147, 148, 149, 150, 151, 152, 153, 154, 155, 156] (by decide +kernel) (by decide +kernel)
set_option maxRecDepth 20000 in
theorem gX11_premium_X11_answer : GoodIn wsX11_premium (wsV RX11 71 RX11 yX11_answer wsX11_answer) := goodIn_app (goodIn_of _ (by decide +kernel)) ggX11_premium_X11_answer
theorem dX11_premium_0 : decode cX11_premium 0 = .ok (.aload_n 0, 1) := by decide +kernel
theorem dX11_premium_1 : decode cX11_premium 1 = .ok (.iload_n 1, 1) := by decide +kernel
theorem dX11_premium_2 : decode cX11_premium 2 = .ok (.invokevirtual 189, 3) := by decide +kernel
theorem dX11_premium_5 : decode cX11_premium 5 = .ok (.astore 4, 2) := by decide +kernel
theorem dX11_premium_7 : decode cX11_premium 7 = .ok (.aload 4, 2) := by decide +kernel
theorem dX11_premium_9 : decode cX11_premium 9 = .ok (.ifnull 22, 3) := by decide +kernel
theorem dX11_premium_12 : decode cX11_premium 12 = .ok (.iload_n 2, 1) := by decide +kernel
theorem dX11_premium_13 : decode cX11_premium 13 = .ok (.invokestatic 148, 3) := by decide +kernel
theorem dX11_premium_16 : decode cX11_premium 16 = .ok (.ifCond .eq 15, 3) := by decide +kernel
theorem dX11_premium_19 : decode cX11_premium 19 = .ok (.iload_n 3, 1) := by decide +kernel
theorem dX11_premium_20 : decode cX11_premium 20 = .ok (.invokestatic 148, 3) := by decide +kernel
theorem dX11_premium_23 : decode cX11_premium 23 = .ok (.ifCond .eq 8, 3) := by decide +kernel
theorem dX11_premium_26 : decode cX11_premium 26 = .ok (.iload_n 2, 1) := by decide +kernel
theorem dX11_premium_27 : decode cX11_premium 27 = .ok (.iload_n 3, 1) := by decide +kernel
theorem dX11_premium_28 : decode cX11_premium 28 = .ok (.if_icmp .le 18, 3) := by decide +kernel
theorem dX11_premium_31 : decode cX11_premium 31 = .ok (.aload_n 0, 1) := by decide +kernel
theorem dX11_premium_32 : decode cX11_premium 32 = .ok (.aload 4, 2) := by decide +kernel
theorem dX11_premium_34 : decode cX11_premium 34 = .ok (.ifnull 7, 3) := by decide +kernel
theorem dX11_premium_37 : decode cX11_premium 37 = .ok (.iconst 1, 1) := by decide +kernel
theorem dX11_premium_38 : decode cX11_premium 38 = .ok (.goto 4, 3) := by decide +kernel
theorem dX11_premium_41 : decode cX11_premium 41 = .ok (.iconst 0, 1) := by decide +kernel
theorem dX11_premium_42 : decode cX11_premium 42 = .ok (.invokevirtual 152, 3) := by decide +kernel
theorem dX11_premium_45 : decode cX11_premium 45 = .ok (.ireturn, 1) := by decide +kernel
theorem dX11_premium_46 : decode cX11_premium 46 = .ok (.aload_n 0, 1) := by decide +kernel
theorem dX11_premium_47 : decode cX11_premium 47 = .ok (.aload 4, 2) := by decide +kernel
theorem dX11_premium_49 : decode cX11_premium 49 = .ok (.iload_n 2, 1) := by decide +kernel
theorem dX11_premium_50 : decode cX11_premium 50 = .ok (.iload_n 3, 1) := by decide +kernel
theorem dX11_premium_51 : decode cX11_premium 51 = .ok (.invokevirtual 259, 3) := by decide +kernel
theorem dX11_premium_54 : decode cX11_premium 54 = .ok (.ldc2_w 263, 3) := by decide +kernel
theorem dX11_premium_57 : decode cX11_premium 57 = .ok (.ldiv, 1) := by decide +kernel
theorem dX11_premium_58 : decode cX11_premium 58 = .ok (.l2i, 1) := by decide +kernel
theorem dX11_premium_59 : decode cX11_premium 59 = .ok (.invokevirtual 71, 3) := by decide +kernel
theorem dX11_premium_62 : decode cX11_premium 62 = .ok (.ireturn, 1) := by decide +kernel
set_option maxRecDepth 20000 in
theorem ggX11_dearest_X11_standingLoanAt : GoodIn wsX11_dearest wsX11_standingLoanAt := goodIn_r _ [5, 6, 7, 8, 9, 10, 11, 12, 13, 14, 15, 16, 17, 18, 19, 20, 21, 22, 23, 24, 25, 26, 27, 28, 29, 30, 31, 131, 132, 133, 134, 135, 136, 137, 138, 139, 140, 141, 142, 143, 144, 145, 146, 147, 148, 149] (by decide +kernel) (by decide +kernel)
set_option maxRecDepth 20000 in
theorem gX11_dearest_X11_standingLoanAt : GoodIn wsX11_dearest (wsV RX11 189 RX11 yX11_standingLoanAt wsX11_standingLoanAt) := goodIn_app (goodIn_of _ (by decide +kernel)) ggX11_dearest_X11_standingLoanAt
set_option maxRecDepth 20000 in
theorem ggX11_dearest_X11_refuse : GoodIn wsX11_dearest wsX11_refuse := goodIn_r _ [35, 36, 131, 132, 133, 134, 135, 136, 137, 138, 139, 140, 141] (by decide +kernel) (by decide +kernel)
set_option maxRecDepth 20000 in
theorem gX11_dearest_X11_refuse : GoodIn wsX11_dearest (wsV RX11 59 RX11 yX11_refuse wsX11_refuse) := goodIn_app (goodIn_of _ (by decide +kernel)) ggX11_dearest_X11_refuse
set_option maxRecDepth 20000 in
theorem ggX11_dearest_X4_dearestDay : GoodIn wsX11_dearest wsX4_dearestDay := goodIn_r _ [41, 42, 43, 44, 45, 40, 46, 47, 48, 49, 50, 51, 52, 53, 54, 55, 56, 57, 58, 59, 60, 61, 62, 63, 64, 65, 10, 11, 12, 13, 14, 66, 16, 17, 18, 19, 20, 21, 22, 23, 24, 25, 26, 27, 28, 29, 30, 31, 67, 68, 69, 70, 71, 72, 73, 74, 75, 76, 77, 78, 79, 80, 81, 82, 83, 84, 85, 86, 87, 88, 89, 90, 91, 92, 93, 94, 95, 96, 97, 98, 99, 100, 101, 102, 103, 104, 105, 106, 107, 108, 109, 110, 111, 112, 113, 114, 115, 116, 117, 118, 119, 120, 121, 122, 123, 124, 125, 126, 142, 143, 144, 145, 146, 150, 151, 152, 153, 154, 147, 148, 149, 155, 156, 157, 158, 159, 160, 161, 162, 163, 164, 165, 166, 167, 168, 169, 170, 171, 172, 173, 174] (by decide +kernel) (by decide +kernel)
set_option maxRecDepth 20000 in
theorem gX11_dearest_X4_dearestDay : GoodIn wsX11_dearest (wsV RX11 265 RX4 yX4_dearestDay wsX4_dearestDay) := goodIn_app (goodIn_of _ (by decide +kernel)) ggX11_dearest_X4_dearestDay
set_option maxRecDepth 20000 in
theorem ggX11_dearest_X11_answer : GoodIn wsX11_dearest wsX11_answer := goodIn_r _ [130, 36, 131, 132, 133, 134, 135, 136, 137, 138, 139, 140, 141] (by decide +kernel) (by decide +kernel)
set_option maxRecDepth 20000 in
theorem gX11_dearest_X11_answer : GoodIn wsX11_dearest (wsV RX11 71 RX11 yX11_answer wsX11_answer) := goodIn_app (goodIn_of _ (by decide +kernel)) ggX11_dearest_X11_answer
theorem dX11_dearest_0 : decode cX11_dearest 0 = .ok (.aload_n 0, 1) := by decide +kernel
theorem dX11_dearest_1 : decode cX11_dearest 1 = .ok (.iload_n 1, 1) := by decide +kernel
theorem dX11_dearest_2 : decode cX11_dearest 2 = .ok (.invokevirtual 189, 3) := by decide +kernel
theorem dX11_dearest_5 : decode cX11_dearest 5 = .ok (.astore_n 2, 1) := by decide +kernel
theorem dX11_dearest_6 : decode cX11_dearest 6 = .ok (.aload_n 2, 1) := by decide +kernel
theorem dX11_dearest_7 : decode cX11_dearest 7 = .ok (.ifnonnull 9, 3) := by decide +kernel
theorem dX11_dearest_10 : decode cX11_dearest 10 = .ok (.aload_n 0, 1) := by decide +kernel
theorem dX11_dearest_11 : decode cX11_dearest 11 = .ok (.iconst 1, 1) := by decide +kernel
theorem dX11_dearest_12 : decode cX11_dearest 12 = .ok (.invokevirtual 59, 3) := by decide +kernel
theorem dX11_dearest_15 : decode cX11_dearest 15 = .ok (.ireturn, 1) := by decide +kernel
theorem dX11_dearest_16 : decode cX11_dearest 16 = .ok (.aload_n 0, 1) := by decide +kernel
theorem dX11_dearest_17 : decode cX11_dearest 17 = .ok (.aload_n 2, 1) := by decide +kernel
theorem dX11_dearest_18 : decode cX11_dearest 18 = .ok (.invokevirtual 265, 3) := by decide +kernel
theorem dX11_dearest_21 : decode cX11_dearest 21 = .ok (.invokevirtual 71, 3) := by decide +kernel
theorem dX11_dearest_24 : decode cX11_dearest 24 = .ok (.ireturn, 1) := by decide +kernel
set_option maxRecDepth 20000 in
theorem ggX11_harms_X11_thingAt : GoodIn wsX11_harms wsX11_thingAt := goodIn_r _ [5, 6, 7, 8, 9, 10, 11, 12, 13, 14, 15, 16, 17, 18, 19, 20, 21, 22, 23, 24, 25, 26, 27, 28, 29, 30, 71, 72, 73, 74, 75, 76, 77, 78, 79, 80, 81, 82, 83, 84] (by decide +kernel) (by decide +kernel)
set_option maxRecDepth 20000 in
theorem gX11_harms_X11_thingAt : GoodIn wsX11_harms (wsV RX11 144 RX11 yX11_thingAt wsX11_thingAt) := goodIn_app (goodIn_of _ (by decide +kernel)) ggX11_harms_X11_thingAt
set_option maxRecDepth 20000 in
theorem ggX11_harms_X11_isDay : GoodIn wsX11_harms wsX11_isDay := goodIn_r _ [33] (by decide +kernel) (by decide +kernel)
set_option maxRecDepth 20000 in
theorem gX11_harms_X11_isDay : GoodIn wsX11_harms (va_wsS RX11 148 yX11_isDay wsX11_isDay) := goodIn_app (goodIn_of _ (by decide +kernel)) ggX11_harms_X11_isDay
set_option maxRecDepth 20000 in
theorem ggX11_harms_X11_refuseAsked : GoodIn wsX11_harms wsX11_refuseAsked := goodIn_r _ [37, 38, 39, 40, 4, 41, 42, 71, 72, 73, 74, 75, 76, 77, 78, 79, 80, 81] (by decide +kernel) (by decide +kernel)
set_option maxRecDepth 20000 in
theorem gX11_harms_X11_refuseAsked : GoodIn wsX11_harms (wsV RX11 152 RX11 yX11_refuseAsked wsX11_refuseAsked) := goodIn_app (goodIn_of _ (by decide +kernel)) ggX11_harms_X11_refuseAsked
set_option maxRecDepth 20000 in
theorem ggX11_harms_X10_harmsOn : GoodIn wsX11_harms wsX10_harmsOn := goodIn_r _ [47, 48, 49, 50, 46, 51, 52, 53, 54, 55, 9, 10, 11, 12, 13, 56, 15, 16, 17, 18, 19, 20, 21, 22, 23, 24, 25, 26, 27, 28, 29, 30, 57, 58, 59, 60, 61, 62, 63, 64, 65, 66, 85, 86, 87, 88, 89, 90, 91, 92, 93, 94, 95, 96, 97, 82, 83, 84] (by decide +kernel) (by decide +kernel)
set_option maxRecDepth 20000 in
theorem gX11_harms_X10_harmsOn : GoodIn wsX11_harms (wsV RX11 268 RX10 yX10_harmsOn wsX10_harmsOn) := goodIn_app (goodIn_of _ (by decide +kernel)) ggX11_harms_X10_harmsOn
set_option maxRecDepth 20000 in
theorem ggX11_harms_X11_answer : GoodIn wsX11_harms wsX11_answer := goodIn_r _ [70, 42, 71, 72, 73, 74, 75, 76, 77, 78, 79, 80, 81] (by decide +kernel) (by decide +kernel)
set_option maxRecDepth 20000 in
theorem gX11_harms_X11_answer : GoodIn wsX11_harms (wsV RX11 71 RX11 yX11_answer wsX11_answer) := goodIn_app (goodIn_of _ (by decide +kernel)) ggX11_harms_X11_answer
theorem dX11_harms_0 : decode cX11_harms 0 = .ok (.aload_n 0, 1) := by decide +kernel
theorem dX11_harms_1 : decode cX11_harms 1 = .ok (.iload_n 1, 1) := by decide +kernel
theorem dX11_harms_2 : decode cX11_harms 2 = .ok (.invokevirtual 144, 3) := by decide +kernel
theorem dX11_harms_5 : decode cX11_harms 5 = .ok (.astore_n 3, 1) := by decide +kernel
theorem dX11_harms_6 : decode cX11_harms 6 = .ok (.aload_n 3, 1) := by decide +kernel
theorem dX11_harms_7 : decode cX11_harms 7 = .ok (.ifnull 10, 3) := by decide +kernel
theorem dX11_harms_10 : decode cX11_harms 10 = .ok (.iload_n 2, 1) := by decide +kernel
theorem dX11_harms_11 : decode cX11_harms 11 = .ok (.invokestatic 148, 3) := by decide +kernel
theorem dX11_harms_14 : decode cX11_harms 14 = .ok (.ifCond .ne 17, 3) := by decide +kernel
theorem dX11_harms_17 : decode cX11_harms 17 = .ok (.aload_n 0, 1) := by decide +kernel
theorem dX11_harms_18 : decode cX11_harms 18 = .ok (.aload_n 3, 1) := by decide +kernel
theorem dX11_harms_19 : decode cX11_harms 19 = .ok (.ifnull 7, 3) := by decide +kernel
theorem dX11_harms_22 : decode cX11_harms 22 = .ok (.iconst 1, 1) := by decide +kernel
theorem dX11_harms_23 : decode cX11_harms 23 = .ok (.goto 4, 3) := by decide +kernel
theorem dX11_harms_26 : decode cX11_harms 26 = .ok (.iconst 0, 1) := by decide +kernel
theorem dX11_harms_27 : decode cX11_harms 27 = .ok (.invokevirtual 152, 3) := by decide +kernel
theorem dX11_harms_30 : decode cX11_harms 30 = .ok (.ireturn, 1) := by decide +kernel
theorem dX11_harms_31 : decode cX11_harms 31 = .ok (.aload_n 0, 1) := by decide +kernel
theorem dX11_harms_32 : decode cX11_harms 32 = .ok (.aload_n 3, 1) := by decide +kernel
theorem dX11_harms_33 : decode cX11_harms 33 = .ok (.iload_n 2, 1) := by decide +kernel
theorem dX11_harms_34 : decode cX11_harms 34 = .ok (.invokevirtual 268, 3) := by decide +kernel
theorem dX11_harms_37 : decode cX11_harms 37 = .ok (.invokevirtual 71, 3) := by decide +kernel
theorem dX11_harms_40 : decode cX11_harms 40 = .ok (.ireturn, 1) := by decide +kernel
set_option maxRecDepth 20000 in
theorem ggX11_note_X11_thingAt : GoodIn wsX11_note wsX11_thingAt := goodIn_r _ [6, 7, 8, 9, 10, 11, 12, 13, 14, 15, 16, 17, 18, 19, 20, 21, 22, 23, 24, 25, 26, 27, 28, 29, 30, 31, 116, 117, 118, 119, 120, 121, 122, 123, 124, 125, 126, 127, 128, 129] (by decide +kernel) (by decide +kernel)
set_option maxRecDepth 20000 in
theorem gX11_note_X11_thingAt : GoodIn wsX11_note (wsV RX11 144 RX11 yX11_thingAt wsX11_thingAt) := goodIn_app (goodIn_of _ (by decide +kernel)) ggX11_note_X11_thingAt
set_option maxRecDepth 20000 in
theorem ggX11_note_X11_isDay : GoodIn wsX11_note wsX11_isDay := goodIn_r _ [34] (by decide +kernel) (by decide +kernel)
set_option maxRecDepth 20000 in
theorem gX11_note_X11_isDay : GoodIn wsX11_note (va_wsS RX11 148 yX11_isDay wsX11_isDay) := goodIn_app (goodIn_of _ (by decide +kernel)) ggX11_note_X11_isDay
set_option maxRecDepth 20000 in
theorem ggX11_note_X11_refuseAsked : GoodIn wsX11_note wsX11_refuseAsked := goodIn_r _ [38, 39, 40, 41, 5, 42, 43, 116, 117, 118, 119, 120, 121, 122, 123, 124, 125, 126] (by decide +kernel) (by decide +kernel)
set_option maxRecDepth 20000 in
theorem gX11_note_X11_refuseAsked : GoodIn wsX11_note (wsV RX11 152 RX11 yX11_refuseAsked wsX11_refuseAsked) := goodIn_app (goodIn_of _ (by decide +kernel)) ggX11_note_X11_refuseAsked
set_option maxRecDepth 20000 in
theorem ggX11_note_X10_latestReport : GoodIn wsX11_note wsX10_latestReport := goodIn_r _ [48, 49, 50, 51, 52, 10, 11, 12, 13, 14, 53, 16, 17, 18, 19, 20, 21, 22, 23, 24, 25, 26, 27, 28, 29, 30, 31, 130, 131, 132, 133, 134, 135, 136, 137, 138, 112, 113, 114, 115, 127, 128, 129] (by decide +kernel) (by decide +kernel)
set_option maxRecDepth 20000 in
theorem gX11_note_X10_latestReport : GoodIn wsX11_note (wsV RX11 271 RX10 yX10_latestReport wsX10_latestReport) := goodIn_app (goodIn_of _ (by decide +kernel)) ggX11_note_X10_latestReport
set_option maxRecDepth 20000 in
theorem ggX11_note_X10_reportAt : GoodIn wsX11_note wsX10_reportAt := goodIn_r _ [57, 49, 50, 52, 10, 11, 12, 13, 14, 53, 16, 17, 18, 19, 20, 21, 22, 23, 24, 25, 26, 27, 28, 29, 30, 31, 130, 131, 132, 133, 134, 135, 136, 137, 138, 127, 128, 129] (by decide +kernel) (by decide +kernel)
set_option maxRecDepth 20000 in
theorem gX11_note_X10_reportAt : GoodIn wsX11_note (wsV RX11 274 RX10 yX10_reportAt wsX10_reportAt) := goodIn_app (goodIn_of _ (by decide +kernel)) ggX11_note_X10_reportAt
set_option maxRecDepth 20000 in
theorem ggX11_note_X11_refuse : GoodIn wsX11_note wsX11_refuse := goodIn_r _ [42, 43, 116, 117, 118, 119, 120, 121, 122, 123, 124, 125, 126] (by decide +kernel) (by decide +kernel)
set_option maxRecDepth 20000 in
theorem gX11_note_X11_refuse : GoodIn wsX11_note (wsV RX11 59 RX11 yX11_refuse wsX11_refuse) := goodIn_app (goodIn_of _ (by decide +kernel)) ggX11_note_X11_refuse
set_option maxRecDepth 20000 in
theorem ggX11_note_X11_answerByte : GoodIn wsX11_note wsX11_answerByte := goodIn_r _ [61, 62, 63, 64, 65, 66, 67, 68, 69, 70, 71, 72, 73, 39, 40, 41, 5, 42, 43, 74, 75, 76, 77, 78, 79, 80, 81, 82, 83, 84, 85, 86, 87, 88, 89, 90, 24, 25, 26, 91, 92, 93, 94, 95, 96, 97, 98, 99, 100, 101, 102, 103, 104, 105, 106, 107, 108, 109, 110, 111, 139, 140, 141, 142, 116, 117, 118, 119, 120, 121, 122, 123, 124, 125, 126] (by decide +kernel) (by decide +kernel)
set_option maxRecDepth 20000 in
theorem gX11_note_X11_answerByte : GoodIn wsX11_note (wsV RX11 281 RX11 yX11_answerByte wsX11_answerByte) := goodIn_app (goodIn_of _ (by decide +kernel)) ggX11_note_X11_answerByte
