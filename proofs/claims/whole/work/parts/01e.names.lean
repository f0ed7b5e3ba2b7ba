theorem dX12_sizeIn_76 : decode cX12_sizeIn 76 = .ok (.ireturn, 1) := by decide +kernel
set_option maxRecDepth 20000 in
theorem ggX12_damageOf_X12_aheadOf : GoodIn wsX12_damageOf wsX12_aheadOf := goodIn_r _ [11, 5, 6, 12, 13, 14, 10, 15, 16, 30, 31, 32, 33, 34, 35, 36, 37, 38, 39, 40, 41, 42, 43, 44, 45, 46, 47, 48, 49, 50, 51, 52, 53, 54, 55, 56, 57, 58, 59, 60, 61, 62, 63, 64, 65, 66, 67, 68, 69, 70, 71, 72, 73, 74, 75, 76, 77, 78, 79, 80] (by decide +kernel) (by decide +kernel)
set_option maxRecDepth 20000 in
theorem gX12_damageOf_X12_aheadOf : GoodIn wsX12_damageOf (wsV RX12 169 RX12 yX12_aheadOf wsX12_aheadOf) := goodIn_app (goodIn_of _ (by decide +kernel)) ggX12_damageOf_X12_aheadOf
set_option maxRecDepth 20000 in
theorem ggX12_damageOf_X12_sizeIn : GoodIn wsX12_damageOf wsX12_sizeIn := goodIn_r _ [20, 1, 3, 4, 2, 30, 31, 32, 33, 34, 35, 36, 37, 38, 39, 40, 41, 42, 43, 44, 45, 46, 47, 48, 49, 50, 51, 52, 53, 54, 55, 56, 57, 58, 59, 60, 61, 62, 63, 64, 65, 66, 67, 68, 69, 70, 71, 72, 73, 74, 75, 76, 77, 78, 79, 80] (by decide +kernel) (by decide +kernel)
set_option maxRecDepth 20000 in
theorem gX12_damageOf_X12_sizeIn : GoodIn wsX12_damageOf (wsV RX12 172 RX12 yX12_sizeIn wsX12_sizeIn) := goodIn_app (goodIn_of _ (by decide +kernel)) ggX12_damageOf_X12_sizeIn
set_option maxRecDepth 20000 in
theorem ggX12_damageOf_X12_valueOn : GoodIn wsX12_damageOf wsX12_valueOn := goodIn_r _ [24, 25, 26, 27, 28, 29, 30, 31, 32, 33, 34, 35, 36, 37, 38, 39, 40, 41, 42, 43, 44, 45, 46, 47, 48, 49, 50, 51, 52, 53, 54, 55, 56, 57, 58, 59, 60, 61, 62, 63, 64, 65, 66, 67, 68, 69, 70, 71, 72, 73, 74, 75, 76, 77, 78, 79, 80] (by decide +kernel) (by decide +kernel)
set_option maxRecDepth 20000 in
theorem gX12_damageOf_X12_valueOn : GoodIn wsX12_damageOf (wsV RX12 122 RX12 yX12_valueOn wsX12_valueOn) := goodIn_app (goodIn_of _ (by decide +kernel)) ggX12_damageOf_X12_valueOn
theorem dX12_damageOf_0 : decode cX12_damageOf 0 = .ok (.aload_n 0, 1) := by decide +kernel
theorem dX12_damageOf_1 : decode cX12_damageOf 1 = .ok (.iload_n 1, 1) := by decide +kernel
theorem dX12_damageOf_2 : decode cX12_damageOf 2 = .ok (.invokevirtual 169, 3) := by decide +kernel
theorem dX12_damageOf_5 : decode cX12_damageOf 5 = .ok (.istore_n 2, 1) := by decide +kernel
theorem dX12_damageOf_6 : decode cX12_damageOf 6 = .ok (.iload_n 2, 1) := by decide +kernel
theorem dX12_damageOf_7 : decode cX12_damageOf 7 = .ok (.ifCond .ge 5, 3) := by decide +kernel
theorem dX12_damageOf_10 : decode cX12_damageOf 10 = .ok (.iconst 0, 1) := by decide +kernel
theorem dX12_damageOf_11 : decode cX12_damageOf 11 = .ok (.ireturn, 1) := by decide +kernel
theorem dX12_damageOf_12 : decode cX12_damageOf 12 = .ok (.iconst 0, 1) := by decide +kernel
theorem dX12_damageOf_13 : decode cX12_damageOf 13 = .ok (.istore_n 3, 1) := by decide +kernel
theorem dX12_damageOf_14 : decode cX12_damageOf 14 = .ok (.iconst 0, 1) := by decide +kernel
theorem dX12_damageOf_15 : decode cX12_damageOf 15 = .ok (.istore 4, 2) := by decide +kernel
theorem dX12_damageOf_17 : decode cX12_damageOf 17 = .ok (.iload 4, 2) := by decide +kernel
theorem dX12_damageOf_19 : decode cX12_damageOf 19 = .ok (.aload_n 0, 1) := by decide +kernel
theorem dX12_damageOf_20 : decode cX12_damageOf 20 = .ok (.getfield 157, 3) := by decide +kernel
theorem dX12_damageOf_23 : decode cX12_damageOf 23 = .ok (.iload_n 1, 1) := by decide +kernel
theorem dX12_damageOf_24 : decode cX12_damageOf 24 = .ok (.iaload, 1) := by decide +kernel
theorem dX12_damageOf_25 : decode cX12_damageOf 25 = .ok (.if_icmp .ge 112, 3) := by decide +kernel
theorem dX12_damageOf_28 : decode cX12_damageOf 28 = .ok (.iload_n 1, 1) := by decide +kernel
theorem dX12_damageOf_29 : decode cX12_damageOf 29 = .ok (.bipush 16, 2) := by decide +kernel
theorem dX12_damageOf_31 : decode cX12_damageOf 31 = .ok (.imul, 1) := by decide +kernel
theorem dX12_damageOf_32 : decode cX12_damageOf 32 = .ok (.iload 4, 2) := by decide +kernel
theorem dX12_damageOf_34 : decode cX12_damageOf 34 = .ok (.iadd, 1) := by decide +kernel
theorem dX12_damageOf_35 : decode cX12_damageOf 35 = .ok (.istore 5, 2) := by decide +kernel
theorem dX12_damageOf_37 : decode cX12_damageOf 37 = .ok (.aload_n 0, 1) := by decide +kernel
theorem dX12_damageOf_38 : decode cX12_damageOf 38 = .ok (.getfield 166, 3) := by decide +kernel
theorem dX12_damageOf_41 : decode cX12_damageOf 41 = .ok (.iload 5, 2) := by decide +kernel
theorem dX12_damageOf_43 : decode cX12_damageOf 43 = .ok (.iaload, 1) := by decide +kernel
theorem dX12_damageOf_44 : decode cX12_damageOf 44 = .ok (.aload_n 0, 1) := by decide +kernel
theorem dX12_damageOf_45 : decode cX12_damageOf 45 = .ok (.iload_n 2, 1) := by decide +kernel
theorem dX12_damageOf_46 : decode cX12_damageOf 46 = .ok (.aload_n 0, 1) := by decide +kernel
theorem dX12_damageOf_47 : decode cX12_damageOf 47 = .ok (.getfield 160, 3) := by decide +kernel
theorem dX12_damageOf_50 : decode cX12_damageOf 50 = .ok (.iload 5, 2) := by decide +kernel
theorem dX12_damageOf_52 : decode cX12_damageOf 52 = .ok (.iaload, 1) := by decide +kernel
theorem dX12_damageOf_53 : decode cX12_damageOf 53 = .ok (.aload_n 0, 1) := by decide +kernel
theorem dX12_damageOf_54 : decode cX12_damageOf 54 = .ok (.getfield 163, 3) := by decide +kernel
theorem dX12_damageOf_57 : decode cX12_damageOf 57 = .ok (.iload 5, 2) := by decide +kernel
theorem dX12_damageOf_59 : decode cX12_damageOf 59 = .ok (.iaload, 1) := by decide +kernel
theorem dX12_damageOf_60 : decode cX12_damageOf 60 = .ok (.invokevirtual 172, 3) := by decide +kernel
theorem dX12_damageOf_63 : decode cX12_damageOf 63 = .ok (.isub, 1) := by decide +kernel
theorem dX12_damageOf_64 : decode cX12_damageOf 64 = .ok (.istore 6, 2) := by decide +kernel
theorem dX12_damageOf_66 : decode cX12_damageOf 66 = .ok (.aload_n 0, 1) := by decide +kernel
theorem dX12_damageOf_67 : decode cX12_damageOf 67 = .ok (.getfield 160, 3) := by decide +kernel
theorem dX12_damageOf_70 : decode cX12_damageOf 70 = .ok (.iload 5, 2) := by decide +kernel
theorem dX12_damageOf_72 : decode cX12_damageOf 72 = .ok (.iaload, 1) := by decide +kernel
theorem dX12_damageOf_73 : decode cX12_damageOf 73 = .ok (.ifCond .ne 7, 3) := by decide +kernel
theorem dX12_damageOf_76 : decode cX12_damageOf 76 = .ok (.iconst 3, 1) := by decide +kernel
theorem dX12_damageOf_77 : decode cX12_damageOf 77 = .ok (.goto 35, 3) := by decide +kernel
theorem dX12_damageOf_80 : decode cX12_damageOf 80 = .ok (.aload_n 0, 1) := by decide +kernel
theorem dX12_damageOf_81 : decode cX12_damageOf 81 = .ok (.getfield 160, 3) := by decide +kernel
theorem dX12_damageOf_84 : decode cX12_damageOf 84 = .ok (.iload 5, 2) := by decide +kernel
theorem dX12_damageOf_86 : decode cX12_damageOf 86 = .ok (.iaload, 1) := by decide +kernel
theorem dX12_damageOf_87 : decode cX12_damageOf 87 = .ok (.iconst 1, 1) := by decide +kernel
theorem dX12_damageOf_88 : decode cX12_damageOf 88 = .ok (.if_icmp .ne 7, 3) := by decide +kernel
theorem dX12_damageOf_91 : decode cX12_damageOf 91 = .ok (.iconst 2, 1) := by decide +kernel
theorem dX12_damageOf_92 : decode cX12_damageOf 92 = .ok (.goto 20, 3) := by decide +kernel
theorem dX12_damageOf_95 : decode cX12_damageOf 95 = .ok (.aload_n 0, 1) := by decide +kernel
theorem dX12_damageOf_96 : decode cX12_damageOf 96 = .ok (.getfield 160, 3) := by decide +kernel
theorem dX12_damageOf_99 : decode cX12_damageOf 99 = .ok (.iload 5, 2) := by decide +kernel
theorem dX12_damageOf_101 : decode cX12_damageOf 101 = .ok (.iaload, 1) := by decide +kernel
theorem dX12_damageOf_102 : decode cX12_damageOf 102 = .ok (.iconst 2, 1) := by decide +kernel
theorem dX12_damageOf_103 : decode cX12_damageOf 103 = .ok (.if_icmp .ne 7, 3) := by decide +kernel
theorem dX12_damageOf_106 : decode cX12_damageOf 106 = .ok (.iconst 5, 1) := by decide +kernel
theorem dX12_damageOf_107 : decode cX12_damageOf 107 = .ok (.goto 5, 3) := by decide +kernel
theorem dX12_damageOf_110 : decode cX12_damageOf 110 = .ok (.bipush 8, 2) := by decide +kernel
theorem dX12_damageOf_112 : decode cX12_damageOf 112 = .ok (.istore 7, 2) := by decide +kernel
theorem dX12_damageOf_114 : decode cX12_damageOf 114 = .ok (.iload_n 3, 1) := by decide +kernel
theorem dX12_damageOf_115 : decode cX12_damageOf 115 = .ok (.iload 6, 2) := by decide +kernel
theorem dX12_damageOf_117 : decode cX12_damageOf 117 = .ok (.ifCond .le 11, 3) := by decide +kernel
theorem dX12_damageOf_120 : decode cX12_damageOf 120 = .ok (.iload 6, 2) := by decide +kernel
theorem dX12_damageOf_122 : decode cX12_damageOf 122 = .ok (.iload 7, 2) := by decide +kernel
theorem dX12_damageOf_124 : decode cX12_damageOf 124 = .ok (.imul, 1) := by decide +kernel
theorem dX12_damageOf_125 : decode cX12_damageOf 125 = .ok (.goto 4, 3) := by decide +kernel
theorem dX12_damageOf_128 : decode cX12_damageOf 128 = .ok (.iconst 0, 1) := by decide +kernel
theorem dX12_damageOf_129 : decode cX12_damageOf 129 = .ok (.iadd, 1) := by decide +kernel
theorem dX12_damageOf_130 : decode cX12_damageOf 130 = .ok (.istore_n 3, 1) := by decide +kernel
theorem dX12_damageOf_131 : decode cX12_damageOf 131 = .ok (.iinc 4 1, 3) := by decide +kernel
theorem dX12_damageOf_134 : decode cX12_damageOf 134 = .ok (.goto (-117), 3) := by decide +kernel
theorem dX12_damageOf_137 : decode cX12_damageOf 137 = .ok (.iload_n 3, 1) := by decide +kernel
theorem dX12_damageOf_138 : decode cX12_damageOf 138 = .ok (.aload_n 0, 1) := by decide +kernel
theorem dX12_damageOf_139 : decode cX12_damageOf 139 = .ok (.aload_n 0, 1) := by decide +kernel
theorem dX12_damageOf_140 : decode cX12_damageOf 140 = .ok (.getfield 148, 3) := by decide +kernel
theorem dX12_damageOf_143 : decode cX12_damageOf 143 = .ok (.iload_n 1, 1) := by decide +kernel
theorem dX12_damageOf_144 : decode cX12_damageOf 144 = .ok (.iaload, 1) := by decide +kernel
theorem dX12_damageOf_145 : decode cX12_damageOf 145 = .ok (.aload_n 0, 1) := by decide +kernel
theorem dX12_damageOf_146 : decode cX12_damageOf 146 = .ok (.getfield 151, 3) := by decide +kernel
theorem dX12_damageOf_149 : decode cX12_damageOf 149 = .ok (.iload_n 1, 1) := by decide +kernel
theorem dX12_damageOf_150 : decode cX12_damageOf 150 = .ok (.iaload, 1) := by decide +kernel
theorem dX12_damageOf_151 : decode cX12_damageOf 151 = .ok (.invokevirtual 122, 3) := by decide +kernel
theorem dX12_damageOf_154 : decode cX12_damageOf 154 = .ok (.imul, 1) := by decide +kernel
theorem dX12_damageOf_155 : decode cX12_damageOf 155 = .ok (.ireturn, 1) := by decide +kernel
set_option maxRecDepth 20000 in
theorem ggX12_bearerOf_X12_aheadOf : GoodIn wsX12_bearerOf wsX12_aheadOf := goodIn_r _ [10, 3, 4, 11, 12, 13, 9, 14, 15, 35, 36, 37, 38, 39, 40, 41, 42, 43, 44, 45, 46, 47, 48, 49, 50, 51, 52, 53, 54, 55, 56, 57, 58, 59, 60, 61, 62, 63, 64, 65, 66, 67, 68, 69, 70, 71, 72, 73, 74, 75, 76, 77, 78, 79, 80, 81, 82, 83, 84, 85] (by decide +kernel) (by decide +kernel)
set_option maxRecDepth 20000 in
theorem gX12_bearerOf_X12_aheadOf : GoodIn wsX12_bearerOf (wsV RX12 169 RX12 yX12_aheadOf wsX12_aheadOf) := goodIn_app (goodIn_of _ (by decide +kernel)) ggX12_bearerOf_X12_aheadOf
set_option maxRecDepth 20000 in
theorem ggX12_bearerOf_X12_isHad : GoodIn wsX12_bearerOf wsX12_isHad := goodIn_r _ [19, 20, 35, 36, 37, 38, 39, 40, 41, 42, 43, 44, 45, 46, 47, 48, 49, 50, 51, 52, 53, 54, 55, 56, 57, 58, 59, 60, 61, 62, 63, 64, 65, 66, 67, 68, 69, 70, 71, 72, 73, 74, 75, 76, 77, 78, 79, 80, 81, 82, 83, 84, 85] (by decide +kernel) (by decide +kernel)
set_option maxRecDepth 20000 in
theorem gX12_bearerOf_X12_isHad : GoodIn wsX12_bearerOf (wsV RX12 68 RX12 yX12_isHad wsX12_isHad) := goodIn_app (goodIn_of _ (by decide +kernel)) ggX12_bearerOf_X12_isHad
set_option maxRecDepth 20000 in
theorem ggX12_bearerOf_X12_isOfLoan : GoodIn wsX12_bearerOf wsX12_isOfLoan := goodIn_r _ [24, 5, 25, 26, 27, 9, 28, 29, 30, 31, 32, 33, 34, 35, 36, 37, 38, 39, 40, 41, 42, 43, 44, 45, 46, 47, 48, 49, 50, 51, 52, 53, 54, 55, 56, 57, 58, 59, 60, 61, 62, 63, 64, 65, 66, 67, 68, 69, 70, 71, 72, 73, 74, 75, 76, 77, 78, 79, 80, 81, 82, 83, 84, 85] (by decide +kernel) (by decide +kernel)
set_option maxRecDepth 20000 in
theorem gX12_bearerOf_X12_isOfLoan : GoodIn wsX12_bearerOf (wsV RX12 72 RX12 yX12_isOfLoan wsX12_isOfLoan) := goodIn_app (goodIn_of _ (by decide +kernel)) ggX12_bearerOf_X12_isOfLoan
theorem dX12_bearerOf_0 : decode cX12_bearerOf 0 = .ok (.aload_n 0, 1) := by decide +kernel
theorem dX12_bearerOf_1 : decode cX12_bearerOf 1 = .ok (.iload_n 1, 1) := by decide +kernel
theorem dX12_bearerOf_2 : decode cX12_bearerOf 2 = .ok (.invokevirtual 169, 3) := by decide +kernel
theorem dX12_bearerOf_5 : decode cX12_bearerOf 5 = .ok (.istore_n 2, 1) := by decide +kernel
theorem dX12_bearerOf_6 : decode cX12_bearerOf 6 = .ok (.iload_n 2, 1) := by decide +kernel
theorem dX12_bearerOf_7 : decode cX12_bearerOf 7 = .ok (.ifCond .ge 5, 3) := by decide +kernel
theorem dX12_bearerOf_10 : decode cX12_bearerOf 10 = .ok (.iconst (-1), 1) := by decide +kernel
theorem dX12_bearerOf_11 : decode cX12_bearerOf 11 = .ok (.ireturn, 1) := by decide +kernel
theorem dX12_bearerOf_12 : decode cX12_bearerOf 12 = .ok (.iconst (-1), 1) := by decide +kernel
theorem dX12_bearerOf_13 : decode cX12_bearerOf 13 = .ok (.istore_n 3, 1) := by decide +kernel
theorem dX12_bearerOf_14 : decode cX12_bearerOf 14 = .ok (.iconst 0, 1) := by decide +kernel
theorem dX12_bearerOf_15 : decode cX12_bearerOf 15 = .ok (.istore 4, 2) := by decide +kernel
theorem dX12_bearerOf_17 : decode cX12_bearerOf 17 = .ok (.iconst 0, 1) := by decide +kernel
theorem dX12_bearerOf_18 : decode cX12_bearerOf 18 = .ok (.istore 5, 2) := by decide +kernel
theorem dX12_bearerOf_20 : decode cX12_bearerOf 20 = .ok (.iload 5, 2) := by decide +kernel
theorem dX12_bearerOf_22 : decode cX12_bearerOf 22 = .ok (.aload_n 0, 1) := by decide +kernel
theorem dX12_bearerOf_23 : decode cX12_bearerOf 23 = .ok (.getfield 20, 3) := by decide +kernel
theorem dX12_bearerOf_26 : decode cX12_bearerOf 26 = .ok (.if_icmp .ge 130, 3) := by decide +kernel
theorem dX12_bearerOf_29 : decode cX12_bearerOf 29 = .ok (.aload_n 0, 1) := by decide +kernel
theorem dX12_bearerOf_30 : decode cX12_bearerOf 30 = .ok (.getfield 23, 3) := by decide +kernel
theorem dX12_bearerOf_33 : decode cX12_bearerOf 33 = .ok (.iload 5, 2) := by decide +kernel
theorem dX12_bearerOf_35 : decode cX12_bearerOf 35 = .ok (.baload, 1) := by decide +kernel
theorem dX12_bearerOf_36 : decode cX12_bearerOf 36 = .ok (.ifCond .eq 114, 3) := by decide +kernel
theorem dX12_bearerOf_39 : decode cX12_bearerOf 39 = .ok (.aload_n 0, 1) := by decide +kernel
theorem dX12_bearerOf_40 : decode cX12_bearerOf 40 = .ok (.iload 5, 2) := by decide +kernel
theorem dX12_bearerOf_42 : decode cX12_bearerOf 42 = .ok (.aload_n 0, 1) := by decide +kernel
theorem dX12_bearerOf_43 : decode cX12_bearerOf 43 = .ok (.getfield 148, 3) := by decide +kernel
theorem dX12_bearerOf_46 : decode cX12_bearerOf 46 = .ok (.iload_n 1, 1) := by decide +kernel
theorem dX12_bearerOf_47 : decode cX12_bearerOf 47 = .ok (.iaload, 1) := by decide +kernel
theorem dX12_bearerOf_48 : decode cX12_bearerOf 48 = .ok (.invokevirtual 68, 3) := by decide +kernel
theorem dX12_bearerOf_51 : decode cX12_bearerOf 51 = .ok (.ifCond .ne 6, 3) := by decide +kernel
theorem dX12_bearerOf_54 : decode cX12_bearerOf 54 = .ok (.goto 96, 3) := by decide +kernel
theorem dX12_bearerOf_57 : decode cX12_bearerOf 57 = .ok (.iconst 0, 1) := by decide +kernel
theorem dX12_bearerOf_58 : decode cX12_bearerOf 58 = .ok (.istore 6, 2) := by decide +kernel
theorem dX12_bearerOf_60 : decode cX12_bearerOf 60 = .ok (.aload_n 0, 1) := by decide +kernel
theorem dX12_bearerOf_61 : decode cX12_bearerOf 61 = .ok (.getfield 151, 3) := by decide +kernel
theorem dX12_bearerOf_64 : decode cX12_bearerOf 64 = .ok (.iload_n 2, 1) := by decide +kernel
theorem dX12_bearerOf_65 : decode cX12_bearerOf 65 = .ok (.iaload, 1) := by decide +kernel
theorem dX12_bearerOf_66 : decode cX12_bearerOf 66 = .ok (.iconst 1, 1) := by decide +kernel
theorem dX12_bearerOf_67 : decode cX12_bearerOf 67 = .ok (.iadd, 1) := by decide +kernel
theorem dX12_bearerOf_68 : decode cX12_bearerOf 68 = .ok (.istore 7, 2) := by decide +kernel
theorem dX12_bearerOf_70 : decode cX12_bearerOf 70 = .ok (.iload 7, 2) := by decide +kernel
theorem dX12_bearerOf_72 : decode cX12_bearerOf 72 = .ok (.aload_n 0, 1) := by decide +kernel
theorem dX12_bearerOf_73 : decode cX12_bearerOf 73 = .ok (.getfield 151, 3) := by decide +kernel
theorem dX12_bearerOf_76 : decode cX12_bearerOf 76 = .ok (.iload_n 1, 1) := by decide +kernel
theorem dX12_bearerOf_77 : decode cX12_bearerOf 77 = .ok (.iaload, 1) := by decide +kernel
theorem dX12_bearerOf_78 : decode cX12_bearerOf 78 = .ok (.if_icmp .gt 30, 3) := by decide +kernel
theorem dX12_bearerOf_81 : decode cX12_bearerOf 81 = .ok (.iload 6, 2) := by decide +kernel
theorem dX12_bearerOf_83 : decode cX12_bearerOf 83 = .ok (.aload_n 0, 1) := by decide +kernel
theorem dX12_bearerOf_84 : decode cX12_bearerOf 84 = .ok (.iload 5, 2) := by decide +kernel
theorem dX12_bearerOf_86 : decode cX12_bearerOf 86 = .ok (.iload 7, 2) := by decide +kernel
theorem dX12_bearerOf_88 : decode cX12_bearerOf 88 = .ok (.invokevirtual 72, 3) := by decide +kernel
theorem dX12_bearerOf_91 : decode cX12_bearerOf 91 = .ok (.ifCond .eq 7, 3) := by decide +kernel
theorem dX12_bearerOf_94 : decode cX12_bearerOf 94 = .ok (.iconst 1, 1) := by decide +kernel
theorem dX12_bearerOf_95 : decode cX12_bearerOf 95 = .ok (.goto 4, 3) := by decide +kernel
theorem dX12_bearerOf_98 : decode cX12_bearerOf 98 = .ok (.iconst 0, 1) := by decide +kernel
theorem dX12_bearerOf_99 : decode cX12_bearerOf 99 = .ok (.iadd, 1) := by decide +kernel
theorem dX12_bearerOf_100 : decode cX12_bearerOf 100 = .ok (.istore 6, 2) := by decide +kernel
theorem dX12_bearerOf_102 : decode cX12_bearerOf 102 = .ok (.iinc 7 1, 3) := by decide +kernel
theorem dX12_bearerOf_105 : decode cX12_bearerOf 105 = .ok (.goto (-35), 3) := by decide +kernel
theorem dX12_bearerOf_108 : decode cX12_bearerOf 108 = .ok (.iload 6, 2) := by decide +kernel
theorem dX12_bearerOf_110 : decode cX12_bearerOf 110 = .ok (.iload 4, 2) := by decide +kernel
theorem dX12_bearerOf_112 : decode cX12_bearerOf 112 = .ok (.if_icmp .gt 31, 3) := by decide +kernel
theorem dX12_bearerOf_115 : decode cX12_bearerOf 115 = .ok (.iload 6, 2) := by decide +kernel
theorem dX12_bearerOf_117 : decode cX12_bearerOf 117 = .ok (.iload 4, 2) := by decide +kernel
theorem dX12_bearerOf_119 : decode cX12_bearerOf 119 = .ok (.if_icmp .ne 31, 3) := by decide +kernel
theorem dX12_bearerOf_122 : decode cX12_bearerOf 122 = .ok (.iload 6, 2) := by decide +kernel
theorem dX12_bearerOf_124 : decode cX12_bearerOf 124 = .ok (.ifCond .le 26, 3) := by decide +kernel
theorem dX12_bearerOf_127 : decode cX12_bearerOf 127 = .ok (.aload_n 0, 1) := by decide +kernel
theorem dX12_bearerOf_128 : decode cX12_bearerOf 128 = .ok (.getfield 61, 3) := by decide +kernel
theorem dX12_bearerOf_131 : decode cX12_bearerOf 131 = .ok (.iload 5, 2) := by decide +kernel
theorem dX12_bearerOf_133 : decode cX12_bearerOf 133 = .ok (.iaload, 1) := by decide +kernel
theorem dX12_bearerOf_134 : decode cX12_bearerOf 134 = .ok (.aload_n 0, 1) := by decide +kernel
theorem dX12_bearerOf_135 : decode cX12_bearerOf 135 = .ok (.getfield 61, 3) := by decide +kernel
theorem dX12_bearerOf_138 : decode cX12_bearerOf 138 = .ok (.iload_n 3, 1) := by decide +kernel
theorem dX12_bearerOf_139 : decode cX12_bearerOf 139 = .ok (.iaload, 1) := by decide +kernel
theorem dX12_bearerOf_140 : decode cX12_bearerOf 140 = .ok (.if_icmp .ge 10, 3) := by decide +kernel
theorem dX12_bearerOf_143 : decode cX12_bearerOf 143 = .ok (.iload 6, 2) := by decide +kernel
theorem dX12_bearerOf_145 : decode cX12_bearerOf 145 = .ok (.istore 4, 2) := by decide +kernel
theorem dX12_bearerOf_147 : decode cX12_bearerOf 147 = .ok (.iload 5, 2) := by decide +kernel
theorem dX12_bearerOf_149 : decode cX12_bearerOf 149 = .ok (.istore_n 3, 1) := by decide +kernel
theorem dX12_bearerOf_150 : decode cX12_bearerOf 150 = .ok (.iinc 5 1, 3) := by decide +kernel
theorem dX12_bearerOf_153 : decode cX12_bearerOf 153 = .ok (.goto (-133), 3) := by decide +kernel
theorem dX12_bearerOf_156 : decode cX12_bearerOf 156 = .ok (.iload_n 3, 1) := by decide +kernel
theorem dX12_bearerOf_157 : decode cX12_bearerOf 157 = .ok (.ireturn, 1) := by decide +kernel
set_option maxRecDepth 20000 in
theorem ggX12_charged_X12_bearerOf : GoodIn wsX12_charged wsX12_bearerOf := goodIn_r _ [7, 8, 9, 10, 11, 12, 13, 14, 15, 6, 16, 17, 18, 19, 20, 1, 21, 22, 23, 24, 25, 26, 27, 28, 29, 30, 31, 32, 33, 34, 35, 36, 37, 38, 39, 61, 62, 63, 64, 65, 66, 67, 68, 69, 70, 71, 72, 73, 74, 75, 76, 77, 78, 79, 80, 81, 82, 83, 84, 85, 86, 87, 88, 89, 90, 91, 92, 93, 94, 95, 96, 97, 98, 99, 100, 101, 102, 103, 104, 105, 106, 107, 108, 109, 110, 111] (by decide +kernel) (by decide +kernel)
set_option maxRecDepth 20000 in
theorem gX12_charged_X12_bearerOf : GoodIn wsX12_charged (wsV RX12 175 RX12 yX12_bearerOf wsX12_bearerOf) := goodIn_app (goodIn_of _ (by decide +kernel)) ggX12_charged_X12_bearerOf
set_option maxRecDepth 20000 in
theorem ggX12_charged_X12_damageOf : GoodIn wsX12_charged wsX12_damageOf := goodIn_r _ [43, 44, 45, 46, 47, 10, 11, 13, 14, 15, 6, 16, 17, 18, 19, 20, 1, 48, 49, 50, 51, 52, 53, 54, 55, 56, 57, 58, 59, 60, 61, 62, 63, 64, 65, 66, 67, 68, 69, 70, 71, 72, 73, 74, 75, 76, 77, 78, 79, 80, 81, 82, 83, 84, 85, 86, 87, 88, 89, 90, 91, 92, 93, 94, 95, 96, 97, 98, 99, 100, 101, 102, 103, 104, 105, 106, 107, 108, 109, 110, 111] (by decide +kernel) (by decide +kernel)
set_option maxRecDepth 20000 in
theorem gX12_charged_X12_damageOf : GoodIn wsX12_charged (wsV RX12 178 RX12 yX12_damageOf wsX12_damageOf) := goodIn_app (goodIn_of _ (by decide +kernel)) ggX12_charged_X12_damageOf
theorem dX12_charged_0 : decode cX12_charged 0 = .ok (.lconst 0, 1) := by decide +kernel
theorem dX12_charged_1 : decode cX12_charged 1 = .ok (.lstore_n 2, 1) := by decide +kernel
theorem dX12_charged_2 : decode cX12_charged 2 = .ok (.iconst 0, 1) := by decide +kernel
theorem dX12_charged_3 : decode cX12_charged 3 = .ok (.istore 4, 2) := by decide +kernel
theorem dX12_charged_5 : decode cX12_charged 5 = .ok (.iload 4, 2) := by decide +kernel
theorem dX12_charged_7 : decode cX12_charged 7 = .ok (.aload_n 0, 1) := by decide +kernel
theorem dX12_charged_8 : decode cX12_charged 8 = .ok (.getfield 145, 3) := by decide +kernel
theorem dX12_charged_11 : decode cX12_charged 11 = .ok (.if_icmp .ge 33, 3) := by decide +kernel
theorem dX12_charged_14 : decode cX12_charged 14 = .ok (.lload_n 2, 1) := by decide +kernel
theorem dX12_charged_15 : decode cX12_charged 15 = .ok (.aload_n 0, 1) := by decide +kernel
theorem dX12_charged_16 : decode cX12_charged 16 = .ok (.iload 4, 2) := by decide +kernel
theorem dX12_charged_18 : decode cX12_charged 18 = .ok (.invokevirtual 175, 3) := by decide +kernel
theorem dX12_charged_21 : decode cX12_charged 21 = .ok (.iload_n 1, 1) := by decide +kernel
theorem dX12_charged_22 : decode cX12_charged 22 = .ok (.if_icmp .ne 13, 3) := by decide +kernel
theorem dX12_charged_25 : decode cX12_charged 25 = .ok (.aload_n 0, 1) := by decide +kernel
theorem dX12_charged_26 : decode cX12_charged 26 = .ok (.iload 4, 2) := by decide +kernel
theorem dX12_charged_28 : decode cX12_charged 28 = .ok (.invokevirtual 178, 3) := by decide +kernel
theorem dX12_charged_31 : decode cX12_charged 31 = .ok (.i2l, 1) := by decide +kernel
theorem dX12_charged_32 : decode cX12_charged 32 = .ok (.goto 4, 3) := by decide +kernel
theorem dX12_charged_35 : decode cX12_charged 35 = .ok (.lconst 0, 1) := by decide +kernel
theorem dX12_charged_36 : decode cX12_charged 36 = .ok (.ladd, 1) := by decide +kernel
theorem dX12_charged_37 : decode cX12_charged 37 = .ok (.lstore_n 2, 1) := by decide +kernel
theorem dX12_charged_38 : decode cX12_charged 38 = .ok (.iinc 4 1, 3) := by decide +kernel
theorem dX12_charged_41 : decode cX12_charged 41 = .ok (.goto (-36), 3) := by decide +kernel
theorem dX12_charged_44 : decode cX12_charged 44 = .ok (.lload_n 2, 1) := by decide +kernel
theorem dX12_charged_45 : decode cX12_charged 45 = .ok (.ldc2_w 181, 3) := by decide +kernel
theorem dX12_charged_48 : decode cX12_charged 48 = .ok (.ldiv, 1) := by decide +kernel
theorem dX12_charged_49 : decode cX12_charged 49 = .ok (.l2i, 1) := by decide +kernel
theorem dX12_charged_50 : decode cX12_charged 50 = .ok (.ireturn, 1) := by decide +kernel
set_option maxRecDepth 20000 in
theorem ggX12_costOf_X12_stageOf : GoodIn wsX12_costOf wsX12_stageOf := goodIn_r _ [11, 12, 6, 13, 14, 41, 42, 43, 44, 45, 46, 47, 48, 49, 50, 51, 52, 53, 54, 55, 56, 57, 58, 59, 60, 61, 62, 63, 64, 65, 66, 67, 68, 69, 70, 71, 72, 73, 74, 75, 76, 77, 78, 79, 80, 81, 82, 83, 84, 85, 86, 87, 88, 89, 90, 91] (by decide +kernel) (by decide +kernel)
set_option maxRecDepth 20000 in
theorem gX12_costOf_X12_stageOf : GoodIn wsX12_costOf (wsV RX12 84 RX12 yX12_stageOf wsX12_stageOf) := goodIn_app (goodIn_of _ (by decide +kernel)) ggX12_costOf_X12_stageOf
set_option maxRecDepth 20000 in
theorem ggX12_costOf_X12_isHad : GoodIn wsX12_costOf wsX12_isHad := goodIn_r _ [18, 19, 41, 42, 43, 44, 45, 46, 47, 48, 49, 50, 51, 52, 53, 54, 55, 56, 57, 58, 59, 60, 61, 62, 63, 64, 65, 66, 67, 68, 69, 70, 71, 72, 73, 74, 75, 76, 77, 78, 79, 80, 81, 82, 83, 84, 85, 86, 87, 88, 89, 90, 91] (by decide +kernel) (by decide +kernel)
set_option maxRecDepth 20000 in
theorem gX12_costOf_X12_isHad : GoodIn wsX12_costOf (wsV RX12 68 RX12 yX12_isHad wsX12_isHad) := goodIn_app (goodIn_of _ (by decide +kernel)) ggX12_costOf_X12_isHad
set_option maxRecDepth 20000 in
theorem ggX12_costOf_X12_valueOn : GoodIn wsX12_costOf wsX12_valueOn := goodIn_r _ [23, 24, 25, 26, 27, 28, 41, 42, 43, 44, 45, 46, 47, 48, 49, 50, 51, 52, 53, 54, 55, 56, 57, 58, 59, 60, 61, 62, 63, 64, 65, 66, 67, 68, 69, 70, 71, 72, 73, 74, 75, 76, 77, 78, 79, 80, 81, 82, 83, 84, 85, 86, 87, 88, 89, 90, 91] (by decide +kernel) (by decide +kernel)
set_option maxRecDepth 20000 in
theorem gX12_costOf_X12_valueOn : GoodIn wsX12_costOf (wsV RX12 122 RX12 yX12_valueOn wsX12_valueOn) := goodIn_app (goodIn_of _ (by decide +kernel)) ggX12_costOf_X12_valueOn
set_option maxRecDepth 20000 in
theorem ggX12_costOf_X12_harmsOn : GoodIn wsX12_costOf wsX12_harmsOn := goodIn_r _ [32, 33, 34, 35, 36, 10, 37, 38, 39, 40, 41, 42, 43, 44, 45, 46, 47, 48, 49, 50, 51, 52, 53, 54, 55, 56, 57, 58, 59, 60, 61, 62, 63, 64, 65, 66, 67, 68, 69, 70, 71, 72, 73, 74, 75, 76, 77, 78, 79, 80, 81, 82, 83, 84, 85, 86, 87, 88, 89, 90, 91] (by decide +kernel) (by decide +kernel)
set_option maxRecDepth 20000 in
theorem gX12_costOf_X12_harmsOn : GoodIn wsX12_costOf (wsV RX12 186 RX12 yX12_harmsOn wsX12_harmsOn) := goodIn_app (goodIn_of _ (by decide +kernel)) ggX12_costOf_X12_harmsOn
theorem dX12_costOf_0 : decode cX12_costOf 0 = .ok (.aload_n 0, 1) := by decide +kernel
theorem dX12_costOf_1 : decode cX12_costOf 1 = .ok (.iload_n 1, 1) := by decide +kernel
theorem dX12_costOf_2 : decode cX12_costOf 2 = .ok (.iload_n 2, 1) := by decide +kernel
theorem dX12_costOf_3 : decode cX12_costOf 3 = .ok (.invokevirtual 84, 3) := by decide +kernel
theorem dX12_costOf_6 : decode cX12_costOf 6 = .ok (.istore_n 3, 1) := by decide +kernel
theorem dX12_costOf_7 : decode cX12_costOf 7 = .ok (.iload_n 3, 1) := by decide +kernel
theorem dX12_costOf_8 : decode cX12_costOf 8 = .ok (.ifCond .ne 5, 3) := by decide +kernel
theorem dX12_costOf_11 : decode cX12_costOf 11 = .ok (.iconst 0, 1) := by decide +kernel
theorem dX12_costOf_12 : decode cX12_costOf 12 = .ok (.ireturn, 1) := by decide +kernel
theorem dX12_costOf_13 : decode cX12_costOf 13 = .ok (.iconst 0, 1) := by decide +kernel
theorem dX12_costOf_14 : decode cX12_costOf 14 = .ok (.istore 4, 2) := by decide +kernel
theorem dX12_costOf_16 : decode cX12_costOf 16 = .ok (.iconst 0, 1) := by decide +kernel
theorem dX12_costOf_17 : decode cX12_costOf 17 = .ok (.istore 5, 2) := by decide +kernel
theorem dX12_costOf_19 : decode cX12_costOf 19 = .ok (.iload 5, 2) := by decide +kernel
theorem dX12_costOf_21 : decode cX12_costOf 21 = .ok (.aload_n 0, 1) := by decide +kernel
theorem dX12_costOf_22 : decode cX12_costOf 22 = .ok (.getfield 7, 3) := by decide +kernel
theorem dX12_costOf_25 : decode cX12_costOf 25 = .ok (.if_icmp .ge 120, 3) := by decide +kernel
theorem dX12_costOf_28 : decode cX12_costOf 28 = .ok (.aload_n 0, 1) := by decide +kernel
theorem dX12_costOf_29 : decode cX12_costOf 29 = .ok (.iload_n 1, 1) := by decide +kernel
theorem dX12_costOf_30 : decode cX12_costOf 30 = .ok (.iload 5, 2) := by decide +kernel
theorem dX12_costOf_32 : decode cX12_costOf 32 = .ok (.invokevirtual 68, 3) := by decide +kernel
theorem dX12_costOf_35 : decode cX12_costOf 35 = .ok (.ifCond .ne 6, 3) := by decide +kernel
theorem dX12_costOf_38 : decode cX12_costOf 38 = .ok (.goto 101, 3) := by decide +kernel
theorem dX12_costOf_41 : decode cX12_costOf 41 = .ok (.iload_n 1, 1) := by decide +kernel
theorem dX12_costOf_42 : decode cX12_costOf 42 = .ok (.bipush 16, 2) := by decide +kernel
theorem dX12_costOf_44 : decode cX12_costOf 44 = .ok (.imul, 1) := by decide +kernel
theorem dX12_costOf_45 : decode cX12_costOf 45 = .ok (.aload_n 0, 1) := by decide +kernel
theorem dX12_costOf_46 : decode cX12_costOf 46 = .ok (.getfield 104, 3) := by decide +kernel
theorem dX12_costOf_49 : decode cX12_costOf 49 = .ok (.iload_n 1, 1) := by decide +kernel
theorem dX12_costOf_50 : decode cX12_costOf 50 = .ok (.bipush 16, 2) := by decide +kernel
theorem dX12_costOf_52 : decode cX12_costOf 52 = .ok (.imul, 1) := by decide +kernel
theorem dX12_costOf_53 : decode cX12_costOf 53 = .ok (.iload 5, 2) := by decide +kernel
theorem dX12_costOf_55 : decode cX12_costOf 55 = .ok (.iadd, 1) := by decide +kernel
theorem dX12_costOf_56 : decode cX12_costOf 56 = .ok (.iaload, 1) := by decide +kernel
theorem dX12_costOf_57 : decode cX12_costOf 57 = .ok (.iadd, 1) := by decide +kernel
theorem dX12_costOf_58 : decode cX12_costOf 58 = .ok (.istore 6, 2) := by decide +kernel
theorem dX12_costOf_60 : decode cX12_costOf 60 = .ok (.iload_n 3, 1) := by decide +kernel
theorem dX12_costOf_61 : decode cX12_costOf 61 = .ok (.iconst 2, 1) := by decide +kernel
theorem dX12_costOf_62 : decode cX12_costOf 62 = .ok (.if_icmp .ne 7, 3) := by decide +kernel
theorem dX12_costOf_65 : decode cX12_costOf 65 = .ok (.iconst 1, 1) := by decide +kernel
theorem dX12_costOf_66 : decode cX12_costOf 66 = .ok (.goto 33, 3) := by decide +kernel
theorem dX12_costOf_69 : decode cX12_costOf 69 = .ok (.iload_n 3, 1) := by decide +kernel
theorem dX12_costOf_70 : decode cX12_costOf 70 = .ok (.iconst 1, 1) := by decide +kernel
theorem dX12_costOf_71 : decode cX12_costOf 71 = .ok (.if_icmp .ne 13, 3) := by decide +kernel
theorem dX12_costOf_74 : decode cX12_costOf 74 = .ok (.aload_n 0, 1) := by decide +kernel
theorem dX12_costOf_75 : decode cX12_costOf 75 = .ok (.getfield 91, 3) := by decide +kernel
theorem dX12_costOf_78 : decode cX12_costOf 78 = .ok (.iload 6, 2) := by decide +kernel
theorem dX12_costOf_80 : decode cX12_costOf 80 = .ok (.iaload, 1) := by decide +kernel
theorem dX12_costOf_81 : decode cX12_costOf 81 = .ok (.goto 10, 3) := by decide +kernel
theorem dX12_costOf_84 : decode cX12_costOf 84 = .ok (.aload_n 0, 1) := by decide +kernel
theorem dX12_costOf_85 : decode cX12_costOf 85 = .ok (.getfield 94, 3) := by decide +kernel
theorem dX12_costOf_88 : decode cX12_costOf 88 = .ok (.iload 6, 2) := by decide +kernel
theorem dX12_costOf_90 : decode cX12_costOf 90 = .ok (.iaload, 1) := by decide +kernel
theorem dX12_costOf_91 : decode cX12_costOf 91 = .ok (.ifCond .lt 7, 3) := by decide +kernel
theorem dX12_costOf_94 : decode cX12_costOf 94 = .ok (.iconst 2, 1) := by decide +kernel
theorem dX12_costOf_95 : decode cX12_costOf 95 = .ok (.goto 4, 3) := by decide +kernel
theorem dX12_costOf_98 : decode cX12_costOf 98 = .ok (.iconst 3, 1) := by decide +kernel
theorem dX12_costOf_99 : decode cX12_costOf 99 = .ok (.istore 7, 2) := by decide +kernel
theorem dX12_costOf_101 : decode cX12_costOf 101 = .ok (.iload 4, 2) := by decide +kernel
theorem dX12_costOf_103 : decode cX12_costOf 103 = .ok (.aload_n 0, 1) := by decide +kernel
theorem dX12_costOf_104 : decode cX12_costOf 104 = .ok (.iload 5, 2) := by decide +kernel
theorem dX12_costOf_106 : decode cX12_costOf 106 = .ok (.iload_n 2, 1) := by decide +kernel
theorem dX12_costOf_107 : decode cX12_costOf 107 = .ok (.invokevirtual 122, 3) := by decide +kernel
theorem dX12_costOf_110 : decode cX12_costOf 110 = .ok (.aload_n 0, 1) := by decide +kernel
theorem dX12_costOf_111 : decode cX12_costOf 111 = .ok (.getfield 183, 3) := by decide +kernel
theorem dX12_costOf_114 : decode cX12_costOf 114 = .ok (.aload_n 0, 1) := by decide +kernel
theorem dX12_costOf_115 : decode cX12_costOf 115 = .ok (.getfield 55, 3) := by decide +kernel
theorem dX12_costOf_118 : decode cX12_costOf 118 = .ok (.iload_n 1, 1) := by decide +kernel
theorem dX12_costOf_119 : decode cX12_costOf 119 = .ok (.iaload, 1) := by decide +kernel
theorem dX12_costOf_120 : decode cX12_costOf 120 = .ok (.iaload, 1) := by decide +kernel
theorem dX12_costOf_121 : decode cX12_costOf 121 = .ok (.imul, 1) := by decide +kernel
theorem dX12_costOf_122 : decode cX12_costOf 122 = .ok (.iload 7, 2) := by decide +kernel
theorem dX12_costOf_124 : decode cX12_costOf 124 = .ok (.imul, 1) := by decide +kernel
theorem dX12_costOf_125 : decode cX12_costOf 125 = .ok (.bipush 10, 2) := by decide +kernel
theorem dX12_costOf_127 : decode cX12_costOf 127 = .ok (.aload_n 0, 1) := by decide +kernel
theorem dX12_costOf_128 : decode cX12_costOf 128 = .ok (.iload 5, 2) := by decide +kernel
theorem dX12_costOf_130 : decode cX12_costOf 130 = .ok (.iload_n 2, 1) := by decide +kernel
theorem dX12_costOf_131 : decode cX12_costOf 131 = .ok (.invokevirtual 186, 3) := by decide +kernel
theorem dX12_costOf_134 : decode cX12_costOf 134 = .ok (.iadd, 1) := by decide +kernel
theorem dX12_costOf_135 : decode cX12_costOf 135 = .ok (.imul, 1) := by decide +kernel
theorem dX12_costOf_136 : decode cX12_costOf 136 = .ok (.iadd, 1) := by decide +kernel
theorem dX12_costOf_137 : decode cX12_costOf 137 = .ok (.istore 4, 2) := by decide +kernel
theorem dX12_costOf_139 : decode cX12_costOf 139 = .ok (.iinc 5 1, 3) := by decide +kernel
theorem dX12_costOf_142 : decode cX12_costOf 142 = .ok (.goto (-123), 3) := by decide +kernel
theorem dX12_costOf_145 : decode cX12_costOf 145 = .ok (.iload 4, 2) := by decide +kernel
theorem dX12_costOf_147 : decode cX12_costOf 147 = .ok (.ireturn, 1) := by decide +kernel
theorem dX12_write_0 : decode cX12_write 0 = .ok (.aload_n 0, 1) := by decide +kernel
theorem dX12_write_1 : decode cX12_write 1 = .ok (.getfield 189, 3) := by decide +kernel
theorem dX12_write_4 : decode cX12_write 4 = .ok (.aload_n 0, 1) := by decide +kernel
theorem dX12_write_5 : decode cX12_write 5 = .ok (.getfield 192, 3) := by decide +kernel
theorem dX12_write_8 : decode cX12_write 8 = .ok (.iload_n 1, 1) := by decide +kernel
theorem dX12_write_9 : decode cX12_write 9 = .ok (.iastore, 1) := by decide +kernel
theorem dX12_write_10 : decode cX12_write 10 = .ok (.aload_n 0, 1) := by decide +kernel
theorem dX12_write_11 : decode cX12_write 11 = .ok (.dup, 1) := by decide +kernel
theorem dX12_write_12 : decode cX12_write 12 = .ok (.getfield 192, 3) := by decide +kernel
theorem dX12_write_15 : decode cX12_write 15 = .ok (.iconst 1, 1) := by decide +kernel
theorem dX12_write_16 : decode cX12_write 16 = .ok (.iadd, 1) := by decide +kernel
theorem dX12_write_17 : decode cX12_write 17 = .ok (.putfield 192, 3) := by decide +kernel
theorem dX12_write_20 : decode cX12_write 20 = .ok (.return_, 1) := by decide +kernel
set_option maxRecDepth 20000 in
theorem ggX12_writeWord_J0_length_8abf5 : GoodIn wsX12_writeWord wsJ0_length_8abf5 := goodIn_r _ [5, 6, 7, 8, 9, 4, 10, 11, 12, 57, 58, 59, 60] (by decide +kernel) (by decide +kernel)
set_option maxRecDepth 20000 in
theorem gX12_writeWord_J0_length_8abf5 : GoodIn wsX12_writeWord (wsV RX12 195 RJ0 yJ0_length_8abf5 wsJ0_length_8abf5) := goodIn_app (goodIn_of _ (by decide +kernel)) ggX12_writeWord_J0_length_8abf5
set_option maxRecDepth 20000 in
theorem ggX12_writeWord_J0_charAt_5068e : GoodIn wsX12_writeWord wsJ0_charAt_5068e := goodIn_r _ [16, 6, 17, 18, 19, 4, 20, 11, 12, 21, 22, 23, 24, 25, 26, 27, 28, 29, 30, 31, 32, 33, 34, 35, 36, 37, 38, 39, 40, 41, 42, 43, 44, 45, 46, 47, 48, 49, 57, 58, 59, 60] (by decide +kernel) (by decide +kernel)
set_option maxRecDepth 20000 in
theorem gX12_writeWord_J0_charAt_5068e : GoodIn wsX12_writeWord (wsV RX12 201 RJ0 yJ0_charAt_5068e wsJ0_charAt_5068e) := goodIn_app (goodIn_of _ (by decide +kernel)) ggX12_writeWord_J0_charAt_5068e
set_option maxRecDepth 20000 in
theorem ggX12_writeWord_X12_write : GoodIn wsX12_writeWord wsX12_write := goodIn_r _ [54, 55, 56, 61, 62, 63, 64, 65, 66, 67, 68, 69, 70, 71, 72, 73, 74, 75, 76, 77, 78, 79, 80, 81, 82, 83, 84, 85, 86, 87, 88, 89, 90, 91, 92, 93, 94, 95, 96, 97, 98, 99, 100, 101, 102, 103, 104, 105, 106, 107, 108, 109, 110, 111] (by decide +kernel) (by decide +kernel)
set_option maxRecDepth 20000 in
theorem gX12_writeWord_X12_write : GoodIn wsX12_writeWord (wsV RX12 205 RX12 yX12_write wsX12_write) := goodIn_app (goodIn_of _ (by decide +kernel)) ggX12_writeWord_X12_write
theorem dX12_writeWord_0 : decode cX12_writeWord 0 = .ok (.iconst 0, 1) := by decide +kernel
theorem dX12_writeWord_1 : decode cX12_writeWord 1 = .ok (.istore_n 2, 1) := by decide +kernel
theorem dX12_writeWord_2 : decode cX12_writeWord 2 = .ok (.iload_n 2, 1) := by decide +kernel
theorem dX12_writeWord_3 : decode cX12_writeWord 3 = .ok (.aload_n 1, 1) := by decide +kernel
theorem dX12_writeWord_4 : decode cX12_writeWord 4 = .ok (.invokevirtual 195, 3) := by decide +kernel
theorem dX12_writeWord_7 : decode cX12_writeWord 7 = .ok (.if_icmp .ge 18, 3) := by decide +kernel
theorem dX12_writeWord_10 : decode cX12_writeWord 10 = .ok (.aload_n 0, 1) := by decide +kernel
theorem dX12_writeWord_11 : decode cX12_writeWord 11 = .ok (.aload_n 1, 1) := by decide +kernel
theorem dX12_writeWord_12 : decode cX12_writeWord 12 = .ok (.iload_n 2, 1) := by decide +kernel
theorem dX12_writeWord_13 : decode cX12_writeWord 13 = .ok (.invokevirtual 201, 3) := by decide +kernel
theorem dX12_writeWord_16 : decode cX12_writeWord 16 = .ok (.invokevirtual 205, 3) := by decide +kernel
theorem dX12_writeWord_19 : decode cX12_writeWord 19 = .ok (.iinc 2 1, 3) := by decide +kernel
theorem dX12_writeWord_22 : decode cX12_writeWord 22 = .ok (.goto (-20), 3) := by decide +kernel
theorem dX12_writeWord_25 : decode cX12_writeWord 25 = .ok (.return_, 1) := by decide +kernel
set_option maxRecDepth 20000 in
theorem ggX12_writeNumber_X12_write : GoodIn wsX12_writeNumber wsX12_write := goodIn_r _ [5, 6, 7, 8, 9, 10, 11, 12, 13, 14, 15, 16, 17, 18, 19, 20, 21, 22, 23, 24, 25, 26, 27, 28, 29, 30, 31, 32, 33, 34, 35, 36, 37, 38, 39, 40, 41, 42, 43, 44, 45, 46, 47, 48, 49, 50, 51, 52, 53, 54, 55, 56, 57, 58] (by decide +kernel) (by decide +kernel)
set_option maxRecDepth 20000 in
theorem gX12_writeNumber_X12_write : GoodIn wsX12_writeNumber (wsV RX12 205 RX12 yX12_write wsX12_write) := goodIn_app (goodIn_of _ (by decide +kernel)) ggX12_writeNumber_X12_write
theorem dX12_writeNumber_0 : decode cX12_writeNumber 0 = .ok (.iconst 1, 1) := by decide +kernel
theorem dX12_writeNumber_1 : decode cX12_writeNumber 1 = .ok (.istore_n 2, 1) := by decide +kernel
theorem dX12_writeNumber_2 : decode cX12_writeNumber 2 = .ok (.iload_n 1, 1) := by decide +kernel
theorem dX12_writeNumber_3 : decode cX12_writeNumber 3 = .ok (.iload_n 2, 1) := by decide +kernel
theorem dX12_writeNumber_4 : decode cX12_writeNumber 4 = .ok (.idiv, 1) := by decide +kernel
theorem dX12_writeNumber_5 : decode cX12_writeNumber 5 = .ok (.bipush 9, 2) := by decide +kernel
theorem dX12_writeNumber_7 : decode cX12_writeNumber 7 = .ok (.if_icmp .le 11, 3) := by decide +kernel
theorem dX12_writeNumber_10 : decode cX12_writeNumber 10 = .ok (.bipush 10, 2) := by decide +kernel
theorem dX12_writeNumber_12 : decode cX12_writeNumber 12 = .ok (.iload_n 2, 1) := by decide +kernel
theorem dX12_writeNumber_13 : decode cX12_writeNumber 13 = .ok (.imul, 1) := by decide +kernel
theorem dX12_writeNumber_14 : decode cX12_writeNumber 14 = .ok (.istore_n 2, 1) := by decide +kernel
theorem dX12_writeNumber_15 : decode cX12_writeNumber 15 = .ok (.goto (-13), 3) := by decide +kernel
theorem dX12_writeNumber_18 : decode cX12_writeNumber 18 = .ok (.iload_n 2, 1) := by decide +kernel
theorem dX12_writeNumber_19 : decode cX12_writeNumber 19 = .ok (.ifCond .le 24, 3) := by decide +kernel
theorem dX12_writeNumber_22 : decode cX12_writeNumber 22 = .ok (.aload_n 0, 1) := by decide +kernel
theorem dX12_writeNumber_23 : decode cX12_writeNumber 23 = .ok (.bipush 48, 2) := by decide +kernel
theorem dX12_writeNumber_25 : decode cX12_writeNumber 25 = .ok (.iload_n 1, 1) := by decide +kernel
theorem dX12_writeNumber_26 : decode cX12_writeNumber 26 = .ok (.iload_n 2, 1) := by decide +kernel
theorem dX12_writeNumber_27 : decode cX12_writeNumber 27 = .ok (.idiv, 1) := by decide +kernel
theorem dX12_writeNumber_28 : decode cX12_writeNumber 28 = .ok (.bipush 10, 2) := by decide +kernel
theorem dX12_writeNumber_30 : decode cX12_writeNumber 30 = .ok (.irem, 1) := by decide +kernel
theorem dX12_writeNumber_31 : decode cX12_writeNumber 31 = .ok (.iadd, 1) := by decide +kernel
theorem dX12_writeNumber_32 : decode cX12_writeNumber 32 = .ok (.invokevirtual 205, 3) := by decide +kernel
theorem dX12_writeNumber_35 : decode cX12_writeNumber 35 = .ok (.iload_n 2, 1) := by decide +kernel
theorem dX12_writeNumber_36 : decode cX12_writeNumber 36 = .ok (.bipush 10, 2) := by decide +kernel
theorem dX12_writeNumber_38 : decode cX12_writeNumber 38 = .ok (.idiv, 1) := by decide +kernel
theorem dX12_writeNumber_39 : decode cX12_writeNumber 39 = .ok (.istore_n 2, 1) := by decide +kernel
theorem dX12_writeNumber_40 : decode cX12_writeNumber 40 = .ok (.goto (-22), 3) := by decide +kernel
theorem dX12_writeNumber_43 : decode cX12_writeNumber 43 = .ok (.return_, 1) := by decide +kernel
theorem dX12_kindName_0 : decode cX12_kindName 0 = .ok (.iload_n 0, 1) := by decide +kernel
theorem dX12_kindName_1 : decode cX12_kindName 1 = .ok (.ifCond .ne 8, 3) := by decide +kernel
theorem dX12_kindName_4 : decode cX12_kindName 4 = .ok (.ldc 209, 2) := by decide +kernel
theorem dX12_kindName_6 : decode cX12_kindName 6 = .ok (.goto 35, 3) := by decide +kernel
theorem dX12_kindName_9 : decode cX12_kindName 9 = .ok (.iload_n 0, 1) := by decide +kernel
theorem dX12_kindName_10 : decode cX12_kindName 10 = .ok (.iconst 1, 1) := by decide +kernel
theorem dX12_kindName_11 : decode cX12_kindName 11 = .ok (.if_icmp .ne 8, 3) := by decide +kernel
theorem dX12_kindName_14 : decode cX12_kindName 14 = .ok (.ldc 211, 2) := by decide +kernel
theorem dX12_kindName_16 : decode cX12_kindName 16 = .ok (.goto 25, 3) := by decide +kernel
theorem dX12_kindName_19 : decode cX12_kindName 19 = .ok (.iload_n 0, 1) := by decide +kernel
theorem dX12_kindName_20 : decode cX12_kindName 20 = .ok (.iconst 2, 1) := by decide +kernel
theorem dX12_kindName_21 : decode cX12_kindName 21 = .ok (.if_icmp .ne 8, 3) := by decide +kernel
theorem dX12_kindName_24 : decode cX12_kindName 24 = .ok (.ldc 213, 2) := by decide +kernel
theorem dX12_kindName_26 : decode cX12_kindName 26 = .ok (.goto 15, 3) := by decide +kernel
theorem dX12_kindName_29 : decode cX12_kindName 29 = .ok (.iload_n 0, 1) := by decide +kernel
theorem dX12_kindName_30 : decode cX12_kindName 30 = .ok (.iconst 3, 1) := by decide +kernel
theorem dX12_kindName_31 : decode cX12_kindName 31 = .ok (.if_icmp .ne 8, 3) := by decide +kernel
theorem dX12_kindName_34 : decode cX12_kindName 34 = .ok (.ldc 215, 2) := by decide +kernel
theorem dX12_kindName_36 : decode cX12_kindName 36 = .ok (.goto 5, 3) := by decide +kernel
theorem dX12_kindName_39 : decode cX12_kindName 39 = .ok (.ldc 217, 2) := by decide +kernel
theorem dX12_kindName_41 : decode cX12_kindName 41 = .ok (.areturn, 1) := by decide +kernel
theorem dX12_sortName_0 : decode cX12_sortName 0 = .ok (.iload_n 0, 1) := by decide +kernel
theorem dX12_sortName_1 : decode cX12_sortName 1 = .ok (.ifCond .ne 8, 3) := by decide +kernel
theorem dX12_sortName_4 : decode cX12_sortName 4 = .ok (.ldc 219, 2) := by decide +kernel
theorem dX12_sortName_6 : decode cX12_sortName 6 = .ok (.goto 25, 3) := by decide +kernel
theorem dX12_sortName_9 : decode cX12_sortName 9 = .ok (.iload_n 0, 1) := by decide +kernel
theorem dX12_sortName_10 : decode cX12_sortName 10 = .ok (.iconst 1, 1) := by decide +kernel
theorem dX12_sortName_11 : decode cX12_sortName 11 = .ok (.if_icmp .ne 8, 3) := by decide +kernel
theorem dX12_sortName_14 : decode cX12_sortName 14 = .ok (.ldc 221, 2) := by decide +kernel
theorem dX12_sortName_16 : decode cX12_sortName 16 = .ok (.goto 15, 3) := by decide +kernel
theorem dX12_sortName_19 : decode cX12_sortName 19 = .ok (.iload_n 0, 1) := by decide +kernel
theorem dX12_sortName_20 : decode cX12_sortName 20 = .ok (.iconst 2, 1) := by decide +kernel
theorem dX12_sortName_21 : decode cX12_sortName 21 = .ok (.if_icmp .ne 8, 3) := by decide +kernel
theorem dX12_sortName_24 : decode cX12_sortName 24 = .ok (.ldc 223, 2) := by decide +kernel
theorem dX12_sortName_26 : decode cX12_sortName 26 = .ok (.goto 5, 3) := by decide +kernel
theorem dX12_sortName_29 : decode cX12_sortName 29 = .ok (.ldc 225, 2) := by decide +kernel
theorem dX12_sortName_31 : decode cX12_sortName 31 = .ok (.areturn, 1) := by decide +kernel
set_option maxRecDepth 20000 in
theorem ggX12_writeThing_X12_kindName : GoodIn wsX12_writeThing wsX12_kindName := goodIn_r _ [8] (by decide +kernel) (by decide +kernel)
set_option maxRecDepth 20000 in
theorem gX12_writeThing_X12_kindName : GoodIn wsX12_writeThing (va_wsS RX12 227 yX12_kindName wsX12_kindName) := goodIn_app (goodIn_of _ (by decide +kernel)) ggX12_writeThing_X12_kindName
set_option maxRecDepth 20000 in
theorem ggX12_writeThing_X12_writeWord : GoodIn wsX12_writeThing wsX12_writeWord := goodIn_r _ [12, 13, 14, 15, 16, 17, 18, 19, 20, 21, 22, 23, 24, 25, 26, 27, 28, 29, 30, 31, 32, 33, 34, 35, 36, 37, 38, 39, 40, 41, 42, 43, 44, 45, 46, 47, 48, 49, 50, 51, 52, 53, 54, 55, 56, 57, 58, 59, 60, 61, 62, 63, 64, 7, 65, 66, 67, 123, 124, 125, 126, 72, 73, 74, 75, 76, 77, 78, 79, 80, 81, 82, 83, 84, 85, 86, 87, 88, 89, 90, 91, 92, 93, 94, 95, 96, 97, 98, 99, 100, 101, 102, 103, 104, 105, 106, 107, 108, 109, 110, 111, 112, 113, 114, 115, 116, 117, 118, 119, 120, 121, 122] (by decide +kernel) (by decide +kernel)
set_option maxRecDepth 20000 in
theorem gX12_writeThing_X12_writeWord : GoodIn wsX12_writeThing (wsV RX12 231 RX12 yX12_writeWord wsX12_writeWord) := goodIn_app (goodIn_of _ (by decide +kernel)) ggX12_writeThing_X12_writeWord
set_option maxRecDepth 20000 in
theorem ggX12_writeThing_X12_write : GoodIn wsX12_writeThing wsX12_write := goodIn_r _ [65, 66, 67, 72, 73, 74, 75, 76, 77, 78, 79, 80, 81, 82, 83, 84, 85, 86, 87, 88, 89, 90, 91, 92, 93, 94, 95, 96, 97, 98, 99, 100, 101, 102, 103, 104, 105, 106, 107, 108, 109, 110, 111, 112, 113, 114, 115, 116, 117, 118, 119, 120, 121, 122] (by decide +kernel) (by decide +kernel)
set_option maxRecDepth 20000 in
theorem gX12_writeThing_X12_write : GoodIn wsX12_writeThing (wsV RX12 205 RX12 yX12_write wsX12_write) := goodIn_app (goodIn_of _ (by decide +kernel)) ggX12_writeThing_X12_write
set_option maxRecDepth 20000 in
theorem ggX12_writeThing_X12_writeNumber : GoodIn wsX12_writeThing wsX12_writeNumber := goodIn_r _ [71, 62, 63, 64, 7, 65, 66, 67, 72, 73, 74, 75, 76, 77, 78, 79, 80, 81, 82, 83, 84, 85, 86, 87, 88, 89, 90, 91, 92, 93, 94, 95, 96, 97, 98, 99, 100, 101, 102, 103, 104, 105, 106, 107, 108, 109, 110, 111, 112, 113, 114, 115, 116, 117, 118, 119, 120, 121, 122] (by decide +kernel) (by decide +kernel)
set_option maxRecDepth 20000 in
theorem gX12_writeThing_X12_writeNumber : GoodIn wsX12_writeThing (wsV RX12 235 RX12 yX12_writeNumber wsX12_writeNumber) := goodIn_app (goodIn_of _ (by decide +kernel)) ggX12_writeThing_X12_writeNumber
theorem dX12_writeThing_0 : decode cX12_writeThing 0 = .ok (.aload_n 0, 1) := by decide +kernel
theorem dX12_writeThing_1 : decode cX12_writeThing 1 = .ok (.aload_n 0, 1) := by decide +kernel
theorem dX12_writeThing_2 : decode cX12_writeThing 2 = .ok (.getfield 49, 3) := by decide +kernel
theorem dX12_writeThing_5 : decode cX12_writeThing 5 = .ok (.iload_n 1, 1) := by decide +kernel
theorem dX12_writeThing_6 : decode cX12_writeThing 6 = .ok (.iaload, 1) := by decide +kernel
theorem dX12_writeThing_7 : decode cX12_writeThing 7 = .ok (.invokestatic 227, 3) := by decide +kernel
theorem dX12_writeThing_10 : decode cX12_writeThing 10 = .ok (.invokevirtual 231, 3) := by decide +kernel
theorem dX12_writeThing_13 : decode cX12_writeThing 13 = .ok (.aload_n 0, 1) := by decide +kernel
theorem dX12_writeThing_14 : decode cX12_writeThing 14 = .ok (.bipush 32, 2) := by decide +kernel
theorem dX12_writeThing_16 : decode cX12_writeThing 16 = .ok (.invokevirtual 205, 3) := by decide +kernel
theorem dX12_writeThing_19 : decode cX12_writeThing 19 = .ok (.aload_n 0, 1) := by decide +kernel
theorem dX12_writeThing_20 : decode cX12_writeThing 20 = .ok (.aload_n 0, 1) := by decide +kernel
theorem dX12_writeThing_21 : decode cX12_writeThing 21 = .ok (.getfield 31, 3) := by decide +kernel
theorem dX12_writeThing_24 : decode cX12_writeThing 24 = .ok (.iload_n 1, 1) := by decide +kernel
theorem dX12_writeThing_25 : decode cX12_writeThing 25 = .ok (.iaload, 1) := by decide +kernel
theorem dX12_writeThing_26 : decode cX12_writeThing 26 = .ok (.invokevirtual 235, 3) := by decide +kernel
theorem dX12_writeThing_29 : decode cX12_writeThing 29 = .ok (.aload_n 0, 1) := by decide +kernel
theorem dX12_writeThing_30 : decode cX12_writeThing 30 = .ok (.bipush 32, 2) := by decide +kernel
theorem dX12_writeThing_32 : decode cX12_writeThing 32 = .ok (.invokevirtual 205, 3) := by decide +kernel
theorem dX12_writeThing_35 : decode cX12_writeThing 35 = .ok (.aload_n 0, 1) := by decide +kernel
theorem dX12_writeThing_36 : decode cX12_writeThing 36 = .ok (.aload_n 0, 1) := by decide +kernel
theorem dX12_writeThing_37 : decode cX12_writeThing 37 = .ok (.getfield 107, 3) := by decide +kernel
theorem dX12_writeThing_40 : decode cX12_writeThing 40 = .ok (.iload_n 1, 1) := by decide +kernel
theorem dX12_writeThing_41 : decode cX12_writeThing 41 = .ok (.iaload, 1) := by decide +kernel
theorem dX12_writeThing_42 : decode cX12_writeThing 42 = .ok (.invokevirtual 235, 3) := by decide +kernel
theorem dX12_writeThing_45 : decode cX12_writeThing 45 = .ok (.iconst 0, 1) := by decide +kernel
theorem dX12_writeThing_46 : decode cX12_writeThing 46 = .ok (.istore_n 2, 1) := by decide +kernel
theorem dX12_writeThing_47 : decode cX12_writeThing 47 = .ok (.iload_n 2, 1) := by decide +kernel
theorem dX12_writeThing_48 : decode cX12_writeThing 48 = .ok (.iconst 5, 1) := by decide +kernel
theorem dX12_writeThing_49 : decode cX12_writeThing 49 = .ok (.if_icmp .ge 39, 3) := by decide +kernel
theorem dX12_writeThing_52 : decode cX12_writeThing 52 = .ok (.aload_n 0, 1) := by decide +kernel
theorem dX12_writeThing_53 : decode cX12_writeThing 53 = .ok (.getfield 46, 3) := by decide +kernel
theorem dX12_writeThing_56 : decode cX12_writeThing 56 = .ok (.iload_n 1, 1) := by decide +kernel
theorem dX12_writeThing_57 : decode cX12_writeThing 57 = .ok (.iaload, 1) := by decide +kernel
theorem dX12_writeThing_58 : decode cX12_writeThing 58 = .ok (.iload_n 2, 1) := by decide +kernel
theorem dX12_writeThing_59 : decode cX12_writeThing 59 = .ok (.ishr, 1) := by decide +kernel
theorem dX12_writeThing_60 : decode cX12_writeThing 60 = .ok (.iconst 1, 1) := by decide +kernel
theorem dX12_writeThing_61 : decode cX12_writeThing 61 = .ok (.iand, 1) := by decide +kernel
theorem dX12_writeThing_62 : decode cX12_writeThing 62 = .ok (.ifCond .ne 6, 3) := by decide +kernel
theorem dX12_writeThing_65 : decode cX12_writeThing 65 = .ok (.goto 17, 3) := by decide +kernel
theorem dX12_writeThing_68 : decode cX12_writeThing 68 = .ok (.aload_n 0, 1) := by decide +kernel
theorem dX12_writeThing_69 : decode cX12_writeThing 69 = .ok (.ldc 238, 2) := by decide +kernel
theorem dX12_writeThing_71 : decode cX12_writeThing 71 = .ok (.invokevirtual 231, 3) := by decide +kernel
theorem dX12_writeThing_74 : decode cX12_writeThing 74 = .ok (.aload_n 0, 1) := by decide +kernel
theorem dX12_writeThing_75 : decode cX12_writeThing 75 = .ok (.iload_n 2, 1) := by decide +kernel
theorem dX12_writeThing_76 : decode cX12_writeThing 76 = .ok (.invokestatic 227, 3) := by decide +kernel
theorem dX12_writeThing_79 : decode cX12_writeThing 79 = .ok (.invokevirtual 231, 3) := by decide +kernel
theorem dX12_writeThing_82 : decode cX12_writeThing 82 = .ok (.iinc 2 1, 3) := by decide +kernel
theorem dX12_writeThing_85 : decode cX12_writeThing 85 = .ok (.goto (-38), 3) := by decide +kernel
theorem dX12_writeThing_88 : decode cX12_writeThing 88 = .ok (.return_, 1) := by decide +kernel
set_option maxRecDepth 20000 in
theorem ggX12_writeHouse_X12_writeNumber : GoodIn wsX12_writeHouse wsX12_writeNumber := goodIn_r _ [9, 10, 11, 12, 8, 13, 14, 15, 16, 17, 18, 19, 20, 21, 22, 23, 24, 25, 26, 27, 28, 29, 30, 31, 32, 33, 34, 35, 36, 37, 38, 39, 40, 41, 42, 43, 44, 45, 46, 47, 48, 49, 50, 51, 52, 53, 54, 55, 56, 57, 58, 59, 60, 61, 62, 63, 64, 65, 66] (by decide +kernel) (by decide +kernel)
set_option maxRecDepth 20000 in
theorem gX12_writeHouse_X12_writeNumber : GoodIn wsX12_writeHouse (wsV RX12 235 RX12 yX12_writeNumber wsX12_writeNumber) := goodIn_app (goodIn_of _ (by decide +kernel)) ggX12_writeHouse_X12_writeNumber
set_option maxRecDepth 20000 in
theorem ggX12_writeHouse_X12_write : GoodIn wsX12_writeHouse wsX12_write := goodIn_r _ [13, 14, 15, 16, 17, 18, 19, 20, 21, 22, 23, 24, 25, 26, 27, 28, 29, 30, 31, 32, 33, 34, 35, 36, 37, 38, 39, 40, 41, 42, 43, 44, 45, 46, 47, 48, 49, 50, 51, 52, 53, 54, 55, 56, 57, 58, 59, 60, 61, 62, 63, 64, 65, 66] (by decide +kernel) (by decide +kernel)
set_option maxRecDepth 20000 in
theorem gX12_writeHouse_X12_write : GoodIn wsX12_writeHouse (wsV RX12 205 RX12 yX12_write wsX12_write) := goodIn_app (goodIn_of _ (by decide +kernel)) ggX12_writeHouse_X12_write
theorem dX12_writeHouse_0 : decode cX12_writeHouse 0 = .ok (.aload_n 0, 1) := by decide +kernel
theorem dX12_writeHouse_1 : decode cX12_writeHouse 1 = .ok (.aload_n 0, 1) := by decide +kernel
theorem dX12_writeHouse_2 : decode cX12_writeHouse 2 = .ok (.getfield 52, 3) := by decide +kernel
theorem dX12_writeHouse_5 : decode cX12_writeHouse 5 = .ok (.iload_n 1, 1) := by decide +kernel
theorem dX12_writeHouse_6 : decode cX12_writeHouse 6 = .ok (.iaload, 1) := by decide +kernel
theorem dX12_writeHouse_7 : decode cX12_writeHouse 7 = .ok (.invokevirtual 235, 3) := by decide +kernel
theorem dX12_writeHouse_10 : decode cX12_writeHouse 10 = .ok (.aload_n 0, 1) := by decide +kernel
theorem dX12_writeHouse_11 : decode cX12_writeHouse 11 = .ok (.bipush 32, 2) := by decide +kernel
theorem dX12_writeHouse_13 : decode cX12_writeHouse 13 = .ok (.invokevirtual 205, 3) := by decide +kernel
theorem dX12_writeHouse_16 : decode cX12_writeHouse 16 = .ok (.aload_n 0, 1) := by decide +kernel
theorem dX12_writeHouse_17 : decode cX12_writeHouse 17 = .ok (.aload_n 0, 1) := by decide +kernel
theorem dX12_writeHouse_18 : decode cX12_writeHouse 18 = .ok (.getfield 113, 3) := by decide +kernel
theorem dX12_writeHouse_21 : decode cX12_writeHouse 21 = .ok (.iload_n 1, 1) := by decide +kernel
theorem dX12_writeHouse_22 : decode cX12_writeHouse 22 = .ok (.iaload, 1) := by decide +kernel
theorem dX12_writeHouse_23 : decode cX12_writeHouse 23 = .ok (.invokevirtual 235, 3) := by decide +kernel
theorem dX12_writeHouse_26 : decode cX12_writeHouse 26 = .ok (.aload_n 0, 1) := by decide +kernel
theorem dX12_writeHouse_27 : decode cX12_writeHouse 27 = .ok (.bipush 32, 2) := by decide +kernel
theorem dX12_writeHouse_29 : decode cX12_writeHouse 29 = .ok (.invokevirtual 205, 3) := by decide +kernel
theorem dX12_writeHouse_32 : decode cX12_writeHouse 32 = .ok (.aload_n 0, 1) := by decide +kernel
theorem dX12_writeHouse_33 : decode cX12_writeHouse 33 = .ok (.aload_n 0, 1) := by decide +kernel
theorem dX12_writeHouse_34 : decode cX12_writeHouse 34 = .ok (.getfield 135, 3) := by decide +kernel
theorem dX12_writeHouse_37 : decode cX12_writeHouse 37 = .ok (.iload_n 1, 1) := by decide +kernel
theorem dX12_writeHouse_38 : decode cX12_writeHouse 38 = .ok (.iaload, 1) := by decide +kernel
theorem dX12_writeHouse_39 : decode cX12_writeHouse 39 = .ok (.invokevirtual 235, 3) := by decide +kernel
theorem dX12_writeHouse_42 : decode cX12_writeHouse 42 = .ok (.aload_n 0, 1) := by decide +kernel
theorem dX12_writeHouse_43 : decode cX12_writeHouse 43 = .ok (.bipush 32, 2) := by decide +kernel
theorem dX12_writeHouse_45 : decode cX12_writeHouse 45 = .ok (.invokevirtual 205, 3) := by decide +kernel
theorem dX12_writeHouse_48 : decode cX12_writeHouse 48 = .ok (.aload_n 0, 1) := by decide +kernel
theorem dX12_writeHouse_49 : decode cX12_writeHouse 49 = .ok (.aload_n 0, 1) := by decide +kernel
theorem dX12_writeHouse_50 : decode cX12_writeHouse 50 = .ok (.getfield 183, 3) := by decide +kernel
theorem dX12_writeHouse_53 : decode cX12_writeHouse 53 = .ok (.iload_n 1, 1) := by decide +kernel
theorem dX12_writeHouse_54 : decode cX12_writeHouse 54 = .ok (.iaload, 1) := by decide +kernel
theorem dX12_writeHouse_55 : decode cX12_writeHouse 55 = .ok (.invokevirtual 235, 3) := by decide +kernel
theorem dX12_writeHouse_58 : decode cX12_writeHouse 58 = .ok (.return_, 1) := by decide +kernel
set_option maxRecDepth 20000 in
theorem ggX12_writeCourier_X12_writeWord : GoodIn wsX12_writeCourier wsX12_writeWord := goodIn_r _ [8, 9, 10, 11, 12, 13, 14, 15, 16, 17, 18, 19, 20, 21, 22, 23, 24, 25, 26, 27, 28, 29, 30, 31, 32, 33, 34, 35, 36, 37, 38, 39, 40, 41, 42, 43, 44, 45, 46, 47, 48, 49, 50, 51, 52, 53, 54, 55, 56, 57, 58, 59, 60, 7, 61, 62, 63, 119, 120, 121, 122, 68, 69, 70, 71, 72, 73, 74, 75, 76, 77, 78, 79, 80, 81, 82, 83, 84, 85, 86, 87, 88, 89, 90, 91, 92, 93, 94, 95, 96, 97, 98, 99, 100, 101, 102, 103, 104, 105, 106, 107, 108, 109, 110, 111, 112, 113, 114, 115, 116, 117, 118] (by decide +kernel) (by decide +kernel)
set_option maxRecDepth 20000 in
theorem gX12_writeCourier_X12_writeWord : GoodIn wsX12_writeCourier (wsV RX12 231 RX12 yX12_writeWord wsX12_writeWord) := goodIn_app (goodIn_of _ (by decide +kernel)) ggX12_writeCourier_X12_writeWord
set_option maxRecDepth 20000 in
theorem ggX12_writeCourier_X12_writeNumber : GoodIn wsX12_writeCourier wsX12_writeNumber := goodIn_r _ [67, 58, 59, 60, 7, 61, 62, 63, 68, 69, 70, 71, 72, 73, 74, 75, 76, 77, 78, 79, 80, 81, 82, 83, 84, 85, 86, 87, 88, 89, 90, 91, 92, 93, 94, 95, 96, 97, 98, 99, 100, 101, 102, 103, 104, 105, 106, 107, 108, 109, 110, 111, 112, 113, 114, 115, 116, 117, 118] (by decide +kernel) (by decide +kernel)
set_option maxRecDepth 20000 in
theorem gX12_writeCourier_X12_writeNumber : GoodIn wsX12_writeCourier (wsV RX12 235 RX12 yX12_writeNumber wsX12_writeNumber) := goodIn_app (goodIn_of _ (by decide +kernel)) ggX12_writeCourier_X12_writeNumber
set_option maxRecDepth 20000 in
theorem ggX12_writeCourier_X12_write : GoodIn wsX12_writeCourier wsX12_write := goodIn_r _ [61, 62, 63, 68, 69, 70, 71, 72, 73, 74, 75, 76, 77, 78, 79, 80, 81, 82, 83, 84, 85, 86, 87, 88, 89, 90, 91, 92, 93, 94, 95, 96, 97, 98, 99, 100, 101, 102, 103, 104, 105, 106, 107, 108, 109, 110, 111, 112, 113, 114, 115, 116, 117, 118] (by decide +kernel) (by decide +kernel)
set_option maxRecDepth 20000 in
theorem gX12_writeCourier_X12_write : GoodIn wsX12_writeCourier (wsV RX12 205 RX12 yX12_write wsX12_write) := goodIn_app (goodIn_of _ (by decide +kernel)) ggX12_writeCourier_X12_write
theorem dX12_writeCourier_0 : decode cX12_writeCourier 0 = .ok (.iconst 0, 1) := by decide +kernel
theorem dX12_writeCourier_1 : decode cX12_writeCourier 1 = .ok (.istore_n 2, 1) := by decide +kernel
theorem dX12_writeCourier_2 : decode cX12_writeCourier 2 = .ok (.iload_n 2, 1) := by decide +kernel
theorem dX12_writeCourier_3 : decode cX12_writeCourier 3 = .ok (.aload_n 0, 1) := by decide +kernel
theorem dX12_writeCourier_4 : decode cX12_writeCourier 4 = .ok (.getfield 75, 3) := by decide +kernel
theorem dX12_writeCourier_7 : decode cX12_writeCourier 7 = .ok (.iload_n 1, 1) := by decide +kernel
theorem dX12_writeCourier_8 : decode cX12_writeCourier 8 = .ok (.iaload, 1) := by decide +kernel
theorem dX12_writeCourier_9 : decode cX12_writeCourier 9 = .ok (.if_icmp .ge 55, 3) := by decide +kernel
theorem dX12_writeCourier_12 : decode cX12_writeCourier 12 = .ok (.iload_n 2, 1) := by decide +kernel
theorem dX12_writeCourier_13 : decode cX12_writeCourier 13 = .ok (.ifCond .le 9, 3) := by decide +kernel
theorem dX12_writeCourier_16 : decode cX12_writeCourier 16 = .ok (.aload_n 0, 1) := by decide +kernel
theorem dX12_writeCourier_17 : decode cX12_writeCourier 17 = .ok (.ldc 240, 2) := by decide +kernel
theorem dX12_writeCourier_19 : decode cX12_writeCourier 19 = .ok (.invokevirtual 231, 3) := by decide +kernel
theorem dX12_writeCourier_22 : decode cX12_writeCourier 22 = .ok (.aload_n 0, 1) := by decide +kernel
theorem dX12_writeCourier_23 : decode cX12_writeCourier 23 = .ok (.aload_n 0, 1) := by decide +kernel
theorem dX12_writeCourier_24 : decode cX12_writeCourier 24 = .ok (.getfield 78, 3) := by decide +kernel
theorem dX12_writeCourier_27 : decode cX12_writeCourier 27 = .ok (.iload_n 1, 1) := by decide +kernel
theorem dX12_writeCourier_28 : decode cX12_writeCourier 28 = .ok (.bipush 40, 2) := by decide +kernel
theorem dX12_writeCourier_30 : decode cX12_writeCourier 30 = .ok (.imul, 1) := by decide +kernel
theorem dX12_writeCourier_31 : decode cX12_writeCourier 31 = .ok (.iload_n 2, 1) := by decide +kernel
theorem dX12_writeCourier_32 : decode cX12_writeCourier 32 = .ok (.iadd, 1) := by decide +kernel
theorem dX12_writeCourier_33 : decode cX12_writeCourier 33 = .ok (.iaload, 1) := by decide +kernel
theorem dX12_writeCourier_34 : decode cX12_writeCourier 34 = .ok (.invokevirtual 235, 3) := by decide +kernel
theorem dX12_writeCourier_37 : decode cX12_writeCourier 37 = .ok (.aload_n 0, 1) := by decide +kernel
theorem dX12_writeCourier_38 : decode cX12_writeCourier 38 = .ok (.bipush 45, 2) := by decide +kernel
theorem dX12_writeCourier_40 : decode cX12_writeCourier 40 = .ok (.invokevirtual 205, 3) := by decide +kernel
theorem dX12_writeCourier_43 : decode cX12_writeCourier 43 = .ok (.aload_n 0, 1) := by decide +kernel
theorem dX12_writeCourier_44 : decode cX12_writeCourier 44 = .ok (.aload_n 0, 1) := by decide +kernel
theorem dX12_writeCourier_45 : decode cX12_writeCourier 45 = .ok (.getfield 81, 3) := by decide +kernel
theorem dX12_writeCourier_48 : decode cX12_writeCourier 48 = .ok (.iload_n 1, 1) := by decide +kernel
theorem dX12_writeCourier_49 : decode cX12_writeCourier 49 = .ok (.bipush 40, 2) := by decide +kernel
theorem dX12_writeCourier_51 : decode cX12_writeCourier 51 = .ok (.imul, 1) := by decide +kernel
theorem dX12_writeCourier_52 : decode cX12_writeCourier 52 = .ok (.iload_n 2, 1) := by decide +kernel
theorem dX12_writeCourier_53 : decode cX12_writeCourier 53 = .ok (.iadd, 1) := by decide +kernel
theorem dX12_writeCourier_54 : decode cX12_writeCourier 54 = .ok (.iaload, 1) := by decide +kernel
theorem dX12_writeCourier_55 : decode cX12_writeCourier 55 = .ok (.invokevirtual 235, 3) := by decide +kernel
theorem dX12_writeCourier_58 : decode cX12_writeCourier 58 = .ok (.iinc 2 1, 3) := by decide +kernel
theorem dX12_writeCourier_61 : decode cX12_writeCourier 61 = .ok (.goto (-59), 3) := by decide +kernel
theorem dX12_writeCourier_64 : decode cX12_writeCourier 64 = .ok (.return_, 1) := by decide +kernel
set_option maxRecDepth 20000 in
theorem ggX12_writeReport_X12_sizeIn : GoodIn wsX12_writeReport wsX12_sizeIn := goodIn_r _ [6, 7, 8, 9, 10, 76, 77, 78, 79, 80, 81, 82, 83, 84, 85, 86, 87, 88, 89, 90, 91, 92, 93, 94, 95, 96, 97, 98, 99, 100, 101, 102, 103, 104, 105, 106, 107, 108, 109, 110, 111, 112, 113, 114, 115, 116, 117, 118, 119, 120, 121, 122, 123, 124, 125, 126] (by decide +kernel) (by decide +kernel)
set_option maxRecDepth 20000 in
theorem gX12_writeReport_X12_sizeIn : GoodIn wsX12_writeReport (wsV RX12 172 RX12 yX12_sizeIn wsX12_sizeIn) := goodIn_app (goodIn_of _ (by decide +kernel)) ggX12_writeReport_X12_sizeIn
set_option maxRecDepth 20000 in
theorem ggX12_writeReport_X12_writeWord : GoodIn wsX12_writeReport wsX12_writeWord := goodIn_r _ [14, 15, 16, 17, 18, 19, 20, 21, 22, 23, 24, 25, 26, 27, 28, 29, 30, 31, 32, 33, 34, 35, 36, 37, 38, 39, 40, 41, 42, 43, 44, 45, 46, 47, 48, 49, 50, 51, 52, 53, 54, 55, 56, 57, 58, 59, 60, 61, 62, 63, 64, 65, 66, 5, 67, 68, 1, 127, 128, 129, 130, 76, 77, 78, 79, 80, 81, 82, 83, 84, 85, 86, 87, 88, 89, 90, 91, 92, 93, 94, 95, 96, 97, 98, 99, 100, 101, 102, 103, 104, 105, 106, 107, 108, 109, 110, 111, 112, 113, 114, 115, 116, 117, 118, 119, 120, 121, 122, 123, 124, 125, 126] (by decide +kernel) (by decide +kernel)
set_option maxRecDepth 20000 in
theorem gX12_writeReport_X12_writeWord : GoodIn wsX12_writeReport (wsV RX12 231 RX12 yX12_writeWord wsX12_writeWord) := goodIn_app (goodIn_of _ (by decide +kernel)) ggX12_writeReport_X12_writeWord
set_option maxRecDepth 20000 in
theorem ggX12_writeReport_X12_sortName : GoodIn wsX12_writeReport wsX12_sortName := goodIn_r _ [71] (by decide +kernel) (by decide +kernel)
set_option maxRecDepth 20000 in
theorem gX12_writeReport_X12_sortName : GoodIn wsX12_writeReport (va_wsS RX12 242 yX12_sortName wsX12_sortName) := goodIn_app (goodIn_of _ (by decide +kernel)) ggX12_writeReport_X12_sortName
set_option maxRecDepth 20000 in
theorem ggX12_writeReport_X12_write : GoodIn wsX12_writeReport wsX12_write := goodIn_r _ [67, 68, 1, 76, 77, 78, 79, 80, 81, 82, 83, 84, 85, 86, 87, 88, 89, 90, 91, 92, 93, 94, 95, 96, 97, 98, 99, 100, 101, 102, 103, 104, 105, 106, 107, 108, 109, 110, 111, 112, 113, 114, 115, 116, 117, 118, 119, 120, 121, 122, 123, 124, 125, 126] (by decide +kernel) (by decide +kernel)
set_option maxRecDepth 20000 in
theorem gX12_writeReport_X12_write : GoodIn wsX12_writeReport (wsV RX12 205 RX12 yX12_write wsX12_write) := goodIn_app (goodIn_of _ (by decide +kernel)) ggX12_writeReport_X12_write
set_option maxRecDepth 20000 in
theorem ggX12_writeReport_X12_writeNumber : GoodIn wsX12_writeReport wsX12_writeNumber := goodIn_r _ [75, 64, 65, 66, 5, 67, 68, 1, 76, 77, 78, 79, 80, 81, 82, 83, 84, 85, 86, 87, 88, 89, 90, 91, 92, 93, 94, 95, 96, 97, 98, 99, 100, 101, 102, 103, 104, 105, 106, 107, 108, 109, 110, 111, 112, 113, 114, 115, 116, 117, 118, 119, 120, 121, 122, 123, 124, 125, 126] (by decide +kernel) (by decide +kernel)
set_option maxRecDepth 20000 in
theorem gX12_writeReport_X12_writeNumber : GoodIn wsX12_writeReport (wsV RX12 235 RX12 yX12_writeNumber wsX12_writeNumber) := goodIn_app (goodIn_of _ (by decide +kernel)) ggX12_writeReport_X12_writeNumber
theorem dX12_writeReport_0 : decode cX12_writeReport 0 = .ok (.aload_n 0, 1) := by decide +kernel
theorem dX12_writeReport_1 : decode cX12_writeReport 1 = .ok (.iconst 0, 1) := by decide +kernel
theorem dX12_writeReport_2 : decode cX12_writeReport 2 = .ok (.putfield 192, 3) := by decide +kernel
theorem dX12_writeReport_5 : decode cX12_writeReport 5 = .ok (.iconst 0, 1) := by decide +kernel
theorem dX12_writeReport_6 : decode cX12_writeReport 6 = .ok (.istore_n 2, 1) := by decide +kernel
theorem dX12_writeReport_7 : decode cX12_writeReport 7 = .ok (.iload_n 2, 1) := by decide +kernel
theorem dX12_writeReport_8 : decode cX12_writeReport 8 = .ok (.iconst 4, 1) := by decide +kernel
theorem dX12_writeReport_9 : decode cX12_writeReport 9 = .ok (.if_icmp .ge 84, 3) := by decide +kernel
theorem dX12_writeReport_12 : decode cX12_writeReport 12 = .ok (.iconst 0, 1) := by decide +kernel
theorem dX12_writeReport_13 : decode cX12_writeReport 13 = .ok (.istore_n 3, 1) := by decide +kernel
theorem dX12_writeReport_14 : decode cX12_writeReport 14 = .ok (.iload_n 3, 1) := by decide +kernel
theorem dX12_writeReport_15 : decode cX12_writeReport 15 = .ok (.bipush 100, 2) := by decide +kernel
theorem dX12_writeReport_17 : decode cX12_writeReport 17 = .ok (.if_icmp .ge 70, 3) := by decide +kernel
theorem dX12_writeReport_20 : decode cX12_writeReport 20 = .ok (.aload_n 0, 1) := by decide +kernel
theorem dX12_writeReport_21 : decode cX12_writeReport 21 = .ok (.iload_n 1, 1) := by decide +kernel
theorem dX12_writeReport_22 : decode cX12_writeReport 22 = .ok (.iload_n 2, 1) := by decide +kernel
theorem dX12_writeReport_23 : decode cX12_writeReport 23 = .ok (.iload_n 3, 1) := by decide +kernel
theorem dX12_writeReport_24 : decode cX12_writeReport 24 = .ok (.invokevirtual 172, 3) := by decide +kernel
theorem dX12_writeReport_27 : decode cX12_writeReport 27 = .ok (.istore 4, 2) := by decide +kernel
theorem dX12_writeReport_29 : decode cX12_writeReport 29 = .ok (.iload 4, 2) := by decide +kernel
theorem dX12_writeReport_31 : decode cX12_writeReport 31 = .ok (.ifCond .ne 6, 3) := by decide +kernel
theorem dX12_writeReport_34 : decode cX12_writeReport 34 = .ok (.goto 47, 3) := by decide +kernel
theorem dX12_writeReport_37 : decode cX12_writeReport 37 = .ok (.aload_n 0, 1) := by decide +kernel
theorem dX12_writeReport_38 : decode cX12_writeReport 38 = .ok (.getfield 192, 3) := by decide +kernel
theorem dX12_writeReport_41 : decode cX12_writeReport 41 = .ok (.ifCond .le 9, 3) := by decide +kernel
theorem dX12_writeReport_44 : decode cX12_writeReport 44 = .ok (.aload_n 0, 1) := by decide +kernel
theorem dX12_writeReport_45 : decode cX12_writeReport 45 = .ok (.ldc 240, 2) := by decide +kernel
theorem dX12_writeReport_47 : decode cX12_writeReport 47 = .ok (.invokevirtual 231, 3) := by decide +kernel
theorem dX12_writeReport_50 : decode cX12_writeReport 50 = .ok (.aload_n 0, 1) := by decide +kernel
theorem dX12_writeReport_51 : decode cX12_writeReport 51 = .ok (.iload_n 2, 1) := by decide +kernel
theorem dX12_writeReport_52 : decode cX12_writeReport 52 = .ok (.invokestatic 242, 3) := by decide +kernel
theorem dX12_writeReport_55 : decode cX12_writeReport 55 = .ok (.invokevirtual 231, 3) := by decide +kernel
theorem dX12_writeReport_58 : decode cX12_writeReport 58 = .ok (.aload_n 0, 1) := by decide +kernel
theorem dX12_writeReport_59 : decode cX12_writeReport 59 = .ok (.bipush 32, 2) := by decide +kernel
theorem dX12_writeReport_61 : decode cX12_writeReport 61 = .ok (.invokevirtual 205, 3) := by decide +kernel
theorem dX12_writeReport_64 : decode cX12_writeReport 64 = .ok (.aload_n 0, 1) := by decide +kernel
theorem dX12_writeReport_65 : decode cX12_writeReport 65 = .ok (.iload_n 3, 1) := by decide +kernel
theorem dX12_writeReport_66 : decode cX12_writeReport 66 = .ok (.invokevirtual 235, 3) := by decide +kernel
theorem dX12_writeReport_69 : decode cX12_writeReport 69 = .ok (.aload_n 0, 1) := by decide +kernel
theorem dX12_writeReport_70 : decode cX12_writeReport 70 = .ok (.bipush 32, 2) := by decide +kernel
theorem dX12_writeReport_72 : decode cX12_writeReport 72 = .ok (.invokevirtual 205, 3) := by decide +kernel
theorem dX12_writeReport_75 : decode cX12_writeReport 75 = .ok (.aload_n 0, 1) := by decide +kernel
theorem dX12_writeReport_76 : decode cX12_writeReport 76 = .ok (.iload 4, 2) := by decide +kernel
theorem dX12_writeReport_78 : decode cX12_writeReport 78 = .ok (.invokevirtual 235, 3) := by decide +kernel
theorem dX12_writeReport_81 : decode cX12_writeReport 81 = .ok (.iinc 3 1, 3) := by decide +kernel
theorem dX12_writeReport_84 : decode cX12_writeReport 84 = .ok (.goto (-70), 3) := by decide +kernel
theorem dX12_writeReport_87 : decode cX12_writeReport 87 = .ok (.iinc 2 1, 3) := by decide +kernel
theorem dX12_writeReport_90 : decode cX12_writeReport 90 = .ok (.goto (-83), 3) := by decide +kernel
theorem dX12_writeReport_93 : decode cX12_writeReport 93 = .ok (.aload_n 0, 1) := by decide +kernel
theorem dX12_writeReport_94 : decode cX12_writeReport 94 = .ok (.getfield 192, 3) := by decide +kernel
theorem dX12_writeReport_97 : decode cX12_writeReport 97 = .ok (.ifCond .ne 9, 3) := by decide +kernel
theorem dX12_writeReport_100 : decode cX12_writeReport 100 = .ok (.aload_n 0, 1) := by decide +kernel
theorem dX12_writeReport_101 : decode cX12_writeReport 101 = .ok (.ldc 245, 2) := by decide +kernel
theorem dX12_writeReport_103 : decode cX12_writeReport 103 = .ok (.invokevirtual 231, 3) := by decide +kernel
theorem dX12_writeReport_106 : decode cX12_writeReport 106 = .ok (.return_, 1) := by decide +kernel
set_option maxRecDepth 20000 in
theorem ggX12_tell_X12_isIn : GoodIn wsX12_tell wsX12_isIn := goodIn_r _ [6] (by decide +kernel) (by decide +kernel)
set_option maxRecDepth 20000 in
theorem gX12_tell_X12_isIn : GoodIn wsX12_tell (va_wsS RX12 10 yX12_isIn wsX12_isIn) := goodIn_app (goodIn_of _ (by decide +kernel)) ggX12_tell_X12_isIn
set_option maxRecDepth 20000 in
theorem ggX12_tell_X12_fine : GoodIn wsX12_tell wsX12_fine := goodIn_r _ [10, 11, 16, 17, 18, 19, 20, 21, 22, 23, 24, 25, 26, 27, 28, 29, 30, 31, 32, 33, 34, 35, 36, 37, 38, 39, 40, 41, 42, 43, 44, 45, 46, 47, 48, 49, 50, 51, 52, 53, 54, 55, 56, 57, 58, 59, 60, 61, 62, 63, 64, 65, 66] (by decide +kernel) (by decide +kernel)
set_option maxRecDepth 20000 in
theorem gX12_tell_X12_fine : GoodIn wsX12_tell (wsV RX12 247 RX12 yX12_fine wsX12_fine) := goodIn_app (goodIn_of _ (by decide +kernel)) ggX12_tell_X12_fine
set_option maxRecDepth 20000 in
theorem ggX12_tell_X12_no : GoodIn wsX12_tell wsX12_no := goodIn_r _ [15, 11, 16, 17, 18, 19, 20, 21, 22, 23, 24, 25, 26, 27, 28, 29, 30, 31, 32, 33, 34, 35, 36, 37, 38, 39, 40, 41, 42, 43, 44, 45, 46, 47, 48, 49, 50, 51, 52, 53, 54, 55, 56, 57, 58, 59, 60, 61, 62, 63, 64, 65, 66] (by decide +kernel) (by decide +kernel)
set_option maxRecDepth 20000 in
theorem gX12_tell_X12_no : GoodIn wsX12_tell (wsV RX12 250 RX12 yX12_no wsX12_no) := goodIn_app (goodIn_of _ (by decide +kernel)) ggX12_tell_X12_no
theorem dX12_tell_0 : decode cX12_tell 0 = .ok (.iload_n 1, 1) := by decide +kernel
theorem dX12_tell_1 : decode cX12_tell 1 = .ok (.iconst 0, 1) := by decide +kernel
theorem dX12_tell_2 : decode cX12_tell 2 = .ok (.aload_n 0, 1) := by decide +kernel
theorem dX12_tell_3 : decode cX12_tell 3 = .ok (.getfield 192, 3) := by decide +kernel
theorem dX12_tell_6 : decode cX12_tell 6 = .ok (.iconst 1, 1) := by decide +kernel
theorem dX12_tell_7 : decode cX12_tell 7 = .ok (.isub, 1) := by decide +kernel
theorem dX12_tell_8 : decode cX12_tell 8 = .ok (.invokestatic 10, 3) := by decide +kernel
theorem dX12_tell_11 : decode cX12_tell 11 = .ok (.ifCond .eq 16, 3) := by decide +kernel
theorem dX12_tell_14 : decode cX12_tell 14 = .ok (.aload_n 0, 1) := by decide +kernel
theorem dX12_tell_15 : decode cX12_tell 15 = .ok (.aload_n 0, 1) := by decide +kernel
theorem dX12_tell_16 : decode cX12_tell 16 = .ok (.getfield 189, 3) := by decide +kernel
theorem dX12_tell_19 : decode cX12_tell 19 = .ok (.iload_n 1, 1) := by decide +kernel
theorem dX12_tell_20 : decode cX12_tell 20 = .ok (.iaload, 1) := by decide +kernel
theorem dX12_tell_21 : decode cX12_tell 21 = .ok (.invokevirtual 247, 3) := by decide +kernel
theorem dX12_tell_24 : decode cX12_tell 24 = .ok (.goto 8, 3) := by decide +kernel
theorem dX12_tell_27 : decode cX12_tell 27 = .ok (.aload_n 0, 1) := by decide +kernel
theorem dX12_tell_28 : decode cX12_tell 28 = .ok (.iconst 1, 1) := by decide +kernel
theorem dX12_tell_29 : decode cX12_tell 29 = .ok (.invokevirtual 250, 3) := by decide +kernel
theorem dX12_tell_32 : decode cX12_tell 32 = .ok (.ireturn, 1) := by decide +kernel
set_option maxRecDepth 20000 in
theorem ggX12_isSpelled_J0_length_8abf5 : GoodIn wsX12_isSpelled wsJ0_length_8abf5 := goodIn_r _ [8, 9, 10, 11, 12, 7, 13, 14, 15, 104, 105, 106, 107] (by decide +kernel) (by decide +kernel)
set_option maxRecDepth 20000 in
theorem gX12_isSpelled_J0_length_8abf5 : GoodIn wsX12_isSpelled (wsV RX12 195 RJ0 yJ0_length_8abf5 wsJ0_length_8abf5) := goodIn_app (goodIn_of _ (by decide +kernel)) ggX12_isSpelled_J0_length_8abf5
set_option maxRecDepth 20000 in
theorem ggX12_isSpelled_J0_charAt_5068e : GoodIn wsX12_isSpelled wsJ0_charAt_5068e := goodIn_r _ [19, 9, 20, 21, 22, 7, 23, 14, 15, 24, 25, 26, 27, 28, 29, 30, 31, 32, 33, 34, 35, 36, 37, 38, 39, 40, 41, 42, 43, 44, 45, 46, 47, 48, 49, 50, 51, 52, 104, 105, 106, 107] (by decide +kernel) (by decide +kernel)
set_option maxRecDepth 20000 in
theorem gX12_isSpelled_J0_charAt_5068e : GoodIn wsX12_isSpelled (wsV RX12 201 RJ0 yJ0_charAt_5068e wsJ0_charAt_5068e) := goodIn_app (goodIn_of _ (by decide +kernel)) ggX12_isSpelled_J0_charAt_5068e
theorem dX12_isSpelled_0 : decode cX12_isSpelled 0 = .ok (.aload_n 0, 1) := by decide +kernel
theorem dX12_isSpelled_1 : decode cX12_isSpelled 1 = .ok (.getfield 253, 3) := by decide +kernel
theorem dX12_isSpelled_4 : decode cX12_isSpelled 4 = .ok (.aload_n 0, 1) := by decide +kernel
theorem dX12_isSpelled_5 : decode cX12_isSpelled 5 = .ok (.getfield 256, 3) := by decide +kernel
theorem dX12_isSpelled_8 : decode cX12_isSpelled 8 = .ok (.isub, 1) := by decide +kernel
theorem dX12_isSpelled_9 : decode cX12_isSpelled 9 = .ok (.aload_n 1, 1) := by decide +kernel
theorem dX12_isSpelled_10 : decode cX12_isSpelled 10 = .ok (.invokevirtual 195, 3) := by decide +kernel
theorem dX12_isSpelled_13 : decode cX12_isSpelled 13 = .ok (.if_icmp .ne 7, 3) := by decide +kernel
theorem dX12_isSpelled_16 : decode cX12_isSpelled 16 = .ok (.iconst 1, 1) := by decide +kernel
theorem dX12_isSpelled_17 : decode cX12_isSpelled 17 = .ok (.goto 4, 3) := by decide +kernel
theorem dX12_isSpelled_20 : decode cX12_isSpelled 20 = .ok (.iconst 0, 1) := by decide +kernel
theorem dX12_isSpelled_21 : decode cX12_isSpelled 21 = .ok (.istore_n 2, 1) := by decide +kernel
theorem dX12_isSpelled_22 : decode cX12_isSpelled 22 = .ok (.iconst 0, 1) := by decide +kernel
theorem dX12_isSpelled_23 : decode cX12_isSpelled 23 = .ok (.istore_n 3, 1) := by decide +kernel
theorem dX12_isSpelled_24 : decode cX12_isSpelled 24 = .ok (.iload_n 3, 1) := by decide +kernel
theorem dX12_isSpelled_25 : decode cX12_isSpelled 25 = .ok (.aload_n 1, 1) := by decide +kernel
theorem dX12_isSpelled_26 : decode cX12_isSpelled 26 = .ok (.invokevirtual 195, 3) := by decide +kernel
theorem dX12_isSpelled_29 : decode cX12_isSpelled 29 = .ok (.if_icmp .ge 38, 3) := by decide +kernel
theorem dX12_isSpelled_32 : decode cX12_isSpelled 32 = .ok (.iload_n 2, 1) := by decide +kernel
theorem dX12_isSpelled_33 : decode cX12_isSpelled 33 = .ok (.ifCond .eq 34, 3) := by decide +kernel
theorem dX12_isSpelled_36 : decode cX12_isSpelled 36 = .ok (.aload_n 0, 1) := by decide +kernel
theorem dX12_isSpelled_37 : decode cX12_isSpelled 37 = .ok (.getfield 259, 3) := by decide +kernel
theorem dX12_isSpelled_40 : decode cX12_isSpelled 40 = .ok (.aload_n 0, 1) := by decide +kernel
theorem dX12_isSpelled_41 : decode cX12_isSpelled 41 = .ok (.getfield 256, 3) := by decide +kernel
theorem dX12_isSpelled_44 : decode cX12_isSpelled 44 = .ok (.iload_n 3, 1) := by decide +kernel
theorem dX12_isSpelled_45 : decode cX12_isSpelled 45 = .ok (.iadd, 1) := by decide +kernel
theorem dX12_isSpelled_46 : decode cX12_isSpelled 46 = .ok (.iaload, 1) := by decide +kernel
theorem dX12_isSpelled_47 : decode cX12_isSpelled 47 = .ok (.aload_n 1, 1) := by decide +kernel
theorem dX12_isSpelled_48 : decode cX12_isSpelled 48 = .ok (.iload_n 3, 1) := by decide +kernel
theorem dX12_isSpelled_49 : decode cX12_isSpelled 49 = .ok (.invokevirtual 201, 3) := by decide +kernel
theorem dX12_isSpelled_52 : decode cX12_isSpelled 52 = .ok (.if_icmp .ne 7, 3) := by decide +kernel
theorem dX12_isSpelled_55 : decode cX12_isSpelled 55 = .ok (.iconst 1, 1) := by decide +kernel
theorem dX12_isSpelled_56 : decode cX12_isSpelled 56 = .ok (.goto 4, 3) := by decide +kernel
theorem dX12_isSpelled_59 : decode cX12_isSpelled 59 = .ok (.iconst 0, 1) := by decide +kernel
theorem dX12_isSpelled_60 : decode cX12_isSpelled 60 = .ok (.istore_n 2, 1) := by decide +kernel
theorem dX12_isSpelled_61 : decode cX12_isSpelled 61 = .ok (.iinc 3 1, 3) := by decide +kernel
theorem dX12_isSpelled_64 : decode cX12_isSpelled 64 = .ok (.goto (-40), 3) := by decide +kernel
theorem dX12_isSpelled_67 : decode cX12_isSpelled 67 = .ok (.iload_n 2, 1) := by decide +kernel
theorem dX12_isSpelled_68 : decode cX12_isSpelled 68 = .ok (.ireturn, 1) := by decide +kernel
set_option maxRecDepth 20000 in
theorem ggX12_wordHere_X12_kindName : GoodIn wsX12_wordHere wsX12_kindName := goodIn_r _ [4] (by decide +kernel) (by decide +kernel)
set_option maxRecDepth 20000 in
theorem gX12_wordHere_X12_kindName : GoodIn wsX12_wordHere (va_wsS RX12 227 yX12_kindName wsX12_kindName) := goodIn_app (goodIn_of _ (by decide +kernel)) ggX12_wordHere_X12_kindName
set_option maxRecDepth 20000 in
theorem ggX12_wordHere_X12_isSpelled : GoodIn wsX12_wordHere wsX12_isSpelled := goodIn_r _ [8, 9, 10, 11, 12, 13, 14, 15, 16, 17, 18, 19, 20, 21, 22, 23, 24, 25, 26, 27, 28, 29, 30, 31, 32, 33, 34, 35, 36, 37, 38, 39, 40, 41, 42, 43, 44, 45, 46, 47, 48, 49, 50, 51, 52, 53, 54, 55, 56, 57, 58, 59, 60, 64, 65, 66, 67, 68, 69, 70, 71, 72, 73, 74, 75, 76, 77, 78, 79, 80, 81, 82, 83, 84, 85, 86, 87, 88, 89, 90, 91, 92, 93, 94, 95, 96, 97, 98, 99, 100, 101, 102, 103, 104, 105, 106, 107, 108, 109, 110, 111, 112, 113, 114, 115, 116, 117, 118] (by decide +kernel) (by decide +kernel)
set_option maxRecDepth 20000 in
theorem gX12_wordHere_X12_isSpelled : GoodIn wsX12_wordHere (wsV RX12 262 RX12 yX12_isSpelled wsX12_isSpelled) := goodIn_app (goodIn_of _ (by decide +kernel)) ggX12_wordHere_X12_isSpelled
set_option maxRecDepth 20000 in
theorem ggX12_wordHere_X12_sortName : GoodIn wsX12_wordHere wsX12_sortName := goodIn_r _ [63] (by decide +kernel) (by decide +kernel)
set_option maxRecDepth 20000 in
theorem gX12_wordHere_X12_sortName : GoodIn wsX12_wordHere (va_wsS RX12 242 yX12_sortName wsX12_sortName) := goodIn_app (goodIn_of _ (by decide +kernel)) ggX12_wordHere_X12_sortName
theorem dX12_wordHere_0 : decode cX12_wordHere 0 = .ok (.iconst 0, 1) := by decide +kernel
theorem dX12_wordHere_1 : decode cX12_wordHere 1 = .ok (.istore_n 1, 1) := by decide +kernel
theorem dX12_wordHere_2 : decode cX12_wordHere 2 = .ok (.iload_n 1, 1) := by decide +kernel
theorem dX12_wordHere_3 : decode cX12_wordHere 3 = .ok (.iconst 5, 1) := by decide +kernel
theorem dX12_wordHere_4 : decode cX12_wordHere 4 = .ok (.if_icmp .ge 22, 3) := by decide +kernel
theorem dX12_wordHere_7 : decode cX12_wordHere 7 = .ok (.aload_n 0, 1) := by decide +kernel
theorem dX12_wordHere_8 : decode cX12_wordHere 8 = .ok (.iload_n 1, 1) := by decide +kernel
theorem dX12_wordHere_9 : decode cX12_wordHere 9 = .ok (.invokestatic 227, 3) := by decide +kernel
theorem dX12_wordHere_12 : decode cX12_wordHere 12 = .ok (.invokevirtual 262, 3) := by decide +kernel
theorem dX12_wordHere_15 : decode cX12_wordHere 15 = .ok (.ifCond .eq 5, 3) := by decide +kernel
theorem dX12_wordHere_18 : decode cX12_wordHere 18 = .ok (.iload_n 1, 1) := by decide +kernel
theorem dX12_wordHere_19 : decode cX12_wordHere 19 = .ok (.ireturn, 1) := by decide +kernel
theorem dX12_wordHere_20 : decode cX12_wordHere 20 = .ok (.iinc 1 1, 3) := by decide +kernel
theorem dX12_wordHere_23 : decode cX12_wordHere 23 = .ok (.goto (-21), 3) := by decide +kernel
theorem dX12_wordHere_26 : decode cX12_wordHere 26 = .ok (.iconst 0, 1) := by decide +kernel
theorem dX12_wordHere_27 : decode cX12_wordHere 27 = .ok (.istore_n 1, 1) := by decide +kernel
theorem dX12_wordHere_28 : decode cX12_wordHere 28 = .ok (.iload_n 1, 1) := by decide +kernel
theorem dX12_wordHere_29 : decode cX12_wordHere 29 = .ok (.iconst 4, 1) := by decide +kernel
theorem dX12_wordHere_30 : decode cX12_wordHere 30 = .ok (.if_icmp .ge 24, 3) := by decide +kernel
theorem dX12_wordHere_33 : decode cX12_wordHere 33 = .ok (.aload_n 0, 1) := by decide +kernel
theorem dX12_wordHere_34 : decode cX12_wordHere 34 = .ok (.iload_n 1, 1) := by decide +kernel
theorem dX12_wordHere_35 : decode cX12_wordHere 35 = .ok (.invokestatic 242, 3) := by decide +kernel
theorem dX12_wordHere_38 : decode cX12_wordHere 38 = .ok (.invokevirtual 262, 3) := by decide +kernel
theorem dX12_wordHere_41 : decode cX12_wordHere 41 = .ok (.ifCond .eq 7, 3) := by decide +kernel
theorem dX12_wordHere_44 : decode cX12_wordHere 44 = .ok (.iconst 5, 1) := by decide +kernel
theorem dX12_wordHere_45 : decode cX12_wordHere 45 = .ok (.iload_n 1, 1) := by decide +kernel
theorem dX12_wordHere_46 : decode cX12_wordHere 46 = .ok (.iadd, 1) := by decide +kernel
theorem dX12_wordHere_47 : decode cX12_wordHere 47 = .ok (.ireturn, 1) := by decide +kernel
theorem dX12_wordHere_48 : decode cX12_wordHere 48 = .ok (.iinc 1 1, 3) := by decide +kernel
theorem dX12_wordHere_51 : decode cX12_wordHere 51 = .ok (.goto (-23), 3) := by decide +kernel
theorem dX12_wordHere_54 : decode cX12_wordHere 54 = .ok (.aload_n 0, 1) := by decide +kernel
theorem dX12_wordHere_55 : decode cX12_wordHere 55 = .ok (.ldc_w 266, 3) := by decide +kernel
theorem dX12_wordHere_58 : decode cX12_wordHere 58 = .ok (.invokevirtual 262, 3) := by decide +kernel
theorem dX12_wordHere_61 : decode cX12_wordHere 61 = .ok (.ifCond .eq 8, 3) := by decide +kernel
theorem dX12_wordHere_64 : decode cX12_wordHere 64 = .ok (.bipush 9, 2) := by decide +kernel
theorem dX12_wordHere_66 : decode cX12_wordHere 66 = .ok (.goto 18, 3) := by decide +kernel
theorem dX12_wordHere_69 : decode cX12_wordHere 69 = .ok (.aload_n 0, 1) := by decide +kernel
theorem dX12_wordHere_70 : decode cX12_wordHere 70 = .ok (.ldc 245, 2) := by decide +kernel
theorem dX12_wordHere_72 : decode cX12_wordHere 72 = .ok (.invokevirtual 262, 3) := by decide +kernel
theorem dX12_wordHere_75 : decode cX12_wordHere 75 = .ok (.ifCond .eq 8, 3) := by decide +kernel
theorem dX12_wordHere_78 : decode cX12_wordHere 78 = .ok (.bipush 10, 2) := by decide +kernel
theorem dX12_wordHere_80 : decode cX12_wordHere 80 = .ok (.goto 4, 3) := by decide +kernel
theorem dX12_wordHere_83 : decode cX12_wordHere 83 = .ok (.iconst (-1), 1) := by decide +kernel
theorem dX12_wordHere_84 : decode cX12_wordHere 84 = .ok (.ireturn, 1) := by decide +kernel
set_option maxRecDepth 20000 in
theorem ggX12_next_X12_isIn : GoodIn wsX12_next wsX12_isIn := goodIn_r _ [10] (by decide +kernel) (by decide +kernel)
set_option maxRecDepth 20000 in
theorem gX12_next_X12_isIn : GoodIn wsX12_next (va_wsS RX12 10 yX12_isIn wsX12_isIn) := goodIn_app (goodIn_of _ (by decide +kernel)) ggX12_next_X12_isIn
set_option maxRecDepth 20000 in
theorem ggX12_next_X12_wordHere : GoodIn wsX12_next wsX12_wordHere := goodIn_r _ [14, 15, 16, 9, 17, 18, 19, 20, 21, 1, 4, 3, 22, 23, 24, 25, 26, 27, 28, 29, 30, 31, 32, 33, 34, 35, 36, 37, 38, 39, 40, 41, 42, 43, 44, 45, 46, 47, 48, 49, 50, 51, 52, 53, 54, 55, 56, 57, 58, 59, 60, 61, 62, 63, 64, 65, 66, 67, 68, 69, 70, 71, 72, 73, 74, 75, 76, 77, 78, 79, 80, 81, 82, 83, 84, 85, 86, 87, 88, 89, 90, 91, 92, 93, 94, 95, 96, 97, 98, 99, 100, 101, 102, 103, 104, 105, 106, 107, 108, 109, 110, 111, 112, 113, 114, 115, 116, 117, 118, 119, 120, 121, 122, 123, 124, 125, 126, 127, 128] (by decide +kernel) (by decide +kernel)
set_option maxRecDepth 20000 in
theorem gX12_next_X12_wordHere : GoodIn wsX12_next (wsV RX12 277 RX12 yX12_wordHere wsX12_wordHere) := goodIn_app (goodIn_of _ (by decide +kernel)) ggX12_next_X12_wordHere
theorem dX12_next_0 : decode cX12_next 0 = .ok (.aload_n 0, 1) := by decide +kernel
theorem dX12_next_1 : decode cX12_next 1 = .ok (.getfield 253, 3) := by decide +kernel
theorem dX12_next_4 : decode cX12_next 4 = .ok (.aload_n 0, 1) := by decide +kernel
theorem dX12_next_5 : decode cX12_next 5 = .ok (.getfield 268, 3) := by decide +kernel
theorem dX12_next_8 : decode cX12_next 8 = .ok (.if_icmp .ge 30, 3) := by decide +kernel
theorem dX12_next_11 : decode cX12_next 11 = .ok (.aload_n 0, 1) := by decide +kernel
theorem dX12_next_12 : decode cX12_next 12 = .ok (.getfield 259, 3) := by decide +kernel
theorem dX12_next_15 : decode cX12_next 15 = .ok (.aload_n 0, 1) := by decide +kernel
theorem dX12_next_16 : decode cX12_next 16 = .ok (.getfield 253, 3) := by decide +kernel
theorem dX12_next_19 : decode cX12_next 19 = .ok (.iaload, 1) := by decide +kernel
theorem dX12_next_20 : decode cX12_next 20 = .ok (.bipush 32, 2) := by decide +kernel
theorem dX12_next_22 : decode cX12_next 22 = .ok (.if_icmp .ne 16, 3) := by decide +kernel
theorem dX12_next_25 : decode cX12_next 25 = .ok (.aload_n 0, 1) := by decide +kernel
theorem dX12_next_26 : decode cX12_next 26 = .ok (.dup, 1) := by decide +kernel
theorem dX12_next_27 : decode cX12_next 27 = .ok (.getfield 253, 3) := by decide +kernel
theorem dX12_next_30 : decode cX12_next 30 = .ok (.iconst 1, 1) := by decide +kernel
theorem dX12_next_31 : decode cX12_next 31 = .ok (.iadd, 1) := by decide +kernel
theorem dX12_next_32 : decode cX12_next 32 = .ok (.putfield 253, 3) := by decide +kernel
theorem dX12_next_35 : decode cX12_next 35 = .ok (.goto (-35), 3) := by decide +kernel
theorem dX12_next_38 : decode cX12_next 38 = .ok (.aload_n 0, 1) := by decide +kernel
theorem dX12_next_39 : decode cX12_next 39 = .ok (.aload_n 0, 1) := by decide +kernel
theorem dX12_next_40 : decode cX12_next 40 = .ok (.getfield 253, 3) := by decide +kernel
theorem dX12_next_43 : decode cX12_next 43 = .ok (.putfield 256, 3) := by decide +kernel
theorem dX12_next_46 : decode cX12_next 46 = .ok (.aload_n 0, 1) := by decide +kernel
theorem dX12_next_47 : decode cX12_next 47 = .ok (.iconst 0, 1) := by decide +kernel
theorem dX12_next_48 : decode cX12_next 48 = .ok (.putfield 271, 3) := by decide +kernel
theorem dX12_next_51 : decode cX12_next 51 = .ok (.aload_n 0, 1) := by decide +kernel
theorem dX12_next_52 : decode cX12_next 52 = .ok (.iconst 0, 1) := by decide +kernel
theorem dX12_next_53 : decode cX12_next 53 = .ok (.putfield 274, 3) := by decide +kernel
theorem dX12_next_56 : decode cX12_next 56 = .ok (.aload_n 0, 1) := by decide +kernel
theorem dX12_next_57 : decode cX12_next 57 = .ok (.getfield 253, 3) := by decide +kernel
theorem dX12_next_60 : decode cX12_next 60 = .ok (.aload_n 0, 1) := by decide +kernel
theorem dX12_next_61 : decode cX12_next 61 = .ok (.getfield 268, 3) := by decide +kernel
theorem dX12_next_64 : decode cX12_next 64 = .ok (.if_icmp .ne 4, 3) := by decide +kernel
theorem dX12_next_67 : decode cX12_next 67 = .ok (.return_, 1) := by decide +kernel
theorem dX12_next_68 : decode cX12_next 68 = .ok (.aload_n 0, 1) := by decide +kernel
theorem dX12_next_69 : decode cX12_next 69 = .ok (.getfield 259, 3) := by decide +kernel
theorem dX12_next_72 : decode cX12_next 72 = .ok (.aload_n 0, 1) := by decide +kernel
theorem dX12_next_73 : decode cX12_next 73 = .ok (.getfield 253, 3) := by decide +kernel
theorem dX12_next_76 : decode cX12_next 76 = .ok (.iaload, 1) := by decide +kernel
theorem dX12_next_77 : decode cX12_next 77 = .ok (.istore_n 1, 1) := by decide +kernel
theorem dX12_next_78 : decode cX12_next 78 = .ok (.iload_n 1, 1) := by decide +kernel
theorem dX12_next_79 : decode cX12_next 79 = .ok (.bipush 97, 2) := by decide +kernel
theorem dX12_next_81 : decode cX12_next 81 = .ok (.bipush 122, 2) := by decide +kernel
theorem dX12_next_83 : decode cX12_next 83 = .ok (.invokestatic 10, 3) := by decide +kernel
theorem dX12_next_86 : decode cX12_next 86 = .ok (.ifCond .eq 73, 3) := by decide +kernel
theorem dX12_next_89 : decode cX12_next 89 = .ok (.aload_n 0, 1) := by decide +kernel
theorem dX12_next_90 : decode cX12_next 90 = .ok (.getfield 253, 3) := by decide +kernel
theorem dX12_next_93 : decode cX12_next 93 = .ok (.aload_n 0, 1) := by decide +kernel
theorem dX12_next_94 : decode cX12_next 94 = .ok (.getfield 268, 3) := by decide +kernel
theorem dX12_next_97 : decode cX12_next 97 = .ok (.if_icmp .ge 35, 3) := by decide +kernel
theorem dX12_next_100 : decode cX12_next 100 = .ok (.aload_n 0, 1) := by decide +kernel
theorem dX12_next_101 : decode cX12_next 101 = .ok (.getfield 259, 3) := by decide +kernel
theorem dX12_next_104 : decode cX12_next 104 = .ok (.aload_n 0, 1) := by decide +kernel
theorem dX12_next_105 : decode cX12_next 105 = .ok (.getfield 253, 3) := by decide +kernel
theorem dX12_next_108 : decode cX12_next 108 = .ok (.iaload, 1) := by decide +kernel
theorem dX12_next_109 : decode cX12_next 109 = .ok (.bipush 97, 2) := by decide +kernel
theorem dX12_next_111 : decode cX12_next 111 = .ok (.bipush 122, 2) := by decide +kernel
theorem dX12_next_113 : decode cX12_next 113 = .ok (.invokestatic 10, 3) := by decide +kernel
theorem dX12_next_116 : decode cX12_next 116 = .ok (.ifCond .eq 16, 3) := by decide +kernel
theorem dX12_next_119 : decode cX12_next 119 = .ok (.aload_n 0, 1) := by decide +kernel
theorem dX12_next_120 : decode cX12_next 120 = .ok (.dup, 1) := by decide +kernel
theorem dX12_next_121 : decode cX12_next 121 = .ok (.getfield 253, 3) := by decide +kernel
theorem dX12_next_124 : decode cX12_next 124 = .ok (.iconst 1, 1) := by decide +kernel
theorem dX12_next_125 : decode cX12_next 125 = .ok (.iadd, 1) := by decide +kernel
theorem dX12_next_126 : decode cX12_next 126 = .ok (.putfield 253, 3) := by decide +kernel
theorem dX12_next_129 : decode cX12_next 129 = .ok (.goto (-40), 3) := by decide +kernel
theorem dX12_next_132 : decode cX12_next 132 = .ok (.aload_n 0, 1) := by decide +kernel
theorem dX12_next_133 : decode cX12_next 133 = .ok (.aload_n 0, 1) := by decide +kernel
theorem dX12_next_134 : decode cX12_next 134 = .ok (.invokevirtual 277, 3) := by decide +kernel
theorem dX12_next_137 : decode cX12_next 137 = .ok (.putfield 274, 3) := by decide +kernel
theorem dX12_next_140 : decode cX12_next 140 = .ok (.aload_n 0, 1) := by decide +kernel
theorem dX12_next_141 : decode cX12_next 141 = .ok (.aload_n 0, 1) := by decide +kernel
theorem dX12_next_142 : decode cX12_next 142 = .ok (.getfield 274, 3) := by decide +kernel
theorem dX12_next_145 : decode cX12_next 145 = .ok (.ifCond .ge 7, 3) := by decide +kernel
theorem dX12_next_148 : decode cX12_next 148 = .ok (.iconst 1, 1) := by decide +kernel
theorem dX12_next_149 : decode cX12_next 149 = .ok (.goto 4, 3) := by decide +kernel
theorem dX12_next_152 : decode cX12_next 152 = .ok (.iconst 2, 1) := by decide +kernel
theorem dX12_next_153 : decode cX12_next 153 = .ok (.putfield 271, 3) := by decide +kernel
theorem dX12_next_156 : decode cX12_next 156 = .ok (.goto 167, 3) := by decide +kernel
theorem dX12_next_159 : decode cX12_next 159 = .ok (.iload_n 1, 1) := by decide +kernel
theorem dX12_next_160 : decode cX12_next 160 = .ok (.bipush 48, 2) := by decide +kernel
theorem dX12_next_162 : decode cX12_next 162 = .ok (.bipush 57, 2) := by decide +kernel
theorem dX12_next_164 : decode cX12_next 164 = .ok (.invokestatic 10, 3) := by decide +kernel
theorem dX12_next_167 : decode cX12_next 167 = .ok (.ifCond .eq 108, 3) := by decide +kernel
theorem dX12_next_170 : decode cX12_next 170 = .ok (.aload_n 0, 1) := by decide +kernel
theorem dX12_next_171 : decode cX12_next 171 = .ok (.getfield 253, 3) := by decide +kernel
theorem dX12_next_174 : decode cX12_next 174 = .ok (.aload_n 0, 1) := by decide +kernel
theorem dX12_next_175 : decode cX12_next 175 = .ok (.getfield 268, 3) := by decide +kernel
theorem dX12_next_178 : decode cX12_next 178 = .ok (.if_icmp .ge 72, 3) := by decide +kernel
theorem dX12_next_181 : decode cX12_next 181 = .ok (.aload_n 0, 1) := by decide +kernel
theorem dX12_next_182 : decode cX12_next 182 = .ok (.getfield 259, 3) := by decide +kernel
theorem dX12_next_185 : decode cX12_next 185 = .ok (.aload_n 0, 1) := by decide +kernel
theorem dX12_next_186 : decode cX12_next 186 = .ok (.getfield 253, 3) := by decide +kernel
theorem dX12_next_189 : decode cX12_next 189 = .ok (.iaload, 1) := by decide +kernel
theorem dX12_next_190 : decode cX12_next 190 = .ok (.bipush 48, 2) := by decide +kernel
theorem dX12_next_192 : decode cX12_next 192 = .ok (.bipush 57, 2) := by decide +kernel
theorem dX12_next_194 : decode cX12_next 194 = .ok (.invokestatic 10, 3) := by decide +kernel
theorem dX12_next_197 : decode cX12_next 197 = .ok (.ifCond .eq 53, 3) := by decide +kernel
theorem dX12_next_200 : decode cX12_next 200 = .ok (.aload_n 0, 1) := by decide +kernel
theorem dX12_next_201 : decode cX12_next 201 = .ok (.getfield 253, 3) := by decide +kernel
theorem dX12_next_204 : decode cX12_next 204 = .ok (.aload_n 0, 1) := by decide +kernel
theorem dX12_next_205 : decode cX12_next 205 = .ok (.getfield 256, 3) := by decide +kernel
theorem dX12_next_208 : decode cX12_next 208 = .ok (.isub, 1) := by decide +kernel
theorem dX12_next_209 : decode cX12_next 209 = .ok (.iconst 4, 1) := by decide +kernel
theorem dX12_next_210 : decode cX12_next 210 = .ok (.if_icmp .ge 27, 3) := by decide +kernel
theorem dX12_next_213 : decode cX12_next 213 = .ok (.aload_n 0, 1) := by decide +kernel
theorem dX12_next_214 : decode cX12_next 214 = .ok (.bipush 10, 2) := by decide +kernel
theorem dX12_next_216 : decode cX12_next 216 = .ok (.aload_n 0, 1) := by decide +kernel
theorem dX12_next_217 : decode cX12_next 217 = .ok (.getfield 274, 3) := by decide +kernel
theorem dX12_next_220 : decode cX12_next 220 = .ok (.imul, 1) := by decide +kernel
theorem dX12_next_221 : decode cX12_next 221 = .ok (.aload_n 0, 1) := by decide +kernel
theorem dX12_next_222 : decode cX12_next 222 = .ok (.getfield 259, 3) := by decide +kernel
theorem dX12_next_225 : decode cX12_next 225 = .ok (.aload_n 0, 1) := by decide +kernel
theorem dX12_next_226 : decode cX12_next 226 = .ok (.getfield 253, 3) := by decide +kernel
theorem dX12_next_229 : decode cX12_next 229 = .ok (.iaload, 1) := by decide +kernel
theorem dX12_next_230 : decode cX12_next 230 = .ok (.iadd, 1) := by decide +kernel
theorem dX12_next_231 : decode cX12_next 231 = .ok (.bipush 48, 2) := by decide +kernel
theorem dX12_next_233 : decode cX12_next 233 = .ok (.isub, 1) := by decide +kernel
theorem dX12_next_234 : decode cX12_next 234 = .ok (.putfield 274, 3) := by decide +kernel
theorem dX12_next_237 : decode cX12_next 237 = .ok (.aload_n 0, 1) := by decide +kernel
theorem dX12_next_238 : decode cX12_next 238 = .ok (.dup, 1) := by decide +kernel
theorem dX12_next_239 : decode cX12_next 239 = .ok (.getfield 253, 3) := by decide +kernel
theorem dX12_next_242 : decode cX12_next 242 = .ok (.iconst 1, 1) := by decide +kernel
theorem dX12_next_243 : decode cX12_next 243 = .ok (.iadd, 1) := by decide +kernel
theorem dX12_next_244 : decode cX12_next 244 = .ok (.putfield 253, 3) := by decide +kernel
theorem dX12_next_247 : decode cX12_next 247 = .ok (.goto (-77), 3) := by decide +kernel
theorem dX12_next_250 : decode cX12_next 250 = .ok (.aload_n 0, 1) := by decide +kernel
theorem dX12_next_251 : decode cX12_next 251 = .ok (.aload_n 0, 1) := by decide +kernel
theorem dX12_next_252 : decode cX12_next 252 = .ok (.getfield 253, 3) := by decide +kernel
theorem dX12_next_255 : decode cX12_next 255 = .ok (.aload_n 0, 1) := by decide +kernel
theorem dX12_next_256 : decode cX12_next 256 = .ok (.getfield 256, 3) := by decide +kernel
theorem dX12_next_259 : decode cX12_next 259 = .ok (.isub, 1) := by decide +kernel
theorem dX12_next_260 : decode cX12_next 260 = .ok (.iconst 4, 1) := by decide +kernel
theorem dX12_next_261 : decode cX12_next 261 = .ok (.if_icmp .le 7, 3) := by decide +kernel
theorem dX12_next_264 : decode cX12_next 264 = .ok (.iconst 1, 1) := by decide +kernel
theorem dX12_next_265 : decode cX12_next 265 = .ok (.goto 4, 3) := by decide +kernel
theorem dX12_next_268 : decode cX12_next 268 = .ok (.iconst 3, 1) := by decide +kernel
theorem dX12_next_269 : decode cX12_next 269 = .ok (.putfield 271, 3) := by decide +kernel
theorem dX12_next_272 : decode cX12_next 272 = .ok (.goto 51, 3) := by decide +kernel
theorem dX12_next_275 : decode cX12_next 275 = .ok (.aload_n 0, 1) := by decide +kernel
theorem dX12_next_276 : decode cX12_next 276 = .ok (.dup, 1) := by decide +kernel
theorem dX12_next_277 : decode cX12_next 277 = .ok (.getfield 253, 3) := by decide +kernel
theorem dX12_next_280 : decode cX12_next 280 = .ok (.iconst 1, 1) := by decide +kernel
theorem dX12_next_281 : decode cX12_next 281 = .ok (.iadd, 1) := by decide +kernel
theorem dX12_next_282 : decode cX12_next 282 = .ok (.putfield 253, 3) := by decide +kernel
theorem dX12_next_285 : decode cX12_next 285 = .ok (.aload_n 0, 1) := by decide +kernel
theorem dX12_next_286 : decode cX12_next 286 = .ok (.iload_n 1, 1) := by decide +kernel
theorem dX12_next_287 : decode cX12_next 287 = .ok (.putfield 274, 3) := by decide +kernel
theorem dX12_next_290 : decode cX12_next 290 = .ok (.aload_n 0, 1) := by decide +kernel
theorem dX12_next_291 : decode cX12_next 291 = .ok (.iload_n 1, 1) := by decide +kernel
theorem dX12_next_292 : decode cX12_next 292 = .ok (.bipush 43, 2) := by decide +kernel
theorem dX12_next_294 : decode cX12_next 294 = .ok (.if_icmp .eq 21, 3) := by decide +kernel
theorem dX12_next_297 : decode cX12_next 297 = .ok (.iload_n 1, 1) := by decide +kernel
theorem dX12_next_298 : decode cX12_next 298 = .ok (.bipush 45, 2) := by decide +kernel
theorem dX12_next_300 : decode cX12_next 300 = .ok (.if_icmp .eq 15, 3) := by decide +kernel
theorem dX12_next_303 : decode cX12_next 303 = .ok (.iload_n 1, 1) := by decide +kernel
theorem dX12_next_304 : decode cX12_next 304 = .ok (.bipush 44, 2) := by decide +kernel
theorem dX12_next_306 : decode cX12_next 306 = .ok (.if_icmp .eq 9, 3) := by decide +kernel
theorem dX12_next_309 : decode cX12_next 309 = .ok (.iload_n 1, 1) := by decide +kernel
theorem dX12_next_310 : decode cX12_next 310 = .ok (.bipush 58, 2) := by decide +kernel
theorem dX12_next_312 : decode cX12_next 312 = .ok (.if_icmp .ne 7, 3) := by decide +kernel
theorem dX12_next_315 : decode cX12_next 315 = .ok (.iconst 4, 1) := by decide +kernel
theorem dX12_next_316 : decode cX12_next 316 = .ok (.goto 4, 3) := by decide +kernel
theorem dX12_next_319 : decode cX12_next 319 = .ok (.iconst 1, 1) := by decide +kernel
theorem dX12_next_320 : decode cX12_next 320 = .ok (.putfield 271, 3) := by decide +kernel
theorem dX12_next_323 : decode cX12_next 323 = .ok (.return_, 1) := by decide +kernel
set_option maxRecDepth 20000 in
theorem ggX12_begins_X12_next : GoodIn wsX12_begins wsX12_next := goodIn_r _ [8, 1, 9, 10, 11, 12, 13, 14, 15, 7, 16, 17, 18, 19, 20, 21, 22, 23, 24, 25, 26, 27, 28, 29, 30, 31, 32, 33, 34, 35, 36, 37, 38, 39, 40, 41, 42, 43, 44, 45, 46, 47, 48, 49, 50, 51, 52, 53, 54, 55, 56, 57, 58, 59, 60, 61, 62, 63, 64, 65, 66, 67, 68, 69, 70, 71, 72, 73, 74, 75, 76, 77, 78, 79, 80, 81, 82, 83, 84, 85, 86, 87, 88, 89, 90, 91, 92, 93, 94, 95, 96, 97, 98, 99, 100, 101, 102, 103, 104, 105, 106, 107, 108, 109, 110, 111, 112, 113, 114, 115, 116, 117, 118, 119, 120, 121, 122, 123, 124, 125, 126, 127, 128, 129, 130, 131, 132, 133, 134] (by decide +kernel) (by decide +kernel)
set_option maxRecDepth 20000 in
theorem gX12_begins_X12_next : GoodIn wsX12_begins (wsV RX12 287 RX12 yX12_next wsX12_next) := goodIn_app (goodIn_of _ (by decide +kernel)) ggX12_begins_X12_next
theorem dX12_begins_0 : decode cX12_begins 0 = .ok (.aload_n 0, 1) := by decide +kernel
theorem dX12_begins_1 : decode cX12_begins 1 = .ok (.iconst 0, 1) := by decide +kernel
theorem dX12_begins_2 : decode cX12_begins 2 = .ok (.putfield 253, 3) := by decide +kernel
theorem dX12_begins_5 : decode cX12_begins 5 = .ok (.aload_n 0, 1) := by decide +kernel
theorem dX12_begins_6 : decode cX12_begins 6 = .ok (.iconst 1, 1) := by decide +kernel
theorem dX12_begins_7 : decode cX12_begins 7 = .ok (.putfield 280, 3) := by decide +kernel
theorem dX12_begins_10 : decode cX12_begins 10 = .ok (.aload_n 0, 1) := by decide +kernel
theorem dX12_begins_11 : decode cX12_begins 11 = .ok (.iconst 0, 1) := by decide +kernel
theorem dX12_begins_12 : decode cX12_begins 12 = .ok (.putfield 284, 3) := by decide +kernel
theorem dX12_begins_15 : decode cX12_begins 15 = .ok (.aload_n 0, 1) := by decide +kernel
theorem dX12_begins_16 : decode cX12_begins 16 = .ok (.invokevirtual 287, 3) := by decide +kernel
theorem dX12_begins_19 : decode cX12_begins 19 = .ok (.return_, 1) := by decide +kernel
theorem dX12_ends_0 : decode cX12_ends 0 = .ok (.aload_n 0, 1) := by decide +kernel
theorem dX12_ends_1 : decode cX12_ends 1 = .ok (.aload_n 0, 1) := by decide +kernel
theorem dX12_ends_2 : decode cX12_ends 2 = .ok (.getfield 280, 3) := by decide +kernel
theorem dX12_ends_5 : decode cX12_ends 5 = .ok (.ifCond .eq 14, 3) := by decide +kernel
theorem dX12_ends_8 : decode cX12_ends 8 = .ok (.aload_n 0, 1) := by decide +kernel
theorem dX12_ends_9 : decode cX12_ends 9 = .ok (.getfield 271, 3) := by decide +kernel
theorem dX12_ends_12 : decode cX12_ends 12 = .ok (.ifCond .ne 7, 3) := by decide +kernel
theorem dX12_ends_15 : decode cX12_ends 15 = .ok (.iconst 1, 1) := by decide +kernel
theorem dX12_ends_16 : decode cX12_ends 16 = .ok (.goto 4, 3) := by decide +kernel
theorem dX12_ends_19 : decode cX12_ends 19 = .ok (.iconst 0, 1) := by decide +kernel
theorem dX12_ends_20 : decode cX12_ends 20 = .ok (.putfield 280, 3) := by decide +kernel
theorem dX12_ends_23 : decode cX12_ends 23 = .ok (.aload_n 0, 1) := by decide +kernel
theorem dX12_ends_24 : decode cX12_ends 24 = .ok (.aload_n 0, 1) := by decide +kernel
theorem dX12_ends_25 : decode cX12_ends 25 = .ok (.getfield 280, 3) := by decide +kernel
theorem dX12_ends_28 : decode cX12_ends 28 = .ok (.ifCond .eq 9, 3) := by decide +kernel
theorem dX12_ends_31 : decode cX12_ends 31 = .ok (.sipush (-9999), 3) := by decide +kernel
theorem dX12_ends_34 : decode cX12_ends 34 = .ok (.goto 7, 3) := by decide +kernel
theorem dX12_ends_37 : decode cX12_ends 37 = .ok (.aload_n 0, 1) := by decide +kernel
theorem dX12_ends_38 : decode cX12_ends 38 = .ok (.getfield 256, 3) := by decide +kernel
theorem dX12_ends_41 : decode cX12_ends 41 = .ok (.putfield 291, 3) := by decide +kernel
theorem dX12_ends_44 : decode cX12_ends 44 = .ok (.aload_n 0, 1) := by decide +kernel
theorem dX12_ends_45 : decode cX12_ends 45 = .ok (.iconst 0, 1) := by decide +kernel
theorem dX12_ends_46 : decode cX12_ends 46 = .ok (.putfield 268, 3) := by decide +kernel
theorem dX12_ends_49 : decode cX12_ends 49 = .ok (.aload_n 0, 1) := by decide +kernel
theorem dX12_ends_50 : decode cX12_ends 50 = .ok (.getfield 280, 3) := by decide +kernel
theorem dX12_ends_53 : decode cX12_ends 53 = .ok (.ireturn, 1) := by decide +kernel
set_option maxRecDepth 20000 in
theorem ggX12_number_X12_next : GoodIn wsX12_number wsX12_next := goodIn_r _ [8, 9, 10, 11, 12, 2, 3, 13, 14, 7, 15, 16, 17, 18, 19, 20, 21, 22, 23, 24, 25, 26, 27, 28, 29, 30, 31, 32, 33, 34, 35, 36, 37, 38, 39, 40, 41, 42, 43, 44, 45, 46, 47, 48, 49, 50, 51, 52, 53, 54, 55, 56, 57, 58, 59, 60, 61, 62, 63, 64, 65, 66, 67, 68, 69, 70, 71, 72, 73, 74, 75, 76, 77, 78, 79, 80, 81, 82, 83, 84, 85, 86, 87, 88, 89, 90, 91, 92, 93, 94, 95, 96, 97, 98, 99, 100, 101, 102, 103, 104, 105, 106, 107, 108, 109, 110, 111, 112, 113, 114, 115, 116, 117, 118, 119, 120, 121, 122, 123, 124, 125, 126, 127, 128, 129, 130, 131, 132, 133] (by decide +kernel) (by decide +kernel)
set_option maxRecDepth 20000 in
theorem gX12_number_X12_next : GoodIn wsX12_number (wsV RX12 287 RX12 yX12_next wsX12_next) := goodIn_app (goodIn_of _ (by decide +kernel)) ggX12_number_X12_next
theorem dX12_number_0 : decode cX12_number 0 = .ok (.aload_n 0, 1) := by decide +kernel
theorem dX12_number_1 : decode cX12_number 1 = .ok (.aload_n 0, 1) := by decide +kernel
theorem dX12_number_2 : decode cX12_number 2 = .ok (.getfield 280, 3) := by decide +kernel
theorem dX12_number_5 : decode cX12_number 5 = .ok (.ifCond .eq 15, 3) := by decide +kernel
theorem dX12_number_8 : decode cX12_number 8 = .ok (.aload_n 0, 1) := by decide +kernel
theorem dX12_number_9 : decode cX12_number 9 = .ok (.getfield 271, 3) := by decide +kernel
theorem dX12_number_12 : decode cX12_number 12 = .ok (.iconst 3, 1) := by decide +kernel
theorem dX12_number_13 : decode cX12_number 13 = .ok (.if_icmp .ne 7, 3) := by decide +kernel
theorem dX12_number_16 : decode cX12_number 16 = .ok (.iconst 1, 1) := by decide +kernel
theorem dX12_number_17 : decode cX12_number 17 = .ok (.goto 4, 3) := by decide +kernel
theorem dX12_number_20 : decode cX12_number 20 = .ok (.iconst 0, 1) := by decide +kernel
theorem dX12_number_21 : decode cX12_number 21 = .ok (.putfield 280, 3) := by decide +kernel
theorem dX12_number_24 : decode cX12_number 24 = .ok (.aload_n 0, 1) := by decide +kernel
theorem dX12_number_25 : decode cX12_number 25 = .ok (.getfield 280, 3) := by decide +kernel
theorem dX12_number_28 : decode cX12_number 28 = .ok (.ifCond .ne 5, 3) := by decide +kernel
theorem dX12_number_31 : decode cX12_number 31 = .ok (.iconst 0, 1) := by decide +kernel
theorem dX12_number_32 : decode cX12_number 32 = .ok (.ireturn, 1) := by decide +kernel
theorem dX12_number_33 : decode cX12_number 33 = .ok (.aload_n 0, 1) := by decide +kernel
theorem dX12_number_34 : decode cX12_number 34 = .ok (.getfield 274, 3) := by decide +kernel
theorem dX12_number_37 : decode cX12_number 37 = .ok (.istore_n 1, 1) := by decide +kernel
theorem dX12_number_38 : decode cX12_number 38 = .ok (.aload_n 0, 1) := by decide +kernel
theorem dX12_number_39 : decode cX12_number 39 = .ok (.invokevirtual 287, 3) := by decide +kernel
theorem dX12_number_42 : decode cX12_number 42 = .ok (.iload_n 1, 1) := by decide +kernel
theorem dX12_number_43 : decode cX12_number 43 = .ok (.ireturn, 1) := by decide +kernel
set_option maxRecDepth 20000 in
theorem ggX12_word_X12_isIn : GoodIn wsX12_word wsX12_isIn := goodIn_r _ [7] (by decide +kernel) (by decide +kernel)
set_option maxRecDepth 20000 in
theorem gX12_word_X12_isIn : GoodIn wsX12_word (va_wsS RX12 10 yX12_isIn wsX12_isIn) := goodIn_app (goodIn_of _ (by decide +kernel)) ggX12_word_X12_isIn
set_option maxRecDepth 20000 in
theorem ggX12_word_X12_next : GoodIn wsX12_word wsX12_next := goodIn_r _ [11, 12, 13, 14, 15, 2, 3, 4, 5, 6, 7, 16, 17, 18, 19, 20, 21, 22, 23, 24, 25, 26, 27, 28, 29, 30, 31, 32, 33, 34, 35, 36, 37, 38, 39, 40, 41, 42, 43, 44, 45, 46, 47, 48, 49, 50, 51, 52, 53, 54, 55, 56, 57, 58, 59, 60, 61, 62, 63, 64, 65, 66, 67, 68, 69, 70, 71, 72, 73, 74, 75, 76, 77, 78, 79, 80, 81, 82, 83, 84, 85, 86, 87, 88, 89, 90, 91, 92, 93, 94, 95, 96, 97, 98, 99, 100, 101, 102, 103, 104, 105, 106, 107, 108, 109, 110, 111, 112, 113, 114, 115, 116, 117, 118, 119, 120, 121, 122, 123, 124, 125, 126, 127, 128, 129, 130, 131, 132, 133] (by decide +kernel) (by decide +kernel)
set_option maxRecDepth 20000 in
theorem gX12_word_X12_next : GoodIn wsX12_word (wsV RX12 287 RX12 yX12_next wsX12_next) := goodIn_app (goodIn_of _ (by decide +kernel)) ggX12_word_X12_next
theorem dX12_word_0 : decode cX12_word 0 = .ok (.aload_n 0, 1) := by decide +kernel
theorem dX12_word_1 : decode cX12_word 1 = .ok (.aload_n 0, 1) := by decide +kernel
theorem dX12_word_2 : decode cX12_word 2 = .ok (.getfield 280, 3) := by decide +kernel
theorem dX12_word_5 : decode cX12_word 5 = .ok (.ifCond .eq 31, 3) := by decide +kernel
theorem dX12_word_8 : decode cX12_word 8 = .ok (.aload_n 0, 1) := by decide +kernel
theorem dX12_word_9 : decode cX12_word 9 = .ok (.getfield 271, 3) := by decide +kernel
theorem dX12_word_12 : decode cX12_word 12 = .ok (.iconst 2, 1) := by decide +kernel
theorem dX12_word_13 : decode cX12_word 13 = .ok (.if_icmp .ne 23, 3) := by decide +kernel
theorem dX12_word_16 : decode cX12_word 16 = .ok (.aload_n 0, 1) := by decide +kernel
theorem dX12_word_17 : decode cX12_word 17 = .ok (.getfield 274, 3) := by decide +kernel
theorem dX12_word_20 : decode cX12_word 20 = .ok (.iload_n 1, 1) := by decide +kernel
theorem dX12_word_21 : decode cX12_word 21 = .ok (.iload_n 1, 1) := by decide +kernel
theorem dX12_word_22 : decode cX12_word 22 = .ok (.iload_n 2, 1) := by decide +kernel
theorem dX12_word_23 : decode cX12_word 23 = .ok (.iadd, 1) := by decide +kernel
theorem dX12_word_24 : decode cX12_word 24 = .ok (.iconst 1, 1) := by decide +kernel
theorem dX12_word_25 : decode cX12_word 25 = .ok (.isub, 1) := by decide +kernel
theorem dX12_word_26 : decode cX12_word 26 = .ok (.invokestatic 10, 3) := by decide +kernel
theorem dX12_word_29 : decode cX12_word 29 = .ok (.ifCond .eq 7, 3) := by decide +kernel
theorem dX12_word_32 : decode cX12_word 32 = .ok (.iconst 1, 1) := by decide +kernel
theorem dX12_word_33 : decode cX12_word 33 = .ok (.goto 4, 3) := by decide +kernel
theorem dX12_word_36 : decode cX12_word 36 = .ok (.iconst 0, 1) := by decide +kernel
theorem dX12_word_37 : decode cX12_word 37 = .ok (.putfield 280, 3) := by decide +kernel
theorem dX12_word_40 : decode cX12_word 40 = .ok (.aload_n 0, 1) := by decide +kernel
theorem dX12_word_41 : decode cX12_word 41 = .ok (.getfield 280, 3) := by decide +kernel
theorem dX12_word_44 : decode cX12_word 44 = .ok (.ifCond .ne 5, 3) := by decide +kernel
theorem dX12_word_47 : decode cX12_word 47 = .ok (.iload_n 1, 1) := by decide +kernel
theorem dX12_word_48 : decode cX12_word 48 = .ok (.ireturn, 1) := by decide +kernel
theorem dX12_word_49 : decode cX12_word 49 = .ok (.aload_n 0, 1) := by decide +kernel
theorem dX12_word_50 : decode cX12_word 50 = .ok (.getfield 274, 3) := by decide +kernel
theorem dX12_word_53 : decode cX12_word 53 = .ok (.istore_n 3, 1) := by decide +kernel
theorem dX12_word_54 : decode cX12_word 54 = .ok (.aload_n 0, 1) := by decide +kernel
theorem dX12_word_55 : decode cX12_word 55 = .ok (.invokevirtual 287, 3) := by decide +kernel
theorem dX12_word_58 : decode cX12_word 58 = .ok (.iload_n 3, 1) := by decide +kernel
theorem dX12_word_59 : decode cX12_word 59 = .ok (.ireturn, 1) := by decide +kernel
set_option maxRecDepth 20000 in
theorem ggX12_goes_X12_next : GoodIn wsX12_goes wsX12_next := goodIn_r _ [8, 9, 10, 11, 12, 2, 3, 13, 14, 7, 15, 16, 17, 18, 19, 20, 21, 22, 23, 24, 25, 26, 27, 28, 29, 30, 31, 32, 33, 34, 35, 36, 37, 38, 39, 40, 41, 42, 43, 44, 45, 46, 47, 48, 49, 50, 51, 52, 53, 54, 55, 56, 57, 58, 59, 60, 61, 62, 63, 64, 65, 66, 67, 68, 69, 70, 71, 72, 73, 74, 75, 76, 77, 78, 79, 80, 81, 82, 83, 84, 85, 86, 87, 88, 89, 90, 91, 92, 93, 94, 95, 96, 97, 98, 99, 100, 101, 102, 103, 104, 105, 106, 107, 108, 109, 110, 111, 112, 113, 114, 115, 116, 117, 118, 119, 120, 121, 122, 123, 124, 125, 126, 127, 128, 129, 130, 131, 132, 133] (by decide +kernel) (by decide +kernel)
set_option maxRecDepth 20000 in
theorem gX12_goes_X12_next : GoodIn wsX12_goes (wsV RX12 287 RX12 yX12_next wsX12_next) := goodIn_app (goodIn_of _ (by decide +kernel)) ggX12_goes_X12_next
theorem dX12_goes_0 : decode cX12_goes 0 = .ok (.aload_n 0, 1) := by decide +kernel
theorem dX12_goes_1 : decode cX12_goes 1 = .ok (.getfield 280, 3) := by decide +kernel
theorem dX12_goes_4 : decode cX12_goes 4 = .ok (.ifCond .eq 23, 3) := by decide +kernel
theorem dX12_goes_7 : decode cX12_goes 7 = .ok (.aload_n 0, 1) := by decide +kernel
theorem dX12_goes_8 : decode cX12_goes 8 = .ok (.getfield 271, 3) := by decide +kernel
theorem dX12_goes_11 : decode cX12_goes 11 = .ok (.iload_n 1, 1) := by decide +kernel
theorem dX12_goes_12 : decode cX12_goes 12 = .ok (.if_icmp .ne 15, 3) := by decide +kernel
theorem dX12_goes_15 : decode cX12_goes 15 = .ok (.aload_n 0, 1) := by decide +kernel
theorem dX12_goes_16 : decode cX12_goes 16 = .ok (.getfield 274, 3) := by decide +kernel
theorem dX12_goes_19 : decode cX12_goes 19 = .ok (.iload_n 2, 1) := by decide +kernel
theorem dX12_goes_20 : decode cX12_goes 20 = .ok (.if_icmp .ne 7, 3) := by decide +kernel
theorem dX12_goes_23 : decode cX12_goes 23 = .ok (.iconst 1, 1) := by decide +kernel
theorem dX12_goes_24 : decode cX12_goes 24 = .ok (.goto 4, 3) := by decide +kernel
theorem dX12_goes_27 : decode cX12_goes 27 = .ok (.iconst 0, 1) := by decide +kernel
theorem dX12_goes_28 : decode cX12_goes 28 = .ok (.istore_n 3, 1) := by decide +kernel
theorem dX12_goes_29 : decode cX12_goes 29 = .ok (.iload_n 3, 1) := by decide +kernel
theorem dX12_goes_30 : decode cX12_goes 30 = .ok (.ifCond .eq 7, 3) := by decide +kernel
theorem dX12_goes_33 : decode cX12_goes 33 = .ok (.aload_n 0, 1) := by decide +kernel
theorem dX12_goes_34 : decode cX12_goes 34 = .ok (.invokevirtual 287, 3) := by decide +kernel
theorem dX12_goes_37 : decode cX12_goes 37 = .ok (.iload_n 3, 1) := by decide +kernel
theorem dX12_goes_38 : decode cX12_goes 38 = .ok (.ireturn, 1) := by decide +kernel
set_option maxRecDepth 20000 in
theorem ggX12_must_X12_goes : GoodIn wsX12_must wsX12_goes := goodIn_r _ [6, 1, 7, 8, 9, 10, 11, 5, 12, 13, 14, 15, 16, 17, 18, 19, 20, 21, 22, 23, 24, 25, 26, 27, 28, 29, 30, 31, 32, 33, 34, 35, 36, 37, 38, 39, 40, 41, 42, 43, 44, 45, 46, 47, 48, 49, 50, 51, 52, 53, 54, 55, 56, 57, 58, 59, 60, 61, 62, 63, 64, 65, 66, 67, 68, 69, 70, 71, 72, 73, 74, 75, 76, 77, 78, 79, 80, 81, 82, 83, 84, 85, 86, 87, 88, 89, 90, 91, 92, 93, 94, 95, 96, 97, 98, 99, 100, 101, 102, 103, 104, 105, 106, 107, 108, 109, 110, 111, 112, 113, 114, 115, 116, 117, 118, 119, 120, 121, 122, 123, 124, 125, 126, 127, 128, 129, 130, 131, 132, 133, 134, 135, 136, 137] (by decide +kernel) (by decide +kernel)
set_option maxRecDepth 20000 in
theorem gX12_must_X12_goes : GoodIn wsX12_must (wsV RX12 294 RX12 yX12_goes wsX12_goes) := goodIn_app (goodIn_of _ (by decide +kernel)) ggX12_must_X12_goes
theorem dX12_must_0 : decode cX12_must 0 = .ok (.aload_n 0, 1) := by decide +kernel
theorem dX12_must_1 : decode cX12_must 1 = .ok (.aload_n 0, 1) := by decide +kernel
theorem dX12_must_2 : decode cX12_must 2 = .ok (.getfield 280, 3) := by decide +kernel
theorem dX12_must_5 : decode cX12_must 5 = .ok (.ifCond .eq 16, 3) := by decide +kernel
theorem dX12_must_8 : decode cX12_must 8 = .ok (.aload_n 0, 1) := by decide +kernel
theorem dX12_must_9 : decode cX12_must 9 = .ok (.iconst 4, 1) := by decide +kernel
theorem dX12_must_10 : decode cX12_must 10 = .ok (.iload_n 1, 1) := by decide +kernel
theorem dX12_must_11 : decode cX12_must 11 = .ok (.invokevirtual 294, 3) := by decide +kernel
theorem dX12_must_14 : decode cX12_must 14 = .ok (.ifCond .eq 7, 3) := by decide +kernel
theorem dX12_must_17 : decode cX12_must 17 = .ok (.iconst 1, 1) := by decide +kernel
theorem dX12_must_18 : decode cX12_must 18 = .ok (.goto 4, 3) := by decide +kernel
theorem dX12_must_21 : decode cX12_must 21 = .ok (.iconst 0, 1) := by decide +kernel
theorem dX12_must_22 : decode cX12_must 22 = .ok (.putfield 280, 3) := by decide +kernel
theorem dX12_must_25 : decode cX12_must 25 = .ok (.return_, 1) := by decide +kernel
set_option maxRecDepth 20000 in
theorem ggX12_unread_X12_no : GoodIn wsX12_unread wsX12_no := goodIn_r _ [6, 7, 8, 9, 10, 11, 12, 13, 14, 15, 16, 17, 18, 19, 20, 21, 22, 23, 24, 25, 26, 27, 28, 29, 30, 31, 32, 33, 34, 35, 36, 37, 38, 39, 40, 41, 42, 43, 44, 45, 46, 47, 48, 49, 50, 51, 52, 53, 54, 55, 56, 57, 58] (by decide +kernel) (by decide +kernel)
set_option maxRecDepth 20000 in
theorem gX12_unread_X12_no : GoodIn wsX12_unread (wsV RX12 250 RX12 yX12_no wsX12_no) := goodIn_app (goodIn_of _ (by decide +kernel)) ggX12_unread_X12_no
theorem dX12_unread_0 : decode cX12_unread 0 = .ok (.aload_n 0, 1) := by decide +kernel
theorem dX12_unread_1 : decode cX12_unread 1 = .ok (.iconst 0, 1) := by decide +kernel
theorem dX12_unread_2 : decode cX12_unread 2 = .ok (.putfield 268, 3) := by decide +kernel
theorem dX12_unread_5 : decode cX12_unread 5 = .ok (.aload_n 0, 1) := by decide +kernel
theorem dX12_unread_6 : decode cX12_unread 6 = .ok (.iload_n 1, 1) := by decide +kernel
theorem dX12_unread_7 : decode cX12_unread 7 = .ok (.invokevirtual 250, 3) := by decide +kernel
theorem dX12_unread_10 : decode cX12_unread 10 = .ok (.ireturn, 1) := by decide +kernel
set_option maxRecDepth 20000 in
theorem ggX12_faulty_X12_no : GoodIn wsX12_faulty wsX12_no := goodIn_r _ [6, 7, 8, 9, 10, 11, 12, 13, 14, 15, 16, 17, 18, 19, 20, 21, 22, 23, 24, 25, 26, 27, 28, 29, 30, 31, 32, 33, 34, 35, 36, 37, 38, 39, 40, 41, 42, 43, 44, 45, 46, 47, 48, 49, 50, 51, 52, 53, 54, 55, 56, 57, 58] (by decide +kernel) (by decide +kernel)
set_option maxRecDepth 20000 in
theorem gX12_faulty_X12_no : GoodIn wsX12_faulty (wsV RX12 250 RX12 yX12_no wsX12_no) := goodIn_app (goodIn_of _ (by decide +kernel)) ggX12_faulty_X12_no
theorem dX12_faulty_0 : decode cX12_faulty 0 = .ok (.aload_n 0, 1) := by decide +kernel
theorem dX12_faulty_1 : decode cX12_faulty 1 = .ok (.iload_n 1, 1) := by decide +kernel
theorem dX12_faulty_2 : decode cX12_faulty 2 = .ok (.putfield 284, 3) := by decide +kernel
theorem dX12_faulty_5 : decode cX12_faulty 5 = .ok (.aload_n 0, 1) := by decide +kernel
theorem dX12_faulty_6 : decode cX12_faulty 6 = .ok (.iconst 4, 1) := by decide +kernel
theorem dX12_faulty_7 : decode cX12_faulty 7 = .ok (.invokevirtual 250, 3) := by decide +kernel
theorem dX12_faulty_10 : decode cX12_faulty 10 = .ok (.ireturn, 1) := by decide +kernel
theorem dX12_init_0 : decode cX12_init 0 = .ok (.aload_n 0, 1) := by decide +kernel
theorem dX12_init_1 : decode cX12_init 1 = .ok (.invokespecial 297, 3) := by decide +kernel
theorem dX12_init_4 : decode cX12_init 4 = .ok (.aload_n 0, 1) := by decide +kernel
theorem dX12_init_5 : decode cX12_init 5 = .ok (.bipush 120, 2) := by decide +kernel
theorem dX12_init_7 : decode cX12_init 7 = .ok (.newarray .int, 2) := by decide +kernel
theorem dX12_init_9 : decode cX12_init 9 = .ok (.putfield 259, 3) := by decide +kernel
theorem dX12_init_12 : decode cX12_init 12 = .ok (.aload_n 0, 1) := by decide +kernel
theorem dX12_init_13 : decode cX12_init 13 = .ok (.sipush (-9999), 3) := by decide +kernel
theorem dX12_init_16 : decode cX12_init 16 = .ok (.putfield 291, 3) := by decide +kernel
theorem dX12_init_19 : decode cX12_init 19 = .ok (.aload_n 0, 1) := by decide +kernel
theorem dX12_init_20 : decode cX12_init 20 = .ok (.bipush 16, 2) := by decide +kernel
theorem dX12_init_22 : decode cX12_init 22 = .ok (.newarray .int, 2) := by decide +kernel
theorem dX12_init_24 : decode cX12_init 24 = .ok (.putfield 49, 3) := by decide +kernel
theorem dX12_init_27 : decode cX12_init 27 = .ok (.aload_n 0, 1) := by decide +kernel
theorem dX12_init_28 : decode cX12_init 28 = .ok (.bipush 16, 2) := by decide +kernel
theorem dX12_init_30 : decode cX12_init 30 = .ok (.newarray .int, 2) := by decide +kernel
theorem dX12_init_32 : decode cX12_init 32 = .ok (.putfield 31, 3) := by decide +kernel
theorem dX12_init_35 : decode cX12_init 35 = .ok (.aload_n 0, 1) := by decide +kernel
theorem dX12_init_36 : decode cX12_init 36 = .ok (.bipush 16, 2) := by decide +kernel
theorem dX12_init_38 : decode cX12_init 38 = .ok (.newarray .int, 2) := by decide +kernel
theorem dX12_init_40 : decode cX12_init 40 = .ok (.putfield 107, 3) := by decide +kernel
theorem dX12_init_43 : decode cX12_init 43 = .ok (.aload_n 0, 1) := by decide +kernel
theorem dX12_init_44 : decode cX12_init 44 = .ok (.bipush 16, 2) := by decide +kernel
theorem dX12_init_46 : decode cX12_init 46 = .ok (.newarray .int, 2) := by decide +kernel
theorem dX12_init_48 : decode cX12_init 48 = .ok (.putfield 46, 3) := by decide +kernel
theorem dX12_init_51 : decode cX12_init 51 = .ok (.aload_n 0, 1) := by decide +kernel
theorem dX12_init_52 : decode cX12_init 52 = .ok (.bipush 48, 2) := by decide +kernel
theorem dX12_init_54 : decode cX12_init 54 = .ok (.newarray .int, 2) := by decide +kernel
theorem dX12_init_56 : decode cX12_init 56 = .ok (.putfield 37, 3) := by decide +kernel
theorem dX12_init_59 : decode cX12_init 59 = .ok (.aload_n 0, 1) := by decide +kernel
theorem dX12_init_60 : decode cX12_init 60 = .ok (.bipush 48, 2) := by decide +kernel
theorem dX12_init_62 : decode cX12_init 62 = .ok (.newarray .int, 2) := by decide +kernel
theorem dX12_init_64 : decode cX12_init 64 = .ok (.putfield 40, 3) := by decide +kernel
theorem dX12_init_67 : decode cX12_init 67 = .ok (.aload_n 0, 1) := by decide +kernel
theorem dX12_init_68 : decode cX12_init 68 = .ok (.bipush 48, 2) := by decide +kernel
theorem dX12_init_70 : decode cX12_init 70 = .ok (.newarray .int, 2) := by decide +kernel
theorem dX12_init_72 : decode cX12_init 72 = .ok (.putfield 43, 3) := by decide +kernel
theorem dX12_init_75 : decode cX12_init 75 = .ok (.aload_n 0, 1) := by decide +kernel
theorem dX12_init_76 : decode cX12_init 76 = .ok (.bipush 6, 2) := by decide +kernel
theorem dX12_init_78 : decode cX12_init 78 = .ok (.newarray .int, 2) := by decide +kernel
theorem dX12_init_80 : decode cX12_init 80 = .ok (.putfield 52, 3) := by decide +kernel
theorem dX12_init_83 : decode cX12_init 83 = .ok (.aload_n 0, 1) := by decide +kernel
theorem dX12_init_84 : decode cX12_init 84 = .ok (.bipush 6, 2) := by decide +kernel
theorem dX12_init_86 : decode cX12_init 86 = .ok (.newarray .int, 2) := by decide +kernel
theorem dX12_init_88 : decode cX12_init 88 = .ok (.putfield 113, 3) := by decide +kernel
theorem dX12_init_91 : decode cX12_init 91 = .ok (.aload_n 0, 1) := by decide +kernel
theorem dX12_init_92 : decode cX12_init 92 = .ok (.bipush 6, 2) := by decide +kernel
theorem dX12_init_94 : decode cX12_init 94 = .ok (.newarray .int, 2) := by decide +kernel
theorem dX12_init_96 : decode cX12_init 96 = .ok (.putfield 135, 3) := by decide +kernel
theorem dX12_init_99 : decode cX12_init 99 = .ok (.aload_n 0, 1) := by decide +kernel
theorem dX12_init_100 : decode cX12_init 100 = .ok (.bipush 6, 2) := by decide +kernel
theorem dX12_init_102 : decode cX12_init 102 = .ok (.newarray .int, 2) := by decide +kernel
theorem dX12_init_104 : decode cX12_init 104 = .ok (.putfield 183, 3) := by decide +kernel
theorem dX12_init_107 : decode cX12_init 107 = .ok (.aload_n 0, 1) := by decide +kernel
theorem dX12_init_108 : decode cX12_init 108 = .ok (.bipush 8, 2) := by decide +kernel
theorem dX12_init_110 : decode cX12_init 110 = .ok (.newarray .int, 2) := by decide +kernel
theorem dX12_init_112 : decode cX12_init 112 = .ok (.putfield 75, 3) := by decide +kernel
theorem dX12_init_115 : decode cX12_init 115 = .ok (.aload_n 0, 1) := by decide +kernel
theorem dX12_init_116 : decode cX12_init 116 = .ok (.sipush 320, 3) := by decide +kernel
theorem dX12_init_119 : decode cX12_init 119 = .ok (.newarray .int, 2) := by decide +kernel
theorem dX12_init_121 : decode cX12_init 121 = .ok (.putfield 78, 3) := by decide +kernel
theorem dX12_init_124 : decode cX12_init 124 = .ok (.aload_n 0, 1) := by decide +kernel
theorem dX12_init_125 : decode cX12_init 125 = .ok (.sipush 320, 3) := by decide +kernel
theorem dX12_init_128 : decode cX12_init 128 = .ok (.newarray .int, 2) := by decide +kernel
theorem dX12_init_130 : decode cX12_init 130 = .ok (.putfield 81, 3) := by decide +kernel
theorem dX12_init_133 : decode cX12_init 133 = .ok (.aload_n 0, 1) := by decide +kernel
theorem dX12_init_134 : decode cX12_init 134 = .ok (.bipush 17, 2) := by decide +kernel
theorem dX12_init_136 : decode cX12_init 136 = .ok (.newarray .boolean, 2) := by decide +kernel
theorem dX12_init_138 : decode cX12_init 138 = .ok (.putfield 23, 3) := by decide +kernel
theorem dX12_init_141 : decode cX12_init 141 = .ok (.aload_n 0, 1) := by decide +kernel
theorem dX12_init_142 : decode cX12_init 142 = .ok (.bipush 17, 2) := by decide +kernel
theorem dX12_init_144 : decode cX12_init 144 = .ok (.newarray .int, 2) := by decide +kernel
theorem dX12_init_146 : decode cX12_init 146 = .ok (.putfield 55, 3) := by decide +kernel
theorem dX12_init_149 : decode cX12_init 149 = .ok (.aload_n 0, 1) := by decide +kernel
theorem dX12_init_150 : decode cX12_init 150 = .ok (.bipush 17, 2) := by decide +kernel
theorem dX12_init_152 : decode cX12_init 152 = .ok (.newarray .int, 2) := by decide +kernel
theorem dX12_init_154 : decode cX12_init 154 = .ok (.putfield 61, 3) := by decide +kernel
theorem dX12_init_157 : decode cX12_init 157 = .ok (.aload_n 0, 1) := by decide +kernel
theorem dX12_init_158 : decode cX12_init 158 = .ok (.bipush 17, 2) := by decide +kernel
theorem dX12_init_160 : decode cX12_init 160 = .ok (.newarray .int, 2) := by decide +kernel
theorem dX12_init_162 : decode cX12_init 162 = .ok (.putfield 58, 3) := by decide +kernel
theorem dX12_init_165 : decode cX12_init 165 = .ok (.aload_n 0, 1) := by decide +kernel
theorem dX12_init_166 : decode cX12_init 166 = .ok (.bipush 17, 2) := by decide +kernel
theorem dX12_init_168 : decode cX12_init 168 = .ok (.newarray .int, 2) := by decide +kernel
theorem dX12_init_170 : decode cX12_init 170 = .ok (.putfield 27, 3) := by decide +kernel
theorem dX12_init_173 : decode cX12_init 173 = .ok (.aload_n 0, 1) := by decide +kernel
theorem dX12_init_174 : decode cX12_init 174 = .ok (.bipush 17, 2) := by decide +kernel
theorem dX12_init_176 : decode cX12_init 176 = .ok (.newarray .int, 2) := by decide +kernel
theorem dX12_init_178 : decode cX12_init 178 = .ok (.putfield 88, 3) := by decide +kernel
theorem dX12_init_181 : decode cX12_init 181 = .ok (.aload_n 0, 1) := by decide +kernel
theorem dX12_init_182 : decode cX12_init 182 = .ok (.sipush 272, 3) := by decide +kernel
theorem dX12_init_185 : decode cX12_init 185 = .ok (.newarray .int, 2) := by decide +kernel
theorem dX12_init_187 : decode cX12_init 187 = .ok (.putfield 104, 3) := by decide +kernel
theorem dX12_init_190 : decode cX12_init 190 = .ok (.aload_n 0, 1) := by decide +kernel
theorem dX12_init_191 : decode cX12_init 191 = .ok (.sipush 272, 3) := by decide +kernel
theorem dX12_init_194 : decode cX12_init 194 = .ok (.newarray .int, 2) := by decide +kernel
theorem dX12_init_196 : decode cX12_init 196 = .ok (.putfield 91, 3) := by decide +kernel
theorem dX12_init_199 : decode cX12_init 199 = .ok (.aload_n 0, 1) := by decide +kernel
theorem dX12_init_200 : decode cX12_init 200 = .ok (.sipush 272, 3) := by decide +kernel
theorem dX12_init_203 : decode cX12_init 203 = .ok (.newarray .int, 2) := by decide +kernel
theorem dX12_init_205 : decode cX12_init 205 = .ok (.putfield 94, 3) := by decide +kernel
theorem dX12_init_208 : decode cX12_init 208 = .ok (.aload_n 0, 1) := by decide +kernel
theorem dX12_init_209 : decode cX12_init 209 = .ok (.bipush 48, 2) := by decide +kernel
theorem dX12_init_211 : decode cX12_init 211 = .ok (.newarray .int, 2) := by decide +kernel
theorem dX12_init_213 : decode cX12_init 213 = .ok (.putfield 148, 3) := by decide +kernel
theorem dX12_init_216 : decode cX12_init 216 = .ok (.aload_n 0, 1) := by decide +kernel
theorem dX12_init_217 : decode cX12_init 217 = .ok (.bipush 48, 2) := by decide +kernel
theorem dX12_init_219 : decode cX12_init 219 = .ok (.newarray .int, 2) := by decide +kernel
theorem dX12_init_221 : decode cX12_init 221 = .ok (.putfield 151, 3) := by decide +kernel
theorem dX12_init_224 : decode cX12_init 224 = .ok (.aload_n 0, 1) := by decide +kernel
theorem dX12_init_225 : decode cX12_init 225 = .ok (.bipush 48, 2) := by decide +kernel
theorem dX12_init_227 : decode cX12_init 227 = .ok (.newarray .int, 2) := by decide +kernel
theorem dX12_init_229 : decode cX12_init 229 = .ok (.putfield 157, 3) := by decide +kernel
theorem dX12_init_232 : decode cX12_init 232 = .ok (.aload_n 0, 1) := by decide +kernel
theorem dX12_init_233 : decode cX12_init 233 = .ok (.sipush 768, 3) := by decide +kernel
theorem dX12_init_236 : decode cX12_init 236 = .ok (.newarray .int, 2) := by decide +kernel
theorem dX12_init_238 : decode cX12_init 238 = .ok (.putfield 160, 3) := by decide +kernel
theorem dX12_init_241 : decode cX12_init 241 = .ok (.aload_n 0, 1) := by decide +kernel
theorem dX12_init_242 : decode cX12_init 242 = .ok (.sipush 768, 3) := by decide +kernel
theorem dX12_init_245 : decode cX12_init 245 = .ok (.newarray .int, 2) := by decide +kernel
theorem dX12_init_247 : decode cX12_init 247 = .ok (.putfield 163, 3) := by decide +kernel
theorem dX12_init_250 : decode cX12_init 250 = .ok (.aload_n 0, 1) := by decide +kernel
theorem dX12_init_251 : decode cX12_init 251 = .ok (.sipush 768, 3) := by decide +kernel
theorem dX12_init_254 : decode cX12_init 254 = .ok (.newarray .int, 2) := by decide +kernel
theorem dX12_init_256 : decode cX12_init 256 = .ok (.putfield 166, 3) := by decide +kernel
theorem dX12_init_259 : decode cX12_init 259 = .ok (.aload_n 0, 1) := by decide +kernel
theorem dX12_init_260 : decode cX12_init 260 = .ok (.bipush 16, 2) := by decide +kernel
theorem dX12_init_262 : decode cX12_init 262 = .ok (.newarray .boolean, 2) := by decide +kernel
theorem dX12_init_264 : decode cX12_init 264 = .ok (.putfield 129, 3) := by decide +kernel
theorem dX12_init_267 : decode cX12_init 267 = .ok (.aload_n 0, 1) := by decide +kernel
theorem dX12_init_268 : decode cX12_init 268 = .ok (.sipush 800, 3) := by decide +kernel
theorem dX12_init_271 : decode cX12_init 271 = .ok (.newarray .int, 2) := by decide +kernel
theorem dX12_init_273 : decode cX12_init 273 = .ok (.putfield 189, 3) := by decide +kernel
theorem dX12_init_276 : decode cX12_init 276 = .ok (.aload_n 0, 1) := by decide +kernel
theorem dX12_init_277 : decode cX12_init 277 = .ok (.bipush 120, 2) := by decide +kernel
theorem dX12_init_279 : decode cX12_init 279 = .ok (.newarray .int, 2) := by decide +kernel
theorem dX12_init_281 : decode cX12_init 281 = .ok (.putfield 302, 3) := by decide +kernel
theorem dX12_init_284 : decode cX12_init 284 = .ok (.aload_n 0, 1) := by decide +kernel
theorem dX12_init_285 : decode cX12_init 285 = .ok (.bipush 120, 2) := by decide +kernel
theorem dX12_init_287 : decode cX12_init 287 = .ok (.newarray .int, 2) := by decide +kernel
theorem dX12_init_289 : decode cX12_init 289 = .ok (.putfield 305, 3) := by decide +kernel
theorem dX12_init_292 : decode cX12_init 292 = .ok (.aload_n 0, 1) := by decide +kernel
theorem dX12_init_293 : decode cX12_init 293 = .ok (.bipush 120, 2) := by decide +kernel
theorem dX12_init_295 : decode cX12_init 295 = .ok (.newarray .int, 2) := by decide +kernel
theorem dX12_init_297 : decode cX12_init 297 = .ok (.putfield 308, 3) := by decide +kernel
theorem dX12_init_300 : decode cX12_init 300 = .ok (.return_, 1) := by decide +kernel
set_option maxRecDepth 20000 in
theorem ggX12_feed_X12_no : GoodIn wsX12_feed wsX12_no := goodIn_r _ [7, 8, 13, 14, 15, 16, 17, 18, 19, 20, 21, 22, 23, 24, 25, 26, 27, 28, 29, 30, 31, 32, 33, 34, 35, 36, 37, 38, 39, 40, 41, 42, 43, 44, 45, 46, 47, 48, 49, 50, 51, 52, 53, 54, 55, 56, 57, 58, 59, 60, 61, 62, 63] (by decide +kernel) (by decide +kernel)
set_option maxRecDepth 20000 in
theorem gX12_feed_X12_no : GoodIn wsX12_feed (wsV RX12 250 RX12 yX12_no wsX12_no) := goodIn_app (goodIn_of _ (by decide +kernel)) ggX12_feed_X12_no
set_option maxRecDepth 20000 in
theorem ggX12_feed_X12_fine : GoodIn wsX12_feed wsX12_fine := goodIn_r _ [12, 8, 13, 14, 15, 16, 17, 18, 19, 20, 21, 22, 23, 24, 25, 26, 27, 28, 29, 30, 31, 32, 33, 34, 35, 36, 37, 38, 39, 40, 41, 42, 43, 44, 45, 46, 47, 48, 49, 50, 51, 52, 53, 54, 55, 56, 57, 58, 59, 60, 61, 62, 63] (by decide +kernel) (by decide +kernel)
set_option maxRecDepth 20000 in
theorem gX12_feed_X12_fine : GoodIn wsX12_feed (wsV RX12 247 RX12 yX12_fine wsX12_fine) := goodIn_app (goodIn_of _ (by decide +kernel)) ggX12_feed_X12_fine
theorem dX12_feed_0 : decode cX12_feed 0 = .ok (.aload_n 0, 1) := by decide +kernel
theorem dX12_feed_1 : decode cX12_feed 1 = .ok (.getfield 268, 3) := by decide +kernel
theorem dX12_feed_4 : decode cX12_feed 4 = .ok (.bipush 20, 2) := by decide +kernel
theorem dX12_feed_6 : decode cX12_feed 6 = .ok (.iadd, 1) := by decide +kernel
theorem dX12_feed_7 : decode cX12_feed 7 = .ok (.bipush 120, 2) := by decide +kernel
theorem dX12_feed_9 : decode cX12_feed 9 = .ok (.if_icmp .le 10, 3) := by decide +kernel
theorem dX12_feed_12 : decode cX12_feed 12 = .ok (.aload_n 0, 1) := by decide +kernel
theorem dX12_feed_13 : decode cX12_feed 13 = .ok (.bipush 9, 2) := by decide +kernel
theorem dX12_feed_15 : decode cX12_feed 15 = .ok (.invokevirtual 250, 3) := by decide +kernel
theorem dX12_feed_18 : decode cX12_feed 18 = .ok (.ireturn, 1) := by decide +kernel
theorem dX12_feed_19 : decode cX12_feed 19 = .ok (.iconst 0, 1) := by decide +kernel
theorem dX12_feed_20 : decode cX12_feed 20 = .ok (.istore 6, 2) := by decide +kernel
theorem dX12_feed_22 : decode cX12_feed 22 = .ok (.iload 6, 2) := by decide +kernel
theorem dX12_feed_24 : decode cX12_feed 24 = .ok (.bipush 20, 2) := by decide +kernel
theorem dX12_feed_26 : decode cX12_feed 26 = .ok (.if_icmp .ge 93, 3) := by decide +kernel
theorem dX12_feed_29 : decode cX12_feed 29 = .ok (.iload 6, 2) := by decide +kernel
theorem dX12_feed_31 : decode cX12_feed 31 = .ok (.iconst 4, 1) := by decide +kernel
theorem dX12_feed_32 : decode cX12_feed 32 = .ok (.if_icmp .ge 7, 3) := by decide +kernel
theorem dX12_feed_35 : decode cX12_feed 35 = .ok (.iload_n 1, 1) := by decide +kernel
theorem dX12_feed_36 : decode cX12_feed 36 = .ok (.goto 39, 3) := by decide +kernel
theorem dX12_feed_39 : decode cX12_feed 39 = .ok (.iload 6, 2) := by decide +kernel
theorem dX12_feed_41 : decode cX12_feed 41 = .ok (.bipush 8, 2) := by decide +kernel
theorem dX12_feed_43 : decode cX12_feed 43 = .ok (.if_icmp .ge 7, 3) := by decide +kernel
theorem dX12_feed_46 : decode cX12_feed 46 = .ok (.iload_n 2, 1) := by decide +kernel
theorem dX12_feed_47 : decode cX12_feed 47 = .ok (.goto 28, 3) := by decide +kernel
theorem dX12_feed_50 : decode cX12_feed 50 = .ok (.iload 6, 2) := by decide +kernel
theorem dX12_feed_52 : decode cX12_feed 52 = .ok (.bipush 12, 2) := by decide +kernel
theorem dX12_feed_54 : decode cX12_feed 54 = .ok (.if_icmp .ge 7, 3) := by decide +kernel
theorem dX12_feed_57 : decode cX12_feed 57 = .ok (.iload_n 3, 1) := by decide +kernel
theorem dX12_feed_58 : decode cX12_feed 58 = .ok (.goto 17, 3) := by decide +kernel
theorem dX12_feed_61 : decode cX12_feed 61 = .ok (.iload 6, 2) := by decide +kernel
theorem dX12_feed_63 : decode cX12_feed 63 = .ok (.bipush 16, 2) := by decide +kernel
theorem dX12_feed_65 : decode cX12_feed 65 = .ok (.if_icmp .ge 8, 3) := by decide +kernel
theorem dX12_feed_68 : decode cX12_feed 68 = .ok (.iload 4, 2) := by decide +kernel
theorem dX12_feed_70 : decode cX12_feed 70 = .ok (.goto 5, 3) := by decide +kernel
theorem dX12_feed_73 : decode cX12_feed 73 = .ok (.iload 5, 2) := by decide +kernel
theorem dX12_feed_75 : decode cX12_feed 75 = .ok (.istore 7, 2) := by decide +kernel
theorem dX12_feed_77 : decode cX12_feed 77 = .ok (.aload_n 0, 1) := by decide +kernel
theorem dX12_feed_78 : decode cX12_feed 78 = .ok (.getfield 259, 3) := by decide +kernel
theorem dX12_feed_81 : decode cX12_feed 81 = .ok (.aload_n 0, 1) := by decide +kernel
theorem dX12_feed_82 : decode cX12_feed 82 = .ok (.getfield 268, 3) := by decide +kernel
theorem dX12_feed_85 : decode cX12_feed 85 = .ok (.iload 7, 2) := by decide +kernel
theorem dX12_feed_87 : decode cX12_feed 87 = .ok (.bipush 24, 2) := by decide +kernel
theorem dX12_feed_89 : decode cX12_feed 89 = .ok (.bipush 8, 2) := by decide +kernel
theorem dX12_feed_91 : decode cX12_feed 91 = .ok (.iload 6, 2) := by decide +kernel
theorem dX12_feed_93 : decode cX12_feed 93 = .ok (.iconst 4, 1) := by decide +kernel
theorem dX12_feed_94 : decode cX12_feed 94 = .ok (.irem, 1) := by decide +kernel
theorem dX12_feed_95 : decode cX12_feed 95 = .ok (.imul, 1) := by decide +kernel
theorem dX12_feed_96 : decode cX12_feed 96 = .ok (.isub, 1) := by decide +kernel
theorem dX12_feed_97 : decode cX12_feed 97 = .ok (.ishr, 1) := by decide +kernel
theorem dX12_feed_98 : decode cX12_feed 98 = .ok (.sipush 255, 3) := by decide +kernel
theorem dX12_feed_101 : decode cX12_feed 101 = .ok (.iand, 1) := by decide +kernel
theorem dX12_feed_102 : decode cX12_feed 102 = .ok (.iastore, 1) := by decide +kernel
theorem dX12_feed_103 : decode cX12_feed 103 = .ok (.aload_n 0, 1) := by decide +kernel
theorem dX12_feed_104 : decode cX12_feed 104 = .ok (.dup, 1) := by decide +kernel
theorem dX12_feed_105 : decode cX12_feed 105 = .ok (.getfield 268, 3) := by decide +kernel
theorem dX12_feed_108 : decode cX12_feed 108 = .ok (.iconst 1, 1) := by decide +kernel
theorem dX12_feed_109 : decode cX12_feed 109 = .ok (.iadd, 1) := by decide +kernel
theorem dX12_feed_110 : decode cX12_feed 110 = .ok (.putfield 268, 3) := by decide +kernel
theorem dX12_feed_113 : decode cX12_feed 113 = .ok (.iinc 6 1, 3) := by decide +kernel
theorem dX12_feed_116 : decode cX12_feed 116 = .ok (.goto (-94), 3) := by decide +kernel
theorem dX12_feed_119 : decode cX12_feed 119 = .ok (.aload_n 0, 1) := by decide +kernel
theorem dX12_feed_120 : decode cX12_feed 120 = .ok (.aload_n 0, 1) := by decide +kernel
theorem dX12_feed_121 : decode cX12_feed 121 = .ok (.getfield 268, 3) := by decide +kernel
theorem dX12_feed_124 : decode cX12_feed 124 = .ok (.invokevirtual 247, 3) := by decide +kernel
theorem dX12_feed_127 : decode cX12_feed 127 = .ok (.ireturn, 1) := by decide +kernel
set_option maxRecDepth 20000 in
theorem ggX12_end_X12_isIn : GoodIn wsX12_end wsX12_isIn := goodIn_r _ [5] (by decide +kernel) (by decide +kernel)
set_option maxRecDepth 20000 in
theorem gX12_end_X12_isIn : GoodIn wsX12_end (va_wsS RX12 10 yX12_isIn wsX12_isIn) := goodIn_app (goodIn_of _ (by decide +kernel)) ggX12_end_X12_isIn
set_option maxRecDepth 20000 in
theorem ggX12_end_X12_no : GoodIn wsX12_end wsX12_no := goodIn_r _ [9, 10, 15, 16, 17, 18, 19, 20, 21, 22, 23, 24, 25, 26, 27, 28, 29, 30, 31, 32, 33, 34, 35, 36, 37, 38, 39, 40, 41, 42, 43, 44, 45, 46, 47, 48, 49, 50, 51, 52, 53, 54, 55, 56, 57, 58, 59, 60, 61, 62, 63, 64, 65] (by decide +kernel) (by decide +kernel)
set_option maxRecDepth 20000 in
theorem gX12_end_X12_no : GoodIn wsX12_end (wsV RX12 250 RX12 yX12_no wsX12_no) := goodIn_app (goodIn_of _ (by decide +kernel)) ggX12_end_X12_no
set_option maxRecDepth 20000 in
theorem ggX12_end_X12_fine : GoodIn wsX12_end wsX12_fine := goodIn_r _ [14, 10, 15, 16, 17, 18, 19, 20, 21, 22, 23, 24, 25, 26, 27, 28, 29, 30, 31, 32, 33, 34, 35, 36, 37, 38, 39, 40, 41, 42, 43, 44, 45, 46, 47, 48, 49, 50, 51, 52, 53, 54, 55, 56, 57, 58, 59, 60, 61, 62, 63, 64, 65] (by decide +kernel) (by decide +kernel)
set_option maxRecDepth 20000 in
theorem gX12_end_X12_fine : GoodIn wsX12_end (wsV RX12 247 RX12 yX12_fine wsX12_fine) := goodIn_app (goodIn_of _ (by decide +kernel)) ggX12_end_X12_fine
theorem dX12_end_0 : decode cX12_end 0 = .ok (.iload_n 1, 1) := by decide +kernel
theorem dX12_end_1 : decode cX12_end 1 = .ok (.iconst 0, 1) := by decide +kernel
theorem dX12_end_2 : decode cX12_end 2 = .ok (.aload_n 0, 1) := by decide +kernel
theorem dX12_end_3 : decode cX12_end 3 = .ok (.getfield 268, 3) := by decide +kernel
theorem dX12_end_6 : decode cX12_end 6 = .ok (.invokestatic 10, 3) := by decide +kernel
theorem dX12_end_9 : decode cX12_end 9 = .ok (.ifCond .ne 9, 3) := by decide +kernel
theorem dX12_end_12 : decode cX12_end 12 = .ok (.aload_n 0, 1) := by decide +kernel
theorem dX12_end_13 : decode cX12_end 13 = .ok (.iconst 3, 1) := by decide +kernel
theorem dX12_end_14 : decode cX12_end 14 = .ok (.invokevirtual 250, 3) := by decide +kernel
theorem dX12_end_17 : decode cX12_end 17 = .ok (.ireturn, 1) := by decide +kernel
theorem dX12_end_18 : decode cX12_end 18 = .ok (.aload_n 0, 1) := by decide +kernel
theorem dX12_end_19 : decode cX12_end 19 = .ok (.iload_n 1, 1) := by decide +kernel
theorem dX12_end_20 : decode cX12_end 20 = .ok (.putfield 268, 3) := by decide +kernel
theorem dX12_end_23 : decode cX12_end 23 = .ok (.aload_n 0, 1) := by decide +kernel
theorem dX12_end_24 : decode cX12_end 24 = .ok (.iload_n 1, 1) := by decide +kernel
theorem dX12_end_25 : decode cX12_end 25 = .ok (.invokevirtual 247, 3) := by decide +kernel
theorem dX12_end_28 : decode cX12_end 28 = .ok (.ireturn, 1) := by decide +kernel
set_option maxRecDepth 20000 in
theorem ggX12_thing_X12_begins : GoodIn wsX12_thing wsX12_begins := goodIn_r _ [10, 11, 12, 13, 14, 15, 16, 9, 17, 18, 19, 20, 21, 22, 23, 24, 25, 26, 27, 28, 29, 30, 31, 32, 33, 34, 35, 36, 37, 38, 39, 40, 41, 42, 43, 44, 45, 46, 47, 48, 49, 50, 51, 52, 53, 54, 55, 56, 57, 58, 59, 60, 61, 62, 63, 64, 65, 66, 67, 68, 69, 70, 71, 72, 73, 74, 75, 76, 77, 78, 79, 80, 81, 82, 83, 84, 85, 86, 87, 88, 119, 120, 121, 122, 123, 124, 125, 126, 127, 128, 129, 130, 131, 132, 133, 134, 135, 136, 137, 138, 139, 140, 141, 142, 143, 144, 145, 146, 147, 148, 149, 150, 151, 152, 153, 154, 155, 156, 157, 158, 159, 160, 161, 162, 163, 164, 165, 166, 167, 168, 169, 170, 171, 172, 173] (by decide +kernel) (by decide +kernel)
set_option maxRecDepth 20000 in
theorem gX12_thing_X12_begins : GoodIn wsX12_thing (wsV RX12 311 RX12 yX12_begins wsX12_begins) := goodIn_app (goodIn_of _ (by decide +kernel)) ggX12_thing_X12_begins
set_option maxRecDepth 20000 in
theorem ggX12_thing_X12_word : GoodIn wsX12_thing wsX12_word := goodIn_r _ [92, 12, 21, 22, 23, 24, 9, 25, 14, 15, 16, 17, 11, 18, 19, 20, 26, 27, 28, 29, 30, 31, 32, 33, 34, 35, 36, 37, 38, 39, 40, 41, 42, 43, 44, 45, 46, 47, 48, 49, 50, 51, 52, 53, 54, 55, 56, 57, 58, 59, 60, 61, 62, 63, 64, 65, 66, 67, 68, 69, 70, 71, 72, 73, 74, 75, 76, 77, 78, 79, 80, 81, 82, 83, 84, 85, 86, 87, 88, 119, 120, 121, 122, 123, 124, 125, 126, 127, 128, 129, 130, 131, 132, 133, 134, 135, 136, 137, 138, 139, 140, 141, 142, 143, 144, 145, 146, 147, 148, 149, 150, 151, 152, 153, 154, 155, 156, 157, 158, 159, 160, 161, 162, 163, 164, 165, 166, 167, 168, 169, 170, 171, 172, 173] (by decide +kernel) (by decide +kernel)
set_option maxRecDepth 20000 in
theorem gX12_thing_X12_word : GoodIn wsX12_thing (wsV RX12 314 RX12 yX12_word wsX12_word) := goodIn_app (goodIn_of _ (by decide +kernel)) ggX12_thing_X12_word
set_option maxRecDepth 20000 in
theorem ggX12_thing_X12_number : GoodIn wsX12_thing wsX12_number := goodIn_r _ [96, 12, 21, 22, 14, 15, 16, 9, 17, 11, 18, 19, 20, 23, 24, 25, 26, 27, 28, 29, 30, 31, 32, 33, 34, 35, 36, 37, 38, 39, 40, 41, 42, 43, 44, 45, 46, 47, 48, 49, 50, 51, 52, 53, 54, 55, 56, 57, 58, 59, 60, 61, 62, 63, 64, 65, 66, 67, 68, 69, 70, 71, 72, 73, 74, 75, 76, 77, 78, 79, 80, 81, 82, 83, 84, 85, 86, 87, 88, 119, 120, 121, 122, 123, 124, 125, 126, 127, 128, 129, 130, 131, 132, 133, 134, 135, 136, 137, 138, 139, 140, 141, 142, 143, 144, 145, 146, 147, 148, 149, 150, 151, 152, 153, 154, 155, 156, 157, 158, 159, 160, 161, 162, 163, 164, 165, 166, 167, 168, 169, 170, 171, 172, 173] (by decide +kernel) (by decide +kernel)
set_option maxRecDepth 20000 in
theorem gX12_thing_X12_number : GoodIn wsX12_thing (wsV RX12 317 RX12 yX12_number wsX12_number) := goodIn_app (goodIn_of _ (by decide +kernel)) ggX12_thing_X12_number
set_option maxRecDepth 20000 in
theorem ggX12_thing_X12_goes : GoodIn wsX12_thing wsX12_goes := goodIn_r _ [100, 12, 21, 22, 14, 15, 16, 9, 17, 11, 18, 19, 20, 23, 24, 25, 26, 27, 28, 29, 30, 31, 32, 33, 34, 35, 36, 37, 38, 39, 40, 41, 42, 43, 44, 45, 46, 47, 48, 49, 50, 51, 52, 53, 54, 55, 56, 57, 58, 59, 60, 61, 62, 63, 64, 65, 66, 67, 68, 69, 70, 71, 72, 73, 74, 75, 76, 77, 78, 79, 80, 81, 82, 83, 84, 85, 86, 87, 88, 119, 120, 121, 122, 123, 124, 125, 126, 127, 128, 129, 130, 131, 132, 133, 134, 135, 136, 137, 138, 139, 140, 141, 142, 143, 144, 145, 146, 147, 148, 149, 150, 151, 152, 153, 154, 155, 156, 157, 158, 159, 160, 161, 162, 163, 164, 165, 166, 167, 168, 169, 170, 171, 172, 173] (by decide +kernel) (by decide +kernel)
set_option maxRecDepth 20000 in
theorem gX12_thing_X12_goes : GoodIn wsX12_thing (wsV RX12 294 RX12 yX12_goes wsX12_goes) := goodIn_app (goodIn_of _ (by decide +kernel)) ggX12_thing_X12_goes
set_option maxRecDepth 20000 in
theorem ggX12_thing_X12_ends : GoodIn wsX12_thing wsX12_ends := goodIn_r _ [104, 12, 21, 20, 105, 18, 119, 120, 121, 122, 123, 124, 125, 126, 127, 128, 129, 130, 131, 132, 133, 134, 135, 136, 137, 138, 139, 140, 141, 142, 143, 144, 145, 146, 147, 148, 149, 150, 151, 152, 153, 154, 155, 156, 157, 158, 159, 160, 161, 162, 163, 164, 165, 166, 167, 168, 169] (by decide +kernel) (by decide +kernel)
set_option maxRecDepth 20000 in
theorem gX12_thing_X12_ends : GoodIn wsX12_thing (wsV RX12 320 RX12 yX12_ends wsX12_ends) := goodIn_app (goodIn_of _ (by decide +kernel)) ggX12_thing_X12_ends
set_option maxRecDepth 20000 in
theorem ggX12_thing_X12_no : GoodIn wsX12_thing wsX12_no := goodIn_r _ [109, 110, 119, 120, 121, 122, 123, 124, 125, 126, 127, 128, 129, 130, 131, 132, 133, 134, 135, 136, 137, 138, 139, 140, 141, 142, 143, 144, 145, 146, 147, 148, 149, 150, 151, 152, 153, 154, 155, 156, 157, 158, 159, 160, 161, 162, 163, 164, 165, 166, 167, 168, 169] (by decide +kernel) (by decide +kernel)
set_option maxRecDepth 20000 in
theorem gX12_thing_X12_no : GoodIn wsX12_thing (wsV RX12 250 RX12 yX12_no wsX12_no) := goodIn_app (goodIn_of _ (by decide +kernel)) ggX12_thing_X12_no
set_option maxRecDepth 20000 in
theorem ggX12_thing_X12_isIn : GoodIn wsX12_thing wsX12_isIn := goodIn_r _ [25] (by decide +kernel) (by decide +kernel)
set_option maxRecDepth 20000 in
theorem gX12_thing_X12_isIn : GoodIn wsX12_thing (va_wsS RX12 10 yX12_isIn wsX12_isIn) := goodIn_app (goodIn_of _ (by decide +kernel)) ggX12_thing_X12_isIn
set_option maxRecDepth 20000 in
theorem ggX12_thing_X12_faulty : GoodIn wsX12_thing wsX12_faulty := goodIn_r _ [114, 13, 106, 107, 108, 9, 109, 110, 119, 120, 121, 122, 123, 124, 125, 126, 127, 128, 129, 130, 131, 132, 133, 134, 135, 136, 137, 138, 139, 140, 141, 142, 143, 144, 145, 146, 147, 148, 149, 150, 151, 152, 153, 154, 155, 156, 157, 158, 159, 160, 161, 162, 163, 164, 165, 166, 167, 168, 169] (by decide +kernel) (by decide +kernel)
set_option maxRecDepth 20000 in
theorem gX12_thing_X12_faulty : GoodIn wsX12_thing (wsV RX12 324 RX12 yX12_faulty wsX12_faulty) := goodIn_app (goodIn_of _ (by decide +kernel)) ggX12_thing_X12_faulty
set_option maxRecDepth 20000 in
theorem ggX12_thing_X12_fine : GoodIn wsX12_thing wsX12_fine := goodIn_r _ [118, 110, 119, 120, 121, 122, 123, 124, 125, 126, 127, 128, 129, 130, 131, 132, 133, 134, 135, 136, 137, 138, 139, 140, 141, 142, 143, 144, 145, 146, 147, 148, 149, 150, 151, 152, 153, 154, 155, 156, 157, 158, 159, 160, 161, 162, 163, 164, 165, 166, 167, 168, 169] (by decide +kernel) (by decide +kernel)
set_option maxRecDepth 20000 in
theorem gX12_thing_X12_fine : GoodIn wsX12_thing (wsV RX12 247 RX12 yX12_fine wsX12_fine) := goodIn_app (goodIn_of _ (by decide +kernel)) ggX12_thing_X12_fine
theorem dX12_thing_0 : decode cX12_thing 0 = .ok (.aload_n 0, 1) := by decide +kernel
theorem dX12_thing_1 : decode cX12_thing 1 = .ok (.invokevirtual 311, 3) := by decide +kernel
theorem dX12_thing_4 : decode cX12_thing 4 = .ok (.aload_n 0, 1) := by decide +kernel
theorem dX12_thing_5 : decode cX12_thing 5 = .ok (.iconst 0, 1) := by decide +kernel
theorem dX12_thing_6 : decode cX12_thing 6 = .ok (.iconst 5, 1) := by decide +kernel
theorem dX12_thing_7 : decode cX12_thing 7 = .ok (.invokevirtual 314, 3) := by decide +kernel
theorem dX12_thing_10 : decode cX12_thing 10 = .ok (.istore_n 1, 1) := by decide +kernel
theorem dX12_thing_11 : decode cX12_thing 11 = .ok (.aload_n 0, 1) := by decide +kernel
theorem dX12_thing_12 : decode cX12_thing 12 = .ok (.invokevirtual 317, 3) := by decide +kernel
theorem dX12_thing_15 : decode cX12_thing 15 = .ok (.istore_n 2, 1) := by decide +kernel
theorem dX12_thing_16 : decode cX12_thing 16 = .ok (.aload_n 0, 1) := by decide +kernel
theorem dX12_thing_17 : decode cX12_thing 17 = .ok (.invokevirtual 317, 3) := by decide +kernel
theorem dX12_thing_20 : decode cX12_thing 20 = .ok (.istore_n 3, 1) := by decide +kernel
theorem dX12_thing_21 : decode cX12_thing 21 = .ok (.iconst 0, 1) := by decide +kernel
theorem dX12_thing_22 : decode cX12_thing 22 = .ok (.istore 4, 2) := by decide +kernel
theorem dX12_thing_24 : decode cX12_thing 24 = .ok (.iconst 0, 1) := by decide +kernel
theorem dX12_thing_25 : decode cX12_thing 25 = .ok (.istore 5, 2) := by decide +kernel
theorem dX12_thing_27 : decode cX12_thing 27 = .ok (.aload_n 0, 1) := by decide +kernel
theorem dX12_thing_28 : decode cX12_thing 28 = .ok (.iconst 2, 1) := by decide +kernel
theorem dX12_thing_29 : decode cX12_thing 29 = .ok (.bipush 9, 2) := by decide +kernel
theorem dX12_thing_31 : decode cX12_thing 31 = .ok (.invokevirtual 294, 3) := by decide +kernel
theorem dX12_thing_34 : decode cX12_thing 34 = .ok (.ifCond .eq 46, 3) := by decide +kernel
theorem dX12_thing_37 : decode cX12_thing 37 = .ok (.aload_n 0, 1) := by decide +kernel
theorem dX12_thing_38 : decode cX12_thing 38 = .ok (.iconst 0, 1) := by decide +kernel
theorem dX12_thing_39 : decode cX12_thing 39 = .ok (.iconst 5, 1) := by decide +kernel
theorem dX12_thing_40 : decode cX12_thing 40 = .ok (.invokevirtual 314, 3) := by decide +kernel
theorem dX12_thing_43 : decode cX12_thing 43 = .ok (.istore 6, 2) := by decide +kernel
theorem dX12_thing_45 : decode cX12_thing 45 = .ok (.iload 5, 2) := by decide +kernel
theorem dX12_thing_47 : decode cX12_thing 47 = .ok (.ifCond .ne 14, 3) := by decide +kernel
theorem dX12_thing_50 : decode cX12_thing 50 = .ok (.iload 4, 2) := by decide +kernel
theorem dX12_thing_52 : decode cX12_thing 52 = .ok (.iload 6, 2) := by decide +kernel
theorem dX12_thing_54 : decode cX12_thing 54 = .ok (.ishr, 1) := by decide +kernel
theorem dX12_thing_55 : decode cX12_thing 55 = .ok (.iconst 1, 1) := by decide +kernel
theorem dX12_thing_56 : decode cX12_thing 56 = .ok (.iand, 1) := by decide +kernel
theorem dX12_thing_57 : decode cX12_thing 57 = .ok (.iconst 1, 1) := by decide +kernel
theorem dX12_thing_58 : decode cX12_thing 58 = .ok (.if_icmp .ne 7, 3) := by decide +kernel
theorem dX12_thing_61 : decode cX12_thing 61 = .ok (.iconst 1, 1) := by decide +kernel
theorem dX12_thing_62 : decode cX12_thing 62 = .ok (.goto 4, 3) := by decide +kernel
theorem dX12_thing_65 : decode cX12_thing 65 = .ok (.iconst 0, 1) := by decide +kernel
theorem dX12_thing_66 : decode cX12_thing 66 = .ok (.istore 5, 2) := by decide +kernel
theorem dX12_thing_68 : decode cX12_thing 68 = .ok (.iload 4, 2) := by decide +kernel
theorem dX12_thing_70 : decode cX12_thing 70 = .ok (.iconst 1, 1) := by decide +kernel
theorem dX12_thing_71 : decode cX12_thing 71 = .ok (.iload 6, 2) := by decide +kernel
theorem dX12_thing_73 : decode cX12_thing 73 = .ok (.ishl, 1) := by decide +kernel
theorem dX12_thing_74 : decode cX12_thing 74 = .ok (.ior, 1) := by decide +kernel
theorem dX12_thing_75 : decode cX12_thing 75 = .ok (.istore 4, 2) := by decide +kernel
theorem dX12_thing_77 : decode cX12_thing 77 = .ok (.goto (-50), 3) := by decide +kernel
theorem dX12_thing_80 : decode cX12_thing 80 = .ok (.aload_n 0, 1) := by decide +kernel
theorem dX12_thing_81 : decode cX12_thing 81 = .ok (.invokevirtual 320, 3) := by decide +kernel
theorem dX12_thing_84 : decode cX12_thing 84 = .ok (.ifCond .ne 9, 3) := by decide +kernel
theorem dX12_thing_87 : decode cX12_thing 87 = .ok (.aload_n 0, 1) := by decide +kernel
theorem dX12_thing_88 : decode cX12_thing 88 = .ok (.iconst 2, 1) := by decide +kernel
theorem dX12_thing_89 : decode cX12_thing 89 = .ok (.invokevirtual 250, 3) := by decide +kernel
theorem dX12_thing_92 : decode cX12_thing 92 = .ok (.ireturn, 1) := by decide +kernel
theorem dX12_thing_93 : decode cX12_thing 93 = .ok (.iload_n 2, 1) := by decide +kernel
theorem dX12_thing_94 : decode cX12_thing 94 = .ok (.iconst 1, 1) := by decide +kernel
theorem dX12_thing_95 : decode cX12_thing 95 = .ok (.if_icmp .lt 14, 3) := by decide +kernel
theorem dX12_thing_98 : decode cX12_thing 98 = .ok (.iload_n 3, 1) := by decide +kernel
theorem dX12_thing_99 : decode cX12_thing 99 = .ok (.iconst 1, 1) := by decide +kernel
theorem dX12_thing_100 : decode cX12_thing 100 = .ok (.sipush 999, 3) := by decide +kernel
theorem dX12_thing_103 : decode cX12_thing 103 = .ok (.invokestatic 10, 3) := by decide +kernel
theorem dX12_thing_106 : decode cX12_thing 106 = .ok (.ifCond .ne 9, 3) := by decide +kernel
theorem dX12_thing_109 : decode cX12_thing 109 = .ok (.aload_n 0, 1) := by decide +kernel
theorem dX12_thing_110 : decode cX12_thing 110 = .ok (.iconst 1, 1) := by decide +kernel
theorem dX12_thing_111 : decode cX12_thing 111 = .ok (.invokevirtual 324, 3) := by decide +kernel
theorem dX12_thing_114 : decode cX12_thing 114 = .ok (.ireturn, 1) := by decide +kernel
theorem dX12_thing_115 : decode cX12_thing 115 = .ok (.iload 5, 2) := by decide +kernel
theorem dX12_thing_117 : decode cX12_thing 117 = .ok (.ifCond .eq 9, 3) := by decide +kernel
theorem dX12_thing_120 : decode cX12_thing 120 = .ok (.aload_n 0, 1) := by decide +kernel
theorem dX12_thing_121 : decode cX12_thing 121 = .ok (.iconst 2, 1) := by decide +kernel
theorem dX12_thing_122 : decode cX12_thing 122 = .ok (.invokevirtual 324, 3) := by decide +kernel
theorem dX12_thing_125 : decode cX12_thing 125 = .ok (.ireturn, 1) := by decide +kernel
theorem dX12_thing_126 : decode cX12_thing 126 = .ok (.aload_n 0, 1) := by decide +kernel
theorem dX12_thing_127 : decode cX12_thing 127 = .ok (.getfield 7, 3) := by decide +kernel
theorem dX12_thing_130 : decode cX12_thing 130 = .ok (.bipush 16, 2) := by decide +kernel
theorem dX12_thing_132 : decode cX12_thing 132 = .ok (.if_icmp .ne 10, 3) := by decide +kernel
theorem dX12_thing_135 : decode cX12_thing 135 = .ok (.aload_n 0, 1) := by decide +kernel
theorem dX12_thing_136 : decode cX12_thing 136 = .ok (.bipush 9, 2) := by decide +kernel
theorem dX12_thing_138 : decode cX12_thing 138 = .ok (.invokevirtual 250, 3) := by decide +kernel
theorem dX12_thing_141 : decode cX12_thing 141 = .ok (.ireturn, 1) := by decide +kernel
theorem dX12_thing_142 : decode cX12_thing 142 = .ok (.aload_n 0, 1) := by decide +kernel
theorem dX12_thing_143 : decode cX12_thing 143 = .ok (.getfield 49, 3) := by decide +kernel
theorem dX12_thing_146 : decode cX12_thing 146 = .ok (.aload_n 0, 1) := by decide +kernel
theorem dX12_thing_147 : decode cX12_thing 147 = .ok (.getfield 7, 3) := by decide +kernel
theorem dX12_thing_150 : decode cX12_thing 150 = .ok (.iload_n 1, 1) := by decide +kernel
theorem dX12_thing_151 : decode cX12_thing 151 = .ok (.iastore, 1) := by decide +kernel
theorem dX12_thing_152 : decode cX12_thing 152 = .ok (.aload_n 0, 1) := by decide +kernel
theorem dX12_thing_153 : decode cX12_thing 153 = .ok (.getfield 31, 3) := by decide +kernel
theorem dX12_thing_156 : decode cX12_thing 156 = .ok (.aload_n 0, 1) := by decide +kernel
theorem dX12_thing_157 : decode cX12_thing 157 = .ok (.getfield 7, 3) := by decide +kernel
theorem dX12_thing_160 : decode cX12_thing 160 = .ok (.iload_n 2, 1) := by decide +kernel
theorem dX12_thing_161 : decode cX12_thing 161 = .ok (.iastore, 1) := by decide +kernel
theorem dX12_thing_162 : decode cX12_thing 162 = .ok (.aload_n 0, 1) := by decide +kernel
theorem dX12_thing_163 : decode cX12_thing 163 = .ok (.getfield 107, 3) := by decide +kernel
theorem dX12_thing_166 : decode cX12_thing 166 = .ok (.aload_n 0, 1) := by decide +kernel
theorem dX12_thing_167 : decode cX12_thing 167 = .ok (.getfield 7, 3) := by decide +kernel
theorem dX12_thing_170 : decode cX12_thing 170 = .ok (.iload_n 3, 1) := by decide +kernel
theorem dX12_thing_171 : decode cX12_thing 171 = .ok (.iastore, 1) := by decide +kernel
theorem dX12_thing_172 : decode cX12_thing 172 = .ok (.aload_n 0, 1) := by decide +kernel
theorem dX12_thing_173 : decode cX12_thing 173 = .ok (.getfield 46, 3) := by decide +kernel
theorem dX12_thing_176 : decode cX12_thing 176 = .ok (.aload_n 0, 1) := by decide +kernel
theorem dX12_thing_177 : decode cX12_thing 177 = .ok (.getfield 7, 3) := by decide +kernel
theorem dX12_thing_180 : decode cX12_thing 180 = .ok (.iload 4, 2) := by decide +kernel
theorem dX12_thing_182 : decode cX12_thing 182 = .ok (.iastore, 1) := by decide +kernel
theorem dX12_thing_183 : decode cX12_thing 183 = .ok (.aload_n 0, 1) := by decide +kernel
theorem dX12_thing_184 : decode cX12_thing 184 = .ok (.dup, 1) := by decide +kernel
theorem dX12_thing_185 : decode cX12_thing 185 = .ok (.getfield 7, 3) := by decide +kernel
theorem dX12_thing_188 : decode cX12_thing 188 = .ok (.iconst 1, 1) := by decide +kernel
theorem dX12_thing_189 : decode cX12_thing 189 = .ok (.iadd, 1) := by decide +kernel
theorem dX12_thing_190 : decode cX12_thing 190 = .ok (.putfield 7, 3) := by decide +kernel
theorem dX12_thing_193 : decode cX12_thing 193 = .ok (.aload_n 0, 1) := by decide +kernel
theorem dX12_thing_194 : decode cX12_thing 194 = .ok (.aload_n 0, 1) := by decide +kernel
theorem dX12_thing_195 : decode cX12_thing 195 = .ok (.getfield 7, 3) := by decide +kernel
theorem dX12_thing_198 : decode cX12_thing 198 = .ok (.iconst 1, 1) := by decide +kernel
theorem dX12_thing_199 : decode cX12_thing 199 = .ok (.isub, 1) := by decide +kernel
theorem dX12_thing_200 : decode cX12_thing 200 = .ok (.invokevirtual 247, 3) := by decide +kernel
theorem dX12_thing_203 : decode cX12_thing 203 = .ok (.ireturn, 1) := by decide +kernel
set_option maxRecDepth 20000 in
theorem ggX12_house_X12_begins : GoodIn wsX12_house wsX12_begins := goodIn_r _ [10, 11, 12, 13, 14, 15, 16, 9, 17, 18, 19, 20, 21, 22, 23, 24, 25, 26, 27, 28, 29, 30, 31, 32, 33, 34, 35, 36, 37, 38, 39, 40, 41, 42, 43, 44, 45, 46, 47, 48, 49, 50, 51, 52, 53, 54, 55, 56, 57, 58, 59, 60, 61, 62, 63, 64, 65, 66, 67, 68, 69, 70, 71, 72, 73, 74, 75, 76, 77, 78, 79, 80, 81, 82, 83, 84, 85, 86, 87, 88, 111, 112, 113, 114, 115, 116, 117, 118, 119, 120, 121, 122, 123, 124, 125, 126, 127, 128, 129, 130, 131, 132, 133, 134, 135, 136, 137, 138, 139, 140, 141, 142, 143, 144, 145, 146, 147, 148, 149, 150, 151, 152, 153, 154, 155, 156, 157, 158, 159, 160, 161, 162, 163, 164, 165] (by decide +kernel) (by decide +kernel)
set_option maxRecDepth 20000 in
theorem gX12_house_X12_begins : GoodIn wsX12_house (wsV RX12 311 RX12 yX12_begins wsX12_begins) := goodIn_app (goodIn_of _ (by decide +kernel)) ggX12_house_X12_begins
set_option maxRecDepth 20000 in
theorem ggX12_house_X12_number : GoodIn wsX12_house wsX12_number := goodIn_r _ [92, 12, 21, 22, 14, 15, 16, 9, 17, 11, 18, 19, 20, 23, 24, 25, 26, 27, 28, 29, 30, 31, 32, 33, 34, 35, 36, 37, 38, 39, 40, 41, 42, 43, 44, 45, 46, 47, 48, 49, 50, 51, 52, 53, 54, 55, 56, 57, 58, 59, 60, 61, 62, 63, 64, 65, 66, 67, 68, 69, 70, 71, 72, 73, 74, 75, 76, 77, 78, 79, 80, 81, 82, 83, 84, 85, 86, 87, 88, 111, 112, 113, 114, 115, 116, 117, 118, 119, 120, 121, 122, 123, 124, 125, 126, 127, 128, 129, 130, 131, 132, 133, 134, 135, 136, 137, 138, 139, 140, 141, 142, 143, 144, 145, 146, 147, 148, 149, 150, 151, 152, 153, 154, 155, 156, 157, 158, 159, 160, 161, 162, 163, 164, 165] (by decide +kernel) (by decide +kernel)
set_option maxRecDepth 20000 in
theorem gX12_house_X12_number : GoodIn wsX12_house (wsV RX12 317 RX12 yX12_number wsX12_number) := goodIn_app (goodIn_of _ (by decide +kernel)) ggX12_house_X12_number
set_option maxRecDepth 20000 in
theorem ggX12_house_X12_ends : GoodIn wsX12_house wsX12_ends := goodIn_r _ [96, 12, 21, 20, 97, 18, 111, 112, 113, 114, 115, 116, 117, 118, 119, 120, 121, 122, 123, 124, 125, 126, 127, 128, 129, 130, 131, 132, 133, 134, 135, 136, 137, 138, 139, 140, 141, 142, 143, 144, 145, 146, 147, 148, 149, 150, 151, 152, 153, 154, 155, 156, 157, 158, 159, 160, 161] (by decide +kernel) (by decide +kernel)
set_option maxRecDepth 20000 in
theorem gX12_house_X12_ends : GoodIn wsX12_house (wsV RX12 320 RX12 yX12_ends wsX12_ends) := goodIn_app (goodIn_of _ (by decide +kernel)) ggX12_house_X12_ends
set_option maxRecDepth 20000 in
theorem ggX12_house_X12_no : GoodIn wsX12_house wsX12_no := goodIn_r _ [101, 102, 111, 112, 113, 114, 115, 116, 117, 118, 119, 120, 121, 122, 123, 124, 125, 126, 127, 128, 129, 130, 131, 132, 133, 134, 135, 136, 137, 138, 139, 140, 141, 142, 143, 144, 145, 146, 147, 148, 149, 150, 151, 152, 153, 154, 155, 156, 157, 158, 159, 160, 161] (by decide +kernel) (by decide +kernel)
set_option maxRecDepth 20000 in
theorem gX12_house_X12_no : GoodIn wsX12_house (wsV RX12 250 RX12 yX12_no wsX12_no) := goodIn_app (goodIn_of _ (by decide +kernel)) ggX12_house_X12_no
set_option maxRecDepth 20000 in
theorem ggX12_house_X12_isIn : GoodIn wsX12_house wsX12_isIn := goodIn_r _ [25] (by decide +kernel) (by decide +kernel)
set_option maxRecDepth 20000 in
theorem gX12_house_X12_isIn : GoodIn wsX12_house (va_wsS RX12 10 yX12_isIn wsX12_isIn) := goodIn_app (goodIn_of _ (by decide +kernel)) ggX12_house_X12_isIn
set_option maxRecDepth 20000 in
theorem ggX12_house_X12_faulty : GoodIn wsX12_house wsX12_faulty := goodIn_r _ [106, 13, 98, 99, 100, 9, 101, 102, 111, 112, 113, 114, 115, 116, 117, 118, 119, 120, 121, 122, 123, 124, 125, 126, 127, 128, 129, 130, 131, 132, 133, 134, 135, 136, 137, 138, 139, 140, 141, 142, 143, 144, 145, 146, 147, 148, 149, 150, 151, 152, 153, 154, 155, 156, 157, 158, 159, 160, 161] (by decide +kernel) (by decide +kernel)
set_option maxRecDepth 20000 in
theorem gX12_house_X12_faulty : GoodIn wsX12_house (wsV RX12 324 RX12 yX12_faulty wsX12_faulty) := goodIn_app (goodIn_of _ (by decide +kernel)) ggX12_house_X12_faulty
set_option maxRecDepth 20000 in
theorem ggX12_house_X12_fine : GoodIn wsX12_house wsX12_fine := goodIn_r _ [110, 102, 111, 112, 113, 114, 115, 116, 117, 118, 119, 120, 121, 122, 123, 124, 125, 126, 127, 128, 129, 130, 131, 132, 133, 134, 135, 136, 137, 138, 139, 140, 141, 142, 143, 144, 145, 146, 147, 148, 149, 150, 151, 152, 153, 154, 155, 156, 157, 158, 159, 160, 161] (by decide +kernel) (by decide +kernel)
set_option maxRecDepth 20000 in
theorem gX12_house_X12_fine : GoodIn wsX12_house (wsV RX12 247 RX12 yX12_fine wsX12_fine) := goodIn_app (goodIn_of _ (by decide +kernel)) ggX12_house_X12_fine
theorem dX12_house_0 : decode cX12_house 0 = .ok (.aload_n 0, 1) := by decide +kernel
theorem dX12_house_1 : decode cX12_house 1 = .ok (.invokevirtual 311, 3) := by decide +kernel
theorem dX12_house_4 : decode cX12_house 4 = .ok (.aload_n 0, 1) := by decide +kernel
theorem dX12_house_5 : decode cX12_house 5 = .ok (.invokevirtual 317, 3) := by decide +kernel
theorem dX12_house_8 : decode cX12_house 8 = .ok (.istore_n 1, 1) := by decide +kernel
theorem dX12_house_9 : decode cX12_house 9 = .ok (.aload_n 0, 1) := by decide +kernel
theorem dX12_house_10 : decode cX12_house 10 = .ok (.invokevirtual 317, 3) := by decide +kernel
theorem dX12_house_13 : decode cX12_house 13 = .ok (.istore_n 2, 1) := by decide +kernel
theorem dX12_house_14 : decode cX12_house 14 = .ok (.aload_n 0, 1) := by decide +kernel
theorem dX12_house_15 : decode cX12_house 15 = .ok (.invokevirtual 317, 3) := by decide +kernel
theorem dX12_house_18 : decode cX12_house 18 = .ok (.istore_n 3, 1) := by decide +kernel
theorem dX12_house_19 : decode cX12_house 19 = .ok (.aload_n 0, 1) := by decide +kernel
theorem dX12_house_20 : decode cX12_house 20 = .ok (.invokevirtual 317, 3) := by decide +kernel
theorem dX12_house_23 : decode cX12_house 23 = .ok (.istore 4, 2) := by decide +kernel
theorem dX12_house_25 : decode cX12_house 25 = .ok (.aload_n 0, 1) := by decide +kernel
theorem dX12_house_26 : decode cX12_house 26 = .ok (.invokevirtual 320, 3) := by decide +kernel
theorem dX12_house_29 : decode cX12_house 29 = .ok (.ifCond .ne 9, 3) := by decide +kernel
theorem dX12_house_32 : decode cX12_house 32 = .ok (.aload_n 0, 1) := by decide +kernel
theorem dX12_house_33 : decode cX12_house 33 = .ok (.iconst 2, 1) := by decide +kernel
theorem dX12_house_34 : decode cX12_house 34 = .ok (.invokevirtual 250, 3) := by decide +kernel
theorem dX12_house_37 : decode cX12_house 37 = .ok (.ireturn, 1) := by decide +kernel
theorem dX12_house_38 : decode cX12_house 38 = .ok (.iload_n 1, 1) := by decide +kernel
theorem dX12_house_39 : decode cX12_house 39 = .ok (.iconst 1, 1) := by decide +kernel
theorem dX12_house_40 : decode cX12_house 40 = .ok (.bipush 30, 2) := by decide +kernel
theorem dX12_house_42 : decode cX12_house 42 = .ok (.invokestatic 10, 3) := by decide +kernel
theorem dX12_house_45 : decode cX12_house 45 = .ok (.ifCond .eq 19, 3) := by decide +kernel
theorem dX12_house_48 : decode cX12_house 48 = .ok (.iload_n 2, 1) := by decide +kernel
theorem dX12_house_49 : decode cX12_house 49 = .ok (.iconst 1, 1) := by decide +kernel
theorem dX12_house_50 : decode cX12_house 50 = .ok (.if_icmp .lt 14, 3) := by decide +kernel
theorem dX12_house_53 : decode cX12_house 53 = .ok (.iload 4, 2) := by decide +kernel
theorem dX12_house_55 : decode cX12_house 55 = .ok (.iconst 1, 1) := by decide +kernel
theorem dX12_house_56 : decode cX12_house 56 = .ok (.bipush 99, 2) := by decide +kernel
theorem dX12_house_58 : decode cX12_house 58 = .ok (.invokestatic 10, 3) := by decide +kernel
theorem dX12_house_61 : decode cX12_house 61 = .ok (.ifCond .ne 9, 3) := by decide +kernel
theorem dX12_house_64 : decode cX12_house 64 = .ok (.aload_n 0, 1) := by decide +kernel
theorem dX12_house_65 : decode cX12_house 65 = .ok (.iconst 3, 1) := by decide +kernel
theorem dX12_house_66 : decode cX12_house 66 = .ok (.invokevirtual 324, 3) := by decide +kernel
theorem dX12_house_69 : decode cX12_house 69 = .ok (.ireturn, 1) := by decide +kernel
theorem dX12_house_70 : decode cX12_house 70 = .ok (.aload_n 0, 1) := by decide +kernel
theorem dX12_house_71 : decode cX12_house 71 = .ok (.getfield 14, 3) := by decide +kernel
theorem dX12_house_74 : decode cX12_house 74 = .ok (.bipush 6, 2) := by decide +kernel
theorem dX12_house_76 : decode cX12_house 76 = .ok (.if_icmp .ne 10, 3) := by decide +kernel
theorem dX12_house_79 : decode cX12_house 79 = .ok (.aload_n 0, 1) := by decide +kernel
theorem dX12_house_80 : decode cX12_house 80 = .ok (.bipush 9, 2) := by decide +kernel
theorem dX12_house_82 : decode cX12_house 82 = .ok (.invokevirtual 250, 3) := by decide +kernel
theorem dX12_house_85 : decode cX12_house 85 = .ok (.ireturn, 1) := by decide +kernel
theorem dX12_house_86 : decode cX12_house 86 = .ok (.aload_n 0, 1) := by decide +kernel
theorem dX12_house_87 : decode cX12_house 87 = .ok (.getfield 52, 3) := by decide +kernel
theorem dX12_house_90 : decode cX12_house 90 = .ok (.aload_n 0, 1) := by decide +kernel
theorem dX12_house_91 : decode cX12_house 91 = .ok (.getfield 14, 3) := by decide +kernel
theorem dX12_house_94 : decode cX12_house 94 = .ok (.iload_n 1, 1) := by decide +kernel
theorem dX12_house_95 : decode cX12_house 95 = .ok (.iastore, 1) := by decide +kernel
theorem dX12_house_96 : decode cX12_house 96 = .ok (.aload_n 0, 1) := by decide +kernel
theorem dX12_house_97 : decode cX12_house 97 = .ok (.getfield 113, 3) := by decide +kernel
theorem dX12_house_100 : decode cX12_house 100 = .ok (.aload_n 0, 1) := by decide +kernel
theorem dX12_house_101 : decode cX12_house 101 = .ok (.getfield 14, 3) := by decide +kernel
theorem dX12_house_104 : decode cX12_house 104 = .ok (.iload_n 2, 1) := by decide +kernel
theorem dX12_house_105 : decode cX12_house 105 = .ok (.iastore, 1) := by decide +kernel
theorem dX12_house_106 : decode cX12_house 106 = .ok (.aload_n 0, 1) := by decide +kernel
theorem dX12_house_107 : decode cX12_house 107 = .ok (.getfield 135, 3) := by decide +kernel
theorem dX12_house_110 : decode cX12_house 110 = .ok (.aload_n 0, 1) := by decide +kernel
theorem dX12_house_111 : decode cX12_house 111 = .ok (.getfield 14, 3) := by decide +kernel
theorem dX12_house_114 : decode cX12_house 114 = .ok (.iload_n 3, 1) := by decide +kernel
theorem dX12_house_115 : decode cX12_house 115 = .ok (.iastore, 1) := by decide +kernel
theorem dX12_house_116 : decode cX12_house 116 = .ok (.aload_n 0, 1) := by decide +kernel
theorem dX12_house_117 : decode cX12_house 117 = .ok (.getfield 183, 3) := by decide +kernel
theorem dX12_house_120 : decode cX12_house 120 = .ok (.aload_n 0, 1) := by decide +kernel
theorem dX12_house_121 : decode cX12_house 121 = .ok (.getfield 14, 3) := by decide +kernel
theorem dX12_house_124 : decode cX12_house 124 = .ok (.iload 4, 2) := by decide +kernel
theorem dX12_house_126 : decode cX12_house 126 = .ok (.iastore, 1) := by decide +kernel
theorem dX12_house_127 : decode cX12_house 127 = .ok (.aload_n 0, 1) := by decide +kernel
theorem dX12_house_128 : decode cX12_house 128 = .ok (.dup, 1) := by decide +kernel
theorem dX12_house_129 : decode cX12_house 129 = .ok (.getfield 14, 3) := by decide +kernel
theorem dX12_house_132 : decode cX12_house 132 = .ok (.iconst 1, 1) := by decide +kernel
theorem dX12_house_133 : decode cX12_house 133 = .ok (.iadd, 1) := by decide +kernel
theorem dX12_house_134 : decode cX12_house 134 = .ok (.putfield 14, 3) := by decide +kernel
theorem dX12_house_137 : decode cX12_house 137 = .ok (.aload_n 0, 1) := by decide +kernel
theorem dX12_house_138 : decode cX12_house 138 = .ok (.aload_n 0, 1) := by decide +kernel
theorem dX12_house_139 : decode cX12_house 139 = .ok (.getfield 14, 3) := by decide +kernel
theorem dX12_house_142 : decode cX12_house 142 = .ok (.iconst 1, 1) := by decide +kernel
theorem dX12_house_143 : decode cX12_house 143 = .ok (.isub, 1) := by decide +kernel
theorem dX12_house_144 : decode cX12_house 144 = .ok (.invokevirtual 247, 3) := by decide +kernel
theorem dX12_house_147 : decode cX12_house 147 = .ok (.ireturn, 1) := by decide +kernel
set_option maxRecDepth 20000 in
theorem ggX12_courier_X12_begins : GoodIn wsX12_courier wsX12_begins := goodIn_r _ [11, 12, 13, 14, 15, 16, 17, 10, 18, 19, 20, 21, 22, 23, 24, 25, 26, 27, 28, 29, 30, 31, 32, 33, 34, 35, 36, 37, 38, 39, 40, 41, 42, 43, 44, 45, 46, 47, 48, 49, 50, 51, 52, 53, 54, 55, 56, 57, 58, 59, 60, 61, 62, 63, 64, 65, 66, 67, 68, 69, 70, 71, 72, 73, 74, 75, 76, 77, 78, 79, 80, 81, 82, 83, 84, 85, 86, 87, 88, 89, 120, 121, 122, 123, 124, 125, 126, 127, 128, 129, 130, 131, 132, 133, 134, 135, 136, 137, 138, 139, 140, 141, 142, 143, 144, 145, 146, 147, 148, 149, 150, 151, 152, 153, 154, 155, 156, 157, 158, 159, 160, 161, 162, 163, 164, 165, 166, 167, 168, 169, 170, 171, 172, 173, 174] (by decide +kernel) (by decide +kernel)
set_option maxRecDepth 20000 in
theorem gX12_courier_X12_begins : GoodIn wsX12_courier (wsV RX12 311 RX12 yX12_begins wsX12_begins) := goodIn_app (goodIn_of _ (by decide +kernel)) ggX12_courier_X12_begins
set_option maxRecDepth 20000 in
theorem ggX12_courier_X12_number : GoodIn wsX12_courier wsX12_number := goodIn_r _ [93, 13, 22, 23, 15, 16, 17, 10, 18, 12, 19, 20, 21, 24, 25, 26, 27, 28, 29, 30, 31, 32, 33, 34, 35, 36, 37, 38, 39, 40, 41, 42, 43, 44, 45, 46, 47, 48, 49, 50, 51, 52, 53, 54, 55, 56, 57, 58, 59, 60, 61, 62, 63, 64, 65, 66, 67, 68, 69, 70, 71, 72, 73, 74, 75, 76, 77, 78, 79, 80, 81, 82, 83, 84, 85, 86, 87, 88, 89, 120, 121, 122, 123, 124, 125, 126, 127, 128, 129, 130, 131, 132, 133, 134, 135, 136, 137, 138, 139, 140, 141, 142, 143, 144, 145, 146, 147, 148, 149, 150, 151, 152, 153, 154, 155, 156, 157, 158, 159, 160, 161, 162, 163, 164, 165, 166, 167, 168, 169, 170, 171, 172, 173, 174] (by decide +kernel) (by decide +kernel)
set_option maxRecDepth 20000 in
theorem gX12_courier_X12_number : GoodIn wsX12_courier (wsV RX12 317 RX12 yX12_number wsX12_number) := goodIn_app (goodIn_of _ (by decide +kernel)) ggX12_courier_X12_number
set_option maxRecDepth 20000 in
theorem ggX12_courier_X12_must : GoodIn wsX12_courier wsX12_must := goodIn_r _ [97, 13, 98, 99, 100, 10, 101, 22, 23, 15, 16, 17, 18, 12, 19, 20, 21, 24, 25, 26, 27, 28, 29, 30, 31, 32, 33, 34, 35, 36, 37, 38, 39, 40, 41, 42, 43, 44, 45, 46, 47, 48, 49, 50, 51, 52, 53, 54, 55, 56, 57, 58, 59, 60, 61, 62, 63, 64, 65, 66, 67, 68, 69, 70, 71, 72, 73, 74, 75, 76, 77, 78, 79, 80, 81, 82, 83, 84, 85, 86, 87, 88, 89, 120, 121, 122, 123, 124, 125, 126, 127, 128, 129, 130, 131, 132, 133, 134, 135, 136, 137, 138, 139, 140, 141, 142, 143, 144, 145, 146, 147, 148, 149, 150, 151, 152, 153, 154, 155, 156, 157, 158, 159, 160, 161, 162, 163, 164, 165, 166, 167, 168, 169, 170, 171, 172, 173, 174] (by decide +kernel) (by decide +kernel)
set_option maxRecDepth 20000 in
theorem gX12_courier_X12_must : GoodIn wsX12_courier (wsV RX12 327 RX12 yX12_must wsX12_must) := goodIn_app (goodIn_of _ (by decide +kernel)) ggX12_courier_X12_must
set_option maxRecDepth 20000 in
theorem ggX12_courier_X12_goes : GoodIn wsX12_courier wsX12_goes := goodIn_r _ [101, 13, 22, 23, 15, 16, 17, 10, 18, 12, 19, 20, 21, 24, 25, 26, 27, 28, 29, 30, 31, 32, 33, 34, 35, 36, 37, 38, 39, 40, 41, 42, 43, 44, 45, 46, 47, 48, 49, 50, 51, 52, 53, 54, 55, 56, 57, 58, 59, 60, 61, 62, 63, 64, 65, 66, 67, 68, 69, 70, 71, 72, 73, 74, 75, 76, 77, 78, 79, 80, 81, 82, 83, 84, 85, 86, 87, 88, 89, 120, 121, 122, 123, 124, 125, 126, 127, 128, 129, 130, 131, 132, 133, 134, 135, 136, 137, 138, 139, 140, 141, 142, 143, 144, 145, 146, 147, 148, 149, 150, 151, 152, 153, 154, 155, 156, 157, 158, 159, 160, 161, 162, 163, 164, 165, 166, 167, 168, 169, 170, 171, 172, 173, 174] (by decide +kernel) (by decide +kernel)
set_option maxRecDepth 20000 in
theorem gX12_courier_X12_goes : GoodIn wsX12_courier (wsV RX12 294 RX12 yX12_goes wsX12_goes) := goodIn_app (goodIn_of _ (by decide +kernel)) ggX12_courier_X12_goes
set_option maxRecDepth 20000 in
theorem ggX12_courier_X12_ends : GoodIn wsX12_courier wsX12_ends := goodIn_r _ [105, 13, 22, 21, 106, 19, 120, 121, 122, 123, 124, 125, 126, 127, 128, 129, 130, 131, 132, 133, 134, 135, 136, 137, 138, 139, 140, 141, 142, 143, 144, 145, 146, 147, 148, 149, 150, 151, 152, 153, 154, 155, 156, 157, 158, 159, 160, 161, 162, 163, 164, 165, 166, 167, 168, 169, 170] (by decide +kernel) (by decide +kernel)
set_option maxRecDepth 20000 in
theorem gX12_courier_X12_ends : GoodIn wsX12_courier (wsV RX12 320 RX12 yX12_ends wsX12_ends) := goodIn_app (goodIn_of _ (by decide +kernel)) ggX12_courier_X12_ends
set_option maxRecDepth 20000 in
theorem ggX12_courier_X12_no : GoodIn wsX12_courier wsX12_no := goodIn_r _ [110, 111, 120, 121, 122, 123, 124, 125, 126, 127, 128, 129, 130, 131, 132, 133, 134, 135, 136, 137, 138, 139, 140, 141, 142, 143, 144, 145, 146, 147, 148, 149, 150, 151, 152, 153, 154, 155, 156, 157, 158, 159, 160, 161, 162, 163, 164, 165, 166, 167, 168, 169, 170] (by decide +kernel) (by decide +kernel)
set_option maxRecDepth 20000 in
theorem gX12_courier_X12_no : GoodIn wsX12_courier (wsV RX12 250 RX12 yX12_no wsX12_no) := goodIn_app (goodIn_of _ (by decide +kernel)) ggX12_courier_X12_no
set_option maxRecDepth 20000 in
theorem ggX12_courier_X12_faulty : GoodIn wsX12_courier wsX12_faulty := goodIn_r _ [115, 14, 107, 108, 109, 10, 110, 111, 120, 121, 122, 123, 124, 125, 126, 127, 128, 129, 130, 131, 132, 133, 134, 135, 136, 137, 138, 139, 140, 141, 142, 143, 144, 145, 146, 147, 148, 149, 150, 151, 152, 153, 154, 155, 156, 157, 158, 159, 160, 161, 162, 163, 164, 165, 166, 167, 168, 169, 170] (by decide +kernel) (by decide +kernel)
set_option maxRecDepth 20000 in
theorem gX12_courier_X12_faulty : GoodIn wsX12_courier (wsV RX12 324 RX12 yX12_faulty wsX12_faulty) := goodIn_app (goodIn_of _ (by decide +kernel)) ggX12_courier_X12_faulty
set_option maxRecDepth 20000 in
theorem ggX12_courier_X12_fine : GoodIn wsX12_courier wsX12_fine := goodIn_r _ [119, 111, 120, 121, 122, 123, 124, 125, 126, 127, 128, 129, 130, 131, 132, 133, 134, 135, 136, 137, 138, 139, 140, 141, 142, 143, 144, 145, 146, 147, 148, 149, 150, 151, 152, 153, 154, 155, 156, 157, 158, 159, 160, 161, 162, 163, 164, 165, 166, 167, 168, 169, 170] (by decide +kernel) (by decide +kernel)
set_option maxRecDepth 20000 in
theorem gX12_courier_X12_fine : GoodIn wsX12_courier (wsV RX12 247 RX12 yX12_fine wsX12_fine) := goodIn_app (goodIn_of _ (by decide +kernel)) ggX12_courier_X12_fine
theorem dX12_courier_0 : decode cX12_courier 0 = .ok (.aload_n 0, 1) := by decide +kernel
theorem dX12_courier_1 : decode cX12_courier 1 = .ok (.invokevirtual 311, 3) := by decide +kernel
theorem dX12_courier_4 : decode cX12_courier 4 = .ok (.iconst 0, 1) := by decide +kernel
theorem dX12_courier_5 : decode cX12_courier 5 = .ok (.istore_n 1, 1) := by decide +kernel
theorem dX12_courier_6 : decode cX12_courier 6 = .ok (.aload_n 0, 1) := by decide +kernel
theorem dX12_courier_7 : decode cX12_courier 7 = .ok (.getfield 302, 3) := by decide +kernel
theorem dX12_courier_10 : decode cX12_courier 10 = .ok (.iload_n 1, 1) := by decide +kernel
theorem dX12_courier_11 : decode cX12_courier 11 = .ok (.aload_n 0, 1) := by decide +kernel
theorem dX12_courier_12 : decode cX12_courier 12 = .ok (.invokevirtual 317, 3) := by decide +kernel
theorem dX12_courier_15 : decode cX12_courier 15 = .ok (.iastore, 1) := by decide +kernel
theorem dX12_courier_16 : decode cX12_courier 16 = .ok (.aload_n 0, 1) := by decide +kernel
theorem dX12_courier_17 : decode cX12_courier 17 = .ok (.bipush 45, 2) := by decide +kernel
theorem dX12_courier_19 : decode cX12_courier 19 = .ok (.invokevirtual 327, 3) := by decide +kernel
theorem dX12_courier_22 : decode cX12_courier 22 = .ok (.aload_n 0, 1) := by decide +kernel
theorem dX12_courier_23 : decode cX12_courier 23 = .ok (.getfield 305, 3) := by decide +kernel
theorem dX12_courier_26 : decode cX12_courier 26 = .ok (.iload_n 1, 1) := by decide +kernel
theorem dX12_courier_27 : decode cX12_courier 27 = .ok (.aload_n 0, 1) := by decide +kernel
theorem dX12_courier_28 : decode cX12_courier 28 = .ok (.invokevirtual 317, 3) := by decide +kernel
theorem dX12_courier_31 : decode cX12_courier 31 = .ok (.iastore, 1) := by decide +kernel
theorem dX12_courier_32 : decode cX12_courier 32 = .ok (.iinc 1 1, 3) := by decide +kernel
theorem dX12_courier_35 : decode cX12_courier 35 = .ok (.aload_n 0, 1) := by decide +kernel
theorem dX12_courier_36 : decode cX12_courier 36 = .ok (.iconst 4, 1) := by decide +kernel
theorem dX12_courier_37 : decode cX12_courier 37 = .ok (.bipush 44, 2) := by decide +kernel
theorem dX12_courier_39 : decode cX12_courier 39 = .ok (.invokevirtual 294, 3) := by decide +kernel
theorem dX12_courier_42 : decode cX12_courier 42 = .ok (.ifCond .ne (-36), 3) := by decide +kernel
theorem dX12_courier_45 : decode cX12_courier 45 = .ok (.aload_n 0, 1) := by decide +kernel
theorem dX12_courier_46 : decode cX12_courier 46 = .ok (.invokevirtual 320, 3) := by decide +kernel
theorem dX12_courier_49 : decode cX12_courier 49 = .ok (.ifCond .ne 9, 3) := by decide +kernel
theorem dX12_courier_52 : decode cX12_courier 52 = .ok (.aload_n 0, 1) := by decide +kernel
theorem dX12_courier_53 : decode cX12_courier 53 = .ok (.iconst 2, 1) := by decide +kernel
theorem dX12_courier_54 : decode cX12_courier 54 = .ok (.invokevirtual 250, 3) := by decide +kernel
theorem dX12_courier_57 : decode cX12_courier 57 = .ok (.ireturn, 1) := by decide +kernel
theorem dX12_courier_58 : decode cX12_courier 58 = .ok (.iconst 1, 1) := by decide +kernel
theorem dX12_courier_59 : decode cX12_courier 59 = .ok (.istore_n 2, 1) := by decide +kernel
theorem dX12_courier_60 : decode cX12_courier 60 = .ok (.iconst 0, 1) := by decide +kernel
theorem dX12_courier_61 : decode cX12_courier 61 = .ok (.istore_n 3, 1) := by decide +kernel
theorem dX12_courier_62 : decode cX12_courier 62 = .ok (.iload_n 3, 1) := by decide +kernel
theorem dX12_courier_63 : decode cX12_courier 63 = .ok (.iload_n 1, 1) := by decide +kernel
theorem dX12_courier_64 : decode cX12_courier 64 = .ok (.if_icmp .ge 67, 3) := by decide +kernel
theorem dX12_courier_67 : decode cX12_courier 67 = .ok (.iload_n 2, 1) := by decide +kernel
theorem dX12_courier_68 : decode cX12_courier 68 = .ok (.ifCond .eq 55, 3) := by decide +kernel
theorem dX12_courier_71 : decode cX12_courier 71 = .ok (.aload_n 0, 1) := by decide +kernel
theorem dX12_courier_72 : decode cX12_courier 72 = .ok (.getfield 302, 3) := by decide +kernel
theorem dX12_courier_75 : decode cX12_courier 75 = .ok (.iload_n 3, 1) := by decide +kernel
theorem dX12_courier_76 : decode cX12_courier 76 = .ok (.iaload, 1) := by decide +kernel
theorem dX12_courier_77 : decode cX12_courier 77 = .ok (.aload_n 0, 1) := by decide +kernel
theorem dX12_courier_78 : decode cX12_courier 78 = .ok (.getfield 305, 3) := by decide +kernel
theorem dX12_courier_81 : decode cX12_courier 81 = .ok (.iload_n 3, 1) := by decide +kernel
theorem dX12_courier_82 : decode cX12_courier 82 = .ok (.iaload, 1) := by decide +kernel
theorem dX12_courier_83 : decode cX12_courier 83 = .ok (.if_icmp .gt 40, 3) := by decide +kernel
theorem dX12_courier_86 : decode cX12_courier 86 = .ok (.aload_n 0, 1) := by decide +kernel
theorem dX12_courier_87 : decode cX12_courier 87 = .ok (.getfield 305, 3) := by decide +kernel
theorem dX12_courier_90 : decode cX12_courier 90 = .ok (.iload_n 3, 1) := by decide +kernel
theorem dX12_courier_91 : decode cX12_courier 91 = .ok (.iaload, 1) := by decide +kernel
theorem dX12_courier_92 : decode cX12_courier 92 = .ok (.sipush 1000, 3) := by decide +kernel
theorem dX12_courier_95 : decode cX12_courier 95 = .ok (.if_icmp .ge 28, 3) := by decide +kernel
theorem dX12_courier_98 : decode cX12_courier 98 = .ok (.iload_n 3, 1) := by decide +kernel
theorem dX12_courier_99 : decode cX12_courier 99 = .ok (.ifCond .eq 20, 3) := by decide +kernel
theorem dX12_courier_102 : decode cX12_courier 102 = .ok (.aload_n 0, 1) := by decide +kernel
theorem dX12_courier_103 : decode cX12_courier 103 = .ok (.getfield 302, 3) := by decide +kernel
theorem dX12_courier_106 : decode cX12_courier 106 = .ok (.iload_n 3, 1) := by decide +kernel
theorem dX12_courier_107 : decode cX12_courier 107 = .ok (.iaload, 1) := by decide +kernel
theorem dX12_courier_108 : decode cX12_courier 108 = .ok (.aload_n 0, 1) := by decide +kernel
theorem dX12_courier_109 : decode cX12_courier 109 = .ok (.getfield 305, 3) := by decide +kernel
theorem dX12_courier_112 : decode cX12_courier 112 = .ok (.iload_n 3, 1) := by decide +kernel
theorem dX12_courier_113 : decode cX12_courier 113 = .ok (.iconst 1, 1) := by decide +kernel
theorem dX12_courier_114 : decode cX12_courier 114 = .ok (.isub, 1) := by decide +kernel
theorem dX12_courier_115 : decode cX12_courier 115 = .ok (.iaload, 1) := by decide +kernel
theorem dX12_courier_116 : decode cX12_courier 116 = .ok (.if_icmp .le 7, 3) := by decide +kernel
theorem dX12_courier_119 : decode cX12_courier 119 = .ok (.iconst 1, 1) := by decide +kernel
theorem dX12_courier_120 : decode cX12_courier 120 = .ok (.goto 4, 3) := by decide +kernel
theorem dX12_courier_123 : decode cX12_courier 123 = .ok (.iconst 0, 1) := by decide +kernel
theorem dX12_courier_124 : decode cX12_courier 124 = .ok (.istore_n 2, 1) := by decide +kernel
theorem dX12_courier_125 : decode cX12_courier 125 = .ok (.iinc 3 1, 3) := by decide +kernel
theorem dX12_courier_128 : decode cX12_courier 128 = .ok (.goto (-66), 3) := by decide +kernel
theorem dX12_courier_131 : decode cX12_courier 131 = .ok (.iload_n 2, 1) := by decide +kernel
theorem dX12_courier_132 : decode cX12_courier 132 = .ok (.ifCond .ne 9, 3) := by decide +kernel
theorem dX12_courier_135 : decode cX12_courier 135 = .ok (.aload_n 0, 1) := by decide +kernel
theorem dX12_courier_136 : decode cX12_courier 136 = .ok (.iconst 4, 1) := by decide +kernel
theorem dX12_courier_137 : decode cX12_courier 137 = .ok (.invokevirtual 324, 3) := by decide +kernel
theorem dX12_courier_140 : decode cX12_courier 140 = .ok (.ireturn, 1) := by decide +kernel
theorem dX12_courier_141 : decode cX12_courier 141 = .ok (.aload_n 0, 1) := by decide +kernel
theorem dX12_courier_142 : decode cX12_courier 142 = .ok (.getfield 17, 3) := by decide +kernel
theorem dX12_courier_145 : decode cX12_courier 145 = .ok (.bipush 8, 2) := by decide +kernel
theorem dX12_courier_147 : decode cX12_courier 147 = .ok (.if_icmp .ne 10, 3) := by decide +kernel
theorem dX12_courier_150 : decode cX12_courier 150 = .ok (.aload_n 0, 1) := by decide +kernel
theorem dX12_courier_151 : decode cX12_courier 151 = .ok (.bipush 9, 2) := by decide +kernel
theorem dX12_courier_153 : decode cX12_courier 153 = .ok (.invokevirtual 250, 3) := by decide +kernel
theorem dX12_courier_156 : decode cX12_courier 156 = .ok (.ireturn, 1) := by decide +kernel
theorem dX12_courier_157 : decode cX12_courier 157 = .ok (.iconst 0, 1) := by decide +kernel
theorem dX12_courier_158 : decode cX12_courier 158 = .ok (.istore_n 3, 1) := by decide +kernel
theorem dX12_courier_159 : decode cX12_courier 159 = .ok (.iload_n 3, 1) := by decide +kernel
theorem dX12_courier_160 : decode cX12_courier 160 = .ok (.iload_n 1, 1) := by decide +kernel
theorem dX12_courier_161 : decode cX12_courier 161 = .ok (.if_icmp .ge 49, 3) := by decide +kernel
theorem dX12_courier_164 : decode cX12_courier 164 = .ok (.aload_n 0, 1) := by decide +kernel
theorem dX12_courier_165 : decode cX12_courier 165 = .ok (.getfield 78, 3) := by decide +kernel
theorem dX12_courier_168 : decode cX12_courier 168 = .ok (.aload_n 0, 1) := by decide +kernel
theorem dX12_courier_169 : decode cX12_courier 169 = .ok (.getfield 17, 3) := by decide +kernel
theorem dX12_courier_172 : decode cX12_courier 172 = .ok (.bipush 40, 2) := by decide +kernel
theorem dX12_courier_174 : decode cX12_courier 174 = .ok (.imul, 1) := by decide +kernel
theorem dX12_courier_175 : decode cX12_courier 175 = .ok (.iload_n 3, 1) := by decide +kernel
theorem dX12_courier_176 : decode cX12_courier 176 = .ok (.iadd, 1) := by decide +kernel
theorem dX12_courier_177 : decode cX12_courier 177 = .ok (.aload_n 0, 1) := by decide +kernel
theorem dX12_courier_178 : decode cX12_courier 178 = .ok (.getfield 302, 3) := by decide +kernel
theorem dX12_courier_181 : decode cX12_courier 181 = .ok (.iload_n 3, 1) := by decide +kernel
theorem dX12_courier_182 : decode cX12_courier 182 = .ok (.iaload, 1) := by decide +kernel
theorem dX12_courier_183 : decode cX12_courier 183 = .ok (.iastore, 1) := by decide +kernel
theorem dX12_courier_184 : decode cX12_courier 184 = .ok (.aload_n 0, 1) := by decide +kernel
theorem dX12_courier_185 : decode cX12_courier 185 = .ok (.getfield 81, 3) := by decide +kernel
theorem dX12_courier_188 : decode cX12_courier 188 = .ok (.aload_n 0, 1) := by decide +kernel
theorem dX12_courier_189 : decode cX12_courier 189 = .ok (.getfield 17, 3) := by decide +kernel
theorem dX12_courier_192 : decode cX12_courier 192 = .ok (.bipush 40, 2) := by decide +kernel
theorem dX12_courier_194 : decode cX12_courier 194 = .ok (.imul, 1) := by decide +kernel
theorem dX12_courier_195 : decode cX12_courier 195 = .ok (.iload_n 3, 1) := by decide +kernel
theorem dX12_courier_196 : decode cX12_courier 196 = .ok (.iadd, 1) := by decide +kernel
theorem dX12_courier_197 : decode cX12_courier 197 = .ok (.aload_n 0, 1) := by decide +kernel
theorem dX12_courier_198 : decode cX12_courier 198 = .ok (.getfield 305, 3) := by decide +kernel
theorem dX12_courier_201 : decode cX12_courier 201 = .ok (.iload_n 3, 1) := by decide +kernel
theorem dX12_courier_202 : decode cX12_courier 202 = .ok (.iaload, 1) := by decide +kernel
theorem dX12_courier_203 : decode cX12_courier 203 = .ok (.iastore, 1) := by decide +kernel
theorem dX12_courier_204 : decode cX12_courier 204 = .ok (.iinc 3 1, 3) := by decide +kernel
theorem dX12_courier_207 : decode cX12_courier 207 = .ok (.goto (-48), 3) := by decide +kernel
theorem dX12_courier_210 : decode cX12_courier 210 = .ok (.aload_n 0, 1) := by decide +kernel
theorem dX12_courier_211 : decode cX12_courier 211 = .ok (.getfield 75, 3) := by decide +kernel
theorem dX12_courier_214 : decode cX12_courier 214 = .ok (.aload_n 0, 1) := by decide +kernel
theorem dX12_courier_215 : decode cX12_courier 215 = .ok (.getfield 17, 3) := by decide +kernel
theorem dX12_courier_218 : decode cX12_courier 218 = .ok (.iload_n 1, 1) := by decide +kernel
theorem dX12_courier_219 : decode cX12_courier 219 = .ok (.iastore, 1) := by decide +kernel
theorem dX12_courier_220 : decode cX12_courier 220 = .ok (.aload_n 0, 1) := by decide +kernel
theorem dX12_courier_221 : decode cX12_courier 221 = .ok (.dup, 1) := by decide +kernel
theorem dX12_courier_222 : decode cX12_courier 222 = .ok (.getfield 17, 3) := by decide +kernel
theorem dX12_courier_225 : decode cX12_courier 225 = .ok (.iconst 1, 1) := by decide +kernel
theorem dX12_courier_226 : decode cX12_courier 226 = .ok (.iadd, 1) := by decide +kernel
theorem dX12_courier_227 : decode cX12_courier 227 = .ok (.putfield 17, 3) := by decide +kernel
theorem dX12_courier_230 : decode cX12_courier 230 = .ok (.aload_n 0, 1) := by decide +kernel
theorem dX12_courier_231 : decode cX12_courier 231 = .ok (.aload_n 0, 1) := by decide +kernel
theorem dX12_courier_232 : decode cX12_courier 232 = .ok (.getfield 17, 3) := by decide +kernel
theorem dX12_courier_235 : decode cX12_courier 235 = .ok (.iconst 1, 1) := by decide +kernel
theorem dX12_courier_236 : decode cX12_courier 236 = .ok (.isub, 1) := by decide +kernel
theorem dX12_courier_237 : decode cX12_courier 237 = .ok (.invokevirtual 247, 3) := by decide +kernel
theorem dX12_courier_240 : decode cX12_courier 240 = .ok (.ireturn, 1) := by decide +kernel
set_option maxRecDepth 20000 in
theorem ggX12_loan_X12_isHouse : GoodIn wsX12_loan wsX12_isHouse := goodIn_r _ [11, 12, 13, 14, 10, 15, 227, 228, 229, 230, 231, 232, 233, 234, 235, 236, 237, 238, 239, 240, 241, 242, 243, 244, 245, 246, 247, 248, 249, 250, 251, 252, 253, 254, 255, 256, 257, 258, 259, 260, 261, 262, 263, 264, 265, 266, 267, 268, 269, 270, 271, 272, 273, 274, 275, 276, 277] (by decide +kernel) (by decide +kernel)
set_option maxRecDepth 20000 in
theorem gX12_loan_X12_isHouse : GoodIn wsX12_loan (wsV RX12 330 RX12 yX12_isHouse wsX12_isHouse) := goodIn_app (goodIn_of _ (by decide +kernel)) ggX12_loan_X12_isHouse
set_option maxRecDepth 20000 in
theorem ggX12_loan_X12_unread : GoodIn wsX12_loan wsX12_unread := goodIn_r _ [19, 20, 21, 22, 23, 10, 24, 25, 227, 228, 229, 230, 231, 232, 233, 234, 235, 236, 237, 238, 239, 240, 241, 242, 243, 244, 245, 246, 247, 248, 249, 250, 251, 252, 253, 254, 255, 256, 257, 258, 259, 260, 261, 262, 263, 264, 265, 266, 267, 268, 269, 270, 271, 272, 273, 274, 275, 276, 277] (by decide +kernel) (by decide +kernel)
set_option maxRecDepth 20000 in
theorem gX12_loan_X12_unread : GoodIn wsX12_loan (wsV RX12 334 RX12 yX12_unread wsX12_unread) := goodIn_app (goodIn_of _ (by decide +kernel)) ggX12_loan_X12_unread
set_option maxRecDepth 20000 in
theorem ggX12_loan_X12_begins : GoodIn wsX12_loan wsX12_begins := goodIn_r _ [29, 30, 31, 32, 33, 34, 35, 10, 36, 20, 37, 38, 39, 40, 13, 14, 15, 41, 42, 43, 44, 45, 46, 47, 48, 49, 50, 51, 52, 53, 54, 55, 56, 57, 58, 59, 60, 61, 62, 63, 64, 65, 66, 67, 68, 69, 70, 71, 72, 73, 74, 75, 76, 77, 78, 79, 80, 81, 82, 83, 84, 85, 86, 87, 88, 89, 90, 91, 92, 93, 94, 95, 96, 97, 98, 99, 100, 101, 102, 103, 227, 228, 229, 230, 231, 232, 233, 234, 235, 236, 237, 238, 239, 240, 241, 242, 243, 244, 245, 246, 247, 248, 249, 250, 251, 252, 253, 254, 255, 256, 257, 258, 259, 260, 261, 262, 263, 264, 265, 266, 267, 268, 269, 270, 271, 272, 273, 274, 275, 276, 277, 278, 279, 280, 281] (by decide +kernel) (by decide +kernel)
set_option maxRecDepth 20000 in
theorem gX12_loan_X12_begins : GoodIn wsX12_loan (wsV RX12 311 RX12 yX12_begins wsX12_begins) := goodIn_app (goodIn_of _ (by decide +kernel)) ggX12_loan_X12_begins
set_option maxRecDepth 20000 in
theorem ggX12_loan_X12_number : GoodIn wsX12_loan wsX12_number := goodIn_r _ [107, 31, 39, 40, 33, 34, 35, 10, 36, 30, 20, 37, 38, 13, 14, 15, 41, 42, 43, 44, 45, 46, 47, 48, 49, 50, 51, 52, 53, 54, 55, 56, 57, 58, 59, 60, 61, 62, 63, 64, 65, 66, 67, 68, 69, 70, 71, 72, 73, 74, 75, 76, 77, 78, 79, 80, 81, 82, 83, 84, 85, 86, 87, 88, 89, 90, 91, 92, 93, 94, 95, 96, 97, 98, 99, 100, 101, 102, 103, 227, 228, 229, 230, 231, 232, 233, 234, 235, 236, 237, 238, 239, 240, 241, 242, 243, 244, 245, 246, 247, 248, 249, 250, 251, 252, 253, 254, 255, 256, 257, 258, 259, 260, 261, 262, 263, 264, 265, 266, 267, 268, 269, 270, 271, 272, 273, 274, 275, 276, 277, 278, 279, 280, 281] (by decide +kernel) (by decide +kernel)
set_option maxRecDepth 20000 in
theorem gX12_loan_X12_number : GoodIn wsX12_loan (wsV RX12 317 RX12 yX12_number wsX12_number) := goodIn_app (goodIn_of _ (by decide +kernel)) ggX12_loan_X12_number
set_option maxRecDepth 20000 in
theorem ggX12_loan_X12_must : GoodIn wsX12_loan wsX12_must := goodIn_r _ [111, 31, 112, 113, 114, 10, 115, 39, 40, 33, 34, 35, 36, 30, 20, 37, 38, 13, 14, 15, 41, 42, 43, 44, 45, 46, 47, 48, 49, 50, 51, 52, 53, 54, 55, 56, 57, 58, 59, 60, 61, 62, 63, 64, 65, 66, 67, 68, 69, 70, 71, 72, 73, 74, 75, 76, 77, 78, 79, 80, 81, 82, 83, 84, 85, 86, 87, 88, 89, 90, 91, 92, 93, 94, 95, 96, 97, 98, 99, 100, 101, 102, 103, 227, 228, 229, 230, 231, 232, 233, 234, 235, 236, 237, 238, 239, 240, 241, 242, 243, 244, 245, 246, 247, 248, 249, 250, 251, 252, 253, 254, 255, 256, 257, 258, 259, 260, 261, 262, 263, 264, 265, 266, 267, 268, 269, 270, 271, 272, 273, 274, 275, 276, 277, 278, 279, 280, 281] (by decide +kernel) (by decide +kernel)
set_option maxRecDepth 20000 in
theorem gX12_loan_X12_must : GoodIn wsX12_loan (wsV RX12 327 RX12 yX12_must wsX12_must) := goodIn_app (goodIn_of _ (by decide +kernel)) ggX12_loan_X12_must
set_option maxRecDepth 20000 in
theorem ggX12_loan_X12_goes : GoodIn wsX12_loan wsX12_goes := goodIn_r _ [115, 31, 39, 40, 33, 34, 35, 10, 36, 30, 20, 37, 38, 13, 14, 15, 41, 42, 43, 44, 45, 46, 47, 48, 49, 50, 51, 52, 53, 54, 55, 56, 57, 58, 59, 60, 61, 62, 63, 64, 65, 66, 67, 68, 69, 70, 71, 72, 73, 74, 75, 76, 77, 78, 79, 80, 81, 82, 83, 84, 85, 86, 87, 88, 89, 90, 91, 92, 93, 94, 95, 96, 97, 98, 99, 100, 101, 102, 103, 227, 228, 229, 230, 231, 232, 233, 234, 235, 236, 237, 238, 239, 240, 241, 242, 243, 244, 245, 246, 247, 248, 249, 250, 251, 252, 253, 254, 255, 256, 257, 258, 259, 260, 261, 262, 263, 264, 265, 266, 267, 268, 269, 270, 271, 272, 273, 274, 275, 276, 277, 278, 279, 280, 281] (by decide +kernel) (by decide +kernel)
set_option maxRecDepth 20000 in
theorem gX12_loan_X12_goes : GoodIn wsX12_loan (wsV RX12 294 RX12 yX12_goes wsX12_goes) := goodIn_app (goodIn_of _ (by decide +kernel)) ggX12_loan_X12_goes
set_option maxRecDepth 20000 in
theorem ggX12_loan_X12_ends : GoodIn wsX12_loan wsX12_ends := goodIn_r _ [119, 31, 39, 38, 120, 20, 227, 228, 229, 230, 231, 232, 233, 234, 235, 236, 237, 238, 239, 240, 241, 242, 243, 244, 245, 246, 247, 248, 249, 250, 251, 252, 253, 254, 255, 256, 257, 258, 259, 260, 261, 262, 263, 264, 265, 266, 267, 268, 269, 270, 271, 272, 273, 274, 275, 276, 277] (by decide +kernel) (by decide +kernel)
set_option maxRecDepth 20000 in
theorem gX12_loan_X12_ends : GoodIn wsX12_loan (wsV RX12 320 RX12 yX12_ends wsX12_ends) := goodIn_app (goodIn_of _ (by decide +kernel)) ggX12_loan_X12_ends
set_option maxRecDepth 20000 in
theorem ggX12_loan_X12_no : GoodIn wsX12_loan wsX12_no := goodIn_r _ [24, 25, 227, 228, 229, 230, 231, 232, 233, 234, 235, 236, 237, 238, 239, 240, 241, 242, 243, 244, 245, 246, 247, 248, 249, 250, 251, 252, 253, 254, 255, 256, 257, 258, 259, 260, 261, 262, 263, 264, 265, 266, 267, 268, 269, 270, 271, 272, 273, 274, 275, 276, 277] (by decide +kernel) (by decide +kernel)
set_option maxRecDepth 20000 in
theorem gX12_loan_X12_no : GoodIn wsX12_loan (wsV RX12 250 RX12 yX12_no wsX12_no) := goodIn_app (goodIn_of _ (by decide +kernel)) ggX12_loan_X12_no
set_option maxRecDepth 20000 in
theorem ggX12_loan_X12_isIn : GoodIn wsX12_loan wsX12_isIn := goodIn_r _ [15] (by decide +kernel) (by decide +kernel)
set_option maxRecDepth 20000 in
theorem gX12_loan_X12_isIn : GoodIn wsX12_loan (va_wsS RX12 10 yX12_isIn wsX12_isIn) := goodIn_app (goodIn_of _ (by decide +kernel)) ggX12_loan_X12_isIn
set_option maxRecDepth 20000 in
theorem ggX12_loan_X12_isThing : GoodIn wsX12_loan wsX12_isThing := goodIn_r _ [124, 125, 13, 14, 10, 15, 227, 228, 229, 230, 231, 232, 233, 234, 235, 236, 237, 238, 239, 240, 241, 242, 243, 244, 245, 246, 247, 248, 249, 250, 251, 252, 253, 254, 255, 256, 257, 258, 259, 260, 261, 262, 263, 264, 265, 266, 267, 268, 269, 270, 271, 272, 273, 274, 275, 276, 277] (by decide +kernel) (by decide +kernel)
set_option maxRecDepth 20000 in
theorem gX12_loan_X12_isThing : GoodIn wsX12_loan (wsV RX12 337 RX12 yX12_isThing wsX12_isThing) := goodIn_app (goodIn_of _ (by decide +kernel)) ggX12_loan_X12_isThing
set_option maxRecDepth 20000 in
theorem ggX12_loan_X12_faulty : GoodIn wsX12_loan wsX12_faulty := goodIn_r _ [129, 32, 21, 22, 23, 10, 24, 25, 227, 228, 229, 230, 231, 232, 233, 234, 235, 236, 237, 238, 239, 240, 241, 242, 243, 244, 245, 246, 247, 248, 249, 250, 251, 252, 253, 254, 255, 256, 257, 258, 259, 260, 261, 262, 263, 264, 265, 266, 267, 268, 269, 270, 271, 272, 273, 274, 275, 276, 277] (by decide +kernel) (by decide +kernel)
set_option maxRecDepth 20000 in
theorem gX12_loan_X12_faulty : GoodIn wsX12_loan (wsV RX12 324 RX12 yX12_faulty wsX12_faulty) := goodIn_app (goodIn_of _ (by decide +kernel)) ggX12_loan_X12_faulty
set_option maxRecDepth 20000 in
theorem ggX12_loan_X12_loanOf : GoodIn wsX12_loan wsX12_loanOf := goodIn_r _ [133, 5, 6, 134, 135, 136, 10, 137, 138, 139, 140, 141, 142, 143, 144, 145, 146, 147, 2, 148, 149, 13, 14, 15, 227, 228, 229, 230, 231, 232, 233, 234, 235, 236, 237, 238, 239, 240, 241, 242, 243, 244, 245, 246, 247, 248, 249, 250, 251, 252, 253, 254, 255, 256, 257, 258, 259, 260, 261, 262, 263, 264, 265, 266, 267, 268, 269, 270, 271, 272, 273, 274, 275, 276, 277] (by decide +kernel) (by decide +kernel)
set_option maxRecDepth 20000 in
theorem gX12_loan_X12_loanOf : GoodIn wsX12_loan (wsV RX12 340 RX12 yX12_loanOf wsX12_loanOf) := goodIn_app (goodIn_of _ (by decide +kernel)) ggX12_loan_X12_loanOf
set_option maxRecDepth 20000 in
theorem ggX12_loan_X12_set : GoodIn wsX12_loan wsX12_set := goodIn_r _ [153, 6, 148, 143, 149, 138, 154, 155, 156, 10, 157, 158, 159, 125, 3, 160, 161, 162, 163, 164, 165, 4, 166, 167, 168, 169, 134, 135, 136, 137, 170, 171, 172, 173, 174, 175, 227, 228, 229, 230, 231, 232, 233, 234, 235, 236, 237, 238, 239, 240, 241, 242, 243, 244, 245, 246, 247, 248, 249, 250, 251, 252, 253, 254, 255, 256, 257, 258, 259, 260, 261, 262, 263, 264, 265, 266, 267, 268, 269, 270, 271, 272, 273, 274, 275, 276, 277] (by decide +kernel) (by decide +kernel)
set_option maxRecDepth 20000 in
theorem gX12_loan_X12_set : GoodIn wsX12_loan (wsV RX12 343 RX12 yX12_set wsX12_set) := goodIn_app (goodIn_of _ (by decide +kernel)) ggX12_loan_X12_set
set_option maxRecDepth 20000 in
theorem ggX12_loan_X12_areGuarded : GoodIn wsX12_loan wsX12_areGuarded := goodIn_r _ [179, 158, 180, 181, 148, 182, 2, 160, 161, 183, 184, 185, 10, 186, 143, 149, 187, 188, 189, 190, 125, 159, 134, 135, 136, 137, 138, 191, 192, 193, 194, 195, 196, 197, 198, 199, 200, 201, 202, 203, 204, 205, 206, 207, 208, 209, 210, 13, 14, 15, 211, 212, 213, 214, 6, 215, 216, 217, 218, 219, 220, 221, 222, 227, 228, 229, 230, 231, 232, 233, 234, 235, 236, 237, 238, 239, 240, 241, 242, 243, 244, 245, 246, 247, 248, 249, 250, 251, 252, 253, 254, 255, 256, 257, 258, 259, 260, 261, 262, 263, 264, 265, 266, 267, 268, 269, 270, 271, 272, 273, 274, 275, 276, 277] (by decide +kernel) (by decide +kernel)
set_option maxRecDepth 20000 in
theorem gX12_loan_X12_areGuarded : GoodIn wsX12_loan (wsV RX12 347 RX12 yX12_areGuarded wsX12_areGuarded) := goodIn_app (goodIn_of _ (by decide +kernel)) ggX12_loan_X12_areGuarded
set_option maxRecDepth 20000 in
theorem ggX12_loan_X12_fine : GoodIn wsX12_loan wsX12_fine := goodIn_r _ [226, 25, 227, 228, 229, 230, 231, 232, 233, 234, 235, 236, 237, 238, 239, 240, 241, 242, 243, 244, 245, 246, 247, 248, 249, 250, 251, 252, 253, 254, 255, 256, 257, 258, 259, 260, 261, 262, 263, 264, 265, 266, 267, 268, 269, 270, 271, 272, 273, 274, 275, 276, 277] (by decide +kernel) (by decide +kernel)
set_option maxRecDepth 20000 in
theorem gX12_loan_X12_fine : GoodIn wsX12_loan (wsV RX12 247 RX12 yX12_fine wsX12_fine) := goodIn_app (goodIn_of _ (by decide +kernel)) ggX12_loan_X12_fine
theorem dX12_loan_0 : decode cX12_loan 0 = .ok (.aload_n 0, 1) := by decide +kernel
theorem dX12_loan_1 : decode cX12_loan 1 = .ok (.iload_n 1, 1) := by decide +kernel
theorem dX12_loan_2 : decode cX12_loan 2 = .ok (.invokevirtual 330, 3) := by decide +kernel
theorem dX12_loan_5 : decode cX12_loan 5 = .ok (.ifCond .ne 9, 3) := by decide +kernel
theorem dX12_loan_8 : decode cX12_loan 8 = .ok (.aload_n 0, 1) := by decide +kernel
theorem dX12_loan_9 : decode cX12_loan 9 = .ok (.iconst 1, 1) := by decide +kernel
theorem dX12_loan_10 : decode cX12_loan 10 = .ok (.invokevirtual 334, 3) := by decide +kernel
theorem dX12_loan_13 : decode cX12_loan 13 = .ok (.ireturn, 1) := by decide +kernel
theorem dX12_loan_14 : decode cX12_loan 14 = .ok (.aload_n 0, 1) := by decide +kernel
theorem dX12_loan_15 : decode cX12_loan 15 = .ok (.invokevirtual 311, 3) := by decide +kernel
theorem dX12_loan_18 : decode cX12_loan 18 = .ok (.aload_n 0, 1) := by decide +kernel
theorem dX12_loan_19 : decode cX12_loan 19 = .ok (.invokevirtual 317, 3) := by decide +kernel
theorem dX12_loan_22 : decode cX12_loan 22 = .ok (.istore_n 2, 1) := by decide +kernel
theorem dX12_loan_23 : decode cX12_loan 23 = .ok (.aload_n 0, 1) := by decide +kernel
theorem dX12_loan_24 : decode cX12_loan 24 = .ok (.bipush 43, 2) := by decide +kernel
theorem dX12_loan_26 : decode cX12_loan 26 = .ok (.invokevirtual 327, 3) := by decide +kernel
theorem dX12_loan_29 : decode cX12_loan 29 = .ok (.aload_n 0, 1) := by decide +kernel
theorem dX12_loan_30 : decode cX12_loan 30 = .ok (.invokevirtual 317, 3) := by decide +kernel
theorem dX12_loan_33 : decode cX12_loan 33 = .ok (.istore_n 3, 1) := by decide +kernel
theorem dX12_loan_34 : decode cX12_loan 34 = .ok (.aload_n 0, 1) := by decide +kernel
theorem dX12_loan_35 : decode cX12_loan 35 = .ok (.bipush 58, 2) := by decide +kernel
theorem dX12_loan_37 : decode cX12_loan 37 = .ok (.invokevirtual 327, 3) := by decide +kernel
theorem dX12_loan_40 : decode cX12_loan 40 = .ok (.iconst 0, 1) := by decide +kernel
theorem dX12_loan_41 : decode cX12_loan 41 = .ok (.istore 4, 2) := by decide +kernel
theorem dX12_loan_43 : decode cX12_loan 43 = .ok (.aload_n 0, 1) := by decide +kernel
theorem dX12_loan_44 : decode cX12_loan 44 = .ok (.getfield 302, 3) := by decide +kernel
theorem dX12_loan_47 : decode cX12_loan 47 = .ok (.iload 4, 2) := by decide +kernel
theorem dX12_loan_49 : decode cX12_loan 49 = .ok (.aload_n 0, 1) := by decide +kernel
theorem dX12_loan_50 : decode cX12_loan 50 = .ok (.invokevirtual 317, 3) := by decide +kernel
theorem dX12_loan_53 : decode cX12_loan 53 = .ok (.iastore, 1) := by decide +kernel
theorem dX12_loan_54 : decode cX12_loan 54 = .ok (.iinc 4 1, 3) := by decide +kernel
theorem dX12_loan_57 : decode cX12_loan 57 = .ok (.aload_n 0, 1) := by decide +kernel
theorem dX12_loan_58 : decode cX12_loan 58 = .ok (.iconst 4, 1) := by decide +kernel
theorem dX12_loan_59 : decode cX12_loan 59 = .ok (.bipush 44, 2) := by decide +kernel
theorem dX12_loan_61 : decode cX12_loan 61 = .ok (.invokevirtual 294, 3) := by decide +kernel
theorem dX12_loan_64 : decode cX12_loan 64 = .ok (.ifCond .ne (-21), 3) := by decide +kernel
theorem dX12_loan_67 : decode cX12_loan 67 = .ok (.aload_n 0, 1) := by decide +kernel
theorem dX12_loan_68 : decode cX12_loan 68 = .ok (.invokevirtual 320, 3) := by decide +kernel
theorem dX12_loan_71 : decode cX12_loan 71 = .ok (.ifCond .ne 9, 3) := by decide +kernel
theorem dX12_loan_74 : decode cX12_loan 74 = .ok (.aload_n 0, 1) := by decide +kernel
theorem dX12_loan_75 : decode cX12_loan 75 = .ok (.iconst 2, 1) := by decide +kernel
theorem dX12_loan_76 : decode cX12_loan 76 = .ok (.invokevirtual 250, 3) := by decide +kernel
theorem dX12_loan_79 : decode cX12_loan 79 = .ok (.ireturn, 1) := by decide +kernel
theorem dX12_loan_80 : decode cX12_loan 80 = .ok (.iconst 2, 1) := by decide +kernel
theorem dX12_loan_81 : decode cX12_loan 81 = .ok (.aload_n 0, 1) := by decide +kernel
theorem dX12_loan_82 : decode cX12_loan 82 = .ok (.getfield 52, 3) := by decide +kernel
theorem dX12_loan_85 : decode cX12_loan 85 = .ok (.iload_n 1, 1) := by decide +kernel
theorem dX12_loan_86 : decode cX12_loan 86 = .ok (.iaload, 1) := by decide +kernel
theorem dX12_loan_87 : decode cX12_loan 87 = .ok (.imul, 1) := by decide +kernel
theorem dX12_loan_88 : decode cX12_loan 88 = .ok (.iload_n 3, 1) := by decide +kernel
theorem dX12_loan_89 : decode cX12_loan 89 = .ok (.iadd, 1) := by decide +kernel
theorem dX12_loan_90 : decode cX12_loan 90 = .ok (.istore 5, 2) := by decide +kernel
theorem dX12_loan_92 : decode cX12_loan 92 = .ok (.iload_n 3, 1) := by decide +kernel
theorem dX12_loan_93 : decode cX12_loan 93 = .ok (.iconst 1, 1) := by decide +kernel
theorem dX12_loan_94 : decode cX12_loan 94 = .ok (.sipush 300, 3) := by decide +kernel
theorem dX12_loan_97 : decode cX12_loan 97 = .ok (.invokestatic 10, 3) := by decide +kernel
theorem dX12_loan_100 : decode cX12_loan 100 = .ok (.ifCond .eq 17, 3) := by decide +kernel
theorem dX12_loan_103 : decode cX12_loan 103 = .ok (.iload_n 2, 1) := by decide +kernel
theorem dX12_loan_104 : decode cX12_loan 104 = .ok (.iload 5, 2) := by decide +kernel
theorem dX12_loan_106 : decode cX12_loan 106 = .ok (.iadd, 1) := by decide +kernel
theorem dX12_loan_107 : decode cX12_loan 107 = .ok (.sipush 1000, 3) := by decide +kernel
theorem dX12_loan_110 : decode cX12_loan 110 = .ok (.if_icmp .gt 7, 3) := by decide +kernel
theorem dX12_loan_113 : decode cX12_loan 113 = .ok (.iconst 1, 1) := by decide +kernel
theorem dX12_loan_114 : decode cX12_loan 114 = .ok (.goto 4, 3) := by decide +kernel
theorem dX12_loan_117 : decode cX12_loan 117 = .ok (.iconst 0, 1) := by decide +kernel
theorem dX12_loan_118 : decode cX12_loan 118 = .ok (.istore 6, 2) := by decide +kernel
theorem dX12_loan_120 : decode cX12_loan 120 = .ok (.iconst 0, 1) := by decide +kernel
theorem dX12_loan_121 : decode cX12_loan 121 = .ok (.istore 7, 2) := by decide +kernel
theorem dX12_loan_123 : decode cX12_loan 123 = .ok (.iload 7, 2) := by decide +kernel
theorem dX12_loan_125 : decode cX12_loan 125 = .ok (.iload 4, 2) := by decide +kernel
theorem dX12_loan_127 : decode cX12_loan 127 = .ok (.if_icmp .ge 59, 3) := by decide +kernel
theorem dX12_loan_130 : decode cX12_loan 130 = .ok (.iload 6, 2) := by decide +kernel
theorem dX12_loan_132 : decode cX12_loan 132 = .ok (.ifCond .eq 45, 3) := by decide +kernel
theorem dX12_loan_135 : decode cX12_loan 135 = .ok (.aload_n 0, 1) := by decide +kernel
theorem dX12_loan_136 : decode cX12_loan 136 = .ok (.aload_n 0, 1) := by decide +kernel
theorem dX12_loan_137 : decode cX12_loan 137 = .ok (.getfield 302, 3) := by decide +kernel
theorem dX12_loan_140 : decode cX12_loan 140 = .ok (.iload 7, 2) := by decide +kernel
theorem dX12_loan_142 : decode cX12_loan 142 = .ok (.iaload, 1) := by decide +kernel
theorem dX12_loan_143 : decode cX12_loan 143 = .ok (.invokevirtual 337, 3) := by decide +kernel
theorem dX12_loan_146 : decode cX12_loan 146 = .ok (.ifCond .eq 31, 3) := by decide +kernel
theorem dX12_loan_149 : decode cX12_loan 149 = .ok (.iload 7, 2) := by decide +kernel
theorem dX12_loan_151 : decode cX12_loan 151 = .ok (.ifCond .eq 22, 3) := by decide +kernel
theorem dX12_loan_154 : decode cX12_loan 154 = .ok (.aload_n 0, 1) := by decide +kernel
theorem dX12_loan_155 : decode cX12_loan 155 = .ok (.getfield 302, 3) := by decide +kernel
theorem dX12_loan_158 : decode cX12_loan 158 = .ok (.iload 7, 2) := by decide +kernel
theorem dX12_loan_160 : decode cX12_loan 160 = .ok (.iaload, 1) := by decide +kernel
theorem dX12_loan_161 : decode cX12_loan 161 = .ok (.aload_n 0, 1) := by decide +kernel
theorem dX12_loan_162 : decode cX12_loan 162 = .ok (.getfield 302, 3) := by decide +kernel
theorem dX12_loan_165 : decode cX12_loan 165 = .ok (.iload 7, 2) := by decide +kernel
theorem dX12_loan_167 : decode cX12_loan 167 = .ok (.iconst 1, 1) := by decide +kernel
theorem dX12_loan_168 : decode cX12_loan 168 = .ok (.isub, 1) := by decide +kernel
theorem dX12_loan_169 : decode cX12_loan 169 = .ok (.iaload, 1) := by decide +kernel
theorem dX12_loan_170 : decode cX12_loan 170 = .ok (.if_icmp .le 7, 3) := by decide +kernel
theorem dX12_loan_173 : decode cX12_loan 173 = .ok (.iconst 1, 1) := by decide +kernel
theorem dX12_loan_174 : decode cX12_loan 174 = .ok (.goto 4, 3) := by decide +kernel
theorem dX12_loan_177 : decode cX12_loan 177 = .ok (.iconst 0, 1) := by decide +kernel
theorem dX12_loan_178 : decode cX12_loan 178 = .ok (.istore 6, 2) := by decide +kernel
theorem dX12_loan_180 : decode cX12_loan 180 = .ok (.iinc 7 1, 3) := by decide +kernel
theorem dX12_loan_183 : decode cX12_loan 183 = .ok (.goto (-60), 3) := by decide +kernel
theorem dX12_loan_186 : decode cX12_loan 186 = .ok (.iload 6, 2) := by decide +kernel
theorem dX12_loan_188 : decode cX12_loan 188 = .ok (.ifCond .ne 9, 3) := by decide +kernel
theorem dX12_loan_191 : decode cX12_loan 191 = .ok (.aload_n 0, 1) := by decide +kernel
theorem dX12_loan_192 : decode cX12_loan 192 = .ok (.iconst 5, 1) := by decide +kernel
theorem dX12_loan_193 : decode cX12_loan 193 = .ok (.invokevirtual 324, 3) := by decide +kernel
theorem dX12_loan_196 : decode cX12_loan 196 = .ok (.ireturn, 1) := by decide +kernel
theorem dX12_loan_197 : decode cX12_loan 197 = .ok (.iconst 0, 1) := by decide +kernel
theorem dX12_loan_198 : decode cX12_loan 198 = .ok (.istore 7, 2) := by decide +kernel
theorem dX12_loan_200 : decode cX12_loan 200 = .ok (.iconst 0, 1) := by decide +kernel
theorem dX12_loan_201 : decode cX12_loan 201 = .ok (.istore 8, 2) := by decide +kernel
theorem dX12_loan_203 : decode cX12_loan 203 = .ok (.iload 8, 2) := by decide +kernel
theorem dX12_loan_205 : decode cX12_loan 205 = .ok (.iload 4, 2) := by decide +kernel
theorem dX12_loan_207 : decode cX12_loan 207 = .ok (.if_icmp .ge 69, 3) := by decide +kernel
theorem dX12_loan_210 : decode cX12_loan 210 = .ok (.iload 7, 2) := by decide +kernel
theorem dX12_loan_212 : decode cX12_loan 212 = .ok (.iconst 1, 1) := by decide +kernel
theorem dX12_loan_213 : decode cX12_loan 213 = .ok (.aload_n 0, 1) := by decide +kernel
theorem dX12_loan_214 : decode cX12_loan 214 = .ok (.getfield 302, 3) := by decide +kernel
theorem dX12_loan_217 : decode cX12_loan 217 = .ok (.iload 8, 2) := by decide +kernel
theorem dX12_loan_219 : decode cX12_loan 219 = .ok (.iaload, 1) := by decide +kernel
theorem dX12_loan_220 : decode cX12_loan 220 = .ok (.ishl, 1) := by decide +kernel
theorem dX12_loan_221 : decode cX12_loan 221 = .ok (.ior, 1) := by decide +kernel
theorem dX12_loan_222 : decode cX12_loan 222 = .ok (.istore 7, 2) := by decide +kernel
theorem dX12_loan_224 : decode cX12_loan 224 = .ok (.iload_n 2, 1) := by decide +kernel
theorem dX12_loan_225 : decode cX12_loan 225 = .ok (.istore 9, 2) := by decide +kernel
theorem dX12_loan_227 : decode cX12_loan 227 = .ok (.iload 9, 2) := by decide +kernel
theorem dX12_loan_229 : decode cX12_loan 229 = .ok (.iload_n 2, 1) := by decide +kernel
theorem dX12_loan_230 : decode cX12_loan 230 = .ok (.iload 5, 2) := by decide +kernel
theorem dX12_loan_232 : decode cX12_loan 232 = .ok (.iadd, 1) := by decide +kernel
theorem dX12_loan_233 : decode cX12_loan 233 = .ok (.if_icmp .ge 37, 3) := by decide +kernel
theorem dX12_loan_236 : decode cX12_loan 236 = .ok (.iload 6, 2) := by decide +kernel
theorem dX12_loan_238 : decode cX12_loan 238 = .ok (.ifCond .eq 23, 3) := by decide +kernel
theorem dX12_loan_241 : decode cX12_loan 241 = .ok (.aload_n 0, 1) := by decide +kernel
theorem dX12_loan_242 : decode cX12_loan 242 = .ok (.aload_n 0, 1) := by decide +kernel
theorem dX12_loan_243 : decode cX12_loan 243 = .ok (.getfield 302, 3) := by decide +kernel
theorem dX12_loan_246 : decode cX12_loan 246 = .ok (.iload 8, 2) := by decide +kernel
theorem dX12_loan_248 : decode cX12_loan 248 = .ok (.iaload, 1) := by decide +kernel
theorem dX12_loan_249 : decode cX12_loan 249 = .ok (.iload 9, 2) := by decide +kernel
theorem dX12_loan_251 : decode cX12_loan 251 = .ok (.invokevirtual 340, 3) := by decide +kernel
theorem dX12_loan_254 : decode cX12_loan 254 = .ok (.ifCond .ge 7, 3) := by decide +kernel
theorem dX12_loan_257 : decode cX12_loan 257 = .ok (.iconst 1, 1) := by decide +kernel
theorem dX12_loan_258 : decode cX12_loan 258 = .ok (.goto 4, 3) := by decide +kernel
theorem dX12_loan_261 : decode cX12_loan 261 = .ok (.iconst 0, 1) := by decide +kernel
theorem dX12_loan_262 : decode cX12_loan 262 = .ok (.istore 6, 2) := by decide +kernel
theorem dX12_loan_264 : decode cX12_loan 264 = .ok (.iinc 9 1, 3) := by decide +kernel
theorem dX12_loan_267 : decode cX12_loan 267 = .ok (.goto (-40), 3) := by decide +kernel
theorem dX12_loan_270 : decode cX12_loan 270 = .ok (.iinc 8 1, 3) := by decide +kernel
theorem dX12_loan_273 : decode cX12_loan 273 = .ok (.goto (-70), 3) := by decide +kernel
theorem dX12_loan_276 : decode cX12_loan 276 = .ok (.iload 6, 2) := by decide +kernel
theorem dX12_loan_278 : decode cX12_loan 278 = .ok (.ifCond .ne 10, 3) := by decide +kernel
theorem dX12_loan_281 : decode cX12_loan 281 = .ok (.aload_n 0, 1) := by decide +kernel
theorem dX12_loan_282 : decode cX12_loan 282 = .ok (.bipush 6, 2) := by decide +kernel
theorem dX12_loan_284 : decode cX12_loan 284 = .ok (.invokevirtual 324, 3) := by decide +kernel
theorem dX12_loan_287 : decode cX12_loan 287 = .ok (.ireturn, 1) := by decide +kernel
theorem dX12_loan_288 : decode cX12_loan 288 = .ok (.iconst 0, 1) := by decide +kernel
theorem dX12_loan_289 : decode cX12_loan 289 = .ok (.istore 8, 2) := by decide +kernel
theorem dX12_loan_291 : decode cX12_loan 291 = .ok (.iload 8, 2) := by decide +kernel
theorem dX12_loan_293 : decode cX12_loan 293 = .ok (.iload 4, 2) := by decide +kernel
theorem dX12_loan_295 : decode cX12_loan 295 = .ok (.if_icmp .ge 42, 3) := by decide +kernel
theorem dX12_loan_298 : decode cX12_loan 298 = .ok (.iload 6, 2) := by decide +kernel
theorem dX12_loan_300 : decode cX12_loan 300 = .ok (.ifCond .eq 28, 3) := by decide +kernel
theorem dX12_loan_303 : decode cX12_loan 303 = .ok (.aload_n 0, 1) := by decide +kernel
theorem dX12_loan_304 : decode cX12_loan 304 = .ok (.getfield 107, 3) := by decide +kernel
theorem dX12_loan_307 : decode cX12_loan 307 = .ok (.aload_n 0, 1) := by decide +kernel
theorem dX12_loan_308 : decode cX12_loan 308 = .ok (.getfield 302, 3) := by decide +kernel
theorem dX12_loan_311 : decode cX12_loan 311 = .ok (.iload 8, 2) := by decide +kernel
theorem dX12_loan_313 : decode cX12_loan 313 = .ok (.iaload, 1) := by decide +kernel
theorem dX12_loan_314 : decode cX12_loan 314 = .ok (.iaload, 1) := by decide +kernel
theorem dX12_loan_315 : decode cX12_loan 315 = .ok (.aload_n 0, 1) := by decide +kernel
theorem dX12_loan_316 : decode cX12_loan 316 = .ok (.getfield 113, 3) := by decide +kernel
theorem dX12_loan_319 : decode cX12_loan 319 = .ok (.iload_n 1, 1) := by decide +kernel
theorem dX12_loan_320 : decode cX12_loan 320 = .ok (.iaload, 1) := by decide +kernel
theorem dX12_loan_321 : decode cX12_loan 321 = .ok (.if_icmp .gt 7, 3) := by decide +kernel
theorem dX12_loan_324 : decode cX12_loan 324 = .ok (.iconst 1, 1) := by decide +kernel
theorem dX12_loan_325 : decode cX12_loan 325 = .ok (.goto 4, 3) := by decide +kernel
theorem dX12_loan_328 : decode cX12_loan 328 = .ok (.iconst 0, 1) := by decide +kernel
theorem dX12_loan_329 : decode cX12_loan 329 = .ok (.istore 6, 2) := by decide +kernel
theorem dX12_loan_331 : decode cX12_loan 331 = .ok (.iinc 8 1, 3) := by decide +kernel
theorem dX12_loan_334 : decode cX12_loan 334 = .ok (.goto (-43), 3) := by decide +kernel
theorem dX12_loan_337 : decode cX12_loan 337 = .ok (.iload 6, 2) := by decide +kernel
theorem dX12_loan_339 : decode cX12_loan 339 = .ok (.ifCond .ne 10, 3) := by decide +kernel
theorem dX12_loan_342 : decode cX12_loan 342 = .ok (.aload_n 0, 1) := by decide +kernel
theorem dX12_loan_343 : decode cX12_loan 343 = .ok (.bipush 7, 2) := by decide +kernel
theorem dX12_loan_345 : decode cX12_loan 345 = .ok (.invokevirtual 324, 3) := by decide +kernel
theorem dX12_loan_348 : decode cX12_loan 348 = .ok (.ireturn, 1) := by decide +kernel
theorem dX12_loan_349 : decode cX12_loan 349 = .ok (.aload_n 0, 1) := by decide +kernel
theorem dX12_loan_350 : decode cX12_loan 350 = .ok (.aload_n 0, 1) := by decide +kernel
theorem dX12_loan_351 : decode cX12_loan 351 = .ok (.getfield 20, 3) := by decide +kernel
theorem dX12_loan_354 : decode cX12_loan 354 = .ok (.iload_n 1, 1) := by decide +kernel
theorem dX12_loan_355 : decode cX12_loan 355 = .ok (.iload_n 2, 1) := by decide +kernel
theorem dX12_loan_356 : decode cX12_loan 356 = .ok (.iload_n 3, 1) := by decide +kernel
theorem dX12_loan_357 : decode cX12_loan 357 = .ok (.iload 7, 2) := by decide +kernel
theorem dX12_loan_359 : decode cX12_loan 359 = .ok (.invokevirtual 343, 3) := by decide +kernel
theorem dX12_loan_362 : decode cX12_loan 362 = .ok (.aload_n 0, 1) := by decide +kernel
theorem dX12_loan_363 : decode cX12_loan 363 = .ok (.aload_n 0, 1) := by decide +kernel
theorem dX12_loan_364 : decode cX12_loan 364 = .ok (.getfield 20, 3) := by decide +kernel
theorem dX12_loan_367 : decode cX12_loan 367 = .ok (.iconst 1, 1) := by decide +kernel
theorem dX12_loan_368 : decode cX12_loan 368 = .ok (.invokevirtual 347, 3) := by decide +kernel
theorem dX12_loan_371 : decode cX12_loan 371 = .ok (.ifCond .eq 19, 3) := by decide +kernel
theorem dX12_loan_374 : decode cX12_loan 374 = .ok (.aload_n 0, 1) := by decide +kernel
theorem dX12_loan_375 : decode cX12_loan 375 = .ok (.aload_n 0, 1) := by decide +kernel
theorem dX12_loan_376 : decode cX12_loan 376 = .ok (.getfield 20, 3) := by decide +kernel
theorem dX12_loan_379 : decode cX12_loan 379 = .ok (.iconst 0, 1) := by decide +kernel
theorem dX12_loan_380 : decode cX12_loan 380 = .ok (.invokevirtual 347, 3) := by decide +kernel
theorem dX12_loan_383 : decode cX12_loan 383 = .ok (.ifCond .eq 7, 3) := by decide +kernel
theorem dX12_loan_386 : decode cX12_loan 386 = .ok (.iconst 1, 1) := by decide +kernel
theorem dX12_loan_387 : decode cX12_loan 387 = .ok (.goto 4, 3) := by decide +kernel
theorem dX12_loan_390 : decode cX12_loan 390 = .ok (.iconst 0, 1) := by decide +kernel
theorem dX12_loan_391 : decode cX12_loan 391 = .ok (.istore 8, 2) := by decide +kernel
theorem dX12_loan_393 : decode cX12_loan 393 = .ok (.iload 8, 2) := by decide +kernel
theorem dX12_loan_395 : decode cX12_loan 395 = .ok (.ifCond .eq 12, 3) := by decide +kernel
theorem dX12_loan_398 : decode cX12_loan 398 = .ok (.aload_n 0, 1) := by decide +kernel
theorem dX12_loan_399 : decode cX12_loan 399 = .ok (.getfield 20, 3) := by decide +kernel
theorem dX12_loan_402 : decode cX12_loan 402 = .ok (.bipush 16, 2) := by decide +kernel
theorem dX12_loan_404 : decode cX12_loan 404 = .ok (.if_icmp .ne 13, 3) := by decide +kernel
theorem dX12_loan_407 : decode cX12_loan 407 = .ok (.aload_n 0, 1) := by decide +kernel
theorem dX12_loan_408 : decode cX12_loan 408 = .ok (.getfield 23, 3) := by decide +kernel
theorem dX12_loan_411 : decode cX12_loan 411 = .ok (.aload_n 0, 1) := by decide +kernel
theorem dX12_loan_412 : decode cX12_loan 412 = .ok (.getfield 20, 3) := by decide +kernel
theorem dX12_loan_415 : decode cX12_loan 415 = .ok (.iconst 0, 1) := by decide +kernel
theorem dX12_loan_416 : decode cX12_loan 416 = .ok (.bastore, 1) := by decide +kernel
theorem dX12_loan_417 : decode cX12_loan 417 = .ok (.iload 8, 2) := by decide +kernel
theorem dX12_loan_419 : decode cX12_loan 419 = .ok (.ifCond .ne 10, 3) := by decide +kernel
theorem dX12_loan_422 : decode cX12_loan 422 = .ok (.aload_n 0, 1) := by decide +kernel
theorem dX12_loan_423 : decode cX12_loan 423 = .ok (.bipush 8, 2) := by decide +kernel
theorem dX12_loan_425 : decode cX12_loan 425 = .ok (.invokevirtual 324, 3) := by decide +kernel
theorem dX12_loan_428 : decode cX12_loan 428 = .ok (.ireturn, 1) := by decide +kernel
theorem dX12_loan_429 : decode cX12_loan 429 = .ok (.aload_n 0, 1) := by decide +kernel
theorem dX12_loan_430 : decode cX12_loan 430 = .ok (.getfield 20, 3) := by decide +kernel
theorem dX12_loan_433 : decode cX12_loan 433 = .ok (.bipush 16, 2) := by decide +kernel
theorem dX12_loan_435 : decode cX12_loan 435 = .ok (.if_icmp .ne 10, 3) := by decide +kernel
theorem dX12_loan_438 : decode cX12_loan 438 = .ok (.aload_n 0, 1) := by decide +kernel
theorem dX12_loan_439 : decode cX12_loan 439 = .ok (.bipush 9, 2) := by decide +kernel
theorem dX12_loan_441 : decode cX12_loan 441 = .ok (.invokevirtual 250, 3) := by decide +kernel
theorem dX12_loan_444 : decode cX12_loan 444 = .ok (.ireturn, 1) := by decide +kernel
theorem dX12_loan_445 : decode cX12_loan 445 = .ok (.aload_n 0, 1) := by decide +kernel
theorem dX12_loan_446 : decode cX12_loan 446 = .ok (.dup, 1) := by decide +kernel
theorem dX12_loan_447 : decode cX12_loan 447 = .ok (.getfield 20, 3) := by decide +kernel
theorem dX12_loan_450 : decode cX12_loan 450 = .ok (.iconst 1, 1) := by decide +kernel
theorem dX12_loan_451 : decode cX12_loan 451 = .ok (.iadd, 1) := by decide +kernel
theorem dX12_loan_452 : decode cX12_loan 452 = .ok (.putfield 20, 3) := by decide +kernel
theorem dX12_loan_455 : decode cX12_loan 455 = .ok (.aload_n 0, 1) := by decide +kernel
theorem dX12_loan_456 : decode cX12_loan 456 = .ok (.aload_n 0, 1) := by decide +kernel
theorem dX12_loan_457 : decode cX12_loan 457 = .ok (.getfield 20, 3) := by decide +kernel
theorem dX12_loan_460 : decode cX12_loan 460 = .ok (.iconst 1, 1) := by decide +kernel
theorem dX12_loan_461 : decode cX12_loan 461 = .ok (.isub, 1) := by decide +kernel
theorem dX12_loan_462 : decode cX12_loan 462 = .ok (.invokevirtual 247, 3) := by decide +kernel
theorem dX12_loan_465 : decode cX12_loan 465 = .ok (.ireturn, 1) := by decide +kernel
set_option maxRecDepth 20000 in
theorem ggX12_set_X12_pack : GoodIn wsX12_set wsX12_pack := goodIn_r _ [10, 11, 12, 5, 13, 14, 15, 16, 17, 18, 19, 9, 20, 21, 2, 22, 23, 24, 25, 26, 27, 28, 29, 30, 31, 32, 33, 34, 35, 36, 37, 38, 39, 40, 41, 42, 43, 44, 45, 46, 47, 48, 49, 50, 51, 52, 53, 54, 55, 56, 57, 58, 59, 60, 61, 62, 63, 64, 65, 66, 67, 68, 69, 70, 71, 72, 73, 74, 75, 76, 77, 78, 79, 80, 81, 82, 83, 84, 85, 86] (by decide +kernel) (by decide +kernel)
set_option maxRecDepth 20000 in
theorem gX12_set_X12_pack : GoodIn wsX12_set (wsV RX12 351 RX12 yX12_pack wsX12_pack) := goodIn_app (goodIn_of _ (by decide +kernel)) ggX12_set_X12_pack
theorem dX12_set_0 : decode cX12_set 0 = .ok (.aload_n 0, 1) := by decide +kernel
theorem dX12_set_1 : decode cX12_set 1 = .ok (.getfield 23, 3) := by decide +kernel
theorem dX12_set_4 : decode cX12_set 4 = .ok (.iload_n 1, 1) := by decide +kernel
theorem dX12_set_5 : decode cX12_set 5 = .ok (.iconst 1, 1) := by decide +kernel
theorem dX12_set_6 : decode cX12_set 6 = .ok (.bastore, 1) := by decide +kernel
theorem dX12_set_7 : decode cX12_set 7 = .ok (.aload_n 0, 1) := by decide +kernel
theorem dX12_set_8 : decode cX12_set 8 = .ok (.getfield 55, 3) := by decide +kernel
theorem dX12_set_11 : decode cX12_set 11 = .ok (.iload_n 1, 1) := by decide +kernel
theorem dX12_set_12 : decode cX12_set 12 = .ok (.iload_n 2, 1) := by decide +kernel
theorem dX12_set_13 : decode cX12_set 13 = .ok (.iastore, 1) := by decide +kernel
theorem dX12_set_14 : decode cX12_set 14 = .ok (.aload_n 0, 1) := by decide +kernel
theorem dX12_set_15 : decode cX12_set 15 = .ok (.getfield 61, 3) := by decide +kernel
theorem dX12_set_18 : decode cX12_set 18 = .ok (.iload_n 1, 1) := by decide +kernel
theorem dX12_set_19 : decode cX12_set 19 = .ok (.iload_n 3, 1) := by decide +kernel
theorem dX12_set_20 : decode cX12_set 20 = .ok (.iastore, 1) := by decide +kernel
theorem dX12_set_21 : decode cX12_set 21 = .ok (.aload_n 0, 1) := by decide +kernel
theorem dX12_set_22 : decode cX12_set 22 = .ok (.getfield 58, 3) := by decide +kernel
theorem dX12_set_25 : decode cX12_set 25 = .ok (.iload_n 1, 1) := by decide +kernel
theorem dX12_set_26 : decode cX12_set 26 = .ok (.iload 4, 2) := by decide +kernel
theorem dX12_set_28 : decode cX12_set 28 = .ok (.iastore, 1) := by decide +kernel
theorem dX12_set_29 : decode cX12_set 29 = .ok (.aload_n 0, 1) := by decide +kernel
theorem dX12_set_30 : decode cX12_set 30 = .ok (.getfield 27, 3) := by decide +kernel
theorem dX12_set_33 : decode cX12_set 33 = .ok (.iload_n 1, 1) := by decide +kernel
theorem dX12_set_34 : decode cX12_set 34 = .ok (.iload 5, 2) := by decide +kernel
theorem dX12_set_36 : decode cX12_set 36 = .ok (.iastore, 1) := by decide +kernel
theorem dX12_set_37 : decode cX12_set 37 = .ok (.aload_n 0, 1) := by decide +kernel
theorem dX12_set_38 : decode cX12_set 38 = .ok (.iload_n 1, 1) := by decide +kernel
theorem dX12_set_39 : decode cX12_set 39 = .ok (.invokevirtual 351, 3) := by decide +kernel
theorem dX12_set_42 : decode cX12_set 42 = .ok (.return_, 1) := by decide +kernel
set_option maxRecDepth 20000 in
theorem ggX12_report_X12_isThing : GoodIn wsX12_report wsX12_isThing := goodIn_r _ [15, 16, 17, 18, 14, 19, 144, 145, 146, 147, 148, 149, 150, 151, 152, 153, 154, 155, 156, 157, 158, 159, 160, 161, 162, 163, 164, 165, 166, 167, 168, 169, 170, 171, 172, 173, 174, 175, 176, 177, 178, 179, 180, 181, 182, 183, 184, 185, 186, 187, 188, 189, 190, 191, 192, 193, 194] (by decide +kernel) (by decide +kernel)
set_option maxRecDepth 20000 in
theorem gX12_report_X12_isThing : GoodIn wsX12_report (wsV RX12 337 RX12 yX12_isThing wsX12_isThing) := goodIn_app (goodIn_of _ (by decide +kernel)) ggX12_report_X12_isThing
set_option maxRecDepth 20000 in
theorem ggX12_report_X12_unread : GoodIn wsX12_report wsX12_unread := goodIn_r _ [23, 24, 25, 26, 27, 14, 28, 29, 144, 145, 146, 147, 148, 149, 150, 151, 152, 153, 154, 155, 156, 157, 158, 159, 160, 161, 162, 163, 164, 165, 166, 167, 168, 169, 170, 171, 172, 173, 174, 175, 176, 177, 178, 179, 180, 181, 182, 183, 184, 185, 186, 187, 188, 189, 190, 191, 192, 193, 194] (by decide +kernel) (by decide +kernel)
set_option maxRecDepth 20000 in
theorem gX12_report_X12_unread : GoodIn wsX12_report (wsV RX12 334 RX12 yX12_unread wsX12_unread) := goodIn_app (goodIn_of _ (by decide +kernel)) ggX12_report_X12_unread
set_option maxRecDepth 20000 in
theorem ggX12_report_X12_isDay : GoodIn wsX12_report wsX12_isDay := goodIn_r _ [32, 17, 18, 14, 19] (by decide +kernel) (by decide +kernel)
set_option maxRecDepth 20000 in
theorem gX12_report_X12_isDay : GoodIn wsX12_report (va_wsS RX12 354 yX12_isDay wsX12_isDay) := goodIn_app (goodIn_of _ (by decide +kernel)) ggX12_report_X12_isDay
set_option maxRecDepth 20000 in
theorem ggX12_report_X12_begins : GoodIn wsX12_report wsX12_begins := goodIn_r _ [36, 37, 38, 39, 40, 41, 42, 14, 43, 24, 44, 45, 46, 47, 17, 18, 19, 48, 49, 50, 51, 52, 53, 54, 55, 56, 57, 58, 59, 60, 61, 62, 63, 64, 65, 66, 67, 68, 69, 70, 71, 72, 73, 74, 75, 76, 77, 78, 79, 80, 81, 82, 83, 84, 85, 86, 87, 88, 89, 90, 91, 92, 93, 94, 95, 96, 97, 98, 99, 100, 101, 102, 103, 104, 105, 106, 107, 108, 109, 110, 144, 145, 146, 147, 148, 149, 150, 151, 152, 153, 154, 155, 156, 157, 158, 159, 160, 161, 162, 163, 164, 165, 166, 167, 168, 169, 170, 171, 172, 173, 174, 175, 176, 177, 178, 179, 180, 181, 182, 183, 184, 185, 186, 187, 188, 189, 190, 191, 192, 193, 194, 195, 196, 197, 198] (by decide +kernel) (by decide +kernel)
set_option maxRecDepth 20000 in
theorem gX12_report_X12_begins : GoodIn wsX12_report (wsV RX12 311 RX12 yX12_begins wsX12_begins) := goodIn_app (goodIn_of _ (by decide +kernel)) ggX12_report_X12_begins
set_option maxRecDepth 20000 in
theorem ggX12_report_X12_goes : GoodIn wsX12_report wsX12_goes := goodIn_r _ [114, 38, 46, 47, 40, 41, 42, 14, 43, 37, 24, 44, 45, 17, 18, 19, 48, 49, 50, 51, 52, 53, 54, 55, 56, 57, 58, 59, 60, 61, 62, 63, 64, 65, 66, 67, 68, 69, 70, 71, 72, 73, 74, 75, 76, 77, 78, 79, 80, 81, 82, 83, 84, 85, 86, 87, 88, 89, 90, 91, 92, 93, 94, 95, 96, 97, 98, 99, 100, 101, 102, 103, 104, 105, 106, 107, 108, 109, 110, 144, 145, 146, 147, 148, 149, 150, 151, 152, 153, 154, 155, 156, 157, 158, 159, 160, 161, 162, 163, 164, 165, 166, 167, 168, 169, 170, 171, 172, 173, 174, 175, 176, 177, 178, 179, 180, 181, 182, 183, 184, 185, 186, 187, 188, 189, 190, 191, 192, 193, 194, 195, 196, 197, 198] (by decide +kernel) (by decide +kernel)
set_option maxRecDepth 20000 in
theorem gX12_report_X12_goes : GoodIn wsX12_report (wsV RX12 294 RX12 yX12_goes wsX12_goes) := goodIn_app (goodIn_of _ (by decide +kernel)) ggX12_report_X12_goes
set_option maxRecDepth 20000 in
theorem ggX12_report_X12_word : GoodIn wsX12_report wsX12_word := goodIn_r _ [118, 38, 46, 47, 17, 18, 14, 19, 40, 41, 42, 43, 37, 24, 44, 45, 48, 49, 50, 51, 52, 53, 54, 55, 56, 57, 58, 59, 60, 61, 62, 63, 64, 65, 66, 67, 68, 69, 70, 71, 72, 73, 74, 75, 76, 77, 78, 79, 80, 81, 82, 83, 84, 85, 86, 87, 88, 89, 90, 91, 92, 93, 94, 95, 96, 97, 98, 99, 100, 101, 102, 103, 104, 105, 106, 107, 108, 109, 110, 144, 145, 146, 147, 148, 149, 150, 151, 152, 153, 154, 155, 156, 157, 158, 159, 160, 161, 162, 163, 164, 165, 166, 167, 168, 169, 170, 171, 172, 173, 174, 175, 176, 177, 178, 179, 180, 181, 182, 183, 184, 185, 186, 187, 188, 189, 190, 191, 192, 193, 194, 195, 196, 197, 198] (by decide +kernel) (by decide +kernel)
set_option maxRecDepth 20000 in
theorem gX12_report_X12_word : GoodIn wsX12_report (wsV RX12 314 RX12 yX12_word wsX12_word) := goodIn_app (goodIn_of _ (by decide +kernel)) ggX12_report_X12_word
set_option maxRecDepth 20000 in
theorem ggX12_report_X12_number : GoodIn wsX12_report wsX12_number := goodIn_r _ [122, 38, 46, 47, 40, 41, 42, 14, 43, 37, 24, 44, 45, 17, 18, 19, 48, 49, 50, 51, 52, 53, 54, 55, 56, 57, 58, 59, 60, 61, 62, 63, 64, 65, 66, 67, 68, 69, 70, 71, 72, 73, 74, 75, 76, 77, 78, 79, 80, 81, 82, 83, 84, 85, 86, 87, 88, 89, 90, 91, 92, 93, 94, 95, 96, 97, 98, 99, 100, 101, 102, 103, 104, 105, 106, 107, 108, 109, 110, 144, 145, 146, 147, 148, 149, 150, 151, 152, 153, 154, 155, 156, 157, 158, 159, 160, 161, 162, 163, 164, 165, 166, 167, 168, 169, 170, 171, 172, 173, 174, 175, 176, 177, 178, 179, 180, 181, 182, 183, 184, 185, 186, 187, 188, 189, 190, 191, 192, 193, 194, 195, 196, 197, 198] (by decide +kernel) (by decide +kernel)
set_option maxRecDepth 20000 in
theorem gX12_report_X12_number : GoodIn wsX12_report (wsV RX12 317 RX12 yX12_number wsX12_number) := goodIn_app (goodIn_of _ (by decide +kernel)) ggX12_report_X12_number
set_option maxRecDepth 20000 in
theorem ggX12_report_X12_ends : GoodIn wsX12_report wsX12_ends := goodIn_r _ [126, 38, 46, 45, 127, 24, 144, 145, 146, 147, 148, 149, 150, 151, 152, 153, 154, 155, 156, 157, 158, 159, 160, 161, 162, 163, 164, 165, 166, 167, 168, 169, 170, 171, 172, 173, 174, 175, 176, 177, 178, 179, 180, 181, 182, 183, 184, 185, 186, 187, 188, 189, 190, 191, 192, 193, 194] (by decide +kernel) (by decide +kernel)
set_option maxRecDepth 20000 in
theorem gX12_report_X12_ends : GoodIn wsX12_report (wsV RX12 320 RX12 yX12_ends wsX12_ends) := goodIn_app (goodIn_of _ (by decide +kernel)) ggX12_report_X12_ends
set_option maxRecDepth 20000 in
theorem ggX12_report_X12_no : GoodIn wsX12_report wsX12_no := goodIn_r _ [28, 29, 144, 145, 146, 147, 148, 149, 150, 151, 152, 153, 154, 155, 156, 157, 158, 159, 160, 161, 162, 163, 164, 165, 166, 167, 168, 169, 170, 171, 172, 173, 174, 175, 176, 177, 178, 179, 180, 181, 182, 183, 184, 185, 186, 187, 188, 189, 190, 191, 192, 193, 194] (by decide +kernel) (by decide +kernel)
set_option maxRecDepth 20000 in
theorem gX12_report_X12_no : GoodIn wsX12_report (wsV RX12 250 RX12 yX12_no wsX12_no) := goodIn_app (goodIn_of _ (by decide +kernel)) ggX12_report_X12_no
set_option maxRecDepth 20000 in
theorem ggX12_report_X12_isIn : GoodIn wsX12_report wsX12_isIn := goodIn_r _ [19] (by decide +kernel) (by decide +kernel)
set_option maxRecDepth 20000 in
theorem gX12_report_X12_isIn : GoodIn wsX12_report (va_wsS RX12 10 yX12_isIn wsX12_isIn) := goodIn_app (goodIn_of _ (by decide +kernel)) ggX12_report_X12_isIn
set_option maxRecDepth 20000 in
theorem ggX12_report_X12_faulty : GoodIn wsX12_report wsX12_faulty := goodIn_r _ [131, 39, 25, 26, 27, 14, 28, 29, 144, 145, 146, 147, 148, 149, 150, 151, 152, 153, 154, 155, 156, 157, 158, 159, 160, 161, 162, 163, 164, 165, 166, 167, 168, 169, 170, 171, 172, 173, 174, 175, 176, 177, 178, 179, 180, 181, 182, 183, 184, 185, 186, 187, 188, 189, 190, 191, 192, 193, 194] (by decide +kernel) (by decide +kernel)
set_option maxRecDepth 20000 in
theorem gX12_report_X12_faulty : GoodIn wsX12_report (wsV RX12 324 RX12 yX12_faulty wsX12_faulty) := goodIn_app (goodIn_of _ (by decide +kernel)) ggX12_report_X12_faulty
set_option maxRecDepth 20000 in
theorem ggX12_report_X12_reportOn : GoodIn wsX12_report wsX12_reportOn := goodIn_r _ [135, 6, 136, 137, 138, 14, 139, 4, 5, 144, 145, 146, 147, 148, 149, 150, 151, 152, 153, 154, 155, 156, 157, 158, 159, 160, 161, 162, 163, 164, 165, 166, 167, 168, 169, 170, 171, 172, 173, 174, 175, 176, 177, 178, 179, 180, 181, 182, 183, 184, 185, 186, 187, 188, 189, 190, 191, 192, 193, 194] (by decide +kernel) (by decide +kernel)
set_option maxRecDepth 20000 in
theorem gX12_report_X12_reportOn : GoodIn wsX12_report (wsV RX12 357 RX12 yX12_reportOn wsX12_reportOn) := goodIn_app (goodIn_of _ (by decide +kernel)) ggX12_report_X12_reportOn
set_option maxRecDepth 20000 in
theorem ggX12_report_X12_fine : GoodIn wsX12_report wsX12_fine := goodIn_r _ [143, 29, 144, 145, 146, 147, 148, 149, 150, 151, 152, 153, 154, 155, 156, 157, 158, 159, 160, 161, 162, 163, 164, 165, 166, 167, 168, 169, 170, 171, 172, 173, 174, 175, 176, 177, 178, 179, 180, 181, 182, 183, 184, 185, 186, 187, 188, 189, 190, 191, 192, 193, 194] (by decide +kernel) (by decide +kernel)
set_option maxRecDepth 20000 in
theorem gX12_report_X12_fine : GoodIn wsX12_report (wsV RX12 247 RX12 yX12_fine wsX12_fine) := goodIn_app (goodIn_of _ (by decide +kernel)) ggX12_report_X12_fine
theorem dX12_report_0 : decode cX12_report 0 = .ok (.aload_n 0, 1) := by decide +kernel
theorem dX12_report_1 : decode cX12_report 1 = .ok (.iload_n 1, 1) := by decide +kernel
theorem dX12_report_2 : decode cX12_report 2 = .ok (.invokevirtual 337, 3) := by decide +kernel
theorem dX12_report_5 : decode cX12_report 5 = .ok (.ifCond .ne 9, 3) := by decide +kernel
theorem dX12_report_8 : decode cX12_report 8 = .ok (.aload_n 0, 1) := by decide +kernel
theorem dX12_report_9 : decode cX12_report 9 = .ok (.iconst 1, 1) := by decide +kernel
theorem dX12_report_10 : decode cX12_report 10 = .ok (.invokevirtual 334, 3) := by decide +kernel
theorem dX12_report_13 : decode cX12_report 13 = .ok (.ireturn, 1) := by decide +kernel
theorem dX12_report_14 : decode cX12_report 14 = .ok (.iload_n 2, 1) := by decide +kernel
theorem dX12_report_15 : decode cX12_report 15 = .ok (.invokestatic 354, 3) := by decide +kernel
theorem dX12_report_18 : decode cX12_report 18 = .ok (.ifCond .ne 9, 3) := by decide +kernel
theorem dX12_report_21 : decode cX12_report 21 = .ok (.aload_n 0, 1) := by decide +kernel
theorem dX12_report_22 : decode cX12_report 22 = .ok (.iconst 3, 1) := by decide +kernel
theorem dX12_report_23 : decode cX12_report 23 = .ok (.invokevirtual 334, 3) := by decide +kernel
theorem dX12_report_26 : decode cX12_report 26 = .ok (.ireturn, 1) := by decide +kernel
theorem dX12_report_27 : decode cX12_report 27 = .ok (.aload_n 0, 1) := by decide +kernel
theorem dX12_report_28 : decode cX12_report 28 = .ok (.invokevirtual 311, 3) := by decide +kernel
theorem dX12_report_31 : decode cX12_report 31 = .ok (.iconst 0, 1) := by decide +kernel
theorem dX12_report_32 : decode cX12_report 32 = .ok (.istore_n 3, 1) := by decide +kernel
theorem dX12_report_33 : decode cX12_report 33 = .ok (.aload_n 0, 1) := by decide +kernel
theorem dX12_report_34 : decode cX12_report 34 = .ok (.iconst 2, 1) := by decide +kernel
theorem dX12_report_35 : decode cX12_report 35 = .ok (.bipush 10, 2) := by decide +kernel
theorem dX12_report_37 : decode cX12_report 37 = .ok (.invokevirtual 294, 3) := by decide +kernel
theorem dX12_report_40 : decode cX12_report 40 = .ok (.ifCond .ne 50, 3) := by decide +kernel
theorem dX12_report_43 : decode cX12_report 43 = .ok (.aload_n 0, 1) := by decide +kernel
theorem dX12_report_44 : decode cX12_report 44 = .ok (.getfield 302, 3) := by decide +kernel
theorem dX12_report_47 : decode cX12_report 47 = .ok (.iload_n 3, 1) := by decide +kernel
theorem dX12_report_48 : decode cX12_report 48 = .ok (.aload_n 0, 1) := by decide +kernel
theorem dX12_report_49 : decode cX12_report 49 = .ok (.iconst 5, 1) := by decide +kernel
theorem dX12_report_50 : decode cX12_report 50 = .ok (.iconst 4, 1) := by decide +kernel
theorem dX12_report_51 : decode cX12_report 51 = .ok (.invokevirtual 314, 3) := by decide +kernel
theorem dX12_report_54 : decode cX12_report 54 = .ok (.iconst 5, 1) := by decide +kernel
theorem dX12_report_55 : decode cX12_report 55 = .ok (.isub, 1) := by decide +kernel
theorem dX12_report_56 : decode cX12_report 56 = .ok (.iastore, 1) := by decide +kernel
theorem dX12_report_57 : decode cX12_report 57 = .ok (.aload_n 0, 1) := by decide +kernel
theorem dX12_report_58 : decode cX12_report 58 = .ok (.getfield 305, 3) := by decide +kernel
theorem dX12_report_61 : decode cX12_report 61 = .ok (.iload_n 3, 1) := by decide +kernel
theorem dX12_report_62 : decode cX12_report 62 = .ok (.aload_n 0, 1) := by decide +kernel
theorem dX12_report_63 : decode cX12_report 63 = .ok (.invokevirtual 317, 3) := by decide +kernel
theorem dX12_report_66 : decode cX12_report 66 = .ok (.iastore, 1) := by decide +kernel
theorem dX12_report_67 : decode cX12_report 67 = .ok (.aload_n 0, 1) := by decide +kernel
theorem dX12_report_68 : decode cX12_report 68 = .ok (.getfield 308, 3) := by decide +kernel
theorem dX12_report_71 : decode cX12_report 71 = .ok (.iload_n 3, 1) := by decide +kernel
theorem dX12_report_72 : decode cX12_report 72 = .ok (.aload_n 0, 1) := by decide +kernel
theorem dX12_report_73 : decode cX12_report 73 = .ok (.invokevirtual 317, 3) := by decide +kernel
theorem dX12_report_76 : decode cX12_report 76 = .ok (.iastore, 1) := by decide +kernel
theorem dX12_report_77 : decode cX12_report 77 = .ok (.iinc 3 1, 3) := by decide +kernel
theorem dX12_report_80 : decode cX12_report 80 = .ok (.aload_n 0, 1) := by decide +kernel
theorem dX12_report_81 : decode cX12_report 81 = .ok (.iconst 4, 1) := by decide +kernel
theorem dX12_report_82 : decode cX12_report 82 = .ok (.bipush 44, 2) := by decide +kernel
theorem dX12_report_84 : decode cX12_report 84 = .ok (.invokevirtual 294, 3) := by decide +kernel
theorem dX12_report_87 : decode cX12_report 87 = .ok (.ifCond .ne (-44), 3) := by decide +kernel
theorem dX12_report_90 : decode cX12_report 90 = .ok (.aload_n 0, 1) := by decide +kernel
theorem dX12_report_91 : decode cX12_report 91 = .ok (.invokevirtual 320, 3) := by decide +kernel
