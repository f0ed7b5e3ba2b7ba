theorem dX0_tell_0 : decode cX0_tell 0 = .ok (.aload_n 0, 1) := by decide +kernel
theorem dX0_tell_1 : decode cX0_tell 1 = .ok (.iload_n 1, 1) := by decide +kernel
theorem dX0_tell_2 : decode cX0_tell 2 = .ok (.invokevirtual 26, 3) := by decide +kernel
theorem dX0_tell_5 : decode cX0_tell 5 = .ok (.ifCond .ne 15, 3) := by decide +kernel
theorem dX0_tell_8 : decode cX0_tell 8 = .ok (.aload_n 0, 1) := by decide +kernel
theorem dX0_tell_9 : decode cX0_tell 9 = .ok (.aload_n 0, 1) := by decide +kernel
theorem dX0_tell_10 : decode cX0_tell 10 = .ok (.iload_n 1, 1) := by decide +kernel
theorem dX0_tell_11 : decode cX0_tell 11 = .ok (.invokevirtual 22, 3) := by decide +kernel
theorem dX0_tell_14 : decode cX0_tell 14 = .ok (.iconst 1, 1) := by decide +kernel
theorem dX0_tell_15 : decode cX0_tell 15 = .ok (.iadd, 1) := by decide +kernel
theorem dX0_tell_16 : decode cX0_tell 16 = .ok (.iload_n 1, 1) := by decide +kernel
theorem dX0_tell_17 : decode cX0_tell 17 = .ok (.invokevirtual 30, 3) := by decide +kernel
theorem dX0_tell_20 : decode cX0_tell 20 = .ok (.aload_n 0, 1) := by decide +kernel
theorem dX0_tell_21 : decode cX0_tell 21 = .ok (.iload_n 1, 1) := by decide +kernel
theorem dX0_tell_22 : decode cX0_tell 22 = .ok (.invokevirtual 22, 3) := by decide +kernel
theorem dX0_tell_25 : decode cX0_tell 25 = .ok (.istore_n 3, 1) := by decide +kernel
theorem dX0_tell_26 : decode cX0_tell 26 = .ok (.iload_n 3, 1) := by decide +kernel
theorem dX0_tell_27 : decode cX0_tell 27 = .ok (.ifCond .lt 18, 3) := by decide +kernel
theorem dX0_tell_30 : decode cX0_tell 30 = .ok (.iload_n 3, 1) := by decide +kernel
theorem dX0_tell_31 : decode cX0_tell 31 = .ok (.aload_n 0, 1) := by decide +kernel
theorem dX0_tell_32 : decode cX0_tell 32 = .ok (.getfield 18, 3) := by decide +kernel
theorem dX0_tell_35 : decode cX0_tell 35 = .ok (.if_icmp .ge 10, 3) := by decide +kernel
theorem dX0_tell_38 : decode cX0_tell 38 = .ok (.aload_n 0, 1) := by decide +kernel
theorem dX0_tell_39 : decode cX0_tell 39 = .ok (.getfield 15, 3) := by decide +kernel
theorem dX0_tell_42 : decode cX0_tell 42 = .ok (.iload_n 3, 1) := by decide +kernel
theorem dX0_tell_43 : decode cX0_tell 43 = .ok (.iload_n 2, 1) := by decide +kernel
theorem dX0_tell_44 : decode cX0_tell 44 = .ok (.iastore, 1) := by decide +kernel
theorem dX0_tell_45 : decode cX0_tell 45 = .ok (.return_, 1) := by decide +kernel
theorem dX0_latest_0 : decode cX0_latest 0 = .ok (.aload_n 0, 1) := by decide +kernel
theorem dX0_latest_1 : decode cX0_latest 1 = .ok (.getfield 18, 3) := by decide +kernel
theorem dX0_latest_4 : decode cX0_latest 4 = .ok (.iconst 1, 1) := by decide +kernel
theorem dX0_latest_5 : decode cX0_latest 5 = .ok (.isub, 1) := by decide +kernel
theorem dX0_latest_6 : decode cX0_latest 6 = .ok (.istore_n 2, 1) := by decide +kernel
theorem dX0_latest_7 : decode cX0_latest 7 = .ok (.iload_n 2, 1) := by decide +kernel
theorem dX0_latest_8 : decode cX0_latest 8 = .ok (.ifCond .lt 19, 3) := by decide +kernel
theorem dX0_latest_11 : decode cX0_latest 11 = .ok (.aload_n 0, 1) := by decide +kernel
theorem dX0_latest_12 : decode cX0_latest 12 = .ok (.getfield 9, 3) := by decide +kernel
theorem dX0_latest_15 : decode cX0_latest 15 = .ok (.iload_n 2, 1) := by decide +kernel
theorem dX0_latest_16 : decode cX0_latest 16 = .ok (.iaload, 1) := by decide +kernel
theorem dX0_latest_17 : decode cX0_latest 17 = .ok (.iload_n 1, 1) := by decide +kernel
theorem dX0_latest_18 : decode cX0_latest 18 = .ok (.if_icmp .le 9, 3) := by decide +kernel
theorem dX0_latest_21 : decode cX0_latest 21 = .ok (.iinc 2 (-1), 3) := by decide +kernel
theorem dX0_latest_24 : decode cX0_latest 24 = .ok (.goto (-17), 3) := by decide +kernel
theorem dX0_latest_27 : decode cX0_latest 27 = .ok (.iload_n 2, 1) := by decide +kernel
theorem dX0_latest_28 : decode cX0_latest 28 = .ok (.ireturn, 1) := by decide +kernel
theorem dX0_insertAt_0 : decode cX0_insertAt 0 = .ok (.aload_n 0, 1) := by decide +kernel
theorem dX0_insertAt_1 : decode cX0_insertAt 1 = .ok (.getfield 18, 3) := by decide +kernel
theorem dX0_insertAt_4 : decode cX0_insertAt 4 = .ok (.bipush 48, 2) := by decide +kernel
theorem dX0_insertAt_6 : decode cX0_insertAt 6 = .ok (.if_icmp .ge 15, 3) := by decide +kernel
theorem dX0_insertAt_9 : decode cX0_insertAt 9 = .ok (.iload_n 1, 1) := by decide +kernel
theorem dX0_insertAt_10 : decode cX0_insertAt 10 = .ok (.ifCond .lt 11, 3) := by decide +kernel
theorem dX0_insertAt_13 : decode cX0_insertAt 13 = .ok (.iload_n 1, 1) := by decide +kernel
theorem dX0_insertAt_14 : decode cX0_insertAt 14 = .ok (.aload_n 0, 1) := by decide +kernel
theorem dX0_insertAt_15 : decode cX0_insertAt 15 = .ok (.getfield 18, 3) := by decide +kernel
theorem dX0_insertAt_18 : decode cX0_insertAt 18 = .ok (.if_icmp .le 4, 3) := by decide +kernel
theorem dX0_insertAt_21 : decode cX0_insertAt 21 = .ok (.return_, 1) := by decide +kernel
theorem dX0_insertAt_22 : decode cX0_insertAt 22 = .ok (.aload_n 0, 1) := by decide +kernel
theorem dX0_insertAt_23 : decode cX0_insertAt 23 = .ok (.getfield 18, 3) := by decide +kernel
theorem dX0_insertAt_26 : decode cX0_insertAt 26 = .ok (.istore_n 3, 1) := by decide +kernel
theorem dX0_insertAt_27 : decode cX0_insertAt 27 = .ok (.iload_n 3, 1) := by decide +kernel
theorem dX0_insertAt_28 : decode cX0_insertAt 28 = .ok (.iload_n 1, 1) := by decide +kernel
theorem dX0_insertAt_29 : decode cX0_insertAt 29 = .ok (.if_icmp .le 37, 3) := by decide +kernel
theorem dX0_insertAt_32 : decode cX0_insertAt 32 = .ok (.aload_n 0, 1) := by decide +kernel
theorem dX0_insertAt_33 : decode cX0_insertAt 33 = .ok (.getfield 9, 3) := by decide +kernel
theorem dX0_insertAt_36 : decode cX0_insertAt 36 = .ok (.iload_n 3, 1) := by decide +kernel
theorem dX0_insertAt_37 : decode cX0_insertAt 37 = .ok (.aload_n 0, 1) := by decide +kernel
theorem dX0_insertAt_38 : decode cX0_insertAt 38 = .ok (.getfield 9, 3) := by decide +kernel
theorem dX0_insertAt_41 : decode cX0_insertAt 41 = .ok (.iload_n 3, 1) := by decide +kernel
theorem dX0_insertAt_42 : decode cX0_insertAt 42 = .ok (.iconst 1, 1) := by decide +kernel
theorem dX0_insertAt_43 : decode cX0_insertAt 43 = .ok (.isub, 1) := by decide +kernel
theorem dX0_insertAt_44 : decode cX0_insertAt 44 = .ok (.iaload, 1) := by decide +kernel
theorem dX0_insertAt_45 : decode cX0_insertAt 45 = .ok (.iastore, 1) := by decide +kernel
theorem dX0_insertAt_46 : decode cX0_insertAt 46 = .ok (.aload_n 0, 1) := by decide +kernel
theorem dX0_insertAt_47 : decode cX0_insertAt 47 = .ok (.getfield 15, 3) := by decide +kernel
theorem dX0_insertAt_50 : decode cX0_insertAt 50 = .ok (.iload_n 3, 1) := by decide +kernel
theorem dX0_insertAt_51 : decode cX0_insertAt 51 = .ok (.aload_n 0, 1) := by decide +kernel
theorem dX0_insertAt_52 : decode cX0_insertAt 52 = .ok (.getfield 15, 3) := by decide +kernel
theorem dX0_insertAt_55 : decode cX0_insertAt 55 = .ok (.iload_n 3, 1) := by decide +kernel
theorem dX0_insertAt_56 : decode cX0_insertAt 56 = .ok (.iconst 1, 1) := by decide +kernel
theorem dX0_insertAt_57 : decode cX0_insertAt 57 = .ok (.isub, 1) := by decide +kernel
theorem dX0_insertAt_58 : decode cX0_insertAt 58 = .ok (.iaload, 1) := by decide +kernel
theorem dX0_insertAt_59 : decode cX0_insertAt 59 = .ok (.iastore, 1) := by decide +kernel
theorem dX0_insertAt_60 : decode cX0_insertAt 60 = .ok (.iinc 3 (-1), 3) := by decide +kernel
theorem dX0_insertAt_63 : decode cX0_insertAt 63 = .ok (.goto (-36), 3) := by decide +kernel
theorem dX0_insertAt_66 : decode cX0_insertAt 66 = .ok (.aload_n 0, 1) := by decide +kernel
theorem dX0_insertAt_67 : decode cX0_insertAt 67 = .ok (.getfield 9, 3) := by decide +kernel
theorem dX0_insertAt_70 : decode cX0_insertAt 70 = .ok (.iload_n 1, 1) := by decide +kernel
theorem dX0_insertAt_71 : decode cX0_insertAt 71 = .ok (.iload_n 2, 1) := by decide +kernel
theorem dX0_insertAt_72 : decode cX0_insertAt 72 = .ok (.iastore, 1) := by decide +kernel
theorem dX0_insertAt_73 : decode cX0_insertAt 73 = .ok (.aload_n 0, 1) := by decide +kernel
theorem dX0_insertAt_74 : decode cX0_insertAt 74 = .ok (.dup, 1) := by decide +kernel
theorem dX0_insertAt_75 : decode cX0_insertAt 75 = .ok (.getfield 18, 3) := by decide +kernel
theorem dX0_insertAt_78 : decode cX0_insertAt 78 = .ok (.iconst 1, 1) := by decide +kernel
theorem dX0_insertAt_79 : decode cX0_insertAt 79 = .ok (.iadd, 1) := by decide +kernel
theorem dX0_insertAt_80 : decode cX0_insertAt 80 = .ok (.putfield 18, 3) := by decide +kernel
theorem dX0_insertAt_83 : decode cX0_insertAt 83 = .ok (.return_, 1) := by decide +kernel
set_option maxRecDepth 20000 in
theorem ggX1_init_J7_fill_53178 : GoodIn wsX1_init wsJ7_fill_53178 := goodIn_r _ [10] (by decide +kernel) (by decide +kernel)
set_option maxRecDepth 20000 in
theorem gX1_init_J7_fill_53178 : GoodIn wsX1_init (va_wsS RX1 19 yJ7_fill_53178 wsJ7_fill_53178) := goodIn_app (goodIn_of _ (by decide +kernel)) ggX1_init_J7_fill_53178
theorem dX1_init_0 : decode cX1_init 0 = .ok (.aload_n 0, 1) := by decide +kernel
theorem dX1_init_1 : decode cX1_init 1 = .ok (.invokespecial 3, 3) := by decide +kernel
theorem dX1_init_4 : decode cX1_init 4 = .ok (.aload_n 0, 1) := by decide +kernel
theorem dX1_init_5 : decode cX1_init 5 = .ok (.sipush 1000, 3) := by decide +kernel
theorem dX1_init_8 : decode cX1_init 8 = .ok (.newarray .int, 2) := by decide +kernel
theorem dX1_init_10 : decode cX1_init 10 = .ok (.putfield 9, 3) := by decide +kernel
theorem dX1_init_13 : decode cX1_init 13 = .ok (.aload_n 0, 1) := by decide +kernel
theorem dX1_init_14 : decode cX1_init 14 = .ok (.iconst 0, 1) := by decide +kernel
theorem dX1_init_15 : decode cX1_init 15 = .ok (.putfield 15, 3) := by decide +kernel
theorem dX1_init_18 : decode cX1_init 18 = .ok (.aload_n 0, 1) := by decide +kernel
theorem dX1_init_19 : decode cX1_init 19 = .ok (.getfield 9, 3) := by decide +kernel
theorem dX1_init_22 : decode cX1_init 22 = .ok (.iload_n 1, 1) := by decide +kernel
theorem dX1_init_23 : decode cX1_init 23 = .ok (.ifCond .eq 7, 3) := by decide +kernel
theorem dX1_init_26 : decode cX1_init 26 = .ok (.iconst (-1), 1) := by decide +kernel
theorem dX1_init_27 : decode cX1_init 27 = .ok (.goto 5, 3) := by decide +kernel
theorem dX1_init_30 : decode cX1_init 30 = .ok (.bipush (-2), 2) := by decide +kernel
theorem dX1_init_32 : decode cX1_init 32 = .ok (.invokestatic 19, 3) := by decide +kernel
theorem dX1_init_35 : decode cX1_init 35 = .ok (.return_, 1) := by decide +kernel
set_option maxRecDepth 20000 in
theorem ggX1_open_X1_fill : GoodIn wsX1_open wsX1_fill := goodIn_r _ [5, 6, 7, 8, 9, 10, 11, 12] (by decide +kernel) (by decide +kernel)
set_option maxRecDepth 20000 in
theorem gX1_open_X1_fill : GoodIn wsX1_open (wsV RX1 25 RX1 yX1_fill wsX1_fill) := goodIn_app (goodIn_of _ (by decide +kernel)) ggX1_open_X1_fill
theorem dX1_open_0 : decode cX1_open 0 = .ok (.aload_n 0, 1) := by decide +kernel
theorem dX1_open_1 : decode cX1_open 1 = .ok (.iload_n 1, 1) := by decide +kernel
theorem dX1_open_2 : decode cX1_open 2 = .ok (.iload_n 2, 1) := by decide +kernel
theorem dX1_open_3 : decode cX1_open 3 = .ok (.iconst (-1), 1) := by decide +kernel
theorem dX1_open_4 : decode cX1_open 4 = .ok (.invokevirtual 25, 3) := by decide +kernel
theorem dX1_open_7 : decode cX1_open 7 = .ok (.return_, 1) := by decide +kernel
set_option maxRecDepth 20000 in
theorem ggX1_isOpen_X11_isDay : GoodIn wsX1_isOpen wsX11_isDay := goodIn_r _ [4] (by decide +kernel) (by decide +kernel)
set_option maxRecDepth 20000 in
theorem gX1_isOpen_X11_isDay_n28 : GoodIn wsX1_isOpen (wsX11_isDay) := ggX1_isOpen_X11_isDay
theorem dX1_isOpen_0 : decode cX1_isOpen 0 = .ok (.iload_n 1, 1) := by decide +kernel
theorem dX1_isOpen_1 : decode cX1_isOpen 1 = .ok (.invokestatic 28, 3) := by decide +kernel
theorem dX1_isOpen_4 : decode cX1_isOpen 4 = .ok (.ifCond .eq 10, 3) := by decide +kernel
theorem dX1_isOpen_7 : decode cX1_isOpen 7 = .ok (.iload_n 2, 1) := by decide +kernel
theorem dX1_isOpen_8 : decode cX1_isOpen 8 = .ok (.invokestatic 28, 3) := by decide +kernel
theorem dX1_isOpen_11 : decode cX1_isOpen 11 = .ok (.ifCond .ne 5, 3) := by decide +kernel
theorem dX1_isOpen_14 : decode cX1_isOpen 14 = .ok (.iconst 0, 1) := by decide +kernel
theorem dX1_isOpen_15 : decode cX1_isOpen 15 = .ok (.ireturn, 1) := by decide +kernel
theorem dX1_isOpen_16 : decode cX1_isOpen 16 = .ok (.iload_n 1, 1) := by decide +kernel
theorem dX1_isOpen_17 : decode cX1_isOpen 17 = .ok (.istore_n 3, 1) := by decide +kernel
theorem dX1_isOpen_18 : decode cX1_isOpen 18 = .ok (.iload_n 3, 1) := by decide +kernel
theorem dX1_isOpen_19 : decode cX1_isOpen 19 = .ok (.iload_n 2, 1) := by decide +kernel
theorem dX1_isOpen_20 : decode cX1_isOpen 20 = .ok (.if_icmp .gt 21, 3) := by decide +kernel
theorem dX1_isOpen_23 : decode cX1_isOpen 23 = .ok (.aload_n 0, 1) := by decide +kernel
theorem dX1_isOpen_24 : decode cX1_isOpen 24 = .ok (.getfield 9, 3) := by decide +kernel
theorem dX1_isOpen_27 : decode cX1_isOpen 27 = .ok (.iload_n 3, 1) := by decide +kernel
theorem dX1_isOpen_28 : decode cX1_isOpen 28 = .ok (.iaload, 1) := by decide +kernel
theorem dX1_isOpen_29 : decode cX1_isOpen 29 = .ok (.iconst (-1), 1) := by decide +kernel
theorem dX1_isOpen_30 : decode cX1_isOpen 30 = .ok (.if_icmp .eq 5, 3) := by decide +kernel
theorem dX1_isOpen_33 : decode cX1_isOpen 33 = .ok (.iconst 0, 1) := by decide +kernel
theorem dX1_isOpen_34 : decode cX1_isOpen 34 = .ok (.ireturn, 1) := by decide +kernel
theorem dX1_isOpen_35 : decode cX1_isOpen 35 = .ok (.iinc 3 1, 3) := by decide +kernel
theorem dX1_isOpen_38 : decode cX1_isOpen 38 = .ok (.goto (-20), 3) := by decide +kernel
theorem dX1_isOpen_41 : decode cX1_isOpen 41 = .ok (.iconst 1, 1) := by decide +kernel
theorem dX1_isOpen_42 : decode cX1_isOpen 42 = .ok (.ireturn, 1) := by decide +kernel
theorem dX1_firstOpen_0 : decode cX1_firstOpen 0 = .ok (.iconst 0, 1) := by decide +kernel
theorem dX1_firstOpen_1 : decode cX1_firstOpen 1 = .ok (.istore_n 3, 1) := by decide +kernel
theorem dX1_firstOpen_2 : decode cX1_firstOpen 2 = .ok (.iload_n 1, 1) := by decide +kernel
theorem dX1_firstOpen_3 : decode cX1_firstOpen 3 = .ok (.iconst 0, 1) := by decide +kernel
theorem dX1_firstOpen_4 : decode cX1_firstOpen 4 = .ok (.invokestatic 32, 3) := by decide +kernel
theorem dX1_firstOpen_7 : decode cX1_firstOpen 7 = .ok (.istore 4, 2) := by decide +kernel
theorem dX1_firstOpen_9 : decode cX1_firstOpen 9 = .ok (.iload 4, 2) := by decide +kernel
theorem dX1_firstOpen_11 : decode cX1_firstOpen 11 = .ok (.sipush 1000, 3) := by decide +kernel
theorem dX1_firstOpen_14 : decode cX1_firstOpen 14 = .ok (.if_icmp .ge 40, 3) := by decide +kernel
theorem dX1_firstOpen_17 : decode cX1_firstOpen 17 = .ok (.aload_n 0, 1) := by decide +kernel
theorem dX1_firstOpen_18 : decode cX1_firstOpen 18 = .ok (.getfield 9, 3) := by decide +kernel
theorem dX1_firstOpen_21 : decode cX1_firstOpen 21 = .ok (.iload 4, 2) := by decide +kernel
theorem dX1_firstOpen_23 : decode cX1_firstOpen 23 = .ok (.iaload, 1) := by decide +kernel
theorem dX1_firstOpen_24 : decode cX1_firstOpen 24 = .ok (.iconst (-1), 1) := by decide +kernel
theorem dX1_firstOpen_25 : decode cX1_firstOpen 25 = .ok (.if_icmp .ne 9, 3) := by decide +kernel
theorem dX1_firstOpen_28 : decode cX1_firstOpen 28 = .ok (.iload_n 3, 1) := by decide +kernel
theorem dX1_firstOpen_29 : decode cX1_firstOpen 29 = .ok (.iconst 1, 1) := by decide +kernel
theorem dX1_firstOpen_30 : decode cX1_firstOpen 30 = .ok (.iadd, 1) := by decide +kernel
theorem dX1_firstOpen_31 : decode cX1_firstOpen 31 = .ok (.goto 4, 3) := by decide +kernel
theorem dX1_firstOpen_34 : decode cX1_firstOpen 34 = .ok (.iconst 0, 1) := by decide +kernel
theorem dX1_firstOpen_35 : decode cX1_firstOpen 35 = .ok (.istore_n 3, 1) := by decide +kernel
theorem dX1_firstOpen_36 : decode cX1_firstOpen 36 = .ok (.iload_n 3, 1) := by decide +kernel
theorem dX1_firstOpen_37 : decode cX1_firstOpen 37 = .ok (.iload_n 2, 1) := by decide +kernel
theorem dX1_firstOpen_38 : decode cX1_firstOpen 38 = .ok (.if_icmp .ne 10, 3) := by decide +kernel
theorem dX1_firstOpen_41 : decode cX1_firstOpen 41 = .ok (.iload 4, 2) := by decide +kernel
theorem dX1_firstOpen_43 : decode cX1_firstOpen 43 = .ok (.iload_n 2, 1) := by decide +kernel
theorem dX1_firstOpen_44 : decode cX1_firstOpen 44 = .ok (.isub, 1) := by decide +kernel
theorem dX1_firstOpen_45 : decode cX1_firstOpen 45 = .ok (.iconst 1, 1) := by decide +kernel
theorem dX1_firstOpen_46 : decode cX1_firstOpen 46 = .ok (.iadd, 1) := by decide +kernel
theorem dX1_firstOpen_47 : decode cX1_firstOpen 47 = .ok (.ireturn, 1) := by decide +kernel
theorem dX1_firstOpen_48 : decode cX1_firstOpen 48 = .ok (.iinc 4 1, 3) := by decide +kernel
theorem dX1_firstOpen_51 : decode cX1_firstOpen 51 = .ok (.goto (-42), 3) := by decide +kernel
theorem dX1_firstOpen_54 : decode cX1_firstOpen 54 = .ok (.iconst (-1), 1) := by decide +kernel
theorem dX1_firstOpen_55 : decode cX1_firstOpen 55 = .ok (.ireturn, 1) := by decide +kernel
set_option maxRecDepth 20000 in
theorem ggX1_loanOn_X11_isDay : GoodIn wsX1_loanOn wsX11_isDay := goodIn_r _ [8] (by decide +kernel) (by decide +kernel)
set_option maxRecDepth 20000 in
theorem gX1_loanOn_X11_isDay_n28 : GoodIn wsX1_loanOn (wsX11_isDay) := ggX1_loanOn_X11_isDay
theorem dX1_loanOn_0 : decode cX1_loanOn 0 = .ok (.iload_n 1, 1) := by decide +kernel
theorem dX1_loanOn_1 : decode cX1_loanOn 1 = .ok (.invokestatic 28, 3) := by decide +kernel
theorem dX1_loanOn_4 : decode cX1_loanOn 4 = .ok (.ifCond .eq 16, 3) := by decide +kernel
theorem dX1_loanOn_7 : decode cX1_loanOn 7 = .ok (.aload_n 0, 1) := by decide +kernel
theorem dX1_loanOn_8 : decode cX1_loanOn 8 = .ok (.getfield 9, 3) := by decide +kernel
theorem dX1_loanOn_11 : decode cX1_loanOn 11 = .ok (.iload_n 1, 1) := by decide +kernel
theorem dX1_loanOn_12 : decode cX1_loanOn 12 = .ok (.iaload, 1) := by decide +kernel
theorem dX1_loanOn_13 : decode cX1_loanOn 13 = .ok (.iconst (-1), 1) := by decide +kernel
theorem dX1_loanOn_14 : decode cX1_loanOn 14 = .ok (.invokestatic 32, 3) := by decide +kernel
theorem dX1_loanOn_17 : decode cX1_loanOn 17 = .ok (.goto 4, 3) := by decide +kernel
theorem dX1_loanOn_20 : decode cX1_loanOn 20 = .ok (.iconst (-1), 1) := by decide +kernel
theorem dX1_loanOn_21 : decode cX1_loanOn 21 = .ok (.ireturn, 1) := by decide +kernel
theorem dX1_daysTaken_0 : decode cX1_daysTaken 0 = .ok (.aload_n 0, 1) := by decide +kernel
theorem dX1_daysTaken_1 : decode cX1_daysTaken 1 = .ok (.getfield 15, 3) := by decide +kernel
theorem dX1_daysTaken_4 : decode cX1_daysTaken 4 = .ok (.ireturn, 1) := by decide +kernel
set_option maxRecDepth 20000 in
theorem ggX1_take_X1_fill : GoodIn wsX1_take wsX1_fill := goodIn_r _ [6, 7, 8, 9, 10, 11, 12, 13] (by decide +kernel) (by decide +kernel)
set_option maxRecDepth 20000 in
theorem gX1_take_X1_fill : GoodIn wsX1_take (wsV RX1 25 RX1 yX1_fill wsX1_fill) := goodIn_app (goodIn_of _ (by decide +kernel)) ggX1_take_X1_fill
theorem dX1_take_0 : decode cX1_take 0 = .ok (.aload_n 0, 1) := by decide +kernel
theorem dX1_take_1 : decode cX1_take 1 = .ok (.iload_n 1, 1) := by decide +kernel
theorem dX1_take_2 : decode cX1_take 2 = .ok (.iload_n 2, 1) := by decide +kernel
theorem dX1_take_3 : decode cX1_take 3 = .ok (.iload_n 3, 1) := by decide +kernel
theorem dX1_take_4 : decode cX1_take 4 = .ok (.invokevirtual 25, 3) := by decide +kernel
theorem dX1_take_7 : decode cX1_take 7 = .ok (.aload_n 0, 1) := by decide +kernel
theorem dX1_take_8 : decode cX1_take 8 = .ok (.dup, 1) := by decide +kernel
theorem dX1_take_9 : decode cX1_take 9 = .ok (.getfield 15, 3) := by decide +kernel
theorem dX1_take_12 : decode cX1_take 12 = .ok (.iload_n 2, 1) := by decide +kernel
theorem dX1_take_13 : decode cX1_take 13 = .ok (.iload_n 1, 1) := by decide +kernel
theorem dX1_take_14 : decode cX1_take 14 = .ok (.isub, 1) := by decide +kernel
theorem dX1_take_15 : decode cX1_take 15 = .ok (.iconst 1, 1) := by decide +kernel
theorem dX1_take_16 : decode cX1_take 16 = .ok (.iadd, 1) := by decide +kernel
theorem dX1_take_17 : decode cX1_take 17 = .ok (.iadd, 1) := by decide +kernel
theorem dX1_take_18 : decode cX1_take 18 = .ok (.putfield 15, 3) := by decide +kernel
theorem dX1_take_21 : decode cX1_take 21 = .ok (.return_, 1) := by decide +kernel
theorem dX1_release_0 : decode cX1_release 0 = .ok (.iconst 0, 1) := by decide +kernel
theorem dX1_release_1 : decode cX1_release 1 = .ok (.istore_n 2, 1) := by decide +kernel
theorem dX1_release_2 : decode cX1_release 2 = .ok (.iload_n 2, 1) := by decide +kernel
theorem dX1_release_3 : decode cX1_release 3 = .ok (.sipush 1000, 3) := by decide +kernel
theorem dX1_release_6 : decode cX1_release 6 = .ok (.if_icmp .ge 36, 3) := by decide +kernel
theorem dX1_release_9 : decode cX1_release 9 = .ok (.aload_n 0, 1) := by decide +kernel
theorem dX1_release_10 : decode cX1_release 10 = .ok (.getfield 9, 3) := by decide +kernel
theorem dX1_release_13 : decode cX1_release 13 = .ok (.iload_n 2, 1) := by decide +kernel
theorem dX1_release_14 : decode cX1_release 14 = .ok (.iaload, 1) := by decide +kernel
theorem dX1_release_15 : decode cX1_release 15 = .ok (.iload_n 1, 1) := by decide +kernel
theorem dX1_release_16 : decode cX1_release 16 = .ok (.if_icmp .ne 20, 3) := by decide +kernel
theorem dX1_release_19 : decode cX1_release 19 = .ok (.aload_n 0, 1) := by decide +kernel
theorem dX1_release_20 : decode cX1_release 20 = .ok (.getfield 9, 3) := by decide +kernel
theorem dX1_release_23 : decode cX1_release 23 = .ok (.iload_n 2, 1) := by decide +kernel
theorem dX1_release_24 : decode cX1_release 24 = .ok (.iconst (-1), 1) := by decide +kernel
theorem dX1_release_25 : decode cX1_release 25 = .ok (.iastore, 1) := by decide +kernel
theorem dX1_release_26 : decode cX1_release 26 = .ok (.aload_n 0, 1) := by decide +kernel
theorem dX1_release_27 : decode cX1_release 27 = .ok (.dup, 1) := by decide +kernel
theorem dX1_release_28 : decode cX1_release 28 = .ok (.getfield 15, 3) := by decide +kernel
theorem dX1_release_31 : decode cX1_release 31 = .ok (.iconst 1, 1) := by decide +kernel
theorem dX1_release_32 : decode cX1_release 32 = .ok (.isub, 1) := by decide +kernel
theorem dX1_release_33 : decode cX1_release 33 = .ok (.putfield 15, 3) := by decide +kernel
theorem dX1_release_36 : decode cX1_release 36 = .ok (.iinc 2 1, 3) := by decide +kernel
theorem dX1_release_39 : decode cX1_release 39 = .ok (.goto (-37), 3) := by decide +kernel
theorem dX1_release_42 : decode cX1_release 42 = .ok (.return_, 1) := by decide +kernel
theorem dX1_fill_0 : decode cX1_fill 0 = .ok (.iload_n 1, 1) := by decide +kernel
theorem dX1_fill_1 : decode cX1_fill 1 = .ok (.iconst 0, 1) := by decide +kernel
theorem dX1_fill_2 : decode cX1_fill 2 = .ok (.invokestatic 32, 3) := by decide +kernel
theorem dX1_fill_5 : decode cX1_fill 5 = .ok (.istore 4, 2) := by decide +kernel
theorem dX1_fill_7 : decode cX1_fill 7 = .ok (.iload 4, 2) := by decide +kernel
theorem dX1_fill_9 : decode cX1_fill 9 = .ok (.iload_n 2, 1) := by decide +kernel
theorem dX1_fill_10 : decode cX1_fill 10 = .ok (.if_icmp .gt 25, 3) := by decide +kernel
theorem dX1_fill_13 : decode cX1_fill 13 = .ok (.iload 4, 2) := by decide +kernel
theorem dX1_fill_15 : decode cX1_fill 15 = .ok (.sipush 1000, 3) := by decide +kernel
theorem dX1_fill_18 : decode cX1_fill 18 = .ok (.if_icmp .ge 17, 3) := by decide +kernel
theorem dX1_fill_21 : decode cX1_fill 21 = .ok (.aload_n 0, 1) := by decide +kernel
theorem dX1_fill_22 : decode cX1_fill 22 = .ok (.getfield 9, 3) := by decide +kernel
theorem dX1_fill_25 : decode cX1_fill 25 = .ok (.iload 4, 2) := by decide +kernel
theorem dX1_fill_27 : decode cX1_fill 27 = .ok (.iload_n 3, 1) := by decide +kernel
theorem dX1_fill_28 : decode cX1_fill 28 = .ok (.iastore, 1) := by decide +kernel
theorem dX1_fill_29 : decode cX1_fill 29 = .ok (.iinc 4 1, 3) := by decide +kernel
theorem dX1_fill_32 : decode cX1_fill 32 = .ok (.goto (-25), 3) := by decide +kernel
theorem dX1_fill_35 : decode cX1_fill 35 = .ok (.return_, 1) := by decide +kernel
set_option maxRecDepth 20000 in
theorem ggX2_init_X1_init : GoodIn wsX2_init wsX1_init := goodIn_r _ [15, 16, 2, 3, 17, 18, 19, 20, 21, 22, 23, 295, 296] (by decide +kernel) (by decide +kernel)
set_option maxRecDepth 20000 in
theorem gX2_init_X1_init : GoodIn wsX2_init (wsX1_init) := ggX2_init_X1_init
set_option maxRecDepth 20000 in
theorem ggX2_init_J4_init_da8c8 : GoodIn wsX2_init wsJ4_init_da8c8 := goodIn_r _ [26, 27, 28, 29, 30, 31, 2, 3, 32, 33, 34, 35, 36, 37, 38, 39, 40, 41, 42, 43, 300, 301, 302, 303] (by decide +kernel) (by decide +kernel)
set_option maxRecDepth 20000 in
theorem gX2_init_J4_init_da8c8 : GoodIn wsX2_init (wsJ4_init_da8c8) := ggX2_init_J4_init_da8c8
set_option maxRecDepth 20000 in
theorem ggX2_init_X7_size : GoodIn wsX2_init wsX7_size := goodIn_r _ [48, 49, 304, 305, 306, 307, 308] (by decide +kernel) (by decide +kernel)
set_option maxRecDepth 20000 in
theorem gX2_init_X7_size : GoodIn wsX2_init (wsV RX2 27 RX7 yX7_size wsX7_size) := goodIn_app (goodIn_of _ (by decide +kernel)) ggX2_init_X7_size
set_option maxRecDepth 20000 in
theorem ggX2_init_X7_told : GoodIn wsX2_init wsX7_told := goodIn_r _ [53, 49, 54, 304, 305, 306, 307, 308] (by decide +kernel) (by decide +kernel)
set_option maxRecDepth 20000 in
theorem gX2_init_X7_told : GoodIn wsX2_init (wsV RX2 33 RX7 yX7_told wsX7_told) := goodIn_app (goodIn_of _ (by decide +kernel)) ggX2_init_X7_told
set_option maxRecDepth 20000 in
theorem ggX2_init_X1_open : GoodIn wsX2_init wsX1_open := goodIn_r _ [58, 59, 60, 61, 6, 62, 63, 64, 65, 66, 18, 295, 296] (by decide +kernel) (by decide +kernel)
set_option maxRecDepth 20000 in
theorem gX2_init_X1_open : GoodIn wsX2_init (wsV RX2 37 RX1 yX1_open wsX1_open) := goodIn_app (goodIn_of _ (by decide +kernel)) ggX2_init_X1_open
set_option maxRecDepth 20000 in
theorem ggX2_init_J4_append_15ec4 : GoodIn wsX2_init wsJ4_append_15ec4 := goodIn_r _ [70, 71, 72, 73, 74, 29, 75, 76, 77, 78, 79, 80, 81, 34, 82, 83, 84, 85, 86, 35, 87, 88, 89, 90, 91, 92, 93, 94, 95, 96, 97, 64, 65, 66, 98, 99, 100, 101, 102, 103, 22, 104, 105, 106, 107, 108, 109, 110, 33, 111, 112, 113, 114, 115, 116, 117, 118, 119, 120, 121, 122, 32, 123, 124, 38, 125, 126, 127, 128, 129, 130, 131, 132, 133, 134, 135, 136, 137, 138, 139, 140, 141, 142, 143, 144, 145, 146, 147, 148, 149, 150, 151, 152, 153, 154, 155, 156, 157, 158, 159, 160, 161, 162, 163, 164, 165, 166, 167, 168, 169, 170, 171, 172, 173, 36, 37, 39, 40, 41, 42, 43, 174, 175, 176, 177, 178, 179, 180, 181, 182, 183, 184, 185, 186, 187, 188, 189, 190, 191, 192, 193, 194, 195, 300, 301, 302, 303, 309, 310, 311, 312] (by decide +kernel) (by decide +kernel)
set_option maxRecDepth 20000 in
theorem gX2_init_J4_append_15ec4 : GoodIn wsX2_init (wsV RX2 43 RJ4 yJ4_append_15ec4 wsJ4_append_15ec4) := goodIn_app (goodIn_of _ (by decide +kernel)) ggX2_init_J4_append_15ec4
set_option maxRecDepth 20000 in
theorem ggX2_init_J4_append_bf812 : GoodIn wsX2_init wsJ4_append_bf812 := goodIn_r _ [199, 200, 201, 73, 202, 29, 203, 76, 34, 204, 205, 206, 207, 82, 83, 84, 85, 86, 35, 87, 88, 89, 90, 91, 92, 93, 94, 95, 96, 97, 64, 65, 66, 98, 99, 100, 101, 102, 103, 22, 104, 105, 106, 107, 108, 109, 110, 33, 111, 112, 113, 114, 115, 116, 117, 118, 119, 120, 121, 122, 32, 208, 209, 210, 211, 212, 213, 214, 38, 215, 126, 127, 128, 129, 130, 131, 132, 133, 134, 135, 136, 137, 138, 139, 140, 141, 216, 217, 218, 219, 220, 142, 143, 144, 145, 146, 300, 301, 302, 303] (by decide +kernel) (by decide +kernel)
set_option maxRecDepth 20000 in
theorem gX2_init_J4_append_bf812 : GoodIn wsX2_init (wsV RX2 47 RJ4 yJ4_append_bf812 wsJ4_append_bf812) := goodIn_app (goodIn_of _ (by decide +kernel)) ggX2_init_J4_append_bf812
set_option maxRecDepth 20000 in
theorem ggX2_init_J4_append_cf468 : GoodIn wsX2_init wsJ4_append_cf468 := goodIn_r _ [224, 225, 226, 73, 227, 29, 228, 76, 34, 82, 83, 84, 85, 86, 35, 87, 88, 89, 90, 91, 92, 93, 94, 95, 96, 97, 64, 65, 66, 98, 99, 100, 101, 102, 103, 22, 104, 105, 106, 107, 108, 109, 110, 33, 111, 112, 113, 114, 115, 116, 117, 118, 119, 120, 121, 122, 32, 229, 230, 176, 231, 169, 170, 171, 172, 173, 36, 37, 38, 39, 40, 41, 42, 43, 174, 175, 177, 178, 179, 180, 181, 182, 183, 130, 131, 132, 184, 185, 135, 186, 137, 187, 188, 140, 189, 142, 143, 144, 126, 145, 146, 232, 233, 234, 235, 236, 237, 238, 239, 240, 241, 242, 243, 300, 301, 302, 303] (by decide +kernel) (by decide +kernel)
set_option maxRecDepth 20000 in
theorem gX2_init_J4_append_cf468 : GoodIn wsX2_init (wsV RX2 50 RJ4 yJ4_append_cf468 wsJ4_append_cf468) := goodIn_app (goodIn_of _ (by decide +kernel)) ggX2_init_J4_append_cf468
set_option maxRecDepth 20000 in
theorem ggX2_init_J4_toString_0e30d : GoodIn wsX2_init wsJ4_toString_0e30d := goodIn_r _ [247, 248, 249, 135, 250, 251, 252, 253, 254, 255, 256, 2, 3, 157, 151, 156, 257, 258, 259, 260, 261, 29, 262, 34, 263, 264, 265, 266, 267, 11, 268, 269, 73, 270, 271, 76, 272, 119, 120, 121, 122, 32, 35, 273, 274, 22, 275, 105, 106, 107, 108, 109, 110, 276, 277, 278, 33, 111, 112, 65, 113, 114, 115, 116, 117, 279, 280, 281, 282, 283, 38, 284, 285, 286, 287, 181, 182, 183, 130, 131, 132, 184, 185, 186, 137, 187, 188, 140, 189, 288, 289, 290, 126, 145, 146, 40, 41, 42, 43, 291, 292, 293, 294, 309, 310, 311, 312, 300, 301, 302, 303] (by decide +kernel) (by decide +kernel)
set_option maxRecDepth 20000 in
theorem gX2_init_J4_toString_0e30d : GoodIn wsX2_init (wsV RX2 53 RJ4 yJ4_toString_0e30d wsJ4_toString_0e30d) := goodIn_app (goodIn_of _ (by decide +kernel)) ggX2_init_J4_toString_0e30d
theorem dX2_init_0 : decode cX2_init 0 = .ok (.aload_n 0, 1) := by decide +kernel
theorem dX2_init_1 : decode cX2_init 1 = .ok (.invokespecial 3, 3) := by decide +kernel
theorem dX2_init_4 : decode cX2_init 4 = .ok (.aload_n 0, 1) := by decide +kernel
theorem dX2_init_5 : decode cX2_init 5 = .ok (.new 9, 3) := by decide +kernel
theorem dX2_init_8 : decode cX2_init 8 = .ok (.dup, 1) := by decide +kernel
theorem dX2_init_9 : decode cX2_init 9 = .ok (.iconst 0, 1) := by decide +kernel
theorem dX2_init_10 : decode cX2_init 10 = .ok (.invokespecial 11, 3) := by decide +kernel
theorem dX2_init_13 : decode cX2_init 13 = .ok (.putfield 14, 3) := by decide +kernel
theorem dX2_init_16 : decode cX2_init 16 = .ok (.aload_n 0, 1) := by decide +kernel
theorem dX2_init_17 : decode cX2_init 17 = .ok (.iload_n 1, 1) := by decide +kernel
theorem dX2_init_18 : decode cX2_init 18 = .ok (.putfield 20, 3) := by decide +kernel
theorem dX2_init_21 : decode cX2_init 21 = .ok (.new 24, 3) := by decide +kernel
theorem dX2_init_24 : decode cX2_init 24 = .ok (.dup, 1) := by decide +kernel
theorem dX2_init_25 : decode cX2_init 25 = .ok (.invokespecial 26, 3) := by decide +kernel
theorem dX2_init_28 : decode cX2_init 28 = .ok (.astore_n 3, 1) := by decide +kernel
theorem dX2_init_29 : decode cX2_init 29 = .ok (.iconst 0, 1) := by decide +kernel
theorem dX2_init_30 : decode cX2_init 30 = .ok (.istore 4, 2) := by decide +kernel
theorem dX2_init_32 : decode cX2_init 32 = .ok (.iload 4, 2) := by decide +kernel
theorem dX2_init_34 : decode cX2_init 34 = .ok (.iconst 1, 1) := by decide +kernel
theorem dX2_init_35 : decode cX2_init 35 = .ok (.iadd, 1) := by decide +kernel
theorem dX2_init_36 : decode cX2_init 36 = .ok (.aload_n 2, 1) := by decide +kernel
theorem dX2_init_37 : decode cX2_init 37 = .ok (.invokevirtual 27, 3) := by decide +kernel
theorem dX2_init_40 : decode cX2_init 40 = .ok (.if_icmp .ge 69, 3) := by decide +kernel
theorem dX2_init_43 : decode cX2_init 43 = .ok (.aload_n 0, 1) := by decide +kernel
theorem dX2_init_44 : decode cX2_init 44 = .ok (.getfield 14, 3) := by decide +kernel
theorem dX2_init_47 : decode cX2_init 47 = .ok (.aload_n 2, 1) := by decide +kernel
theorem dX2_init_48 : decode cX2_init 48 = .ok (.iload 4, 2) := by decide +kernel
theorem dX2_init_50 : decode cX2_init 50 = .ok (.invokevirtual 33, 3) := by decide +kernel
theorem dX2_init_53 : decode cX2_init 53 = .ok (.aload_n 2, 1) := by decide +kernel
theorem dX2_init_54 : decode cX2_init 54 = .ok (.iload 4, 2) := by decide +kernel
theorem dX2_init_56 : decode cX2_init 56 = .ok (.iconst 1, 1) := by decide +kernel
theorem dX2_init_57 : decode cX2_init 57 = .ok (.iadd, 1) := by decide +kernel
theorem dX2_init_58 : decode cX2_init 58 = .ok (.invokevirtual 33, 3) := by decide +kernel
theorem dX2_init_61 : decode cX2_init 61 = .ok (.invokevirtual 37, 3) := by decide +kernel
theorem dX2_init_64 : decode cX2_init 64 = .ok (.iload 4, 2) := by decide +kernel
theorem dX2_init_66 : decode cX2_init 66 = .ok (.ifCond .le 10, 3) := by decide +kernel
theorem dX2_init_69 : decode cX2_init 69 = .ok (.aload_n 3, 1) := by decide +kernel
theorem dX2_init_70 : decode cX2_init 70 = .ok (.ldc 41, 2) := by decide +kernel
theorem dX2_init_72 : decode cX2_init 72 = .ok (.invokevirtual 43, 3) := by decide +kernel
theorem dX2_init_75 : decode cX2_init 75 = .ok (.pop, 1) := by decide +kernel
theorem dX2_init_76 : decode cX2_init 76 = .ok (.aload_n 3, 1) := by decide +kernel
theorem dX2_init_77 : decode cX2_init 77 = .ok (.aload_n 2, 1) := by decide +kernel
theorem dX2_init_78 : decode cX2_init 78 = .ok (.iload 4, 2) := by decide +kernel
theorem dX2_init_80 : decode cX2_init 80 = .ok (.invokevirtual 33, 3) := by decide +kernel
theorem dX2_init_83 : decode cX2_init 83 = .ok (.invokevirtual 47, 3) := by decide +kernel
theorem dX2_init_86 : decode cX2_init 86 = .ok (.bipush 45, 2) := by decide +kernel
theorem dX2_init_88 : decode cX2_init 88 = .ok (.invokevirtual 50, 3) := by decide +kernel
theorem dX2_init_91 : decode cX2_init 91 = .ok (.aload_n 2, 1) := by decide +kernel
theorem dX2_init_92 : decode cX2_init 92 = .ok (.iload 4, 2) := by decide +kernel
theorem dX2_init_94 : decode cX2_init 94 = .ok (.iconst 1, 1) := by decide +kernel
theorem dX2_init_95 : decode cX2_init 95 = .ok (.iadd, 1) := by decide +kernel
theorem dX2_init_96 : decode cX2_init 96 = .ok (.invokevirtual 33, 3) := by decide +kernel
theorem dX2_init_99 : decode cX2_init 99 = .ok (.invokevirtual 47, 3) := by decide +kernel
theorem dX2_init_102 : decode cX2_init 102 = .ok (.pop, 1) := by decide +kernel
theorem dX2_init_103 : decode cX2_init 103 = .ok (.iinc 4 2, 3) := by decide +kernel
theorem dX2_init_106 : decode cX2_init 106 = .ok (.goto (-74), 3) := by decide +kernel
theorem dX2_init_109 : decode cX2_init 109 = .ok (.aload_n 0, 1) := by decide +kernel
theorem dX2_init_110 : decode cX2_init 110 = .ok (.aload_n 3, 1) := by decide +kernel
theorem dX2_init_111 : decode cX2_init 111 = .ok (.invokevirtual 53, 3) := by decide +kernel
theorem dX2_init_114 : decode cX2_init 114 = .ok (.putfield 57, 3) := by decide +kernel
theorem dX2_init_117 : decode cX2_init 117 = .ok (.return_, 1) := by decide +kernel
set_option maxRecDepth 20000 in
theorem ggX2_faultIn_X7_size : GoodIn wsX2_faultIn wsX7_size := goodIn_r _ [5, 6, 12, 13, 14, 15, 16] (by decide +kernel) (by decide +kernel)
set_option maxRecDepth 20000 in
theorem gX2_faultIn_X7_size : GoodIn wsX2_faultIn (wsV RX2 27 RX7 yX7_size wsX7_size) := goodIn_app (goodIn_of _ (by decide +kernel)) ggX2_faultIn_X7_size
set_option maxRecDepth 20000 in
theorem ggX2_faultIn_X7_told : GoodIn wsX2_faultIn wsX7_told := goodIn_r _ [10, 6, 11, 12, 13, 14, 15, 16] (by decide +kernel) (by decide +kernel)
set_option maxRecDepth 20000 in
theorem gX2_faultIn_X7_told : GoodIn wsX2_faultIn (wsV RX2 33 RX7 yX7_told wsX7_told) := goodIn_app (goodIn_of _ (by decide +kernel)) ggX2_faultIn_X7_told
theorem dX2_faultIn_0 : decode cX2_faultIn 0 = .ok (.iconst (-1), 1) := by decide +kernel
theorem dX2_faultIn_1 : decode cX2_faultIn 1 = .ok (.istore_n 1, 1) := by decide +kernel
theorem dX2_faultIn_2 : decode cX2_faultIn 2 = .ok (.iconst 0, 1) := by decide +kernel
theorem dX2_faultIn_3 : decode cX2_faultIn 3 = .ok (.istore_n 2, 1) := by decide +kernel
theorem dX2_faultIn_4 : decode cX2_faultIn 4 = .ok (.iload_n 2, 1) := by decide +kernel
theorem dX2_faultIn_5 : decode cX2_faultIn 5 = .ok (.iconst 1, 1) := by decide +kernel
theorem dX2_faultIn_6 : decode cX2_faultIn 6 = .ok (.iadd, 1) := by decide +kernel
theorem dX2_faultIn_7 : decode cX2_faultIn 7 = .ok (.aload_n 0, 1) := by decide +kernel
theorem dX2_faultIn_8 : decode cX2_faultIn 8 = .ok (.invokevirtual 27, 3) := by decide +kernel
theorem dX2_faultIn_11 : decode cX2_faultIn 11 = .ok (.if_icmp .ge 48, 3) := by decide +kernel
theorem dX2_faultIn_14 : decode cX2_faultIn 14 = .ok (.aload_n 0, 1) := by decide +kernel
theorem dX2_faultIn_15 : decode cX2_faultIn 15 = .ok (.iload_n 2, 1) := by decide +kernel
theorem dX2_faultIn_16 : decode cX2_faultIn 16 = .ok (.invokevirtual 33, 3) := by decide +kernel
theorem dX2_faultIn_19 : decode cX2_faultIn 19 = .ok (.istore_n 3, 1) := by decide +kernel
theorem dX2_faultIn_20 : decode cX2_faultIn 20 = .ok (.aload_n 0, 1) := by decide +kernel
theorem dX2_faultIn_21 : decode cX2_faultIn 21 = .ok (.iload_n 2, 1) := by decide +kernel
theorem dX2_faultIn_22 : decode cX2_faultIn 22 = .ok (.iconst 1, 1) := by decide +kernel
theorem dX2_faultIn_23 : decode cX2_faultIn 23 = .ok (.iadd, 1) := by decide +kernel
theorem dX2_faultIn_24 : decode cX2_faultIn 24 = .ok (.invokevirtual 33, 3) := by decide +kernel
theorem dX2_faultIn_27 : decode cX2_faultIn 27 = .ok (.istore 4, 2) := by decide +kernel
theorem dX2_faultIn_29 : decode cX2_faultIn 29 = .ok (.iload_n 3, 1) := by decide +kernel
theorem dX2_faultIn_30 : decode cX2_faultIn 30 = .ok (.iload_n 1, 1) := by decide +kernel
theorem dX2_faultIn_31 : decode cX2_faultIn 31 = .ok (.if_icmp .le 17, 3) := by decide +kernel
theorem dX2_faultIn_34 : decode cX2_faultIn 34 = .ok (.iload_n 3, 1) := by decide +kernel
theorem dX2_faultIn_35 : decode cX2_faultIn 35 = .ok (.iload 4, 2) := by decide +kernel
theorem dX2_faultIn_37 : decode cX2_faultIn 37 = .ok (.if_icmp .gt 11, 3) := by decide +kernel
theorem dX2_faultIn_40 : decode cX2_faultIn 40 = .ok (.iload 4, 2) := by decide +kernel
theorem dX2_faultIn_42 : decode cX2_faultIn 42 = .ok (.sipush 1000, 3) := by decide +kernel
theorem dX2_faultIn_45 : decode cX2_faultIn 45 = .ok (.if_icmp .lt 5, 3) := by decide +kernel
theorem dX2_faultIn_48 : decode cX2_faultIn 48 = .ok (.iconst 4, 1) := by decide +kernel
theorem dX2_faultIn_49 : decode cX2_faultIn 49 = .ok (.ireturn, 1) := by decide +kernel
theorem dX2_faultIn_50 : decode cX2_faultIn 50 = .ok (.iload 4, 2) := by decide +kernel
theorem dX2_faultIn_52 : decode cX2_faultIn 52 = .ok (.istore_n 1, 1) := by decide +kernel
theorem dX2_faultIn_53 : decode cX2_faultIn 53 = .ok (.iinc 2 2, 3) := by decide +kernel
theorem dX2_faultIn_56 : decode cX2_faultIn 56 = .ok (.goto (-52), 3) := by decide +kernel
theorem dX2_faultIn_59 : decode cX2_faultIn 59 = .ok (.iconst 0, 1) := by decide +kernel
theorem dX2_faultIn_60 : decode cX2_faultIn 60 = .ok (.ireturn, 1) := by decide +kernel
set_option maxRecDepth 20000 in
theorem ggX3_init_X7_told : GoodIn wsX3_init wsX7_told := goodIn_r _ [16, 17, 18, 239, 240, 241, 242, 243] (by decide +kernel) (by decide +kernel)
set_option maxRecDepth 20000 in
theorem gX3_init_X7_told : GoodIn wsX3_init (wsV RX3 9 RX7 yX7_told wsX7_told) := goodIn_app (goodIn_of _ (by decide +kernel)) ggX3_init_X7_told
set_option maxRecDepth 20000 in
theorem ggX3_init_J4_init_da8c8 : GoodIn wsX3_init wsJ4_init_da8c8 := goodIn_r _ [21, 22, 23, 24, 25, 26, 2, 3, 27, 28, 29, 30, 31, 32, 33, 34, 35, 36, 37, 38, 235, 236, 237, 238] (by decide +kernel) (by decide +kernel)
set_option maxRecDepth 20000 in
theorem gX3_init_J4_init_da8c8 : GoodIn wsX3_init (wsJ4_init_da8c8) := ggX3_init_J4_init_da8c8
set_option maxRecDepth 20000 in
theorem ggX3_init_J4_append_bf812 : GoodIn wsX3_init wsJ4_append_bf812 := goodIn_r _ [42, 43, 44, 45, 46, 24, 47, 48, 29, 49, 50, 51, 52, 53, 54, 55, 56, 57, 30, 58, 59, 60, 61, 62, 63, 64, 65, 66, 67, 68, 69, 70, 71, 72, 73, 74, 75, 76, 77, 78, 79, 80, 81, 82, 83, 84, 85, 28, 86, 87, 88, 89, 90, 91, 92, 93, 94, 95, 96, 97, 27, 98, 99, 100, 101, 102, 103, 104, 33, 105, 106, 107, 108, 109, 110, 111, 112, 113, 114, 115, 116, 117, 118, 119, 120, 121, 122, 123, 124, 125, 126, 127, 128, 129, 130, 131, 235, 236, 237, 238] (by decide +kernel) (by decide +kernel)
set_option maxRecDepth 20000 in
theorem gX3_init_J4_append_bf812 : GoodIn wsX3_init (wsV RX3 33 RJ4 yJ4_append_bf812 wsJ4_append_bf812) := goodIn_app (goodIn_of _ (by decide +kernel)) ggX3_init_J4_append_bf812
set_option maxRecDepth 20000 in
theorem ggX3_init_J4_append_cf468 : GoodIn wsX3_init wsJ4_append_cf468 := goodIn_r _ [135, 136, 137, 45, 138, 24, 139, 48, 29, 53, 54, 55, 56, 57, 30, 58, 59, 60, 61, 62, 63, 64, 65, 66, 67, 68, 69, 70, 71, 72, 73, 74, 75, 76, 77, 78, 79, 80, 81, 82, 83, 84, 85, 28, 86, 87, 88, 89, 90, 91, 92, 93, 94, 95, 96, 97, 27, 140, 141, 142, 143, 144, 145, 146, 147, 148, 31, 32, 33, 34, 35, 36, 37, 38, 149, 150, 151, 152, 153, 154, 155, 156, 157, 110, 111, 112, 158, 159, 115, 160, 117, 161, 162, 120, 163, 127, 128, 129, 106, 130, 131, 164, 165, 166, 167, 168, 169, 170, 171, 172, 173, 174, 175, 235, 236, 237, 238] (by decide +kernel) (by decide +kernel)
set_option maxRecDepth 20000 in
theorem gX3_init_J4_append_cf468 : GoodIn wsX3_init (wsV RX3 37 RJ4 yJ4_append_cf468 wsJ4_append_cf468) := goodIn_app (goodIn_of _ (by decide +kernel)) ggX3_init_J4_append_cf468
set_option maxRecDepth 20000 in
theorem ggX3_init_J4_toString_0e30d : GoodIn wsX3_init wsJ4_toString_0e30d := goodIn_r _ [179, 180, 181, 115, 182, 183, 184, 185, 186, 187, 188, 2, 3, 189, 190, 191, 192, 193, 194, 195, 196, 24, 197, 29, 198, 199, 200, 201, 202, 10, 203, 204, 45, 205, 206, 48, 207, 94, 95, 96, 97, 27, 30, 208, 209, 78, 210, 80, 81, 82, 83, 84, 85, 211, 212, 213, 28, 86, 87, 70, 88, 89, 90, 91, 92, 214, 215, 216, 217, 218, 33, 219, 220, 221, 222, 155, 156, 157, 110, 111, 112, 158, 159, 160, 117, 161, 162, 120, 163, 223, 224, 225, 106, 130, 131, 35, 36, 37, 38, 226, 227, 228, 229, 244, 245, 246, 247, 235, 236, 237, 238] (by decide +kernel) (by decide +kernel)
set_option maxRecDepth 20000 in
theorem gX3_init_J4_toString_0e30d : GoodIn wsX3_init (wsV RX3 40 RJ4 yJ4_toString_0e30d wsJ4_toString_0e30d) := goodIn_app (goodIn_of _ (by decide +kernel)) ggX3_init_J4_toString_0e30d
theorem dX3_init_0 : decode cX3_init 0 = .ok (.aload_n 0, 1) := by decide +kernel
theorem dX3_init_1 : decode cX3_init 1 = .ok (.invokespecial 3, 3) := by decide +kernel
theorem dX3_init_4 : decode cX3_init 4 = .ok (.aload_n 0, 1) := by decide +kernel
theorem dX3_init_5 : decode cX3_init 5 = .ok (.aload_n 1, 1) := by decide +kernel
theorem dX3_init_6 : decode cX3_init 6 = .ok (.iconst 0, 1) := by decide +kernel
theorem dX3_init_7 : decode cX3_init 7 = .ok (.invokevirtual 9, 3) := by decide +kernel
theorem dX3_init_10 : decode cX3_init 10 = .ok (.putfield 15, 3) := by decide +kernel
theorem dX3_init_13 : decode cX3_init 13 = .ok (.aload_n 0, 1) := by decide +kernel
theorem dX3_init_14 : decode cX3_init 14 = .ok (.aload_n 1, 1) := by decide +kernel
theorem dX3_init_15 : decode cX3_init 15 = .ok (.iconst 1, 1) := by decide +kernel
theorem dX3_init_16 : decode cX3_init 16 = .ok (.invokevirtual 9, 3) := by decide +kernel
theorem dX3_init_19 : decode cX3_init 19 = .ok (.putfield 21, 3) := by decide +kernel
theorem dX3_init_22 : decode cX3_init 22 = .ok (.aload_n 0, 1) := by decide +kernel
theorem dX3_init_23 : decode cX3_init 23 = .ok (.aload_n 1, 1) := by decide +kernel
theorem dX3_init_24 : decode cX3_init 24 = .ok (.iconst 2, 1) := by decide +kernel
theorem dX3_init_25 : decode cX3_init 25 = .ok (.invokevirtual 9, 3) := by decide +kernel
theorem dX3_init_28 : decode cX3_init 28 = .ok (.putfield 24, 3) := by decide +kernel
theorem dX3_init_31 : decode cX3_init 31 = .ok (.aload_n 0, 1) := by decide +kernel
theorem dX3_init_32 : decode cX3_init 32 = .ok (.aload_n 1, 1) := by decide +kernel
theorem dX3_init_33 : decode cX3_init 33 = .ok (.iconst 3, 1) := by decide +kernel
theorem dX3_init_34 : decode cX3_init 34 = .ok (.invokevirtual 9, 3) := by decide +kernel
theorem dX3_init_37 : decode cX3_init 37 = .ok (.putfield 27, 3) := by decide +kernel
theorem dX3_init_40 : decode cX3_init 40 = .ok (.new 30, 3) := by decide +kernel
theorem dX3_init_43 : decode cX3_init 43 = .ok (.dup, 1) := by decide +kernel
theorem dX3_init_44 : decode cX3_init 44 = .ok (.invokespecial 32, 3) := by decide +kernel
theorem dX3_init_47 : decode cX3_init 47 = .ok (.astore_n 2, 1) := by decide +kernel
theorem dX3_init_48 : decode cX3_init 48 = .ok (.aload_n 2, 1) := by decide +kernel
theorem dX3_init_49 : decode cX3_init 49 = .ok (.aload_n 0, 1) := by decide +kernel
theorem dX3_init_50 : decode cX3_init 50 = .ok (.getfield 15, 3) := by decide +kernel
theorem dX3_init_53 : decode cX3_init 53 = .ok (.invokevirtual 33, 3) := by decide +kernel
theorem dX3_init_56 : decode cX3_init 56 = .ok (.bipush 32, 2) := by decide +kernel
theorem dX3_init_58 : decode cX3_init 58 = .ok (.invokevirtual 37, 3) := by decide +kernel
theorem dX3_init_61 : decode cX3_init 61 = .ok (.aload_n 0, 1) := by decide +kernel
theorem dX3_init_62 : decode cX3_init 62 = .ok (.getfield 21, 3) := by decide +kernel
theorem dX3_init_65 : decode cX3_init 65 = .ok (.invokevirtual 33, 3) := by decide +kernel
theorem dX3_init_68 : decode cX3_init 68 = .ok (.bipush 32, 2) := by decide +kernel
theorem dX3_init_70 : decode cX3_init 70 = .ok (.invokevirtual 37, 3) := by decide +kernel
theorem dX3_init_73 : decode cX3_init 73 = .ok (.aload_n 0, 1) := by decide +kernel
theorem dX3_init_74 : decode cX3_init 74 = .ok (.getfield 24, 3) := by decide +kernel
theorem dX3_init_77 : decode cX3_init 77 = .ok (.invokevirtual 33, 3) := by decide +kernel
theorem dX3_init_80 : decode cX3_init 80 = .ok (.bipush 32, 2) := by decide +kernel
theorem dX3_init_82 : decode cX3_init 82 = .ok (.invokevirtual 37, 3) := by decide +kernel
theorem dX3_init_85 : decode cX3_init 85 = .ok (.aload_n 0, 1) := by decide +kernel
theorem dX3_init_86 : decode cX3_init 86 = .ok (.getfield 27, 3) := by decide +kernel
theorem dX3_init_89 : decode cX3_init 89 = .ok (.invokevirtual 33, 3) := by decide +kernel
theorem dX3_init_92 : decode cX3_init 92 = .ok (.pop, 1) := by decide +kernel
theorem dX3_init_93 : decode cX3_init 93 = .ok (.aload_n 0, 1) := by decide +kernel
theorem dX3_init_94 : decode cX3_init 94 = .ok (.aload_n 2, 1) := by decide +kernel
theorem dX3_init_95 : decode cX3_init 95 = .ok (.invokevirtual 40, 3) := by decide +kernel
theorem dX3_init_98 : decode cX3_init 98 = .ok (.putfield 44, 3) := by decide +kernel
theorem dX3_init_101 : decode cX3_init 101 = .ok (.return_, 1) := by decide +kernel
set_option maxRecDepth 20000 in
theorem ggX3_faultIn_X7_told : GoodIn wsX3_faultIn wsX7_told := goodIn_r _ [5, 6, 7, 8, 9, 10, 11, 12] (by decide +kernel) (by decide +kernel)
set_option maxRecDepth 20000 in
theorem gX3_faultIn_X7_told : GoodIn wsX3_faultIn (wsV RX3 9 RX7 yX7_told wsX7_told) := goodIn_app (goodIn_of _ (by decide +kernel)) ggX3_faultIn_X7_told
theorem dX3_faultIn_0 : decode cX3_faultIn 0 = .ok (.aload_n 0, 1) := by decide +kernel
theorem dX3_faultIn_1 : decode cX3_faultIn 1 = .ok (.iconst 0, 1) := by decide +kernel
theorem dX3_faultIn_2 : decode cX3_faultIn 2 = .ok (.invokevirtual 9, 3) := by decide +kernel
theorem dX3_faultIn_5 : decode cX3_faultIn 5 = .ok (.iconst 1, 1) := by decide +kernel
theorem dX3_faultIn_6 : decode cX3_faultIn 6 = .ok (.if_icmp .lt 45, 3) := by decide +kernel
theorem dX3_faultIn_9 : decode cX3_faultIn 9 = .ok (.aload_n 0, 1) := by decide +kernel
theorem dX3_faultIn_10 : decode cX3_faultIn 10 = .ok (.iconst 0, 1) := by decide +kernel
theorem dX3_faultIn_11 : decode cX3_faultIn 11 = .ok (.invokevirtual 9, 3) := by decide +kernel
theorem dX3_faultIn_14 : decode cX3_faultIn 14 = .ok (.bipush 30, 2) := by decide +kernel
theorem dX3_faultIn_16 : decode cX3_faultIn 16 = .ok (.if_icmp .gt 35, 3) := by decide +kernel
theorem dX3_faultIn_19 : decode cX3_faultIn 19 = .ok (.aload_n 0, 1) := by decide +kernel
theorem dX3_faultIn_20 : decode cX3_faultIn 20 = .ok (.iconst 1, 1) := by decide +kernel
theorem dX3_faultIn_21 : decode cX3_faultIn 21 = .ok (.invokevirtual 9, 3) := by decide +kernel
theorem dX3_faultIn_24 : decode cX3_faultIn 24 = .ok (.iconst 1, 1) := by decide +kernel
theorem dX3_faultIn_25 : decode cX3_faultIn 25 = .ok (.if_icmp .lt 26, 3) := by decide +kernel
theorem dX3_faultIn_28 : decode cX3_faultIn 28 = .ok (.aload_n 0, 1) := by decide +kernel
theorem dX3_faultIn_29 : decode cX3_faultIn 29 = .ok (.iconst 3, 1) := by decide +kernel
theorem dX3_faultIn_30 : decode cX3_faultIn 30 = .ok (.invokevirtual 9, 3) := by decide +kernel
theorem dX3_faultIn_33 : decode cX3_faultIn 33 = .ok (.iconst 1, 1) := by decide +kernel
theorem dX3_faultIn_34 : decode cX3_faultIn 34 = .ok (.if_icmp .lt 17, 3) := by decide +kernel
theorem dX3_faultIn_37 : decode cX3_faultIn 37 = .ok (.aload_n 0, 1) := by decide +kernel
theorem dX3_faultIn_38 : decode cX3_faultIn 38 = .ok (.iconst 3, 1) := by decide +kernel
theorem dX3_faultIn_39 : decode cX3_faultIn 39 = .ok (.invokevirtual 9, 3) := by decide +kernel
theorem dX3_faultIn_42 : decode cX3_faultIn 42 = .ok (.bipush 99, 2) := by decide +kernel
theorem dX3_faultIn_44 : decode cX3_faultIn 44 = .ok (.if_icmp .gt 7, 3) := by decide +kernel
theorem dX3_faultIn_47 : decode cX3_faultIn 47 = .ok (.iconst 1, 1) := by decide +kernel
theorem dX3_faultIn_48 : decode cX3_faultIn 48 = .ok (.goto 4, 3) := by decide +kernel
theorem dX3_faultIn_51 : decode cX3_faultIn 51 = .ok (.iconst 0, 1) := by decide +kernel
theorem dX3_faultIn_52 : decode cX3_faultIn 52 = .ok (.istore_n 1, 1) := by decide +kernel
theorem dX3_faultIn_53 : decode cX3_faultIn 53 = .ok (.iload_n 1, 1) := by decide +kernel
theorem dX3_faultIn_54 : decode cX3_faultIn 54 = .ok (.ifCond .eq 7, 3) := by decide +kernel
theorem dX3_faultIn_57 : decode cX3_faultIn 57 = .ok (.iconst 0, 1) := by decide +kernel
theorem dX3_faultIn_58 : decode cX3_faultIn 58 = .ok (.goto 4, 3) := by decide +kernel
theorem dX3_faultIn_61 : decode cX3_faultIn 61 = .ok (.iconst 3, 1) := by decide +kernel
theorem dX3_faultIn_62 : decode cX3_faultIn 62 = .ok (.ireturn, 1) := by decide +kernel
set_option maxRecDepth 20000 in
theorem ggX4_init_Jx4a65c_init_da8c8 : GoodIn wsX4_init wsJx4a65c_init_da8c8 := goodIn_r _ [14, 15, 16, 17, 18, 19, 20, 21, 22, 23, 24, 25, 26, 2, 3, 27, 28, 29] (by decide +kernel) (by decide +kernel)
set_option maxRecDepth 20000 in
theorem gX4_init_Jx4a65c_init_da8c8 : GoodIn wsX4_init (wsJx4a65c_init_da8c8) := ggX4_init_Jx4a65c_init_da8c8
theorem dX4_init_0 : decode cX4_init 0 = .ok (.aload_n 0, 1) := by decide +kernel
theorem dX4_init_1 : decode cX4_init 1 = .ok (.invokespecial 3, 3) := by decide +kernel
theorem dX4_init_4 : decode cX4_init 4 = .ok (.aload_n 0, 1) := by decide +kernel
theorem dX4_init_5 : decode cX4_init 5 = .ok (.new 9, 3) := by decide +kernel
theorem dX4_init_8 : decode cX4_init 8 = .ok (.dup, 1) := by decide +kernel
theorem dX4_init_9 : decode cX4_init 9 = .ok (.invokespecial 11, 3) := by decide +kernel
theorem dX4_init_12 : decode cX4_init 12 = .ok (.putfield 12, 3) := by decide +kernel
theorem dX4_init_15 : decode cX4_init 15 = .ok (.aload_n 0, 1) := by decide +kernel
theorem dX4_init_16 : decode cX4_init 16 = .ok (.iconst 1, 1) := by decide +kernel
theorem dX4_init_17 : decode cX4_init 17 = .ok (.putfield 18, 3) := by decide +kernel
theorem dX4_init_20 : decode cX4_init 20 = .ok (.aload_n 0, 1) := by decide +kernel
theorem dX4_init_21 : decode cX4_init 21 = .ok (.aload_n 1, 1) := by decide +kernel
theorem dX4_init_22 : decode cX4_init 22 = .ok (.putfield 22, 3) := by decide +kernel
theorem dX4_init_25 : decode cX4_init 25 = .ok (.aload_n 0, 1) := by decide +kernel
theorem dX4_init_26 : decode cX4_init 26 = .ok (.iload_n 2, 1) := by decide +kernel
theorem dX4_init_27 : decode cX4_init 27 = .ok (.putfield 26, 3) := by decide +kernel
theorem dX4_init_30 : decode cX4_init 30 = .ok (.aload_n 0, 1) := by decide +kernel
theorem dX4_init_31 : decode cX4_init 31 = .ok (.iload_n 3, 1) := by decide +kernel
theorem dX4_init_32 : decode cX4_init 32 = .ok (.putfield 30, 3) := by decide +kernel
theorem dX4_init_35 : decode cX4_init 35 = .ok (.return_, 1) := by decide +kernel
theorem dX4_last_0 : decode cX4_last 0 = .ok (.aload_n 0, 1) := by decide +kernel
theorem dX4_last_1 : decode cX4_last 1 = .ok (.getfield 26, 3) := by decide +kernel
theorem dX4_last_4 : decode cX4_last 4 = .ok (.iconst 2, 1) := by decide +kernel
theorem dX4_last_5 : decode cX4_last 5 = .ok (.aload_n 0, 1) := by decide +kernel
theorem dX4_last_6 : decode cX4_last 6 = .ok (.getfield 22, 3) := by decide +kernel
theorem dX4_last_9 : decode cX4_last 9 = .ok (.getfield 33, 3) := by decide +kernel
theorem dX4_last_12 : decode cX4_last 12 = .ok (.imul, 1) := by decide +kernel
theorem dX4_last_13 : decode cX4_last 13 = .ok (.iadd, 1) := by decide +kernel
theorem dX4_last_14 : decode cX4_last 14 = .ok (.aload_n 0, 1) := by decide +kernel
theorem dX4_last_15 : decode cX4_last 15 = .ok (.getfield 30, 3) := by decide +kernel
theorem dX4_last_18 : decode cX4_last 18 = .ok (.iadd, 1) := by decide +kernel
theorem dX4_last_19 : decode cX4_last 19 = .ok (.iconst 1, 1) := by decide +kernel
theorem dX4_last_20 : decode cX4_last 20 = .ok (.isub, 1) := by decide +kernel
theorem dX4_last_21 : decode cX4_last 21 = .ok (.ireturn, 1) := by decide +kernel
theorem dX4_firstOf_0 : decode cX4_firstOf 0 = .ok (.iload_n 1, 1) := by decide +kernel
theorem dX4_firstOf_1 : decode cX4_firstOf 1 = .ok (.ifCond .ne 10, 3) := by decide +kernel
theorem dX4_firstOf_4 : decode cX4_firstOf 4 = .ok (.aload_n 0, 1) := by decide +kernel
theorem dX4_firstOf_5 : decode cX4_firstOf 5 = .ok (.getfield 26, 3) := by decide +kernel
theorem dX4_firstOf_8 : decode cX4_firstOf 8 = .ok (.goto 20, 3) := by decide +kernel
theorem dX4_firstOf_11 : decode cX4_firstOf 11 = .ok (.aload_n 0, 1) := by decide +kernel
theorem dX4_firstOf_12 : decode cX4_firstOf 12 = .ok (.getfield 26, 3) := by decide +kernel
theorem dX4_firstOf_15 : decode cX4_firstOf 15 = .ok (.aload_n 0, 1) := by decide +kernel
theorem dX4_firstOf_16 : decode cX4_firstOf 16 = .ok (.getfield 22, 3) := by decide +kernel
theorem dX4_firstOf_19 : decode cX4_firstOf 19 = .ok (.getfield 33, 3) := by decide +kernel
theorem dX4_firstOf_22 : decode cX4_firstOf 22 = .ok (.iadd, 1) := by decide +kernel
theorem dX4_firstOf_23 : decode cX4_firstOf 23 = .ok (.aload_n 0, 1) := by decide +kernel
theorem dX4_firstOf_24 : decode cX4_firstOf 24 = .ok (.getfield 30, 3) := by decide +kernel
theorem dX4_firstOf_27 : decode cX4_firstOf 27 = .ok (.iadd, 1) := by decide +kernel
theorem dX4_firstOf_28 : decode cX4_firstOf 28 = .ok (.ireturn, 1) := by decide +kernel
set_option maxRecDepth 20000 in
theorem ggX4_stageOn_X4_last : GoodIn wsX4_stageOn wsX4_last := goodIn_r _ [8, 1, 2, 3, 9, 14, 15, 16, 17, 18, 19, 20, 21, 22, 23] (by decide +kernel) (by decide +kernel)
set_option maxRecDepth 20000 in
theorem gX4_stageOn_X4_last : GoodIn wsX4_stageOn (wsV RX4 38 RX4 yX4_last wsX4_last) := goodIn_app (goodIn_of _ (by decide +kernel)) ggX4_stageOn_X4_last
set_option maxRecDepth 20000 in
theorem ggX4_stageOn_X4_firstOf : GoodIn wsX4_stageOn wsX4_firstOf := goodIn_r _ [13, 1, 2, 3, 9, 14, 15, 16, 17, 18, 19, 20, 21, 22, 23] (by decide +kernel) (by decide +kernel)
set_option maxRecDepth 20000 in
theorem gX4_stageOn_X4_firstOf : GoodIn wsX4_stageOn (wsV RX4 42 RX4 yX4_firstOf wsX4_firstOf) := goodIn_app (goodIn_of _ (by decide +kernel)) ggX4_stageOn_X4_firstOf
theorem dX4_stageOn_0 : decode cX4_stageOn 0 = .ok (.iload_n 1, 1) := by decide +kernel
theorem dX4_stageOn_1 : decode cX4_stageOn 1 = .ok (.aload_n 0, 1) := by decide +kernel
theorem dX4_stageOn_2 : decode cX4_stageOn 2 = .ok (.getfield 26, 3) := by decide +kernel
theorem dX4_stageOn_5 : decode cX4_stageOn 5 = .ok (.if_icmp .lt 11, 3) := by decide +kernel
theorem dX4_stageOn_8 : decode cX4_stageOn 8 = .ok (.iload_n 1, 1) := by decide +kernel
theorem dX4_stageOn_9 : decode cX4_stageOn 9 = .ok (.aload_n 0, 1) := by decide +kernel
theorem dX4_stageOn_10 : decode cX4_stageOn 10 = .ok (.invokevirtual 38, 3) := by decide +kernel
theorem dX4_stageOn_13 : decode cX4_stageOn 13 = .ok (.if_icmp .le 5, 3) := by decide +kernel
theorem dX4_stageOn_16 : decode cX4_stageOn 16 = .ok (.iconst 0, 1) := by decide +kernel
theorem dX4_stageOn_17 : decode cX4_stageOn 17 = .ok (.ireturn, 1) := by decide +kernel
theorem dX4_stageOn_18 : decode cX4_stageOn 18 = .ok (.iload_n 1, 1) := by decide +kernel
theorem dX4_stageOn_19 : decode cX4_stageOn 19 = .ok (.aload_n 0, 1) := by decide +kernel
theorem dX4_stageOn_20 : decode cX4_stageOn 20 = .ok (.getfield 26, 3) := by decide +kernel
theorem dX4_stageOn_23 : decode cX4_stageOn 23 = .ok (.aload_n 0, 1) := by decide +kernel
theorem dX4_stageOn_24 : decode cX4_stageOn 24 = .ok (.getfield 22, 3) := by decide +kernel
theorem dX4_stageOn_27 : decode cX4_stageOn 27 = .ok (.getfield 33, 3) := by decide +kernel
theorem dX4_stageOn_30 : decode cX4_stageOn 30 = .ok (.iadd, 1) := by decide +kernel
theorem dX4_stageOn_31 : decode cX4_stageOn 31 = .ok (.if_icmp .ge 5, 3) := by decide +kernel
theorem dX4_stageOn_34 : decode cX4_stageOn 34 = .ok (.iconst 1, 1) := by decide +kernel
theorem dX4_stageOn_35 : decode cX4_stageOn 35 = .ok (.ireturn, 1) := by decide +kernel
theorem dX4_stageOn_36 : decode cX4_stageOn 36 = .ok (.iload_n 1, 1) := by decide +kernel
theorem dX4_stageOn_37 : decode cX4_stageOn 37 = .ok (.aload_n 0, 1) := by decide +kernel
theorem dX4_stageOn_38 : decode cX4_stageOn 38 = .ok (.iconst 1, 1) := by decide +kernel
theorem dX4_stageOn_39 : decode cX4_stageOn 39 = .ok (.invokevirtual 42, 3) := by decide +kernel
theorem dX4_stageOn_42 : decode cX4_stageOn 42 = .ok (.if_icmp .ge 7, 3) := by decide +kernel
theorem dX4_stageOn_45 : decode cX4_stageOn 45 = .ok (.iconst 2, 1) := by decide +kernel
theorem dX4_stageOn_46 : decode cX4_stageOn 46 = .ok (.goto 4, 3) := by decide +kernel
theorem dX4_stageOn_49 : decode cX4_stageOn 49 = .ok (.iconst 3, 1) := by decide +kernel
theorem dX4_stageOn_50 : decode cX4_stageOn 50 = .ok (.ireturn, 1) := by decide +kernel
set_option maxRecDepth 20000 in
theorem ggX4_daysBetween_X4_last : GoodIn wsX4_daysBetween wsX4_last := goodIn_r _ [13, 5, 14, 15, 16, 17, 18, 19, 20, 21, 22, 23, 24, 25, 26] (by decide +kernel) (by decide +kernel)
set_option maxRecDepth 20000 in
theorem gX4_daysBetween_X4_last : GoodIn wsX4_daysBetween (wsV RX4 38 RX4 yX4_last wsX4_last) := goodIn_app (goodIn_of _ (by decide +kernel)) ggX4_daysBetween_X4_last
theorem dX4_daysBetween_0 : decode cX4_daysBetween 0 = .ok (.iload_n 2, 1) := by decide +kernel
theorem dX4_daysBetween_1 : decode cX4_daysBetween 1 = .ok (.aload_n 0, 1) := by decide +kernel
theorem dX4_daysBetween_2 : decode cX4_daysBetween 2 = .ok (.invokevirtual 38, 3) := by decide +kernel
theorem dX4_daysBetween_5 : decode cX4_daysBetween 5 = .ok (.invokestatic 46, 3) := by decide +kernel
theorem dX4_daysBetween_8 : decode cX4_daysBetween 8 = .ok (.iload_n 1, 1) := by decide +kernel
theorem dX4_daysBetween_9 : decode cX4_daysBetween 9 = .ok (.aload_n 0, 1) := by decide +kernel
theorem dX4_daysBetween_10 : decode cX4_daysBetween 10 = .ok (.getfield 26, 3) := by decide +kernel
theorem dX4_daysBetween_13 : decode cX4_daysBetween 13 = .ok (.invokestatic 52, 3) := by decide +kernel
theorem dX4_daysBetween_16 : decode cX4_daysBetween 16 = .ok (.isub, 1) := by decide +kernel
theorem dX4_daysBetween_17 : decode cX4_daysBetween 17 = .ok (.iconst 1, 1) := by decide +kernel
theorem dX4_daysBetween_18 : decode cX4_daysBetween 18 = .ok (.iadd, 1) := by decide +kernel
theorem dX4_daysBetween_19 : decode cX4_daysBetween 19 = .ok (.iconst 0, 1) := by decide +kernel
theorem dX4_daysBetween_20 : decode cX4_daysBetween 20 = .ok (.invokestatic 52, 3) := by decide +kernel
theorem dX4_daysBetween_23 : decode cX4_daysBetween 23 = .ok (.ireturn, 1) := by decide +kernel
set_option maxRecDepth 20000 in
theorem ggX4_pack_Jx4a65c_size_8abf5 : GoodIn wsX4_pack wsJx4a65c_size_8abf5 := goodIn_r _ [12, 13, 145, 146, 147] (by decide +kernel) (by decide +kernel)
set_option maxRecDepth 20000 in
theorem gX4_pack_Jx4a65c_size_8abf5 : GoodIn wsX4_pack (wsV RX4 55 RJx4a65c yJx4a65c_size_8abf5 wsJx4a65c_size_8abf5) := goodIn_app (goodIn_of _ (by decide +kernel)) ggX4_pack_Jx4a65c_size_8abf5
set_option maxRecDepth 20000 in
theorem ggX4_pack_Jx4a65c_get_915e3 : GoodIn wsX4_pack wsJx4a65c_get_915e3 := goodIn_r _ [17, 13, 18, 19, 20, 21, 22, 23, 24, 25, 26, 27, 28, 11, 29, 30, 145, 146, 147] (by decide +kernel) (by decide +kernel)
set_option maxRecDepth 20000 in
theorem gX4_pack_Jx4a65c_get_915e3 : GoodIn wsX4_pack (wsV RX4 58 RJx4a65c yJx4a65c_get_915e3 wsJx4a65c_get_915e3) := goodIn_app (goodIn_of _ (by decide +kernel)) ggX4_pack_Jx4a65c_get_915e3
set_option maxRecDepth 20000 in
theorem ggX4_pack_X5_fits : GoodIn wsX4_pack wsX5_fits := goodIn_r _ [34, 35, 36, 37, 38, 39, 40, 9, 10, 11, 12, 13, 41, 15, 16, 17, 18, 19, 20, 21, 22, 23, 24, 25, 26, 27, 28, 29, 30, 42, 43, 44, 45, 46, 47, 48, 49, 50, 141, 142, 143, 144, 148, 149, 150, 151, 152, 153, 154, 155, 156, 145, 146, 147] (by decide +kernel) (by decide +kernel)
set_option maxRecDepth 20000 in
theorem gX4_pack_X5_fits : GoodIn wsX4_pack (wsV RX4 67 RX5 yX5_fits wsX5_fits) := goodIn_app (goodIn_of _ (by decide +kernel)) ggX4_pack_X5_fits
set_option maxRecDepth 20000 in
theorem ggX4_pack_X5_put : GoodIn wsX4_pack wsX5_put := goodIn_r _ [54, 37, 35, 36, 55, 56, 57, 11, 58, 59, 60, 30, 13, 61, 62, 63, 64, 65, 66, 67, 68, 69, 70, 71, 72, 73, 74, 75, 76, 77, 78, 79, 80, 81, 82, 83, 84, 85, 86, 87, 88, 89, 90, 91, 92, 93, 94, 95, 96, 97, 98, 99, 100, 101, 102, 103, 104, 105, 106, 107, 141, 142, 143, 144, 148, 149, 150, 151, 152, 153, 154, 155, 156, 145, 146, 147] (by decide +kernel) (by decide +kernel)
set_option maxRecDepth 20000 in
theorem gX4_pack_X5_put : GoodIn wsX4_pack (wsV RX4 71 RX5 yX5_put wsX5_put) := goodIn_app (goodIn_of _ (by decide +kernel)) ggX4_pack_X5_put
set_option maxRecDepth 20000 in
theorem ggX4_pack_X5_init : GoodIn wsX4_pack wsX5_init := goodIn_r _ [109, 110, 111, 112, 35, 113, 114, 11, 37, 115, 116, 117, 118, 119, 73, 30, 120, 121, 122, 123, 124, 125, 126, 127, 128, 129, 141, 142, 143, 144, 145, 146, 147] (by decide +kernel) (by decide +kernel)
set_option maxRecDepth 20000 in
theorem gX4_pack_X5_init_n75 : GoodIn wsX4_pack (wsX5_init) := ggX4_pack_X5_init
set_option maxRecDepth 20000 in
theorem ggX4_pack_Jx4a65c_add_9ea2d : GoodIn wsX4_pack wsJx4a65c_add_9ea2d := goodIn_r _ [58, 59, 60, 30, 13, 61, 62, 63, 11, 64, 65, 66, 67, 68, 69, 70, 71, 72, 73, 74, 75, 76, 77, 78, 79, 80, 81, 82, 83, 84, 85, 86, 87, 88, 89, 90, 91, 92, 93, 94, 95, 96, 97, 98, 99, 100, 101, 102, 103, 104, 105, 106, 107, 145, 146, 147] (by decide +kernel) (by decide +kernel)
set_option maxRecDepth 20000 in
theorem gX4_pack_Jx4a65c_add_9ea2d : GoodIn wsX4_pack (wsV RX4 76 RJx4a65c yJx4a65c_add_9ea2d wsJx4a65c_add_9ea2d) := goodIn_app (goodIn_of _ (by decide +kernel)) ggX4_pack_Jx4a65c_add_9ea2d
theorem dX4_pack_0 : decode cX4_pack 0 = .ok (.iconst 0, 1) := by decide +kernel
theorem dX4_pack_1 : decode cX4_pack 1 = .ok (.istore_n 2, 1) := by decide +kernel
theorem dX4_pack_2 : decode cX4_pack 2 = .ok (.iload_n 2, 1) := by decide +kernel
theorem dX4_pack_3 : decode cX4_pack 3 = .ok (.aload_n 0, 1) := by decide +kernel
theorem dX4_pack_4 : decode cX4_pack 4 = .ok (.getfield 12, 3) := by decide +kernel
theorem dX4_pack_7 : decode cX4_pack 7 = .ok (.invokevirtual 55, 3) := by decide +kernel
theorem dX4_pack_10 : decode cX4_pack 10 = .ok (.if_icmp .ge 50, 3) := by decide +kernel
theorem dX4_pack_13 : decode cX4_pack 13 = .ok (.aload_n 0, 1) := by decide +kernel
theorem dX4_pack_14 : decode cX4_pack 14 = .ok (.getfield 12, 3) := by decide +kernel
theorem dX4_pack_17 : decode cX4_pack 17 = .ok (.iload_n 2, 1) := by decide +kernel
theorem dX4_pack_18 : decode cX4_pack 18 = .ok (.invokevirtual 58, 3) := by decide +kernel
theorem dX4_pack_21 : decode cX4_pack 21 = .ok (.checkcast 62, 3) := by decide +kernel
theorem dX4_pack_24 : decode cX4_pack 24 = .ok (.aload_n 1, 1) := by decide +kernel
theorem dX4_pack_25 : decode cX4_pack 25 = .ok (.aload_n 0, 1) := by decide +kernel
theorem dX4_pack_26 : decode cX4_pack 26 = .ok (.getfield 22, 3) := by decide +kernel
theorem dX4_pack_29 : decode cX4_pack 29 = .ok (.getfield 64, 3) := by decide +kernel
theorem dX4_pack_32 : decode cX4_pack 32 = .ok (.invokevirtual 67, 3) := by decide +kernel
theorem dX4_pack_35 : decode cX4_pack 35 = .ok (.ifCond .eq 19, 3) := by decide +kernel
theorem dX4_pack_38 : decode cX4_pack 38 = .ok (.aload_n 0, 1) := by decide +kernel
theorem dX4_pack_39 : decode cX4_pack 39 = .ok (.getfield 12, 3) := by decide +kernel
theorem dX4_pack_42 : decode cX4_pack 42 = .ok (.iload_n 2, 1) := by decide +kernel
theorem dX4_pack_43 : decode cX4_pack 43 = .ok (.invokevirtual 58, 3) := by decide +kernel
theorem dX4_pack_46 : decode cX4_pack 46 = .ok (.checkcast 62, 3) := by decide +kernel
theorem dX4_pack_49 : decode cX4_pack 49 = .ok (.aload_n 1, 1) := by decide +kernel
theorem dX4_pack_50 : decode cX4_pack 50 = .ok (.invokevirtual 71, 3) := by decide +kernel
theorem dX4_pack_53 : decode cX4_pack 53 = .ok (.return_, 1) := by decide +kernel
theorem dX4_pack_54 : decode cX4_pack 54 = .ok (.iinc 2 1, 3) := by decide +kernel
theorem dX4_pack_57 : decode cX4_pack 57 = .ok (.goto (-55), 3) := by decide +kernel
theorem dX4_pack_60 : decode cX4_pack 60 = .ok (.new 62, 3) := by decide +kernel
theorem dX4_pack_63 : decode cX4_pack 63 = .ok (.dup, 1) := by decide +kernel
theorem dX4_pack_64 : decode cX4_pack 64 = .ok (.invokespecial 75, 3) := by decide +kernel
theorem dX4_pack_67 : decode cX4_pack 67 = .ok (.astore_n 2, 1) := by decide +kernel
theorem dX4_pack_68 : decode cX4_pack 68 = .ok (.aload_n 2, 1) := by decide +kernel
theorem dX4_pack_69 : decode cX4_pack 69 = .ok (.aload_n 1, 1) := by decide +kernel
theorem dX4_pack_70 : decode cX4_pack 70 = .ok (.invokevirtual 71, 3) := by decide +kernel
theorem dX4_pack_73 : decode cX4_pack 73 = .ok (.aload_n 0, 1) := by decide +kernel
theorem dX4_pack_74 : decode cX4_pack 74 = .ok (.getfield 12, 3) := by decide +kernel
theorem dX4_pack_77 : decode cX4_pack 77 = .ok (.aload_n 2, 1) := by decide +kernel
theorem dX4_pack_78 : decode cX4_pack 78 = .ok (.invokevirtual 76, 3) := by decide +kernel
theorem dX4_pack_81 : decode cX4_pack 81 = .ok (.pop, 1) := by decide +kernel
theorem dX4_pack_82 : decode cX4_pack 82 = .ok (.return_, 1) := by decide +kernel
set_option maxRecDepth 20000 in
theorem ggX4_parcelAt_Jx4a65c_size_8abf5 : GoodIn wsX4_parcelAt wsJx4a65c_size_8abf5 := goodIn_r _ [7, 8, 31, 32, 33] (by decide +kernel) (by decide +kernel)
set_option maxRecDepth 20000 in
theorem gX4_parcelAt_Jx4a65c_size_8abf5 : GoodIn wsX4_parcelAt (wsV RX4 55 RJx4a65c yJx4a65c_size_8abf5 wsJx4a65c_size_8abf5) := goodIn_app (goodIn_of _ (by decide +kernel)) ggX4_parcelAt_Jx4a65c_size_8abf5
set_option maxRecDepth 20000 in
theorem ggX4_parcelAt_Jx4a65c_get_915e3 : GoodIn wsX4_parcelAt wsJx4a65c_get_915e3 := goodIn_r _ [12, 8, 13, 14, 15, 16, 17, 18, 19, 20, 21, 22, 23, 6, 24, 25, 31, 32, 33] (by decide +kernel) (by decide +kernel)
set_option maxRecDepth 20000 in
theorem gX4_parcelAt_Jx4a65c_get_915e3 : GoodIn wsX4_parcelAt (wsV RX4 58 RJx4a65c yJx4a65c_get_915e3 wsJx4a65c_get_915e3) := goodIn_app (goodIn_of _ (by decide +kernel)) ggX4_parcelAt_Jx4a65c_get_915e3
theorem dX4_parcelAt_0 : decode cX4_parcelAt 0 = .ok (.iload_n 1, 1) := by decide +kernel
theorem dX4_parcelAt_1 : decode cX4_parcelAt 1 = .ok (.ifCond .lt 28, 3) := by decide +kernel
theorem dX4_parcelAt_4 : decode cX4_parcelAt 4 = .ok (.iload_n 1, 1) := by decide +kernel
theorem dX4_parcelAt_5 : decode cX4_parcelAt 5 = .ok (.aload_n 0, 1) := by decide +kernel
theorem dX4_parcelAt_6 : decode cX4_parcelAt 6 = .ok (.getfield 12, 3) := by decide +kernel
theorem dX4_parcelAt_9 : decode cX4_parcelAt 9 = .ok (.invokevirtual 55, 3) := by decide +kernel
theorem dX4_parcelAt_12 : decode cX4_parcelAt 12 = .ok (.if_icmp .ge 17, 3) := by decide +kernel
theorem dX4_parcelAt_15 : decode cX4_parcelAt 15 = .ok (.aload_n 0, 1) := by decide +kernel
theorem dX4_parcelAt_16 : decode cX4_parcelAt 16 = .ok (.getfield 12, 3) := by decide +kernel
theorem dX4_parcelAt_19 : decode cX4_parcelAt 19 = .ok (.iload_n 1, 1) := by decide +kernel
theorem dX4_parcelAt_20 : decode cX4_parcelAt 20 = .ok (.invokevirtual 58, 3) := by decide +kernel
theorem dX4_parcelAt_23 : decode cX4_parcelAt 23 = .ok (.checkcast 62, 3) := by decide +kernel
theorem dX4_parcelAt_26 : decode cX4_parcelAt 26 = .ok (.goto 4, 3) := by decide +kernel
theorem dX4_parcelAt_29 : decode cX4_parcelAt 29 = .ok (.aconst_null, 1) := by decide +kernel
theorem dX4_parcelAt_30 : decode cX4_parcelAt 30 = .ok (.areturn, 1) := by decide +kernel
set_option maxRecDepth 20000 in
theorem ggX4_parcelWith_Jx4a65c_size_8abf5 : GoodIn wsX4_parcelWith wsJx4a65c_size_8abf5 := goodIn_r _ [7, 8, 41, 42, 43] (by decide +kernel) (by decide +kernel)
set_option maxRecDepth 20000 in
theorem gX4_parcelWith_Jx4a65c_size_8abf5 : GoodIn wsX4_parcelWith (wsV RX4 55 RJx4a65c yJx4a65c_size_8abf5 wsJx4a65c_size_8abf5) := goodIn_app (goodIn_of _ (by decide +kernel)) ggX4_parcelWith_Jx4a65c_size_8abf5
set_option maxRecDepth 20000 in
theorem ggX4_parcelWith_Jx4a65c_get_915e3 : GoodIn wsX4_parcelWith wsJx4a65c_get_915e3 := goodIn_r _ [12, 8, 13, 14, 15, 16, 17, 18, 19, 20, 21, 22, 23, 6, 24, 25, 41, 42, 43] (by decide +kernel) (by decide +kernel)
set_option maxRecDepth 20000 in
theorem gX4_parcelWith_Jx4a65c_get_915e3 : GoodIn wsX4_parcelWith (wsV RX4 58 RJx4a65c yJx4a65c_get_915e3 wsJx4a65c_get_915e3) := goodIn_app (goodIn_of _ (by decide +kernel)) ggX4_parcelWith_Jx4a65c_get_915e3
set_option maxRecDepth 20000 in
theorem ggX4_parcelWith_X5_holds : GoodIn wsX4_parcelWith wsX5_holds := goodIn_r _ [30, 31, 32, 33, 34, 4, 5, 6, 7, 8, 35, 10, 11, 12, 13, 14, 15, 16, 17, 18, 19, 20, 21, 22, 23, 24, 25, 44, 45, 46, 47, 48, 49, 50, 51, 52, 53, 54, 55, 56, 41, 42, 43] (by decide +kernel) (by decide +kernel)
set_option maxRecDepth 20000 in
theorem gX4_parcelWith_X5_holds : GoodIn wsX4_parcelWith (wsV RX4 80 RX5 yX5_holds wsX5_holds) := goodIn_app (goodIn_of _ (by decide +kernel)) ggX4_parcelWith_X5_holds
theorem dX4_parcelWith_0 : decode cX4_parcelWith 0 = .ok (.iconst 0, 1) := by decide +kernel
theorem dX4_parcelWith_1 : decode cX4_parcelWith 1 = .ok (.istore_n 2, 1) := by decide +kernel
theorem dX4_parcelWith_2 : decode cX4_parcelWith 2 = .ok (.iload_n 2, 1) := by decide +kernel
theorem dX4_parcelWith_3 : decode cX4_parcelWith 3 = .ok (.aload_n 0, 1) := by decide +kernel
theorem dX4_parcelWith_4 : decode cX4_parcelWith 4 = .ok (.getfield 12, 3) := by decide +kernel
theorem dX4_parcelWith_7 : decode cX4_parcelWith 7 = .ok (.invokevirtual 55, 3) := by decide +kernel
theorem dX4_parcelWith_10 : decode cX4_parcelWith 10 = .ok (.if_icmp .ge 29, 3) := by decide +kernel
theorem dX4_parcelWith_13 : decode cX4_parcelWith 13 = .ok (.aload_n 0, 1) := by decide +kernel
theorem dX4_parcelWith_14 : decode cX4_parcelWith 14 = .ok (.getfield 12, 3) := by decide +kernel
theorem dX4_parcelWith_17 : decode cX4_parcelWith 17 = .ok (.iload_n 2, 1) := by decide +kernel
theorem dX4_parcelWith_18 : decode cX4_parcelWith 18 = .ok (.invokevirtual 58, 3) := by decide +kernel
theorem dX4_parcelWith_21 : decode cX4_parcelWith 21 = .ok (.checkcast 62, 3) := by decide +kernel
theorem dX4_parcelWith_24 : decode cX4_parcelWith 24 = .ok (.iload_n 1, 1) := by decide +kernel
theorem dX4_parcelWith_25 : decode cX4_parcelWith 25 = .ok (.invokevirtual 80, 3) := by decide +kernel
theorem dX4_parcelWith_28 : decode cX4_parcelWith 28 = .ok (.ifCond .eq 5, 3) := by decide +kernel
theorem dX4_parcelWith_31 : decode cX4_parcelWith 31 = .ok (.iload_n 2, 1) := by decide +kernel
theorem dX4_parcelWith_32 : decode cX4_parcelWith 32 = .ok (.ireturn, 1) := by decide +kernel
theorem dX4_parcelWith_33 : decode cX4_parcelWith 33 = .ok (.iinc 2 1, 3) := by decide +kernel
theorem dX4_parcelWith_36 : decode cX4_parcelWith 36 = .ok (.goto (-34), 3) := by decide +kernel
theorem dX4_parcelWith_39 : decode cX4_parcelWith 39 = .ok (.iconst (-1), 1) := by decide +kernel
theorem dX4_parcelWith_40 : decode cX4_parcelWith 40 = .ok (.ireturn, 1) := by decide +kernel
set_option maxRecDepth 20000 in
theorem ggX4_nextToGuard_Jx4a65c_size_8abf5 : GoodIn wsX4_nextToGuard wsJx4a65c_size_8abf5 := goodIn_r _ [9, 10, 80, 81, 82] (by decide +kernel) (by decide +kernel)
set_option maxRecDepth 20000 in
theorem gX4_nextToGuard_Jx4a65c_size_8abf5 : GoodIn wsX4_nextToGuard (wsV RX4 55 RJx4a65c yJx4a65c_size_8abf5 wsJx4a65c_size_8abf5) := goodIn_app (goodIn_of _ (by decide +kernel)) ggX4_nextToGuard_Jx4a65c_size_8abf5
set_option maxRecDepth 20000 in
theorem ggX4_nextToGuard_Jx4a65c_get_915e3 : GoodIn wsX4_nextToGuard wsJx4a65c_get_915e3 := goodIn_r _ [14, 10, 15, 16, 17, 18, 19, 20, 21, 22, 23, 24, 25, 8, 26, 27, 80, 81, 82] (by decide +kernel) (by decide +kernel)
set_option maxRecDepth 20000 in
theorem gX4_nextToGuard_Jx4a65c_get_915e3 : GoodIn wsX4_nextToGuard (wsV RX4 58 RJx4a65c yJx4a65c_get_915e3 wsJx4a65c_get_915e3) := goodIn_app (goodIn_of _ (by decide +kernel)) ggX4_nextToGuard_Jx4a65c_get_915e3
set_option maxRecDepth 20000 in
theorem ggX4_nextToGuard_X4_firstOf : GoodIn wsX4_nextToGuard wsX4_firstOf := goodIn_r _ [32, 33, 1, 34, 35, 70, 71, 72, 73, 74, 75, 76, 77, 78, 79] (by decide +kernel) (by decide +kernel)
set_option maxRecDepth 20000 in
theorem gX4_nextToGuard_X4_firstOf : GoodIn wsX4_nextToGuard (wsV RX4 42 RX4 yX4_firstOf wsX4_firstOf) := goodIn_app (goodIn_of _ (by decide +kernel)) ggX4_nextToGuard_X4_firstOf
set_option maxRecDepth 20000 in
theorem ggX4_nextToGuard_X5_worthOn : GoodIn wsX4_nextToGuard wsX5_worthOn := goodIn_r _ [40, 41, 42, 43, 6, 7, 8, 9, 10, 44, 12, 13, 14, 15, 16, 17, 18, 19, 20, 21, 22, 23, 24, 25, 26, 27, 45, 46, 47, 48, 49, 50, 51, 52, 53, 54, 55, 56, 57, 58, 59, 60, 61, 62, 63, 83, 84, 85, 86, 80, 81, 82, 87, 88, 89, 90, 91, 92, 93, 94, 95, 96, 97, 98] (by decide +kernel) (by decide +kernel)
set_option maxRecDepth 20000 in
theorem gX4_nextToGuard_X5_worthOn : GoodIn wsX4_nextToGuard (wsV RX4 87 RX5 yX5_worthOn wsX5_worthOn) := goodIn_app (goodIn_of _ (by decide +kernel)) ggX4_nextToGuard_X5_worthOn
set_option maxRecDepth 20000 in
theorem ggX4_nextToGuard_X5_courierOn : GoodIn wsX4_nextToGuard wsX5_courierOn := goodIn_r _ [67, 68, 69, 83, 84, 85, 86] (by decide +kernel) (by decide +kernel)
set_option maxRecDepth 20000 in
theorem gX4_nextToGuard_X5_courierOn : GoodIn wsX4_nextToGuard (wsV RX4 90 RX5 yX5_courierOn wsX5_courierOn) := goodIn_app (goodIn_of _ (by decide +kernel)) ggX4_nextToGuard_X5_courierOn
theorem dX4_nextToGuard_0 : decode cX4_nextToGuard 0 = .ok (.aconst_null, 1) := by decide +kernel
theorem dX4_nextToGuard_1 : decode cX4_nextToGuard 1 = .ok (.astore_n 2, 1) := by decide +kernel
theorem dX4_nextToGuard_2 : decode cX4_nextToGuard 2 = .ok (.aload_n 0, 1) := by decide +kernel
theorem dX4_nextToGuard_3 : decode cX4_nextToGuard 3 = .ok (.getfield 22, 3) := by decide +kernel
theorem dX4_nextToGuard_6 : decode cX4_nextToGuard 6 = .ok (.getfield 84, 3) := by decide +kernel
theorem dX4_nextToGuard_9 : decode cX4_nextToGuard 9 = .ok (.istore_n 3, 1) := by decide +kernel
theorem dX4_nextToGuard_10 : decode cX4_nextToGuard 10 = .ok (.iconst 0, 1) := by decide +kernel
theorem dX4_nextToGuard_11 : decode cX4_nextToGuard 11 = .ok (.istore 4, 2) := by decide +kernel
theorem dX4_nextToGuard_13 : decode cX4_nextToGuard 13 = .ok (.iload 4, 2) := by decide +kernel
theorem dX4_nextToGuard_15 : decode cX4_nextToGuard 15 = .ok (.aload_n 0, 1) := by decide +kernel
theorem dX4_nextToGuard_16 : decode cX4_nextToGuard 16 = .ok (.getfield 12, 3) := by decide +kernel
theorem dX4_nextToGuard_19 : decode cX4_nextToGuard 19 = .ok (.invokevirtual 55, 3) := by decide +kernel
theorem dX4_nextToGuard_22 : decode cX4_nextToGuard 22 = .ok (.if_icmp .ge 57, 3) := by decide +kernel
theorem dX4_nextToGuard_25 : decode cX4_nextToGuard 25 = .ok (.aload_n 0, 1) := by decide +kernel
theorem dX4_nextToGuard_26 : decode cX4_nextToGuard 26 = .ok (.getfield 12, 3) := by decide +kernel
theorem dX4_nextToGuard_29 : decode cX4_nextToGuard 29 = .ok (.iload 4, 2) := by decide +kernel
theorem dX4_nextToGuard_31 : decode cX4_nextToGuard 31 = .ok (.invokevirtual 58, 3) := by decide +kernel
theorem dX4_nextToGuard_34 : decode cX4_nextToGuard 34 = .ok (.checkcast 62, 3) := by decide +kernel
theorem dX4_nextToGuard_37 : decode cX4_nextToGuard 37 = .ok (.astore 5, 2) := by decide +kernel
theorem dX4_nextToGuard_39 : decode cX4_nextToGuard 39 = .ok (.aload 5, 2) := by decide +kernel
theorem dX4_nextToGuard_41 : decode cX4_nextToGuard 41 = .ok (.aload_n 0, 1) := by decide +kernel
theorem dX4_nextToGuard_42 : decode cX4_nextToGuard 42 = .ok (.iload_n 1, 1) := by decide +kernel
theorem dX4_nextToGuard_43 : decode cX4_nextToGuard 43 = .ok (.invokevirtual 42, 3) := by decide +kernel
theorem dX4_nextToGuard_46 : decode cX4_nextToGuard 46 = .ok (.invokevirtual 87, 3) := by decide +kernel
theorem dX4_nextToGuard_49 : decode cX4_nextToGuard 49 = .ok (.istore 6, 2) := by decide +kernel
theorem dX4_nextToGuard_51 : decode cX4_nextToGuard 51 = .ok (.aload 5, 2) := by decide +kernel
theorem dX4_nextToGuard_53 : decode cX4_nextToGuard 53 = .ok (.iload_n 1, 1) := by decide +kernel
theorem dX4_nextToGuard_54 : decode cX4_nextToGuard 54 = .ok (.invokevirtual 90, 3) := by decide +kernel
theorem dX4_nextToGuard_57 : decode cX4_nextToGuard 57 = .ok (.iconst (-1), 1) := by decide +kernel
theorem dX4_nextToGuard_58 : decode cX4_nextToGuard 58 = .ok (.if_icmp .ne 15, 3) := by decide +kernel
theorem dX4_nextToGuard_61 : decode cX4_nextToGuard 61 = .ok (.iload 6, 2) := by decide +kernel
theorem dX4_nextToGuard_63 : decode cX4_nextToGuard 63 = .ok (.iload_n 3, 1) := by decide +kernel
theorem dX4_nextToGuard_64 : decode cX4_nextToGuard 64 = .ok (.if_icmp .le 9, 3) := by decide +kernel
theorem dX4_nextToGuard_67 : decode cX4_nextToGuard 67 = .ok (.aload 5, 2) := by decide +kernel
theorem dX4_nextToGuard_69 : decode cX4_nextToGuard 69 = .ok (.astore_n 2, 1) := by decide +kernel
theorem dX4_nextToGuard_70 : decode cX4_nextToGuard 70 = .ok (.iload 6, 2) := by decide +kernel
theorem dX4_nextToGuard_72 : decode cX4_nextToGuard 72 = .ok (.istore_n 3, 1) := by decide +kernel
theorem dX4_nextToGuard_73 : decode cX4_nextToGuard 73 = .ok (.iinc 4 1, 3) := by decide +kernel
theorem dX4_nextToGuard_76 : decode cX4_nextToGuard 76 = .ok (.goto (-63), 3) := by decide +kernel
theorem dX4_nextToGuard_79 : decode cX4_nextToGuard 79 = .ok (.aload_n 2, 1) := by decide +kernel
theorem dX4_nextToGuard_80 : decode cX4_nextToGuard 80 = .ok (.areturn, 1) := by decide +kernel
set_option maxRecDepth 20000 in
theorem ggX4_costOn_X4_stageOn : GoodIn wsX4_costOn wsX4_stageOn := goodIn_r _ [9, 10, 3, 11, 12, 13, 14, 8, 15, 16, 17, 18, 19, 20, 104, 105, 106, 107, 108, 109, 110, 111, 112, 113] (by decide +kernel) (by decide +kernel)
set_option maxRecDepth 20000 in
theorem gX4_costOn_X4_stageOn : GoodIn wsX4_costOn (wsV RX4 93 RX4 yX4_stageOn wsX4_stageOn) := goodIn_app (goodIn_of _ (by decide +kernel)) ggX4_costOn_X4_stageOn
set_option maxRecDepth 20000 in
theorem ggX4_costOn_Jx4a65c_size_8abf5 : GoodIn wsX4_costOn wsJx4a65c_size_8abf5 := goodIn_r _ [25, 26, 114, 115, 116] (by decide +kernel) (by decide +kernel)
set_option maxRecDepth 20000 in
theorem gX4_costOn_Jx4a65c_size_8abf5 : GoodIn wsX4_costOn (wsV RX4 55 RJx4a65c yJx4a65c_size_8abf5 wsJx4a65c_size_8abf5) := goodIn_app (goodIn_of _ (by decide +kernel)) ggX4_costOn_Jx4a65c_size_8abf5
set_option maxRecDepth 20000 in
theorem ggX4_costOn_Jx4a65c_get_915e3 : GoodIn wsX4_costOn wsJx4a65c_get_915e3 := goodIn_r _ [30, 26, 31, 32, 33, 34, 35, 36, 37, 38, 39, 40, 41, 24, 42, 43, 114, 115, 116] (by decide +kernel) (by decide +kernel)
set_option maxRecDepth 20000 in
theorem gX4_costOn_Jx4a65c_get_915e3 : GoodIn wsX4_costOn (wsV RX4 58 RJx4a65c yJx4a65c_get_915e3 wsJx4a65c_get_915e3) := goodIn_app (goodIn_of _ (by decide +kernel)) ggX4_costOn_Jx4a65c_get_915e3
set_option maxRecDepth 20000 in
theorem ggX4_costOn_X5_riskOn : GoodIn wsX4_costOn wsX5_riskOn := goodIn_r _ [48, 49, 50, 51, 22, 23, 24, 25, 26, 52, 28, 29, 30, 31, 32, 33, 34, 35, 36, 37, 38, 39, 40, 41, 42, 43, 53, 54, 55, 56, 57, 58, 59, 60, 61, 62, 63, 64, 65, 66, 67, 68, 69, 70, 71, 72, 73, 74, 75, 76, 77, 78, 79, 80, 81, 82, 83, 84, 85, 86, 87, 88, 89, 90, 91, 92, 93, 94, 117, 118, 119, 120, 114, 115, 116, 121, 122, 123, 124, 125, 126, 127, 128, 129, 130, 131, 132, 133, 134, 135, 136] (by decide +kernel) (by decide +kernel)
set_option maxRecDepth 20000 in
theorem gX4_costOn_X5_riskOn : GoodIn wsX4_costOn (wsV RX4 96 RX5 yX5_riskOn wsX5_riskOn) := goodIn_app (goodIn_of _ (by decide +kernel)) ggX4_costOn_X5_riskOn
set_option maxRecDepth 20000 in
theorem ggX4_costOn_X4_dangerOf : GoodIn wsX4_costOn wsX4_dangerOf := goodIn_r _ [97, 98, 99, 100, 47, 101, 102, 103, 117, 118, 119, 120] (by decide +kernel) (by decide +kernel)
set_option maxRecDepth 20000 in
theorem gX4_costOn_X4_dangerOf : GoodIn wsX4_costOn (va_wsS RX4 99 yX4_dangerOf wsX4_dangerOf) := goodIn_app (goodIn_of _ (by decide +kernel)) ggX4_costOn_X4_dangerOf
theorem dX4_costOn_0 : decode cX4_costOn 0 = .ok (.aload_n 0, 1) := by decide +kernel
theorem dX4_costOn_1 : decode cX4_costOn 1 = .ok (.iload_n 1, 1) := by decide +kernel
theorem dX4_costOn_2 : decode cX4_costOn 2 = .ok (.invokevirtual 93, 3) := by decide +kernel
theorem dX4_costOn_5 : decode cX4_costOn 5 = .ok (.istore_n 2, 1) := by decide +kernel
theorem dX4_costOn_6 : decode cX4_costOn 6 = .ok (.iload_n 2, 1) := by decide +kernel
theorem dX4_costOn_7 : decode cX4_costOn 7 = .ok (.ifCond .ne 5, 3) := by decide +kernel
theorem dX4_costOn_10 : decode cX4_costOn 10 = .ok (.iconst 0, 1) := by decide +kernel
theorem dX4_costOn_11 : decode cX4_costOn 11 = .ok (.ireturn, 1) := by decide +kernel
theorem dX4_costOn_12 : decode cX4_costOn 12 = .ok (.iconst 0, 1) := by decide +kernel
theorem dX4_costOn_13 : decode cX4_costOn 13 = .ok (.istore_n 3, 1) := by decide +kernel
theorem dX4_costOn_14 : decode cX4_costOn 14 = .ok (.iconst 0, 1) := by decide +kernel
theorem dX4_costOn_15 : decode cX4_costOn 15 = .ok (.istore 4, 2) := by decide +kernel
theorem dX4_costOn_17 : decode cX4_costOn 17 = .ok (.iload 4, 2) := by decide +kernel
theorem dX4_costOn_19 : decode cX4_costOn 19 = .ok (.aload_n 0, 1) := by decide +kernel
theorem dX4_costOn_20 : decode cX4_costOn 20 = .ok (.getfield 12, 3) := by decide +kernel
theorem dX4_costOn_23 : decode cX4_costOn 23 = .ok (.invokevirtual 55, 3) := by decide +kernel
theorem dX4_costOn_26 : decode cX4_costOn 26 = .ok (.if_icmp .ge 39, 3) := by decide +kernel
theorem dX4_costOn_29 : decode cX4_costOn 29 = .ok (.aload_n 0, 1) := by decide +kernel
theorem dX4_costOn_30 : decode cX4_costOn 30 = .ok (.getfield 12, 3) := by decide +kernel
theorem dX4_costOn_33 : decode cX4_costOn 33 = .ok (.iload 4, 2) := by decide +kernel
theorem dX4_costOn_35 : decode cX4_costOn 35 = .ok (.invokevirtual 58, 3) := by decide +kernel
theorem dX4_costOn_38 : decode cX4_costOn 38 = .ok (.checkcast 62, 3) := by decide +kernel
theorem dX4_costOn_41 : decode cX4_costOn 41 = .ok (.astore 5, 2) := by decide +kernel
theorem dX4_costOn_43 : decode cX4_costOn 43 = .ok (.iload_n 3, 1) := by decide +kernel
theorem dX4_costOn_44 : decode cX4_costOn 44 = .ok (.aload 5, 2) := by decide +kernel
theorem dX4_costOn_46 : decode cX4_costOn 46 = .ok (.iload_n 1, 1) := by decide +kernel
theorem dX4_costOn_47 : decode cX4_costOn 47 = .ok (.invokevirtual 96, 3) := by decide +kernel
theorem dX4_costOn_50 : decode cX4_costOn 50 = .ok (.aload 5, 2) := by decide +kernel
theorem dX4_costOn_52 : decode cX4_costOn 52 = .ok (.iload_n 2, 1) := by decide +kernel
theorem dX4_costOn_53 : decode cX4_costOn 53 = .ok (.invokestatic 99, 3) := by decide +kernel
theorem dX4_costOn_56 : decode cX4_costOn 56 = .ok (.imul, 1) := by decide +kernel
theorem dX4_costOn_57 : decode cX4_costOn 57 = .ok (.iadd, 1) := by decide +kernel
theorem dX4_costOn_58 : decode cX4_costOn 58 = .ok (.istore_n 3, 1) := by decide +kernel
theorem dX4_costOn_59 : decode cX4_costOn 59 = .ok (.iinc 4 1, 3) := by decide +kernel
theorem dX4_costOn_62 : decode cX4_costOn 62 = .ok (.goto (-45), 3) := by decide +kernel
theorem dX4_costOn_65 : decode cX4_costOn 65 = .ok (.iload_n 3, 1) := by decide +kernel
theorem dX4_costOn_66 : decode cX4_costOn 66 = .ok (.aload_n 0, 1) := by decide +kernel
theorem dX4_costOn_67 : decode cX4_costOn 67 = .ok (.getfield 22, 3) := by decide +kernel
theorem dX4_costOn_70 : decode cX4_costOn 70 = .ok (.getfield 103, 3) := by decide +kernel
theorem dX4_costOn_73 : decode cX4_costOn 73 = .ok (.imul, 1) := by decide +kernel
theorem dX4_costOn_74 : decode cX4_costOn 74 = .ok (.ireturn, 1) := by decide +kernel
set_option maxRecDepth 20000 in
theorem ggX4_dangerOf_X5_courierOn : GoodIn wsX4_dangerOf wsX5_courierOn := goodIn_r _ [5, 6, 7, 8, 9, 10, 11] (by decide +kernel) (by decide +kernel)
set_option maxRecDepth 20000 in
theorem gX4_dangerOf_X5_courierOn : GoodIn wsX4_dangerOf (wsV RX4 90 RX5 yX5_courierOn wsX5_courierOn) := goodIn_app (goodIn_of _ (by decide +kernel)) ggX4_dangerOf_X5_courierOn
theorem dX4_dangerOf_0 : decode cX4_dangerOf 0 = .ok (.iload_n 1, 1) := by decide +kernel
theorem dX4_dangerOf_1 : decode cX4_dangerOf 1 = .ok (.iconst 2, 1) := by decide +kernel
theorem dX4_dangerOf_2 : decode cX4_dangerOf 2 = .ok (.if_icmp .ne 5, 3) := by decide +kernel
theorem dX4_dangerOf_5 : decode cX4_dangerOf 5 = .ok (.iconst 1, 1) := by decide +kernel
theorem dX4_dangerOf_6 : decode cX4_dangerOf 6 = .ok (.ireturn, 1) := by decide +kernel
theorem dX4_dangerOf_7 : decode cX4_dangerOf 7 = .ok (.aload_n 0, 1) := by decide +kernel
theorem dX4_dangerOf_8 : decode cX4_dangerOf 8 = .ok (.iload_n 1, 1) := by decide +kernel
theorem dX4_dangerOf_9 : decode cX4_dangerOf 9 = .ok (.iconst 1, 1) := by decide +kernel
theorem dX4_dangerOf_10 : decode cX4_dangerOf 10 = .ok (.if_icmp .ne 7, 3) := by decide +kernel
theorem dX4_dangerOf_13 : decode cX4_dangerOf 13 = .ok (.iconst 0, 1) := by decide +kernel
theorem dX4_dangerOf_14 : decode cX4_dangerOf 14 = .ok (.goto 4, 3) := by decide +kernel
theorem dX4_dangerOf_17 : decode cX4_dangerOf 17 = .ok (.iconst 1, 1) := by decide +kernel
theorem dX4_dangerOf_18 : decode cX4_dangerOf 18 = .ok (.invokevirtual 90, 3) := by decide +kernel
theorem dX4_dangerOf_21 : decode cX4_dangerOf 21 = .ok (.iconst (-1), 1) := by decide +kernel
theorem dX4_dangerOf_22 : decode cX4_dangerOf 22 = .ok (.if_icmp .ne 7, 3) := by decide +kernel
theorem dX4_dangerOf_25 : decode cX4_dangerOf 25 = .ok (.iconst 3, 1) := by decide +kernel
theorem dX4_dangerOf_26 : decode cX4_dangerOf 26 = .ok (.goto 4, 3) := by decide +kernel
theorem dX4_dangerOf_29 : decode cX4_dangerOf 29 = .ok (.iconst 2, 1) := by decide +kernel
theorem dX4_dangerOf_30 : decode cX4_dangerOf 30 = .ok (.ireturn, 1) := by decide +kernel
set_option maxRecDepth 20000 in
theorem ggX4_costBetween_X4_last : GoodIn wsX4_costBetween wsX4_last := goodIn_r _ [13, 5, 14, 15, 16, 115, 116, 117, 118, 119, 120, 121, 122, 123, 124] (by decide +kernel) (by decide +kernel)
set_option maxRecDepth 20000 in
theorem gX4_costBetween_X4_last : GoodIn wsX4_costBetween (wsV RX4 38 RX4 yX4_last wsX4_last) := goodIn_app (goodIn_of _ (by decide +kernel)) ggX4_costBetween_X4_last
set_option maxRecDepth 20000 in
theorem ggX4_costBetween_X4_costOn : GoodIn wsX4_costBetween wsX4_costOn := goodIn_r _ [20, 21, 22, 14, 23, 24, 25, 26, 12, 27, 5, 15, 9, 10, 11, 13, 16, 28, 29, 30, 31, 32, 33, 34, 35, 36, 37, 38, 39, 40, 41, 42, 43, 44, 45, 46, 47, 48, 49, 50, 51, 52, 53, 54, 55, 56, 57, 58, 59, 60, 61, 62, 63, 64, 65, 66, 67, 68, 69, 70, 71, 72, 73, 74, 75, 76, 77, 78, 79, 80, 81, 82, 83, 84, 85, 86, 87, 88, 89, 90, 91, 92, 93, 94, 95, 96, 97, 98, 99, 100, 101, 102, 103, 104, 105, 106, 107, 108, 109, 110, 111, 112, 113, 114, 115, 116, 117, 118, 119, 120, 121, 122, 123, 124, 125, 126, 127, 128, 129, 130, 131, 132, 133, 134, 135, 136, 137, 138, 139, 140, 141, 142, 143, 144, 145, 146, 147] (by decide +kernel) (by decide +kernel)
set_option maxRecDepth 20000 in
theorem gX4_costBetween_X4_costOn : GoodIn wsX4_costBetween (wsV RX4 106 RX4 yX4_costOn wsX4_costOn) := goodIn_app (goodIn_of _ (by decide +kernel)) ggX4_costBetween_X4_costOn
theorem dX4_costBetween_0 : decode cX4_costBetween 0 = .ok (.lconst 0, 1) := by decide +kernel
theorem dX4_costBetween_1 : decode cX4_costBetween 1 = .ok (.lstore_n 3, 1) := by decide +kernel
theorem dX4_costBetween_2 : decode cX4_costBetween 2 = .ok (.iload_n 2, 1) := by decide +kernel
theorem dX4_costBetween_3 : decode cX4_costBetween 3 = .ok (.aload_n 0, 1) := by decide +kernel
theorem dX4_costBetween_4 : decode cX4_costBetween 4 = .ok (.invokevirtual 38, 3) := by decide +kernel
theorem dX4_costBetween_7 : decode cX4_costBetween 7 = .ok (.invokestatic 46, 3) := by decide +kernel
theorem dX4_costBetween_10 : decode cX4_costBetween 10 = .ok (.istore 5, 2) := by decide +kernel
theorem dX4_costBetween_12 : decode cX4_costBetween 12 = .ok (.iload_n 1, 1) := by decide +kernel
theorem dX4_costBetween_13 : decode cX4_costBetween 13 = .ok (.aload_n 0, 1) := by decide +kernel
theorem dX4_costBetween_14 : decode cX4_costBetween 14 = .ok (.getfield 26, 3) := by decide +kernel
theorem dX4_costBetween_17 : decode cX4_costBetween 17 = .ok (.invokestatic 52, 3) := by decide +kernel
theorem dX4_costBetween_20 : decode cX4_costBetween 20 = .ok (.istore 6, 2) := by decide +kernel
theorem dX4_costBetween_22 : decode cX4_costBetween 22 = .ok (.iload 6, 2) := by decide +kernel
theorem dX4_costBetween_24 : decode cX4_costBetween 24 = .ok (.iload 5, 2) := by decide +kernel
theorem dX4_costBetween_26 : decode cX4_costBetween 26 = .ok (.if_icmp .gt 19, 3) := by decide +kernel
theorem dX4_costBetween_29 : decode cX4_costBetween 29 = .ok (.lload_n 3, 1) := by decide +kernel
theorem dX4_costBetween_30 : decode cX4_costBetween 30 = .ok (.aload_n 0, 1) := by decide +kernel
theorem dX4_costBetween_31 : decode cX4_costBetween 31 = .ok (.iload 6, 2) := by decide +kernel
theorem dX4_costBetween_33 : decode cX4_costBetween 33 = .ok (.invokevirtual 106, 3) := by decide +kernel
theorem dX4_costBetween_36 : decode cX4_costBetween 36 = .ok (.i2l, 1) := by decide +kernel
theorem dX4_costBetween_37 : decode cX4_costBetween 37 = .ok (.ladd, 1) := by decide +kernel
theorem dX4_costBetween_38 : decode cX4_costBetween 38 = .ok (.lstore_n 3, 1) := by decide +kernel
theorem dX4_costBetween_39 : decode cX4_costBetween 39 = .ok (.iinc 6 1, 3) := by decide +kernel
theorem dX4_costBetween_42 : decode cX4_costBetween 42 = .ok (.goto (-20), 3) := by decide +kernel
theorem dX4_costBetween_45 : decode cX4_costBetween 45 = .ok (.lload_n 3, 1) := by decide +kernel
theorem dX4_costBetween_46 : decode cX4_costBetween 46 = .ok (.lreturn, 1) := by decide +kernel
set_option maxRecDepth 20000 in
theorem ggX4_dearestDay_X4_last : GoodIn wsX4_dearestDay wsX4_last := goodIn_r _ [6, 1, 7, 8, 9, 108, 109, 110, 111, 112, 113, 114, 115, 116, 117] (by decide +kernel) (by decide +kernel)
set_option maxRecDepth 20000 in
theorem gX4_dearestDay_X4_last : GoodIn wsX4_dearestDay (wsV RX4 38 RX4 yX4_last wsX4_last) := goodIn_app (goodIn_of _ (by decide +kernel)) ggX4_dearestDay_X4_last
set_option maxRecDepth 20000 in
theorem ggX4_dearestDay_X4_costOn : GoodIn wsX4_dearestDay wsX4_costOn := goodIn_r _ [13, 14, 15, 7, 16, 17, 18, 19, 5, 20, 1, 8, 2, 3, 4, 6, 9, 21, 22, 23, 24, 25, 26, 27, 28, 29, 30, 31, 32, 33, 34, 35, 36, 37, 38, 39, 40, 41, 42, 43, 44, 45, 46, 47, 48, 49, 50, 51, 52, 53, 54, 55, 56, 57, 58, 59, 60, 61, 62, 63, 64, 65, 66, 67, 68, 69, 70, 71, 72, 73, 74, 75, 76, 77, 78, 79, 80, 81, 82, 83, 84, 85, 86, 87, 88, 89, 90, 91, 92, 93, 94, 95, 96, 97, 98, 99, 100, 101, 102, 103, 104, 105, 106, 107, 108, 109, 110, 111, 112, 113, 114, 115, 116, 117, 118, 119, 120, 121, 122, 123, 124, 125, 126, 127, 128, 129, 130, 131, 132, 133, 134, 135, 136, 137, 138, 139, 140] (by decide +kernel) (by decide +kernel)
set_option maxRecDepth 20000 in
theorem gX4_dearestDay_X4_costOn : GoodIn wsX4_dearestDay (wsV RX4 106 RX4 yX4_costOn wsX4_costOn) := goodIn_app (goodIn_of _ (by decide +kernel)) ggX4_dearestDay_X4_costOn
theorem dX4_dearestDay_0 : decode cX4_dearestDay 0 = .ok (.aload_n 0, 1) := by decide +kernel
theorem dX4_dearestDay_1 : decode cX4_dearestDay 1 = .ok (.getfield 26, 3) := by decide +kernel
theorem dX4_dearestDay_4 : decode cX4_dearestDay 4 = .ok (.istore_n 1, 1) := by decide +kernel
theorem dX4_dearestDay_5 : decode cX4_dearestDay 5 = .ok (.iconst 0, 1) := by decide +kernel
theorem dX4_dearestDay_6 : decode cX4_dearestDay 6 = .ok (.istore_n 2, 1) := by decide +kernel
theorem dX4_dearestDay_7 : decode cX4_dearestDay 7 = .ok (.aload_n 0, 1) := by decide +kernel
theorem dX4_dearestDay_8 : decode cX4_dearestDay 8 = .ok (.invokevirtual 38, 3) := by decide +kernel
theorem dX4_dearestDay_11 : decode cX4_dearestDay 11 = .ok (.istore_n 3, 1) := by decide +kernel
theorem dX4_dearestDay_12 : decode cX4_dearestDay 12 = .ok (.aload_n 0, 1) := by decide +kernel
theorem dX4_dearestDay_13 : decode cX4_dearestDay 13 = .ok (.getfield 26, 3) := by decide +kernel
theorem dX4_dearestDay_16 : decode cX4_dearestDay 16 = .ok (.istore 4, 2) := by decide +kernel
theorem dX4_dearestDay_18 : decode cX4_dearestDay 18 = .ok (.iload 4, 2) := by decide +kernel
theorem dX4_dearestDay_20 : decode cX4_dearestDay 20 = .ok (.iload_n 3, 1) := by decide +kernel
theorem dX4_dearestDay_21 : decode cX4_dearestDay 21 = .ok (.if_icmp .gt 29, 3) := by decide +kernel
theorem dX4_dearestDay_24 : decode cX4_dearestDay 24 = .ok (.aload_n 0, 1) := by decide +kernel
theorem dX4_dearestDay_25 : decode cX4_dearestDay 25 = .ok (.iload 4, 2) := by decide +kernel
theorem dX4_dearestDay_27 : decode cX4_dearestDay 27 = .ok (.invokevirtual 106, 3) := by decide +kernel
theorem dX4_dearestDay_30 : decode cX4_dearestDay 30 = .ok (.istore 5, 2) := by decide +kernel
theorem dX4_dearestDay_32 : decode cX4_dearestDay 32 = .ok (.iload 5, 2) := by decide +kernel
theorem dX4_dearestDay_34 : decode cX4_dearestDay 34 = .ok (.iload_n 2, 1) := by decide +kernel
theorem dX4_dearestDay_35 : decode cX4_dearestDay 35 = .ok (.if_icmp .le 9, 3) := by decide +kernel
theorem dX4_dearestDay_38 : decode cX4_dearestDay 38 = .ok (.iload 4, 2) := by decide +kernel
theorem dX4_dearestDay_40 : decode cX4_dearestDay 40 = .ok (.istore_n 1, 1) := by decide +kernel
theorem dX4_dearestDay_41 : decode cX4_dearestDay 41 = .ok (.iload 5, 2) := by decide +kernel
theorem dX4_dearestDay_43 : decode cX4_dearestDay 43 = .ok (.istore_n 2, 1) := by decide +kernel
theorem dX4_dearestDay_44 : decode cX4_dearestDay 44 = .ok (.iinc 4 1, 3) := by decide +kernel
theorem dX4_dearestDay_47 : decode cX4_dearestDay 47 = .ok (.goto (-29), 3) := by decide +kernel
theorem dX4_dearestDay_50 : decode cX4_dearestDay 50 = .ok (.iload_n 1, 1) := by decide +kernel
theorem dX4_dearestDay_51 : decode cX4_dearestDay 51 = .ok (.ireturn, 1) := by decide +kernel
set_option maxRecDepth 20000 in
theorem ggX5_init_Jx4a65c_init_da8c8 : GoodIn wsX5_init wsJx4a65c_init_da8c8 := goodIn_r _ [13, 14, 15, 16, 17, 18, 19, 20, 21, 22, 23, 24, 25, 2, 3, 30, 31, 32] (by decide +kernel) (by decide +kernel)
set_option maxRecDepth 20000 in
theorem gX5_init_Jx4a65c_init_da8c8 : GoodIn wsX5_init (wsJx4a65c_init_da8c8) := ggX5_init_Jx4a65c_init_da8c8
theorem dX5_init_0 : decode cX5_init 0 = .ok (.aload_n 0, 1) := by decide +kernel
theorem dX5_init_1 : decode cX5_init 1 = .ok (.invokespecial 3, 3) := by decide +kernel
theorem dX5_init_4 : decode cX5_init 4 = .ok (.aload_n 0, 1) := by decide +kernel
theorem dX5_init_5 : decode cX5_init 5 = .ok (.iconst 0, 1) := by decide +kernel
theorem dX5_init_6 : decode cX5_init 6 = .ok (.putfield 9, 3) := by decide +kernel
theorem dX5_init_9 : decode cX5_init 9 = .ok (.aload_n 0, 1) := by decide +kernel
theorem dX5_init_10 : decode cX5_init 10 = .ok (.new 15, 3) := by decide +kernel
theorem dX5_init_13 : decode cX5_init 13 = .ok (.dup, 1) := by decide +kernel
theorem dX5_init_14 : decode cX5_init 14 = .ok (.invokespecial 17, 3) := by decide +kernel
theorem dX5_init_17 : decode cX5_init 17 = .ok (.putfield 18, 3) := by decide +kernel
theorem dX5_init_20 : decode cX5_init 20 = .ok (.aload_n 0, 1) := by decide +kernel
theorem dX5_init_21 : decode cX5_init 21 = .ok (.iconst (-1), 1) := by decide +kernel
theorem dX5_init_22 : decode cX5_init 22 = .ok (.putfield 22, 3) := by decide +kernel
theorem dX5_init_25 : decode cX5_init 25 = .ok (.aload_n 0, 1) := by decide +kernel
theorem dX5_init_26 : decode cX5_init 26 = .ok (.iconst (-1), 1) := by decide +kernel
theorem dX5_init_27 : decode cX5_init 27 = .ok (.putfield 25, 3) := by decide +kernel
theorem dX5_init_30 : decode cX5_init 30 = .ok (.return_, 1) := by decide +kernel
set_option maxRecDepth 20000 in
theorem ggX5_fits_Jx4a65c_size_8abf5 : GoodIn wsX5_fits wsJx4a65c_size_8abf5 := goodIn_r _ [10, 11, 51, 52, 53] (by decide +kernel) (by decide +kernel)
set_option maxRecDepth 20000 in
theorem gX5_fits_Jx4a65c_size_8abf5 : GoodIn wsX5_fits (wsV RX5 31 RJx4a65c yJx4a65c_size_8abf5 wsJx4a65c_size_8abf5) := goodIn_app (goodIn_of _ (by decide +kernel)) ggX5_fits_Jx4a65c_size_8abf5
set_option maxRecDepth 20000 in
theorem ggX5_fits_Jx4a65c_get_915e3 : GoodIn wsX5_fits wsJx4a65c_get_915e3 := goodIn_r _ [15, 11, 16, 17, 18, 19, 20, 21, 22, 23, 24, 25, 26, 9, 27, 28, 51, 52, 53] (by decide +kernel) (by decide +kernel)
set_option maxRecDepth 20000 in
theorem gX5_fits_Jx4a65c_get_915e3 : GoodIn wsX5_fits (wsV RX5 35 RJx4a65c yJx4a65c_get_915e3 wsJx4a65c_get_915e3) := goodIn_app (goodIn_of _ (by decide +kernel)) ggX5_fits_Jx4a65c_get_915e3
set_option maxRecDepth 20000 in
theorem ggX5_fits_X10_bars : GoodIn wsX5_fits wsX10_bars := goodIn_r _ [33, 34, 35, 36, 32, 37, 42, 43, 44, 45, 46, 47, 48, 49, 50] (by decide +kernel) (by decide +kernel)
set_option maxRecDepth 20000 in
theorem gX5_fits_X10_bars : GoodIn wsX5_fits (wsV RX5 42 RX10 yX10_bars wsX10_bars) := goodIn_app (goodIn_of _ (by decide +kernel)) ggX5_fits_X10_bars
theorem dX5_fits_0 : decode cX5_fits 0 = .ok (.aload_n 0, 1) := by decide +kernel
theorem dX5_fits_1 : decode cX5_fits 1 = .ok (.getfield 9, 3) := by decide +kernel
theorem dX5_fits_4 : decode cX5_fits 4 = .ok (.aload_n 1, 1) := by decide +kernel
theorem dX5_fits_5 : decode cX5_fits 5 = .ok (.getfield 28, 3) := by decide +kernel
theorem dX5_fits_8 : decode cX5_fits 8 = .ok (.iadd, 1) := by decide +kernel
theorem dX5_fits_9 : decode cX5_fits 9 = .ok (.iload_n 2, 1) := by decide +kernel
theorem dX5_fits_10 : decode cX5_fits 10 = .ok (.if_icmp .le 5, 3) := by decide +kernel
theorem dX5_fits_13 : decode cX5_fits 13 = .ok (.iconst 0, 1) := by decide +kernel
theorem dX5_fits_14 : decode cX5_fits 14 = .ok (.ireturn, 1) := by decide +kernel
theorem dX5_fits_15 : decode cX5_fits 15 = .ok (.iconst 0, 1) := by decide +kernel
theorem dX5_fits_16 : decode cX5_fits 16 = .ok (.istore_n 3, 1) := by decide +kernel
theorem dX5_fits_17 : decode cX5_fits 17 = .ok (.iload_n 3, 1) := by decide +kernel
theorem dX5_fits_18 : decode cX5_fits 18 = .ok (.aload_n 0, 1) := by decide +kernel
theorem dX5_fits_19 : decode cX5_fits 19 = .ok (.getfield 18, 3) := by decide +kernel
theorem dX5_fits_22 : decode cX5_fits 22 = .ok (.invokevirtual 31, 3) := by decide +kernel
theorem dX5_fits_25 : decode cX5_fits 25 = .ok (.if_icmp .ge 48, 3) := by decide +kernel
theorem dX5_fits_28 : decode cX5_fits 28 = .ok (.aload_n 0, 1) := by decide +kernel
theorem dX5_fits_29 : decode cX5_fits 29 = .ok (.getfield 18, 3) := by decide +kernel
theorem dX5_fits_32 : decode cX5_fits 32 = .ok (.iload_n 3, 1) := by decide +kernel
theorem dX5_fits_33 : decode cX5_fits 33 = .ok (.invokevirtual 35, 3) := by decide +kernel
theorem dX5_fits_36 : decode cX5_fits 36 = .ok (.checkcast 29, 3) := by decide +kernel
theorem dX5_fits_39 : decode cX5_fits 39 = .ok (.astore 4, 2) := by decide +kernel
theorem dX5_fits_41 : decode cX5_fits 41 = .ok (.aload 4, 2) := by decide +kernel
theorem dX5_fits_43 : decode cX5_fits 43 = .ok (.aload_n 1, 1) := by decide +kernel
theorem dX5_fits_44 : decode cX5_fits 44 = .ok (.getfield 39, 3) := by decide +kernel
theorem dX5_fits_47 : decode cX5_fits 47 = .ok (.invokevirtual 42, 3) := by decide +kernel
theorem dX5_fits_50 : decode cX5_fits 50 = .ok (.ifCond .ne 15, 3) := by decide +kernel
theorem dX5_fits_53 : decode cX5_fits 53 = .ok (.aload_n 1, 1) := by decide +kernel
theorem dX5_fits_54 : decode cX5_fits 54 = .ok (.aload 4, 2) := by decide +kernel
theorem dX5_fits_56 : decode cX5_fits 56 = .ok (.getfield 39, 3) := by decide +kernel
theorem dX5_fits_59 : decode cX5_fits 59 = .ok (.invokevirtual 42, 3) := by decide +kernel
theorem dX5_fits_62 : decode cX5_fits 62 = .ok (.ifCond .eq 5, 3) := by decide +kernel
theorem dX5_fits_65 : decode cX5_fits 65 = .ok (.iconst 0, 1) := by decide +kernel
theorem dX5_fits_66 : decode cX5_fits 66 = .ok (.ireturn, 1) := by decide +kernel
theorem dX5_fits_67 : decode cX5_fits 67 = .ok (.iinc 3 1, 3) := by decide +kernel
theorem dX5_fits_70 : decode cX5_fits 70 = .ok (.goto (-53), 3) := by decide +kernel
theorem dX5_fits_73 : decode cX5_fits 73 = .ok (.iconst 1, 1) := by decide +kernel
theorem dX5_fits_74 : decode cX5_fits 74 = .ok (.ireturn, 1) := by decide +kernel
set_option maxRecDepth 20000 in
theorem ggX5_put_Jx4a65c_add_9ea2d : GoodIn wsX5_put wsJx4a65c_add_9ea2d := goodIn_r _ [8, 9, 10, 11, 12, 13, 14, 15, 7, 16, 17, 18, 19, 20, 21, 22, 23, 24, 25, 26, 27, 28, 29, 30, 31, 32, 33, 34, 35, 36, 37, 38, 39, 40, 41, 42, 43, 44, 45, 46, 47, 48, 49, 50, 51, 52, 53, 54, 55, 56, 57, 58, 59, 73, 74, 75] (by decide +kernel) (by decide +kernel)
set_option maxRecDepth 20000 in
theorem gX5_put_Jx4a65c_add_9ea2d : GoodIn wsX5_put (wsV RX5 46 RJx4a65c yJx4a65c_add_9ea2d wsJx4a65c_add_9ea2d) := goodIn_app (goodIn_of _ (by decide +kernel)) ggX5_put_Jx4a65c_add_9ea2d
theorem dX5_put_0 : decode cX5_put 0 = .ok (.aload_n 0, 1) := by decide +kernel
theorem dX5_put_1 : decode cX5_put 1 = .ok (.getfield 18, 3) := by decide +kernel
theorem dX5_put_4 : decode cX5_put 4 = .ok (.aload_n 1, 1) := by decide +kernel
theorem dX5_put_5 : decode cX5_put 5 = .ok (.invokevirtual 46, 3) := by decide +kernel
theorem dX5_put_8 : decode cX5_put 8 = .ok (.pop, 1) := by decide +kernel
theorem dX5_put_9 : decode cX5_put 9 = .ok (.aload_n 0, 1) := by decide +kernel
theorem dX5_put_10 : decode cX5_put 10 = .ok (.dup, 1) := by decide +kernel
theorem dX5_put_11 : decode cX5_put 11 = .ok (.getfield 9, 3) := by decide +kernel
theorem dX5_put_14 : decode cX5_put 14 = .ok (.aload_n 1, 1) := by decide +kernel
theorem dX5_put_15 : decode cX5_put 15 = .ok (.getfield 28, 3) := by decide +kernel
theorem dX5_put_18 : decode cX5_put 18 = .ok (.iadd, 1) := by decide +kernel
theorem dX5_put_19 : decode cX5_put 19 = .ok (.putfield 9, 3) := by decide +kernel
theorem dX5_put_22 : decode cX5_put 22 = .ok (.return_, 1) := by decide +kernel
set_option maxRecDepth 20000 in
theorem ggX5_holds_Jx4a65c_size_8abf5 : GoodIn wsX5_holds wsJx4a65c_size_8abf5 := goodIn_r _ [8, 9, 40, 41, 42] (by decide +kernel) (by decide +kernel)
set_option maxRecDepth 20000 in
theorem gX5_holds_Jx4a65c_size_8abf5 : GoodIn wsX5_holds (wsV RX5 31 RJx4a65c yJx4a65c_size_8abf5 wsJx4a65c_size_8abf5) := goodIn_app (goodIn_of _ (by decide +kernel)) ggX5_holds_Jx4a65c_size_8abf5
set_option maxRecDepth 20000 in
theorem ggX5_holds_Jx4a65c_get_915e3 : GoodIn wsX5_holds wsJx4a65c_get_915e3 := goodIn_r _ [13, 9, 14, 15, 16, 17, 18, 19, 20, 21, 22, 23, 24, 7, 25, 26, 40, 41, 42] (by decide +kernel) (by decide +kernel)
set_option maxRecDepth 20000 in
theorem gX5_holds_Jx4a65c_get_915e3 : GoodIn wsX5_holds (wsV RX5 35 RJx4a65c yJx4a65c_get_915e3 wsJx4a65c_get_915e3) := goodIn_app (goodIn_of _ (by decide +kernel)) ggX5_holds_Jx4a65c_get_915e3
theorem dX5_holds_0 : decode cX5_holds 0 = .ok (.iconst 0, 1) := by decide +kernel
theorem dX5_holds_1 : decode cX5_holds 1 = .ok (.istore_n 2, 1) := by decide +kernel
theorem dX5_holds_2 : decode cX5_holds 2 = .ok (.iload_n 2, 1) := by decide +kernel
theorem dX5_holds_3 : decode cX5_holds 3 = .ok (.aload_n 0, 1) := by decide +kernel
theorem dX5_holds_4 : decode cX5_holds 4 = .ok (.getfield 18, 3) := by decide +kernel
theorem dX5_holds_7 : decode cX5_holds 7 = .ok (.invokevirtual 31, 3) := by decide +kernel
theorem dX5_holds_10 : decode cX5_holds 10 = .ok (.if_icmp .ge 29, 3) := by decide +kernel
theorem dX5_holds_13 : decode cX5_holds 13 = .ok (.aload_n 0, 1) := by decide +kernel
theorem dX5_holds_14 : decode cX5_holds 14 = .ok (.getfield 18, 3) := by decide +kernel
theorem dX5_holds_17 : decode cX5_holds 17 = .ok (.iload_n 2, 1) := by decide +kernel
theorem dX5_holds_18 : decode cX5_holds 18 = .ok (.invokevirtual 35, 3) := by decide +kernel
theorem dX5_holds_21 : decode cX5_holds 21 = .ok (.checkcast 29, 3) := by decide +kernel
theorem dX5_holds_24 : decode cX5_holds 24 = .ok (.getfield 50, 3) := by decide +kernel
theorem dX5_holds_27 : decode cX5_holds 27 = .ok (.iload_n 1, 1) := by decide +kernel
theorem dX5_holds_28 : decode cX5_holds 28 = .ok (.if_icmp .ne 5, 3) := by decide +kernel
theorem dX5_holds_31 : decode cX5_holds 31 = .ok (.iconst 1, 1) := by decide +kernel
theorem dX5_holds_32 : decode cX5_holds 32 = .ok (.ireturn, 1) := by decide +kernel
theorem dX5_holds_33 : decode cX5_holds 33 = .ok (.iinc 2 1, 3) := by decide +kernel
theorem dX5_holds_36 : decode cX5_holds 36 = .ok (.goto (-34), 3) := by decide +kernel
theorem dX5_holds_39 : decode cX5_holds 39 = .ok (.iconst 0, 1) := by decide +kernel
theorem dX5_holds_40 : decode cX5_holds 40 = .ok (.ireturn, 1) := by decide +kernel
theorem dX5_courierOn_0 : decode cX5_courierOn 0 = .ok (.iload_n 1, 1) := by decide +kernel
theorem dX5_courierOn_1 : decode cX5_courierOn 1 = .ok (.ifCond .ne 10, 3) := by decide +kernel
theorem dX5_courierOn_4 : decode cX5_courierOn 4 = .ok (.aload_n 0, 1) := by decide +kernel
theorem dX5_courierOn_5 : decode cX5_courierOn 5 = .ok (.getfield 22, 3) := by decide +kernel
theorem dX5_courierOn_8 : decode cX5_courierOn 8 = .ok (.goto 7, 3) := by decide +kernel
theorem dX5_courierOn_11 : decode cX5_courierOn 11 = .ok (.aload_n 0, 1) := by decide +kernel
theorem dX5_courierOn_12 : decode cX5_courierOn 12 = .ok (.getfield 25, 3) := by decide +kernel
theorem dX5_courierOn_15 : decode cX5_courierOn 15 = .ok (.ireturn, 1) := by decide +kernel
theorem dX5_guardBy_0 : decode cX5_guardBy 0 = .ok (.iload_n 2, 1) := by decide +kernel
theorem dX5_guardBy_1 : decode cX5_guardBy 1 = .ok (.ifCond .ne 11, 3) := by decide +kernel
theorem dX5_guardBy_4 : decode cX5_guardBy 4 = .ok (.aload_n 0, 1) := by decide +kernel
theorem dX5_guardBy_5 : decode cX5_guardBy 5 = .ok (.iload_n 1, 1) := by decide +kernel
theorem dX5_guardBy_6 : decode cX5_guardBy 6 = .ok (.putfield 22, 3) := by decide +kernel
theorem dX5_guardBy_9 : decode cX5_guardBy 9 = .ok (.goto 8, 3) := by decide +kernel
theorem dX5_guardBy_12 : decode cX5_guardBy 12 = .ok (.aload_n 0, 1) := by decide +kernel
theorem dX5_guardBy_13 : decode cX5_guardBy 13 = .ok (.iload_n 1, 1) := by decide +kernel
theorem dX5_guardBy_14 : decode cX5_guardBy 14 = .ok (.putfield 25, 3) := by decide +kernel
theorem dX5_guardBy_17 : decode cX5_guardBy 17 = .ok (.return_, 1) := by decide +kernel
set_option maxRecDepth 20000 in
theorem ggX5_worthOn_Jx4a65c_size_8abf5 : GoodIn wsX5_worthOn wsJx4a65c_size_8abf5 := goodIn_r _ [7, 8, 49, 50, 51] (by decide +kernel) (by decide +kernel)
set_option maxRecDepth 20000 in
theorem gX5_worthOn_Jx4a65c_size_8abf5 : GoodIn wsX5_worthOn (wsV RX5 31 RJx4a65c yJx4a65c_size_8abf5 wsJx4a65c_size_8abf5) := goodIn_app (goodIn_of _ (by decide +kernel)) ggX5_worthOn_Jx4a65c_size_8abf5
set_option maxRecDepth 20000 in
theorem ggX5_worthOn_Jx4a65c_get_915e3 : GoodIn wsX5_worthOn wsJx4a65c_get_915e3 := goodIn_r _ [12, 8, 13, 14, 15, 16, 17, 18, 19, 20, 21, 22, 23, 6, 24, 25, 49, 50, 51] (by decide +kernel) (by decide +kernel)
set_option maxRecDepth 20000 in
theorem gX5_worthOn_Jx4a65c_get_915e3 : GoodIn wsX5_worthOn (wsV RX5 35 RJx4a65c yJx4a65c_get_915e3 wsJx4a65c_get_915e3) := goodIn_app (goodIn_of _ (by decide +kernel)) ggX5_worthOn_Jx4a65c_get_915e3
set_option maxRecDepth 20000 in
theorem ggX5_worthOn_X10_valueOn : GoodIn wsX5_worthOn wsX10_valueOn := goodIn_r _ [30, 31, 32, 33, 34, 35, 36, 37, 38, 39, 40, 41, 42, 43, 44, 52, 53, 54, 55, 56, 57, 58, 59, 60, 61, 62, 63] (by decide +kernel) (by decide +kernel)
set_option maxRecDepth 20000 in
theorem gX5_worthOn_X10_valueOn : GoodIn wsX5_worthOn (wsV RX5 53 RX10 yX10_valueOn wsX10_valueOn) := goodIn_app (goodIn_of _ (by decide +kernel)) ggX5_worthOn_X10_valueOn
theorem dX5_worthOn_0 : decode cX5_worthOn 0 = .ok (.iconst 0, 1) := by decide +kernel
theorem dX5_worthOn_1 : decode cX5_worthOn 1 = .ok (.istore_n 2, 1) := by decide +kernel
theorem dX5_worthOn_2 : decode cX5_worthOn 2 = .ok (.iconst 0, 1) := by decide +kernel
theorem dX5_worthOn_3 : decode cX5_worthOn 3 = .ok (.istore_n 3, 1) := by decide +kernel
theorem dX5_worthOn_4 : decode cX5_worthOn 4 = .ok (.iload_n 3, 1) := by decide +kernel
theorem dX5_worthOn_5 : decode cX5_worthOn 5 = .ok (.aload_n 0, 1) := by decide +kernel
theorem dX5_worthOn_6 : decode cX5_worthOn 6 = .ok (.getfield 18, 3) := by decide +kernel
theorem dX5_worthOn_9 : decode cX5_worthOn 9 = .ok (.invokevirtual 31, 3) := by decide +kernel
theorem dX5_worthOn_12 : decode cX5_worthOn 12 = .ok (.if_icmp .ge 27, 3) := by decide +kernel
theorem dX5_worthOn_15 : decode cX5_worthOn 15 = .ok (.iload_n 2, 1) := by decide +kernel
theorem dX5_worthOn_16 : decode cX5_worthOn 16 = .ok (.aload_n 0, 1) := by decide +kernel
theorem dX5_worthOn_17 : decode cX5_worthOn 17 = .ok (.getfield 18, 3) := by decide +kernel
theorem dX5_worthOn_20 : decode cX5_worthOn 20 = .ok (.iload_n 3, 1) := by decide +kernel
theorem dX5_worthOn_21 : decode cX5_worthOn 21 = .ok (.invokevirtual 35, 3) := by decide +kernel
theorem dX5_worthOn_24 : decode cX5_worthOn 24 = .ok (.checkcast 29, 3) := by decide +kernel
theorem dX5_worthOn_27 : decode cX5_worthOn 27 = .ok (.iload_n 1, 1) := by decide +kernel
theorem dX5_worthOn_28 : decode cX5_worthOn 28 = .ok (.invokevirtual 53, 3) := by decide +kernel
theorem dX5_worthOn_31 : decode cX5_worthOn 31 = .ok (.iadd, 1) := by decide +kernel
theorem dX5_worthOn_32 : decode cX5_worthOn 32 = .ok (.istore_n 2, 1) := by decide +kernel
theorem dX5_worthOn_33 : decode cX5_worthOn 33 = .ok (.iinc 3 1, 3) := by decide +kernel
theorem dX5_worthOn_36 : decode cX5_worthOn 36 = .ok (.goto (-32), 3) := by decide +kernel
theorem dX5_worthOn_39 : decode cX5_worthOn 39 = .ok (.iload_n 2, 1) := by decide +kernel
theorem dX5_worthOn_40 : decode cX5_worthOn 40 = .ok (.ireturn, 1) := by decide +kernel
set_option maxRecDepth 20000 in
theorem ggX5_riskOn_Jx4a65c_size_8abf5 : GoodIn wsX5_riskOn wsJx4a65c_size_8abf5 := goodIn_r _ [7, 8, 72, 73, 74] (by decide +kernel) (by decide +kernel)
set_option maxRecDepth 20000 in
theorem gX5_riskOn_Jx4a65c_size_8abf5 : GoodIn wsX5_riskOn (wsV RX5 31 RJx4a65c yJx4a65c_size_8abf5 wsJx4a65c_size_8abf5) := goodIn_app (goodIn_of _ (by decide +kernel)) ggX5_riskOn_Jx4a65c_size_8abf5
set_option maxRecDepth 20000 in
theorem ggX5_riskOn_Jx4a65c_get_915e3 : GoodIn wsX5_riskOn wsJx4a65c_get_915e3 := goodIn_r _ [12, 8, 13, 14, 15, 16, 17, 18, 19, 20, 21, 22, 23, 6, 24, 25, 72, 73, 74] (by decide +kernel) (by decide +kernel)
set_option maxRecDepth 20000 in
theorem gX5_riskOn_Jx4a65c_get_915e3 : GoodIn wsX5_riskOn (wsV RX5 35 RJx4a65c yJx4a65c_get_915e3 wsJx4a65c_get_915e3) := goodIn_app (goodIn_of _ (by decide +kernel)) ggX5_riskOn_Jx4a65c_get_915e3
set_option maxRecDepth 20000 in
theorem ggX5_riskOn_X10_valueOn : GoodIn wsX5_riskOn wsX10_valueOn := goodIn_r _ [30, 31, 32, 33, 34, 35, 36, 37, 38, 39, 40, 41, 42, 43, 44, 75, 76, 77, 78, 79, 80, 81, 82, 83, 84, 85, 86] (by decide +kernel) (by decide +kernel)
set_option maxRecDepth 20000 in
theorem gX5_riskOn_X10_valueOn : GoodIn wsX5_riskOn (wsV RX5 53 RX10 yX10_valueOn wsX10_valueOn) := goodIn_app (goodIn_of _ (by decide +kernel)) ggX5_riskOn_X10_valueOn
set_option maxRecDepth 20000 in
theorem ggX5_riskOn_X10_harmsOn : GoodIn wsX5_riskOn wsX10_harmsOn := goodIn_r _ [48, 49, 50, 51, 29, 52, 53, 54, 55, 56, 4, 5, 6, 7, 8, 57, 10, 11, 12, 13, 14, 15, 16, 17, 18, 19, 20, 21, 22, 23, 24, 25, 58, 59, 60, 61, 62, 63, 64, 65, 66, 67, 75, 76, 77, 78, 79, 80, 81, 82, 83, 87, 88, 89, 90, 72, 73, 74] (by decide +kernel) (by decide +kernel)
set_option maxRecDepth 20000 in
theorem gX5_riskOn_X10_harmsOn : GoodIn wsX5_riskOn (wsV RX5 57 RX10 yX10_harmsOn wsX10_harmsOn) := goodIn_app (goodIn_of _ (by decide +kernel)) ggX5_riskOn_X10_harmsOn
theorem dX5_riskOn_0 : decode cX5_riskOn 0 = .ok (.iconst 0, 1) := by decide +kernel
theorem dX5_riskOn_1 : decode cX5_riskOn 1 = .ok (.istore_n 2, 1) := by decide +kernel
theorem dX5_riskOn_2 : decode cX5_riskOn 2 = .ok (.iconst 0, 1) := by decide +kernel
theorem dX5_riskOn_3 : decode cX5_riskOn 3 = .ok (.istore_n 3, 1) := by decide +kernel
theorem dX5_riskOn_4 : decode cX5_riskOn 4 = .ok (.iload_n 3, 1) := by decide +kernel
theorem dX5_riskOn_5 : decode cX5_riskOn 5 = .ok (.aload_n 0, 1) := by decide +kernel
theorem dX5_riskOn_6 : decode cX5_riskOn 6 = .ok (.getfield 18, 3) := by decide +kernel
theorem dX5_riskOn_9 : decode cX5_riskOn 9 = .ok (.invokevirtual 31, 3) := by decide +kernel
theorem dX5_riskOn_12 : decode cX5_riskOn 12 = .ok (.if_icmp .ge 41, 3) := by decide +kernel
theorem dX5_riskOn_15 : decode cX5_riskOn 15 = .ok (.aload_n 0, 1) := by decide +kernel
theorem dX5_riskOn_16 : decode cX5_riskOn 16 = .ok (.getfield 18, 3) := by decide +kernel
theorem dX5_riskOn_19 : decode cX5_riskOn 19 = .ok (.iload_n 3, 1) := by decide +kernel
theorem dX5_riskOn_20 : decode cX5_riskOn 20 = .ok (.invokevirtual 35, 3) := by decide +kernel
theorem dX5_riskOn_23 : decode cX5_riskOn 23 = .ok (.checkcast 29, 3) := by decide +kernel
theorem dX5_riskOn_26 : decode cX5_riskOn 26 = .ok (.astore 4, 2) := by decide +kernel
theorem dX5_riskOn_28 : decode cX5_riskOn 28 = .ok (.iload_n 2, 1) := by decide +kernel
theorem dX5_riskOn_29 : decode cX5_riskOn 29 = .ok (.aload 4, 2) := by decide +kernel
theorem dX5_riskOn_31 : decode cX5_riskOn 31 = .ok (.iload_n 1, 1) := by decide +kernel
theorem dX5_riskOn_32 : decode cX5_riskOn 32 = .ok (.invokevirtual 53, 3) := by decide +kernel
theorem dX5_riskOn_35 : decode cX5_riskOn 35 = .ok (.bipush 10, 2) := by decide +kernel
theorem dX5_riskOn_37 : decode cX5_riskOn 37 = .ok (.aload 4, 2) := by decide +kernel
theorem dX5_riskOn_39 : decode cX5_riskOn 39 = .ok (.iload_n 1, 1) := by decide +kernel
theorem dX5_riskOn_40 : decode cX5_riskOn 40 = .ok (.invokevirtual 57, 3) := by decide +kernel
theorem dX5_riskOn_43 : decode cX5_riskOn 43 = .ok (.iadd, 1) := by decide +kernel
theorem dX5_riskOn_44 : decode cX5_riskOn 44 = .ok (.imul, 1) := by decide +kernel
theorem dX5_riskOn_45 : decode cX5_riskOn 45 = .ok (.iadd, 1) := by decide +kernel
theorem dX5_riskOn_46 : decode cX5_riskOn 46 = .ok (.istore_n 2, 1) := by decide +kernel
theorem dX5_riskOn_47 : decode cX5_riskOn 47 = .ok (.iinc 3 1, 3) := by decide +kernel
theorem dX5_riskOn_50 : decode cX5_riskOn 50 = .ok (.goto (-46), 3) := by decide +kernel
theorem dX5_riskOn_53 : decode cX5_riskOn 53 = .ok (.iload_n 2, 1) := by decide +kernel
theorem dX5_riskOn_54 : decode cX5_riskOn 54 = .ok (.ireturn, 1) := by decide +kernel
theorem dX6_init_0 : decode cX6_init 0 = .ok (.aload_n 0, 1) := by decide +kernel
theorem dX6_init_1 : decode cX6_init 1 = .ok (.invokespecial 3, 3) := by decide +kernel
theorem dX6_init_4 : decode cX6_init 4 = .ok (.aload_n 0, 1) := by decide +kernel
theorem dX6_init_5 : decode cX6_init 5 = .ok (.bipush 120, 2) := by decide +kernel
theorem dX6_init_7 : decode cX6_init 7 = .ok (.newarray .int, 2) := by decide +kernel
theorem dX6_init_9 : decode cX6_init 9 = .ok (.putfield 11, 3) := by decide +kernel
theorem dX6_init_12 : decode cX6_init 12 = .ok (.aload_n 0, 1) := by decide +kernel
theorem dX6_init_13 : decode cX6_init 13 = .ok (.bipush 120, 2) := by decide +kernel
theorem dX6_init_15 : decode cX6_init 15 = .ok (.newarray .int, 2) := by decide +kernel
theorem dX6_init_17 : decode cX6_init 17 = .ok (.putfield 17, 3) := by decide +kernel
theorem dX6_init_20 : decode cX6_init 20 = .ok (.aload_n 0, 1) := by decide +kernel
theorem dX6_init_21 : decode cX6_init 21 = .ok (.bipush 120, 2) := by decide +kernel
theorem dX6_init_23 : decode cX6_init 23 = .ok (.newarray .int, 2) := by decide +kernel
theorem dX6_init_25 : decode cX6_init 25 = .ok (.putfield 20, 3) := by decide +kernel
theorem dX6_init_28 : decode cX6_init 28 = .ok (.aload_n 0, 1) := by decide +kernel
theorem dX6_init_29 : decode cX6_init 29 = .ok (.iconst 0, 1) := by decide +kernel
theorem dX6_init_30 : decode cX6_init 30 = .ok (.putfield 23, 3) := by decide +kernel
theorem dX6_init_33 : decode cX6_init 33 = .ok (.aload_n 0, 1) := by decide +kernel
theorem dX6_init_34 : decode cX6_init 34 = .ok (.iconst 0, 1) := by decide +kernel
theorem dX6_init_35 : decode cX6_init 35 = .ok (.putfield 27, 3) := by decide +kernel
theorem dX6_init_38 : decode cX6_init 38 = .ok (.return_, 1) := by decide +kernel
set_option maxRecDepth 20000 in
theorem ggX6_cut_X9_size : GoodIn wsX6_cut wsX9_size := goodIn_r _ [7, 8, 99, 100] (by decide +kernel) (by decide +kernel)
set_option maxRecDepth 20000 in
theorem gX6_cut_X9_size : GoodIn wsX6_cut (wsV RX6 30 RX9 yX9_size wsX9_size) := goodIn_app (goodIn_of _ (by decide +kernel)) ggX6_cut_X9_size
set_option maxRecDepth 20000 in
theorem ggX6_cut_X6_cutFrom : GoodIn wsX6_cut wsX6_cutFrom := goodIn_r _ [13, 14, 15, 16, 6, 17, 8, 18, 19, 20, 21, 12, 22, 2, 23, 24, 25, 26, 27, 28, 29, 30, 1, 31, 32, 33, 34, 35, 36, 37, 38, 39, 40, 41, 42, 43, 44, 45, 46, 47, 48, 49, 50, 51, 52, 53, 54, 55, 56, 57, 58, 59, 60, 61, 62, 63, 64, 65, 66, 67, 68, 69, 70, 71, 72, 73, 74, 75, 76, 77, 78, 79, 80, 81, 82, 83, 84, 85, 86, 87, 88, 89, 90, 91, 92, 93, 99, 100, 94, 95, 96, 97, 98, 101, 102, 103, 104] (by decide +kernel) (by decide +kernel)
set_option maxRecDepth 20000 in
theorem gX6_cut_X6_cutFrom : GoodIn wsX6_cut (wsV RX6 33 RX6 yX6_cutFrom wsX6_cutFrom) := goodIn_app (goodIn_of _ (by decide +kernel)) ggX6_cut_X6_cutFrom
theorem dX6_cut_0 : decode cX6_cut 0 = .ok (.aload_n 0, 1) := by decide +kernel
theorem dX6_cut_1 : decode cX6_cut 1 = .ok (.iconst 0, 1) := by decide +kernel
theorem dX6_cut_2 : decode cX6_cut 2 = .ok (.putfield 23, 3) := by decide +kernel
theorem dX6_cut_5 : decode cX6_cut 5 = .ok (.aload_n 0, 1) := by decide +kernel
theorem dX6_cut_6 : decode cX6_cut 6 = .ok (.aload_n 1, 1) := by decide +kernel
theorem dX6_cut_7 : decode cX6_cut 7 = .ok (.invokevirtual 30, 3) := by decide +kernel
theorem dX6_cut_10 : decode cX6_cut 10 = .ok (.putfield 27, 3) := by decide +kernel
theorem dX6_cut_13 : decode cX6_cut 13 = .ok (.iconst 0, 1) := by decide +kernel
theorem dX6_cut_14 : decode cX6_cut 14 = .ok (.istore_n 2, 1) := by decide +kernel
theorem dX6_cut_15 : decode cX6_cut 15 = .ok (.iconst 0, 1) := by decide +kernel
theorem dX6_cut_16 : decode cX6_cut 16 = .ok (.istore_n 3, 1) := by decide +kernel
theorem dX6_cut_17 : decode cX6_cut 17 = .ok (.iload_n 3, 1) := by decide +kernel
theorem dX6_cut_18 : decode cX6_cut 18 = .ok (.bipush 120, 2) := by decide +kernel
theorem dX6_cut_20 : decode cX6_cut 20 = .ok (.if_icmp .ge 24, 3) := by decide +kernel
theorem dX6_cut_23 : decode cX6_cut 23 = .ok (.iload_n 2, 1) := by decide +kernel
theorem dX6_cut_24 : decode cX6_cut 24 = .ok (.aload_n 0, 1) := by decide +kernel
theorem dX6_cut_25 : decode cX6_cut 25 = .ok (.getfield 27, 3) := by decide +kernel
theorem dX6_cut_28 : decode cX6_cut 28 = .ok (.if_icmp .ge 16, 3) := by decide +kernel
theorem dX6_cut_31 : decode cX6_cut 31 = .ok (.aload_n 0, 1) := by decide +kernel
theorem dX6_cut_32 : decode cX6_cut 32 = .ok (.aload_n 1, 1) := by decide +kernel
theorem dX6_cut_33 : decode cX6_cut 33 = .ok (.iload_n 2, 1) := by decide +kernel
theorem dX6_cut_34 : decode cX6_cut 34 = .ok (.invokevirtual 33, 3) := by decide +kernel
theorem dX6_cut_37 : decode cX6_cut 37 = .ok (.istore_n 2, 1) := by decide +kernel
theorem dX6_cut_38 : decode cX6_cut 38 = .ok (.iinc 3 1, 3) := by decide +kernel
theorem dX6_cut_41 : decode cX6_cut 41 = .ok (.goto (-24), 3) := by decide +kernel
theorem dX6_cut_44 : decode cX6_cut 44 = .ok (.return_, 1) := by decide +kernel
theorem dX6_codeAt_0 : decode cX6_codeAt 0 = .ok (.iload_n 1, 1) := by decide +kernel
theorem dX6_codeAt_1 : decode cX6_codeAt 1 = .ok (.ifCond .lt 20, 3) := by decide +kernel
theorem dX6_codeAt_4 : decode cX6_codeAt 4 = .ok (.iload_n 1, 1) := by decide +kernel
theorem dX6_codeAt_5 : decode cX6_codeAt 5 = .ok (.aload_n 0, 1) := by decide +kernel
theorem dX6_codeAt_6 : decode cX6_codeAt 6 = .ok (.getfield 23, 3) := by decide +kernel
theorem dX6_codeAt_9 : decode cX6_codeAt 9 = .ok (.if_icmp .ge 12, 3) := by decide +kernel
theorem dX6_codeAt_12 : decode cX6_codeAt 12 = .ok (.aload_n 0, 1) := by decide +kernel
theorem dX6_codeAt_13 : decode cX6_codeAt 13 = .ok (.getfield 17, 3) := by decide +kernel
theorem dX6_codeAt_16 : decode cX6_codeAt 16 = .ok (.iload_n 1, 1) := by decide +kernel
theorem dX6_codeAt_17 : decode cX6_codeAt 17 = .ok (.iaload, 1) := by decide +kernel
theorem dX6_codeAt_18 : decode cX6_codeAt 18 = .ok (.goto 4, 3) := by decide +kernel
theorem dX6_codeAt_21 : decode cX6_codeAt 21 = .ok (.iconst (-1), 1) := by decide +kernel
theorem dX6_codeAt_22 : decode cX6_codeAt 22 = .ok (.ireturn, 1) := by decide +kernel
theorem dX6_numberAt_0 : decode cX6_numberAt 0 = .ok (.iload_n 1, 1) := by decide +kernel
theorem dX6_numberAt_1 : decode cX6_numberAt 1 = .ok (.ifCond .lt 20, 3) := by decide +kernel
theorem dX6_numberAt_4 : decode cX6_numberAt 4 = .ok (.iload_n 1, 1) := by decide +kernel
theorem dX6_numberAt_5 : decode cX6_numberAt 5 = .ok (.aload_n 0, 1) := by decide +kernel
theorem dX6_numberAt_6 : decode cX6_numberAt 6 = .ok (.getfield 23, 3) := by decide +kernel
theorem dX6_numberAt_9 : decode cX6_numberAt 9 = .ok (.if_icmp .ge 12, 3) := by decide +kernel
theorem dX6_numberAt_12 : decode cX6_numberAt 12 = .ok (.aload_n 0, 1) := by decide +kernel
theorem dX6_numberAt_13 : decode cX6_numberAt 13 = .ok (.getfield 20, 3) := by decide +kernel
theorem dX6_numberAt_16 : decode cX6_numberAt 16 = .ok (.iload_n 1, 1) := by decide +kernel
theorem dX6_numberAt_17 : decode cX6_numberAt 17 = .ok (.iaload, 1) := by decide +kernel
theorem dX6_numberAt_18 : decode cX6_numberAt 18 = .ok (.goto 4, 3) := by decide +kernel
theorem dX6_numberAt_21 : decode cX6_numberAt 21 = .ok (.iconst 0, 1) := by decide +kernel
theorem dX6_numberAt_22 : decode cX6_numberAt 22 = .ok (.ireturn, 1) := by decide +kernel
theorem dX6_startAt_0 : decode cX6_startAt 0 = .ok (.iload_n 1, 1) := by decide +kernel
theorem dX6_startAt_1 : decode cX6_startAt 1 = .ok (.ifCond .lt 20, 3) := by decide +kernel
theorem dX6_startAt_4 : decode cX6_startAt 4 = .ok (.iload_n 1, 1) := by decide +kernel
theorem dX6_startAt_5 : decode cX6_startAt 5 = .ok (.aload_n 0, 1) := by decide +kernel
theorem dX6_startAt_6 : decode cX6_startAt 6 = .ok (.getfield 23, 3) := by decide +kernel
theorem dX6_startAt_9 : decode cX6_startAt 9 = .ok (.if_icmp .ge 12, 3) := by decide +kernel
theorem dX6_startAt_12 : decode cX6_startAt 12 = .ok (.aload_n 0, 1) := by decide +kernel
theorem dX6_startAt_13 : decode cX6_startAt 13 = .ok (.getfield 11, 3) := by decide +kernel
theorem dX6_startAt_16 : decode cX6_startAt 16 = .ok (.iload_n 1, 1) := by decide +kernel
theorem dX6_startAt_17 : decode cX6_startAt 17 = .ok (.iaload, 1) := by decide +kernel
theorem dX6_startAt_18 : decode cX6_startAt 18 = .ok (.goto 7, 3) := by decide +kernel
theorem dX6_startAt_21 : decode cX6_startAt 21 = .ok (.aload_n 0, 1) := by decide +kernel
theorem dX6_startAt_22 : decode cX6_startAt 22 = .ok (.getfield 27, 3) := by decide +kernel
theorem dX6_startAt_25 : decode cX6_startAt 25 = .ok (.ireturn, 1) := by decide +kernel
set_option maxRecDepth 20000 in
theorem ggX6_cutFrom_X9_byteAt : GoodIn wsX6_cutFrom wsX9_byteAt := goodIn_r _ [5, 6, 7, 86, 87] (by decide +kernel) (by decide +kernel)
set_option maxRecDepth 20000 in
theorem gX6_cutFrom_X9_byteAt : GoodIn wsX6_cutFrom (wsV RX6 37 RX9 yX9_byteAt wsX9_byteAt) := goodIn_app (goodIn_of _ (by decide +kernel)) ggX6_cutFrom_X9_byteAt
set_option maxRecDepth 20000 in
theorem ggX6_cutFrom_X6_behindRow : GoodIn wsX6_cutFrom wsX6_behindRow := goodIn_r _ [12, 13, 1, 2, 3, 4, 5, 6, 7, 88, 89, 90, 91, 92, 86, 87] (by decide +kernel) (by decide +kernel)
set_option maxRecDepth 20000 in
theorem gX6_cutFrom_X6_behindRow : GoodIn wsX6_cutFrom (wsV RX6 41 RX6 yX6_behindRow wsX6_behindRow) := goodIn_app (goodIn_of _ (by decide +kernel)) ggX6_cutFrom_X6_behindRow
set_option maxRecDepth 20000 in
theorem ggX6_cutFrom_X6_numberIn : GoodIn wsX6_cutFrom wsX6_numberIn := goodIn_r _ [17, 1, 2, 3, 4, 5, 6, 7, 86, 87] (by decide +kernel) (by decide +kernel)
set_option maxRecDepth 20000 in
theorem gX6_cutFrom_X6_numberIn : GoodIn wsX6_cutFrom (wsV RX6 45 RX6 yX6_numberIn wsX6_numberIn) := goodIn_app (goodIn_of _ (by decide +kernel)) ggX6_cutFrom_X6_numberIn
set_option maxRecDepth 20000 in
theorem ggX6_cutFrom_X6_add : GoodIn wsX6_cutFrom wsX6_add := goodIn_r _ [21, 22, 23, 24, 25, 88, 89, 90, 91, 92] (by decide +kernel) (by decide +kernel)
set_option maxRecDepth 20000 in
theorem gX6_cutFrom_X6_add : GoodIn wsX6_cutFrom (wsV RX6 49 RX6 yX6_add wsX6_add) := goodIn_app (goodIn_of _ (by decide +kernel)) ggX6_cutFrom_X6_add
set_option maxRecDepth 20000 in
theorem ggX6_cutFrom_X6_wordIn : GoodIn wsX6_cutFrom wsX6_wordIn := goodIn_r _ [29, 30, 31, 32, 33, 34, 35, 11, 36, 37, 38, 39, 40, 41, 42, 43, 44, 45, 46, 47, 48, 49, 50, 51, 52, 53, 54, 55, 56, 57, 58, 59, 60, 61, 62, 63, 64, 65, 66, 67, 68, 69, 70, 71, 72, 73, 74, 75, 76, 77, 78, 79, 80, 81, 82, 83, 84, 85, 1, 2, 3, 4, 5, 6, 7, 93, 94, 95, 96, 86, 87] (by decide +kernel) (by decide +kernel)
set_option maxRecDepth 20000 in
theorem gX6_cutFrom_X6_wordIn : GoodIn wsX6_cutFrom (wsV RX6 53 RX6 yX6_wordIn wsX6_wordIn) := goodIn_app (goodIn_of _ (by decide +kernel)) ggX6_cutFrom_X6_wordIn
theorem dX6_cutFrom_0 : decode cX6_cutFrom 0 = .ok (.aload_n 1, 1) := by decide +kernel
theorem dX6_cutFrom_1 : decode cX6_cutFrom 1 = .ok (.iload_n 2, 1) := by decide +kernel
theorem dX6_cutFrom_2 : decode cX6_cutFrom 2 = .ok (.invokevirtual 37, 3) := by decide +kernel
theorem dX6_cutFrom_5 : decode cX6_cutFrom 5 = .ok (.istore_n 3, 1) := by decide +kernel
theorem dX6_cutFrom_6 : decode cX6_cutFrom 6 = .ok (.iload_n 3, 1) := by decide +kernel
theorem dX6_cutFrom_7 : decode cX6_cutFrom 7 = .ok (.bipush 32, 2) := by decide +kernel
theorem dX6_cutFrom_9 : decode cX6_cutFrom 9 = .ok (.if_icmp .ne 7, 3) := by decide +kernel
theorem dX6_cutFrom_12 : decode cX6_cutFrom 12 = .ok (.iload_n 2, 1) := by decide +kernel
theorem dX6_cutFrom_13 : decode cX6_cutFrom 13 = .ok (.iconst 1, 1) := by decide +kernel
theorem dX6_cutFrom_14 : decode cX6_cutFrom 14 = .ok (.iadd, 1) := by decide +kernel
theorem dX6_cutFrom_15 : decode cX6_cutFrom 15 = .ok (.ireturn, 1) := by decide +kernel
theorem dX6_cutFrom_16 : decode cX6_cutFrom 16 = .ok (.iload_n 3, 1) := by decide +kernel
theorem dX6_cutFrom_17 : decode cX6_cutFrom 17 = .ok (.bipush 48, 2) := by decide +kernel
theorem dX6_cutFrom_19 : decode cX6_cutFrom 19 = .ok (.if_icmp .lt 71, 3) := by decide +kernel
theorem dX6_cutFrom_22 : decode cX6_cutFrom 22 = .ok (.iload_n 3, 1) := by decide +kernel
theorem dX6_cutFrom_23 : decode cX6_cutFrom 23 = .ok (.bipush 57, 2) := by decide +kernel
theorem dX6_cutFrom_25 : decode cX6_cutFrom 25 = .ok (.if_icmp .gt 65, 3) := by decide +kernel
theorem dX6_cutFrom_28 : decode cX6_cutFrom 28 = .ok (.aload_n 0, 1) := by decide +kernel
theorem dX6_cutFrom_29 : decode cX6_cutFrom 29 = .ok (.aload_n 1, 1) := by decide +kernel
theorem dX6_cutFrom_30 : decode cX6_cutFrom 30 = .ok (.iload_n 2, 1) := by decide +kernel
theorem dX6_cutFrom_31 : decode cX6_cutFrom 31 = .ok (.bipush 48, 2) := by decide +kernel
theorem dX6_cutFrom_33 : decode cX6_cutFrom 33 = .ok (.bipush 57, 2) := by decide +kernel
theorem dX6_cutFrom_35 : decode cX6_cutFrom 35 = .ok (.invokevirtual 41, 3) := by decide +kernel
theorem dX6_cutFrom_38 : decode cX6_cutFrom 38 = .ok (.istore 4, 2) := by decide +kernel
theorem dX6_cutFrom_40 : decode cX6_cutFrom 40 = .ok (.iload 4, 2) := by decide +kernel
theorem dX6_cutFrom_42 : decode cX6_cutFrom 42 = .ok (.iload_n 2, 1) := by decide +kernel
theorem dX6_cutFrom_43 : decode cX6_cutFrom 43 = .ok (.isub, 1) := by decide +kernel
theorem dX6_cutFrom_44 : decode cX6_cutFrom 44 = .ok (.iconst 4, 1) := by decide +kernel
theorem dX6_cutFrom_45 : decode cX6_cutFrom 45 = .ok (.if_icmp .gt 7, 3) := by decide +kernel
theorem dX6_cutFrom_48 : decode cX6_cutFrom 48 = .ok (.iconst 1, 1) := by decide +kernel
theorem dX6_cutFrom_49 : decode cX6_cutFrom 49 = .ok (.goto 4, 3) := by decide +kernel
theorem dX6_cutFrom_52 : decode cX6_cutFrom 52 = .ok (.iconst 0, 1) := by decide +kernel
theorem dX6_cutFrom_53 : decode cX6_cutFrom 53 = .ok (.istore 5, 2) := by decide +kernel
theorem dX6_cutFrom_55 : decode cX6_cutFrom 55 = .ok (.aload_n 0, 1) := by decide +kernel
theorem dX6_cutFrom_56 : decode cX6_cutFrom 56 = .ok (.iload_n 2, 1) := by decide +kernel
theorem dX6_cutFrom_57 : decode cX6_cutFrom 57 = .ok (.iload 5, 2) := by decide +kernel
theorem dX6_cutFrom_59 : decode cX6_cutFrom 59 = .ok (.ifCond .eq 7, 3) := by decide +kernel
theorem dX6_cutFrom_62 : decode cX6_cutFrom 62 = .ok (.iconst 1, 1) := by decide +kernel
theorem dX6_cutFrom_63 : decode cX6_cutFrom 63 = .ok (.goto 4, 3) := by decide +kernel
theorem dX6_cutFrom_66 : decode cX6_cutFrom 66 = .ok (.iconst 0, 1) := by decide +kernel
theorem dX6_cutFrom_67 : decode cX6_cutFrom 67 = .ok (.iload 5, 2) := by decide +kernel
theorem dX6_cutFrom_69 : decode cX6_cutFrom 69 = .ok (.ifCond .eq 14, 3) := by decide +kernel
theorem dX6_cutFrom_72 : decode cX6_cutFrom 72 = .ok (.aload_n 0, 1) := by decide +kernel
theorem dX6_cutFrom_73 : decode cX6_cutFrom 73 = .ok (.aload_n 1, 1) := by decide +kernel
theorem dX6_cutFrom_74 : decode cX6_cutFrom 74 = .ok (.iload_n 2, 1) := by decide +kernel
theorem dX6_cutFrom_75 : decode cX6_cutFrom 75 = .ok (.iload 4, 2) := by decide +kernel
theorem dX6_cutFrom_77 : decode cX6_cutFrom 77 = .ok (.invokevirtual 45, 3) := by decide +kernel
theorem dX6_cutFrom_80 : decode cX6_cutFrom 80 = .ok (.goto 4, 3) := by decide +kernel
theorem dX6_cutFrom_83 : decode cX6_cutFrom 83 = .ok (.iconst 0, 1) := by decide +kernel
theorem dX6_cutFrom_84 : decode cX6_cutFrom 84 = .ok (.invokevirtual 49, 3) := by decide +kernel
theorem dX6_cutFrom_87 : decode cX6_cutFrom 87 = .ok (.iload 4, 2) := by decide +kernel
theorem dX6_cutFrom_89 : decode cX6_cutFrom 89 = .ok (.ireturn, 1) := by decide +kernel
theorem dX6_cutFrom_90 : decode cX6_cutFrom 90 = .ok (.iload_n 3, 1) := by decide +kernel
theorem dX6_cutFrom_91 : decode cX6_cutFrom 91 = .ok (.bipush 97, 2) := by decide +kernel
theorem dX6_cutFrom_93 : decode cX6_cutFrom 93 = .ok (.if_icmp .lt 38, 3) := by decide +kernel
theorem dX6_cutFrom_96 : decode cX6_cutFrom 96 = .ok (.iload_n 3, 1) := by decide +kernel
theorem dX6_cutFrom_97 : decode cX6_cutFrom 97 = .ok (.bipush 122, 2) := by decide +kernel
theorem dX6_cutFrom_99 : decode cX6_cutFrom 99 = .ok (.if_icmp .gt 32, 3) := by decide +kernel
theorem dX6_cutFrom_102 : decode cX6_cutFrom 102 = .ok (.aload_n 0, 1) := by decide +kernel
theorem dX6_cutFrom_103 : decode cX6_cutFrom 103 = .ok (.aload_n 1, 1) := by decide +kernel
theorem dX6_cutFrom_104 : decode cX6_cutFrom 104 = .ok (.iload_n 2, 1) := by decide +kernel
theorem dX6_cutFrom_105 : decode cX6_cutFrom 105 = .ok (.bipush 97, 2) := by decide +kernel
theorem dX6_cutFrom_107 : decode cX6_cutFrom 107 = .ok (.bipush 122, 2) := by decide +kernel
theorem dX6_cutFrom_109 : decode cX6_cutFrom 109 = .ok (.invokevirtual 41, 3) := by decide +kernel
theorem dX6_cutFrom_112 : decode cX6_cutFrom 112 = .ok (.istore 4, 2) := by decide +kernel
theorem dX6_cutFrom_114 : decode cX6_cutFrom 114 = .ok (.aload_n 0, 1) := by decide +kernel
theorem dX6_cutFrom_115 : decode cX6_cutFrom 115 = .ok (.iload_n 2, 1) := by decide +kernel
theorem dX6_cutFrom_116 : decode cX6_cutFrom 116 = .ok (.aload_n 0, 1) := by decide +kernel
theorem dX6_cutFrom_117 : decode cX6_cutFrom 117 = .ok (.aload_n 1, 1) := by decide +kernel
theorem dX6_cutFrom_118 : decode cX6_cutFrom 118 = .ok (.iload_n 2, 1) := by decide +kernel
theorem dX6_cutFrom_119 : decode cX6_cutFrom 119 = .ok (.iload 4, 2) := by decide +kernel
theorem dX6_cutFrom_121 : decode cX6_cutFrom 121 = .ok (.invokevirtual 53, 3) := by decide +kernel
theorem dX6_cutFrom_124 : decode cX6_cutFrom 124 = .ok (.iconst 0, 1) := by decide +kernel
theorem dX6_cutFrom_125 : decode cX6_cutFrom 125 = .ok (.invokevirtual 49, 3) := by decide +kernel
theorem dX6_cutFrom_128 : decode cX6_cutFrom 128 = .ok (.iload 4, 2) := by decide +kernel
theorem dX6_cutFrom_130 : decode cX6_cutFrom 130 = .ok (.ireturn, 1) := by decide +kernel
theorem dX6_cutFrom_131 : decode cX6_cutFrom 131 = .ok (.iload_n 3, 1) := by decide +kernel
theorem dX6_cutFrom_132 : decode cX6_cutFrom 132 = .ok (.bipush 43, 2) := by decide +kernel
theorem dX6_cutFrom_134 : decode cX6_cutFrom 134 = .ok (.if_icmp .eq 21, 3) := by decide +kernel
theorem dX6_cutFrom_137 : decode cX6_cutFrom 137 = .ok (.iload_n 3, 1) := by decide +kernel
theorem dX6_cutFrom_138 : decode cX6_cutFrom 138 = .ok (.bipush 45, 2) := by decide +kernel
theorem dX6_cutFrom_140 : decode cX6_cutFrom 140 = .ok (.if_icmp .eq 15, 3) := by decide +kernel
theorem dX6_cutFrom_143 : decode cX6_cutFrom 143 = .ok (.iload_n 3, 1) := by decide +kernel
theorem dX6_cutFrom_144 : decode cX6_cutFrom 144 = .ok (.bipush 44, 2) := by decide +kernel
theorem dX6_cutFrom_146 : decode cX6_cutFrom 146 = .ok (.if_icmp .eq 9, 3) := by decide +kernel
theorem dX6_cutFrom_149 : decode cX6_cutFrom 149 = .ok (.iload_n 3, 1) := by decide +kernel
theorem dX6_cutFrom_150 : decode cX6_cutFrom 150 = .ok (.bipush 58, 2) := by decide +kernel
theorem dX6_cutFrom_152 : decode cX6_cutFrom 152 = .ok (.if_icmp .ne 7, 3) := by decide +kernel
theorem dX6_cutFrom_155 : decode cX6_cutFrom 155 = .ok (.iconst 1, 1) := by decide +kernel
theorem dX6_cutFrom_156 : decode cX6_cutFrom 156 = .ok (.goto 4, 3) := by decide +kernel
theorem dX6_cutFrom_159 : decode cX6_cutFrom 159 = .ok (.iconst 0, 1) := by decide +kernel
theorem dX6_cutFrom_160 : decode cX6_cutFrom 160 = .ok (.istore 4, 2) := by decide +kernel
theorem dX6_cutFrom_162 : decode cX6_cutFrom 162 = .ok (.aload_n 0, 1) := by decide +kernel
theorem dX6_cutFrom_163 : decode cX6_cutFrom 163 = .ok (.iload_n 2, 1) := by decide +kernel
theorem dX6_cutFrom_164 : decode cX6_cutFrom 164 = .ok (.iload 4, 2) := by decide +kernel
theorem dX6_cutFrom_166 : decode cX6_cutFrom 166 = .ok (.ifCond .eq 7, 3) := by decide +kernel
theorem dX6_cutFrom_169 : decode cX6_cutFrom 169 = .ok (.iload_n 3, 1) := by decide +kernel
theorem dX6_cutFrom_170 : decode cX6_cutFrom 170 = .ok (.goto 4, 3) := by decide +kernel
theorem dX6_cutFrom_173 : decode cX6_cutFrom 173 = .ok (.iconst 0, 1) := by decide +kernel
theorem dX6_cutFrom_174 : decode cX6_cutFrom 174 = .ok (.iconst 0, 1) := by decide +kernel
theorem dX6_cutFrom_175 : decode cX6_cutFrom 175 = .ok (.invokevirtual 49, 3) := by decide +kernel
theorem dX6_cutFrom_178 : decode cX6_cutFrom 178 = .ok (.iload_n 2, 1) := by decide +kernel
theorem dX6_cutFrom_179 : decode cX6_cutFrom 179 = .ok (.iconst 1, 1) := by decide +kernel
theorem dX6_cutFrom_180 : decode cX6_cutFrom 180 = .ok (.iadd, 1) := by decide +kernel
theorem dX6_cutFrom_181 : decode cX6_cutFrom 181 = .ok (.ireturn, 1) := by decide +kernel
set_option maxRecDepth 20000 in
theorem ggX6_behindRow_X9_byteAt : GoodIn wsX6_behindRow wsX9_byteAt := goodIn_r _ [6, 7, 8, 14, 15] (by decide +kernel) (by decide +kernel)
set_option maxRecDepth 20000 in
theorem gX6_behindRow_X9_byteAt : GoodIn wsX6_behindRow (wsV RX6 37 RX9 yX9_byteAt wsX9_byteAt) := goodIn_app (goodIn_of _ (by decide +kernel)) ggX6_behindRow_X9_byteAt
theorem dX6_behindRow_0 : decode cX6_behindRow 0 = .ok (.iload_n 2, 1) := by decide +kernel
theorem dX6_behindRow_1 : decode cX6_behindRow 1 = .ok (.istore 5, 2) := by decide +kernel
theorem dX6_behindRow_3 : decode cX6_behindRow 3 = .ok (.iload 5, 2) := by decide +kernel
theorem dX6_behindRow_5 : decode cX6_behindRow 5 = .ok (.aload_n 0, 1) := by decide +kernel
theorem dX6_behindRow_6 : decode cX6_behindRow 6 = .ok (.getfield 27, 3) := by decide +kernel
theorem dX6_behindRow_9 : decode cX6_behindRow 9 = .ok (.if_icmp .ge 30, 3) := by decide +kernel
theorem dX6_behindRow_12 : decode cX6_behindRow 12 = .ok (.aload_n 1, 1) := by decide +kernel
theorem dX6_behindRow_13 : decode cX6_behindRow 13 = .ok (.iload 5, 2) := by decide +kernel
theorem dX6_behindRow_15 : decode cX6_behindRow 15 = .ok (.invokevirtual 37, 3) := by decide +kernel
theorem dX6_behindRow_18 : decode cX6_behindRow 18 = .ok (.iload_n 3, 1) := by decide +kernel
theorem dX6_behindRow_19 : decode cX6_behindRow 19 = .ok (.if_icmp .lt 20, 3) := by decide +kernel
theorem dX6_behindRow_22 : decode cX6_behindRow 22 = .ok (.aload_n 1, 1) := by decide +kernel
theorem dX6_behindRow_23 : decode cX6_behindRow 23 = .ok (.iload 5, 2) := by decide +kernel
theorem dX6_behindRow_25 : decode cX6_behindRow 25 = .ok (.invokevirtual 37, 3) := by decide +kernel
theorem dX6_behindRow_28 : decode cX6_behindRow 28 = .ok (.iload 4, 2) := by decide +kernel
theorem dX6_behindRow_30 : decode cX6_behindRow 30 = .ok (.if_icmp .gt 9, 3) := by decide +kernel
theorem dX6_behindRow_33 : decode cX6_behindRow 33 = .ok (.iinc 5 1, 3) := by decide +kernel
theorem dX6_behindRow_36 : decode cX6_behindRow 36 = .ok (.goto (-33), 3) := by decide +kernel
theorem dX6_behindRow_39 : decode cX6_behindRow 39 = .ok (.iload 5, 2) := by decide +kernel
theorem dX6_behindRow_41 : decode cX6_behindRow 41 = .ok (.ireturn, 1) := by decide +kernel
set_option maxRecDepth 20000 in
theorem ggX6_numberIn_X9_byteAt : GoodIn wsX6_numberIn wsX9_byteAt := goodIn_r _ [5, 6, 7, 8, 9] (by decide +kernel) (by decide +kernel)
set_option maxRecDepth 20000 in
theorem gX6_numberIn_X9_byteAt : GoodIn wsX6_numberIn (wsV RX6 37 RX9 yX9_byteAt wsX9_byteAt) := goodIn_app (goodIn_of _ (by decide +kernel)) ggX6_numberIn_X9_byteAt
theorem dX6_numberIn_0 : decode cX6_numberIn 0 = .ok (.iconst 0, 1) := by decide +kernel
theorem dX6_numberIn_1 : decode cX6_numberIn 1 = .ok (.istore 4, 2) := by decide +kernel
theorem dX6_numberIn_3 : decode cX6_numberIn 3 = .ok (.iload_n 2, 1) := by decide +kernel
theorem dX6_numberIn_4 : decode cX6_numberIn 4 = .ok (.istore 5, 2) := by decide +kernel
theorem dX6_numberIn_6 : decode cX6_numberIn 6 = .ok (.iload 5, 2) := by decide +kernel
theorem dX6_numberIn_8 : decode cX6_numberIn 8 = .ok (.iload_n 3, 1) := by decide +kernel
theorem dX6_numberIn_9 : decode cX6_numberIn 9 = .ok (.if_icmp .ge 26, 3) := by decide +kernel
theorem dX6_numberIn_12 : decode cX6_numberIn 12 = .ok (.iload 4, 2) := by decide +kernel
theorem dX6_numberIn_14 : decode cX6_numberIn 14 = .ok (.bipush 10, 2) := by decide +kernel
theorem dX6_numberIn_16 : decode cX6_numberIn 16 = .ok (.imul, 1) := by decide +kernel
theorem dX6_numberIn_17 : decode cX6_numberIn 17 = .ok (.aload_n 1, 1) := by decide +kernel
theorem dX6_numberIn_18 : decode cX6_numberIn 18 = .ok (.iload 5, 2) := by decide +kernel
theorem dX6_numberIn_20 : decode cX6_numberIn 20 = .ok (.invokevirtual 37, 3) := by decide +kernel
theorem dX6_numberIn_23 : decode cX6_numberIn 23 = .ok (.iadd, 1) := by decide +kernel
theorem dX6_numberIn_24 : decode cX6_numberIn 24 = .ok (.bipush 48, 2) := by decide +kernel
theorem dX6_numberIn_26 : decode cX6_numberIn 26 = .ok (.isub, 1) := by decide +kernel
theorem dX6_numberIn_27 : decode cX6_numberIn 27 = .ok (.istore 4, 2) := by decide +kernel
theorem dX6_numberIn_29 : decode cX6_numberIn 29 = .ok (.iinc 5 1, 3) := by decide +kernel
theorem dX6_numberIn_32 : decode cX6_numberIn 32 = .ok (.goto (-26), 3) := by decide +kernel
theorem dX6_numberIn_35 : decode cX6_numberIn 35 = .ok (.iload 4, 2) := by decide +kernel
theorem dX6_numberIn_37 : decode cX6_numberIn 37 = .ok (.ireturn, 1) := by decide +kernel
set_option maxRecDepth 20000 in
theorem ggX6_wordIn_X11_spelling : GoodIn wsX6_wordIn wsX11_spelling := goodIn_r _ [3] (by decide +kernel) (by decide +kernel)
set_option maxRecDepth 20000 in
theorem gX6_wordIn_X11_spelling_n56 : GoodIn wsX6_wordIn (wsX11_spelling) := ggX6_wordIn_X11_spelling
set_option maxRecDepth 20000 in
theorem ggX6_wordIn_X6_isSpelt : GoodIn wsX6_wordIn wsX6_isSpelt := goodIn_r _ [8, 9, 10, 11, 12, 13, 14, 15, 16, 17, 18, 19, 20, 21, 22, 23, 24, 25, 26, 27, 28, 29, 30, 31, 32, 33, 34, 35, 36, 37, 38, 39, 40, 41, 42, 43, 44, 45, 46, 47, 48, 49, 50, 51, 52, 53, 54, 55, 56, 57, 58, 59, 60, 61, 62, 63, 64, 65, 66, 67, 68, 69, 70] (by decide +kernel) (by decide +kernel)
set_option maxRecDepth 20000 in
theorem gX6_wordIn_X6_isSpelt : GoodIn wsX6_wordIn (wsV RX6 60 RX6 yX6_isSpelt wsX6_isSpelt) := goodIn_app (goodIn_of _ (by decide +kernel)) ggX6_wordIn_X6_isSpelt
theorem dX6_wordIn_0 : decode cX6_wordIn 0 = .ok (.bipush 100, 2) := by decide +kernel
theorem dX6_wordIn_2 : decode cX6_wordIn 2 = .ok (.istore 4, 2) := by decide +kernel
theorem dX6_wordIn_4 : decode cX6_wordIn 4 = .ok (.iload 4, 2) := by decide +kernel
theorem dX6_wordIn_6 : decode cX6_wordIn 6 = .ok (.bipush 111, 2) := by decide +kernel
theorem dX6_wordIn_8 : decode cX6_wordIn 8 = .ok (.if_icmp .ge 27, 3) := by decide +kernel
theorem dX6_wordIn_11 : decode cX6_wordIn 11 = .ok (.aload_n 0, 1) := by decide +kernel
theorem dX6_wordIn_12 : decode cX6_wordIn 12 = .ok (.aload_n 1, 1) := by decide +kernel
theorem dX6_wordIn_13 : decode cX6_wordIn 13 = .ok (.iload 4, 2) := by decide +kernel
theorem dX6_wordIn_15 : decode cX6_wordIn 15 = .ok (.invokestatic 56, 3) := by decide +kernel
theorem dX6_wordIn_18 : decode cX6_wordIn 18 = .ok (.iload_n 2, 1) := by decide +kernel
theorem dX6_wordIn_19 : decode cX6_wordIn 19 = .ok (.iload_n 3, 1) := by decide +kernel
theorem dX6_wordIn_20 : decode cX6_wordIn 20 = .ok (.invokevirtual 60, 3) := by decide +kernel
theorem dX6_wordIn_23 : decode cX6_wordIn 23 = .ok (.ifCond .eq 6, 3) := by decide +kernel
theorem dX6_wordIn_26 : decode cX6_wordIn 26 = .ok (.iload 4, 2) := by decide +kernel
theorem dX6_wordIn_28 : decode cX6_wordIn 28 = .ok (.ireturn, 1) := by decide +kernel
theorem dX6_wordIn_29 : decode cX6_wordIn 29 = .ok (.iinc 4 1, 3) := by decide +kernel
theorem dX6_wordIn_32 : decode cX6_wordIn 32 = .ok (.goto (-28), 3) := by decide +kernel
theorem dX6_wordIn_35 : decode cX6_wordIn 35 = .ok (.iconst 0, 1) := by decide +kernel
theorem dX6_wordIn_36 : decode cX6_wordIn 36 = .ok (.ireturn, 1) := by decide +kernel
set_option maxRecDepth 20000 in
theorem ggX6_isSpelt_J0_length_8abf5 : GoodIn wsX6_isSpelt wsJ0_length_8abf5 := goodIn_r _ [5, 6, 7, 8, 9, 4, 10, 11, 12, 57, 58, 59, 60] (by decide +kernel) (by decide +kernel)
set_option maxRecDepth 20000 in
theorem gX6_isSpelt_J0_length_8abf5 : GoodIn wsX6_isSpelt (wsV RX6 64 RJ0 yJ0_length_8abf5 wsJ0_length_8abf5) := goodIn_app (goodIn_of _ (by decide +kernel)) ggX6_isSpelt_J0_length_8abf5
set_option maxRecDepth 20000 in
theorem ggX6_isSpelt_J0_charAt_5068e : GoodIn wsX6_isSpelt wsJ0_charAt_5068e := goodIn_r _ [16, 6, 17, 18, 19, 4, 20, 11, 12, 21, 22, 23, 24, 25, 26, 27, 28, 29, 30, 31, 32, 33, 34, 35, 36, 37, 38, 39, 40, 41, 42, 43, 44, 45, 46, 47, 48, 49, 57, 58, 59, 60] (by decide +kernel) (by decide +kernel)
set_option maxRecDepth 20000 in
theorem gX6_isSpelt_J0_charAt_5068e : GoodIn wsX6_isSpelt (wsV RX6 69 RJ0 yJ0_charAt_5068e wsJ0_charAt_5068e) := goodIn_app (goodIn_of _ (by decide +kernel)) ggX6_isSpelt_J0_charAt_5068e
set_option maxRecDepth 20000 in
theorem ggX6_isSpelt_X9_byteAt : GoodIn wsX6_isSpelt wsX9_byteAt := goodIn_r _ [54, 55, 56, 61, 62] (by decide +kernel) (by decide +kernel)
set_option maxRecDepth 20000 in
theorem gX6_isSpelt_X9_byteAt : GoodIn wsX6_isSpelt (wsV RX6 37 RX9 yX9_byteAt wsX9_byteAt) := goodIn_app (goodIn_of _ (by decide +kernel)) ggX6_isSpelt_X9_byteAt
theorem dX6_isSpelt_0 : decode cX6_isSpelt 0 = .ok (.aload_n 2, 1) := by decide +kernel
theorem dX6_isSpelt_1 : decode cX6_isSpelt 1 = .ok (.invokevirtual 64, 3) := by decide +kernel
theorem dX6_isSpelt_4 : decode cX6_isSpelt 4 = .ok (.iload 4, 2) := by decide +kernel
theorem dX6_isSpelt_6 : decode cX6_isSpelt 6 = .ok (.iload_n 3, 1) := by decide +kernel
theorem dX6_isSpelt_7 : decode cX6_isSpelt 7 = .ok (.isub, 1) := by decide +kernel
theorem dX6_isSpelt_8 : decode cX6_isSpelt 8 = .ok (.if_icmp .eq 5, 3) := by decide +kernel
theorem dX6_isSpelt_11 : decode cX6_isSpelt 11 = .ok (.iconst 0, 1) := by decide +kernel
theorem dX6_isSpelt_12 : decode cX6_isSpelt 12 = .ok (.ireturn, 1) := by decide +kernel
theorem dX6_isSpelt_13 : decode cX6_isSpelt 13 = .ok (.iconst 0, 1) := by decide +kernel
theorem dX6_isSpelt_14 : decode cX6_isSpelt 14 = .ok (.istore 5, 2) := by decide +kernel
theorem dX6_isSpelt_16 : decode cX6_isSpelt 16 = .ok (.iload 5, 2) := by decide +kernel
theorem dX6_isSpelt_18 : decode cX6_isSpelt 18 = .ok (.aload_n 2, 1) := by decide +kernel
theorem dX6_isSpelt_19 : decode cX6_isSpelt 19 = .ok (.invokevirtual 64, 3) := by decide +kernel
theorem dX6_isSpelt_22 : decode cX6_isSpelt 22 = .ok (.if_icmp .ge 28, 3) := by decide +kernel
theorem dX6_isSpelt_25 : decode cX6_isSpelt 25 = .ok (.aload_n 2, 1) := by decide +kernel
theorem dX6_isSpelt_26 : decode cX6_isSpelt 26 = .ok (.iload 5, 2) := by decide +kernel
theorem dX6_isSpelt_28 : decode cX6_isSpelt 28 = .ok (.invokevirtual 69, 3) := by decide +kernel
theorem dX6_isSpelt_31 : decode cX6_isSpelt 31 = .ok (.aload_n 1, 1) := by decide +kernel
theorem dX6_isSpelt_32 : decode cX6_isSpelt 32 = .ok (.iload_n 3, 1) := by decide +kernel
theorem dX6_isSpelt_33 : decode cX6_isSpelt 33 = .ok (.iload 5, 2) := by decide +kernel
theorem dX6_isSpelt_35 : decode cX6_isSpelt 35 = .ok (.iadd, 1) := by decide +kernel
theorem dX6_isSpelt_36 : decode cX6_isSpelt 36 = .ok (.invokevirtual 37, 3) := by decide +kernel
theorem dX6_isSpelt_39 : decode cX6_isSpelt 39 = .ok (.if_icmp .eq 5, 3) := by decide +kernel
theorem dX6_isSpelt_42 : decode cX6_isSpelt 42 = .ok (.iconst 0, 1) := by decide +kernel
theorem dX6_isSpelt_43 : decode cX6_isSpelt 43 = .ok (.ireturn, 1) := by decide +kernel
theorem dX6_isSpelt_44 : decode cX6_isSpelt 44 = .ok (.iinc 5 1, 3) := by decide +kernel
theorem dX6_isSpelt_47 : decode cX6_isSpelt 47 = .ok (.goto (-31), 3) := by decide +kernel
theorem dX6_isSpelt_50 : decode cX6_isSpelt 50 = .ok (.iconst 1, 1) := by decide +kernel
theorem dX6_isSpelt_51 : decode cX6_isSpelt 51 = .ok (.ireturn, 1) := by decide +kernel
theorem dX6_add_0 : decode cX6_add 0 = .ok (.aload_n 0, 1) := by decide +kernel
theorem dX6_add_1 : decode cX6_add 1 = .ok (.getfield 23, 3) := by decide +kernel
theorem dX6_add_4 : decode cX6_add 4 = .ok (.bipush 120, 2) := by decide +kernel
theorem dX6_add_6 : decode cX6_add 6 = .ok (.if_icmp .ge 43, 3) := by decide +kernel
theorem dX6_add_9 : decode cX6_add 9 = .ok (.aload_n 0, 1) := by decide +kernel
theorem dX6_add_10 : decode cX6_add 10 = .ok (.getfield 11, 3) := by decide +kernel
theorem dX6_add_13 : decode cX6_add 13 = .ok (.aload_n 0, 1) := by decide +kernel
theorem dX6_add_14 : decode cX6_add 14 = .ok (.getfield 23, 3) := by decide +kernel
theorem dX6_add_17 : decode cX6_add 17 = .ok (.iload_n 1, 1) := by decide +kernel
theorem dX6_add_18 : decode cX6_add 18 = .ok (.iastore, 1) := by decide +kernel
theorem dX6_add_19 : decode cX6_add 19 = .ok (.aload_n 0, 1) := by decide +kernel
theorem dX6_add_20 : decode cX6_add 20 = .ok (.getfield 17, 3) := by decide +kernel
theorem dX6_add_23 : decode cX6_add 23 = .ok (.aload_n 0, 1) := by decide +kernel
theorem dX6_add_24 : decode cX6_add 24 = .ok (.getfield 23, 3) := by decide +kernel
theorem dX6_add_27 : decode cX6_add 27 = .ok (.iload_n 2, 1) := by decide +kernel
theorem dX6_add_28 : decode cX6_add 28 = .ok (.iastore, 1) := by decide +kernel
theorem dX6_add_29 : decode cX6_add 29 = .ok (.aload_n 0, 1) := by decide +kernel
theorem dX6_add_30 : decode cX6_add 30 = .ok (.getfield 20, 3) := by decide +kernel
theorem dX6_add_33 : decode cX6_add 33 = .ok (.aload_n 0, 1) := by decide +kernel
theorem dX6_add_34 : decode cX6_add 34 = .ok (.getfield 23, 3) := by decide +kernel
theorem dX6_add_37 : decode cX6_add 37 = .ok (.iload_n 3, 1) := by decide +kernel
theorem dX6_add_38 : decode cX6_add 38 = .ok (.iastore, 1) := by decide +kernel
theorem dX6_add_39 : decode cX6_add 39 = .ok (.aload_n 0, 1) := by decide +kernel
theorem dX6_add_40 : decode cX6_add 40 = .ok (.dup, 1) := by decide +kernel
theorem dX6_add_41 : decode cX6_add 41 = .ok (.getfield 23, 3) := by decide +kernel
theorem dX6_add_44 : decode cX6_add 44 = .ok (.iconst 1, 1) := by decide +kernel
theorem dX6_add_45 : decode cX6_add 45 = .ok (.iadd, 1) := by decide +kernel
theorem dX6_add_46 : decode cX6_add 46 = .ok (.putfield 23, 3) := by decide +kernel
theorem dX6_add_49 : decode cX6_add 49 = .ok (.return_, 1) := by decide +kernel
set_option maxRecDepth 20000 in
theorem ggX7_init_X6_init : GoodIn wsX7_init wsX6_init := goodIn_r _ [14, 15, 2, 3, 8, 16, 17, 18, 19, 20, 21, 22, 23, 24, 25] (by decide +kernel) (by decide +kernel)
set_option maxRecDepth 20000 in
theorem gX7_init_X6_init_n11 : GoodIn wsX7_init (wsX6_init) := ggX7_init_X6_init
theorem dX7_init_0 : decode cX7_init 0 = .ok (.aload_n 0, 1) := by decide +kernel
theorem dX7_init_1 : decode cX7_init 1 = .ok (.invokespecial 3, 3) := by decide +kernel
theorem dX7_init_4 : decode cX7_init 4 = .ok (.aload_n 0, 1) := by decide +kernel
theorem dX7_init_5 : decode cX7_init 5 = .ok (.new 9, 3) := by decide +kernel
theorem dX7_init_8 : decode cX7_init 8 = .ok (.dup, 1) := by decide +kernel
theorem dX7_init_9 : decode cX7_init 9 = .ok (.invokespecial 11, 3) := by decide +kernel
theorem dX7_init_12 : decode cX7_init 12 = .ok (.putfield 12, 3) := by decide +kernel
theorem dX7_init_15 : decode cX7_init 15 = .ok (.aload_n 0, 1) := by decide +kernel
theorem dX7_init_16 : decode cX7_init 16 = .ok (.bipush 120, 2) := by decide +kernel
theorem dX7_init_18 : decode cX7_init 18 = .ok (.newarray .int, 2) := by decide +kernel
theorem dX7_init_20 : decode cX7_init 20 = .ok (.putfield 20, 3) := by decide +kernel
theorem dX7_init_23 : decode cX7_init 23 = .ok (.aload_n 0, 1) := by decide +kernel
theorem dX7_init_24 : decode cX7_init 24 = .ok (.iconst 0, 1) := by decide +kernel
theorem dX7_init_25 : decode cX7_init 25 = .ok (.putfield 24, 3) := by decide +kernel
theorem dX7_init_28 : decode cX7_init 28 = .ok (.aload_n 0, 1) := by decide +kernel
theorem dX7_init_29 : decode cX7_init 29 = .ok (.iconst 0, 1) := by decide +kernel
theorem dX7_init_30 : decode cX7_init 30 = .ok (.putfield 28, 3) := by decide +kernel
theorem dX7_init_33 : decode cX7_init 33 = .ok (.aload_n 0, 1) := by decide +kernel
theorem dX7_init_34 : decode cX7_init 34 = .ok (.sipush (-9999), 3) := by decide +kernel
theorem dX7_init_37 : decode cX7_init 37 = .ok (.putfield 31, 3) := by decide +kernel
theorem dX7_init_40 : decode cX7_init 40 = .ok (.return_, 1) := by decide +kernel
theorem dX7_size_0 : decode cX7_size 0 = .ok (.aload_n 0, 1) := by decide +kernel
theorem dX7_size_1 : decode cX7_size 1 = .ok (.getfield 24, 3) := by decide +kernel
theorem dX7_size_4 : decode cX7_size 4 = .ok (.ireturn, 1) := by decide +kernel
theorem dX7_told_0 : decode cX7_told 0 = .ok (.iload_n 1, 1) := by decide +kernel
theorem dX7_told_1 : decode cX7_told 1 = .ok (.ifCond .lt 20, 3) := by decide +kernel
theorem dX7_told_4 : decode cX7_told 4 = .ok (.iload_n 1, 1) := by decide +kernel
theorem dX7_told_5 : decode cX7_told 5 = .ok (.aload_n 0, 1) := by decide +kernel
theorem dX7_told_6 : decode cX7_told 6 = .ok (.getfield 24, 3) := by decide +kernel
theorem dX7_told_9 : decode cX7_told 9 = .ok (.if_icmp .ge 12, 3) := by decide +kernel
theorem dX7_told_12 : decode cX7_told 12 = .ok (.aload_n 0, 1) := by decide +kernel
theorem dX7_told_13 : decode cX7_told 13 = .ok (.getfield 20, 3) := by decide +kernel
theorem dX7_told_16 : decode cX7_told 16 = .ok (.iload_n 1, 1) := by decide +kernel
theorem dX7_told_17 : decode cX7_told 17 = .ok (.iaload, 1) := by decide +kernel
theorem dX7_told_18 : decode cX7_told 18 = .ok (.goto 4, 3) := by decide +kernel
theorem dX7_told_21 : decode cX7_told 21 = .ok (.iconst 0, 1) := by decide +kernel
theorem dX7_told_22 : decode cX7_told 22 = .ok (.ireturn, 1) := by decide +kernel
theorem dX7_wrongAt_0 : decode cX7_wrongAt 0 = .ok (.aload_n 0, 1) := by decide +kernel
theorem dX7_wrongAt_1 : decode cX7_wrongAt 1 = .ok (.getfield 31, 3) := by decide +kernel
theorem dX7_wrongAt_4 : decode cX7_wrongAt 4 = .ok (.ireturn, 1) := by decide +kernel
set_option maxRecDepth 20000 in
theorem ggX7_begin_X6_cut : GoodIn wsX7_begin wsX6_cut := goodIn_r _ [9, 10, 11, 12, 13, 14, 15, 16, 17, 18, 19, 20, 8, 21, 22, 23, 24, 25, 26, 27, 28, 29, 30, 31, 32, 33, 34, 35, 36, 37, 38, 39, 40, 41, 42, 43, 44, 45, 46, 47, 48, 49, 50, 51, 52, 53, 54, 55, 56, 57, 58, 59, 60, 61, 62, 63, 64, 65, 66, 67, 68, 69, 70, 71, 72, 73, 74, 75, 76, 77, 78, 79, 80, 81, 82, 83, 84, 85, 86, 87, 88, 89, 90, 91, 92, 93, 94, 95, 96, 97, 98, 99, 100, 101, 107, 108, 109, 110, 111, 112, 113, 114, 115, 116, 117] (by decide +kernel) (by decide +kernel)
set_option maxRecDepth 20000 in
theorem gX7_begin_X6_cut : GoodIn wsX7_begin (wsV RX7 34 RX6 yX6_cut wsX6_cut) := goodIn_app (goodIn_of _ (by decide +kernel)) ggX7_begin_X6_cut
theorem dX7_begin_0 : decode cX7_begin 0 = .ok (.aload_n 0, 1) := by decide +kernel
theorem dX7_begin_1 : decode cX7_begin 1 = .ok (.getfield 12, 3) := by decide +kernel
theorem dX7_begin_4 : decode cX7_begin 4 = .ok (.aload_n 1, 1) := by decide +kernel
theorem dX7_begin_5 : decode cX7_begin 5 = .ok (.invokevirtual 34, 3) := by decide +kernel
theorem dX7_begin_8 : decode cX7_begin 8 = .ok (.aload_n 0, 1) := by decide +kernel
theorem dX7_begin_9 : decode cX7_begin 9 = .ok (.iconst 0, 1) := by decide +kernel
theorem dX7_begin_10 : decode cX7_begin 10 = .ok (.putfield 24, 3) := by decide +kernel
theorem dX7_begin_13 : decode cX7_begin 13 = .ok (.aload_n 0, 1) := by decide +kernel
theorem dX7_begin_14 : decode cX7_begin 14 = .ok (.iconst 0, 1) := by decide +kernel
theorem dX7_begin_15 : decode cX7_begin 15 = .ok (.putfield 28, 3) := by decide +kernel
theorem dX7_begin_18 : decode cX7_begin 18 = .ok (.aload_n 0, 1) := by decide +kernel
theorem dX7_begin_19 : decode cX7_begin 19 = .ok (.sipush (-9999), 3) := by decide +kernel
theorem dX7_begin_22 : decode cX7_begin 22 = .ok (.putfield 31, 3) := by decide +kernel
theorem dX7_begin_25 : decode cX7_begin 25 = .ok (.return_, 1) := by decide +kernel
set_option maxRecDepth 20000 in
theorem ggX7_readsThing_X7_takesWord : GoodIn wsX7_readsThing wsX7_takesWord := goodIn_r _ [5, 6, 7, 8, 9, 10, 11, 12, 13, 14, 15, 16, 17, 4, 18, 19, 20, 21, 22, 23, 24, 25, 26, 27, 28, 29, 30, 31, 53, 54, 55, 56, 57, 58, 59, 60, 61, 62] (by decide +kernel) (by decide +kernel)
set_option maxRecDepth 20000 in
theorem gX7_readsThing_X7_takesWord : GoodIn wsX7_readsThing (wsV RX7 38 RX7 yX7_takesWord wsX7_takesWord) := goodIn_app (goodIn_of _ (by decide +kernel)) ggX7_readsThing_X7_takesWord
set_option maxRecDepth 20000 in
theorem ggX7_readsThing_X7_takesNumber : GoodIn wsX7_readsThing wsX7_takesNumber := goodIn_r _ [35, 6, 7, 8, 9, 10, 11, 12, 13, 14, 15, 16, 17, 4, 18, 19, 20, 21, 22, 23, 24, 25, 36, 37, 38, 39, 40, 26, 27, 28, 29, 30, 31, 53, 54, 55, 56, 57, 58, 59, 60, 61, 62] (by decide +kernel) (by decide +kernel)
set_option maxRecDepth 20000 in
theorem gX7_readsThing_X7_takesNumber : GoodIn wsX7_readsThing (wsV RX7 42 RX7 yX7_takesNumber wsX7_takesNumber) := goodIn_app (goodIn_of _ (by decide +kernel)) ggX7_readsThing_X7_takesNumber
set_option maxRecDepth 20000 in
theorem ggX7_readsThing_X7_takesBars : GoodIn wsX7_readsThing wsX7_takesBars := goodIn_r _ [44, 45, 46, 47, 4, 48, 6, 7, 8, 9, 10, 11, 12, 13, 14, 1, 2, 3, 5, 15, 16, 17, 18, 19, 20, 21, 22, 23, 24, 25, 26, 27, 28, 29, 30, 31, 53, 54, 55, 56, 57, 58, 59, 60, 61, 62] (by decide +kernel) (by decide +kernel)
set_option maxRecDepth 20000 in
theorem gX7_readsThing_X7_takesBars : GoodIn wsX7_readsThing (wsV RX7 46 RX7 yX7_takesBars wsX7_takesBars) := goodIn_app (goodIn_of _ (by decide +kernel)) ggX7_readsThing_X7_takesBars
set_option maxRecDepth 20000 in
theorem ggX7_readsThing_X7_isAtEnd : GoodIn wsX7_readsThing wsX7_isAtEnd := goodIn_r _ [52, 6, 7, 8, 9, 10, 11, 12, 13, 14, 15, 16, 17, 4, 18, 19, 20, 21, 22, 23, 24, 25, 53, 54, 55, 56, 57, 58, 59, 60, 61, 62] (by decide +kernel) (by decide +kernel)
set_option maxRecDepth 20000 in
theorem gX7_readsThing_X7_isAtEnd : GoodIn wsX7_readsThing (wsV RX7 49 RX7 yX7_isAtEnd wsX7_isAtEnd) := goodIn_app (goodIn_of _ (by decide +kernel)) ggX7_readsThing_X7_isAtEnd
theorem dX7_readsThing_0 : decode cX7_readsThing 0 = .ok (.aload_n 0, 1) := by decide +kernel
theorem dX7_readsThing_1 : decode cX7_readsThing 1 = .ok (.bipush 102, 2) := by decide +kernel
theorem dX7_readsThing_3 : decode cX7_readsThing 3 = .ok (.iconst 5, 1) := by decide +kernel
theorem dX7_readsThing_4 : decode cX7_readsThing 4 = .ok (.invokevirtual 38, 3) := by decide +kernel
theorem dX7_readsThing_7 : decode cX7_readsThing 7 = .ok (.ifCond .eq 35, 3) := by decide +kernel
theorem dX7_readsThing_10 : decode cX7_readsThing 10 = .ok (.aload_n 0, 1) := by decide +kernel
theorem dX7_readsThing_11 : decode cX7_readsThing 11 = .ok (.invokevirtual 42, 3) := by decide +kernel
theorem dX7_readsThing_14 : decode cX7_readsThing 14 = .ok (.ifCond .eq 28, 3) := by decide +kernel
theorem dX7_readsThing_17 : decode cX7_readsThing 17 = .ok (.aload_n 0, 1) := by decide +kernel
theorem dX7_readsThing_18 : decode cX7_readsThing 18 = .ok (.invokevirtual 42, 3) := by decide +kernel
theorem dX7_readsThing_21 : decode cX7_readsThing 21 = .ok (.ifCond .eq 21, 3) := by decide +kernel
theorem dX7_readsThing_24 : decode cX7_readsThing 24 = .ok (.aload_n 0, 1) := by decide +kernel
theorem dX7_readsThing_25 : decode cX7_readsThing 25 = .ok (.invokevirtual 46, 3) := by decide +kernel
theorem dX7_readsThing_28 : decode cX7_readsThing 28 = .ok (.ifCond .eq 14, 3) := by decide +kernel
theorem dX7_readsThing_31 : decode cX7_readsThing 31 = .ok (.aload_n 0, 1) := by decide +kernel
theorem dX7_readsThing_32 : decode cX7_readsThing 32 = .ok (.invokevirtual 49, 3) := by decide +kernel
theorem dX7_readsThing_35 : decode cX7_readsThing 35 = .ok (.ifCond .eq 7, 3) := by decide +kernel
theorem dX7_readsThing_38 : decode cX7_readsThing 38 = .ok (.iconst 1, 1) := by decide +kernel
theorem dX7_readsThing_39 : decode cX7_readsThing 39 = .ok (.goto 4, 3) := by decide +kernel
theorem dX7_readsThing_42 : decode cX7_readsThing 42 = .ok (.iconst 0, 1) := by decide +kernel
theorem dX7_readsThing_43 : decode cX7_readsThing 43 = .ok (.ireturn, 1) := by decide +kernel
set_option maxRecDepth 20000 in
theorem ggX7_readsHouse_X7_takesNumber : GoodIn wsX7_readsHouse wsX7_takesNumber := goodIn_r _ [5, 6, 7, 8, 9, 10, 11, 12, 13, 14, 15, 16, 17, 4, 18, 19, 20, 21, 22, 23, 24, 25, 26, 27, 28, 29, 30, 31, 32, 33, 34, 35, 36, 41, 42, 43, 44, 45, 46, 47, 48, 49, 50] (by decide +kernel) (by decide +kernel)
set_option maxRecDepth 20000 in
theorem gX7_readsHouse_X7_takesNumber : GoodIn wsX7_readsHouse (wsV RX7 42 RX7 yX7_takesNumber wsX7_takesNumber) := goodIn_app (goodIn_of _ (by decide +kernel)) ggX7_readsHouse_X7_takesNumber
set_option maxRecDepth 20000 in
theorem ggX7_readsHouse_X7_isAtEnd : GoodIn wsX7_readsHouse wsX7_isAtEnd := goodIn_r _ [40, 6, 7, 8, 9, 10, 11, 12, 13, 14, 15, 16, 17, 4, 18, 19, 20, 21, 22, 23, 24, 25, 41, 42, 43, 44, 45, 46, 47, 48, 49, 50] (by decide +kernel) (by decide +kernel)
set_option maxRecDepth 20000 in
theorem gX7_readsHouse_X7_isAtEnd : GoodIn wsX7_readsHouse (wsV RX7 49 RX7 yX7_isAtEnd wsX7_isAtEnd) := goodIn_app (goodIn_of _ (by decide +kernel)) ggX7_readsHouse_X7_isAtEnd
theorem dX7_readsHouse_0 : decode cX7_readsHouse 0 = .ok (.aload_n 0, 1) := by decide +kernel
theorem dX7_readsHouse_1 : decode cX7_readsHouse 1 = .ok (.invokevirtual 42, 3) := by decide +kernel
theorem dX7_readsHouse_4 : decode cX7_readsHouse 4 = .ok (.ifCond .eq 35, 3) := by decide +kernel
theorem dX7_readsHouse_7 : decode cX7_readsHouse 7 = .ok (.aload_n 0, 1) := by decide +kernel
theorem dX7_readsHouse_8 : decode cX7_readsHouse 8 = .ok (.invokevirtual 42, 3) := by decide +kernel
theorem dX7_readsHouse_11 : decode cX7_readsHouse 11 = .ok (.ifCond .eq 28, 3) := by decide +kernel
theorem dX7_readsHouse_14 : decode cX7_readsHouse 14 = .ok (.aload_n 0, 1) := by decide +kernel
theorem dX7_readsHouse_15 : decode cX7_readsHouse 15 = .ok (.invokevirtual 42, 3) := by decide +kernel
theorem dX7_readsHouse_18 : decode cX7_readsHouse 18 = .ok (.ifCond .eq 21, 3) := by decide +kernel
theorem dX7_readsHouse_21 : decode cX7_readsHouse 21 = .ok (.aload_n 0, 1) := by decide +kernel
theorem dX7_readsHouse_22 : decode cX7_readsHouse 22 = .ok (.invokevirtual 42, 3) := by decide +kernel
theorem dX7_readsHouse_25 : decode cX7_readsHouse 25 = .ok (.ifCond .eq 14, 3) := by decide +kernel
theorem dX7_readsHouse_28 : decode cX7_readsHouse 28 = .ok (.aload_n 0, 1) := by decide +kernel
theorem dX7_readsHouse_29 : decode cX7_readsHouse 29 = .ok (.invokevirtual 49, 3) := by decide +kernel
theorem dX7_readsHouse_32 : decode cX7_readsHouse 32 = .ok (.ifCond .eq 7, 3) := by decide +kernel
theorem dX7_readsHouse_35 : decode cX7_readsHouse 35 = .ok (.iconst 1, 1) := by decide +kernel
theorem dX7_readsHouse_36 : decode cX7_readsHouse 36 = .ok (.goto 4, 3) := by decide +kernel
theorem dX7_readsHouse_39 : decode cX7_readsHouse 39 = .ok (.iconst 0, 1) := by decide +kernel
theorem dX7_readsHouse_40 : decode cX7_readsHouse 40 = .ok (.ireturn, 1) := by decide +kernel
set_option maxRecDepth 20000 in
theorem ggX7_readsCourier_X7_takesSpan : GoodIn wsX7_readsCourier wsX7_takesSpan := goodIn_r _ [5, 6, 7, 8, 4, 9, 10, 11, 12, 13, 14, 15, 16, 17, 18, 19, 20, 21, 22, 23, 24, 25, 26, 27, 28, 29, 30, 31, 32, 33, 34, 35, 36, 37, 38, 39, 40, 41, 42, 43, 44, 45, 46, 47, 48, 53, 54, 55, 56, 57, 58, 59, 60, 61, 62] (by decide +kernel) (by decide +kernel)
set_option maxRecDepth 20000 in
theorem gX7_readsCourier_X7_takesSpan : GoodIn wsX7_readsCourier (wsV RX7 52 RX7 yX7_takesSpan wsX7_takesSpan) := goodIn_app (goodIn_of _ (by decide +kernel)) ggX7_readsCourier_X7_takesSpan
set_option maxRecDepth 20000 in
theorem ggX7_readsCourier_X7_skips : GoodIn wsX7_readsCourier wsX7_skips := goodIn_r _ [48, 10, 11, 12, 13, 14, 15, 16, 17, 18, 53, 54, 55, 56, 57, 58, 59, 60, 61, 62] (by decide +kernel) (by decide +kernel)
set_option maxRecDepth 20000 in
theorem gX7_readsCourier_X7_skips : GoodIn wsX7_readsCourier (wsV RX7 55 RX7 yX7_skips wsX7_skips) := goodIn_app (goodIn_of _ (by decide +kernel)) ggX7_readsCourier_X7_skips
set_option maxRecDepth 20000 in
theorem ggX7_readsCourier_X7_isAtEnd : GoodIn wsX7_readsCourier wsX7_isAtEnd := goodIn_r _ [52, 10, 11, 12, 13, 14, 15, 16, 17, 18, 19, 20, 21, 4, 22, 23, 24, 25, 26, 27, 28, 29, 53, 54, 55, 56, 57, 58, 59, 60, 61, 62] (by decide +kernel) (by decide +kernel)
set_option maxRecDepth 20000 in
theorem gX7_readsCourier_X7_isAtEnd : GoodIn wsX7_readsCourier (wsV RX7 49 RX7 yX7_isAtEnd wsX7_isAtEnd) := goodIn_app (goodIn_of _ (by decide +kernel)) ggX7_readsCourier_X7_isAtEnd
theorem dX7_readsCourier_0 : decode cX7_readsCourier 0 = .ok (.aload_n 0, 1) := by decide +kernel
theorem dX7_readsCourier_1 : decode cX7_readsCourier 1 = .ok (.invokevirtual 52, 3) := by decide +kernel
theorem dX7_readsCourier_4 : decode cX7_readsCourier 4 = .ok (.istore_n 1, 1) := by decide +kernel
theorem dX7_readsCourier_5 : decode cX7_readsCourier 5 = .ok (.iconst 0, 1) := by decide +kernel
theorem dX7_readsCourier_6 : decode cX7_readsCourier 6 = .ok (.istore_n 2, 1) := by decide +kernel
theorem dX7_readsCourier_7 : decode cX7_readsCourier 7 = .ok (.iload_n 2, 1) := by decide +kernel
theorem dX7_readsCourier_8 : decode cX7_readsCourier 8 = .ok (.bipush 120, 2) := by decide +kernel
theorem dX7_readsCourier_10 : decode cX7_readsCourier 10 = .ok (.if_icmp .ge 27, 3) := by decide +kernel
theorem dX7_readsCourier_13 : decode cX7_readsCourier 13 = .ok (.iload_n 1, 1) := by decide +kernel
theorem dX7_readsCourier_14 : decode cX7_readsCourier 14 = .ok (.ifCond .eq 23, 3) := by decide +kernel
theorem dX7_readsCourier_17 : decode cX7_readsCourier 17 = .ok (.aload_n 0, 1) := by decide +kernel
theorem dX7_readsCourier_18 : decode cX7_readsCourier 18 = .ok (.bipush 44, 2) := by decide +kernel
theorem dX7_readsCourier_20 : decode cX7_readsCourier 20 = .ok (.invokevirtual 55, 3) := by decide +kernel
theorem dX7_readsCourier_23 : decode cX7_readsCourier 23 = .ok (.ifCond .eq 14, 3) := by decide +kernel
theorem dX7_readsCourier_26 : decode cX7_readsCourier 26 = .ok (.aload_n 0, 1) := by decide +kernel
theorem dX7_readsCourier_27 : decode cX7_readsCourier 27 = .ok (.invokevirtual 52, 3) := by decide +kernel
theorem dX7_readsCourier_30 : decode cX7_readsCourier 30 = .ok (.istore_n 1, 1) := by decide +kernel
theorem dX7_readsCourier_31 : decode cX7_readsCourier 31 = .ok (.iinc 2 1, 3) := by decide +kernel
theorem dX7_readsCourier_34 : decode cX7_readsCourier 34 = .ok (.goto (-27), 3) := by decide +kernel
theorem dX7_readsCourier_37 : decode cX7_readsCourier 37 = .ok (.iload_n 1, 1) := by decide +kernel
theorem dX7_readsCourier_38 : decode cX7_readsCourier 38 = .ok (.ifCond .eq 14, 3) := by decide +kernel
theorem dX7_readsCourier_41 : decode cX7_readsCourier 41 = .ok (.aload_n 0, 1) := by decide +kernel
theorem dX7_readsCourier_42 : decode cX7_readsCourier 42 = .ok (.invokevirtual 49, 3) := by decide +kernel
theorem dX7_readsCourier_45 : decode cX7_readsCourier 45 = .ok (.ifCond .eq 7, 3) := by decide +kernel
theorem dX7_readsCourier_48 : decode cX7_readsCourier 48 = .ok (.iconst 1, 1) := by decide +kernel
theorem dX7_readsCourier_49 : decode cX7_readsCourier 49 = .ok (.goto 4, 3) := by decide +kernel
theorem dX7_readsCourier_52 : decode cX7_readsCourier 52 = .ok (.iconst 0, 1) := by decide +kernel
theorem dX7_readsCourier_53 : decode cX7_readsCourier 53 = .ok (.ireturn, 1) := by decide +kernel
set_option maxRecDepth 20000 in
theorem ggX7_readsLoan_X7_takesNumber : GoodIn wsX7_readsLoan wsX7_takesNumber := goodIn_r _ [5, 6, 7, 8, 9, 10, 11, 12, 13, 14, 15, 16, 17, 4, 18, 19, 20, 21, 22, 23, 24, 25, 26, 27, 28, 29, 30, 31, 32, 33, 34, 35, 36, 49, 50, 51, 52, 53, 54, 55, 56, 57, 58] (by decide +kernel) (by decide +kernel)
set_option maxRecDepth 20000 in
theorem gX7_readsLoan_X7_takesNumber : GoodIn wsX7_readsLoan (wsV RX7 42 RX7 yX7_takesNumber wsX7_takesNumber) := goodIn_app (goodIn_of _ (by decide +kernel)) ggX7_readsLoan_X7_takesNumber
set_option maxRecDepth 20000 in
theorem ggX7_readsLoan_X7_takesMark : GoodIn wsX7_readsLoan wsX7_takesMark := goodIn_r _ [40, 41, 42, 43, 4, 44, 6, 7, 8, 9, 10, 11, 12, 13, 14, 15, 16, 17, 18, 19, 20, 21, 22, 23, 24, 25, 49, 50, 51, 52, 53, 54, 55, 56, 57, 58] (by decide +kernel) (by decide +kernel)
set_option maxRecDepth 20000 in
theorem gX7_readsLoan_X7_takesMark : GoodIn wsX7_readsLoan (wsV RX7 59 RX7 yX7_takesMark wsX7_takesMark) := goodIn_app (goodIn_of _ (by decide +kernel)) ggX7_readsLoan_X7_takesMark
set_option maxRecDepth 20000 in
theorem ggX7_readsLoan_X7_skips : GoodIn wsX7_readsLoan wsX7_skips := goodIn_r _ [44, 6, 7, 8, 9, 10, 11, 12, 13, 14, 49, 50, 51, 52, 53, 54, 55, 56, 57, 58] (by decide +kernel) (by decide +kernel)
set_option maxRecDepth 20000 in
theorem gX7_readsLoan_X7_skips : GoodIn wsX7_readsLoan (wsV RX7 55 RX7 yX7_skips wsX7_skips) := goodIn_app (goodIn_of _ (by decide +kernel)) ggX7_readsLoan_X7_skips
set_option maxRecDepth 20000 in
theorem ggX7_readsLoan_X7_isAtEnd : GoodIn wsX7_readsLoan wsX7_isAtEnd := goodIn_r _ [48, 6, 7, 8, 9, 10, 11, 12, 13, 14, 15, 16, 17, 4, 18, 19, 20, 21, 22, 23, 24, 25, 49, 50, 51, 52, 53, 54, 55, 56, 57, 58] (by decide +kernel) (by decide +kernel)
set_option maxRecDepth 20000 in
theorem gX7_readsLoan_X7_isAtEnd : GoodIn wsX7_readsLoan (wsV RX7 49 RX7 yX7_isAtEnd wsX7_isAtEnd) := goodIn_app (goodIn_of _ (by decide +kernel)) ggX7_readsLoan_X7_isAtEnd
theorem dX7_readsLoan_0 : decode cX7_readsLoan 0 = .ok (.aload_n 0, 1) := by decide +kernel
theorem dX7_readsLoan_1 : decode cX7_readsLoan 1 = .ok (.invokevirtual 42, 3) := by decide +kernel
theorem dX7_readsLoan_4 : decode cX7_readsLoan 4 = .ok (.ifCond .eq 39, 3) := by decide +kernel
theorem dX7_readsLoan_7 : decode cX7_readsLoan 7 = .ok (.aload_n 0, 1) := by decide +kernel
theorem dX7_readsLoan_8 : decode cX7_readsLoan 8 = .ok (.bipush 43, 2) := by decide +kernel
theorem dX7_readsLoan_10 : decode cX7_readsLoan 10 = .ok (.invokevirtual 59, 3) := by decide +kernel
theorem dX7_readsLoan_13 : decode cX7_readsLoan 13 = .ok (.ifCond .eq 30, 3) := by decide +kernel
theorem dX7_readsLoan_16 : decode cX7_readsLoan 16 = .ok (.aload_n 0, 1) := by decide +kernel
theorem dX7_readsLoan_17 : decode cX7_readsLoan 17 = .ok (.invokevirtual 42, 3) := by decide +kernel
theorem dX7_readsLoan_20 : decode cX7_readsLoan 20 = .ok (.ifCond .eq 23, 3) := by decide +kernel
theorem dX7_readsLoan_23 : decode cX7_readsLoan 23 = .ok (.aload_n 0, 1) := by decide +kernel
theorem dX7_readsLoan_24 : decode cX7_readsLoan 24 = .ok (.bipush 58, 2) := by decide +kernel
theorem dX7_readsLoan_26 : decode cX7_readsLoan 26 = .ok (.invokevirtual 59, 3) := by decide +kernel
theorem dX7_readsLoan_29 : decode cX7_readsLoan 29 = .ok (.ifCond .eq 14, 3) := by decide +kernel
theorem dX7_readsLoan_32 : decode cX7_readsLoan 32 = .ok (.aload_n 0, 1) := by decide +kernel
theorem dX7_readsLoan_33 : decode cX7_readsLoan 33 = .ok (.invokevirtual 42, 3) := by decide +kernel
theorem dX7_readsLoan_36 : decode cX7_readsLoan 36 = .ok (.ifCond .eq 7, 3) := by decide +kernel
theorem dX7_readsLoan_39 : decode cX7_readsLoan 39 = .ok (.iconst 1, 1) := by decide +kernel
theorem dX7_readsLoan_40 : decode cX7_readsLoan 40 = .ok (.goto 4, 3) := by decide +kernel
theorem dX7_readsLoan_43 : decode cX7_readsLoan 43 = .ok (.iconst 0, 1) := by decide +kernel
theorem dX7_readsLoan_44 : decode cX7_readsLoan 44 = .ok (.istore_n 1, 1) := by decide +kernel
theorem dX7_readsLoan_45 : decode cX7_readsLoan 45 = .ok (.iconst 0, 1) := by decide +kernel
theorem dX7_readsLoan_46 : decode cX7_readsLoan 46 = .ok (.istore_n 2, 1) := by decide +kernel
theorem dX7_readsLoan_47 : decode cX7_readsLoan 47 = .ok (.iload_n 2, 1) := by decide +kernel
theorem dX7_readsLoan_48 : decode cX7_readsLoan 48 = .ok (.bipush 120, 2) := by decide +kernel
theorem dX7_readsLoan_50 : decode cX7_readsLoan 50 = .ok (.if_icmp .ge 27, 3) := by decide +kernel
theorem dX7_readsLoan_53 : decode cX7_readsLoan 53 = .ok (.iload_n 1, 1) := by decide +kernel
theorem dX7_readsLoan_54 : decode cX7_readsLoan 54 = .ok (.ifCond .eq 23, 3) := by decide +kernel
theorem dX7_readsLoan_57 : decode cX7_readsLoan 57 = .ok (.aload_n 0, 1) := by decide +kernel
theorem dX7_readsLoan_58 : decode cX7_readsLoan 58 = .ok (.bipush 44, 2) := by decide +kernel
theorem dX7_readsLoan_60 : decode cX7_readsLoan 60 = .ok (.invokevirtual 55, 3) := by decide +kernel
theorem dX7_readsLoan_63 : decode cX7_readsLoan 63 = .ok (.ifCond .eq 14, 3) := by decide +kernel
theorem dX7_readsLoan_66 : decode cX7_readsLoan 66 = .ok (.aload_n 0, 1) := by decide +kernel
theorem dX7_readsLoan_67 : decode cX7_readsLoan 67 = .ok (.invokevirtual 42, 3) := by decide +kernel
theorem dX7_readsLoan_70 : decode cX7_readsLoan 70 = .ok (.istore_n 1, 1) := by decide +kernel
theorem dX7_readsLoan_71 : decode cX7_readsLoan 71 = .ok (.iinc 2 1, 3) := by decide +kernel
theorem dX7_readsLoan_74 : decode cX7_readsLoan 74 = .ok (.goto (-27), 3) := by decide +kernel
theorem dX7_readsLoan_77 : decode cX7_readsLoan 77 = .ok (.iload_n 1, 1) := by decide +kernel
theorem dX7_readsLoan_78 : decode cX7_readsLoan 78 = .ok (.ifCond .eq 14, 3) := by decide +kernel
theorem dX7_readsLoan_81 : decode cX7_readsLoan 81 = .ok (.aload_n 0, 1) := by decide +kernel
theorem dX7_readsLoan_82 : decode cX7_readsLoan 82 = .ok (.invokevirtual 49, 3) := by decide +kernel
theorem dX7_readsLoan_85 : decode cX7_readsLoan 85 = .ok (.ifCond .eq 7, 3) := by decide +kernel
theorem dX7_readsLoan_88 : decode cX7_readsLoan 88 = .ok (.iconst 1, 1) := by decide +kernel
theorem dX7_readsLoan_89 : decode cX7_readsLoan 89 = .ok (.goto 4, 3) := by decide +kernel
theorem dX7_readsLoan_92 : decode cX7_readsLoan 92 = .ok (.iconst 0, 1) := by decide +kernel
theorem dX7_readsLoan_93 : decode cX7_readsLoan 93 = .ok (.ireturn, 1) := by decide +kernel
set_option maxRecDepth 20000 in
theorem ggX7_readsReport_X7_skips : GoodIn wsX7_readsReport wsX7_skips := goodIn_r _ [5, 6, 7, 8, 9, 10, 11, 12, 13, 14, 53, 54, 55, 56, 57, 58, 59, 60, 61, 62] (by decide +kernel) (by decide +kernel)
set_option maxRecDepth 20000 in
theorem gX7_readsReport_X7_skips : GoodIn wsX7_readsReport (wsV RX7 55 RX7 yX7_skips wsX7_skips) := goodIn_app (goodIn_of _ (by decide +kernel)) ggX7_readsReport_X7_skips
set_option maxRecDepth 20000 in
theorem ggX7_readsReport_X7_isAtEnd : GoodIn wsX7_readsReport wsX7_isAtEnd := goodIn_r _ [18, 6, 7, 8, 9, 10, 11, 12, 13, 14, 19, 20, 21, 4, 22, 23, 24, 25, 26, 27, 28, 29, 53, 54, 55, 56, 57, 58, 59, 60, 61, 62] (by decide +kernel) (by decide +kernel)
set_option maxRecDepth 20000 in
theorem gX7_readsReport_X7_isAtEnd : GoodIn wsX7_readsReport (wsV RX7 49 RX7 yX7_isAtEnd wsX7_isAtEnd) := goodIn_app (goodIn_of _ (by decide +kernel)) ggX7_readsReport_X7_isAtEnd
set_option maxRecDepth 20000 in
theorem ggX7_readsReport_X7_takesHarm : GoodIn wsX7_readsReport wsX7_takesHarm := goodIn_r _ [33, 34, 35, 36, 4, 37, 6, 7, 8, 9, 10, 11, 12, 13, 14, 19, 20, 21, 22, 23, 24, 25, 26, 27, 28, 29, 38, 39, 40, 41, 42, 43, 44, 45, 46, 47, 48, 49, 50, 51, 52, 53, 54, 55, 56, 57, 58, 59, 60, 61, 62] (by decide +kernel) (by decide +kernel)
set_option maxRecDepth 20000 in
theorem gX7_readsReport_X7_takesHarm : GoodIn wsX7_readsReport (wsV RX7 62 RX7 yX7_takesHarm wsX7_takesHarm) := goodIn_app (goodIn_of _ (by decide +kernel)) ggX7_readsReport_X7_takesHarm
theorem dX7_readsReport_0 : decode cX7_readsReport 0 = .ok (.aload_n 0, 1) := by decide +kernel
theorem dX7_readsReport_1 : decode cX7_readsReport 1 = .ok (.bipush 101, 2) := by decide +kernel
theorem dX7_readsReport_3 : decode cX7_readsReport 3 = .ok (.invokevirtual 55, 3) := by decide +kernel
theorem dX7_readsReport_6 : decode cX7_readsReport 6 = .ok (.ifCond .eq 8, 3) := by decide +kernel
theorem dX7_readsReport_9 : decode cX7_readsReport 9 = .ok (.aload_n 0, 1) := by decide +kernel
theorem dX7_readsReport_10 : decode cX7_readsReport 10 = .ok (.invokevirtual 49, 3) := by decide +kernel
theorem dX7_readsReport_13 : decode cX7_readsReport 13 = .ok (.ireturn, 1) := by decide +kernel
theorem dX7_readsReport_14 : decode cX7_readsReport 14 = .ok (.aload_n 0, 1) := by decide +kernel
theorem dX7_readsReport_15 : decode cX7_readsReport 15 = .ok (.invokevirtual 62, 3) := by decide +kernel
theorem dX7_readsReport_18 : decode cX7_readsReport 18 = .ok (.istore_n 1, 1) := by decide +kernel
theorem dX7_readsReport_19 : decode cX7_readsReport 19 = .ok (.iconst 0, 1) := by decide +kernel
theorem dX7_readsReport_20 : decode cX7_readsReport 20 = .ok (.istore_n 2, 1) := by decide +kernel
theorem dX7_readsReport_21 : decode cX7_readsReport 21 = .ok (.iload_n 2, 1) := by decide +kernel
theorem dX7_readsReport_22 : decode cX7_readsReport 22 = .ok (.bipush 120, 2) := by decide +kernel
theorem dX7_readsReport_24 : decode cX7_readsReport 24 = .ok (.if_icmp .ge 27, 3) := by decide +kernel
theorem dX7_readsReport_27 : decode cX7_readsReport 27 = .ok (.iload_n 1, 1) := by decide +kernel
theorem dX7_readsReport_28 : decode cX7_readsReport 28 = .ok (.ifCond .eq 23, 3) := by decide +kernel
theorem dX7_readsReport_31 : decode cX7_readsReport 31 = .ok (.aload_n 0, 1) := by decide +kernel
theorem dX7_readsReport_32 : decode cX7_readsReport 32 = .ok (.bipush 44, 2) := by decide +kernel
theorem dX7_readsReport_34 : decode cX7_readsReport 34 = .ok (.invokevirtual 55, 3) := by decide +kernel
theorem dX7_readsReport_37 : decode cX7_readsReport 37 = .ok (.ifCond .eq 14, 3) := by decide +kernel
theorem dX7_readsReport_40 : decode cX7_readsReport 40 = .ok (.aload_n 0, 1) := by decide +kernel
theorem dX7_readsReport_41 : decode cX7_readsReport 41 = .ok (.invokevirtual 62, 3) := by decide +kernel
theorem dX7_readsReport_44 : decode cX7_readsReport 44 = .ok (.istore_n 1, 1) := by decide +kernel
theorem dX7_readsReport_45 : decode cX7_readsReport 45 = .ok (.iinc 2 1, 3) := by decide +kernel
theorem dX7_readsReport_48 : decode cX7_readsReport 48 = .ok (.goto (-27), 3) := by decide +kernel
theorem dX7_readsReport_51 : decode cX7_readsReport 51 = .ok (.iload_n 1, 1) := by decide +kernel
theorem dX7_readsReport_52 : decode cX7_readsReport 52 = .ok (.ifCond .eq 14, 3) := by decide +kernel
theorem dX7_readsReport_55 : decode cX7_readsReport 55 = .ok (.aload_n 0, 1) := by decide +kernel
theorem dX7_readsReport_56 : decode cX7_readsReport 56 = .ok (.invokevirtual 49, 3) := by decide +kernel
theorem dX7_readsReport_59 : decode cX7_readsReport 59 = .ok (.ifCond .eq 7, 3) := by decide +kernel
theorem dX7_readsReport_62 : decode cX7_readsReport 62 = .ok (.iconst 1, 1) := by decide +kernel
theorem dX7_readsReport_63 : decode cX7_readsReport 63 = .ok (.goto 4, 3) := by decide +kernel
theorem dX7_readsReport_66 : decode cX7_readsReport 66 = .ok (.iconst 0, 1) := by decide +kernel
theorem dX7_readsReport_67 : decode cX7_readsReport 67 = .ok (.ireturn, 1) := by decide +kernel
set_option maxRecDepth 20000 in
theorem ggX7_isWrongHere_X6_startAt : GoodIn wsX7_isWrongHere wsX6_startAt := goodIn_r _ [8, 9, 10, 11, 17, 18, 19, 20, 21] (by decide +kernel) (by decide +kernel)
set_option maxRecDepth 20000 in
theorem gX7_isWrongHere_X6_startAt : GoodIn wsX7_isWrongHere (wsV RX7 65 RX6 yX6_startAt wsX6_startAt) := goodIn_app (goodIn_of _ (by decide +kernel)) ggX7_isWrongHere_X6_startAt
theorem dX7_isWrongHere_0 : decode cX7_isWrongHere 0 = .ok (.aload_n 0, 1) := by decide +kernel
theorem dX7_isWrongHere_1 : decode cX7_isWrongHere 1 = .ok (.aload_n 0, 1) := by decide +kernel
theorem dX7_isWrongHere_2 : decode cX7_isWrongHere 2 = .ok (.getfield 12, 3) := by decide +kernel
theorem dX7_isWrongHere_5 : decode cX7_isWrongHere 5 = .ok (.aload_n 0, 1) := by decide +kernel
theorem dX7_isWrongHere_6 : decode cX7_isWrongHere 6 = .ok (.getfield 28, 3) := by decide +kernel
theorem dX7_isWrongHere_9 : decode cX7_isWrongHere 9 = .ok (.invokevirtual 65, 3) := by decide +kernel
theorem dX7_isWrongHere_12 : decode cX7_isWrongHere 12 = .ok (.putfield 31, 3) := by decide +kernel
theorem dX7_isWrongHere_15 : decode cX7_isWrongHere 15 = .ok (.iconst 0, 1) := by decide +kernel
theorem dX7_isWrongHere_16 : decode cX7_isWrongHere 16 = .ok (.ireturn, 1) := by decide +kernel
set_option maxRecDepth 20000 in
theorem ggX7_isAtEnd_X6_codeAt : GoodIn wsX7_isAtEnd wsX6_codeAt := goodIn_r _ [7, 8, 9, 27, 28, 29, 30, 31] (by decide +kernel) (by decide +kernel)
set_option maxRecDepth 20000 in
theorem gX7_isAtEnd_X6_codeAt : GoodIn wsX7_isAtEnd (wsV RX7 69 RX6 yX6_codeAt wsX6_codeAt) := goodIn_app (goodIn_of _ (by decide +kernel)) ggX7_isAtEnd_X6_codeAt
set_option maxRecDepth 20000 in
theorem ggX7_isAtEnd_X7_isWrongHere : GoodIn wsX7_isAtEnd wsX7_isWrongHere := goodIn_r _ [14, 1, 2, 15, 16, 17, 18, 6, 19, 8, 20, 21, 22, 23, 24, 25, 26, 27, 28, 29, 30, 31] (by decide +kernel) (by decide +kernel)
set_option maxRecDepth 20000 in
theorem gX7_isAtEnd_X7_isWrongHere : GoodIn wsX7_isAtEnd (wsV RX7 72 RX7 yX7_isWrongHere wsX7_isWrongHere) := goodIn_app (goodIn_of _ (by decide +kernel)) ggX7_isAtEnd_X7_isWrongHere
theorem dX7_isAtEnd_0 : decode cX7_isAtEnd 0 = .ok (.aload_n 0, 1) := by decide +kernel
theorem dX7_isAtEnd_1 : decode cX7_isAtEnd 1 = .ok (.getfield 12, 3) := by decide +kernel
theorem dX7_isAtEnd_4 : decode cX7_isAtEnd 4 = .ok (.aload_n 0, 1) := by decide +kernel
theorem dX7_isAtEnd_5 : decode cX7_isAtEnd 5 = .ok (.getfield 28, 3) := by decide +kernel
theorem dX7_isAtEnd_8 : decode cX7_isAtEnd 8 = .ok (.invokevirtual 69, 3) := by decide +kernel
theorem dX7_isAtEnd_11 : decode cX7_isAtEnd 11 = .ok (.iconst (-1), 1) := by decide +kernel
theorem dX7_isAtEnd_12 : decode cX7_isAtEnd 12 = .ok (.if_icmp .eq 10, 3) := by decide +kernel
theorem dX7_isAtEnd_15 : decode cX7_isAtEnd 15 = .ok (.aload_n 0, 1) := by decide +kernel
theorem dX7_isAtEnd_16 : decode cX7_isAtEnd 16 = .ok (.invokevirtual 72, 3) := by decide +kernel
theorem dX7_isAtEnd_19 : decode cX7_isAtEnd 19 = .ok (.ifCond .eq 7, 3) := by decide +kernel
theorem dX7_isAtEnd_22 : decode cX7_isAtEnd 22 = .ok (.iconst 1, 1) := by decide +kernel
theorem dX7_isAtEnd_23 : decode cX7_isAtEnd 23 = .ok (.goto 4, 3) := by decide +kernel
theorem dX7_isAtEnd_26 : decode cX7_isAtEnd 26 = .ok (.iconst 0, 1) := by decide +kernel
theorem dX7_isAtEnd_27 : decode cX7_isAtEnd 27 = .ok (.ireturn, 1) := by decide +kernel
set_option maxRecDepth 20000 in
theorem ggX7_skips_X6_codeAt : GoodIn wsX7_skips wsX6_codeAt := goodIn_r _ [7, 8, 9, 15, 16, 17, 18, 19] (by decide +kernel) (by decide +kernel)
set_option maxRecDepth 20000 in
theorem gX7_skips_X6_codeAt : GoodIn wsX7_skips (wsV RX7 69 RX6 yX6_codeAt wsX6_codeAt) := goodIn_app (goodIn_of _ (by decide +kernel)) ggX7_skips_X6_codeAt
theorem dX7_skips_0 : decode cX7_skips 0 = .ok (.aload_n 0, 1) := by decide +kernel
theorem dX7_skips_1 : decode cX7_skips 1 = .ok (.getfield 12, 3) := by decide +kernel
theorem dX7_skips_4 : decode cX7_skips 4 = .ok (.aload_n 0, 1) := by decide +kernel
theorem dX7_skips_5 : decode cX7_skips 5 = .ok (.getfield 28, 3) := by decide +kernel
theorem dX7_skips_8 : decode cX7_skips 8 = .ok (.invokevirtual 69, 3) := by decide +kernel
theorem dX7_skips_11 : decode cX7_skips 11 = .ok (.iload_n 1, 1) := by decide +kernel
theorem dX7_skips_12 : decode cX7_skips 12 = .ok (.if_icmp .eq 5, 3) := by decide +kernel
theorem dX7_skips_15 : decode cX7_skips 15 = .ok (.iconst 0, 1) := by decide +kernel
theorem dX7_skips_16 : decode cX7_skips 16 = .ok (.ireturn, 1) := by decide +kernel
theorem dX7_skips_17 : decode cX7_skips 17 = .ok (.aload_n 0, 1) := by decide +kernel
theorem dX7_skips_18 : decode cX7_skips 18 = .ok (.dup, 1) := by decide +kernel
theorem dX7_skips_19 : decode cX7_skips 19 = .ok (.getfield 28, 3) := by decide +kernel
theorem dX7_skips_22 : decode cX7_skips 22 = .ok (.iconst 1, 1) := by decide +kernel
theorem dX7_skips_23 : decode cX7_skips 23 = .ok (.iadd, 1) := by decide +kernel
theorem dX7_skips_24 : decode cX7_skips 24 = .ok (.putfield 28, 3) := by decide +kernel
theorem dX7_skips_27 : decode cX7_skips 27 = .ok (.iconst 1, 1) := by decide +kernel
theorem dX7_skips_28 : decode cX7_skips 28 = .ok (.ireturn, 1) := by decide +kernel
set_option maxRecDepth 20000 in
theorem ggX7_takesMark_X7_skips : GoodIn wsX7_takesMark wsX7_skips := goodIn_r _ [5, 6, 7, 8, 9, 10, 11, 12, 13, 14, 26, 27, 28, 29, 30, 31, 32, 33, 34, 35] (by decide +kernel) (by decide +kernel)
set_option maxRecDepth 20000 in
theorem gX7_takesMark_X7_skips : GoodIn wsX7_takesMark (wsV RX7 55 RX7 yX7_skips wsX7_skips) := goodIn_app (goodIn_of _ (by decide +kernel)) ggX7_takesMark_X7_skips
set_option maxRecDepth 20000 in
theorem ggX7_takesMark_X7_isWrongHere : GoodIn wsX7_takesMark wsX7_isWrongHere := goodIn_r _ [18, 6, 7, 19, 20, 21, 22, 11, 23, 13, 24, 25, 26, 27, 28, 29, 30, 31, 32, 33, 34, 35] (by decide +kernel) (by decide +kernel)
set_option maxRecDepth 20000 in
theorem gX7_takesMark_X7_isWrongHere : GoodIn wsX7_takesMark (wsV RX7 72 RX7 yX7_isWrongHere wsX7_isWrongHere) := goodIn_app (goodIn_of _ (by decide +kernel)) ggX7_takesMark_X7_isWrongHere
theorem dX7_takesMark_0 : decode cX7_takesMark 0 = .ok (.aload_n 0, 1) := by decide +kernel
theorem dX7_takesMark_1 : decode cX7_takesMark 1 = .ok (.iload_n 1, 1) := by decide +kernel
theorem dX7_takesMark_2 : decode cX7_takesMark 2 = .ok (.invokevirtual 55, 3) := by decide +kernel
theorem dX7_takesMark_5 : decode cX7_takesMark 5 = .ok (.ifCond .ne 10, 3) := by decide +kernel
theorem dX7_takesMark_8 : decode cX7_takesMark 8 = .ok (.aload_n 0, 1) := by decide +kernel
theorem dX7_takesMark_9 : decode cX7_takesMark 9 = .ok (.invokevirtual 72, 3) := by decide +kernel
theorem dX7_takesMark_12 : decode cX7_takesMark 12 = .ok (.ifCond .eq 7, 3) := by decide +kernel
theorem dX7_takesMark_15 : decode cX7_takesMark 15 = .ok (.iconst 1, 1) := by decide +kernel
theorem dX7_takesMark_16 : decode cX7_takesMark 16 = .ok (.goto 4, 3) := by decide +kernel
theorem dX7_takesMark_19 : decode cX7_takesMark 19 = .ok (.iconst 0, 1) := by decide +kernel
theorem dX7_takesMark_20 : decode cX7_takesMark 20 = .ok (.ireturn, 1) := by decide +kernel
set_option maxRecDepth 20000 in
theorem ggX7_takesNumber_X6_codeAt : GoodIn wsX7_takesNumber wsX6_codeAt := goodIn_r _ [7, 8, 9, 38, 39, 40, 41, 42] (by decide +kernel) (by decide +kernel)
set_option maxRecDepth 20000 in
theorem gX7_takesNumber_X6_codeAt : GoodIn wsX7_takesNumber (wsV RX7 69 RX6 yX6_codeAt wsX6_codeAt) := goodIn_app (goodIn_of _ (by decide +kernel)) ggX7_takesNumber_X6_codeAt
set_option maxRecDepth 20000 in
theorem ggX7_takesNumber_X7_isWrongHere : GoodIn wsX7_takesNumber wsX7_isWrongHere := goodIn_r _ [14, 1, 2, 15, 16, 17, 18, 6, 19, 8, 20, 21, 33, 34, 35, 36, 37, 38, 39, 40, 41, 42] (by decide +kernel) (by decide +kernel)
set_option maxRecDepth 20000 in
theorem gX7_takesNumber_X7_isWrongHere : GoodIn wsX7_takesNumber (wsV RX7 72 RX7 yX7_isWrongHere wsX7_isWrongHere) := goodIn_app (goodIn_of _ (by decide +kernel)) ggX7_takesNumber_X7_isWrongHere
set_option maxRecDepth 20000 in
theorem ggX7_takesNumber_X6_numberAt : GoodIn wsX7_takesNumber wsX6_numberAt := goodIn_r _ [25, 8, 26, 38, 39, 40, 41, 42] (by decide +kernel) (by decide +kernel)
set_option maxRecDepth 20000 in
theorem gX7_takesNumber_X6_numberAt : GoodIn wsX7_takesNumber (wsV RX7 75 RX6 yX6_numberAt wsX6_numberAt) := goodIn_app (goodIn_of _ (by decide +kernel)) ggX7_takesNumber_X6_numberAt
set_option maxRecDepth 20000 in
theorem ggX7_takesNumber_X7_add : GoodIn wsX7_takesNumber wsX7_add := goodIn_r _ [30, 31, 32, 33, 34, 35, 36, 37] (by decide +kernel) (by decide +kernel)
set_option maxRecDepth 20000 in
theorem gX7_takesNumber_X7_add : GoodIn wsX7_takesNumber (wsV RX7 78 RX7 yX7_add wsX7_add) := goodIn_app (goodIn_of _ (by decide +kernel)) ggX7_takesNumber_X7_add
theorem dX7_takesNumber_0 : decode cX7_takesNumber 0 = .ok (.aload_n 0, 1) := by decide +kernel
theorem dX7_takesNumber_1 : decode cX7_takesNumber 1 = .ok (.getfield 12, 3) := by decide +kernel
theorem dX7_takesNumber_4 : decode cX7_takesNumber 4 = .ok (.aload_n 0, 1) := by decide +kernel
theorem dX7_takesNumber_5 : decode cX7_takesNumber 5 = .ok (.getfield 28, 3) := by decide +kernel
theorem dX7_takesNumber_8 : decode cX7_takesNumber 8 = .ok (.invokevirtual 69, 3) := by decide +kernel
theorem dX7_takesNumber_11 : decode cX7_takesNumber 11 = .ok (.iconst 1, 1) := by decide +kernel
theorem dX7_takesNumber_12 : decode cX7_takesNumber 12 = .ok (.if_icmp .eq 8, 3) := by decide +kernel
theorem dX7_takesNumber_15 : decode cX7_takesNumber 15 = .ok (.aload_n 0, 1) := by decide +kernel
theorem dX7_takesNumber_16 : decode cX7_takesNumber 16 = .ok (.invokevirtual 72, 3) := by decide +kernel
theorem dX7_takesNumber_19 : decode cX7_takesNumber 19 = .ok (.ireturn, 1) := by decide +kernel
theorem dX7_takesNumber_20 : decode cX7_takesNumber 20 = .ok (.aload_n 0, 1) := by decide +kernel
theorem dX7_takesNumber_21 : decode cX7_takesNumber 21 = .ok (.aload_n 0, 1) := by decide +kernel
theorem dX7_takesNumber_22 : decode cX7_takesNumber 22 = .ok (.getfield 12, 3) := by decide +kernel
theorem dX7_takesNumber_25 : decode cX7_takesNumber 25 = .ok (.aload_n 0, 1) := by decide +kernel
theorem dX7_takesNumber_26 : decode cX7_takesNumber 26 = .ok (.getfield 28, 3) := by decide +kernel
theorem dX7_takesNumber_29 : decode cX7_takesNumber 29 = .ok (.invokevirtual 75, 3) := by decide +kernel
theorem dX7_takesNumber_32 : decode cX7_takesNumber 32 = .ok (.invokevirtual 78, 3) := by decide +kernel
theorem dX7_takesNumber_35 : decode cX7_takesNumber 35 = .ok (.aload_n 0, 1) := by decide +kernel
theorem dX7_takesNumber_36 : decode cX7_takesNumber 36 = .ok (.dup, 1) := by decide +kernel
theorem dX7_takesNumber_37 : decode cX7_takesNumber 37 = .ok (.getfield 28, 3) := by decide +kernel
theorem dX7_takesNumber_40 : decode cX7_takesNumber 40 = .ok (.iconst 1, 1) := by decide +kernel
theorem dX7_takesNumber_41 : decode cX7_takesNumber 41 = .ok (.iadd, 1) := by decide +kernel
theorem dX7_takesNumber_42 : decode cX7_takesNumber 42 = .ok (.putfield 28, 3) := by decide +kernel
theorem dX7_takesNumber_45 : decode cX7_takesNumber 45 = .ok (.iconst 1, 1) := by decide +kernel
theorem dX7_takesNumber_46 : decode cX7_takesNumber 46 = .ok (.ireturn, 1) := by decide +kernel
set_option maxRecDepth 20000 in
theorem ggX7_takesWord_X6_codeAt : GoodIn wsX7_takesWord wsX6_codeAt := goodIn_r _ [7, 8, 9, 33, 34, 35, 36, 37] (by decide +kernel) (by decide +kernel)
set_option maxRecDepth 20000 in
theorem gX7_takesWord_X6_codeAt : GoodIn wsX7_takesWord (wsV RX7 69 RX6 yX6_codeAt wsX6_codeAt) := goodIn_app (goodIn_of _ (by decide +kernel)) ggX7_takesWord_X6_codeAt
set_option maxRecDepth 20000 in
theorem ggX7_takesWord_X7_isWrongHere : GoodIn wsX7_takesWord wsX7_isWrongHere := goodIn_r _ [14, 1, 2, 15, 16, 17, 18, 6, 19, 8, 20, 21, 28, 29, 30, 31, 32, 33, 34, 35, 36, 37] (by decide +kernel) (by decide +kernel)
set_option maxRecDepth 20000 in
theorem gX7_takesWord_X7_isWrongHere : GoodIn wsX7_takesWord (wsV RX7 72 RX7 yX7_isWrongHere wsX7_isWrongHere) := goodIn_app (goodIn_of _ (by decide +kernel)) ggX7_takesWord_X7_isWrongHere
set_option maxRecDepth 20000 in
theorem ggX7_takesWord_X7_add : GoodIn wsX7_takesWord wsX7_add := goodIn_r _ [25, 26, 27, 28, 29, 30, 31, 32] (by decide +kernel) (by decide +kernel)
set_option maxRecDepth 20000 in
theorem gX7_takesWord_X7_add : GoodIn wsX7_takesWord (wsV RX7 78 RX7 yX7_add wsX7_add) := goodIn_app (goodIn_of _ (by decide +kernel)) ggX7_takesWord_X7_add
theorem dX7_takesWord_0 : decode cX7_takesWord 0 = .ok (.aload_n 0, 1) := by decide +kernel
theorem dX7_takesWord_1 : decode cX7_takesWord 1 = .ok (.getfield 12, 3) := by decide +kernel
theorem dX7_takesWord_4 : decode cX7_takesWord 4 = .ok (.aload_n 0, 1) := by decide +kernel
theorem dX7_takesWord_5 : decode cX7_takesWord 5 = .ok (.getfield 28, 3) := by decide +kernel
theorem dX7_takesWord_8 : decode cX7_takesWord 8 = .ok (.invokevirtual 69, 3) := by decide +kernel
theorem dX7_takesWord_11 : decode cX7_takesWord 11 = .ok (.iload_n 1, 1) := by decide +kernel
theorem dX7_takesWord_12 : decode cX7_takesWord 12 = .ok (.isub, 1) := by decide +kernel
theorem dX7_takesWord_13 : decode cX7_takesWord 13 = .ok (.istore_n 3, 1) := by decide +kernel
theorem dX7_takesWord_14 : decode cX7_takesWord 14 = .ok (.iload_n 3, 1) := by decide +kernel
theorem dX7_takesWord_15 : decode cX7_takesWord 15 = .ok (.ifCond .lt 8, 3) := by decide +kernel
theorem dX7_takesWord_18 : decode cX7_takesWord 18 = .ok (.iload_n 3, 1) := by decide +kernel
theorem dX7_takesWord_19 : decode cX7_takesWord 19 = .ok (.iload_n 2, 1) := by decide +kernel
theorem dX7_takesWord_20 : decode cX7_takesWord 20 = .ok (.if_icmp .lt 8, 3) := by decide +kernel
theorem dX7_takesWord_23 : decode cX7_takesWord 23 = .ok (.aload_n 0, 1) := by decide +kernel
theorem dX7_takesWord_24 : decode cX7_takesWord 24 = .ok (.invokevirtual 72, 3) := by decide +kernel
theorem dX7_takesWord_27 : decode cX7_takesWord 27 = .ok (.ireturn, 1) := by decide +kernel
theorem dX7_takesWord_28 : decode cX7_takesWord 28 = .ok (.aload_n 0, 1) := by decide +kernel
theorem dX7_takesWord_29 : decode cX7_takesWord 29 = .ok (.iload_n 3, 1) := by decide +kernel
theorem dX7_takesWord_30 : decode cX7_takesWord 30 = .ok (.invokevirtual 78, 3) := by decide +kernel
theorem dX7_takesWord_33 : decode cX7_takesWord 33 = .ok (.aload_n 0, 1) := by decide +kernel
theorem dX7_takesWord_34 : decode cX7_takesWord 34 = .ok (.dup, 1) := by decide +kernel
theorem dX7_takesWord_35 : decode cX7_takesWord 35 = .ok (.getfield 28, 3) := by decide +kernel
theorem dX7_takesWord_38 : decode cX7_takesWord 38 = .ok (.iconst 1, 1) := by decide +kernel
theorem dX7_takesWord_39 : decode cX7_takesWord 39 = .ok (.iadd, 1) := by decide +kernel
theorem dX7_takesWord_40 : decode cX7_takesWord 40 = .ok (.putfield 28, 3) := by decide +kernel
theorem dX7_takesWord_43 : decode cX7_takesWord 43 = .ok (.iconst 1, 1) := by decide +kernel
theorem dX7_takesWord_44 : decode cX7_takesWord 44 = .ok (.ireturn, 1) := by decide +kernel
set_option maxRecDepth 20000 in
theorem ggX7_takesBars_X7_skips : GoodIn wsX7_takesBars wsX7_skips := goodIn_r _ [5, 6, 7, 8, 9, 10, 11, 12, 13, 14, 36, 37, 38, 39, 40, 41, 42, 43, 44, 45] (by decide +kernel) (by decide +kernel)
set_option maxRecDepth 20000 in
theorem gX7_takesBars_X7_skips : GoodIn wsX7_takesBars (wsV RX7 55 RX7 yX7_skips wsX7_skips) := goodIn_app (goodIn_of _ (by decide +kernel)) ggX7_takesBars_X7_skips
set_option maxRecDepth 20000 in
theorem ggX7_takesBars_X7_takesWord : GoodIn wsX7_takesBars wsX7_takesWord := goodIn_r _ [18, 6, 7, 8, 9, 10, 11, 12, 13, 14, 19, 20, 21, 4, 22, 23, 24, 25, 26, 27, 28, 29, 30, 31, 32, 33, 34, 35, 36, 37, 38, 39, 40, 41, 42, 43, 44, 45] (by decide +kernel) (by decide +kernel)
set_option maxRecDepth 20000 in
theorem gX7_takesBars_X7_takesWord : GoodIn wsX7_takesBars (wsV RX7 38 RX7 yX7_takesWord wsX7_takesWord) := goodIn_app (goodIn_of _ (by decide +kernel)) ggX7_takesBars_X7_takesWord
theorem dX7_takesBars_0 : decode cX7_takesBars 0 = .ok (.iconst 1, 1) := by decide +kernel
theorem dX7_takesBars_1 : decode cX7_takesBars 1 = .ok (.istore_n 1, 1) := by decide +kernel
theorem dX7_takesBars_2 : decode cX7_takesBars 2 = .ok (.iconst 0, 1) := by decide +kernel
theorem dX7_takesBars_3 : decode cX7_takesBars 3 = .ok (.istore_n 2, 1) := by decide +kernel
theorem dX7_takesBars_4 : decode cX7_takesBars 4 = .ok (.iload_n 2, 1) := by decide +kernel
theorem dX7_takesBars_5 : decode cX7_takesBars 5 = .ok (.bipush 120, 2) := by decide +kernel
theorem dX7_takesBars_7 : decode cX7_takesBars 7 = .ok (.if_icmp .ge 30, 3) := by decide +kernel
theorem dX7_takesBars_10 : decode cX7_takesBars 10 = .ok (.iload_n 1, 1) := by decide +kernel
theorem dX7_takesBars_11 : decode cX7_takesBars 11 = .ok (.ifCond .eq 26, 3) := by decide +kernel
theorem dX7_takesBars_14 : decode cX7_takesBars 14 = .ok (.aload_n 0, 1) := by decide +kernel
theorem dX7_takesBars_15 : decode cX7_takesBars 15 = .ok (.bipush 100, 2) := by decide +kernel
theorem dX7_takesBars_17 : decode cX7_takesBars 17 = .ok (.invokevirtual 55, 3) := by decide +kernel
theorem dX7_takesBars_20 : decode cX7_takesBars 20 = .ok (.ifCond .eq 17, 3) := by decide +kernel
theorem dX7_takesBars_23 : decode cX7_takesBars 23 = .ok (.aload_n 0, 1) := by decide +kernel
theorem dX7_takesBars_24 : decode cX7_takesBars 24 = .ok (.bipush 102, 2) := by decide +kernel
theorem dX7_takesBars_26 : decode cX7_takesBars 26 = .ok (.iconst 5, 1) := by decide +kernel
theorem dX7_takesBars_27 : decode cX7_takesBars 27 = .ok (.invokevirtual 38, 3) := by decide +kernel
theorem dX7_takesBars_30 : decode cX7_takesBars 30 = .ok (.istore_n 1, 1) := by decide +kernel
theorem dX7_takesBars_31 : decode cX7_takesBars 31 = .ok (.iinc 2 1, 3) := by decide +kernel
theorem dX7_takesBars_34 : decode cX7_takesBars 34 = .ok (.goto (-30), 3) := by decide +kernel
theorem dX7_takesBars_37 : decode cX7_takesBars 37 = .ok (.iload_n 1, 1) := by decide +kernel
theorem dX7_takesBars_38 : decode cX7_takesBars 38 = .ok (.ireturn, 1) := by decide +kernel
set_option maxRecDepth 20000 in
theorem ggX7_takesSpan_X7_takesNumber : GoodIn wsX7_takesSpan wsX7_takesNumber := goodIn_r _ [5, 6, 7, 8, 9, 10, 11, 12, 13, 14, 15, 16, 17, 4, 18, 19, 20, 21, 22, 23, 24, 25, 26, 27, 28, 29, 30, 31, 32, 33, 34, 35, 36, 45, 46, 47, 48, 49, 50, 51, 52, 53, 54] (by decide +kernel) (by decide +kernel)
set_option maxRecDepth 20000 in
theorem gX7_takesSpan_X7_takesNumber : GoodIn wsX7_takesSpan (wsV RX7 42 RX7 yX7_takesNumber wsX7_takesNumber) := goodIn_app (goodIn_of _ (by decide +kernel)) ggX7_takesSpan_X7_takesNumber
set_option maxRecDepth 20000 in
theorem ggX7_takesSpan_X7_takesMark : GoodIn wsX7_takesSpan wsX7_takesMark := goodIn_r _ [40, 41, 42, 43, 4, 44, 6, 7, 8, 9, 10, 11, 12, 13, 14, 15, 16, 17, 18, 19, 20, 21, 22, 23, 24, 25, 45, 46, 47, 48, 49, 50, 51, 52, 53, 54] (by decide +kernel) (by decide +kernel)
set_option maxRecDepth 20000 in
theorem gX7_takesSpan_X7_takesMark : GoodIn wsX7_takesSpan (wsV RX7 59 RX7 yX7_takesMark wsX7_takesMark) := goodIn_app (goodIn_of _ (by decide +kernel)) ggX7_takesSpan_X7_takesMark
theorem dX7_takesSpan_0 : decode cX7_takesSpan 0 = .ok (.aload_n 0, 1) := by decide +kernel
theorem dX7_takesSpan_1 : decode cX7_takesSpan 1 = .ok (.invokevirtual 42, 3) := by decide +kernel
theorem dX7_takesSpan_4 : decode cX7_takesSpan 4 = .ok (.ifCond .eq 23, 3) := by decide +kernel
theorem dX7_takesSpan_7 : decode cX7_takesSpan 7 = .ok (.aload_n 0, 1) := by decide +kernel
theorem dX7_takesSpan_8 : decode cX7_takesSpan 8 = .ok (.bipush 45, 2) := by decide +kernel
theorem dX7_takesSpan_10 : decode cX7_takesSpan 10 = .ok (.invokevirtual 59, 3) := by decide +kernel
theorem dX7_takesSpan_13 : decode cX7_takesSpan 13 = .ok (.ifCond .eq 14, 3) := by decide +kernel
theorem dX7_takesSpan_16 : decode cX7_takesSpan 16 = .ok (.aload_n 0, 1) := by decide +kernel
theorem dX7_takesSpan_17 : decode cX7_takesSpan 17 = .ok (.invokevirtual 42, 3) := by decide +kernel
theorem dX7_takesSpan_20 : decode cX7_takesSpan 20 = .ok (.ifCond .eq 7, 3) := by decide +kernel
theorem dX7_takesSpan_23 : decode cX7_takesSpan 23 = .ok (.iconst 1, 1) := by decide +kernel
theorem dX7_takesSpan_24 : decode cX7_takesSpan 24 = .ok (.goto 4, 3) := by decide +kernel
theorem dX7_takesSpan_27 : decode cX7_takesSpan 27 = .ok (.iconst 0, 1) := by decide +kernel
theorem dX7_takesSpan_28 : decode cX7_takesSpan 28 = .ok (.ireturn, 1) := by decide +kernel
set_option maxRecDepth 20000 in
theorem ggX7_takesHarm_X7_takesWord : GoodIn wsX7_takesHarm wsX7_takesWord := goodIn_r _ [5, 6, 7, 8, 9, 10, 11, 12, 13, 14, 15, 16, 17, 4, 18, 19, 20, 21, 22, 23, 24, 25, 26, 27, 28, 29, 30, 31, 41, 42, 43, 44, 45, 46, 47, 48, 49, 50] (by decide +kernel) (by decide +kernel)
set_option maxRecDepth 20000 in
theorem gX7_takesHarm_X7_takesWord : GoodIn wsX7_takesHarm (wsV RX7 38 RX7 yX7_takesWord wsX7_takesWord) := goodIn_app (goodIn_of _ (by decide +kernel)) ggX7_takesHarm_X7_takesWord
set_option maxRecDepth 20000 in
theorem ggX7_takesHarm_X7_takesNumber : GoodIn wsX7_takesHarm wsX7_takesNumber := goodIn_r _ [35, 6, 7, 8, 9, 10, 11, 12, 13, 14, 15, 16, 17, 4, 18, 19, 20, 21, 22, 23, 24, 25, 36, 37, 38, 39, 40, 26, 27, 28, 29, 30, 31, 41, 42, 43, 44, 45, 46, 47, 48, 49, 50] (by decide +kernel) (by decide +kernel)
set_option maxRecDepth 20000 in
theorem gX7_takesHarm_X7_takesNumber : GoodIn wsX7_takesHarm (wsV RX7 42 RX7 yX7_takesNumber wsX7_takesNumber) := goodIn_app (goodIn_of _ (by decide +kernel)) ggX7_takesHarm_X7_takesNumber
theorem dX7_takesHarm_0 : decode cX7_takesHarm 0 = .ok (.aload_n 0, 1) := by decide +kernel
theorem dX7_takesHarm_1 : decode cX7_takesHarm 1 = .ok (.bipush 107, 2) := by decide +kernel
theorem dX7_takesHarm_3 : decode cX7_takesHarm 3 = .ok (.iconst 4, 1) := by decide +kernel
theorem dX7_takesHarm_4 : decode cX7_takesHarm 4 = .ok (.invokevirtual 38, 3) := by decide +kernel
theorem dX7_takesHarm_7 : decode cX7_takesHarm 7 = .ok (.ifCond .eq 21, 3) := by decide +kernel
theorem dX7_takesHarm_10 : decode cX7_takesHarm 10 = .ok (.aload_n 0, 1) := by decide +kernel
theorem dX7_takesHarm_11 : decode cX7_takesHarm 11 = .ok (.invokevirtual 42, 3) := by decide +kernel
theorem dX7_takesHarm_14 : decode cX7_takesHarm 14 = .ok (.ifCond .eq 14, 3) := by decide +kernel
theorem dX7_takesHarm_17 : decode cX7_takesHarm 17 = .ok (.aload_n 0, 1) := by decide +kernel
theorem dX7_takesHarm_18 : decode cX7_takesHarm 18 = .ok (.invokevirtual 42, 3) := by decide +kernel
theorem dX7_takesHarm_21 : decode cX7_takesHarm 21 = .ok (.ifCond .eq 7, 3) := by decide +kernel
theorem dX7_takesHarm_24 : decode cX7_takesHarm 24 = .ok (.iconst 1, 1) := by decide +kernel
theorem dX7_takesHarm_25 : decode cX7_takesHarm 25 = .ok (.goto 4, 3) := by decide +kernel
theorem dX7_takesHarm_28 : decode cX7_takesHarm 28 = .ok (.iconst 0, 1) := by decide +kernel
theorem dX7_takesHarm_29 : decode cX7_takesHarm 29 = .ok (.ireturn, 1) := by decide +kernel
theorem dX7_add_0 : decode cX7_add 0 = .ok (.aload_n 0, 1) := by decide +kernel
theorem dX7_add_1 : decode cX7_add 1 = .ok (.getfield 24, 3) := by decide +kernel
theorem dX7_add_4 : decode cX7_add 4 = .ok (.bipush 120, 2) := by decide +kernel
theorem dX7_add_6 : decode cX7_add 6 = .ok (.if_icmp .ge 23, 3) := by decide +kernel
theorem dX7_add_9 : decode cX7_add 9 = .ok (.aload_n 0, 1) := by decide +kernel
theorem dX7_add_10 : decode cX7_add 10 = .ok (.getfield 20, 3) := by decide +kernel
theorem dX7_add_13 : decode cX7_add 13 = .ok (.aload_n 0, 1) := by decide +kernel
theorem dX7_add_14 : decode cX7_add 14 = .ok (.getfield 24, 3) := by decide +kernel
theorem dX7_add_17 : decode cX7_add 17 = .ok (.iload_n 1, 1) := by decide +kernel
theorem dX7_add_18 : decode cX7_add 18 = .ok (.iastore, 1) := by decide +kernel
theorem dX7_add_19 : decode cX7_add 19 = .ok (.aload_n 0, 1) := by decide +kernel
theorem dX7_add_20 : decode cX7_add 20 = .ok (.dup, 1) := by decide +kernel
theorem dX7_add_21 : decode cX7_add 21 = .ok (.getfield 24, 3) := by decide +kernel
theorem dX7_add_24 : decode cX7_add 24 = .ok (.iconst 1, 1) := by decide +kernel
theorem dX7_add_25 : decode cX7_add 25 = .ok (.iadd, 1) := by decide +kernel
theorem dX7_add_26 : decode cX7_add 26 = .ok (.putfield 24, 3) := by decide +kernel
theorem dX7_add_29 : decode cX7_add 29 = .ok (.return_, 1) := by decide +kernel
set_option maxRecDepth 20000 in
theorem ggX8_init_X8_harmsIn : GoodIn wsX8_init wsX8_harmsIn := goodIn_r _ [12, 13, 14, 15, 16, 17, 18, 19, 20, 21, 22, 293, 294, 295, 296, 297] (by decide +kernel) (by decide +kernel)
set_option maxRecDepth 20000 in
theorem gX8_init_X8_harmsIn : GoodIn wsX8_init (va_wsS RX8 15 yX8_harmsIn wsX8_harmsIn) := goodIn_app (goodIn_of _ (by decide +kernel)) ggX8_init_X8_harmsIn
set_option maxRecDepth 20000 in
theorem ggX8_init_X8_spotIn : GoodIn wsX8_init wsX8_spotIn := goodIn_r _ [25, 26, 27, 28, 20, 29, 22, 30, 293, 294, 295, 296, 297] (by decide +kernel) (by decide +kernel)
set_option maxRecDepth 20000 in
theorem gX8_init_X8_spotIn : GoodIn wsX8_init (va_wsS RX8 26 yX8_spotIn wsX8_spotIn) := goodIn_app (goodIn_of _ (by decide +kernel)) ggX8_init_X8_spotIn
set_option maxRecDepth 20000 in
theorem ggX8_init_X7_told : GoodIn wsX8_init wsX7_told := goodIn_r _ [29, 22, 30, 293, 294, 295, 296, 297] (by decide +kernel) (by decide +kernel)
set_option maxRecDepth 20000 in
theorem gX8_init_X7_told : GoodIn wsX8_init (wsV RX8 30 RX7 yX7_told wsX7_told) := goodIn_app (goodIn_of _ (by decide +kernel)) ggX8_init_X7_told
set_option maxRecDepth 20000 in
theorem ggX8_init_X8_write : GoodIn wsX8_init wsX8_write := goodIn_r _ [33, 34, 35, 36, 37, 38, 39, 40, 41, 42, 43, 44, 45, 46, 47, 2, 3, 48, 49, 50, 51, 52, 53, 54, 55, 56, 57, 58, 59, 60, 61, 62, 63, 64, 65, 66, 67, 68, 69, 70, 71, 72, 73, 74, 75, 76, 77, 78, 79, 80, 81, 82, 83, 84, 85, 86, 87, 88, 89, 90, 14, 15, 16, 91, 92, 93, 94, 95, 96, 97, 98, 99, 100, 101, 102, 103, 104, 105, 106, 107, 108, 109, 110, 111, 112, 113, 114, 115, 116, 117, 118, 119, 120, 121, 122, 123, 124, 125, 126, 127, 128, 129, 130, 131, 132, 133, 134, 135, 136, 137, 138, 139, 140, 141, 142, 143, 144, 145, 146, 147, 148, 149, 150, 151, 152, 153, 154, 155, 156, 157, 158, 159, 160, 161, 162, 163, 164, 165, 166, 167, 168, 169, 170, 171, 172, 173, 174, 175, 176, 177, 178, 179, 180, 181, 182, 183, 184, 185, 186, 187, 188, 189, 190, 191, 192, 193, 194, 195, 196, 197, 198, 199, 200, 201, 202, 203, 204, 205, 206, 207, 208, 209, 210, 211, 212, 213, 214, 215, 216, 217, 218, 219, 220, 221, 222, 223, 224, 225, 226, 227, 228, 229, 230, 231, 232, 233, 234, 235, 236, 237, 238, 239, 240, 241, 242, 243, 244, 245, 246, 247, 248, 249, 250, 251, 252, 253, 254, 255, 256, 257, 258, 259, 260, 261, 262, 263, 264, 265, 266, 267, 268, 269, 270, 271, 272, 273, 274, 275, 276, 277, 278, 279, 280, 281, 282, 283, 284, 285, 286, 287, 288, 298, 299, 300, 301, 302, 303, 304, 305] (by decide +kernel) (by decide +kernel)
set_option maxRecDepth 20000 in
theorem gX8_init_X8_write : GoodIn wsX8_init (va_wsS RX8 36 yX8_write wsX8_write) := goodIn_app (goodIn_of _ (by decide +kernel)) ggX8_init_X8_write
theorem dX8_init_0 : decode cX8_init 0 = .ok (.aload_n 0, 1) := by decide +kernel
theorem dX8_init_1 : decode cX8_init 1 = .ok (.invokespecial 3, 3) := by decide +kernel
theorem dX8_init_4 : decode cX8_init 4 = .ok (.aload_n 0, 1) := by decide +kernel
theorem dX8_init_5 : decode cX8_init 5 = .ok (.iload_n 1, 1) := by decide +kernel
theorem dX8_init_6 : decode cX8_init 6 = .ok (.putfield 9, 3) := by decide +kernel
theorem dX8_init_9 : decode cX8_init 9 = .ok (.aload_n 2, 1) := by decide +kernel
theorem dX8_init_10 : decode cX8_init 10 = .ok (.invokestatic 15, 3) := by decide +kernel
theorem dX8_init_13 : decode cX8_init 13 = .ok (.istore_n 3, 1) := by decide +kernel
theorem dX8_init_14 : decode cX8_init 14 = .ok (.aload_n 0, 1) := by decide +kernel
theorem dX8_init_15 : decode cX8_init 15 = .ok (.iload_n 3, 1) := by decide +kernel
theorem dX8_init_16 : decode cX8_init 16 = .ok (.newarray .int, 2) := by decide +kernel
theorem dX8_init_18 : decode cX8_init 18 = .ok (.putfield 19, 3) := by decide +kernel
theorem dX8_init_21 : decode cX8_init 21 = .ok (.aload_n 0, 1) := by decide +kernel
theorem dX8_init_22 : decode cX8_init 22 = .ok (.iload_n 3, 1) := by decide +kernel
theorem dX8_init_23 : decode cX8_init 23 = .ok (.newarray .int, 2) := by decide +kernel
theorem dX8_init_25 : decode cX8_init 25 = .ok (.putfield 23, 3) := by decide +kernel
theorem dX8_init_28 : decode cX8_init 28 = .ok (.iconst 0, 1) := by decide +kernel
theorem dX8_init_29 : decode cX8_init 29 = .ok (.istore 4, 2) := by decide +kernel
theorem dX8_init_31 : decode cX8_init 31 = .ok (.iload 4, 2) := by decide +kernel
theorem dX8_init_33 : decode cX8_init 33 = .ok (.iload_n 3, 1) := by decide +kernel
theorem dX8_init_34 : decode cX8_init 34 = .ok (.if_icmp .ge 104, 3) := by decide +kernel
theorem dX8_init_37 : decode cX8_init 37 = .ok (.aload_n 2, 1) := by decide +kernel
theorem dX8_init_38 : decode cX8_init 38 = .ok (.iload 4, 2) := by decide +kernel
theorem dX8_init_40 : decode cX8_init 40 = .ok (.invokestatic 26, 3) := by decide +kernel
theorem dX8_init_43 : decode cX8_init 43 = .ok (.istore 5, 2) := by decide +kernel
theorem dX8_init_45 : decode cX8_init 45 = .ok (.iload 4, 2) := by decide +kernel
theorem dX8_init_47 : decode cX8_init 47 = .ok (.istore 6, 2) := by decide +kernel
theorem dX8_init_49 : decode cX8_init 49 = .ok (.iload 6, 2) := by decide +kernel
theorem dX8_init_51 : decode cX8_init 51 = .ok (.ifCond .le 55, 3) := by decide +kernel
theorem dX8_init_54 : decode cX8_init 54 = .ok (.aload_n 0, 1) := by decide +kernel
theorem dX8_init_55 : decode cX8_init 55 = .ok (.getfield 19, 3) := by decide +kernel
theorem dX8_init_58 : decode cX8_init 58 = .ok (.iload 6, 2) := by decide +kernel
theorem dX8_init_60 : decode cX8_init 60 = .ok (.iconst 1, 1) := by decide +kernel
theorem dX8_init_61 : decode cX8_init 61 = .ok (.isub, 1) := by decide +kernel
theorem dX8_init_62 : decode cX8_init 62 = .ok (.iaload, 1) := by decide +kernel
theorem dX8_init_63 : decode cX8_init 63 = .ok (.iload 5, 2) := by decide +kernel
theorem dX8_init_65 : decode cX8_init 65 = .ok (.if_icmp .le 41, 3) := by decide +kernel
theorem dX8_init_68 : decode cX8_init 68 = .ok (.aload_n 0, 1) := by decide +kernel
theorem dX8_init_69 : decode cX8_init 69 = .ok (.getfield 19, 3) := by decide +kernel
theorem dX8_init_72 : decode cX8_init 72 = .ok (.iload 6, 2) := by decide +kernel
theorem dX8_init_74 : decode cX8_init 74 = .ok (.aload_n 0, 1) := by decide +kernel
theorem dX8_init_75 : decode cX8_init 75 = .ok (.getfield 19, 3) := by decide +kernel
theorem dX8_init_78 : decode cX8_init 78 = .ok (.iload 6, 2) := by decide +kernel
theorem dX8_init_80 : decode cX8_init 80 = .ok (.iconst 1, 1) := by decide +kernel
theorem dX8_init_81 : decode cX8_init 81 = .ok (.isub, 1) := by decide +kernel
theorem dX8_init_82 : decode cX8_init 82 = .ok (.iaload, 1) := by decide +kernel
theorem dX8_init_83 : decode cX8_init 83 = .ok (.iastore, 1) := by decide +kernel
theorem dX8_init_84 : decode cX8_init 84 = .ok (.aload_n 0, 1) := by decide +kernel
theorem dX8_init_85 : decode cX8_init 85 = .ok (.getfield 23, 3) := by decide +kernel
theorem dX8_init_88 : decode cX8_init 88 = .ok (.iload 6, 2) := by decide +kernel
theorem dX8_init_90 : decode cX8_init 90 = .ok (.aload_n 0, 1) := by decide +kernel
theorem dX8_init_91 : decode cX8_init 91 = .ok (.getfield 23, 3) := by decide +kernel
theorem dX8_init_94 : decode cX8_init 94 = .ok (.iload 6, 2) := by decide +kernel
theorem dX8_init_96 : decode cX8_init 96 = .ok (.iconst 1, 1) := by decide +kernel
theorem dX8_init_97 : decode cX8_init 97 = .ok (.isub, 1) := by decide +kernel
theorem dX8_init_98 : decode cX8_init 98 = .ok (.iaload, 1) := by decide +kernel
theorem dX8_init_99 : decode cX8_init 99 = .ok (.iastore, 1) := by decide +kernel
theorem dX8_init_100 : decode cX8_init 100 = .ok (.iinc 6 (-1), 3) := by decide +kernel
theorem dX8_init_103 : decode cX8_init 103 = .ok (.goto (-54), 3) := by decide +kernel
theorem dX8_init_106 : decode cX8_init 106 = .ok (.aload_n 0, 1) := by decide +kernel
theorem dX8_init_107 : decode cX8_init 107 = .ok (.getfield 19, 3) := by decide +kernel
theorem dX8_init_110 : decode cX8_init 110 = .ok (.iload 6, 2) := by decide +kernel
theorem dX8_init_112 : decode cX8_init 112 = .ok (.iload 5, 2) := by decide +kernel
theorem dX8_init_114 : decode cX8_init 114 = .ok (.iastore, 1) := by decide +kernel
theorem dX8_init_115 : decode cX8_init 115 = .ok (.aload_n 0, 1) := by decide +kernel
theorem dX8_init_116 : decode cX8_init 116 = .ok (.getfield 23, 3) := by decide +kernel
theorem dX8_init_119 : decode cX8_init 119 = .ok (.iload 6, 2) := by decide +kernel
theorem dX8_init_121 : decode cX8_init 121 = .ok (.aload_n 2, 1) := by decide +kernel
theorem dX8_init_122 : decode cX8_init 122 = .ok (.iconst 3, 1) := by decide +kernel
theorem dX8_init_123 : decode cX8_init 123 = .ok (.iload 4, 2) := by decide +kernel
theorem dX8_init_125 : decode cX8_init 125 = .ok (.imul, 1) := by decide +kernel
theorem dX8_init_126 : decode cX8_init 126 = .ok (.iconst 2, 1) := by decide +kernel
theorem dX8_init_127 : decode cX8_init 127 = .ok (.iadd, 1) := by decide +kernel
theorem dX8_init_128 : decode cX8_init 128 = .ok (.invokevirtual 30, 3) := by decide +kernel
theorem dX8_init_131 : decode cX8_init 131 = .ok (.iastore, 1) := by decide +kernel
theorem dX8_init_132 : decode cX8_init 132 = .ok (.iinc 4 1, 3) := by decide +kernel
theorem dX8_init_135 : decode cX8_init 135 = .ok (.goto (-104), 3) := by decide +kernel
theorem dX8_init_138 : decode cX8_init 138 = .ok (.aload_n 0, 1) := by decide +kernel
theorem dX8_init_139 : decode cX8_init 139 = .ok (.aload_n 0, 1) := by decide +kernel
theorem dX8_init_140 : decode cX8_init 140 = .ok (.getfield 19, 3) := by decide +kernel
theorem dX8_init_143 : decode cX8_init 143 = .ok (.aload_n 0, 1) := by decide +kernel
theorem dX8_init_144 : decode cX8_init 144 = .ok (.getfield 23, 3) := by decide +kernel
theorem dX8_init_147 : decode cX8_init 147 = .ok (.invokestatic 36, 3) := by decide +kernel
theorem dX8_init_150 : decode cX8_init 150 = .ok (.putfield 40, 3) := by decide +kernel
theorem dX8_init_153 : decode cX8_init 153 = .ok (.return_, 1) := by decide +kernel
set_option maxRecDepth 20000 in
theorem ggX8_faultIn_X8_harmsIn : GoodIn wsX8_faultIn wsX8_harmsIn := goodIn_r _ [4, 5, 6, 7, 8, 9, 10, 11, 12, 13, 14, 23, 24, 25, 26, 27] (by decide +kernel) (by decide +kernel)
set_option maxRecDepth 20000 in
theorem gX8_faultIn_X8_harmsIn : GoodIn wsX8_faultIn (va_wsS RX8 15 yX8_harmsIn wsX8_harmsIn) := goodIn_app (goodIn_of _ (by decide +kernel)) ggX8_faultIn_X8_harmsIn
set_option maxRecDepth 20000 in
theorem ggX8_faultIn_X7_told : GoodIn wsX8_faultIn wsX7_told := goodIn_r _ [18, 14, 19, 23, 24, 25, 26, 27] (by decide +kernel) (by decide +kernel)
set_option maxRecDepth 20000 in
theorem gX8_faultIn_X7_told : GoodIn wsX8_faultIn (wsV RX8 30 RX7 yX7_told wsX7_told) := goodIn_app (goodIn_of _ (by decide +kernel)) ggX8_faultIn_X7_told
set_option maxRecDepth 20000 in
theorem ggX8_faultIn_X8_spotIn : GoodIn wsX8_faultIn wsX8_spotIn := goodIn_r _ [22, 15, 16, 17, 12, 18, 14, 19, 23, 24, 25, 26, 27] (by decide +kernel) (by decide +kernel)
set_option maxRecDepth 20000 in
theorem gX8_faultIn_X8_spotIn : GoodIn wsX8_faultIn (va_wsS RX8 26 yX8_spotIn wsX8_spotIn) := goodIn_app (goodIn_of _ (by decide +kernel)) ggX8_faultIn_X8_spotIn
theorem dX8_faultIn_0 : decode cX8_faultIn 0 = .ok (.aload_n 0, 1) := by decide +kernel
theorem dX8_faultIn_1 : decode cX8_faultIn 1 = .ok (.invokestatic 15, 3) := by decide +kernel
theorem dX8_faultIn_4 : decode cX8_faultIn 4 = .ok (.istore_n 1, 1) := by decide +kernel
theorem dX8_faultIn_5 : decode cX8_faultIn 5 = .ok (.iconst 0, 1) := by decide +kernel
theorem dX8_faultIn_6 : decode cX8_faultIn 6 = .ok (.istore_n 2, 1) := by decide +kernel
theorem dX8_faultIn_7 : decode cX8_faultIn 7 = .ok (.iload_n 2, 1) := by decide +kernel
theorem dX8_faultIn_8 : decode cX8_faultIn 8 = .ok (.iload_n 1, 1) := by decide +kernel
theorem dX8_faultIn_9 : decode cX8_faultIn 9 = .ok (.if_icmp .ge 47, 3) := by decide +kernel
theorem dX8_faultIn_12 : decode cX8_faultIn 12 = .ok (.aload_n 0, 1) := by decide +kernel
theorem dX8_faultIn_13 : decode cX8_faultIn 13 = .ok (.iconst 3, 1) := by decide +kernel
theorem dX8_faultIn_14 : decode cX8_faultIn 14 = .ok (.iload_n 2, 1) := by decide +kernel
theorem dX8_faultIn_15 : decode cX8_faultIn 15 = .ok (.imul, 1) := by decide +kernel
theorem dX8_faultIn_16 : decode cX8_faultIn 16 = .ok (.iconst 2, 1) := by decide +kernel
theorem dX8_faultIn_17 : decode cX8_faultIn 17 = .ok (.iadd, 1) := by decide +kernel
theorem dX8_faultIn_18 : decode cX8_faultIn 18 = .ok (.invokevirtual 30, 3) := by decide +kernel
theorem dX8_faultIn_21 : decode cX8_faultIn 21 = .ok (.istore_n 3, 1) := by decide +kernel
theorem dX8_faultIn_22 : decode cX8_faultIn 22 = .ok (.aload_n 0, 1) := by decide +kernel
theorem dX8_faultIn_23 : decode cX8_faultIn 23 = .ok (.iconst 3, 1) := by decide +kernel
theorem dX8_faultIn_24 : decode cX8_faultIn 24 = .ok (.iload_n 2, 1) := by decide +kernel
theorem dX8_faultIn_25 : decode cX8_faultIn 25 = .ok (.imul, 1) := by decide +kernel
theorem dX8_faultIn_26 : decode cX8_faultIn 26 = .ok (.iconst 1, 1) := by decide +kernel
theorem dX8_faultIn_27 : decode cX8_faultIn 27 = .ok (.iadd, 1) := by decide +kernel
theorem dX8_faultIn_28 : decode cX8_faultIn 28 = .ok (.invokevirtual 30, 3) := by decide +kernel
theorem dX8_faultIn_31 : decode cX8_faultIn 31 = .ok (.bipush 100, 2) := by decide +kernel
theorem dX8_faultIn_33 : decode cX8_faultIn 33 = .ok (.if_icmp .ge 14, 3) := by decide +kernel
theorem dX8_faultIn_36 : decode cX8_faultIn 36 = .ok (.iload_n 3, 1) := by decide +kernel
theorem dX8_faultIn_37 : decode cX8_faultIn 37 = .ok (.iconst 1, 1) := by decide +kernel
theorem dX8_faultIn_38 : decode cX8_faultIn 38 = .ok (.if_icmp .lt 9, 3) := by decide +kernel
theorem dX8_faultIn_41 : decode cX8_faultIn 41 = .ok (.iload_n 3, 1) := by decide +kernel
theorem dX8_faultIn_42 : decode cX8_faultIn 42 = .ok (.bipush 99, 2) := by decide +kernel
theorem dX8_faultIn_44 : decode cX8_faultIn 44 = .ok (.if_icmp .le 6, 3) := by decide +kernel
theorem dX8_faultIn_47 : decode cX8_faultIn 47 = .ok (.bipush 9, 2) := by decide +kernel
theorem dX8_faultIn_49 : decode cX8_faultIn 49 = .ok (.ireturn, 1) := by decide +kernel
theorem dX8_faultIn_50 : decode cX8_faultIn 50 = .ok (.iinc 2 1, 3) := by decide +kernel
theorem dX8_faultIn_53 : decode cX8_faultIn 53 = .ok (.goto (-46), 3) := by decide +kernel
theorem dX8_faultIn_56 : decode cX8_faultIn 56 = .ok (.iconst 0, 1) := by decide +kernel
theorem dX8_faultIn_57 : decode cX8_faultIn 57 = .ok (.istore_n 2, 1) := by decide +kernel
theorem dX8_faultIn_58 : decode cX8_faultIn 58 = .ok (.iload_n 2, 1) := by decide +kernel
theorem dX8_faultIn_59 : decode cX8_faultIn 59 = .ok (.iload_n 1, 1) := by decide +kernel
theorem dX8_faultIn_60 : decode cX8_faultIn 60 = .ok (.if_icmp .ge 38, 3) := by decide +kernel
theorem dX8_faultIn_63 : decode cX8_faultIn 63 = .ok (.iconst 0, 1) := by decide +kernel
theorem dX8_faultIn_64 : decode cX8_faultIn 64 = .ok (.istore_n 3, 1) := by decide +kernel
theorem dX8_faultIn_65 : decode cX8_faultIn 65 = .ok (.iload_n 3, 1) := by decide +kernel
theorem dX8_faultIn_66 : decode cX8_faultIn 66 = .ok (.iload_n 2, 1) := by decide +kernel
theorem dX8_faultIn_67 : decode cX8_faultIn 67 = .ok (.if_icmp .ge 25, 3) := by decide +kernel
theorem dX8_faultIn_70 : decode cX8_faultIn 70 = .ok (.aload_n 0, 1) := by decide +kernel
theorem dX8_faultIn_71 : decode cX8_faultIn 71 = .ok (.iload_n 2, 1) := by decide +kernel
theorem dX8_faultIn_72 : decode cX8_faultIn 72 = .ok (.invokestatic 26, 3) := by decide +kernel
theorem dX8_faultIn_75 : decode cX8_faultIn 75 = .ok (.aload_n 0, 1) := by decide +kernel
theorem dX8_faultIn_76 : decode cX8_faultIn 76 = .ok (.iload_n 3, 1) := by decide +kernel
theorem dX8_faultIn_77 : decode cX8_faultIn 77 = .ok (.invokestatic 26, 3) := by decide +kernel
theorem dX8_faultIn_80 : decode cX8_faultIn 80 = .ok (.if_icmp .ne 6, 3) := by decide +kernel
theorem dX8_faultIn_83 : decode cX8_faultIn 83 = .ok (.bipush 10, 2) := by decide +kernel
theorem dX8_faultIn_85 : decode cX8_faultIn 85 = .ok (.ireturn, 1) := by decide +kernel
theorem dX8_faultIn_86 : decode cX8_faultIn 86 = .ok (.iinc 3 1, 3) := by decide +kernel
theorem dX8_faultIn_89 : decode cX8_faultIn 89 = .ok (.goto (-24), 3) := by decide +kernel
theorem dX8_faultIn_92 : decode cX8_faultIn 92 = .ok (.iinc 2 1, 3) := by decide +kernel
theorem dX8_faultIn_95 : decode cX8_faultIn 95 = .ok (.goto (-37), 3) := by decide +kernel
theorem dX8_faultIn_98 : decode cX8_faultIn 98 = .ok (.iconst 0, 1) := by decide +kernel
theorem dX8_faultIn_99 : decode cX8_faultIn 99 = .ok (.ireturn, 1) := by decide +kernel
set_option maxRecDepth 20000 in
theorem ggX8_harmsIn_X7_size : GoodIn wsX8_harmsIn wsX7_size := goodIn_r _ [9, 10, 11, 12, 13, 14, 15] (by decide +kernel) (by decide +kernel)
set_option maxRecDepth 20000 in
theorem gX8_harmsIn_X7_size : GoodIn wsX8_harmsIn (wsV RX8 44 RX7 yX7_size wsX7_size) := goodIn_app (goodIn_of _ (by decide +kernel)) ggX8_harmsIn_X7_size
theorem dX8_harmsIn_0 : decode cX8_harmsIn 0 = .ok (.aload_n 0, 1) := by decide +kernel
theorem dX8_harmsIn_1 : decode cX8_harmsIn 1 = .ok (.invokevirtual 44, 3) := by decide +kernel
theorem dX8_harmsIn_4 : decode cX8_harmsIn 4 = .ok (.iconst 3, 1) := by decide +kernel
theorem dX8_harmsIn_5 : decode cX8_harmsIn 5 = .ok (.idiv, 1) := by decide +kernel
theorem dX8_harmsIn_6 : decode cX8_harmsIn 6 = .ok (.iconst 0, 1) := by decide +kernel
theorem dX8_harmsIn_7 : decode cX8_harmsIn 7 = .ok (.invokestatic 48, 3) := by decide +kernel
theorem dX8_harmsIn_10 : decode cX8_harmsIn 10 = .ok (.ireturn, 1) := by decide +kernel
set_option maxRecDepth 20000 in
theorem ggX8_spotIn_X7_told : GoodIn wsX8_spotIn wsX7_told := goodIn_r _ [5, 6, 7, 8, 9, 10, 11, 12] (by decide +kernel) (by decide +kernel)
set_option maxRecDepth 20000 in
theorem gX8_spotIn_X7_told : GoodIn wsX8_spotIn (wsV RX8 30 RX7 yX7_told wsX7_told) := goodIn_app (goodIn_of _ (by decide +kernel)) ggX8_spotIn_X7_told
theorem dX8_spotIn_0 : decode cX8_spotIn 0 = .ok (.aload_n 0, 1) := by decide +kernel
theorem dX8_spotIn_1 : decode cX8_spotIn 1 = .ok (.iconst 3, 1) := by decide +kernel
