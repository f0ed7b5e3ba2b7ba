theorem dX11_note_0 : decode cX11_note 0 = .ok (.aload_n 0, 1) := by decide +kernel
theorem dX11_note_1 : decode cX11_note 1 = .ok (.iload_n 1, 1) := by decide +kernel
theorem dX11_note_2 : decode cX11_note 2 = .ok (.invokevirtual 144, 3) := by decide +kernel
theorem dX11_note_5 : decode cX11_note 5 = .ok (.astore 4, 2) := by decide +kernel
theorem dX11_note_7 : decode cX11_note 7 = .ok (.aload 4, 2) := by decide +kernel
theorem dX11_note_9 : decode cX11_note 9 = .ok (.ifnull 10, 3) := by decide +kernel
theorem dX11_note_12 : decode cX11_note 12 = .ok (.iload_n 2, 1) := by decide +kernel
theorem dX11_note_13 : decode cX11_note 13 = .ok (.invokestatic 148, 3) := by decide +kernel
theorem dX11_note_16 : decode cX11_note 16 = .ok (.ifCond .ne 18, 3) := by decide +kernel
theorem dX11_note_19 : decode cX11_note 19 = .ok (.aload_n 0, 1) := by decide +kernel
theorem dX11_note_20 : decode cX11_note 20 = .ok (.aload 4, 2) := by decide +kernel
theorem dX11_note_22 : decode cX11_note 22 = .ok (.ifnull 7, 3) := by decide +kernel
theorem dX11_note_25 : decode cX11_note 25 = .ok (.iconst 1, 1) := by decide +kernel
theorem dX11_note_26 : decode cX11_note 26 = .ok (.goto 4, 3) := by decide +kernel
theorem dX11_note_29 : decode cX11_note 29 = .ok (.iconst 0, 1) := by decide +kernel
theorem dX11_note_30 : decode cX11_note 30 = .ok (.invokevirtual 152, 3) := by decide +kernel
theorem dX11_note_33 : decode cX11_note 33 = .ok (.ireturn, 1) := by decide +kernel
theorem dX11_note_34 : decode cX11_note 34 = .ok (.aload 4, 2) := by decide +kernel
theorem dX11_note_36 : decode cX11_note 36 = .ok (.aload 4, 2) := by decide +kernel
theorem dX11_note_38 : decode cX11_note 38 = .ok (.iload_n 2, 1) := by decide +kernel
theorem dX11_note_39 : decode cX11_note 39 = .ok (.invokevirtual 271, 3) := by decide +kernel
theorem dX11_note_42 : decode cX11_note 42 = .ok (.invokevirtual 274, 3) := by decide +kernel
theorem dX11_note_45 : decode cX11_note 45 = .ok (.astore 5, 2) := by decide +kernel
theorem dX11_note_47 : decode cX11_note 47 = .ok (.aload 5, 2) := by decide +kernel
theorem dX11_note_49 : decode cX11_note 49 = .ok (.ifnonnull 9, 3) := by decide +kernel
theorem dX11_note_52 : decode cX11_note 52 = .ok (.aload_n 0, 1) := by decide +kernel
theorem dX11_note_53 : decode cX11_note 53 = .ok (.iconst 1, 1) := by decide +kernel
theorem dX11_note_54 : decode cX11_note 54 = .ok (.invokevirtual 59, 3) := by decide +kernel
theorem dX11_note_57 : decode cX11_note 57 = .ok (.ireturn, 1) := by decide +kernel
theorem dX11_note_58 : decode cX11_note 58 = .ok (.aload_n 0, 1) := by decide +kernel
theorem dX11_note_59 : decode cX11_note 59 = .ok (.aload 5, 2) := by decide +kernel
theorem dX11_note_61 : decode cX11_note 61 = .ok (.getfield 277, 3) := by decide +kernel
theorem dX11_note_64 : decode cX11_note 64 = .ok (.iload_n 3, 1) := by decide +kernel
theorem dX11_note_65 : decode cX11_note 65 = .ok (.invokevirtual 281, 3) := by decide +kernel
theorem dX11_note_68 : decode cX11_note 68 = .ok (.ireturn, 1) := by decide +kernel
set_option maxRecDepth 20000 in
theorem ggX11_damage_X11_thingAt : GoodIn wsX11_damage wsX11_thingAt := goodIn_r _ [5, 6, 7, 8, 9, 10, 11, 12, 13, 14, 15, 16, 17, 18, 19, 20, 21, 22, 23, 24, 25, 26, 27, 28, 29, 30, 105, 106, 107, 108, 109, 110, 111, 112, 113, 114, 115, 116, 117, 118] (by decide +kernel) (by decide +kernel)
set_option maxRecDepth 20000 in
theorem gX11_damage_X11_thingAt : GoodIn wsX11_damage (wsV RX11 144 RX11 yX11_thingAt wsX11_thingAt) := goodIn_app (goodIn_of _ (by decide +kernel)) ggX11_damage_X11_thingAt
set_option maxRecDepth 20000 in
theorem ggX11_damage_X11_isDay : GoodIn wsX11_damage wsX11_isDay := goodIn_r _ [33] (by decide +kernel) (by decide +kernel)
set_option maxRecDepth 20000 in
theorem gX11_damage_X11_isDay : GoodIn wsX11_damage (va_wsS RX11 148 yX11_isDay wsX11_isDay) := goodIn_app (goodIn_of _ (by decide +kernel)) ggX11_damage_X11_isDay
set_option maxRecDepth 20000 in
theorem ggX11_damage_X11_refuseAsked : GoodIn wsX11_damage wsX11_refuseAsked := goodIn_r _ [37, 38, 39, 40, 4, 41, 42, 105, 106, 107, 108, 109, 110, 111, 112, 113, 114, 115] (by decide +kernel) (by decide +kernel)
set_option maxRecDepth 20000 in
theorem gX11_damage_X11_refuseAsked : GoodIn wsX11_damage (wsV RX11 152 RX11 yX11_refuseAsked wsX11_refuseAsked) := goodIn_app (goodIn_of _ (by decide +kernel)) ggX11_damage_X11_refuseAsked
set_option maxRecDepth 20000 in
theorem ggX11_damage_X10_reportOn : GoodIn wsX11_damage wsX10_reportOn := goodIn_r _ [47, 48, 49, 50, 51, 46, 52, 53, 54, 55, 9, 10, 11, 12, 13, 56, 15, 16, 17, 18, 19, 20, 21, 22, 23, 24, 25, 26, 27, 28, 29, 30, 57, 58, 59, 60, 119, 120, 121, 122, 123, 124, 125, 126, 127, 128, 129, 130, 131, 116, 117, 118] (by decide +kernel) (by decide +kernel)
set_option maxRecDepth 20000 in
theorem gX11_damage_X10_reportOn : GoodIn wsX11_damage (wsV RX11 162 RX10 yX10_reportOn wsX10_reportOn) := goodIn_app (goodIn_of _ (by decide +kernel)) ggX11_damage_X10_reportOn
set_option maxRecDepth 20000 in
theorem ggX11_damage_X11_refuse : GoodIn wsX11_damage wsX11_refuse := goodIn_r _ [41, 42, 105, 106, 107, 108, 109, 110, 111, 112, 113, 114, 115] (by decide +kernel) (by decide +kernel)
set_option maxRecDepth 20000 in
theorem gX11_damage_X11_refuse : GoodIn wsX11_damage (wsV RX11 59 RX11 yX11_refuse wsX11_refuse) := goodIn_app (goodIn_of _ (by decide +kernel)) ggX11_damage_X11_refuse
set_option maxRecDepth 20000 in
theorem ggX11_damage_X10_latestReport : GoodIn wsX11_damage wsX10_latestReport := goodIn_r _ [52, 53, 54, 48, 55, 9, 10, 11, 12, 13, 56, 15, 16, 17, 18, 19, 20, 21, 22, 23, 24, 25, 26, 27, 28, 29, 30, 123, 124, 125, 126, 127, 128, 129, 130, 131, 119, 120, 121, 122, 116, 117, 118] (by decide +kernel) (by decide +kernel)
set_option maxRecDepth 20000 in
theorem gX11_damage_X10_latestReport : GoodIn wsX11_damage (wsV RX11 271 RX10 yX10_latestReport wsX10_latestReport) := goodIn_app (goodIn_of _ (by decide +kernel)) ggX11_damage_X10_latestReport
set_option maxRecDepth 20000 in
theorem ggX11_damage_X10_damageTold : GoodIn wsX11_damage wsX10_damageTold := goodIn_r _ [65, 48, 57, 58, 59, 46, 60, 53, 54, 55, 9, 10, 11, 12, 13, 56, 15, 16, 17, 18, 19, 20, 21, 22, 23, 24, 25, 26, 27, 28, 29, 30, 66, 67, 68, 69, 70, 71, 72, 73, 74, 75, 76, 77, 78, 79, 80, 81, 4, 82, 83, 84, 85, 86, 87, 88, 89, 90, 91, 92, 93, 94, 95, 96, 97, 98, 99, 100, 119, 120, 121, 122, 123, 124, 125, 126, 127, 128, 129, 130, 131, 116, 117, 118, 132, 133, 134] (by decide +kernel) (by decide +kernel)
set_option maxRecDepth 20000 in
theorem gX11_damage_X10_damageTold : GoodIn wsX11_damage (wsV RX11 285 RX10 yX10_damageTold wsX10_damageTold) := goodIn_app (goodIn_of _ (by decide +kernel)) ggX11_damage_X10_damageTold
set_option maxRecDepth 20000 in
theorem ggX11_damage_X11_answer : GoodIn wsX11_damage wsX11_answer := goodIn_r _ [104, 42, 105, 106, 107, 108, 109, 110, 111, 112, 113, 114, 115] (by decide +kernel) (by decide +kernel)
set_option maxRecDepth 20000 in
theorem gX11_damage_X11_answer : GoodIn wsX11_damage (wsV RX11 71 RX11 yX11_answer wsX11_answer) := goodIn_app (goodIn_of _ (by decide +kernel)) ggX11_damage_X11_answer
theorem dX11_damage_0 : decode cX11_damage 0 = .ok (.aload_n 0, 1) := by decide +kernel
theorem dX11_damage_1 : decode cX11_damage 1 = .ok (.iload_n 1, 1) := by decide +kernel
theorem dX11_damage_2 : decode cX11_damage 2 = .ok (.invokevirtual 144, 3) := by decide +kernel
theorem dX11_damage_5 : decode cX11_damage 5 = .ok (.astore_n 3, 1) := by decide +kernel
theorem dX11_damage_6 : decode cX11_damage 6 = .ok (.aload_n 3, 1) := by decide +kernel
theorem dX11_damage_7 : decode cX11_damage 7 = .ok (.ifnull 10, 3) := by decide +kernel
theorem dX11_damage_10 : decode cX11_damage 10 = .ok (.iload_n 2, 1) := by decide +kernel
theorem dX11_damage_11 : decode cX11_damage 11 = .ok (.invokestatic 148, 3) := by decide +kernel
theorem dX11_damage_14 : decode cX11_damage 14 = .ok (.ifCond .ne 17, 3) := by decide +kernel
theorem dX11_damage_17 : decode cX11_damage 17 = .ok (.aload_n 0, 1) := by decide +kernel
theorem dX11_damage_18 : decode cX11_damage 18 = .ok (.aload_n 3, 1) := by decide +kernel
theorem dX11_damage_19 : decode cX11_damage 19 = .ok (.ifnull 7, 3) := by decide +kernel
theorem dX11_damage_22 : decode cX11_damage 22 = .ok (.iconst 1, 1) := by decide +kernel
theorem dX11_damage_23 : decode cX11_damage 23 = .ok (.goto 4, 3) := by decide +kernel
theorem dX11_damage_26 : decode cX11_damage 26 = .ok (.iconst 0, 1) := by decide +kernel
theorem dX11_damage_27 : decode cX11_damage 27 = .ok (.invokevirtual 152, 3) := by decide +kernel
theorem dX11_damage_30 : decode cX11_damage 30 = .ok (.ireturn, 1) := by decide +kernel
theorem dX11_damage_31 : decode cX11_damage 31 = .ok (.aload_n 3, 1) := by decide +kernel
theorem dX11_damage_32 : decode cX11_damage 32 = .ok (.iload_n 2, 1) := by decide +kernel
theorem dX11_damage_33 : decode cX11_damage 33 = .ok (.invokevirtual 162, 3) := by decide +kernel
theorem dX11_damage_36 : decode cX11_damage 36 = .ok (.ifnonnull 9, 3) := by decide +kernel
theorem dX11_damage_39 : decode cX11_damage 39 = .ok (.aload_n 0, 1) := by decide +kernel
theorem dX11_damage_40 : decode cX11_damage 40 = .ok (.iconst 1, 1) := by decide +kernel
theorem dX11_damage_41 : decode cX11_damage 41 = .ok (.invokevirtual 59, 3) := by decide +kernel
theorem dX11_damage_44 : decode cX11_damage 44 = .ok (.ireturn, 1) := by decide +kernel
theorem dX11_damage_45 : decode cX11_damage 45 = .ok (.aload_n 0, 1) := by decide +kernel
theorem dX11_damage_46 : decode cX11_damage 46 = .ok (.aload_n 3, 1) := by decide +kernel
theorem dX11_damage_47 : decode cX11_damage 47 = .ok (.aload_n 3, 1) := by decide +kernel
theorem dX11_damage_48 : decode cX11_damage 48 = .ok (.iload_n 2, 1) := by decide +kernel
theorem dX11_damage_49 : decode cX11_damage 49 = .ok (.invokevirtual 271, 3) := by decide +kernel
theorem dX11_damage_52 : decode cX11_damage 52 = .ok (.invokevirtual 285, 3) := by decide +kernel
theorem dX11_damage_55 : decode cX11_damage 55 = .ok (.invokevirtual 71, 3) := by decide +kernel
theorem dX11_damage_58 : decode cX11_damage 58 = .ok (.ireturn, 1) := by decide +kernel
set_option maxRecDepth 20000 in
theorem ggX11_bearer_X11_thingAt : GoodIn wsX11_bearer wsX11_thingAt := goodIn_r _ [5, 6, 7, 8, 9, 10, 11, 12, 13, 14, 15, 16, 17, 18, 19, 20, 21, 22, 23, 24, 25, 26, 27, 28, 29, 30, 115, 116, 117, 118, 119, 120, 121, 122, 123, 124, 125, 126, 127, 128] (by decide +kernel) (by decide +kernel)
set_option maxRecDepth 20000 in
theorem gX11_bearer_X11_thingAt : GoodIn wsX11_bearer (wsV RX11 144 RX11 yX11_thingAt wsX11_thingAt) := goodIn_app (goodIn_of _ (by decide +kernel)) ggX11_bearer_X11_thingAt
set_option maxRecDepth 20000 in
theorem ggX11_bearer_X11_isDay : GoodIn wsX11_bearer wsX11_isDay := goodIn_r _ [33] (by decide +kernel) (by decide +kernel)
set_option maxRecDepth 20000 in
theorem gX11_bearer_X11_isDay : GoodIn wsX11_bearer (va_wsS RX11 148 yX11_isDay wsX11_isDay) := goodIn_app (goodIn_of _ (by decide +kernel)) ggX11_bearer_X11_isDay
set_option maxRecDepth 20000 in
theorem ggX11_bearer_X11_refuseAsked : GoodIn wsX11_bearer wsX11_refuseAsked := goodIn_r _ [37, 38, 39, 40, 4, 41, 42, 115, 116, 117, 118, 119, 120, 121, 122, 123, 124, 125] (by decide +kernel) (by decide +kernel)
set_option maxRecDepth 20000 in
theorem gX11_bearer_X11_refuseAsked : GoodIn wsX11_bearer (wsV RX11 152 RX11 yX11_refuseAsked wsX11_refuseAsked) := goodIn_app (goodIn_of _ (by decide +kernel)) ggX11_bearer_X11_refuseAsked
set_option maxRecDepth 20000 in
theorem ggX11_bearer_X10_reportOn : GoodIn wsX11_bearer wsX10_reportOn := goodIn_r _ [47, 48, 49, 50, 51, 46, 52, 53, 54, 55, 9, 10, 11, 12, 13, 56, 15, 16, 17, 18, 19, 20, 21, 22, 23, 24, 25, 26, 27, 28, 29, 30, 57, 58, 59, 60, 129, 130, 131, 132, 133, 134, 135, 136, 137, 138, 139, 140, 141, 126, 127, 128] (by decide +kernel) (by decide +kernel)
set_option maxRecDepth 20000 in
theorem gX11_bearer_X10_reportOn : GoodIn wsX11_bearer (wsV RX11 162 RX10 yX10_reportOn wsX10_reportOn) := goodIn_app (goodIn_of _ (by decide +kernel)) ggX11_bearer_X10_reportOn
set_option maxRecDepth 20000 in
theorem ggX11_bearer_X11_refuse : GoodIn wsX11_bearer wsX11_refuse := goodIn_r _ [41, 42, 115, 116, 117, 118, 119, 120, 121, 122, 123, 124, 125] (by decide +kernel) (by decide +kernel)
set_option maxRecDepth 20000 in
theorem gX11_bearer_X11_refuse : GoodIn wsX11_bearer (wsV RX11 59 RX11 yX11_refuse wsX11_refuse) := goodIn_app (goodIn_of _ (by decide +kernel)) ggX11_bearer_X11_refuse
set_option maxRecDepth 20000 in
theorem ggX11_bearer_X10_latestReport : GoodIn wsX11_bearer wsX10_latestReport := goodIn_r _ [52, 53, 54, 48, 55, 9, 10, 11, 12, 13, 56, 15, 16, 17, 18, 19, 20, 21, 22, 23, 24, 25, 26, 27, 28, 29, 30, 133, 134, 135, 136, 137, 138, 139, 140, 141, 129, 130, 131, 132, 126, 127, 128] (by decide +kernel) (by decide +kernel)
set_option maxRecDepth 20000 in
theorem gX11_bearer_X10_latestReport : GoodIn wsX11_bearer (wsV RX11 271 RX10 yX10_latestReport wsX10_latestReport) := goodIn_app (goodIn_of _ (by decide +kernel)) ggX11_bearer_X10_latestReport
set_option maxRecDepth 20000 in
theorem ggX11_bearer_X11_bearerOf : GoodIn wsX11_bearer wsX11_bearerOf := goodIn_r _ [65, 66, 67, 68, 69, 70, 71, 72, 58, 59, 46, 60, 53, 54, 55, 9, 10, 11, 12, 13, 56, 15, 16, 17, 18, 19, 20, 21, 22, 23, 24, 25, 26, 27, 28, 29, 30, 8, 14, 73, 74, 75, 76, 77, 78, 79, 80, 81, 82, 83, 84, 85, 86, 87, 88, 89, 90, 91, 92, 93, 94, 95, 96, 97, 98, 99, 100, 101, 102, 103, 104, 105, 106, 107, 108, 109, 110, 115, 116, 117, 118, 119, 120, 121, 122, 123, 124, 125, 142, 143, 144, 145, 146, 133, 134, 135, 136, 137, 138, 139, 140, 141, 129, 130, 131, 132, 126, 127, 128, 147, 148, 149, 150, 151, 152, 153, 154, 155] (by decide +kernel) (by decide +kernel)
set_option maxRecDepth 20000 in
theorem gX11_bearer_X11_bearerOf : GoodIn wsX11_bearer (wsV RX11 288 RX11 yX11_bearerOf wsX11_bearerOf) := goodIn_app (goodIn_of _ (by decide +kernel)) ggX11_bearer_X11_bearerOf
set_option maxRecDepth 20000 in
theorem ggX11_bearer_X11_answer : GoodIn wsX11_bearer wsX11_answer := goodIn_r _ [114, 42, 115, 116, 117, 118, 119, 120, 121, 122, 123, 124, 125] (by decide +kernel) (by decide +kernel)
set_option maxRecDepth 20000 in
theorem gX11_bearer_X11_answer : GoodIn wsX11_bearer (wsV RX11 71 RX11 yX11_answer wsX11_answer) := goodIn_app (goodIn_of _ (by decide +kernel)) ggX11_bearer_X11_answer
theorem dX11_bearer_0 : decode cX11_bearer 0 = .ok (.aload_n 0, 1) := by decide +kernel
theorem dX11_bearer_1 : decode cX11_bearer 1 = .ok (.iload_n 1, 1) := by decide +kernel
theorem dX11_bearer_2 : decode cX11_bearer 2 = .ok (.invokevirtual 144, 3) := by decide +kernel
theorem dX11_bearer_5 : decode cX11_bearer 5 = .ok (.astore_n 3, 1) := by decide +kernel
theorem dX11_bearer_6 : decode cX11_bearer 6 = .ok (.aload_n 3, 1) := by decide +kernel
theorem dX11_bearer_7 : decode cX11_bearer 7 = .ok (.ifnull 10, 3) := by decide +kernel
theorem dX11_bearer_10 : decode cX11_bearer 10 = .ok (.iload_n 2, 1) := by decide +kernel
theorem dX11_bearer_11 : decode cX11_bearer 11 = .ok (.invokestatic 148, 3) := by decide +kernel
theorem dX11_bearer_14 : decode cX11_bearer 14 = .ok (.ifCond .ne 17, 3) := by decide +kernel
theorem dX11_bearer_17 : decode cX11_bearer 17 = .ok (.aload_n 0, 1) := by decide +kernel
theorem dX11_bearer_18 : decode cX11_bearer 18 = .ok (.aload_n 3, 1) := by decide +kernel
theorem dX11_bearer_19 : decode cX11_bearer 19 = .ok (.ifnull 7, 3) := by decide +kernel
theorem dX11_bearer_22 : decode cX11_bearer 22 = .ok (.iconst 1, 1) := by decide +kernel
theorem dX11_bearer_23 : decode cX11_bearer 23 = .ok (.goto 4, 3) := by decide +kernel
theorem dX11_bearer_26 : decode cX11_bearer 26 = .ok (.iconst 0, 1) := by decide +kernel
theorem dX11_bearer_27 : decode cX11_bearer 27 = .ok (.invokevirtual 152, 3) := by decide +kernel
theorem dX11_bearer_30 : decode cX11_bearer 30 = .ok (.ireturn, 1) := by decide +kernel
theorem dX11_bearer_31 : decode cX11_bearer 31 = .ok (.aload_n 3, 1) := by decide +kernel
theorem dX11_bearer_32 : decode cX11_bearer 32 = .ok (.iload_n 2, 1) := by decide +kernel
theorem dX11_bearer_33 : decode cX11_bearer 33 = .ok (.invokevirtual 162, 3) := by decide +kernel
theorem dX11_bearer_36 : decode cX11_bearer 36 = .ok (.ifnonnull 9, 3) := by decide +kernel
theorem dX11_bearer_39 : decode cX11_bearer 39 = .ok (.aload_n 0, 1) := by decide +kernel
theorem dX11_bearer_40 : decode cX11_bearer 40 = .ok (.iconst 1, 1) := by decide +kernel
theorem dX11_bearer_41 : decode cX11_bearer 41 = .ok (.invokevirtual 59, 3) := by decide +kernel
theorem dX11_bearer_44 : decode cX11_bearer 44 = .ok (.ireturn, 1) := by decide +kernel
theorem dX11_bearer_45 : decode cX11_bearer 45 = .ok (.aload_n 0, 1) := by decide +kernel
theorem dX11_bearer_46 : decode cX11_bearer 46 = .ok (.aload_n 0, 1) := by decide +kernel
theorem dX11_bearer_47 : decode cX11_bearer 47 = .ok (.aload_n 3, 1) := by decide +kernel
theorem dX11_bearer_48 : decode cX11_bearer 48 = .ok (.aload_n 3, 1) := by decide +kernel
theorem dX11_bearer_49 : decode cX11_bearer 49 = .ok (.iload_n 2, 1) := by decide +kernel
theorem dX11_bearer_50 : decode cX11_bearer 50 = .ok (.invokevirtual 271, 3) := by decide +kernel
theorem dX11_bearer_53 : decode cX11_bearer 53 = .ok (.invokevirtual 288, 3) := by decide +kernel
theorem dX11_bearer_56 : decode cX11_bearer 56 = .ok (.invokevirtual 71, 3) := by decide +kernel
theorem dX11_bearer_59 : decode cX11_bearer 59 = .ok (.ireturn, 1) := by decide +kernel
set_option maxRecDepth 20000 in
theorem ggX11_charge_X11_standingLoanAt : GoodIn wsX11_charge wsX11_standingLoanAt := goodIn_r _ [5, 6, 7, 8, 9, 10, 11, 12, 13, 14, 15, 16, 17, 18, 19, 20, 21, 22, 23, 24, 25, 26, 27, 28, 29, 30, 31, 144, 145, 146, 147, 148, 149, 150, 151, 152, 153, 154, 155, 156, 157, 158, 159, 160, 161, 162] (by decide +kernel) (by decide +kernel)
set_option maxRecDepth 20000 in
theorem gX11_charge_X11_standingLoanAt : GoodIn wsX11_charge (wsV RX11 189 RX11 yX11_standingLoanAt wsX11_standingLoanAt) := goodIn_app (goodIn_of _ (by decide +kernel)) ggX11_charge_X11_standingLoanAt
set_option maxRecDepth 20000 in
theorem ggX11_charge_X11_refuse : GoodIn wsX11_charge wsX11_refuse := goodIn_r _ [35, 36, 144, 145, 146, 147, 148, 149, 150, 151, 152, 153, 154] (by decide +kernel) (by decide +kernel)
set_option maxRecDepth 20000 in
theorem gX11_charge_X11_refuse : GoodIn wsX11_charge (wsV RX11 59 RX11 yX11_refuse wsX11_refuse) := goodIn_app (goodIn_of _ (by decide +kernel)) ggX11_charge_X11_refuse
set_option maxRecDepth 20000 in
theorem ggX11_charge_X11_damagesBorneBy : GoodIn wsX11_charge wsX11_damagesBorneBy := goodIn_r _ [40, 41, 42, 43, 9, 10, 11, 12, 13, 14, 15, 16, 17, 18, 19, 20, 21, 22, 23, 24, 25, 26, 27, 28, 29, 30, 31, 44, 45, 46, 47, 48, 49, 50, 51, 52, 53, 4, 54, 6, 7, 8, 55, 56, 57, 58, 59, 60, 61, 62, 63, 64, 65, 66, 67, 68, 69, 70, 71, 72, 73, 74, 75, 76, 77, 78, 79, 80, 81, 82, 83, 84, 85, 86, 87, 88, 89, 90, 91, 92, 93, 94, 95, 96, 97, 98, 99, 100, 101, 102, 103, 104, 105, 106, 107, 108, 109, 110, 111, 112, 113, 114, 115, 116, 117, 118, 119, 120, 121, 122, 123, 124, 125, 126, 127, 128, 129, 130, 131, 132, 133, 134, 135, 136, 137, 138, 139, 144, 145, 146, 147, 148, 149, 150, 151, 152, 153, 154, 160, 161, 162, 163, 164, 165, 166, 167, 168, 169, 170, 171, 155, 156, 157, 158, 159, 172, 173, 174, 175, 176, 177, 178, 179, 180, 181, 182, 183, 184, 185, 186, 187] (by decide +kernel) (by decide +kernel)
set_option maxRecDepth 20000 in
theorem gX11_charge_X11_damagesBorneBy : GoodIn wsX11_charge (wsV RX11 292 RX11 yX11_damagesBorneBy wsX11_damagesBorneBy) := goodIn_app (goodIn_of _ (by decide +kernel)) ggX11_charge_X11_damagesBorneBy
set_option maxRecDepth 20000 in
theorem ggX11_charge_X11_answer : GoodIn wsX11_charge wsX11_answer := goodIn_r _ [143, 36, 144, 145, 146, 147, 148, 149, 150, 151, 152, 153, 154] (by decide +kernel) (by decide +kernel)
set_option maxRecDepth 20000 in
theorem gX11_charge_X11_answer : GoodIn wsX11_charge (wsV RX11 71 RX11 yX11_answer wsX11_answer) := goodIn_app (goodIn_of _ (by decide +kernel)) ggX11_charge_X11_answer
theorem dX11_charge_0 : decode cX11_charge 0 = .ok (.aload_n 0, 1) := by decide +kernel
theorem dX11_charge_1 : decode cX11_charge 1 = .ok (.iload_n 1, 1) := by decide +kernel
theorem dX11_charge_2 : decode cX11_charge 2 = .ok (.invokevirtual 189, 3) := by decide +kernel
theorem dX11_charge_5 : decode cX11_charge 5 = .ok (.ifnonnull 9, 3) := by decide +kernel
theorem dX11_charge_8 : decode cX11_charge 8 = .ok (.aload_n 0, 1) := by decide +kernel
theorem dX11_charge_9 : decode cX11_charge 9 = .ok (.iconst 1, 1) := by decide +kernel
theorem dX11_charge_10 : decode cX11_charge 10 = .ok (.invokevirtual 59, 3) := by decide +kernel
theorem dX11_charge_13 : decode cX11_charge 13 = .ok (.ireturn, 1) := by decide +kernel
theorem dX11_charge_14 : decode cX11_charge 14 = .ok (.aload_n 0, 1) := by decide +kernel
theorem dX11_charge_15 : decode cX11_charge 15 = .ok (.aload_n 0, 1) := by decide +kernel
theorem dX11_charge_16 : decode cX11_charge 16 = .ok (.iload_n 1, 1) := by decide +kernel
theorem dX11_charge_17 : decode cX11_charge 17 = .ok (.invokevirtual 292, 3) := by decide +kernel
theorem dX11_charge_20 : decode cX11_charge 20 = .ok (.invokevirtual 71, 3) := by decide +kernel
theorem dX11_charge_23 : decode cX11_charge 23 = .ok (.ireturn, 1) := by decide +kernel
set_option maxRecDepth 20000 in
theorem ggX11_home_X11_damagesBorneBy : GoodIn wsX11_home wsX11_damagesBorneBy := goodIn_r _ [5, 6, 7, 8, 9, 10, 11, 12, 13, 14, 15, 16, 17, 18, 19, 20, 21, 22, 23, 24, 25, 26, 27, 28, 29, 30, 31, 32, 33, 34, 35, 36, 37, 38, 39, 40, 41, 4, 42, 43, 44, 45, 46, 47, 48, 49, 50, 51, 52, 53, 54, 55, 56, 57, 58, 59, 60, 61, 62, 63, 64, 65, 66, 67, 68, 69, 70, 71, 72, 73, 74, 75, 76, 77, 78, 79, 80, 81, 82, 83, 84, 85, 86, 87, 88, 89, 90, 91, 92, 93, 94, 95, 96, 97, 98, 99, 100, 101, 102, 103, 104, 105, 106, 107, 108, 109, 110, 111, 112, 113, 114, 115, 116, 117, 118, 119, 120, 121, 122, 123, 124, 125, 126, 127, 128, 129, 130, 131, 132, 133, 134, 135, 136, 137, 138, 139, 140, 141, 142, 143, 144, 145, 146, 147, 148, 149, 150, 151, 152, 153, 154, 155, 156, 157, 158, 159, 160, 161, 162, 163, 164, 165, 166, 167, 168, 169, 170, 171, 172, 173, 174] (by decide +kernel) (by decide +kernel)
set_option maxRecDepth 20000 in
theorem gX11_home_X11_damagesBorneBy : GoodIn wsX11_home (wsV RX11 292 RX11 yX11_damagesBorneBy wsX11_damagesBorneBy) := goodIn_app (goodIn_of _ (by decide +kernel)) ggX11_home_X11_damagesBorneBy
theorem dX11_home_0 : decode cX11_home 0 = .ok (.aload_n 0, 1) := by decide +kernel
theorem dX11_home_1 : decode cX11_home 1 = .ok (.iconst (-1), 1) := by decide +kernel
theorem dX11_home_2 : decode cX11_home 2 = .ok (.invokevirtual 292, 3) := by decide +kernel
theorem dX11_home_5 : decode cX11_home 5 = .ok (.ireturn, 1) := by decide +kernel
set_option maxRecDepth 20000 in
theorem ggX11_letter_X11_refuse : GoodIn wsX11_letter wsX11_refuse := goodIn_r _ [5, 6, 109, 110, 111, 112, 113, 114, 115, 116, 117, 118, 119] (by decide +kernel) (by decide +kernel)
set_option maxRecDepth 20000 in
theorem gX11_letter_X11_refuse : GoodIn wsX11_letter (wsV RX11 59 RX11 yX11_refuse wsX11_refuse) := goodIn_app (goodIn_of _ (by decide +kernel)) ggX11_letter_X11_refuse
set_option maxRecDepth 20000 in
theorem ggX11_letter_X11_writingOf : GoodIn wsX11_letter wsX11_writingOf := goodIn_r _ [10, 11, 12, 13, 14, 15, 16, 4, 17, 18, 19, 20, 21, 22, 23, 24, 25, 26, 27, 28, 29, 30, 31, 32, 33, 34, 35, 36, 37, 38, 39, 40, 41, 42, 43, 44, 45, 46, 47, 48, 49, 50, 51, 52, 53, 54, 120, 121, 122, 123, 124, 125, 126, 127, 128, 129, 130, 131, 132, 133, 134, 135, 136, 109, 110, 111, 112, 113, 114, 115, 116, 117, 118, 119, 137, 138, 139] (by decide +kernel) (by decide +kernel)
set_option maxRecDepth 20000 in
theorem gX11_letter_X11_writingOf : GoodIn wsX11_letter (wsV RX11 295 RX11 yX11_writingOf wsX11_writingOf) := goodIn_app (goodIn_of _ (by decide +kernel)) ggX11_letter_X11_writingOf
set_option maxRecDepth 20000 in
theorem ggX11_letter_X11_answerByte : GoodIn wsX11_letter wsX11_answerByte := goodIn_r _ [58, 59, 60, 61, 62, 63, 64, 65, 66, 67, 68, 69, 70, 1, 2, 3, 4, 5, 6, 71, 72, 73, 74, 75, 76, 77, 78, 79, 80, 81, 82, 83, 84, 85, 86, 87, 35, 36, 37, 88, 89, 90, 91, 92, 93, 94, 95, 96, 97, 98, 99, 100, 101, 102, 103, 104, 105, 106, 107, 108, 140, 141, 142, 143, 109, 110, 111, 112, 113, 114, 115, 116, 117, 118, 119] (by decide +kernel) (by decide +kernel)
set_option maxRecDepth 20000 in
theorem gX11_letter_X11_answerByte : GoodIn wsX11_letter (wsV RX11 281 RX11 yX11_answerByte wsX11_answerByte) := goodIn_app (goodIn_of _ (by decide +kernel)) ggX11_letter_X11_answerByte
theorem dX11_letter_0 : decode cX11_letter 0 = .ok (.iload_n 1, 1) := by decide +kernel
theorem dX11_letter_1 : decode cX11_letter 1 = .ok (.ifCond .lt 8, 3) := by decide +kernel
theorem dX11_letter_4 : decode cX11_letter 4 = .ok (.iload_n 1, 1) := by decide +kernel
theorem dX11_letter_5 : decode cX11_letter 5 = .ok (.iconst 2, 1) := by decide +kernel
theorem dX11_letter_6 : decode cX11_letter 6 = .ok (.if_icmp .le 9, 3) := by decide +kernel
theorem dX11_letter_9 : decode cX11_letter 9 = .ok (.aload_n 0, 1) := by decide +kernel
theorem dX11_letter_10 : decode cX11_letter 10 = .ok (.iconst 3, 1) := by decide +kernel
theorem dX11_letter_11 : decode cX11_letter 11 = .ok (.invokevirtual 59, 3) := by decide +kernel
theorem dX11_letter_14 : decode cX11_letter 14 = .ok (.ireturn, 1) := by decide +kernel
theorem dX11_letter_15 : decode cX11_letter 15 = .ok (.aload_n 0, 1) := by decide +kernel
theorem dX11_letter_16 : decode cX11_letter 16 = .ok (.iload_n 1, 1) := by decide +kernel
theorem dX11_letter_17 : decode cX11_letter 17 = .ok (.iload_n 2, 1) := by decide +kernel
theorem dX11_letter_18 : decode cX11_letter 18 = .ok (.invokevirtual 295, 3) := by decide +kernel
theorem dX11_letter_21 : decode cX11_letter 21 = .ok (.astore 4, 2) := by decide +kernel
theorem dX11_letter_23 : decode cX11_letter 23 = .ok (.aload 4, 2) := by decide +kernel
theorem dX11_letter_25 : decode cX11_letter 25 = .ok (.ifnonnull 9, 3) := by decide +kernel
theorem dX11_letter_28 : decode cX11_letter 28 = .ok (.aload_n 0, 1) := by decide +kernel
theorem dX11_letter_29 : decode cX11_letter 29 = .ok (.iconst 1, 1) := by decide +kernel
theorem dX11_letter_30 : decode cX11_letter 30 = .ok (.invokevirtual 59, 3) := by decide +kernel
theorem dX11_letter_33 : decode cX11_letter 33 = .ok (.ireturn, 1) := by decide +kernel
theorem dX11_letter_34 : decode cX11_letter 34 = .ok (.aload_n 0, 1) := by decide +kernel
theorem dX11_letter_35 : decode cX11_letter 35 = .ok (.aload 4, 2) := by decide +kernel
theorem dX11_letter_37 : decode cX11_letter 37 = .ok (.iload_n 3, 1) := by decide +kernel
theorem dX11_letter_38 : decode cX11_letter 38 = .ok (.invokevirtual 281, 3) := by decide +kernel
theorem dX11_letter_41 : decode cX11_letter 41 = .ok (.ireturn, 1) := by decide +kernel
theorem dX11_status_0 : decode cX11_status 0 = .ok (.aload_n 0, 1) := by decide +kernel
theorem dX11_status_1 : decode cX11_status 1 = .ok (.getfield 52, 3) := by decide +kernel
theorem dX11_status_4 : decode cX11_status 4 = .ok (.ireturn, 1) := by decide +kernel
theorem dX11_answer_0 : decode cX11_answer 0 = .ok (.aload_n 0, 1) := by decide +kernel
theorem dX11_answer_1 : decode cX11_answer 1 = .ok (.iconst 0, 1) := by decide +kernel
theorem dX11_answer_2 : decode cX11_answer 2 = .ok (.putfield 52, 3) := by decide +kernel
theorem dX11_answer_5 : decode cX11_answer 5 = .ok (.iload_n 1, 1) := by decide +kernel
theorem dX11_answer_6 : decode cX11_answer 6 = .ok (.ireturn, 1) := by decide +kernel
theorem dX11_refuse_0 : decode cX11_refuse 0 = .ok (.aload_n 0, 1) := by decide +kernel
theorem dX11_refuse_1 : decode cX11_refuse 1 = .ok (.iload_n 1, 1) := by decide +kernel
theorem dX11_refuse_2 : decode cX11_refuse 2 = .ok (.putfield 52, 3) := by decide +kernel
theorem dX11_refuse_5 : decode cX11_refuse 5 = .ok (.sipush (-9999), 3) := by decide +kernel
theorem dX11_refuse_8 : decode cX11_refuse 8 = .ok (.ireturn, 1) := by decide +kernel
set_option maxRecDepth 20000 in
theorem ggX11_refuseAsked_X11_refuse : GoodIn wsX11_refuseAsked wsX11_refuse := goodIn_r _ [5, 6, 7, 8, 9, 10, 11, 12, 13, 14, 15, 16, 17] (by decide +kernel) (by decide +kernel)
set_option maxRecDepth 20000 in
theorem gX11_refuseAsked_X11_refuse : GoodIn wsX11_refuseAsked (wsV RX11 59 RX11 yX11_refuse wsX11_refuse) := goodIn_app (goodIn_of _ (by decide +kernel)) ggX11_refuseAsked_X11_refuse
theorem dX11_refuseAsked_0 : decode cX11_refuseAsked 0 = .ok (.aload_n 0, 1) := by decide +kernel
theorem dX11_refuseAsked_1 : decode cX11_refuseAsked 1 = .ok (.iload_n 1, 1) := by decide +kernel
theorem dX11_refuseAsked_2 : decode cX11_refuseAsked 2 = .ok (.ifCond .eq 7, 3) := by decide +kernel
theorem dX11_refuseAsked_5 : decode cX11_refuseAsked 5 = .ok (.iconst 3, 1) := by decide +kernel
theorem dX11_refuseAsked_6 : decode cX11_refuseAsked 6 = .ok (.goto 4, 3) := by decide +kernel
theorem dX11_refuseAsked_9 : decode cX11_refuseAsked 9 = .ok (.iconst 1, 1) := by decide +kernel
theorem dX11_refuseAsked_10 : decode cX11_refuseAsked 10 = .ok (.invokevirtual 59, 3) := by decide +kernel
theorem dX11_refuseAsked_13 : decode cX11_refuseAsked 13 = .ok (.ireturn, 1) := by decide +kernel
set_option maxRecDepth 20000 in
theorem ggX11_answerByte_J0_length_8abf5 : GoodIn wsX11_answerByte wsJ0_length_8abf5 := goodIn_r _ [5, 6, 7, 8, 9, 4, 10, 11, 12, 60, 61, 62, 63] (by decide +kernel) (by decide +kernel)
set_option maxRecDepth 20000 in
theorem gX11_answerByte_J0_length_8abf5 : GoodIn wsX11_answerByte (wsV RX11 299 RJ0 yJ0_length_8abf5 wsJ0_length_8abf5) := goodIn_app (goodIn_of _ (by decide +kernel)) ggX11_answerByte_J0_length_8abf5
set_option maxRecDepth 20000 in
theorem ggX11_answerByte_X11_refuse : GoodIn wsX11_answerByte wsX11_refuse := goodIn_r _ [17, 18, 64, 65, 66, 67, 68, 69, 70, 71, 72, 73, 74] (by decide +kernel) (by decide +kernel)
set_option maxRecDepth 20000 in
theorem gX11_answerByte_X11_refuse : GoodIn wsX11_answerByte (wsV RX11 59 RX11 yX11_refuse wsX11_refuse) := goodIn_app (goodIn_of _ (by decide +kernel)) ggX11_answerByte_X11_refuse
set_option maxRecDepth 20000 in
theorem ggX11_answerByte_J0_charAt_5068e : GoodIn wsX11_answerByte wsJ0_charAt_5068e := goodIn_r _ [22, 6, 23, 24, 25, 4, 26, 11, 12, 27, 28, 29, 30, 31, 32, 33, 34, 35, 36, 37, 38, 39, 40, 41, 42, 43, 44, 45, 46, 47, 48, 49, 50, 51, 52, 53, 54, 55, 60, 61, 62, 63] (by decide +kernel) (by decide +kernel)
set_option maxRecDepth 20000 in
theorem gX11_answerByte_J0_charAt_5068e : GoodIn wsX11_answerByte (wsV RX11 304 RJ0 yJ0_charAt_5068e wsJ0_charAt_5068e) := goodIn_app (goodIn_of _ (by decide +kernel)) ggX11_answerByte_J0_charAt_5068e
set_option maxRecDepth 20000 in
theorem ggX11_answerByte_X11_answer : GoodIn wsX11_answerByte wsX11_answer := goodIn_r _ [59, 18, 64, 65, 66, 67, 68, 69, 70, 71, 72, 73, 74] (by decide +kernel) (by decide +kernel)
set_option maxRecDepth 20000 in
theorem gX11_answerByte_X11_answer : GoodIn wsX11_answerByte (wsV RX11 71 RX11 yX11_answer wsX11_answer) := goodIn_app (goodIn_of _ (by decide +kernel)) ggX11_answerByte_X11_answer
theorem dX11_answerByte_0 : decode cX11_answerByte 0 = .ok (.iload_n 2, 1) := by decide +kernel
theorem dX11_answerByte_1 : decode cX11_answerByte 1 = .ok (.ifCond .lt 11, 3) := by decide +kernel
theorem dX11_answerByte_4 : decode cX11_answerByte 4 = .ok (.iload_n 2, 1) := by decide +kernel
theorem dX11_answerByte_5 : decode cX11_answerByte 5 = .ok (.aload_n 1, 1) := by decide +kernel
theorem dX11_answerByte_6 : decode cX11_answerByte 6 = .ok (.invokevirtual 299, 3) := by decide +kernel
theorem dX11_answerByte_9 : decode cX11_answerByte 9 = .ok (.if_icmp .lt 9, 3) := by decide +kernel
theorem dX11_answerByte_12 : decode cX11_answerByte 12 = .ok (.aload_n 0, 1) := by decide +kernel
theorem dX11_answerByte_13 : decode cX11_answerByte 13 = .ok (.iconst 1, 1) := by decide +kernel
theorem dX11_answerByte_14 : decode cX11_answerByte 14 = .ok (.invokevirtual 59, 3) := by decide +kernel
theorem dX11_answerByte_17 : decode cX11_answerByte 17 = .ok (.ireturn, 1) := by decide +kernel
theorem dX11_answerByte_18 : decode cX11_answerByte 18 = .ok (.aload_n 0, 1) := by decide +kernel
theorem dX11_answerByte_19 : decode cX11_answerByte 19 = .ok (.aload_n 1, 1) := by decide +kernel
theorem dX11_answerByte_20 : decode cX11_answerByte 20 = .ok (.iload_n 2, 1) := by decide +kernel
theorem dX11_answerByte_21 : decode cX11_answerByte 21 = .ok (.invokevirtual 304, 3) := by decide +kernel
theorem dX11_answerByte_24 : decode cX11_answerByte 24 = .ok (.invokevirtual 71, 3) := by decide +kernel
theorem dX11_answerByte_27 : decode cX11_answerByte 27 = .ok (.ireturn, 1) := by decide +kernel
theorem dX11_refusalOfText_0 : decode cX11_refusalOfText 0 = .ok (.aload_n 0, 1) := by decide +kernel
theorem dX11_refusalOfText_1 : decode cX11_refusalOfText 1 = .ok (.iload_n 2, 1) := by decide +kernel
theorem dX11_refusalOfText_2 : decode cX11_refusalOfText 2 = .ok (.putfield 49, 3) := by decide +kernel
theorem dX11_refusalOfText_5 : decode cX11_refusalOfText 5 = .ok (.iload_n 1, 1) := by decide +kernel
theorem dX11_refusalOfText_6 : decode cX11_refusalOfText 6 = .ok (.ifCond .ne 5, 3) := by decide +kernel
theorem dX11_refusalOfText_9 : decode cX11_refusalOfText 9 = .ok (.iconst 2, 1) := by decide +kernel
theorem dX11_refusalOfText_10 : decode cX11_refusalOfText 10 = .ok (.ireturn, 1) := by decide +kernel
theorem dX11_refusalOfText_11 : decode cX11_refusalOfText 11 = .ok (.iload_n 2, 1) := by decide +kernel
theorem dX11_refusalOfText_12 : decode cX11_refusalOfText 12 = .ok (.ifCond .eq 5, 3) := by decide +kernel
theorem dX11_refusalOfText_15 : decode cX11_refusalOfText 15 = .ok (.iconst 4, 1) := by decide +kernel
theorem dX11_refusalOfText_16 : decode cX11_refusalOfText 16 = .ok (.ireturn, 1) := by decide +kernel
theorem dX11_refusalOfText_17 : decode cX11_refusalOfText 17 = .ok (.iload_n 3, 1) := by decide +kernel
theorem dX11_refusalOfText_18 : decode cX11_refusalOfText 18 = .ok (.ifCond .eq 7, 3) := by decide +kernel
theorem dX11_refusalOfText_21 : decode cX11_refusalOfText 21 = .ok (.iconst 0, 1) := by decide +kernel
theorem dX11_refusalOfText_22 : decode cX11_refusalOfText 22 = .ok (.goto 5, 3) := by decide +kernel
theorem dX11_refusalOfText_25 : decode cX11_refusalOfText 25 = .ok (.bipush 9, 2) := by decide +kernel
theorem dX11_refusalOfText_27 : decode cX11_refusalOfText 27 = .ok (.ireturn, 1) := by decide +kernel
theorem dX11_isDay_0 : decode cX11_isDay 0 = .ok (.iload_n 0, 1) := by decide +kernel
theorem dX11_isDay_1 : decode cX11_isDay 1 = .ok (.ifCond .lt 14, 3) := by decide +kernel
theorem dX11_isDay_4 : decode cX11_isDay 4 = .ok (.iload_n 0, 1) := by decide +kernel
theorem dX11_isDay_5 : decode cX11_isDay 5 = .ok (.sipush 1000, 3) := by decide +kernel
theorem dX11_isDay_8 : decode cX11_isDay 8 = .ok (.if_icmp .ge 7, 3) := by decide +kernel
theorem dX11_isDay_11 : decode cX11_isDay 11 = .ok (.iconst 1, 1) := by decide +kernel
theorem dX11_isDay_12 : decode cX11_isDay 12 = .ok (.goto 4, 3) := by decide +kernel
theorem dX11_isDay_15 : decode cX11_isDay 15 = .ok (.iconst 0, 1) := by decide +kernel
theorem dX11_isDay_16 : decode cX11_isDay 16 = .ok (.ireturn, 1) := by decide +kernel
theorem dX11_isLength_0 : decode cX11_isLength 0 = .ok (.iload_n 0, 1) := by decide +kernel
theorem dX11_isLength_1 : decode cX11_isLength 1 = .ok (.iconst 1, 1) := by decide +kernel
theorem dX11_isLength_2 : decode cX11_isLength 2 = .ok (.if_icmp .lt 14, 3) := by decide +kernel
theorem dX11_isLength_5 : decode cX11_isLength 5 = .ok (.iload_n 0, 1) := by decide +kernel
theorem dX11_isLength_6 : decode cX11_isLength 6 = .ok (.sipush 1000, 3) := by decide +kernel
theorem dX11_isLength_9 : decode cX11_isLength 9 = .ok (.if_icmp .gt 7, 3) := by decide +kernel
theorem dX11_isLength_12 : decode cX11_isLength 12 = .ok (.iconst 1, 1) := by decide +kernel
theorem dX11_isLength_13 : decode cX11_isLength 13 = .ok (.goto 4, 3) := by decide +kernel
theorem dX11_isLength_16 : decode cX11_isLength 16 = .ok (.iconst 0, 1) := by decide +kernel
theorem dX11_isLength_17 : decode cX11_isLength 17 = .ok (.ireturn, 1) := by decide +kernel
set_option maxRecDepth 20000 in
theorem ggX11_thingAt_Jx4a65c_size_8abf5 : GoodIn wsX11_thingAt wsJx4a65c_size_8abf5 := goodIn_r _ [7, 8, 37, 38, 39] (by decide +kernel) (by decide +kernel)
set_option maxRecDepth 20000 in
theorem gX11_thingAt_Jx4a65c_size_8abf5 : GoodIn wsX11_thingAt (wsV RX11 90 RJx4a65c yJx4a65c_size_8abf5 wsJx4a65c_size_8abf5) := goodIn_app (goodIn_of _ (by decide +kernel)) ggX11_thingAt_Jx4a65c_size_8abf5
set_option maxRecDepth 20000 in
theorem ggX11_thingAt_Jx4a65c_get_915e3 : GoodIn wsX11_thingAt wsJx4a65c_get_915e3 := goodIn_r _ [12, 8, 13, 14, 15, 16, 17, 18, 19, 20, 21, 22, 23, 6, 24, 25, 37, 38, 39] (by decide +kernel) (by decide +kernel)
set_option maxRecDepth 20000 in
theorem gX11_thingAt_Jx4a65c_get_915e3 : GoodIn wsX11_thingAt (wsV RX11 308 RJx4a65c yJx4a65c_get_915e3 wsJx4a65c_get_915e3) := goodIn_app (goodIn_of _ (by decide +kernel)) ggX11_thingAt_Jx4a65c_get_915e3
theorem dX11_thingAt_0 : decode cX11_thingAt 0 = .ok (.iload_n 1, 1) := by decide +kernel
theorem dX11_thingAt_1 : decode cX11_thingAt 1 = .ok (.ifCond .lt 28, 3) := by decide +kernel
theorem dX11_thingAt_4 : decode cX11_thingAt 4 = .ok (.iload_n 1, 1) := by decide +kernel
theorem dX11_thingAt_5 : decode cX11_thingAt 5 = .ok (.aload_n 0, 1) := by decide +kernel
theorem dX11_thingAt_6 : decode cX11_thingAt 6 = .ok (.getfield 26, 3) := by decide +kernel
theorem dX11_thingAt_9 : decode cX11_thingAt 9 = .ok (.invokevirtual 90, 3) := by decide +kernel
theorem dX11_thingAt_12 : decode cX11_thingAt 12 = .ok (.if_icmp .ge 17, 3) := by decide +kernel
theorem dX11_thingAt_15 : decode cX11_thingAt 15 = .ok (.aload_n 0, 1) := by decide +kernel
theorem dX11_thingAt_16 : decode cX11_thingAt 16 = .ok (.getfield 26, 3) := by decide +kernel
theorem dX11_thingAt_19 : decode cX11_thingAt 19 = .ok (.iload_n 1, 1) := by decide +kernel
theorem dX11_thingAt_20 : decode cX11_thingAt 20 = .ok (.invokevirtual 308, 3) := by decide +kernel
theorem dX11_thingAt_23 : decode cX11_thingAt 23 = .ok (.checkcast 85, 3) := by decide +kernel
theorem dX11_thingAt_26 : decode cX11_thingAt 26 = .ok (.goto 4, 3) := by decide +kernel
theorem dX11_thingAt_29 : decode cX11_thingAt 29 = .ok (.aconst_null, 1) := by decide +kernel
theorem dX11_thingAt_30 : decode cX11_thingAt 30 = .ok (.areturn, 1) := by decide +kernel
set_option maxRecDepth 20000 in
theorem ggX11_houseAt_Jx4a65c_size_8abf5 : GoodIn wsX11_houseAt wsJx4a65c_size_8abf5 := goodIn_r _ [7, 8, 37, 38, 39] (by decide +kernel) (by decide +kernel)
set_option maxRecDepth 20000 in
theorem gX11_houseAt_Jx4a65c_size_8abf5 : GoodIn wsX11_houseAt (wsV RX11 90 RJx4a65c yJx4a65c_size_8abf5 wsJx4a65c_size_8abf5) := goodIn_app (goodIn_of _ (by decide +kernel)) ggX11_houseAt_Jx4a65c_size_8abf5
set_option maxRecDepth 20000 in
theorem ggX11_houseAt_Jx4a65c_get_915e3 : GoodIn wsX11_houseAt wsJx4a65c_get_915e3 := goodIn_r _ [12, 8, 13, 14, 15, 16, 17, 18, 19, 20, 21, 22, 23, 6, 24, 25, 37, 38, 39] (by decide +kernel) (by decide +kernel)
set_option maxRecDepth 20000 in
theorem gX11_houseAt_Jx4a65c_get_915e3 : GoodIn wsX11_houseAt (wsV RX11 308 RJx4a65c yJx4a65c_get_915e3 wsJx4a65c_get_915e3) := goodIn_app (goodIn_of _ (by decide +kernel)) ggX11_houseAt_Jx4a65c_get_915e3
theorem dX11_houseAt_0 : decode cX11_houseAt 0 = .ok (.iload_n 1, 1) := by decide +kernel
theorem dX11_houseAt_1 : decode cX11_houseAt 1 = .ok (.ifCond .lt 28, 3) := by decide +kernel
theorem dX11_houseAt_4 : decode cX11_houseAt 4 = .ok (.iload_n 1, 1) := by decide +kernel
theorem dX11_houseAt_5 : decode cX11_houseAt 5 = .ok (.aload_n 0, 1) := by decide +kernel
theorem dX11_houseAt_6 : decode cX11_houseAt 6 = .ok (.getfield 30, 3) := by decide +kernel
theorem dX11_houseAt_9 : decode cX11_houseAt 9 = .ok (.invokevirtual 90, 3) := by decide +kernel
theorem dX11_houseAt_12 : decode cX11_houseAt 12 = .ok (.if_icmp .ge 17, 3) := by decide +kernel
theorem dX11_houseAt_15 : decode cX11_houseAt 15 = .ok (.aload_n 0, 1) := by decide +kernel
theorem dX11_houseAt_16 : decode cX11_houseAt 16 = .ok (.getfield 30, 3) := by decide +kernel
theorem dX11_houseAt_19 : decode cX11_houseAt 19 = .ok (.iload_n 1, 1) := by decide +kernel
theorem dX11_houseAt_20 : decode cX11_houseAt 20 = .ok (.invokevirtual 308, 3) := by decide +kernel
theorem dX11_houseAt_23 : decode cX11_houseAt 23 = .ok (.checkcast 106, 3) := by decide +kernel
theorem dX11_houseAt_26 : decode cX11_houseAt 26 = .ok (.goto 4, 3) := by decide +kernel
theorem dX11_houseAt_29 : decode cX11_houseAt 29 = .ok (.aconst_null, 1) := by decide +kernel
theorem dX11_houseAt_30 : decode cX11_houseAt 30 = .ok (.areturn, 1) := by decide +kernel
set_option maxRecDepth 20000 in
theorem ggX11_courierAt_Jx4a65c_size_8abf5 : GoodIn wsX11_courierAt wsJx4a65c_size_8abf5 := goodIn_r _ [7, 8, 37, 38, 39] (by decide +kernel) (by decide +kernel)
set_option maxRecDepth 20000 in
theorem gX11_courierAt_Jx4a65c_size_8abf5 : GoodIn wsX11_courierAt (wsV RX11 90 RJx4a65c yJx4a65c_size_8abf5 wsJx4a65c_size_8abf5) := goodIn_app (goodIn_of _ (by decide +kernel)) ggX11_courierAt_Jx4a65c_size_8abf5
set_option maxRecDepth 20000 in
theorem ggX11_courierAt_Jx4a65c_get_915e3 : GoodIn wsX11_courierAt wsJx4a65c_get_915e3 := goodIn_r _ [12, 8, 13, 14, 15, 16, 17, 18, 19, 20, 21, 22, 23, 6, 24, 25, 37, 38, 39] (by decide +kernel) (by decide +kernel)
set_option maxRecDepth 20000 in
theorem gX11_courierAt_Jx4a65c_get_915e3 : GoodIn wsX11_courierAt (wsV RX11 308 RJx4a65c yJx4a65c_get_915e3 wsJx4a65c_get_915e3) := goodIn_app (goodIn_of _ (by decide +kernel)) ggX11_courierAt_Jx4a65c_get_915e3
theorem dX11_courierAt_0 : decode cX11_courierAt 0 = .ok (.iload_n 1, 1) := by decide +kernel
theorem dX11_courierAt_1 : decode cX11_courierAt 1 = .ok (.ifCond .lt 28, 3) := by decide +kernel
theorem dX11_courierAt_4 : decode cX11_courierAt 4 = .ok (.iload_n 1, 1) := by decide +kernel
theorem dX11_courierAt_5 : decode cX11_courierAt 5 = .ok (.aload_n 0, 1) := by decide +kernel
theorem dX11_courierAt_6 : decode cX11_courierAt 6 = .ok (.getfield 33, 3) := by decide +kernel
theorem dX11_courierAt_9 : decode cX11_courierAt 9 = .ok (.invokevirtual 90, 3) := by decide +kernel
theorem dX11_courierAt_12 : decode cX11_courierAt 12 = .ok (.if_icmp .ge 17, 3) := by decide +kernel
theorem dX11_courierAt_15 : decode cX11_courierAt 15 = .ok (.aload_n 0, 1) := by decide +kernel
theorem dX11_courierAt_16 : decode cX11_courierAt 16 = .ok (.getfield 33, 3) := by decide +kernel
theorem dX11_courierAt_19 : decode cX11_courierAt 19 = .ok (.iload_n 1, 1) := by decide +kernel
theorem dX11_courierAt_20 : decode cX11_courierAt 20 = .ok (.invokevirtual 308, 3) := by decide +kernel
theorem dX11_courierAt_23 : decode cX11_courierAt 23 = .ok (.checkcast 115, 3) := by decide +kernel
theorem dX11_courierAt_26 : decode cX11_courierAt 26 = .ok (.goto 4, 3) := by decide +kernel
theorem dX11_courierAt_29 : decode cX11_courierAt 29 = .ok (.aconst_null, 1) := by decide +kernel
theorem dX11_courierAt_30 : decode cX11_courierAt 30 = .ok (.areturn, 1) := by decide +kernel
set_option maxRecDepth 20000 in
theorem ggX11_standingLoanAt_Jx4a65c_size_8abf5 : GoodIn wsX11_standingLoanAt wsJx4a65c_size_8abf5 := goodIn_r _ [8, 9, 43, 44, 45] (by decide +kernel) (by decide +kernel)
set_option maxRecDepth 20000 in
theorem gX11_standingLoanAt_Jx4a65c_size_8abf5 : GoodIn wsX11_standingLoanAt (wsV RX11 90 RJx4a65c yJx4a65c_size_8abf5 wsJx4a65c_size_8abf5) := goodIn_app (goodIn_of _ (by decide +kernel)) ggX11_standingLoanAt_Jx4a65c_size_8abf5
set_option maxRecDepth 20000 in
theorem ggX11_standingLoanAt_Jx4a65c_get_915e3 : GoodIn wsX11_standingLoanAt wsJx4a65c_get_915e3 := goodIn_r _ [13, 9, 14, 15, 16, 17, 18, 19, 20, 21, 22, 23, 24, 7, 25, 26, 43, 44, 45] (by decide +kernel) (by decide +kernel)
set_option maxRecDepth 20000 in
theorem gX11_standingLoanAt_Jx4a65c_get_915e3 : GoodIn wsX11_standingLoanAt (wsV RX11 308 RJx4a65c yJx4a65c_get_915e3 wsJx4a65c_get_915e3) := goodIn_app (goodIn_of _ (by decide +kernel)) ggX11_standingLoanAt_Jx4a65c_get_915e3
theorem dX11_standingLoanAt_0 : decode cX11_standingLoanAt 0 = .ok (.iload_n 1, 1) := by decide +kernel
theorem dX11_standingLoanAt_1 : decode cX11_standingLoanAt 1 = .ok (.ifCond .lt 14, 3) := by decide +kernel
theorem dX11_standingLoanAt_4 : decode cX11_standingLoanAt 4 = .ok (.iload_n 1, 1) := by decide +kernel
theorem dX11_standingLoanAt_5 : decode cX11_standingLoanAt 5 = .ok (.aload_n 0, 1) := by decide +kernel
theorem dX11_standingLoanAt_6 : decode cX11_standingLoanAt 6 = .ok (.getfield 36, 3) := by decide +kernel
theorem dX11_standingLoanAt_9 : decode cX11_standingLoanAt 9 = .ok (.invokevirtual 90, 3) := by decide +kernel
theorem dX11_standingLoanAt_12 : decode cX11_standingLoanAt 12 = .ok (.if_icmp .lt 5, 3) := by decide +kernel
theorem dX11_standingLoanAt_15 : decode cX11_standingLoanAt 15 = .ok (.aconst_null, 1) := by decide +kernel
theorem dX11_standingLoanAt_16 : decode cX11_standingLoanAt 16 = .ok (.areturn, 1) := by decide +kernel
theorem dX11_standingLoanAt_17 : decode cX11_standingLoanAt 17 = .ok (.aload_n 0, 1) := by decide +kernel
theorem dX11_standingLoanAt_18 : decode cX11_standingLoanAt 18 = .ok (.getfield 36, 3) := by decide +kernel
theorem dX11_standingLoanAt_21 : decode cX11_standingLoanAt 21 = .ok (.iload_n 1, 1) := by decide +kernel
theorem dX11_standingLoanAt_22 : decode cX11_standingLoanAt 22 = .ok (.invokevirtual 308, 3) := by decide +kernel
theorem dX11_standingLoanAt_25 : decode cX11_standingLoanAt 25 = .ok (.checkcast 194, 3) := by decide +kernel
theorem dX11_standingLoanAt_28 : decode cX11_standingLoanAt 28 = .ok (.astore_n 2, 1) := by decide +kernel
theorem dX11_standingLoanAt_29 : decode cX11_standingLoanAt 29 = .ok (.aload_n 2, 1) := by decide +kernel
theorem dX11_standingLoanAt_30 : decode cX11_standingLoanAt 30 = .ok (.getfield 193, 3) := by decide +kernel
theorem dX11_standingLoanAt_33 : decode cX11_standingLoanAt 33 = .ok (.ifCond .eq 7, 3) := by decide +kernel
theorem dX11_standingLoanAt_36 : decode cX11_standingLoanAt 36 = .ok (.aload_n 2, 1) := by decide +kernel
theorem dX11_standingLoanAt_37 : decode cX11_standingLoanAt 37 = .ok (.goto 4, 3) := by decide +kernel
theorem dX11_standingLoanAt_40 : decode cX11_standingLoanAt 40 = .ok (.aconst_null, 1) := by decide +kernel
theorem dX11_standingLoanAt_41 : decode cX11_standingLoanAt 41 = .ok (.areturn, 1) := by decide +kernel
set_option maxRecDepth 20000 in
theorem ggX11_writingOf_X11_thingAt : GoodIn wsX11_writingOf wsX11_thingAt := goodIn_r _ [8, 9, 10, 11, 12, 13, 14, 15, 16, 17, 18, 19, 20, 21, 22, 23, 24, 25, 26, 27, 28, 29, 30, 31, 32, 33, 63, 64, 65, 66, 67, 68, 69, 70, 71, 72, 73, 74, 75, 76] (by decide +kernel) (by decide +kernel)
set_option maxRecDepth 20000 in
theorem gX11_writingOf_X11_thingAt : GoodIn wsX11_writingOf (wsV RX11 144 RX11 yX11_thingAt wsX11_thingAt) := goodIn_app (goodIn_of _ (by decide +kernel)) ggX11_writingOf_X11_thingAt
set_option maxRecDepth 20000 in
theorem ggX11_writingOf_X11_houseAt : GoodIn wsX11_writingOf wsX11_houseAt := goodIn_r _ [37, 38, 39, 11, 12, 13, 14, 15, 16, 17, 18, 19, 20, 21, 22, 23, 24, 25, 26, 27, 28, 29, 30, 31, 32, 33, 63, 64, 65, 66, 67, 68, 69, 70, 71, 72, 73, 74, 75, 76] (by decide +kernel) (by decide +kernel)
set_option maxRecDepth 20000 in
theorem gX11_writingOf_X11_houseAt : GoodIn wsX11_writingOf (wsV RX11 118 RX11 yX11_houseAt wsX11_houseAt) := goodIn_app (goodIn_of _ (by decide +kernel)) ggX11_writingOf_X11_houseAt
set_option maxRecDepth 20000 in
theorem ggX11_writingOf_X11_courierAt : GoodIn wsX11_writingOf wsX11_courierAt := goodIn_r _ [43, 44, 45, 11, 12, 13, 14, 15, 16, 17, 18, 19, 20, 21, 22, 23, 24, 25, 26, 27, 28, 29, 30, 31, 32, 33, 63, 64, 65, 66, 67, 68, 69, 70, 71, 72, 73, 74, 75, 76] (by decide +kernel) (by decide +kernel)
set_option maxRecDepth 20000 in
theorem gX11_writingOf_X11_courierAt : GoodIn wsX11_writingOf (wsV RX11 248 RX11 yX11_courierAt wsX11_courierAt) := goodIn_app (goodIn_of _ (by decide +kernel)) ggX11_writingOf_X11_courierAt
theorem dX11_writingOf_0 : decode cX11_writingOf 0 = .ok (.iload_n 1, 1) := by decide +kernel
theorem dX11_writingOf_1 : decode cX11_writingOf 1 = .ok (.ifCond .ne 22, 3) := by decide +kernel
theorem dX11_writingOf_4 : decode cX11_writingOf 4 = .ok (.aload_n 0, 1) := by decide +kernel
theorem dX11_writingOf_5 : decode cX11_writingOf 5 = .ok (.iload_n 2, 1) := by decide +kernel
theorem dX11_writingOf_6 : decode cX11_writingOf 6 = .ok (.invokevirtual 144, 3) := by decide +kernel
theorem dX11_writingOf_9 : decode cX11_writingOf 9 = .ok (.astore_n 3, 1) := by decide +kernel
theorem dX11_writingOf_10 : decode cX11_writingOf 10 = .ok (.aload_n 3, 1) := by decide +kernel
theorem dX11_writingOf_11 : decode cX11_writingOf 11 = .ok (.ifnonnull 7, 3) := by decide +kernel
theorem dX11_writingOf_14 : decode cX11_writingOf 14 = .ok (.aconst_null, 1) := by decide +kernel
theorem dX11_writingOf_15 : decode cX11_writingOf 15 = .ok (.goto 7, 3) := by decide +kernel
theorem dX11_writingOf_18 : decode cX11_writingOf 18 = .ok (.aload_n 3, 1) := by decide +kernel
theorem dX11_writingOf_19 : decode cX11_writingOf 19 = .ok (.getfield 312, 3) := by decide +kernel
theorem dX11_writingOf_22 : decode cX11_writingOf 22 = .ok (.areturn, 1) := by decide +kernel
theorem dX11_writingOf_23 : decode cX11_writingOf 23 = .ok (.iload_n 1, 1) := by decide +kernel
theorem dX11_writingOf_24 : decode cX11_writingOf 24 = .ok (.iconst 1, 1) := by decide +kernel
theorem dX11_writingOf_25 : decode cX11_writingOf 25 = .ok (.if_icmp .ne 22, 3) := by decide +kernel
theorem dX11_writingOf_28 : decode cX11_writingOf 28 = .ok (.aload_n 0, 1) := by decide +kernel
theorem dX11_writingOf_29 : decode cX11_writingOf 29 = .ok (.iload_n 2, 1) := by decide +kernel
theorem dX11_writingOf_30 : decode cX11_writingOf 30 = .ok (.invokevirtual 118, 3) := by decide +kernel
theorem dX11_writingOf_33 : decode cX11_writingOf 33 = .ok (.astore_n 3, 1) := by decide +kernel
theorem dX11_writingOf_34 : decode cX11_writingOf 34 = .ok (.aload_n 3, 1) := by decide +kernel
theorem dX11_writingOf_35 : decode cX11_writingOf 35 = .ok (.ifnonnull 7, 3) := by decide +kernel
theorem dX11_writingOf_38 : decode cX11_writingOf 38 = .ok (.aconst_null, 1) := by decide +kernel
theorem dX11_writingOf_39 : decode cX11_writingOf 39 = .ok (.goto 7, 3) := by decide +kernel
theorem dX11_writingOf_42 : decode cX11_writingOf 42 = .ok (.aload_n 3, 1) := by decide +kernel
theorem dX11_writingOf_43 : decode cX11_writingOf 43 = .ok (.getfield 313, 3) := by decide +kernel
theorem dX11_writingOf_46 : decode cX11_writingOf 46 = .ok (.areturn, 1) := by decide +kernel
theorem dX11_writingOf_47 : decode cX11_writingOf 47 = .ok (.aload_n 0, 1) := by decide +kernel
theorem dX11_writingOf_48 : decode cX11_writingOf 48 = .ok (.iload_n 2, 1) := by decide +kernel
theorem dX11_writingOf_49 : decode cX11_writingOf 49 = .ok (.invokevirtual 248, 3) := by decide +kernel
theorem dX11_writingOf_52 : decode cX11_writingOf 52 = .ok (.astore_n 3, 1) := by decide +kernel
theorem dX11_writingOf_53 : decode cX11_writingOf 53 = .ok (.aload_n 3, 1) := by decide +kernel
theorem dX11_writingOf_54 : decode cX11_writingOf 54 = .ok (.ifnonnull 7, 3) := by decide +kernel
theorem dX11_writingOf_57 : decode cX11_writingOf 57 = .ok (.aconst_null, 1) := by decide +kernel
theorem dX11_writingOf_58 : decode cX11_writingOf 58 = .ok (.goto 7, 3) := by decide +kernel
theorem dX11_writingOf_61 : decode cX11_writingOf 61 = .ok (.aload_n 3, 1) := by decide +kernel
theorem dX11_writingOf_62 : decode cX11_writingOf 62 = .ok (.getfield 314, 3) := by decide +kernel
theorem dX11_writingOf_65 : decode cX11_writingOf 65 = .ok (.areturn, 1) := by decide +kernel
set_option maxRecDepth 20000 in
theorem ggX11_faultInLoan_X7_told : GoodIn wsX11_faultInLoan wsX7_told := goodIn_r _ [10, 11, 12, 84, 85, 86, 87, 88] (by decide +kernel) (by decide +kernel)
set_option maxRecDepth 20000 in
theorem gX11_faultInLoan_X7_told : GoodIn wsX11_faultInLoan (wsV RX11 315 RX7 yX7_told wsX7_told) := goodIn_app (goodIn_of _ (by decide +kernel)) ggX11_faultInLoan_X7_told
set_option maxRecDepth 20000 in
theorem ggX11_faultInLoan_X11_tellsThingsRising : GoodIn wsX11_faultInLoan wsX11_tellsThingsRising := goodIn_r _ [17, 1, 18, 19, 20, 21, 9, 22, 11, 6, 7, 8, 10, 12, 23, 24, 25, 26, 27, 28, 59, 60, 61, 62, 63, 64, 65, 66, 67, 68, 69, 84, 85, 86, 87, 88, 89, 90, 91] (by decide +kernel) (by decide +kernel)
set_option maxRecDepth 20000 in
theorem gX11_faultInLoan_X11_tellsThingsRising : GoodIn wsX11_faultInLoan (wsV RX11 321 RX11 yX11_tellsThingsRising wsX11_tellsThingsRising) := goodIn_app (goodIn_of _ (by decide +kernel)) ggX11_faultInLoan_X11_tellsThingsRising
set_option maxRecDepth 20000 in
theorem ggX11_faultInLoan_X7_size : GoodIn wsX11_faultInLoan wsX7_size := goodIn_r _ [22, 11, 84, 85, 86, 87, 88] (by decide +kernel) (by decide +kernel)
set_option maxRecDepth 20000 in
theorem gX11_faultInLoan_X7_size : GoodIn wsX11_faultInLoan (wsV RX11 324 RX7 yX7_size wsX7_size) := goodIn_app (goodIn_of _ (by decide +kernel)) ggX11_faultInLoan_X7_size
set_option maxRecDepth 20000 in
theorem ggX11_faultInLoan_X11_thingAt : GoodIn wsX11_faultInLoan wsX11_thingAt := goodIn_r _ [32, 18, 33, 23, 24, 25, 26, 27, 28, 34, 35, 36, 37, 38, 39, 40, 41, 42, 43, 44, 45, 46, 47, 48, 49, 50, 59, 60, 61, 62, 63, 64, 65, 66, 67, 68, 69, 89, 90, 91] (by decide +kernel) (by decide +kernel)
set_option maxRecDepth 20000 in
theorem gX11_faultInLoan_X11_thingAt : GoodIn wsX11_faultInLoan (wsV RX11 144 RX11 yX11_thingAt wsX11_thingAt) := goodIn_app (goodIn_of _ (by decide +kernel)) ggX11_faultInLoan_X11_thingAt
set_option maxRecDepth 20000 in
theorem ggX11_faultInLoan_X1_isOpen : GoodIn wsX11_faultInLoan wsX1_isOpen := goodIn_r _ [55, 56, 57, 16, 58, 92, 93] (by decide +kernel) (by decide +kernel)
set_option maxRecDepth 20000 in
theorem gX11_faultInLoan_X1_isOpen : GoodIn wsX11_faultInLoan (wsV RX11 325 RX1 yX1_isOpen wsX1_isOpen) := goodIn_app (goodIn_of _ (by decide +kernel)) ggX11_faultInLoan_X1_isOpen
theorem dX11_faultInLoan_0 : decode cX11_faultInLoan 0 = .ok (.aload_n 0, 1) := by decide +kernel
theorem dX11_faultInLoan_1 : decode cX11_faultInLoan 1 = .ok (.getfield 19, 3) := by decide +kernel
theorem dX11_faultInLoan_4 : decode cX11_faultInLoan 4 = .ok (.iconst 0, 1) := by decide +kernel
theorem dX11_faultInLoan_5 : decode cX11_faultInLoan 5 = .ok (.invokevirtual 315, 3) := by decide +kernel
theorem dX11_faultInLoan_8 : decode cX11_faultInLoan 8 = .ok (.istore_n 2, 1) := by decide +kernel
theorem dX11_faultInLoan_9 : decode cX11_faultInLoan 9 = .ok (.aload_n 0, 1) := by decide +kernel
theorem dX11_faultInLoan_10 : decode cX11_faultInLoan 10 = .ok (.getfield 19, 3) := by decide +kernel
theorem dX11_faultInLoan_13 : decode cX11_faultInLoan 13 = .ok (.iconst 1, 1) := by decide +kernel
theorem dX11_faultInLoan_14 : decode cX11_faultInLoan 14 = .ok (.invokevirtual 315, 3) := by decide +kernel
theorem dX11_faultInLoan_17 : decode cX11_faultInLoan 17 = .ok (.istore_n 3, 1) := by decide +kernel
theorem dX11_faultInLoan_18 : decode cX11_faultInLoan 18 = .ok (.iload_n 2, 1) := by decide +kernel
theorem dX11_faultInLoan_19 : decode cX11_faultInLoan 19 = .ok (.iconst 2, 1) := by decide +kernel
theorem dX11_faultInLoan_20 : decode cX11_faultInLoan 20 = .ok (.aload_n 1, 1) := by decide +kernel
theorem dX11_faultInLoan_21 : decode cX11_faultInLoan 21 = .ok (.getfield 318, 3) := by decide +kernel
theorem dX11_faultInLoan_24 : decode cX11_faultInLoan 24 = .ok (.imul, 1) := by decide +kernel
theorem dX11_faultInLoan_25 : decode cX11_faultInLoan 25 = .ok (.iadd, 1) := by decide +kernel
theorem dX11_faultInLoan_26 : decode cX11_faultInLoan 26 = .ok (.iload_n 3, 1) := by decide +kernel
theorem dX11_faultInLoan_27 : decode cX11_faultInLoan 27 = .ok (.iadd, 1) := by decide +kernel
theorem dX11_faultInLoan_28 : decode cX11_faultInLoan 28 = .ok (.iconst 1, 1) := by decide +kernel
theorem dX11_faultInLoan_29 : decode cX11_faultInLoan 29 = .ok (.isub, 1) := by decide +kernel
theorem dX11_faultInLoan_30 : decode cX11_faultInLoan 30 = .ok (.istore 4, 2) := by decide +kernel
theorem dX11_faultInLoan_32 : decode cX11_faultInLoan 32 = .ok (.iload_n 3, 1) := by decide +kernel
theorem dX11_faultInLoan_33 : decode cX11_faultInLoan 33 = .ok (.iconst 1, 1) := by decide +kernel
theorem dX11_faultInLoan_34 : decode cX11_faultInLoan 34 = .ok (.if_icmp .lt 25, 3) := by decide +kernel
theorem dX11_faultInLoan_37 : decode cX11_faultInLoan 37 = .ok (.iload_n 3, 1) := by decide +kernel
theorem dX11_faultInLoan_38 : decode cX11_faultInLoan 38 = .ok (.sipush 300, 3) := by decide +kernel
theorem dX11_faultInLoan_41 : decode cX11_faultInLoan 41 = .ok (.if_icmp .gt 18, 3) := by decide +kernel
theorem dX11_faultInLoan_44 : decode cX11_faultInLoan 44 = .ok (.iload 4, 2) := by decide +kernel
theorem dX11_faultInLoan_46 : decode cX11_faultInLoan 46 = .ok (.sipush 1000, 3) := by decide +kernel
theorem dX11_faultInLoan_49 : decode cX11_faultInLoan 49 = .ok (.if_icmp .ge 10, 3) := by decide +kernel
theorem dX11_faultInLoan_52 : decode cX11_faultInLoan 52 = .ok (.aload_n 0, 1) := by decide +kernel
theorem dX11_faultInLoan_53 : decode cX11_faultInLoan 53 = .ok (.invokevirtual 321, 3) := by decide +kernel
theorem dX11_faultInLoan_56 : decode cX11_faultInLoan 56 = .ok (.ifCond .ne 5, 3) := by decide +kernel
theorem dX11_faultInLoan_59 : decode cX11_faultInLoan 59 = .ok (.iconst 5, 1) := by decide +kernel
theorem dX11_faultInLoan_60 : decode cX11_faultInLoan 60 = .ok (.ireturn, 1) := by decide +kernel
theorem dX11_faultInLoan_61 : decode cX11_faultInLoan 61 = .ok (.iconst 0, 1) := by decide +kernel
theorem dX11_faultInLoan_62 : decode cX11_faultInLoan 62 = .ok (.istore 5, 2) := by decide +kernel
theorem dX11_faultInLoan_64 : decode cX11_faultInLoan 64 = .ok (.iconst 2, 1) := by decide +kernel
theorem dX11_faultInLoan_65 : decode cX11_faultInLoan 65 = .ok (.istore 6, 2) := by decide +kernel
theorem dX11_faultInLoan_67 : decode cX11_faultInLoan 67 = .ok (.iload 6, 2) := by decide +kernel
theorem dX11_faultInLoan_69 : decode cX11_faultInLoan 69 = .ok (.aload_n 0, 1) := by decide +kernel
theorem dX11_faultInLoan_70 : decode cX11_faultInLoan 70 = .ok (.getfield 19, 3) := by decide +kernel
theorem dX11_faultInLoan_73 : decode cX11_faultInLoan 73 = .ok (.invokevirtual 324, 3) := by decide +kernel
theorem dX11_faultInLoan_76 : decode cX11_faultInLoan 76 = .ok (.if_icmp .ge 66, 3) := by decide +kernel
theorem dX11_faultInLoan_79 : decode cX11_faultInLoan 79 = .ok (.aload_n 0, 1) := by decide +kernel
theorem dX11_faultInLoan_80 : decode cX11_faultInLoan 80 = .ok (.aload_n 0, 1) := by decide +kernel
theorem dX11_faultInLoan_81 : decode cX11_faultInLoan 81 = .ok (.getfield 19, 3) := by decide +kernel
theorem dX11_faultInLoan_84 : decode cX11_faultInLoan 84 = .ok (.iload 6, 2) := by decide +kernel
theorem dX11_faultInLoan_86 : decode cX11_faultInLoan 86 = .ok (.invokevirtual 315, 3) := by decide +kernel
theorem dX11_faultInLoan_89 : decode cX11_faultInLoan 89 = .ok (.invokevirtual 144, 3) := by decide +kernel
theorem dX11_faultInLoan_92 : decode cX11_faultInLoan 92 = .ok (.astore 7, 2) := by decide +kernel
theorem dX11_faultInLoan_94 : decode cX11_faultInLoan 94 = .ok (.aload 7, 2) := by decide +kernel
theorem dX11_faultInLoan_96 : decode cX11_faultInLoan 96 = .ok (.ifnull 20, 3) := by decide +kernel
theorem dX11_faultInLoan_99 : decode cX11_faultInLoan 99 = .ok (.aload 7, 2) := by decide +kernel
theorem dX11_faultInLoan_101 : decode cX11_faultInLoan 101 = .ok (.getfield 211, 3) := by decide +kernel
theorem dX11_faultInLoan_104 : decode cX11_faultInLoan 104 = .ok (.iload_n 2, 1) := by decide +kernel
theorem dX11_faultInLoan_105 : decode cX11_faultInLoan 105 = .ok (.iload 4, 2) := by decide +kernel
theorem dX11_faultInLoan_107 : decode cX11_faultInLoan 107 = .ok (.invokevirtual 325, 3) := by decide +kernel
theorem dX11_faultInLoan_110 : decode cX11_faultInLoan 110 = .ok (.ifCond .ne 6, 3) := by decide +kernel
theorem dX11_faultInLoan_113 : decode cX11_faultInLoan 113 = .ok (.bipush 6, 2) := by decide +kernel
theorem dX11_faultInLoan_115 : decode cX11_faultInLoan 115 = .ok (.ireturn, 1) := by decide +kernel
theorem dX11_faultInLoan_116 : decode cX11_faultInLoan 116 = .ok (.aload 7, 2) := by decide +kernel
theorem dX11_faultInLoan_118 : decode cX11_faultInLoan 118 = .ok (.ifnull 18, 3) := by decide +kernel
theorem dX11_faultInLoan_121 : decode cX11_faultInLoan 121 = .ok (.aload 7, 2) := by decide +kernel
theorem dX11_faultInLoan_123 : decode cX11_faultInLoan 123 = .ok (.getfield 329, 3) := by decide +kernel
theorem dX11_faultInLoan_126 : decode cX11_faultInLoan 126 = .ok (.aload_n 1, 1) := by decide +kernel
theorem dX11_faultInLoan_127 : decode cX11_faultInLoan 127 = .ok (.getfield 330, 3) := by decide +kernel
theorem dX11_faultInLoan_130 : decode cX11_faultInLoan 130 = .ok (.if_icmp .le 6, 3) := by decide +kernel
theorem dX11_faultInLoan_133 : decode cX11_faultInLoan 133 = .ok (.iconst 1, 1) := by decide +kernel
theorem dX11_faultInLoan_134 : decode cX11_faultInLoan 134 = .ok (.istore 5, 2) := by decide +kernel
theorem dX11_faultInLoan_136 : decode cX11_faultInLoan 136 = .ok (.iinc 6 1, 3) := by decide +kernel
theorem dX11_faultInLoan_139 : decode cX11_faultInLoan 139 = .ok (.goto (-72), 3) := by decide +kernel
theorem dX11_faultInLoan_142 : decode cX11_faultInLoan 142 = .ok (.iload 5, 2) := by decide +kernel
theorem dX11_faultInLoan_144 : decode cX11_faultInLoan 144 = .ok (.ifCond .eq 8, 3) := by decide +kernel
theorem dX11_faultInLoan_147 : decode cX11_faultInLoan 147 = .ok (.bipush 7, 2) := by decide +kernel
theorem dX11_faultInLoan_149 : decode cX11_faultInLoan 149 = .ok (.goto 4, 3) := by decide +kernel
theorem dX11_faultInLoan_152 : decode cX11_faultInLoan 152 = .ok (.iconst 0, 1) := by decide +kernel
theorem dX11_faultInLoan_153 : decode cX11_faultInLoan 153 = .ok (.ireturn, 1) := by decide +kernel
set_option maxRecDepth 20000 in
theorem ggX11_tellsThingsRising_X7_size : GoodIn wsX11_tellsThingsRising wsX7_size := goodIn_r _ [7, 8, 31, 32, 33, 34, 35] (by decide +kernel) (by decide +kernel)
set_option maxRecDepth 20000 in
theorem gX11_tellsThingsRising_X7_size : GoodIn wsX11_tellsThingsRising (wsV RX11 324 RX7 yX7_size wsX7_size) := goodIn_app (goodIn_of _ (by decide +kernel)) ggX11_tellsThingsRising_X7_size
set_option maxRecDepth 20000 in
theorem ggX11_tellsThingsRising_X7_told : GoodIn wsX11_tellsThingsRising wsX7_told := goodIn_r _ [12, 8, 13, 31, 32, 33, 34, 35] (by decide +kernel) (by decide +kernel)
set_option maxRecDepth 20000 in
theorem gX11_tellsThingsRising_X7_told : GoodIn wsX11_tellsThingsRising (wsV RX11 315 RX7 yX7_told wsX7_told) := goodIn_app (goodIn_of _ (by decide +kernel)) ggX11_tellsThingsRising_X7_told
set_option maxRecDepth 20000 in
theorem ggX11_tellsThingsRising_Jx4a65c_size_8abf5 : GoodIn wsX11_tellsThingsRising wsJx4a65c_size_8abf5 := goodIn_r _ [18, 19, 36, 37, 38] (by decide +kernel) (by decide +kernel)
set_option maxRecDepth 20000 in
theorem gX11_tellsThingsRising_Jx4a65c_size_8abf5 : GoodIn wsX11_tellsThingsRising (wsV RX11 90 RJx4a65c yJx4a65c_size_8abf5 wsJx4a65c_size_8abf5) := goodIn_app (goodIn_of _ (by decide +kernel)) ggX11_tellsThingsRising_Jx4a65c_size_8abf5
theorem dX11_tellsThingsRising_0 : decode cX11_tellsThingsRising 0 = .ok (.iconst (-1), 1) := by decide +kernel
theorem dX11_tellsThingsRising_1 : decode cX11_tellsThingsRising 1 = .ok (.istore_n 1, 1) := by decide +kernel
theorem dX11_tellsThingsRising_2 : decode cX11_tellsThingsRising 2 = .ok (.iconst 2, 1) := by decide +kernel
theorem dX11_tellsThingsRising_3 : decode cX11_tellsThingsRising 3 = .ok (.istore_n 2, 1) := by decide +kernel
theorem dX11_tellsThingsRising_4 : decode cX11_tellsThingsRising 4 = .ok (.iload_n 2, 1) := by decide +kernel
theorem dX11_tellsThingsRising_5 : decode cX11_tellsThingsRising 5 = .ok (.aload_n 0, 1) := by decide +kernel
theorem dX11_tellsThingsRising_6 : decode cX11_tellsThingsRising 6 = .ok (.getfield 19, 3) := by decide +kernel
theorem dX11_tellsThingsRising_9 : decode cX11_tellsThingsRising 9 = .ok (.invokevirtual 324, 3) := by decide +kernel
theorem dX11_tellsThingsRising_12 : decode cX11_tellsThingsRising 12 = .ok (.if_icmp .ge 38, 3) := by decide +kernel
theorem dX11_tellsThingsRising_15 : decode cX11_tellsThingsRising 15 = .ok (.aload_n 0, 1) := by decide +kernel
theorem dX11_tellsThingsRising_16 : decode cX11_tellsThingsRising 16 = .ok (.getfield 19, 3) := by decide +kernel
theorem dX11_tellsThingsRising_19 : decode cX11_tellsThingsRising 19 = .ok (.iload_n 2, 1) := by decide +kernel
theorem dX11_tellsThingsRising_20 : decode cX11_tellsThingsRising 20 = .ok (.invokevirtual 315, 3) := by decide +kernel
theorem dX11_tellsThingsRising_23 : decode cX11_tellsThingsRising 23 = .ok (.istore_n 3, 1) := by decide +kernel
theorem dX11_tellsThingsRising_24 : decode cX11_tellsThingsRising 24 = .ok (.iload_n 3, 1) := by decide +kernel
theorem dX11_tellsThingsRising_25 : decode cX11_tellsThingsRising 25 = .ok (.iload_n 1, 1) := by decide +kernel
theorem dX11_tellsThingsRising_26 : decode cX11_tellsThingsRising 26 = .ok (.if_icmp .le 14, 3) := by decide +kernel
theorem dX11_tellsThingsRising_29 : decode cX11_tellsThingsRising 29 = .ok (.iload_n 3, 1) := by decide +kernel
theorem dX11_tellsThingsRising_30 : decode cX11_tellsThingsRising 30 = .ok (.aload_n 0, 1) := by decide +kernel
theorem dX11_tellsThingsRising_31 : decode cX11_tellsThingsRising 31 = .ok (.getfield 26, 3) := by decide +kernel
theorem dX11_tellsThingsRising_34 : decode cX11_tellsThingsRising 34 = .ok (.invokevirtual 90, 3) := by decide +kernel
theorem dX11_tellsThingsRising_37 : decode cX11_tellsThingsRising 37 = .ok (.if_icmp .lt 5, 3) := by decide +kernel
theorem dX11_tellsThingsRising_40 : decode cX11_tellsThingsRising 40 = .ok (.iconst 0, 1) := by decide +kernel
theorem dX11_tellsThingsRising_41 : decode cX11_tellsThingsRising 41 = .ok (.ireturn, 1) := by decide +kernel
theorem dX11_tellsThingsRising_42 : decode cX11_tellsThingsRising 42 = .ok (.iload_n 3, 1) := by decide +kernel
theorem dX11_tellsThingsRising_43 : decode cX11_tellsThingsRising 43 = .ok (.istore_n 1, 1) := by decide +kernel
theorem dX11_tellsThingsRising_44 : decode cX11_tellsThingsRising 44 = .ok (.iinc 2 1, 3) := by decide +kernel
theorem dX11_tellsThingsRising_47 : decode cX11_tellsThingsRising 47 = .ok (.goto (-43), 3) := by decide +kernel
theorem dX11_tellsThingsRising_50 : decode cX11_tellsThingsRising 50 = .ok (.iconst 1, 1) := by decide +kernel
theorem dX11_tellsThingsRising_51 : decode cX11_tellsThingsRising 51 = .ok (.ireturn, 1) := by decide +kernel
set_option maxRecDepth 20000 in
theorem ggX11_draftLoan_X7_told : GoodIn wsX11_draftLoan wsX7_told := goodIn_r _ [13, 14, 15, 202, 203, 204, 205, 206] (by decide +kernel) (by decide +kernel)
set_option maxRecDepth 20000 in
theorem gX11_draftLoan_X7_told : GoodIn wsX11_draftLoan (wsV RX11 315 RX7 yX7_told wsX7_told) := goodIn_app (goodIn_of _ (by decide +kernel)) ggX11_draftLoan_X7_told
set_option maxRecDepth 20000 in
theorem ggX11_draftLoan_X4_init : GoodIn wsX11_draftLoan wsX4_init := goodIn_r _ [18, 19, 20, 21, 22, 6, 7, 23, 24, 25, 26, 27, 28, 29, 30, 31, 32, 33, 34, 35, 36, 37, 38, 39, 40, 41, 42, 199, 200, 201, 183, 184, 185, 186, 187] (by decide +kernel) (by decide +kernel)
set_option maxRecDepth 20000 in
theorem gX11_draftLoan_X4_init : GoodIn wsX11_draftLoan (wsX4_init) := ggX11_draftLoan_X4_init
set_option maxRecDepth 20000 in
theorem ggX11_draftLoan_Jx4a65c_init_da8c8 : GoodIn wsX11_draftLoan wsJx4a65c_init_da8c8 := goodIn_r _ [30, 31, 32, 33, 34, 35, 36, 37, 38, 39, 40, 41, 42, 20, 21, 199, 200, 201] (by decide +kernel) (by decide +kernel)
set_option maxRecDepth 20000 in
theorem gX11_draftLoan_Jx4a65c_init_da8c8 : GoodIn wsX11_draftLoan (wsJx4a65c_init_da8c8) := ggX11_draftLoan_Jx4a65c_init_da8c8
set_option maxRecDepth 20000 in
theorem ggX11_draftLoan_X7_size : GoodIn wsX11_draftLoan wsX7_size := goodIn_r _ [47, 14, 202, 203, 204, 205, 206] (by decide +kernel) (by decide +kernel)
set_option maxRecDepth 20000 in
theorem gX11_draftLoan_X7_size : GoodIn wsX11_draftLoan (wsV RX11 324 RX7 yX7_size wsX7_size) := goodIn_app (goodIn_of _ (by decide +kernel)) ggX11_draftLoan_X7_size
set_option maxRecDepth 20000 in
theorem ggX11_draftLoan_X11_thingAt : GoodIn wsX11_draftLoan wsX11_thingAt := goodIn_r _ [52, 53, 8, 54, 55, 56, 7, 57, 58, 59, 60, 61, 62, 63, 64, 65, 66, 67, 68, 69, 70, 71, 72, 73, 74, 32, 188, 189, 190, 191, 192, 193, 194, 195, 196, 197, 198, 199, 200, 201] (by decide +kernel) (by decide +kernel)
set_option maxRecDepth 20000 in
theorem gX11_draftLoan_X11_thingAt : GoodIn wsX11_draftLoan (wsV RX11 144 RX11 yX11_thingAt wsX11_thingAt) := goodIn_app (goodIn_of _ (by decide +kernel)) ggX11_draftLoan_X11_thingAt
set_option maxRecDepth 20000 in
theorem ggX11_draftLoan_X11_addByWeight : GoodIn wsX11_draftLoan wsX11_addByWeight := goodIn_r _ [77, 8, 78, 54, 55, 56, 7, 57, 58, 59, 60, 61, 62, 63, 64, 65, 66, 67, 68, 69, 70, 71, 72, 73, 74, 32, 79, 80, 81, 82, 83, 84, 85, 86, 87, 88, 89, 90, 91, 92, 93, 94, 95, 96, 97, 98, 99, 100, 31, 101, 102, 103, 104, 105, 106, 107, 108, 109, 110, 111, 112, 113, 114, 115, 116, 117, 118, 119, 120, 121, 122, 123, 124, 125, 126, 127, 128, 129, 130, 131, 207, 208, 209, 210, 211, 212, 213, 214, 215, 199, 200, 201] (by decide +kernel) (by decide +kernel)
set_option maxRecDepth 20000 in
theorem gX11_draftLoan_X11_addByWeight : GoodIn wsX11_draftLoan (va_wsS RX11 336 yX11_addByWeight wsX11_addByWeight) := goodIn_app (goodIn_of _ (by decide +kernel)) ggX11_draftLoan_X11_addByWeight
set_option maxRecDepth 20000 in
theorem ggX11_draftLoan_Jx4a65c_size_8abf5 : GoodIn wsX11_draftLoan wsJx4a65c_size_8abf5 := goodIn_r _ [57, 58, 199, 200, 201] (by decide +kernel) (by decide +kernel)
set_option maxRecDepth 20000 in
theorem gX11_draftLoan_Jx4a65c_size_8abf5 : GoodIn wsX11_draftLoan (wsV RX11 90 RJx4a65c yJx4a65c_size_8abf5 wsJx4a65c_size_8abf5) := goodIn_app (goodIn_of _ (by decide +kernel)) ggX11_draftLoan_Jx4a65c_size_8abf5
set_option maxRecDepth 20000 in
theorem ggX11_draftLoan_Jx4a65c_get_915e3 : GoodIn wsX11_draftLoan wsJx4a65c_get_915e3 := goodIn_r _ [62, 58, 63, 64, 65, 66, 67, 68, 69, 70, 71, 72, 73, 7, 74, 32, 199, 200, 201] (by decide +kernel) (by decide +kernel)
set_option maxRecDepth 20000 in
theorem gX11_draftLoan_Jx4a65c_get_915e3 : GoodIn wsX11_draftLoan (wsV RX11 308 RJx4a65c yJx4a65c_get_915e3 wsJx4a65c_get_915e3) := goodIn_app (goodIn_of _ (by decide +kernel)) ggX11_draftLoan_Jx4a65c_get_915e3
set_option maxRecDepth 20000 in
theorem ggX11_draftLoan_X4_pack : GoodIn wsX11_draftLoan wsX4_pack := goodIn_r _ [135, 23, 136, 25, 137, 138, 139, 140, 141, 55, 56, 7, 57, 58, 142, 60, 61, 62, 63, 64, 65, 66, 67, 68, 69, 70, 71, 72, 73, 74, 32, 143, 144, 145, 146, 147, 148, 149, 150, 151, 152, 153, 154, 155, 156, 157, 158, 159, 160, 161, 162, 163, 164, 165, 166, 167, 168, 169, 170, 83, 84, 171, 172, 173, 174, 93, 94, 95, 96, 97, 98, 99, 100, 31, 101, 102, 103, 104, 105, 106, 107, 108, 109, 110, 111, 112, 113, 114, 115, 116, 117, 118, 119, 120, 121, 122, 123, 124, 125, 126, 127, 128, 129, 130, 131, 86, 87, 88, 175, 176, 177, 20, 21, 178, 6, 179, 180, 181, 29, 30, 33, 34, 35, 36, 37, 38, 39, 40, 41, 42, 182, 183, 184, 185, 186, 187, 216, 217, 218, 219, 220, 221, 222, 223, 224, 199, 200, 201, 207, 208, 209, 210, 211, 212, 213, 214, 215] (by decide +kernel) (by decide +kernel)
set_option maxRecDepth 20000 in
theorem gX11_draftLoan_X4_pack : GoodIn wsX11_draftLoan (wsV RX11 340 RX4 yX4_pack wsX4_pack) := goodIn_app (goodIn_of _ (by decide +kernel)) ggX11_draftLoan_X4_pack
theorem dX11_draftLoan_0 : decode cX11_draftLoan 0 = .ok (.new 194, 3) := by decide +kernel
theorem dX11_draftLoan_3 : decode cX11_draftLoan 3 = .ok (.dup, 1) := by decide +kernel
theorem dX11_draftLoan_4 : decode cX11_draftLoan 4 = .ok (.aload_n 1, 1) := by decide +kernel
theorem dX11_draftLoan_5 : decode cX11_draftLoan 5 = .ok (.aload_n 0, 1) := by decide +kernel
theorem dX11_draftLoan_6 : decode cX11_draftLoan 6 = .ok (.getfield 19, 3) := by decide +kernel
theorem dX11_draftLoan_9 : decode cX11_draftLoan 9 = .ok (.iconst 0, 1) := by decide +kernel
theorem dX11_draftLoan_10 : decode cX11_draftLoan 10 = .ok (.invokevirtual 315, 3) := by decide +kernel
theorem dX11_draftLoan_13 : decode cX11_draftLoan 13 = .ok (.aload_n 0, 1) := by decide +kernel
theorem dX11_draftLoan_14 : decode cX11_draftLoan 14 = .ok (.getfield 19, 3) := by decide +kernel
theorem dX11_draftLoan_17 : decode cX11_draftLoan 17 = .ok (.iconst 1, 1) := by decide +kernel
theorem dX11_draftLoan_18 : decode cX11_draftLoan 18 = .ok (.invokevirtual 315, 3) := by decide +kernel
theorem dX11_draftLoan_21 : decode cX11_draftLoan 21 = .ok (.invokespecial 333, 3) := by decide +kernel
theorem dX11_draftLoan_24 : decode cX11_draftLoan 24 = .ok (.astore_n 2, 1) := by decide +kernel
theorem dX11_draftLoan_25 : decode cX11_draftLoan 25 = .ok (.new 23, 3) := by decide +kernel
theorem dX11_draftLoan_28 : decode cX11_draftLoan 28 = .ok (.dup, 1) := by decide +kernel
theorem dX11_draftLoan_29 : decode cX11_draftLoan 29 = .ok (.invokespecial 25, 3) := by decide +kernel
theorem dX11_draftLoan_32 : decode cX11_draftLoan 32 = .ok (.astore_n 3, 1) := by decide +kernel
theorem dX11_draftLoan_33 : decode cX11_draftLoan 33 = .ok (.iconst 2, 1) := by decide +kernel
theorem dX11_draftLoan_34 : decode cX11_draftLoan 34 = .ok (.istore 4, 2) := by decide +kernel
theorem dX11_draftLoan_36 : decode cX11_draftLoan 36 = .ok (.iload 4, 2) := by decide +kernel
theorem dX11_draftLoan_38 : decode cX11_draftLoan 38 = .ok (.aload_n 0, 1) := by decide +kernel
theorem dX11_draftLoan_39 : decode cX11_draftLoan 39 = .ok (.getfield 19, 3) := by decide +kernel
theorem dX11_draftLoan_42 : decode cX11_draftLoan 42 = .ok (.invokevirtual 324, 3) := by decide +kernel
theorem dX11_draftLoan_45 : decode cX11_draftLoan 45 = .ok (.if_icmp .ge 35, 3) := by decide +kernel
theorem dX11_draftLoan_48 : decode cX11_draftLoan 48 = .ok (.aload_n 0, 1) := by decide +kernel
theorem dX11_draftLoan_49 : decode cX11_draftLoan 49 = .ok (.aload_n 0, 1) := by decide +kernel
theorem dX11_draftLoan_50 : decode cX11_draftLoan 50 = .ok (.getfield 19, 3) := by decide +kernel
theorem dX11_draftLoan_53 : decode cX11_draftLoan 53 = .ok (.iload 4, 2) := by decide +kernel
theorem dX11_draftLoan_55 : decode cX11_draftLoan 55 = .ok (.invokevirtual 315, 3) := by decide +kernel
theorem dX11_draftLoan_58 : decode cX11_draftLoan 58 = .ok (.invokevirtual 144, 3) := by decide +kernel
theorem dX11_draftLoan_61 : decode cX11_draftLoan 61 = .ok (.astore 5, 2) := by decide +kernel
theorem dX11_draftLoan_63 : decode cX11_draftLoan 63 = .ok (.aload 5, 2) := by decide +kernel
theorem dX11_draftLoan_65 : decode cX11_draftLoan 65 = .ok (.ifnull 9, 3) := by decide +kernel
theorem dX11_draftLoan_68 : decode cX11_draftLoan 68 = .ok (.aload_n 3, 1) := by decide +kernel
theorem dX11_draftLoan_69 : decode cX11_draftLoan 69 = .ok (.aload 5, 2) := by decide +kernel
theorem dX11_draftLoan_71 : decode cX11_draftLoan 71 = .ok (.invokestatic 336, 3) := by decide +kernel
theorem dX11_draftLoan_74 : decode cX11_draftLoan 74 = .ok (.iinc 4 1, 3) := by decide +kernel
theorem dX11_draftLoan_77 : decode cX11_draftLoan 77 = .ok (.goto (-41), 3) := by decide +kernel
theorem dX11_draftLoan_80 : decode cX11_draftLoan 80 = .ok (.iconst 0, 1) := by decide +kernel
theorem dX11_draftLoan_81 : decode cX11_draftLoan 81 = .ok (.istore 4, 2) := by decide +kernel
theorem dX11_draftLoan_83 : decode cX11_draftLoan 83 = .ok (.iload 4, 2) := by decide +kernel
theorem dX11_draftLoan_85 : decode cX11_draftLoan 85 = .ok (.aload_n 3, 1) := by decide +kernel
theorem dX11_draftLoan_86 : decode cX11_draftLoan 86 = .ok (.invokevirtual 90, 3) := by decide +kernel
theorem dX11_draftLoan_89 : decode cX11_draftLoan 89 = .ok (.if_icmp .ge 22, 3) := by decide +kernel
theorem dX11_draftLoan_92 : decode cX11_draftLoan 92 = .ok (.aload_n 2, 1) := by decide +kernel
theorem dX11_draftLoan_93 : decode cX11_draftLoan 93 = .ok (.aload_n 3, 1) := by decide +kernel
theorem dX11_draftLoan_94 : decode cX11_draftLoan 94 = .ok (.iload 4, 2) := by decide +kernel
theorem dX11_draftLoan_96 : decode cX11_draftLoan 96 = .ok (.invokevirtual 308, 3) := by decide +kernel
theorem dX11_draftLoan_99 : decode cX11_draftLoan 99 = .ok (.checkcast 85, 3) := by decide +kernel
theorem dX11_draftLoan_102 : decode cX11_draftLoan 102 = .ok (.invokevirtual 340, 3) := by decide +kernel
theorem dX11_draftLoan_105 : decode cX11_draftLoan 105 = .ok (.iinc 4 1, 3) := by decide +kernel
theorem dX11_draftLoan_108 : decode cX11_draftLoan 108 = .ok (.goto (-25), 3) := by decide +kernel
theorem dX11_draftLoan_111 : decode cX11_draftLoan 111 = .ok (.aload_n 2, 1) := by decide +kernel
theorem dX11_draftLoan_112 : decode cX11_draftLoan 112 = .ok (.areturn, 1) := by decide +kernel
set_option maxRecDepth 20000 in
theorem ggX11_addByWeight_Jx4a65c_size_8abf5 : GoodIn wsX11_addByWeight wsJx4a65c_size_8abf5 := goodIn_r _ [7, 8, 89, 90, 91] (by decide +kernel) (by decide +kernel)
set_option maxRecDepth 20000 in
theorem gX11_addByWeight_Jx4a65c_size_8abf5 : GoodIn wsX11_addByWeight (wsV RX11 90 RJx4a65c yJx4a65c_size_8abf5 wsJx4a65c_size_8abf5) := goodIn_app (goodIn_of _ (by decide +kernel)) ggX11_addByWeight_Jx4a65c_size_8abf5
set_option maxRecDepth 20000 in
theorem ggX11_addByWeight_Jx4a65c_get_915e3 : GoodIn wsX11_addByWeight wsJx4a65c_get_915e3 := goodIn_r _ [12, 8, 13, 14, 15, 16, 17, 18, 19, 20, 21, 22, 23, 6, 24, 25, 89, 90, 91] (by decide +kernel) (by decide +kernel)
set_option maxRecDepth 20000 in
theorem gX11_addByWeight_Jx4a65c_get_915e3 : GoodIn wsX11_addByWeight (wsV RX11 308 RJx4a65c yJx4a65c_get_915e3 wsJx4a65c_get_915e3) := goodIn_app (goodIn_of _ (by decide +kernel)) ggX11_addByWeight_Jx4a65c_get_915e3
set_option maxRecDepth 20000 in
theorem ggX11_addByWeight_Jx4a65c_add_7a177 : GoodIn wsX11_addByWeight wsJx4a65c_add_7a177 := goodIn_r _ [29, 30, 31, 8, 25, 32, 33, 34, 35, 36, 37, 38, 6, 39, 40, 41, 42, 43, 44, 45, 46, 47, 48, 49, 50, 51, 52, 53, 54, 55, 56, 57, 58, 59, 60, 61, 62, 63, 64, 65, 66, 67, 68, 69, 70, 71, 72, 73, 74, 75, 76, 77, 78, 79, 89, 90, 91] (by decide +kernel) (by decide +kernel)
set_option maxRecDepth 20000 in
theorem gX11_addByWeight_Jx4a65c_add_7a177 : GoodIn wsX11_addByWeight (wsV RX11 344 RJx4a65c yJx4a65c_add_7a177 wsJx4a65c_add_7a177) := goodIn_app (goodIn_of _ (by decide +kernel)) ggX11_addByWeight_Jx4a65c_add_7a177
theorem dX11_addByWeight_0 : decode cX11_addByWeight 0 = .ok (.iconst 0, 1) := by decide +kernel
theorem dX11_addByWeight_1 : decode cX11_addByWeight 1 = .ok (.istore_n 2, 1) := by decide +kernel
theorem dX11_addByWeight_2 : decode cX11_addByWeight 2 = .ok (.iload_n 2, 1) := by decide +kernel
theorem dX11_addByWeight_3 : decode cX11_addByWeight 3 = .ok (.aload_n 0, 1) := by decide +kernel
theorem dX11_addByWeight_4 : decode cX11_addByWeight 4 = .ok (.invokevirtual 90, 3) := by decide +kernel
theorem dX11_addByWeight_7 : decode cX11_addByWeight 7 = .ok (.if_icmp .ge 27, 3) := by decide +kernel
theorem dX11_addByWeight_10 : decode cX11_addByWeight 10 = .ok (.aload_n 0, 1) := by decide +kernel
theorem dX11_addByWeight_11 : decode cX11_addByWeight 11 = .ok (.iload_n 2, 1) := by decide +kernel
theorem dX11_addByWeight_12 : decode cX11_addByWeight 12 = .ok (.invokevirtual 308, 3) := by decide +kernel
theorem dX11_addByWeight_15 : decode cX11_addByWeight 15 = .ok (.checkcast 85, 3) := by decide +kernel
theorem dX11_addByWeight_18 : decode cX11_addByWeight 18 = .ok (.getfield 329, 3) := by decide +kernel
theorem dX11_addByWeight_21 : decode cX11_addByWeight 21 = .ok (.aload_n 1, 1) := by decide +kernel
theorem dX11_addByWeight_22 : decode cX11_addByWeight 22 = .ok (.getfield 329, 3) := by decide +kernel
theorem dX11_addByWeight_25 : decode cX11_addByWeight 25 = .ok (.if_icmp .lt 9, 3) := by decide +kernel
theorem dX11_addByWeight_28 : decode cX11_addByWeight 28 = .ok (.iinc 2 1, 3) := by decide +kernel
theorem dX11_addByWeight_31 : decode cX11_addByWeight 31 = .ok (.goto (-29), 3) := by decide +kernel
theorem dX11_addByWeight_34 : decode cX11_addByWeight 34 = .ok (.aload_n 0, 1) := by decide +kernel
theorem dX11_addByWeight_35 : decode cX11_addByWeight 35 = .ok (.iload_n 2, 1) := by decide +kernel
theorem dX11_addByWeight_36 : decode cX11_addByWeight 36 = .ok (.aload_n 1, 1) := by decide +kernel
theorem dX11_addByWeight_37 : decode cX11_addByWeight 37 = .ok (.invokevirtual 344, 3) := by decide +kernel
theorem dX11_addByWeight_40 : decode cX11_addByWeight 40 = .ok (.return_, 1) := by decide +kernel
set_option maxRecDepth 20000 in
theorem ggX11_findCouriers_X4_firstOf : GoodIn wsX11_findCouriers wsX4_firstOf := goodIn_r _ [10, 11, 12, 13, 14, 118, 119, 120, 121, 122, 123, 124, 125, 126, 127] (by decide +kernel) (by decide +kernel)
set_option maxRecDepth 20000 in
theorem gX11_findCouriers_X4_firstOf : GoodIn wsX11_findCouriers (wsV RX11 347 RX4 yX4_firstOf wsX4_firstOf) := goodIn_app (goodIn_of _ (by decide +kernel)) ggX11_findCouriers_X4_firstOf
set_option maxRecDepth 20000 in
theorem ggX11_findCouriers_Jx4a65c_size_8abf5 : GoodIn wsX11_findCouriers wsJx4a65c_size_8abf5 := goodIn_r _ [19, 20, 131, 132, 133] (by decide +kernel) (by decide +kernel)
set_option maxRecDepth 20000 in
theorem gX11_findCouriers_Jx4a65c_size_8abf5 : GoodIn wsX11_findCouriers (wsV RX11 90 RJx4a65c yJx4a65c_size_8abf5 wsJx4a65c_size_8abf5) := goodIn_app (goodIn_of _ (by decide +kernel)) ggX11_findCouriers_Jx4a65c_size_8abf5
set_option maxRecDepth 20000 in
theorem ggX11_findCouriers_X4_nextToGuard : GoodIn wsX11_findCouriers wsX4_nextToGuard := goodIn_r _ [24, 12, 25, 26, 27, 28, 16, 17, 18, 19, 20, 29, 30, 31, 32, 33, 34, 35, 36, 37, 38, 39, 40, 41, 42, 43, 44, 45, 46, 7, 8, 9, 10, 11, 13, 14, 47, 48, 49, 50, 51, 52, 53, 54, 55, 56, 57, 58, 59, 60, 61, 62, 63, 64, 65, 66, 67, 68, 69, 70, 71, 72, 73, 74, 75, 76, 77, 78, 79, 80, 118, 119, 120, 121, 122, 123, 124, 125, 126, 127, 131, 132, 133, 134, 135, 136, 137, 138, 139, 140, 141, 142, 143, 144, 145, 146, 147, 148, 149] (by decide +kernel) (by decide +kernel)
set_option maxRecDepth 20000 in
theorem gX11_findCouriers_X4_nextToGuard : GoodIn wsX11_findCouriers (wsV RX11 354 RX4 yX4_nextToGuard wsX4_nextToGuard) := goodIn_app (goodIn_of _ (by decide +kernel)) ggX11_findCouriers_X4_nextToGuard
set_option maxRecDepth 20000 in
theorem ggX11_findCouriers_X11_leastBusyCourier : GoodIn wsX11_findCouriers wsX11_leastBusyCourier := goodIn_r _ [85, 86, 87, 4, 15, 16, 17, 18, 19, 20, 88, 30, 31, 32, 33, 34, 35, 36, 37, 38, 39, 40, 41, 42, 43, 44, 45, 89, 90, 91, 92, 93, 94, 95, 96, 97, 98, 99, 100, 84, 101, 150, 151, 152, 153, 154, 155, 156, 157, 158, 159, 160, 128, 129, 130, 131, 132, 133, 161, 162] (by decide +kernel) (by decide +kernel)
set_option maxRecDepth 20000 in
theorem gX11_findCouriers_X11_leastBusyCourier : GoodIn wsX11_findCouriers (wsV RX11 357 RX11 yX11_leastBusyCourier wsX11_leastBusyCourier) := goodIn_app (goodIn_of _ (by decide +kernel)) ggX11_findCouriers_X11_leastBusyCourier
set_option maxRecDepth 20000 in
theorem ggX11_findCouriers_X1_take : GoodIn wsX11_findCouriers wsX1_take := goodIn_r _ [105, 94, 106, 107, 108, 92, 109, 110, 111, 112, 113, 99, 161, 162] (by decide +kernel) (by decide +kernel)
set_option maxRecDepth 20000 in
theorem gX11_findCouriers_X1_take : GoodIn wsX11_findCouriers (wsV RX11 361 RX1 yX1_take wsX1_take) := goodIn_app (goodIn_of _ (by decide +kernel)) ggX11_findCouriers_X1_take
set_option maxRecDepth 20000 in
theorem ggX11_findCouriers_X5_guardBy : GoodIn wsX11_findCouriers wsX5_guardBy := goodIn_r _ [117, 79, 80, 134, 135, 136, 137] (by decide +kernel) (by decide +kernel)
set_option maxRecDepth 20000 in
theorem gX11_findCouriers_X5_guardBy : GoodIn wsX11_findCouriers (wsV RX11 368 RX5 yX5_guardBy wsX5_guardBy) := goodIn_app (goodIn_of _ (by decide +kernel)) ggX11_findCouriers_X5_guardBy
theorem dX11_findCouriers_0 : decode cX11_findCouriers 0 = .ok (.aload_n 1, 1) := by decide +kernel
theorem dX11_findCouriers_1 : decode cX11_findCouriers 1 = .ok (.iload_n 3, 1) := by decide +kernel
theorem dX11_findCouriers_2 : decode cX11_findCouriers 2 = .ok (.invokevirtual 347, 3) := by decide +kernel
theorem dX11_findCouriers_5 : decode cX11_findCouriers 5 = .ok (.istore 4, 2) := by decide +kernel
theorem dX11_findCouriers_7 : decode cX11_findCouriers 7 = .ok (.iload 4, 2) := by decide +kernel
theorem dX11_findCouriers_9 : decode cX11_findCouriers 9 = .ok (.aload_n 1, 1) := by decide +kernel
theorem dX11_findCouriers_10 : decode cX11_findCouriers 10 = .ok (.getfield 350, 3) := by decide +kernel
theorem dX11_findCouriers_13 : decode cX11_findCouriers 13 = .ok (.getfield 318, 3) := by decide +kernel
theorem dX11_findCouriers_16 : decode cX11_findCouriers 16 = .ok (.iadd, 1) := by decide +kernel
theorem dX11_findCouriers_17 : decode cX11_findCouriers 17 = .ok (.iconst 1, 1) := by decide +kernel
theorem dX11_findCouriers_18 : decode cX11_findCouriers 18 = .ok (.isub, 1) := by decide +kernel
theorem dX11_findCouriers_19 : decode cX11_findCouriers 19 = .ok (.istore 5, 2) := by decide +kernel
theorem dX11_findCouriers_21 : decode cX11_findCouriers 21 = .ok (.iconst 0, 1) := by decide +kernel
theorem dX11_findCouriers_22 : decode cX11_findCouriers 22 = .ok (.istore 6, 2) := by decide +kernel
theorem dX11_findCouriers_24 : decode cX11_findCouriers 24 = .ok (.iload 6, 2) := by decide +kernel
theorem dX11_findCouriers_26 : decode cX11_findCouriers 26 = .ok (.aload_n 1, 1) := by decide +kernel
theorem dX11_findCouriers_27 : decode cX11_findCouriers 27 = .ok (.getfield 230, 3) := by decide +kernel
theorem dX11_findCouriers_30 : decode cX11_findCouriers 30 = .ok (.invokevirtual 90, 3) := by decide +kernel
theorem dX11_findCouriers_33 : decode cX11_findCouriers 33 = .ok (.if_icmp .ge 64, 3) := by decide +kernel
theorem dX11_findCouriers_36 : decode cX11_findCouriers 36 = .ok (.aload_n 1, 1) := by decide +kernel
theorem dX11_findCouriers_37 : decode cX11_findCouriers 37 = .ok (.iload_n 3, 1) := by decide +kernel
theorem dX11_findCouriers_38 : decode cX11_findCouriers 38 = .ok (.invokevirtual 354, 3) := by decide +kernel
theorem dX11_findCouriers_41 : decode cX11_findCouriers 41 = .ok (.astore 7, 2) := by decide +kernel
theorem dX11_findCouriers_43 : decode cX11_findCouriers 43 = .ok (.aload 7, 2) := by decide +kernel
theorem dX11_findCouriers_45 : decode cX11_findCouriers 45 = .ok (.ifnonnull 5, 3) := by decide +kernel
theorem dX11_findCouriers_48 : decode cX11_findCouriers 48 = .ok (.iconst 1, 1) := by decide +kernel
theorem dX11_findCouriers_49 : decode cX11_findCouriers 49 = .ok (.ireturn, 1) := by decide +kernel
theorem dX11_findCouriers_50 : decode cX11_findCouriers 50 = .ok (.aload_n 0, 1) := by decide +kernel
theorem dX11_findCouriers_51 : decode cX11_findCouriers 51 = .ok (.iload 4, 2) := by decide +kernel
theorem dX11_findCouriers_53 : decode cX11_findCouriers 53 = .ok (.iload 5, 2) := by decide +kernel
theorem dX11_findCouriers_55 : decode cX11_findCouriers 55 = .ok (.invokevirtual 357, 3) := by decide +kernel
theorem dX11_findCouriers_58 : decode cX11_findCouriers 58 = .ok (.astore 8, 2) := by decide +kernel
theorem dX11_findCouriers_60 : decode cX11_findCouriers 60 = .ok (.aload 8, 2) := by decide +kernel
theorem dX11_findCouriers_62 : decode cX11_findCouriers 62 = .ok (.ifnonnull 5, 3) := by decide +kernel
theorem dX11_findCouriers_65 : decode cX11_findCouriers 65 = .ok (.iconst 0, 1) := by decide +kernel
theorem dX11_findCouriers_66 : decode cX11_findCouriers 66 = .ok (.ireturn, 1) := by decide +kernel
theorem dX11_findCouriers_67 : decode cX11_findCouriers 67 = .ok (.aload 8, 2) := by decide +kernel
theorem dX11_findCouriers_69 : decode cX11_findCouriers 69 = .ok (.getfield 252, 3) := by decide +kernel
theorem dX11_findCouriers_72 : decode cX11_findCouriers 72 = .ok (.iload 4, 2) := by decide +kernel
theorem dX11_findCouriers_74 : decode cX11_findCouriers 74 = .ok (.iload 5, 2) := by decide +kernel
theorem dX11_findCouriers_76 : decode cX11_findCouriers 76 = .ok (.iload_n 2, 1) := by decide +kernel
theorem dX11_findCouriers_77 : decode cX11_findCouriers 77 = .ok (.invokevirtual 361, 3) := by decide +kernel
theorem dX11_findCouriers_80 : decode cX11_findCouriers 80 = .ok (.aload 7, 2) := by decide +kernel
theorem dX11_findCouriers_82 : decode cX11_findCouriers 82 = .ok (.aload 8, 2) := by decide +kernel
theorem dX11_findCouriers_84 : decode cX11_findCouriers 84 = .ok (.getfield 365, 3) := by decide +kernel
theorem dX11_findCouriers_87 : decode cX11_findCouriers 87 = .ok (.iload_n 3, 1) := by decide +kernel
theorem dX11_findCouriers_88 : decode cX11_findCouriers 88 = .ok (.invokevirtual 368, 3) := by decide +kernel
theorem dX11_findCouriers_91 : decode cX11_findCouriers 91 = .ok (.iinc 6 1, 3) := by decide +kernel
theorem dX11_findCouriers_94 : decode cX11_findCouriers 94 = .ok (.goto (-70), 3) := by decide +kernel
theorem dX11_findCouriers_97 : decode cX11_findCouriers 97 = .ok (.iconst 1, 1) := by decide +kernel
theorem dX11_findCouriers_98 : decode cX11_findCouriers 98 = .ok (.ireturn, 1) := by decide +kernel
set_option maxRecDepth 20000 in
theorem ggX11_leastBusyCourier_Jx4a65c_size_8abf5 : GoodIn wsX11_leastBusyCourier wsJx4a65c_size_8abf5 := goodIn_r _ [8, 9, 55, 56, 57] (by decide +kernel) (by decide +kernel)
set_option maxRecDepth 20000 in
theorem gX11_leastBusyCourier_Jx4a65c_size_8abf5 : GoodIn wsX11_leastBusyCourier (wsV RX11 90 RJx4a65c yJx4a65c_size_8abf5 wsJx4a65c_size_8abf5) := goodIn_app (goodIn_of _ (by decide +kernel)) ggX11_leastBusyCourier_Jx4a65c_size_8abf5
set_option maxRecDepth 20000 in
theorem ggX11_leastBusyCourier_Jx4a65c_get_915e3 : GoodIn wsX11_leastBusyCourier wsJx4a65c_get_915e3 := goodIn_r _ [13, 9, 14, 15, 16, 17, 18, 19, 20, 21, 22, 23, 24, 7, 25, 26, 55, 56, 57] (by decide +kernel) (by decide +kernel)
set_option maxRecDepth 20000 in
theorem gX11_leastBusyCourier_Jx4a65c_get_915e3 : GoodIn wsX11_leastBusyCourier (wsV RX11 308 RJx4a65c yJx4a65c_get_915e3 wsJx4a65c_get_915e3) := goodIn_app (goodIn_of _ (by decide +kernel)) ggX11_leastBusyCourier_Jx4a65c_get_915e3
set_option maxRecDepth 20000 in
theorem ggX11_leastBusyCourier_X1_daysTaken : GoodIn wsX11_leastBusyCourier wsX1_daysTaken := goodIn_r _ [31, 32, 58, 59] (by decide +kernel) (by decide +kernel)
set_option maxRecDepth 20000 in
theorem gX11_leastBusyCourier_X1_daysTaken : GoodIn wsX11_leastBusyCourier (wsV RX11 253 RX1 yX1_daysTaken wsX1_daysTaken) := goodIn_app (goodIn_of _ (by decide +kernel)) ggX11_leastBusyCourier_X1_daysTaken
set_option maxRecDepth 20000 in
theorem ggX11_leastBusyCourier_X1_isOpen : GoodIn wsX11_leastBusyCourier wsX1_isOpen := goodIn_r _ [36, 37, 38, 39, 40, 58, 59] (by decide +kernel) (by decide +kernel)
set_option maxRecDepth 20000 in
theorem gX11_leastBusyCourier_X1_isOpen : GoodIn wsX11_leastBusyCourier (wsV RX11 325 RX1 yX1_isOpen wsX1_isOpen) := goodIn_app (goodIn_of _ (by decide +kernel)) ggX11_leastBusyCourier_X1_isOpen
theorem dX11_leastBusyCourier_0 : decode cX11_leastBusyCourier 0 = .ok (.aconst_null, 1) := by decide +kernel
theorem dX11_leastBusyCourier_1 : decode cX11_leastBusyCourier 1 = .ok (.astore_n 3, 1) := by decide +kernel
theorem dX11_leastBusyCourier_2 : decode cX11_leastBusyCourier 2 = .ok (.iconst 0, 1) := by decide +kernel
theorem dX11_leastBusyCourier_3 : decode cX11_leastBusyCourier 3 = .ok (.istore 4, 2) := by decide +kernel
theorem dX11_leastBusyCourier_5 : decode cX11_leastBusyCourier 5 = .ok (.iload 4, 2) := by decide +kernel
theorem dX11_leastBusyCourier_7 : decode cX11_leastBusyCourier 7 = .ok (.aload_n 0, 1) := by decide +kernel
theorem dX11_leastBusyCourier_8 : decode cX11_leastBusyCourier 8 = .ok (.getfield 33, 3) := by decide +kernel
theorem dX11_leastBusyCourier_11 : decode cX11_leastBusyCourier 11 = .ok (.invokevirtual 90, 3) := by decide +kernel
theorem dX11_leastBusyCourier_14 : decode cX11_leastBusyCourier 14 = .ok (.if_icmp .ge 73, 3) := by decide +kernel
theorem dX11_leastBusyCourier_17 : decode cX11_leastBusyCourier 17 = .ok (.aload_n 0, 1) := by decide +kernel
theorem dX11_leastBusyCourier_18 : decode cX11_leastBusyCourier 18 = .ok (.getfield 33, 3) := by decide +kernel
theorem dX11_leastBusyCourier_21 : decode cX11_leastBusyCourier 21 = .ok (.iload 4, 2) := by decide +kernel
theorem dX11_leastBusyCourier_23 : decode cX11_leastBusyCourier 23 = .ok (.invokevirtual 308, 3) := by decide +kernel
theorem dX11_leastBusyCourier_26 : decode cX11_leastBusyCourier 26 = .ok (.checkcast 115, 3) := by decide +kernel
theorem dX11_leastBusyCourier_29 : decode cX11_leastBusyCourier 29 = .ok (.astore 5, 2) := by decide +kernel
theorem dX11_leastBusyCourier_31 : decode cX11_leastBusyCourier 31 = .ok (.aload_n 3, 1) := by decide +kernel
theorem dX11_leastBusyCourier_32 : decode cX11_leastBusyCourier 32 = .ok (.ifnull 21, 3) := by decide +kernel
theorem dX11_leastBusyCourier_35 : decode cX11_leastBusyCourier 35 = .ok (.aload 5, 2) := by decide +kernel
theorem dX11_leastBusyCourier_37 : decode cX11_leastBusyCourier 37 = .ok (.getfield 252, 3) := by decide +kernel
theorem dX11_leastBusyCourier_40 : decode cX11_leastBusyCourier 40 = .ok (.invokevirtual 253, 3) := by decide +kernel
theorem dX11_leastBusyCourier_43 : decode cX11_leastBusyCourier 43 = .ok (.aload_n 3, 1) := by decide +kernel
theorem dX11_leastBusyCourier_44 : decode cX11_leastBusyCourier 44 = .ok (.getfield 252, 3) := by decide +kernel
theorem dX11_leastBusyCourier_47 : decode cX11_leastBusyCourier 47 = .ok (.invokevirtual 253, 3) := by decide +kernel
theorem dX11_leastBusyCourier_50 : decode cX11_leastBusyCourier 50 = .ok (.if_icmp .ge 7, 3) := by decide +kernel
theorem dX11_leastBusyCourier_53 : decode cX11_leastBusyCourier 53 = .ok (.iconst 1, 1) := by decide +kernel
theorem dX11_leastBusyCourier_54 : decode cX11_leastBusyCourier 54 = .ok (.goto 4, 3) := by decide +kernel
theorem dX11_leastBusyCourier_57 : decode cX11_leastBusyCourier 57 = .ok (.iconst 0, 1) := by decide +kernel
theorem dX11_leastBusyCourier_58 : decode cX11_leastBusyCourier 58 = .ok (.istore 6, 2) := by decide +kernel
theorem dX11_leastBusyCourier_60 : decode cX11_leastBusyCourier 60 = .ok (.iload 6, 2) := by decide +kernel
theorem dX11_leastBusyCourier_62 : decode cX11_leastBusyCourier 62 = .ok (.ifCond .eq 19, 3) := by decide +kernel
theorem dX11_leastBusyCourier_65 : decode cX11_leastBusyCourier 65 = .ok (.aload 5, 2) := by decide +kernel
theorem dX11_leastBusyCourier_67 : decode cX11_leastBusyCourier 67 = .ok (.getfield 252, 3) := by decide +kernel
theorem dX11_leastBusyCourier_70 : decode cX11_leastBusyCourier 70 = .ok (.iload_n 1, 1) := by decide +kernel
theorem dX11_leastBusyCourier_71 : decode cX11_leastBusyCourier 71 = .ok (.iload_n 2, 1) := by decide +kernel
theorem dX11_leastBusyCourier_72 : decode cX11_leastBusyCourier 72 = .ok (.invokevirtual 325, 3) := by decide +kernel
theorem dX11_leastBusyCourier_75 : decode cX11_leastBusyCourier 75 = .ok (.ifCond .eq 6, 3) := by decide +kernel
theorem dX11_leastBusyCourier_78 : decode cX11_leastBusyCourier 78 = .ok (.aload 5, 2) := by decide +kernel
theorem dX11_leastBusyCourier_80 : decode cX11_leastBusyCourier 80 = .ok (.astore_n 3, 1) := by decide +kernel
theorem dX11_leastBusyCourier_81 : decode cX11_leastBusyCourier 81 = .ok (.iinc 4 1, 3) := by decide +kernel
theorem dX11_leastBusyCourier_84 : decode cX11_leastBusyCourier 84 = .ok (.goto (-79), 3) := by decide +kernel
theorem dX11_leastBusyCourier_87 : decode cX11_leastBusyCourier 87 = .ok (.aload_n 3, 1) := by decide +kernel
theorem dX11_leastBusyCourier_88 : decode cX11_leastBusyCourier 88 = .ok (.areturn, 1) := by decide +kernel
set_option maxRecDepth 20000 in
theorem ggX11_takeThings_Jx4a65c_size_8abf5 : GoodIn wsX11_takeThings wsJx4a65c_size_8abf5 := goodIn_r _ [9, 10, 95, 96, 97] (by decide +kernel) (by decide +kernel)
set_option maxRecDepth 20000 in
theorem gX11_takeThings_Jx4a65c_size_8abf5 : GoodIn wsX11_takeThings (wsV RX11 90 RJx4a65c yJx4a65c_size_8abf5 wsJx4a65c_size_8abf5) := goodIn_app (goodIn_of _ (by decide +kernel)) ggX11_takeThings_Jx4a65c_size_8abf5
set_option maxRecDepth 20000 in
theorem ggX11_takeThings_Jx4a65c_get_915e3 : GoodIn wsX11_takeThings wsJx4a65c_get_915e3 := goodIn_r _ [14, 10, 15, 16, 17, 18, 19, 20, 21, 22, 23, 24, 25, 8, 26, 27, 95, 96, 97] (by decide +kernel) (by decide +kernel)
set_option maxRecDepth 20000 in
theorem gX11_takeThings_Jx4a65c_get_915e3 : GoodIn wsX11_takeThings (wsV RX11 308 RJx4a65c yJx4a65c_get_915e3 wsJx4a65c_get_915e3) := goodIn_app (goodIn_of _ (by decide +kernel)) ggX11_takeThings_Jx4a65c_get_915e3
set_option maxRecDepth 20000 in
theorem ggX11_takeThings_X4_parcelWith : GoodIn wsX11_takeThings wsX4_parcelWith := goodIn_r _ [32, 33, 34, 35, 6, 7, 8, 9, 10, 36, 12, 13, 14, 15, 16, 17, 18, 19, 20, 21, 22, 23, 24, 25, 26, 27, 37, 38, 39, 40, 41, 42, 43, 44, 45, 46, 90, 91, 92, 93, 94, 95, 96, 97, 98, 99, 100, 101, 81, 82, 83, 84, 85, 86, 87, 88, 89] (by decide +kernel) (by decide +kernel)
set_option maxRecDepth 20000 in
theorem gX11_takeThings_X4_parcelWith : GoodIn wsX11_takeThings (wsV RX11 233 RX4 yX4_parcelWith wsX4_parcelWith) := goodIn_app (goodIn_of _ (by decide +kernel)) ggX11_takeThings_X4_parcelWith
set_option maxRecDepth 20000 in
theorem ggX11_takeThings_X4_last : GoodIn wsX11_takeThings wsX4_last := goodIn_r _ [50, 51, 52, 53, 54, 90, 91, 92, 93, 94, 102, 103, 104, 105, 106] (by decide +kernel) (by decide +kernel)
set_option maxRecDepth 20000 in
theorem gX11_takeThings_X4_last : GoodIn wsX11_takeThings (wsV RX11 374 RX4 yX4_last wsX4_last) := goodIn_app (goodIn_of _ (by decide +kernel)) ggX11_takeThings_X4_last
set_option maxRecDepth 20000 in
theorem ggX11_takeThings_X1_take : GoodIn wsX11_takeThings wsX1_take := goodIn_r _ [59, 60, 61, 62, 63, 58, 64, 65, 66, 67, 68, 69, 107, 108] (by decide +kernel) (by decide +kernel)
set_option maxRecDepth 20000 in
theorem gX11_takeThings_X1_take : GoodIn wsX11_takeThings (wsV RX11 361 RX1 yX1_take wsX1_take) := goodIn_app (goodIn_of _ (by decide +kernel)) ggX11_takeThings_X1_take
theorem dX11_takeThings_0 : decode cX11_takeThings 0 = .ok (.iconst 0, 1) := by decide +kernel
theorem dX11_takeThings_1 : decode cX11_takeThings 1 = .ok (.istore_n 3, 1) := by decide +kernel
theorem dX11_takeThings_2 : decode cX11_takeThings 2 = .ok (.iload_n 3, 1) := by decide +kernel
theorem dX11_takeThings_3 : decode cX11_takeThings 3 = .ok (.aload_n 0, 1) := by decide +kernel
theorem dX11_takeThings_4 : decode cX11_takeThings 4 = .ok (.getfield 26, 3) := by decide +kernel
theorem dX11_takeThings_7 : decode cX11_takeThings 7 = .ok (.invokevirtual 90, 3) := by decide +kernel
theorem dX11_takeThings_10 : decode cX11_takeThings 10 = .ok (.if_icmp .ge 48, 3) := by decide +kernel
theorem dX11_takeThings_13 : decode cX11_takeThings 13 = .ok (.aload_n 0, 1) := by decide +kernel
theorem dX11_takeThings_14 : decode cX11_takeThings 14 = .ok (.getfield 26, 3) := by decide +kernel
theorem dX11_takeThings_17 : decode cX11_takeThings 17 = .ok (.iload_n 3, 1) := by decide +kernel
theorem dX11_takeThings_18 : decode cX11_takeThings 18 = .ok (.invokevirtual 308, 3) := by decide +kernel
theorem dX11_takeThings_21 : decode cX11_takeThings 21 = .ok (.checkcast 85, 3) := by decide +kernel
theorem dX11_takeThings_24 : decode cX11_takeThings 24 = .ok (.astore 4, 2) := by decide +kernel
theorem dX11_takeThings_26 : decode cX11_takeThings 26 = .ok (.aload_n 1, 1) := by decide +kernel
theorem dX11_takeThings_27 : decode cX11_takeThings 27 = .ok (.iload_n 3, 1) := by decide +kernel
theorem dX11_takeThings_28 : decode cX11_takeThings 28 = .ok (.invokevirtual 233, 3) := by decide +kernel
theorem dX11_takeThings_31 : decode cX11_takeThings 31 = .ok (.iconst (-1), 1) := by decide +kernel
theorem dX11_takeThings_32 : decode cX11_takeThings 32 = .ok (.if_icmp .eq 20, 3) := by decide +kernel
theorem dX11_takeThings_35 : decode cX11_takeThings 35 = .ok (.aload 4, 2) := by decide +kernel
theorem dX11_takeThings_37 : decode cX11_takeThings 37 = .ok (.getfield 211, 3) := by decide +kernel
theorem dX11_takeThings_40 : decode cX11_takeThings 40 = .ok (.aload_n 1, 1) := by decide +kernel
theorem dX11_takeThings_41 : decode cX11_takeThings 41 = .ok (.getfield 371, 3) := by decide +kernel
theorem dX11_takeThings_44 : decode cX11_takeThings 44 = .ok (.aload_n 1, 1) := by decide +kernel
theorem dX11_takeThings_45 : decode cX11_takeThings 45 = .ok (.invokevirtual 374, 3) := by decide +kernel
theorem dX11_takeThings_48 : decode cX11_takeThings 48 = .ok (.iload_n 2, 1) := by decide +kernel
theorem dX11_takeThings_49 : decode cX11_takeThings 49 = .ok (.invokevirtual 361, 3) := by decide +kernel
theorem dX11_takeThings_52 : decode cX11_takeThings 52 = .ok (.iinc 3 1, 3) := by decide +kernel
theorem dX11_takeThings_55 : decode cX11_takeThings 55 = .ok (.goto (-53), 3) := by decide +kernel
theorem dX11_takeThings_58 : decode cX11_takeThings 58 = .ok (.return_, 1) := by decide +kernel
set_option maxRecDepth 20000 in
theorem ggX11_releaseThings_Jx4a65c_size_8abf5 : GoodIn wsX11_releaseThings wsJx4a65c_size_8abf5 := goodIn_r _ [8, 9, 54, 55, 56] (by decide +kernel) (by decide +kernel)
set_option maxRecDepth 20000 in
theorem gX11_releaseThings_Jx4a65c_size_8abf5 : GoodIn wsX11_releaseThings (wsV RX11 90 RJx4a65c yJx4a65c_size_8abf5 wsJx4a65c_size_8abf5) := goodIn_app (goodIn_of _ (by decide +kernel)) ggX11_releaseThings_Jx4a65c_size_8abf5
set_option maxRecDepth 20000 in
theorem ggX11_releaseThings_Jx4a65c_get_915e3 : GoodIn wsX11_releaseThings wsJx4a65c_get_915e3 := goodIn_r _ [13, 9, 14, 15, 16, 17, 18, 19, 20, 21, 22, 23, 24, 7, 25, 26, 54, 55, 56] (by decide +kernel) (by decide +kernel)
set_option maxRecDepth 20000 in
theorem gX11_releaseThings_Jx4a65c_get_915e3 : GoodIn wsX11_releaseThings (wsV RX11 308 RJx4a65c yJx4a65c_get_915e3 wsJx4a65c_get_915e3) := goodIn_app (goodIn_of _ (by decide +kernel)) ggX11_releaseThings_Jx4a65c_get_915e3
set_option maxRecDepth 20000 in
theorem ggX11_releaseThings_X1_release : GoodIn wsX11_releaseThings wsX1_release := goodIn_r _ [31, 32, 33, 57, 58] (by decide +kernel) (by decide +kernel)
set_option maxRecDepth 20000 in
theorem gX11_releaseThings_X1_release : GoodIn wsX11_releaseThings (wsV RX11 377 RX1 yX1_release wsX1_release) := goodIn_app (goodIn_of _ (by decide +kernel)) ggX11_releaseThings_X1_release
theorem dX11_releaseThings_0 : decode cX11_releaseThings 0 = .ok (.iconst 0, 1) := by decide +kernel
theorem dX11_releaseThings_1 : decode cX11_releaseThings 1 = .ok (.istore_n 2, 1) := by decide +kernel
theorem dX11_releaseThings_2 : decode cX11_releaseThings 2 = .ok (.iload_n 2, 1) := by decide +kernel
theorem dX11_releaseThings_3 : decode cX11_releaseThings 3 = .ok (.aload_n 0, 1) := by decide +kernel
theorem dX11_releaseThings_4 : decode cX11_releaseThings 4 = .ok (.getfield 26, 3) := by decide +kernel
theorem dX11_releaseThings_7 : decode cX11_releaseThings 7 = .ok (.invokevirtual 90, 3) := by decide +kernel
theorem dX11_releaseThings_10 : decode cX11_releaseThings 10 = .ok (.if_icmp .ge 27, 3) := by decide +kernel
theorem dX11_releaseThings_13 : decode cX11_releaseThings 13 = .ok (.aload_n 0, 1) := by decide +kernel
theorem dX11_releaseThings_14 : decode cX11_releaseThings 14 = .ok (.getfield 26, 3) := by decide +kernel
theorem dX11_releaseThings_17 : decode cX11_releaseThings 17 = .ok (.iload_n 2, 1) := by decide +kernel
theorem dX11_releaseThings_18 : decode cX11_releaseThings 18 = .ok (.invokevirtual 308, 3) := by decide +kernel
theorem dX11_releaseThings_21 : decode cX11_releaseThings 21 = .ok (.checkcast 85, 3) := by decide +kernel
theorem dX11_releaseThings_24 : decode cX11_releaseThings 24 = .ok (.getfield 211, 3) := by decide +kernel
theorem dX11_releaseThings_27 : decode cX11_releaseThings 27 = .ok (.iload_n 1, 1) := by decide +kernel
theorem dX11_releaseThings_28 : decode cX11_releaseThings 28 = .ok (.invokevirtual 377, 3) := by decide +kernel
theorem dX11_releaseThings_31 : decode cX11_releaseThings 31 = .ok (.iinc 2 1, 3) := by decide +kernel
theorem dX11_releaseThings_34 : decode cX11_releaseThings 34 = .ok (.goto (-32), 3) := by decide +kernel
theorem dX11_releaseThings_37 : decode cX11_releaseThings 37 = .ok (.return_, 1) := by decide +kernel
set_option maxRecDepth 20000 in
theorem ggX11_releaseCouriers_Jx4a65c_size_8abf5 : GoodIn wsX11_releaseCouriers wsJx4a65c_size_8abf5 := goodIn_r _ [8, 9, 48, 49, 50] (by decide +kernel) (by decide +kernel)
set_option maxRecDepth 20000 in
theorem gX11_releaseCouriers_Jx4a65c_size_8abf5 : GoodIn wsX11_releaseCouriers (wsV RX11 90 RJx4a65c yJx4a65c_size_8abf5 wsJx4a65c_size_8abf5) := goodIn_app (goodIn_of _ (by decide +kernel)) ggX11_releaseCouriers_Jx4a65c_size_8abf5
set_option maxRecDepth 20000 in
theorem ggX11_releaseCouriers_Jx4a65c_get_915e3 : GoodIn wsX11_releaseCouriers wsJx4a65c_get_915e3 := goodIn_r _ [13, 9, 14, 15, 16, 17, 18, 19, 20, 21, 22, 23, 24, 7, 25, 26, 48, 49, 50] (by decide +kernel) (by decide +kernel)
set_option maxRecDepth 20000 in
theorem gX11_releaseCouriers_Jx4a65c_get_915e3 : GoodIn wsX11_releaseCouriers (wsV RX11 308 RJx4a65c yJx4a65c_get_915e3 wsJx4a65c_get_915e3) := goodIn_app (goodIn_of _ (by decide +kernel)) ggX11_releaseCouriers_Jx4a65c_get_915e3
set_option maxRecDepth 20000 in
theorem ggX11_releaseCouriers_X1_release : GoodIn wsX11_releaseCouriers wsX1_release := goodIn_r _ [31, 32, 33, 51, 52] (by decide +kernel) (by decide +kernel)
set_option maxRecDepth 20000 in
theorem gX11_releaseCouriers_X1_release : GoodIn wsX11_releaseCouriers (wsV RX11 377 RX1 yX1_release wsX1_release) := goodIn_app (goodIn_of _ (by decide +kernel)) ggX11_releaseCouriers_X1_release
theorem dX11_releaseCouriers_0 : decode cX11_releaseCouriers 0 = .ok (.iconst 0, 1) := by decide +kernel
theorem dX11_releaseCouriers_1 : decode cX11_releaseCouriers 1 = .ok (.istore_n 2, 1) := by decide +kernel
theorem dX11_releaseCouriers_2 : decode cX11_releaseCouriers 2 = .ok (.iload_n 2, 1) := by decide +kernel
theorem dX11_releaseCouriers_3 : decode cX11_releaseCouriers 3 = .ok (.aload_n 0, 1) := by decide +kernel
theorem dX11_releaseCouriers_4 : decode cX11_releaseCouriers 4 = .ok (.getfield 33, 3) := by decide +kernel
theorem dX11_releaseCouriers_7 : decode cX11_releaseCouriers 7 = .ok (.invokevirtual 90, 3) := by decide +kernel
theorem dX11_releaseCouriers_10 : decode cX11_releaseCouriers 10 = .ok (.if_icmp .ge 27, 3) := by decide +kernel
theorem dX11_releaseCouriers_13 : decode cX11_releaseCouriers 13 = .ok (.aload_n 0, 1) := by decide +kernel
theorem dX11_releaseCouriers_14 : decode cX11_releaseCouriers 14 = .ok (.getfield 33, 3) := by decide +kernel
theorem dX11_releaseCouriers_17 : decode cX11_releaseCouriers 17 = .ok (.iload_n 2, 1) := by decide +kernel
theorem dX11_releaseCouriers_18 : decode cX11_releaseCouriers 18 = .ok (.invokevirtual 308, 3) := by decide +kernel
theorem dX11_releaseCouriers_21 : decode cX11_releaseCouriers 21 = .ok (.checkcast 115, 3) := by decide +kernel
theorem dX11_releaseCouriers_24 : decode cX11_releaseCouriers 24 = .ok (.getfield 252, 3) := by decide +kernel
theorem dX11_releaseCouriers_27 : decode cX11_releaseCouriers 27 = .ok (.iload_n 1, 1) := by decide +kernel
theorem dX11_releaseCouriers_28 : decode cX11_releaseCouriers 28 = .ok (.invokevirtual 377, 3) := by decide +kernel
theorem dX11_releaseCouriers_31 : decode cX11_releaseCouriers 31 = .ok (.iinc 2 1, 3) := by decide +kernel
theorem dX11_releaseCouriers_34 : decode cX11_releaseCouriers 34 = .ok (.goto (-32), 3) := by decide +kernel
theorem dX11_releaseCouriers_37 : decode cX11_releaseCouriers 37 = .ok (.return_, 1) := by decide +kernel
set_option maxRecDepth 20000 in
theorem ggX11_bearerOf_X10_reportAt : GoodIn wsX11_bearerOf wsX10_reportAt := goodIn_r _ [11, 12, 13, 14, 15, 16, 17, 18, 19, 20, 21, 22, 23, 24, 25, 26, 27, 28, 29, 30, 31, 32, 33, 34, 35, 36, 93, 94, 95, 96, 97, 98, 99, 100, 101, 106, 107, 108] (by decide +kernel) (by decide +kernel)
set_option maxRecDepth 20000 in
theorem gX11_bearerOf_X10_reportAt : GoodIn wsX11_bearerOf (wsV RX11 274 RX10 yX10_reportAt wsX10_reportAt) := goodIn_app (goodIn_of _ (by decide +kernel)) ggX11_bearerOf_X10_reportAt
set_option maxRecDepth 20000 in
theorem ggX11_bearerOf_Jx4a65c_size_8abf5 : GoodIn wsX11_bearerOf wsJx4a65c_size_8abf5 := goodIn_r _ [18, 19, 106, 107, 108] (by decide +kernel) (by decide +kernel)
set_option maxRecDepth 20000 in
theorem gX11_bearerOf_Jx4a65c_size_8abf5 : GoodIn wsX11_bearerOf (wsV RX11 90 RJx4a65c yJx4a65c_size_8abf5 wsJx4a65c_size_8abf5) := goodIn_app (goodIn_of _ (by decide +kernel)) ggX11_bearerOf_Jx4a65c_size_8abf5
set_option maxRecDepth 20000 in
theorem ggX11_bearerOf_Jx4a65c_get_915e3 : GoodIn wsX11_bearerOf wsJx4a65c_get_915e3 := goodIn_r _ [23, 19, 24, 25, 26, 27, 28, 29, 30, 31, 32, 33, 34, 17, 35, 36, 106, 107, 108] (by decide +kernel) (by decide +kernel)
set_option maxRecDepth 20000 in
theorem gX11_bearerOf_Jx4a65c_get_915e3 : GoodIn wsX11_bearerOf (wsV RX11 308 RJx4a65c yJx4a65c_get_915e3 wsJx4a65c_get_915e3) := goodIn_app (goodIn_of _ (by decide +kernel)) ggX11_bearerOf_Jx4a65c_get_915e3
set_option maxRecDepth 20000 in
theorem ggX11_bearerOf_X4_parcelWith : GoodIn wsX11_bearerOf wsX4_parcelWith := goodIn_r _ [43, 44, 45, 46, 15, 16, 17, 18, 19, 47, 21, 22, 23, 24, 25, 26, 27, 28, 29, 30, 31, 32, 33, 34, 35, 36, 48, 49, 50, 51, 52, 53, 54, 55, 56, 57, 88, 89, 90, 91, 92, 106, 107, 108, 109, 110, 111, 112, 93, 94, 95, 96, 97, 98, 99, 100, 101] (by decide +kernel) (by decide +kernel)
set_option maxRecDepth 20000 in
theorem gX11_bearerOf_X4_parcelWith : GoodIn wsX11_bearerOf (wsV RX11 233 RX4 yX4_parcelWith wsX4_parcelWith) := goodIn_app (goodIn_of _ (by decide +kernel)) ggX11_bearerOf_X4_parcelWith
set_option maxRecDepth 20000 in
theorem ggX11_bearerOf_X4_daysBetween : GoodIn wsX11_bearerOf wsX4_daysBetween := goodIn_r _ [61, 62, 63, 64, 65, 66, 67, 68, 69, 70, 71, 72, 42, 73, 74, 75, 76, 88, 89, 90, 91, 92, 113, 114, 115, 116, 117] (by decide +kernel) (by decide +kernel)
set_option maxRecDepth 20000 in
theorem gX11_bearerOf_X4_daysBetween : GoodIn wsX11_bearerOf (wsV RX11 384 RX4 yX4_daysBetween wsX4_daysBetween) := goodIn_app (goodIn_of _ (by decide +kernel)) ggX11_bearerOf_X4_daysBetween
theorem dX11_bearerOf_0 : decode cX11_bearerOf 0 = .ok (.aload_n 1, 1) := by decide +kernel
theorem dX11_bearerOf_1 : decode cX11_bearerOf 1 = .ok (.iload_n 2, 1) := by decide +kernel
theorem dX11_bearerOf_2 : decode cX11_bearerOf 2 = .ok (.invokevirtual 274, 3) := by decide +kernel
theorem dX11_bearerOf_5 : decode cX11_bearerOf 5 = .ok (.astore_n 3, 1) := by decide +kernel
theorem dX11_bearerOf_6 : decode cX11_bearerOf 6 = .ok (.aload_n 1, 1) := by decide +kernel
theorem dX11_bearerOf_7 : decode cX11_bearerOf 7 = .ok (.iload_n 2, 1) := by decide +kernel
theorem dX11_bearerOf_8 : decode cX11_bearerOf 8 = .ok (.iconst 1, 1) := by decide +kernel
theorem dX11_bearerOf_9 : decode cX11_bearerOf 9 = .ok (.isub, 1) := by decide +kernel
theorem dX11_bearerOf_10 : decode cX11_bearerOf 10 = .ok (.invokevirtual 274, 3) := by decide +kernel
theorem dX11_bearerOf_13 : decode cX11_bearerOf 13 = .ok (.astore 4, 2) := by decide +kernel
theorem dX11_bearerOf_15 : decode cX11_bearerOf 15 = .ok (.aload_n 3, 1) := by decide +kernel
theorem dX11_bearerOf_16 : decode cX11_bearerOf 16 = .ok (.ifnull 8, 3) := by decide +kernel
theorem dX11_bearerOf_19 : decode cX11_bearerOf 19 = .ok (.aload 4, 2) := by decide +kernel
theorem dX11_bearerOf_21 : decode cX11_bearerOf 21 = .ok (.ifnonnull 5, 3) := by decide +kernel
theorem dX11_bearerOf_24 : decode cX11_bearerOf 24 = .ok (.iconst (-1), 1) := by decide +kernel
theorem dX11_bearerOf_25 : decode cX11_bearerOf 25 = .ok (.ireturn, 1) := by decide +kernel
theorem dX11_bearerOf_26 : decode cX11_bearerOf 26 = .ok (.iconst (-1), 1) := by decide +kernel
theorem dX11_bearerOf_27 : decode cX11_bearerOf 27 = .ok (.istore 5, 2) := by decide +kernel
theorem dX11_bearerOf_29 : decode cX11_bearerOf 29 = .ok (.iconst 0, 1) := by decide +kernel
theorem dX11_bearerOf_30 : decode cX11_bearerOf 30 = .ok (.istore 6, 2) := by decide +kernel
theorem dX11_bearerOf_32 : decode cX11_bearerOf 32 = .ok (.sipush 1000, 3) := by decide +kernel
theorem dX11_bearerOf_35 : decode cX11_bearerOf 35 = .ok (.istore 7, 2) := by decide +kernel
theorem dX11_bearerOf_37 : decode cX11_bearerOf 37 = .ok (.iconst 0, 1) := by decide +kernel
theorem dX11_bearerOf_38 : decode cX11_bearerOf 38 = .ok (.istore 8, 2) := by decide +kernel
theorem dX11_bearerOf_40 : decode cX11_bearerOf 40 = .ok (.iload 8, 2) := by decide +kernel
theorem dX11_bearerOf_42 : decode cX11_bearerOf 42 = .ok (.aload_n 0, 1) := by decide +kernel
theorem dX11_bearerOf_43 : decode cX11_bearerOf 43 = .ok (.getfield 36, 3) := by decide +kernel
theorem dX11_bearerOf_46 : decode cX11_bearerOf 46 = .ok (.invokevirtual 90, 3) := by decide +kernel
theorem dX11_bearerOf_49 : decode cX11_bearerOf 49 = .ok (.if_icmp .ge 121, 3) := by decide +kernel
theorem dX11_bearerOf_52 : decode cX11_bearerOf 52 = .ok (.aload_n 0, 1) := by decide +kernel
theorem dX11_bearerOf_53 : decode cX11_bearerOf 53 = .ok (.getfield 36, 3) := by decide +kernel
theorem dX11_bearerOf_56 : decode cX11_bearerOf 56 = .ok (.iload 8, 2) := by decide +kernel
theorem dX11_bearerOf_58 : decode cX11_bearerOf 58 = .ok (.invokevirtual 308, 3) := by decide +kernel
theorem dX11_bearerOf_61 : decode cX11_bearerOf 61 = .ok (.checkcast 194, 3) := by decide +kernel
theorem dX11_bearerOf_64 : decode cX11_bearerOf 64 = .ok (.astore 9, 2) := by decide +kernel
theorem dX11_bearerOf_66 : decode cX11_bearerOf 66 = .ok (.aload 9, 2) := by decide +kernel
theorem dX11_bearerOf_68 : decode cX11_bearerOf 68 = .ok (.getfield 193, 3) := by decide +kernel
theorem dX11_bearerOf_71 : decode cX11_bearerOf 71 = .ok (.ifCond .eq 93, 3) := by decide +kernel
theorem dX11_bearerOf_74 : decode cX11_bearerOf 74 = .ok (.aload 9, 2) := by decide +kernel
theorem dX11_bearerOf_76 : decode cX11_bearerOf 76 = .ok (.aload_n 1, 1) := by decide +kernel
theorem dX11_bearerOf_77 : decode cX11_bearerOf 77 = .ok (.getfield 380, 3) := by decide +kernel
theorem dX11_bearerOf_80 : decode cX11_bearerOf 80 = .ok (.invokevirtual 233, 3) := by decide +kernel
theorem dX11_bearerOf_83 : decode cX11_bearerOf 83 = .ok (.iconst (-1), 1) := by decide +kernel
theorem dX11_bearerOf_84 : decode cX11_bearerOf 84 = .ok (.if_icmp .ne 6, 3) := by decide +kernel
theorem dX11_bearerOf_87 : decode cX11_bearerOf 87 = .ok (.goto 77, 3) := by decide +kernel
theorem dX11_bearerOf_90 : decode cX11_bearerOf 90 = .ok (.aload 9, 2) := by decide +kernel
theorem dX11_bearerOf_92 : decode cX11_bearerOf 92 = .ok (.aload 4, 2) := by decide +kernel
theorem dX11_bearerOf_94 : decode cX11_bearerOf 94 = .ok (.getfield 381, 3) := by decide +kernel
theorem dX11_bearerOf_97 : decode cX11_bearerOf 97 = .ok (.iconst 1, 1) := by decide +kernel
theorem dX11_bearerOf_98 : decode cX11_bearerOf 98 = .ok (.iadd, 1) := by decide +kernel
theorem dX11_bearerOf_99 : decode cX11_bearerOf 99 = .ok (.aload_n 3, 1) := by decide +kernel
theorem dX11_bearerOf_100 : decode cX11_bearerOf 100 = .ok (.getfield 381, 3) := by decide +kernel
theorem dX11_bearerOf_103 : decode cX11_bearerOf 103 = .ok (.invokevirtual 384, 3) := by decide +kernel
theorem dX11_bearerOf_106 : decode cX11_bearerOf 106 = .ok (.istore 10, 2) := by decide +kernel
theorem dX11_bearerOf_108 : decode cX11_bearerOf 108 = .ok (.iload 10, 2) := by decide +kernel
theorem dX11_bearerOf_110 : decode cX11_bearerOf 110 = .ok (.ifCond .le 24, 3) := by decide +kernel
theorem dX11_bearerOf_113 : decode cX11_bearerOf 113 = .ok (.iload 10, 2) := by decide +kernel
theorem dX11_bearerOf_115 : decode cX11_bearerOf 115 = .ok (.iload 6, 2) := by decide +kernel
theorem dX11_bearerOf_117 : decode cX11_bearerOf 117 = .ok (.if_icmp .ne 17, 3) := by decide +kernel
theorem dX11_bearerOf_120 : decode cX11_bearerOf 120 = .ok (.aload 9, 2) := by decide +kernel
theorem dX11_bearerOf_122 : decode cX11_bearerOf 122 = .ok (.getfield 371, 3) := by decide +kernel
theorem dX11_bearerOf_125 : decode cX11_bearerOf 125 = .ok (.iload 7, 2) := by decide +kernel
theorem dX11_bearerOf_127 : decode cX11_bearerOf 127 = .ok (.if_icmp .ge 7, 3) := by decide +kernel
theorem dX11_bearerOf_130 : decode cX11_bearerOf 130 = .ok (.iconst 1, 1) := by decide +kernel
theorem dX11_bearerOf_131 : decode cX11_bearerOf 131 = .ok (.goto 4, 3) := by decide +kernel
theorem dX11_bearerOf_134 : decode cX11_bearerOf 134 = .ok (.iconst 0, 1) := by decide +kernel
theorem dX11_bearerOf_135 : decode cX11_bearerOf 135 = .ok (.istore 11, 2) := by decide +kernel
theorem dX11_bearerOf_137 : decode cX11_bearerOf 137 = .ok (.iload 10, 2) := by decide +kernel
theorem dX11_bearerOf_139 : decode cX11_bearerOf 139 = .ok (.iload 6, 2) := by decide +kernel
theorem dX11_bearerOf_141 : decode cX11_bearerOf 141 = .ok (.if_icmp .gt 8, 3) := by decide +kernel
theorem dX11_bearerOf_144 : decode cX11_bearerOf 144 = .ok (.iload 11, 2) := by decide +kernel
theorem dX11_bearerOf_146 : decode cX11_bearerOf 146 = .ok (.ifCond .eq 18, 3) := by decide +kernel
theorem dX11_bearerOf_149 : decode cX11_bearerOf 149 = .ok (.iload 8, 2) := by decide +kernel
theorem dX11_bearerOf_151 : decode cX11_bearerOf 151 = .ok (.istore 5, 2) := by decide +kernel
theorem dX11_bearerOf_153 : decode cX11_bearerOf 153 = .ok (.iload 10, 2) := by decide +kernel
theorem dX11_bearerOf_155 : decode cX11_bearerOf 155 = .ok (.istore 6, 2) := by decide +kernel
theorem dX11_bearerOf_157 : decode cX11_bearerOf 157 = .ok (.aload 9, 2) := by decide +kernel
theorem dX11_bearerOf_159 : decode cX11_bearerOf 159 = .ok (.getfield 371, 3) := by decide +kernel
theorem dX11_bearerOf_162 : decode cX11_bearerOf 162 = .ok (.istore 7, 2) := by decide +kernel
theorem dX11_bearerOf_164 : decode cX11_bearerOf 164 = .ok (.iinc 8 1, 3) := by decide +kernel
theorem dX11_bearerOf_167 : decode cX11_bearerOf 167 = .ok (.goto (-127), 3) := by decide +kernel
theorem dX11_bearerOf_170 : decode cX11_bearerOf 170 = .ok (.iload 5, 2) := by decide +kernel
theorem dX11_bearerOf_172 : decode cX11_bearerOf 172 = .ok (.ireturn, 1) := by decide +kernel
set_option maxRecDepth 20000 in
theorem ggX11_damagesBorneBy_Jx4a65c_size_8abf5 : GoodIn wsX11_damagesBorneBy wsJx4a65c_size_8abf5 := goodIn_r _ [8, 9, 138, 139, 140] (by decide +kernel) (by decide +kernel)
set_option maxRecDepth 20000 in
theorem gX11_damagesBorneBy_Jx4a65c_size_8abf5 : GoodIn wsX11_damagesBorneBy (wsV RX11 90 RJx4a65c yJx4a65c_size_8abf5 wsJx4a65c_size_8abf5) := goodIn_app (goodIn_of _ (by decide +kernel)) ggX11_damagesBorneBy_Jx4a65c_size_8abf5
set_option maxRecDepth 20000 in
theorem ggX11_damagesBorneBy_Jx4a65c_get_915e3 : GoodIn wsX11_damagesBorneBy wsJx4a65c_get_915e3 := goodIn_r _ [13, 9, 14, 15, 16, 17, 18, 19, 20, 21, 22, 23, 24, 7, 25, 26, 138, 139, 140] (by decide +kernel) (by decide +kernel)
set_option maxRecDepth 20000 in
theorem gX11_damagesBorneBy_Jx4a65c_get_915e3 : GoodIn wsX11_damagesBorneBy (wsV RX11 308 RJx4a65c yJx4a65c_get_915e3 wsJx4a65c_get_915e3) := goodIn_app (goodIn_of _ (by decide +kernel)) ggX11_damagesBorneBy_Jx4a65c_get_915e3
set_option maxRecDepth 20000 in
theorem ggX11_damagesBorneBy_X10_reportsTold : GoodIn wsX11_damagesBorneBy wsX10_reportsTold := goodIn_r _ [31, 32, 33, 5, 6, 7, 8, 9, 141, 142, 143, 144, 145, 146, 147, 148, 149, 138, 139, 140] (by decide +kernel) (by decide +kernel)
set_option maxRecDepth 20000 in
theorem gX11_damagesBorneBy_X10_reportsTold : GoodIn wsX11_damagesBorneBy (wsV RX11 171 RX10 yX10_reportsTold wsX10_reportsTold) := goodIn_app (goodIn_of _ (by decide +kernel)) ggX11_damagesBorneBy_X10_reportsTold
set_option maxRecDepth 20000 in
theorem ggX11_damagesBorneBy_X11_bearerOf : GoodIn wsX11_damagesBorneBy wsX11_bearerOf := goodIn_r _ [38, 39, 40, 41, 42, 43, 44, 45, 46, 47, 30, 48, 32, 49, 33, 5, 6, 7, 8, 9, 50, 11, 12, 13, 14, 15, 16, 17, 18, 19, 20, 21, 22, 23, 24, 25, 26, 4, 10, 51, 52, 53, 54, 55, 56, 57, 58, 59, 60, 61, 62, 63, 64, 65, 66, 67, 68, 69, 70, 71, 72, 73, 74, 75, 76, 77, 78, 79, 80, 81, 82, 83, 84, 85, 86, 87, 88, 127, 128, 129, 130, 131, 132, 133, 134, 135, 136, 137, 150, 151, 152, 153, 154, 141, 142, 143, 144, 145, 146, 147, 148, 149, 155, 156, 157, 158, 138, 139, 140, 159, 160, 161, 162, 163, 164, 165, 166, 167] (by decide +kernel) (by decide +kernel)
set_option maxRecDepth 20000 in
theorem gX11_damagesBorneBy_X11_bearerOf : GoodIn wsX11_damagesBorneBy (wsV RX11 288 RX11 yX11_bearerOf wsX11_bearerOf) := goodIn_app (goodIn_of _ (by decide +kernel)) ggX11_damagesBorneBy_X11_bearerOf
set_option maxRecDepth 20000 in
theorem ggX11_damagesBorneBy_X10_damageTold : GoodIn wsX11_damagesBorneBy wsX10_damageTold := goodIn_r _ [92, 93, 94, 46, 47, 30, 48, 32, 49, 33, 5, 6, 7, 8, 9, 50, 11, 12, 13, 14, 15, 16, 17, 18, 19, 20, 21, 22, 23, 24, 25, 26, 95, 96, 97, 98, 99, 100, 101, 102, 80, 76, 81, 103, 104, 105, 106, 107, 37, 108, 109, 110, 111, 112, 113, 114, 115, 116, 117, 118, 119, 120, 121, 122, 123, 124, 125, 126, 155, 156, 157, 158, 141, 142, 143, 144, 145, 146, 147, 148, 149, 138, 139, 140, 168, 169, 170] (by decide +kernel) (by decide +kernel)
set_option maxRecDepth 20000 in
theorem gX11_damagesBorneBy_X10_damageTold : GoodIn wsX11_damagesBorneBy (wsV RX11 285 RX10 yX10_damageTold wsX10_damageTold) := goodIn_app (goodIn_of _ (by decide +kernel)) ggX11_damagesBorneBy_X10_damageTold
theorem dX11_damagesBorneBy_0 : decode cX11_damagesBorneBy 0 = .ok (.lconst 0, 1) := by decide +kernel
theorem dX11_damagesBorneBy_1 : decode cX11_damagesBorneBy 1 = .ok (.lstore_n 2, 1) := by decide +kernel
theorem dX11_damagesBorneBy_2 : decode cX11_damagesBorneBy 2 = .ok (.iconst 0, 1) := by decide +kernel
theorem dX11_damagesBorneBy_3 : decode cX11_damagesBorneBy 3 = .ok (.istore 4, 2) := by decide +kernel
theorem dX11_damagesBorneBy_5 : decode cX11_damagesBorneBy 5 = .ok (.iload 4, 2) := by decide +kernel
theorem dX11_damagesBorneBy_7 : decode cX11_damagesBorneBy 7 = .ok (.aload_n 0, 1) := by decide +kernel
theorem dX11_damagesBorneBy_8 : decode cX11_damagesBorneBy 8 = .ok (.getfield 26, 3) := by decide +kernel
theorem dX11_damagesBorneBy_11 : decode cX11_damagesBorneBy 11 = .ok (.invokevirtual 90, 3) := by decide +kernel
theorem dX11_damagesBorneBy_14 : decode cX11_damagesBorneBy 14 = .ok (.if_icmp .ge 65, 3) := by decide +kernel
theorem dX11_damagesBorneBy_17 : decode cX11_damagesBorneBy 17 = .ok (.aload_n 0, 1) := by decide +kernel
theorem dX11_damagesBorneBy_18 : decode cX11_damagesBorneBy 18 = .ok (.getfield 26, 3) := by decide +kernel
theorem dX11_damagesBorneBy_21 : decode cX11_damagesBorneBy 21 = .ok (.iload 4, 2) := by decide +kernel
theorem dX11_damagesBorneBy_23 : decode cX11_damagesBorneBy 23 = .ok (.invokevirtual 308, 3) := by decide +kernel
theorem dX11_damagesBorneBy_26 : decode cX11_damagesBorneBy 26 = .ok (.checkcast 85, 3) := by decide +kernel
theorem dX11_damagesBorneBy_29 : decode cX11_damagesBorneBy 29 = .ok (.astore 5, 2) := by decide +kernel
theorem dX11_damagesBorneBy_31 : decode cX11_damagesBorneBy 31 = .ok (.iconst 0, 1) := by decide +kernel
theorem dX11_damagesBorneBy_32 : decode cX11_damagesBorneBy 32 = .ok (.istore 6, 2) := by decide +kernel
theorem dX11_damagesBorneBy_34 : decode cX11_damagesBorneBy 34 = .ok (.iload 6, 2) := by decide +kernel
theorem dX11_damagesBorneBy_36 : decode cX11_damagesBorneBy 36 = .ok (.aload 5, 2) := by decide +kernel
theorem dX11_damagesBorneBy_38 : decode cX11_damagesBorneBy 38 = .ok (.invokevirtual 171, 3) := by decide +kernel
theorem dX11_damagesBorneBy_41 : decode cX11_damagesBorneBy 41 = .ok (.if_icmp .ge 32, 3) := by decide +kernel
theorem dX11_damagesBorneBy_44 : decode cX11_damagesBorneBy 44 = .ok (.aload_n 0, 1) := by decide +kernel
theorem dX11_damagesBorneBy_45 : decode cX11_damagesBorneBy 45 = .ok (.aload 5, 2) := by decide +kernel
theorem dX11_damagesBorneBy_47 : decode cX11_damagesBorneBy 47 = .ok (.iload 6, 2) := by decide +kernel
theorem dX11_damagesBorneBy_49 : decode cX11_damagesBorneBy 49 = .ok (.invokevirtual 288, 3) := by decide +kernel
theorem dX11_damagesBorneBy_52 : decode cX11_damagesBorneBy 52 = .ok (.iload_n 1, 1) := by decide +kernel
theorem dX11_damagesBorneBy_53 : decode cX11_damagesBorneBy 53 = .ok (.if_icmp .ne 14, 3) := by decide +kernel
theorem dX11_damagesBorneBy_56 : decode cX11_damagesBorneBy 56 = .ok (.lload_n 2, 1) := by decide +kernel
theorem dX11_damagesBorneBy_57 : decode cX11_damagesBorneBy 57 = .ok (.aload 5, 2) := by decide +kernel
theorem dX11_damagesBorneBy_59 : decode cX11_damagesBorneBy 59 = .ok (.iload 6, 2) := by decide +kernel
theorem dX11_damagesBorneBy_61 : decode cX11_damagesBorneBy 61 = .ok (.invokevirtual 285, 3) := by decide +kernel
theorem dX11_damagesBorneBy_64 : decode cX11_damagesBorneBy 64 = .ok (.i2l, 1) := by decide +kernel
theorem dX11_damagesBorneBy_65 : decode cX11_damagesBorneBy 65 = .ok (.ladd, 1) := by decide +kernel
theorem dX11_damagesBorneBy_66 : decode cX11_damagesBorneBy 66 = .ok (.lstore_n 2, 1) := by decide +kernel
theorem dX11_damagesBorneBy_67 : decode cX11_damagesBorneBy 67 = .ok (.iinc 6 1, 3) := by decide +kernel
theorem dX11_damagesBorneBy_70 : decode cX11_damagesBorneBy 70 = .ok (.goto (-36), 3) := by decide +kernel
theorem dX11_damagesBorneBy_73 : decode cX11_damagesBorneBy 73 = .ok (.iinc 4 1, 3) := by decide +kernel
theorem dX11_damagesBorneBy_76 : decode cX11_damagesBorneBy 76 = .ok (.goto (-71), 3) := by decide +kernel
theorem dX11_damagesBorneBy_79 : decode cX11_damagesBorneBy 79 = .ok (.lload_n 2, 1) := by decide +kernel
theorem dX11_damagesBorneBy_80 : decode cX11_damagesBorneBy 80 = .ok (.ldc2_w 387, 3) := by decide +kernel
theorem dX11_damagesBorneBy_83 : decode cX11_damagesBorneBy 83 = .ok (.ldiv, 1) := by decide +kernel
theorem dX11_damagesBorneBy_84 : decode cX11_damagesBorneBy 84 = .ok (.l2i, 1) := by decide +kernel
theorem dX11_damagesBorneBy_85 : decode cX11_damagesBorneBy 85 = .ok (.ireturn, 1) := by decide +kernel
theorem dX11_spelling_0 : decode cX11_spelling 0 = .ok (.iload_n 0, 1) := by decide +kernel
theorem dX11_spelling_1 : decode cX11_spelling 1 = .ok (.tableswitch 103 100 110 #[59, 63, 67, 71, 75, 79, 83, 87, 91, 95, 99], 59) := by decide +kernel
theorem dX11_spelling_60 : decode cX11_spelling 60 = .ok (.ldc_w 389, 3) := by decide +kernel
theorem dX11_spelling_63 : decode cX11_spelling 63 = .ok (.areturn, 1) := by decide +kernel
theorem dX11_spelling_64 : decode cX11_spelling 64 = .ok (.ldc_w 391, 3) := by decide +kernel
theorem dX11_spelling_67 : decode cX11_spelling 67 = .ok (.areturn, 1) := by decide +kernel
theorem dX11_spelling_68 : decode cX11_spelling 68 = .ok (.ldc_w 393, 3) := by decide +kernel
theorem dX11_spelling_71 : decode cX11_spelling 71 = .ok (.areturn, 1) := by decide +kernel
theorem dX11_spelling_72 : decode cX11_spelling 72 = .ok (.ldc_w 395, 3) := by decide +kernel
theorem dX11_spelling_75 : decode cX11_spelling 75 = .ok (.areturn, 1) := by decide +kernel
theorem dX11_spelling_76 : decode cX11_spelling 76 = .ok (.ldc_w 397, 3) := by decide +kernel
theorem dX11_spelling_79 : decode cX11_spelling 79 = .ok (.areturn, 1) := by decide +kernel
theorem dX11_spelling_80 : decode cX11_spelling 80 = .ok (.ldc_w 399, 3) := by decide +kernel
theorem dX11_spelling_83 : decode cX11_spelling 83 = .ok (.areturn, 1) := by decide +kernel
theorem dX11_spelling_84 : decode cX11_spelling 84 = .ok (.ldc_w 401, 3) := by decide +kernel
theorem dX11_spelling_87 : decode cX11_spelling 87 = .ok (.areturn, 1) := by decide +kernel
theorem dX11_spelling_88 : decode cX11_spelling 88 = .ok (.ldc_w 403, 3) := by decide +kernel
theorem dX11_spelling_91 : decode cX11_spelling 91 = .ok (.areturn, 1) := by decide +kernel
theorem dX11_spelling_92 : decode cX11_spelling 92 = .ok (.ldc_w 405, 3) := by decide +kernel
theorem dX11_spelling_95 : decode cX11_spelling 95 = .ok (.areturn, 1) := by decide +kernel
theorem dX11_spelling_96 : decode cX11_spelling 96 = .ok (.ldc_w 407, 3) := by decide +kernel
theorem dX11_spelling_99 : decode cX11_spelling 99 = .ok (.areturn, 1) := by decide +kernel
theorem dX11_spelling_100 : decode cX11_spelling 100 = .ok (.ldc_w 409, 3) := by decide +kernel
theorem dX11_spelling_103 : decode cX11_spelling 103 = .ok (.areturn, 1) := by decide +kernel
theorem dX11_spelling_104 : decode cX11_spelling 104 = .ok (.ldc_w 411, 3) := by decide +kernel
theorem dX11_spelling_107 : decode cX11_spelling 107 = .ok (.areturn, 1) := by decide +kernel
theorem dX11_gravity_0 : decode cX11_gravity 0 = .ok (.iload_n 0, 1) := by decide +kernel
theorem dX11_gravity_1 : decode cX11_gravity 1 = .ok (.tableswitch 33 0 2 #[27, 29, 31], 27) := by decide +kernel
theorem dX11_gravity_28 : decode cX11_gravity 28 = .ok (.iconst 3, 1) := by decide +kernel
theorem dX11_gravity_29 : decode cX11_gravity 29 = .ok (.ireturn, 1) := by decide +kernel
theorem dX11_gravity_30 : decode cX11_gravity 30 = .ok (.iconst 2, 1) := by decide +kernel
theorem dX11_gravity_31 : decode cX11_gravity 31 = .ok (.ireturn, 1) := by decide +kernel
theorem dX11_gravity_32 : decode cX11_gravity 32 = .ok (.iconst 5, 1) := by decide +kernel
theorem dX11_gravity_33 : decode cX11_gravity 33 = .ok (.ireturn, 1) := by decide +kernel
theorem dX11_gravity_34 : decode cX11_gravity 34 = .ok (.bipush 8, 2) := by decide +kernel
theorem dX11_gravity_36 : decode cX11_gravity 36 = .ok (.ireturn, 1) := by decide +kernel
theorem dX12_fine_0 : decode cX12_fine 0 = .ok (.aload_n 0, 1) := by decide +kernel
theorem dX12_fine_1 : decode cX12_fine 1 = .ok (.iconst 0, 1) := by decide +kernel
theorem dX12_fine_2 : decode cX12_fine 2 = .ok (.putfield 1, 3) := by decide +kernel
theorem dX12_fine_5 : decode cX12_fine 5 = .ok (.iload_n 1, 1) := by decide +kernel
theorem dX12_fine_6 : decode cX12_fine 6 = .ok (.ireturn, 1) := by decide +kernel
theorem dX12_no_0 : decode cX12_no 0 = .ok (.aload_n 0, 1) := by decide +kernel
theorem dX12_no_1 : decode cX12_no 1 = .ok (.iload_n 1, 1) := by decide +kernel
theorem dX12_no_2 : decode cX12_no 2 = .ok (.putfield 1, 3) := by decide +kernel
theorem dX12_no_5 : decode cX12_no 5 = .ok (.sipush (-9999), 3) := by decide +kernel
theorem dX12_no_8 : decode cX12_no 8 = .ok (.ireturn, 1) := by decide +kernel
theorem dX12_isIn_0 : decode cX12_isIn 0 = .ok (.iload_n 0, 1) := by decide +kernel
theorem dX12_isIn_1 : decode cX12_isIn 1 = .ok (.iload_n 1, 1) := by decide +kernel
theorem dX12_isIn_2 : decode cX12_isIn 2 = .ok (.if_icmp .lt 12, 3) := by decide +kernel
theorem dX12_isIn_5 : decode cX12_isIn 5 = .ok (.iload_n 0, 1) := by decide +kernel
theorem dX12_isIn_6 : decode cX12_isIn 6 = .ok (.iload_n 2, 1) := by decide +kernel
theorem dX12_isIn_7 : decode cX12_isIn 7 = .ok (.if_icmp .gt 7, 3) := by decide +kernel
theorem dX12_isIn_10 : decode cX12_isIn 10 = .ok (.iconst 1, 1) := by decide +kernel
theorem dX12_isIn_11 : decode cX12_isIn 11 = .ok (.goto 4, 3) := by decide +kernel
theorem dX12_isIn_14 : decode cX12_isIn 14 = .ok (.iconst 0, 1) := by decide +kernel
theorem dX12_isIn_15 : decode cX12_isIn 15 = .ok (.ireturn, 1) := by decide +kernel
set_option maxRecDepth 20000 in
theorem ggX12_isThing_X12_isIn : GoodIn wsX12_isThing wsX12_isIn := goodIn_r _ [5] (by decide +kernel) (by decide +kernel)
set_option maxRecDepth 20000 in
theorem gX12_isThing_X12_isIn : GoodIn wsX12_isThing (va_wsS RX12 10 yX12_isIn wsX12_isIn) := goodIn_app (goodIn_of _ (by decide +kernel)) ggX12_isThing_X12_isIn
theorem dX12_isThing_0 : decode cX12_isThing 0 = .ok (.iload_n 1, 1) := by decide +kernel
theorem dX12_isThing_1 : decode cX12_isThing 1 = .ok (.iconst 0, 1) := by decide +kernel
theorem dX12_isThing_2 : decode cX12_isThing 2 = .ok (.aload_n 0, 1) := by decide +kernel
theorem dX12_isThing_3 : decode cX12_isThing 3 = .ok (.getfield 7, 3) := by decide +kernel
theorem dX12_isThing_6 : decode cX12_isThing 6 = .ok (.iconst 1, 1) := by decide +kernel
theorem dX12_isThing_7 : decode cX12_isThing 7 = .ok (.isub, 1) := by decide +kernel
theorem dX12_isThing_8 : decode cX12_isThing 8 = .ok (.invokestatic 10, 3) := by decide +kernel
theorem dX12_isThing_11 : decode cX12_isThing 11 = .ok (.ireturn, 1) := by decide +kernel
set_option maxRecDepth 20000 in
theorem ggX12_isHouse_X12_isIn : GoodIn wsX12_isHouse wsX12_isIn := goodIn_r _ [5] (by decide +kernel) (by decide +kernel)
set_option maxRecDepth 20000 in
theorem gX12_isHouse_X12_isIn : GoodIn wsX12_isHouse (va_wsS RX12 10 yX12_isIn wsX12_isIn) := goodIn_app (goodIn_of _ (by decide +kernel)) ggX12_isHouse_X12_isIn
theorem dX12_isHouse_0 : decode cX12_isHouse 0 = .ok (.iload_n 1, 1) := by decide +kernel
theorem dX12_isHouse_1 : decode cX12_isHouse 1 = .ok (.iconst 0, 1) := by decide +kernel
theorem dX12_isHouse_2 : decode cX12_isHouse 2 = .ok (.aload_n 0, 1) := by decide +kernel
theorem dX12_isHouse_3 : decode cX12_isHouse 3 = .ok (.getfield 14, 3) := by decide +kernel
theorem dX12_isHouse_6 : decode cX12_isHouse 6 = .ok (.iconst 1, 1) := by decide +kernel
theorem dX12_isHouse_7 : decode cX12_isHouse 7 = .ok (.isub, 1) := by decide +kernel
theorem dX12_isHouse_8 : decode cX12_isHouse 8 = .ok (.invokestatic 10, 3) := by decide +kernel
theorem dX12_isHouse_11 : decode cX12_isHouse 11 = .ok (.ireturn, 1) := by decide +kernel
set_option maxRecDepth 20000 in
theorem ggX12_isCourier_X12_isIn : GoodIn wsX12_isCourier wsX12_isIn := goodIn_r _ [5] (by decide +kernel) (by decide +kernel)
set_option maxRecDepth 20000 in
theorem gX12_isCourier_X12_isIn : GoodIn wsX12_isCourier (va_wsS RX12 10 yX12_isIn wsX12_isIn) := goodIn_app (goodIn_of _ (by decide +kernel)) ggX12_isCourier_X12_isIn
theorem dX12_isCourier_0 : decode cX12_isCourier 0 = .ok (.iload_n 1, 1) := by decide +kernel
theorem dX12_isCourier_1 : decode cX12_isCourier 1 = .ok (.iconst 0, 1) := by decide +kernel
theorem dX12_isCourier_2 : decode cX12_isCourier 2 = .ok (.aload_n 0, 1) := by decide +kernel
theorem dX12_isCourier_3 : decode cX12_isCourier 3 = .ok (.getfield 17, 3) := by decide +kernel
theorem dX12_isCourier_6 : decode cX12_isCourier 6 = .ok (.iconst 1, 1) := by decide +kernel
theorem dX12_isCourier_7 : decode cX12_isCourier 7 = .ok (.isub, 1) := by decide +kernel
theorem dX12_isCourier_8 : decode cX12_isCourier 8 = .ok (.invokestatic 10, 3) := by decide +kernel
theorem dX12_isCourier_11 : decode cX12_isCourier 11 = .ok (.ireturn, 1) := by decide +kernel
set_option maxRecDepth 20000 in
theorem ggX12_isLoan_X12_isIn : GoodIn wsX12_isLoan wsX12_isIn := goodIn_r _ [6] (by decide +kernel) (by decide +kernel)
set_option maxRecDepth 20000 in
theorem gX12_isLoan_X12_isIn : GoodIn wsX12_isLoan (va_wsS RX12 10 yX12_isIn wsX12_isIn) := goodIn_app (goodIn_of _ (by decide +kernel)) ggX12_isLoan_X12_isIn
theorem dX12_isLoan_0 : decode cX12_isLoan 0 = .ok (.iload_n 1, 1) := by decide +kernel
theorem dX12_isLoan_1 : decode cX12_isLoan 1 = .ok (.iconst 0, 1) := by decide +kernel
theorem dX12_isLoan_2 : decode cX12_isLoan 2 = .ok (.aload_n 0, 1) := by decide +kernel
theorem dX12_isLoan_3 : decode cX12_isLoan 3 = .ok (.getfield 20, 3) := by decide +kernel
theorem dX12_isLoan_6 : decode cX12_isLoan 6 = .ok (.iconst 1, 1) := by decide +kernel
theorem dX12_isLoan_7 : decode cX12_isLoan 7 = .ok (.isub, 1) := by decide +kernel
theorem dX12_isLoan_8 : decode cX12_isLoan 8 = .ok (.invokestatic 10, 3) := by decide +kernel
theorem dX12_isLoan_11 : decode cX12_isLoan 11 = .ok (.ifCond .eq 16, 3) := by decide +kernel
theorem dX12_isLoan_14 : decode cX12_isLoan 14 = .ok (.aload_n 0, 1) := by decide +kernel
theorem dX12_isLoan_15 : decode cX12_isLoan 15 = .ok (.getfield 23, 3) := by decide +kernel
theorem dX12_isLoan_18 : decode cX12_isLoan 18 = .ok (.iload_n 1, 1) := by decide +kernel
theorem dX12_isLoan_19 : decode cX12_isLoan 19 = .ok (.baload, 1) := by decide +kernel
theorem dX12_isLoan_20 : decode cX12_isLoan 20 = .ok (.ifCond .eq 7, 3) := by decide +kernel
theorem dX12_isLoan_23 : decode cX12_isLoan 23 = .ok (.iconst 1, 1) := by decide +kernel
theorem dX12_isLoan_24 : decode cX12_isLoan 24 = .ok (.goto 4, 3) := by decide +kernel
theorem dX12_isLoan_27 : decode cX12_isLoan 27 = .ok (.iconst 0, 1) := by decide +kernel
theorem dX12_isLoan_28 : decode cX12_isLoan 28 = .ok (.ireturn, 1) := by decide +kernel
set_option maxRecDepth 20000 in
theorem ggX12_isDay_X12_isIn : GoodIn wsX12_isDay wsX12_isIn := goodIn_r _ [4] (by decide +kernel) (by decide +kernel)
set_option maxRecDepth 20000 in
theorem gX12_isDay_X12_isIn : GoodIn wsX12_isDay (va_wsS RX12 10 yX12_isIn wsX12_isIn) := goodIn_app (goodIn_of _ (by decide +kernel)) ggX12_isDay_X12_isIn
theorem dX12_isDay_0 : decode cX12_isDay 0 = .ok (.iload_n 0, 1) := by decide +kernel
theorem dX12_isDay_1 : decode cX12_isDay 1 = .ok (.iconst 0, 1) := by decide +kernel
theorem dX12_isDay_2 : decode cX12_isDay 2 = .ok (.sipush 999, 3) := by decide +kernel
theorem dX12_isDay_5 : decode cX12_isDay 5 = .ok (.invokestatic 10, 3) := by decide +kernel
theorem dX12_isDay_8 : decode cX12_isDay 8 = .ok (.ireturn, 1) := by decide +kernel
theorem dX12_isHad_0 : decode cX12_isHad 0 = .ok (.aload_n 0, 1) := by decide +kernel
theorem dX12_isHad_1 : decode cX12_isHad 1 = .ok (.getfield 27, 3) := by decide +kernel
theorem dX12_isHad_4 : decode cX12_isHad 4 = .ok (.iload_n 1, 1) := by decide +kernel
theorem dX12_isHad_5 : decode cX12_isHad 5 = .ok (.iaload, 1) := by decide +kernel
theorem dX12_isHad_6 : decode cX12_isHad 6 = .ok (.iload_n 2, 1) := by decide +kernel
theorem dX12_isHad_7 : decode cX12_isHad 7 = .ok (.ishr, 1) := by decide +kernel
theorem dX12_isHad_8 : decode cX12_isHad 8 = .ok (.iconst 1, 1) := by decide +kernel
theorem dX12_isHad_9 : decode cX12_isHad 9 = .ok (.iand, 1) := by decide +kernel
theorem dX12_isHad_10 : decode cX12_isHad 10 = .ok (.iconst 1, 1) := by decide +kernel
theorem dX12_isHad_11 : decode cX12_isHad 11 = .ok (.if_icmp .ne 7, 3) := by decide +kernel
theorem dX12_isHad_14 : decode cX12_isHad 14 = .ok (.iconst 1, 1) := by decide +kernel
theorem dX12_isHad_15 : decode cX12_isHad 15 = .ok (.goto 4, 3) := by decide +kernel
theorem dX12_isHad_18 : decode cX12_isHad 18 = .ok (.iconst 0, 1) := by decide +kernel
theorem dX12_isHad_19 : decode cX12_isHad 19 = .ok (.ireturn, 1) := by decide +kernel
theorem dX12_valueOn_0 : decode cX12_valueOn 0 = .ok (.aload_n 0, 1) := by decide +kernel
theorem dX12_valueOn_1 : decode cX12_valueOn 1 = .ok (.getfield 31, 3) := by decide +kernel
theorem dX12_valueOn_4 : decode cX12_valueOn 4 = .ok (.iload_n 1, 1) := by decide +kernel
theorem dX12_valueOn_5 : decode cX12_valueOn 5 = .ok (.iaload, 1) := by decide +kernel
theorem dX12_valueOn_6 : decode cX12_valueOn 6 = .ok (.istore_n 3, 1) := by decide +kernel
theorem dX12_valueOn_7 : decode cX12_valueOn 7 = .ok (.iconst (-1), 1) := by decide +kernel
theorem dX12_valueOn_8 : decode cX12_valueOn 8 = .ok (.istore 4, 2) := by decide +kernel
theorem dX12_valueOn_10 : decode cX12_valueOn 10 = .ok (.iconst 0, 1) := by decide +kernel
theorem dX12_valueOn_11 : decode cX12_valueOn 11 = .ok (.istore 5, 2) := by decide +kernel
theorem dX12_valueOn_13 : decode cX12_valueOn 13 = .ok (.iload 5, 2) := by decide +kernel
theorem dX12_valueOn_15 : decode cX12_valueOn 15 = .ok (.aload_n 0, 1) := by decide +kernel
theorem dX12_valueOn_16 : decode cX12_valueOn 16 = .ok (.getfield 34, 3) := by decide +kernel
theorem dX12_valueOn_19 : decode cX12_valueOn 19 = .ok (.if_icmp .ge 63, 3) := by decide +kernel
theorem dX12_valueOn_22 : decode cX12_valueOn 22 = .ok (.aload_n 0, 1) := by decide +kernel
theorem dX12_valueOn_23 : decode cX12_valueOn 23 = .ok (.getfield 37, 3) := by decide +kernel
theorem dX12_valueOn_26 : decode cX12_valueOn 26 = .ok (.iload 5, 2) := by decide +kernel
theorem dX12_valueOn_28 : decode cX12_valueOn 28 = .ok (.iaload, 1) := by decide +kernel
theorem dX12_valueOn_29 : decode cX12_valueOn 29 = .ok (.iload_n 1, 1) := by decide +kernel
theorem dX12_valueOn_30 : decode cX12_valueOn 30 = .ok (.if_icmp .ne 46, 3) := by decide +kernel
theorem dX12_valueOn_33 : decode cX12_valueOn 33 = .ok (.aload_n 0, 1) := by decide +kernel
theorem dX12_valueOn_34 : decode cX12_valueOn 34 = .ok (.getfield 40, 3) := by decide +kernel
theorem dX12_valueOn_37 : decode cX12_valueOn 37 = .ok (.iload 5, 2) := by decide +kernel
theorem dX12_valueOn_39 : decode cX12_valueOn 39 = .ok (.iaload, 1) := by decide +kernel
theorem dX12_valueOn_40 : decode cX12_valueOn 40 = .ok (.iload_n 2, 1) := by decide +kernel
theorem dX12_valueOn_41 : decode cX12_valueOn 41 = .ok (.if_icmp .gt 35, 3) := by decide +kernel
theorem dX12_valueOn_44 : decode cX12_valueOn 44 = .ok (.aload_n 0, 1) := by decide +kernel
theorem dX12_valueOn_45 : decode cX12_valueOn 45 = .ok (.getfield 40, 3) := by decide +kernel
theorem dX12_valueOn_48 : decode cX12_valueOn 48 = .ok (.iload 5, 2) := by decide +kernel
theorem dX12_valueOn_50 : decode cX12_valueOn 50 = .ok (.iaload, 1) := by decide +kernel
theorem dX12_valueOn_51 : decode cX12_valueOn 51 = .ok (.iload 4, 2) := by decide +kernel
theorem dX12_valueOn_53 : decode cX12_valueOn 53 = .ok (.if_icmp .ge 6, 3) := by decide +kernel
theorem dX12_valueOn_56 : decode cX12_valueOn 56 = .ok (.goto 20, 3) := by decide +kernel
theorem dX12_valueOn_59 : decode cX12_valueOn 59 = .ok (.aload_n 0, 1) := by decide +kernel
theorem dX12_valueOn_60 : decode cX12_valueOn 60 = .ok (.getfield 40, 3) := by decide +kernel
theorem dX12_valueOn_63 : decode cX12_valueOn 63 = .ok (.iload 5, 2) := by decide +kernel
theorem dX12_valueOn_65 : decode cX12_valueOn 65 = .ok (.iaload, 1) := by decide +kernel
theorem dX12_valueOn_66 : decode cX12_valueOn 66 = .ok (.istore 4, 2) := by decide +kernel
theorem dX12_valueOn_68 : decode cX12_valueOn 68 = .ok (.aload_n 0, 1) := by decide +kernel
theorem dX12_valueOn_69 : decode cX12_valueOn 69 = .ok (.getfield 43, 3) := by decide +kernel
theorem dX12_valueOn_72 : decode cX12_valueOn 72 = .ok (.iload 5, 2) := by decide +kernel
theorem dX12_valueOn_74 : decode cX12_valueOn 74 = .ok (.iaload, 1) := by decide +kernel
theorem dX12_valueOn_75 : decode cX12_valueOn 75 = .ok (.istore_n 3, 1) := by decide +kernel
theorem dX12_valueOn_76 : decode cX12_valueOn 76 = .ok (.iinc 5 1, 3) := by decide +kernel
theorem dX12_valueOn_79 : decode cX12_valueOn 79 = .ok (.goto (-66), 3) := by decide +kernel
theorem dX12_valueOn_82 : decode cX12_valueOn 82 = .ok (.iload_n 3, 1) := by decide +kernel
theorem dX12_valueOn_83 : decode cX12_valueOn 83 = .ok (.ireturn, 1) := by decide +kernel
theorem dX12_areTogether_0 : decode cX12_areTogether 0 = .ok (.aload_n 0, 1) := by decide +kernel
theorem dX12_areTogether_1 : decode cX12_areTogether 1 = .ok (.getfield 46, 3) := by decide +kernel
theorem dX12_areTogether_4 : decode cX12_areTogether 4 = .ok (.iload_n 1, 1) := by decide +kernel
theorem dX12_areTogether_5 : decode cX12_areTogether 5 = .ok (.iaload, 1) := by decide +kernel
theorem dX12_areTogether_6 : decode cX12_areTogether 6 = .ok (.aload_n 0, 1) := by decide +kernel
theorem dX12_areTogether_7 : decode cX12_areTogether 7 = .ok (.getfield 49, 3) := by decide +kernel
theorem dX12_areTogether_10 : decode cX12_areTogether 10 = .ok (.iload_n 2, 1) := by decide +kernel
theorem dX12_areTogether_11 : decode cX12_areTogether 11 = .ok (.iaload, 1) := by decide +kernel
theorem dX12_areTogether_12 : decode cX12_areTogether 12 = .ok (.ishr, 1) := by decide +kernel
theorem dX12_areTogether_13 : decode cX12_areTogether 13 = .ok (.iconst 1, 1) := by decide +kernel
theorem dX12_areTogether_14 : decode cX12_areTogether 14 = .ok (.iand, 1) := by decide +kernel
theorem dX12_areTogether_15 : decode cX12_areTogether 15 = .ok (.ifCond .ne 25, 3) := by decide +kernel
theorem dX12_areTogether_18 : decode cX12_areTogether 18 = .ok (.aload_n 0, 1) := by decide +kernel
theorem dX12_areTogether_19 : decode cX12_areTogether 19 = .ok (.getfield 46, 3) := by decide +kernel
theorem dX12_areTogether_22 : decode cX12_areTogether 22 = .ok (.iload_n 2, 1) := by decide +kernel
theorem dX12_areTogether_23 : decode cX12_areTogether 23 = .ok (.iaload, 1) := by decide +kernel
theorem dX12_areTogether_24 : decode cX12_areTogether 24 = .ok (.aload_n 0, 1) := by decide +kernel
theorem dX12_areTogether_25 : decode cX12_areTogether 25 = .ok (.getfield 49, 3) := by decide +kernel
theorem dX12_areTogether_28 : decode cX12_areTogether 28 = .ok (.iload_n 1, 1) := by decide +kernel
theorem dX12_areTogether_29 : decode cX12_areTogether 29 = .ok (.iaload, 1) := by decide +kernel
theorem dX12_areTogether_30 : decode cX12_areTogether 30 = .ok (.ishr, 1) := by decide +kernel
theorem dX12_areTogether_31 : decode cX12_areTogether 31 = .ok (.iconst 1, 1) := by decide +kernel
theorem dX12_areTogether_32 : decode cX12_areTogether 32 = .ok (.iand, 1) := by decide +kernel
theorem dX12_areTogether_33 : decode cX12_areTogether 33 = .ok (.ifCond .ne 7, 3) := by decide +kernel
theorem dX12_areTogether_36 : decode cX12_areTogether 36 = .ok (.iconst 1, 1) := by decide +kernel
theorem dX12_areTogether_37 : decode cX12_areTogether 37 = .ok (.goto 4, 3) := by decide +kernel
theorem dX12_areTogether_40 : decode cX12_areTogether 40 = .ok (.iconst 0, 1) := by decide +kernel
theorem dX12_areTogether_41 : decode cX12_areTogether 41 = .ok (.ireturn, 1) := by decide +kernel
theorem dX12_lengthOf_0 : decode cX12_lengthOf 0 = .ok (.iconst 2, 1) := by decide +kernel
theorem dX12_lengthOf_1 : decode cX12_lengthOf 1 = .ok (.aload_n 0, 1) := by decide +kernel
theorem dX12_lengthOf_2 : decode cX12_lengthOf 2 = .ok (.getfield 52, 3) := by decide +kernel
theorem dX12_lengthOf_5 : decode cX12_lengthOf 5 = .ok (.aload_n 0, 1) := by decide +kernel
theorem dX12_lengthOf_6 : decode cX12_lengthOf 6 = .ok (.getfield 55, 3) := by decide +kernel
theorem dX12_lengthOf_9 : decode cX12_lengthOf 9 = .ok (.iload_n 1, 1) := by decide +kernel
theorem dX12_lengthOf_10 : decode cX12_lengthOf 10 = .ok (.iaload, 1) := by decide +kernel
theorem dX12_lengthOf_11 : decode cX12_lengthOf 11 = .ok (.iaload, 1) := by decide +kernel
theorem dX12_lengthOf_12 : decode cX12_lengthOf 12 = .ok (.imul, 1) := by decide +kernel
theorem dX12_lengthOf_13 : decode cX12_lengthOf 13 = .ok (.aload_n 0, 1) := by decide +kernel
theorem dX12_lengthOf_14 : decode cX12_lengthOf 14 = .ok (.getfield 58, 3) := by decide +kernel
theorem dX12_lengthOf_17 : decode cX12_lengthOf 17 = .ok (.iload_n 1, 1) := by decide +kernel
theorem dX12_lengthOf_18 : decode cX12_lengthOf 18 = .ok (.iaload, 1) := by decide +kernel
theorem dX12_lengthOf_19 : decode cX12_lengthOf 19 = .ok (.iadd, 1) := by decide +kernel
theorem dX12_lengthOf_20 : decode cX12_lengthOf 20 = .ok (.ireturn, 1) := by decide +kernel
set_option maxRecDepth 20000 in
theorem ggX12_isOfLoan_X12_lengthOf : GoodIn wsX12_isOfLoan wsX12_lengthOf := goodIn_r _ [6, 7, 8, 9, 13, 14, 15, 16, 17, 18, 19, 20, 21, 22, 23, 24, 25, 26, 27, 28, 29, 30, 31, 32, 33, 34, 35, 36, 37, 38, 39, 40, 41, 42, 43, 44, 45, 46, 47, 48, 49, 50, 51, 52, 53, 54, 55, 56, 57, 58, 59, 60, 61, 62, 63] (by decide +kernel) (by decide +kernel)
set_option maxRecDepth 20000 in
theorem gX12_isOfLoan_X12_lengthOf : GoodIn wsX12_isOfLoan (wsV RX12 64 RX12 yX12_lengthOf wsX12_lengthOf) := goodIn_app (goodIn_of _ (by decide +kernel)) ggX12_isOfLoan_X12_lengthOf
set_option maxRecDepth 20000 in
theorem ggX12_isOfLoan_X12_isIn : GoodIn wsX12_isOfLoan wsX12_isIn := goodIn_r _ [12] (by decide +kernel) (by decide +kernel)
set_option maxRecDepth 20000 in
theorem gX12_isOfLoan_X12_isIn : GoodIn wsX12_isOfLoan (va_wsS RX12 10 yX12_isIn wsX12_isIn) := goodIn_app (goodIn_of _ (by decide +kernel)) ggX12_isOfLoan_X12_isIn
theorem dX12_isOfLoan_0 : decode cX12_isOfLoan 0 = .ok (.iload_n 2, 1) := by decide +kernel
theorem dX12_isOfLoan_1 : decode cX12_isOfLoan 1 = .ok (.aload_n 0, 1) := by decide +kernel
theorem dX12_isOfLoan_2 : decode cX12_isOfLoan 2 = .ok (.getfield 61, 3) := by decide +kernel
theorem dX12_isOfLoan_5 : decode cX12_isOfLoan 5 = .ok (.iload_n 1, 1) := by decide +kernel
theorem dX12_isOfLoan_6 : decode cX12_isOfLoan 6 = .ok (.iaload, 1) := by decide +kernel
theorem dX12_isOfLoan_7 : decode cX12_isOfLoan 7 = .ok (.aload_n 0, 1) := by decide +kernel
theorem dX12_isOfLoan_8 : decode cX12_isOfLoan 8 = .ok (.getfield 61, 3) := by decide +kernel
theorem dX12_isOfLoan_11 : decode cX12_isOfLoan 11 = .ok (.iload_n 1, 1) := by decide +kernel
theorem dX12_isOfLoan_12 : decode cX12_isOfLoan 12 = .ok (.iaload, 1) := by decide +kernel
theorem dX12_isOfLoan_13 : decode cX12_isOfLoan 13 = .ok (.aload_n 0, 1) := by decide +kernel
theorem dX12_isOfLoan_14 : decode cX12_isOfLoan 14 = .ok (.iload_n 1, 1) := by decide +kernel
theorem dX12_isOfLoan_15 : decode cX12_isOfLoan 15 = .ok (.invokevirtual 64, 3) := by decide +kernel
theorem dX12_isOfLoan_18 : decode cX12_isOfLoan 18 = .ok (.iadd, 1) := by decide +kernel
theorem dX12_isOfLoan_19 : decode cX12_isOfLoan 19 = .ok (.iconst 1, 1) := by decide +kernel
theorem dX12_isOfLoan_20 : decode cX12_isOfLoan 20 = .ok (.isub, 1) := by decide +kernel
theorem dX12_isOfLoan_21 : decode cX12_isOfLoan 21 = .ok (.invokestatic 10, 3) := by decide +kernel
theorem dX12_isOfLoan_24 : decode cX12_isOfLoan 24 = .ok (.ireturn, 1) := by decide +kernel
set_option maxRecDepth 20000 in
theorem ggX12_loanOf_X12_isHad : GoodIn wsX12_loanOf wsX12_isHad := goodIn_r _ [7, 8, 24, 25, 26, 27, 28, 29, 30, 31, 32, 33, 34, 35, 36, 37, 38, 39, 40, 41, 42, 43, 44, 45, 46, 47, 48, 49, 50, 51, 52, 53, 54, 55, 56, 57, 58, 59, 60, 61, 62, 63, 64, 65, 66, 67, 68, 69, 70, 71, 72, 73, 74] (by decide +kernel) (by decide +kernel)
set_option maxRecDepth 20000 in
theorem gX12_loanOf_X12_isHad : GoodIn wsX12_loanOf (wsV RX12 68 RX12 yX12_isHad wsX12_isHad) := goodIn_app (goodIn_of _ (by decide +kernel)) ggX12_loanOf_X12_isHad
set_option maxRecDepth 20000 in
theorem ggX12_loanOf_X12_isOfLoan : GoodIn wsX12_loanOf wsX12_isOfLoan := goodIn_r _ [12, 13, 14, 15, 16, 6, 17, 18, 19, 20, 21, 22, 23, 24, 25, 26, 27, 28, 29, 30, 31, 32, 33, 34, 35, 36, 37, 38, 39, 40, 41, 42, 43, 44, 45, 46, 47, 48, 49, 50, 51, 52, 53, 54, 55, 56, 57, 58, 59, 60, 61, 62, 63, 64, 65, 66, 67, 68, 69, 70, 71, 72, 73, 74] (by decide +kernel) (by decide +kernel)
set_option maxRecDepth 20000 in
theorem gX12_loanOf_X12_isOfLoan : GoodIn wsX12_loanOf (wsV RX12 72 RX12 yX12_isOfLoan wsX12_isOfLoan) := goodIn_app (goodIn_of _ (by decide +kernel)) ggX12_loanOf_X12_isOfLoan
theorem dX12_loanOf_0 : decode cX12_loanOf 0 = .ok (.iconst 0, 1) := by decide +kernel
theorem dX12_loanOf_1 : decode cX12_loanOf 1 = .ok (.istore_n 3, 1) := by decide +kernel
theorem dX12_loanOf_2 : decode cX12_loanOf 2 = .ok (.iload_n 3, 1) := by decide +kernel
theorem dX12_loanOf_3 : decode cX12_loanOf 3 = .ok (.aload_n 0, 1) := by decide +kernel
theorem dX12_loanOf_4 : decode cX12_loanOf 4 = .ok (.getfield 20, 3) := by decide +kernel
theorem dX12_loanOf_7 : decode cX12_loanOf 7 = .ok (.if_icmp .ge 38, 3) := by decide +kernel
theorem dX12_loanOf_10 : decode cX12_loanOf 10 = .ok (.aload_n 0, 1) := by decide +kernel
theorem dX12_loanOf_11 : decode cX12_loanOf 11 = .ok (.getfield 23, 3) := by decide +kernel
theorem dX12_loanOf_14 : decode cX12_loanOf 14 = .ok (.iload_n 3, 1) := by decide +kernel
theorem dX12_loanOf_15 : decode cX12_loanOf 15 = .ok (.baload, 1) := by decide +kernel
theorem dX12_loanOf_16 : decode cX12_loanOf 16 = .ok (.ifCond .eq 23, 3) := by decide +kernel
theorem dX12_loanOf_19 : decode cX12_loanOf 19 = .ok (.aload_n 0, 1) := by decide +kernel
theorem dX12_loanOf_20 : decode cX12_loanOf 20 = .ok (.iload_n 3, 1) := by decide +kernel
theorem dX12_loanOf_21 : decode cX12_loanOf 21 = .ok (.iload_n 1, 1) := by decide +kernel
theorem dX12_loanOf_22 : decode cX12_loanOf 22 = .ok (.invokevirtual 68, 3) := by decide +kernel
theorem dX12_loanOf_25 : decode cX12_loanOf 25 = .ok (.ifCond .eq 14, 3) := by decide +kernel
theorem dX12_loanOf_28 : decode cX12_loanOf 28 = .ok (.aload_n 0, 1) := by decide +kernel
theorem dX12_loanOf_29 : decode cX12_loanOf 29 = .ok (.iload_n 3, 1) := by decide +kernel
theorem dX12_loanOf_30 : decode cX12_loanOf 30 = .ok (.iload_n 2, 1) := by decide +kernel
theorem dX12_loanOf_31 : decode cX12_loanOf 31 = .ok (.invokevirtual 72, 3) := by decide +kernel
theorem dX12_loanOf_34 : decode cX12_loanOf 34 = .ok (.ifCond .eq 5, 3) := by decide +kernel
theorem dX12_loanOf_37 : decode cX12_loanOf 37 = .ok (.iload_n 3, 1) := by decide +kernel
theorem dX12_loanOf_38 : decode cX12_loanOf 38 = .ok (.ireturn, 1) := by decide +kernel
theorem dX12_loanOf_39 : decode cX12_loanOf 39 = .ok (.iinc 3 1, 3) := by decide +kernel
theorem dX12_loanOf_42 : decode cX12_loanOf 42 = .ok (.goto (-40), 3) := by decide +kernel
theorem dX12_loanOf_45 : decode cX12_loanOf 45 = .ok (.iconst (-1), 1) := by decide +kernel
theorem dX12_loanOf_46 : decode cX12_loanOf 46 = .ok (.ireturn, 1) := by decide +kernel
theorem dX12_stageOf_0 : decode cX12_stageOf 0 = .ok (.aload_n 0, 1) := by decide +kernel
theorem dX12_stageOf_1 : decode cX12_stageOf 1 = .ok (.getfield 52, 3) := by decide +kernel
theorem dX12_stageOf_4 : decode cX12_stageOf 4 = .ok (.aload_n 0, 1) := by decide +kernel
theorem dX12_stageOf_5 : decode cX12_stageOf 5 = .ok (.getfield 55, 3) := by decide +kernel
theorem dX12_stageOf_8 : decode cX12_stageOf 8 = .ok (.iload_n 1, 1) := by decide +kernel
theorem dX12_stageOf_9 : decode cX12_stageOf 9 = .ok (.iaload, 1) := by decide +kernel
theorem dX12_stageOf_10 : decode cX12_stageOf 10 = .ok (.iaload, 1) := by decide +kernel
theorem dX12_stageOf_11 : decode cX12_stageOf 11 = .ok (.istore_n 3, 1) := by decide +kernel
theorem dX12_stageOf_12 : decode cX12_stageOf 12 = .ok (.iload_n 2, 1) := by decide +kernel
theorem dX12_stageOf_13 : decode cX12_stageOf 13 = .ok (.aload_n 0, 1) := by decide +kernel
theorem dX12_stageOf_14 : decode cX12_stageOf 14 = .ok (.getfield 61, 3) := by decide +kernel
theorem dX12_stageOf_17 : decode cX12_stageOf 17 = .ok (.iload_n 1, 1) := by decide +kernel
theorem dX12_stageOf_18 : decode cX12_stageOf 18 = .ok (.iaload, 1) := by decide +kernel
theorem dX12_stageOf_19 : decode cX12_stageOf 19 = .ok (.isub, 1) := by decide +kernel
theorem dX12_stageOf_20 : decode cX12_stageOf 20 = .ok (.istore 4, 2) := by decide +kernel
theorem dX12_stageOf_22 : decode cX12_stageOf 22 = .ok (.iload 4, 2) := by decide +kernel
theorem dX12_stageOf_24 : decode cX12_stageOf 24 = .ok (.ifCond .lt 18, 3) := by decide +kernel
theorem dX12_stageOf_27 : decode cX12_stageOf 27 = .ok (.iload 4, 2) := by decide +kernel
theorem dX12_stageOf_29 : decode cX12_stageOf 29 = .ok (.iconst 2, 1) := by decide +kernel
theorem dX12_stageOf_30 : decode cX12_stageOf 30 = .ok (.iload_n 3, 1) := by decide +kernel
theorem dX12_stageOf_31 : decode cX12_stageOf 31 = .ok (.imul, 1) := by decide +kernel
theorem dX12_stageOf_32 : decode cX12_stageOf 32 = .ok (.aload_n 0, 1) := by decide +kernel
theorem dX12_stageOf_33 : decode cX12_stageOf 33 = .ok (.getfield 58, 3) := by decide +kernel
theorem dX12_stageOf_36 : decode cX12_stageOf 36 = .ok (.iload_n 1, 1) := by decide +kernel
theorem dX12_stageOf_37 : decode cX12_stageOf 37 = .ok (.iaload, 1) := by decide +kernel
theorem dX12_stageOf_38 : decode cX12_stageOf 38 = .ok (.iadd, 1) := by decide +kernel
theorem dX12_stageOf_39 : decode cX12_stageOf 39 = .ok (.if_icmp .lt 5, 3) := by decide +kernel
theorem dX12_stageOf_42 : decode cX12_stageOf 42 = .ok (.iconst 0, 1) := by decide +kernel
theorem dX12_stageOf_43 : decode cX12_stageOf 43 = .ok (.ireturn, 1) := by decide +kernel
theorem dX12_stageOf_44 : decode cX12_stageOf 44 = .ok (.iload 4, 2) := by decide +kernel
theorem dX12_stageOf_46 : decode cX12_stageOf 46 = .ok (.iload_n 3, 1) := by decide +kernel
theorem dX12_stageOf_47 : decode cX12_stageOf 47 = .ok (.if_icmp .ge 7, 3) := by decide +kernel
theorem dX12_stageOf_50 : decode cX12_stageOf 50 = .ok (.iconst 1, 1) := by decide +kernel
theorem dX12_stageOf_51 : decode cX12_stageOf 51 = .ok (.goto 21, 3) := by decide +kernel
theorem dX12_stageOf_54 : decode cX12_stageOf 54 = .ok (.iload 4, 2) := by decide +kernel
theorem dX12_stageOf_56 : decode cX12_stageOf 56 = .ok (.iload_n 3, 1) := by decide +kernel
theorem dX12_stageOf_57 : decode cX12_stageOf 57 = .ok (.aload_n 0, 1) := by decide +kernel
theorem dX12_stageOf_58 : decode cX12_stageOf 58 = .ok (.getfield 58, 3) := by decide +kernel
theorem dX12_stageOf_61 : decode cX12_stageOf 61 = .ok (.iload_n 1, 1) := by decide +kernel
theorem dX12_stageOf_62 : decode cX12_stageOf 62 = .ok (.iaload, 1) := by decide +kernel
theorem dX12_stageOf_63 : decode cX12_stageOf 63 = .ok (.iadd, 1) := by decide +kernel
theorem dX12_stageOf_64 : decode cX12_stageOf 64 = .ok (.if_icmp .ge 7, 3) := by decide +kernel
theorem dX12_stageOf_67 : decode cX12_stageOf 67 = .ok (.iconst 2, 1) := by decide +kernel
theorem dX12_stageOf_68 : decode cX12_stageOf 68 = .ok (.goto 4, 3) := by decide +kernel
theorem dX12_stageOf_71 : decode cX12_stageOf 71 = .ok (.iconst 3, 1) := by decide +kernel
theorem dX12_stageOf_72 : decode cX12_stageOf 72 = .ok (.ireturn, 1) := by decide +kernel
theorem dX12_firstOfWay_0 : decode cX12_firstOfWay 0 = .ok (.iload_n 2, 1) := by decide +kernel
theorem dX12_firstOfWay_1 : decode cX12_firstOfWay 1 = .ok (.ifCond .eq 12, 3) := by decide +kernel
theorem dX12_firstOfWay_4 : decode cX12_firstOfWay 4 = .ok (.aload_n 0, 1) := by decide +kernel
theorem dX12_firstOfWay_5 : decode cX12_firstOfWay 5 = .ok (.getfield 61, 3) := by decide +kernel
theorem dX12_firstOfWay_8 : decode cX12_firstOfWay 8 = .ok (.iload_n 1, 1) := by decide +kernel
theorem dX12_firstOfWay_9 : decode cX12_firstOfWay 9 = .ok (.iaload, 1) := by decide +kernel
theorem dX12_firstOfWay_10 : decode cX12_firstOfWay 10 = .ok (.goto 28, 3) := by decide +kernel
theorem dX12_firstOfWay_13 : decode cX12_firstOfWay 13 = .ok (.aload_n 0, 1) := by decide +kernel
theorem dX12_firstOfWay_14 : decode cX12_firstOfWay 14 = .ok (.getfield 61, 3) := by decide +kernel
theorem dX12_firstOfWay_17 : decode cX12_firstOfWay 17 = .ok (.iload_n 1, 1) := by decide +kernel
theorem dX12_firstOfWay_18 : decode cX12_firstOfWay 18 = .ok (.iaload, 1) := by decide +kernel
theorem dX12_firstOfWay_19 : decode cX12_firstOfWay 19 = .ok (.aload_n 0, 1) := by decide +kernel
theorem dX12_firstOfWay_20 : decode cX12_firstOfWay 20 = .ok (.getfield 52, 3) := by decide +kernel
theorem dX12_firstOfWay_23 : decode cX12_firstOfWay 23 = .ok (.aload_n 0, 1) := by decide +kernel
theorem dX12_firstOfWay_24 : decode cX12_firstOfWay 24 = .ok (.getfield 55, 3) := by decide +kernel
theorem dX12_firstOfWay_27 : decode cX12_firstOfWay 27 = .ok (.iload_n 1, 1) := by decide +kernel
theorem dX12_firstOfWay_28 : decode cX12_firstOfWay 28 = .ok (.iaload, 1) := by decide +kernel
theorem dX12_firstOfWay_29 : decode cX12_firstOfWay 29 = .ok (.iaload, 1) := by decide +kernel
theorem dX12_firstOfWay_30 : decode cX12_firstOfWay 30 = .ok (.iadd, 1) := by decide +kernel
theorem dX12_firstOfWay_31 : decode cX12_firstOfWay 31 = .ok (.aload_n 0, 1) := by decide +kernel
theorem dX12_firstOfWay_32 : decode cX12_firstOfWay 32 = .ok (.getfield 58, 3) := by decide +kernel
theorem dX12_firstOfWay_35 : decode cX12_firstOfWay 35 = .ok (.iload_n 1, 1) := by decide +kernel
theorem dX12_firstOfWay_36 : decode cX12_firstOfWay 36 = .ok (.iaload, 1) := by decide +kernel
theorem dX12_firstOfWay_37 : decode cX12_firstOfWay 37 = .ok (.iadd, 1) := by decide +kernel
theorem dX12_firstOfWay_38 : decode cX12_firstOfWay 38 = .ok (.ireturn, 1) := by decide +kernel
set_option maxRecDepth 20000 in
theorem ggX12_mayTravel_X12_isIn : GoodIn wsX12_mayTravel wsX12_isIn := goodIn_r _ [7] (by decide +kernel) (by decide +kernel)
set_option maxRecDepth 20000 in
theorem gX12_mayTravel_X12_isIn : GoodIn wsX12_mayTravel (va_wsS RX12 10 yX12_isIn wsX12_isIn) := goodIn_app (goodIn_of _ (by decide +kernel)) ggX12_mayTravel_X12_isIn
theorem dX12_mayTravel_0 : decode cX12_mayTravel 0 = .ok (.iconst 0, 1) := by decide +kernel
theorem dX12_mayTravel_1 : decode cX12_mayTravel 1 = .ok (.istore_n 3, 1) := by decide +kernel
theorem dX12_mayTravel_2 : decode cX12_mayTravel 2 = .ok (.iconst 0, 1) := by decide +kernel
theorem dX12_mayTravel_3 : decode cX12_mayTravel 3 = .ok (.istore 4, 2) := by decide +kernel
theorem dX12_mayTravel_5 : decode cX12_mayTravel 5 = .ok (.iload 4, 2) := by decide +kernel
theorem dX12_mayTravel_7 : decode cX12_mayTravel 7 = .ok (.aload_n 0, 1) := by decide +kernel
theorem dX12_mayTravel_8 : decode cX12_mayTravel 8 = .ok (.getfield 75, 3) := by decide +kernel
theorem dX12_mayTravel_11 : decode cX12_mayTravel 11 = .ok (.iload_n 1, 1) := by decide +kernel
theorem dX12_mayTravel_12 : decode cX12_mayTravel 12 = .ok (.iaload, 1) := by decide +kernel
theorem dX12_mayTravel_13 : decode cX12_mayTravel 13 = .ok (.if_icmp .ge 50, 3) := by decide +kernel
theorem dX12_mayTravel_16 : decode cX12_mayTravel 16 = .ok (.iload_n 3, 1) := by decide +kernel
theorem dX12_mayTravel_17 : decode cX12_mayTravel 17 = .ok (.ifCond .ne 34, 3) := by decide +kernel
theorem dX12_mayTravel_20 : decode cX12_mayTravel 20 = .ok (.iload_n 2, 1) := by decide +kernel
theorem dX12_mayTravel_21 : decode cX12_mayTravel 21 = .ok (.aload_n 0, 1) := by decide +kernel
theorem dX12_mayTravel_22 : decode cX12_mayTravel 22 = .ok (.getfield 78, 3) := by decide +kernel
theorem dX12_mayTravel_25 : decode cX12_mayTravel 25 = .ok (.iload_n 1, 1) := by decide +kernel
theorem dX12_mayTravel_26 : decode cX12_mayTravel 26 = .ok (.bipush 40, 2) := by decide +kernel
theorem dX12_mayTravel_28 : decode cX12_mayTravel 28 = .ok (.imul, 1) := by decide +kernel
theorem dX12_mayTravel_29 : decode cX12_mayTravel 29 = .ok (.iload 4, 2) := by decide +kernel
theorem dX12_mayTravel_31 : decode cX12_mayTravel 31 = .ok (.iadd, 1) := by decide +kernel
theorem dX12_mayTravel_32 : decode cX12_mayTravel 32 = .ok (.iaload, 1) := by decide +kernel
theorem dX12_mayTravel_33 : decode cX12_mayTravel 33 = .ok (.aload_n 0, 1) := by decide +kernel
theorem dX12_mayTravel_34 : decode cX12_mayTravel 34 = .ok (.getfield 81, 3) := by decide +kernel
theorem dX12_mayTravel_37 : decode cX12_mayTravel 37 = .ok (.iload_n 1, 1) := by decide +kernel
theorem dX12_mayTravel_38 : decode cX12_mayTravel 38 = .ok (.bipush 40, 2) := by decide +kernel
theorem dX12_mayTravel_40 : decode cX12_mayTravel 40 = .ok (.imul, 1) := by decide +kernel
theorem dX12_mayTravel_41 : decode cX12_mayTravel 41 = .ok (.iload 4, 2) := by decide +kernel
theorem dX12_mayTravel_43 : decode cX12_mayTravel 43 = .ok (.iadd, 1) := by decide +kernel
theorem dX12_mayTravel_44 : decode cX12_mayTravel 44 = .ok (.iaload, 1) := by decide +kernel
theorem dX12_mayTravel_45 : decode cX12_mayTravel 45 = .ok (.invokestatic 10, 3) := by decide +kernel
theorem dX12_mayTravel_48 : decode cX12_mayTravel 48 = .ok (.ifCond .eq 7, 3) := by decide +kernel
theorem dX12_mayTravel_51 : decode cX12_mayTravel 51 = .ok (.iconst 1, 1) := by decide +kernel
theorem dX12_mayTravel_52 : decode cX12_mayTravel 52 = .ok (.goto 4, 3) := by decide +kernel
theorem dX12_mayTravel_55 : decode cX12_mayTravel 55 = .ok (.iconst 0, 1) := by decide +kernel
theorem dX12_mayTravel_56 : decode cX12_mayTravel 56 = .ok (.istore_n 3, 1) := by decide +kernel
theorem dX12_mayTravel_57 : decode cX12_mayTravel 57 = .ok (.iinc 4 1, 3) := by decide +kernel
theorem dX12_mayTravel_60 : decode cX12_mayTravel 60 = .ok (.goto (-55), 3) := by decide +kernel
theorem dX12_mayTravel_63 : decode cX12_mayTravel 63 = .ok (.iload_n 3, 1) := by decide +kernel
theorem dX12_mayTravel_64 : decode cX12_mayTravel 64 = .ok (.ireturn, 1) := by decide +kernel
set_option maxRecDepth 20000 in
theorem ggX12_busyFor_X12_stageOf : GoodIn wsX12_busyFor wsX12_stageOf := goodIn_r _ [9, 10, 11, 12, 13, 14, 15, 16, 17, 18, 19, 20, 21, 22, 23, 24, 25, 26, 27, 28, 29, 30, 31, 32, 33, 34, 35, 36, 37, 38, 39, 40, 41, 42, 43, 44, 45, 46, 47, 48, 49, 50, 51, 52, 53, 54, 55, 56, 57, 58, 59, 60, 61, 62, 63, 64] (by decide +kernel) (by decide +kernel)
set_option maxRecDepth 20000 in
theorem gX12_busyFor_X12_stageOf : GoodIn wsX12_busyFor (wsV RX12 84 RX12 yX12_stageOf wsX12_stageOf) := goodIn_app (goodIn_of _ (by decide +kernel)) ggX12_busyFor_X12_stageOf
theorem dX12_busyFor_0 : decode cX12_busyFor 0 = .ok (.iconst 0, 1) := by decide +kernel
theorem dX12_busyFor_1 : decode cX12_busyFor 1 = .ok (.istore 4, 2) := by decide +kernel
theorem dX12_busyFor_3 : decode cX12_busyFor 3 = .ok (.iload 4, 2) := by decide +kernel
theorem dX12_busyFor_5 : decode cX12_busyFor 5 = .ok (.iload_n 3, 1) := by decide +kernel
theorem dX12_busyFor_6 : decode cX12_busyFor 6 = .ok (.if_icmp .ge 101, 3) := by decide +kernel
theorem dX12_busyFor_9 : decode cX12_busyFor 9 = .ok (.aload_n 0, 1) := by decide +kernel
theorem dX12_busyFor_10 : decode cX12_busyFor 10 = .ok (.getfield 23, 3) := by decide +kernel
theorem dX12_busyFor_13 : decode cX12_busyFor 13 = .ok (.iload 4, 2) := by decide +kernel
theorem dX12_busyFor_15 : decode cX12_busyFor 15 = .ok (.baload, 1) := by decide +kernel
theorem dX12_busyFor_16 : decode cX12_busyFor 16 = .ok (.ifCond .eq 13, 3) := by decide +kernel
theorem dX12_busyFor_19 : decode cX12_busyFor 19 = .ok (.aload_n 0, 1) := by decide +kernel
theorem dX12_busyFor_20 : decode cX12_busyFor 20 = .ok (.iload 4, 2) := by decide +kernel
theorem dX12_busyFor_22 : decode cX12_busyFor 22 = .ok (.iload_n 2, 1) := by decide +kernel
theorem dX12_busyFor_23 : decode cX12_busyFor 23 = .ok (.invokevirtual 84, 3) := by decide +kernel
theorem dX12_busyFor_26 : decode cX12_busyFor 26 = .ok (.goto 4, 3) := by decide +kernel
theorem dX12_busyFor_29 : decode cX12_busyFor 29 = .ok (.iconst 0, 1) := by decide +kernel
theorem dX12_busyFor_30 : decode cX12_busyFor 30 = .ok (.istore 5, 2) := by decide +kernel
theorem dX12_busyFor_32 : decode cX12_busyFor 32 = .ok (.iload 5, 2) := by decide +kernel
theorem dX12_busyFor_34 : decode cX12_busyFor 34 = .ok (.iconst 1, 1) := by decide +kernel
theorem dX12_busyFor_35 : decode cX12_busyFor 35 = .ok (.if_icmp .eq 12, 3) := by decide +kernel
theorem dX12_busyFor_38 : decode cX12_busyFor 38 = .ok (.iload 5, 2) := by decide +kernel
theorem dX12_busyFor_40 : decode cX12_busyFor 40 = .ok (.iconst 3, 1) := by decide +kernel
theorem dX12_busyFor_41 : decode cX12_busyFor 41 = .ok (.if_icmp .eq 6, 3) := by decide +kernel
theorem dX12_busyFor_44 : decode cX12_busyFor 44 = .ok (.goto 57, 3) := by decide +kernel
theorem dX12_busyFor_47 : decode cX12_busyFor 47 = .ok (.iconst 0, 1) := by decide +kernel
theorem dX12_busyFor_48 : decode cX12_busyFor 48 = .ok (.istore 6, 2) := by decide +kernel
theorem dX12_busyFor_50 : decode cX12_busyFor 50 = .ok (.iload 6, 2) := by decide +kernel
theorem dX12_busyFor_52 : decode cX12_busyFor 52 = .ok (.aload_n 0, 1) := by decide +kernel
theorem dX12_busyFor_53 : decode cX12_busyFor 53 = .ok (.getfield 88, 3) := by decide +kernel
theorem dX12_busyFor_56 : decode cX12_busyFor 56 = .ok (.iload 4, 2) := by decide +kernel
theorem dX12_busyFor_58 : decode cX12_busyFor 58 = .ok (.iaload, 1) := by decide +kernel
theorem dX12_busyFor_59 : decode cX12_busyFor 59 = .ok (.if_icmp .ge 42, 3) := by decide +kernel
theorem dX12_busyFor_62 : decode cX12_busyFor 62 = .ok (.iload 5, 2) := by decide +kernel
theorem dX12_busyFor_64 : decode cX12_busyFor 64 = .ok (.iconst 1, 1) := by decide +kernel
theorem dX12_busyFor_65 : decode cX12_busyFor 65 = .ok (.if_icmp .ne 10, 3) := by decide +kernel
theorem dX12_busyFor_68 : decode cX12_busyFor 68 = .ok (.aload_n 0, 1) := by decide +kernel
theorem dX12_busyFor_69 : decode cX12_busyFor 69 = .ok (.getfield 91, 3) := by decide +kernel
theorem dX12_busyFor_72 : decode cX12_busyFor 72 = .ok (.goto 7, 3) := by decide +kernel
theorem dX12_busyFor_75 : decode cX12_busyFor 75 = .ok (.aload_n 0, 1) := by decide +kernel
theorem dX12_busyFor_76 : decode cX12_busyFor 76 = .ok (.getfield 94, 3) := by decide +kernel
theorem dX12_busyFor_79 : decode cX12_busyFor 79 = .ok (.iload 4, 2) := by decide +kernel
theorem dX12_busyFor_81 : decode cX12_busyFor 81 = .ok (.bipush 16, 2) := by decide +kernel
theorem dX12_busyFor_83 : decode cX12_busyFor 83 = .ok (.imul, 1) := by decide +kernel
theorem dX12_busyFor_84 : decode cX12_busyFor 84 = .ok (.iload 6, 2) := by decide +kernel
theorem dX12_busyFor_86 : decode cX12_busyFor 86 = .ok (.iadd, 1) := by decide +kernel
theorem dX12_busyFor_87 : decode cX12_busyFor 87 = .ok (.iaload, 1) := by decide +kernel
theorem dX12_busyFor_88 : decode cX12_busyFor 88 = .ok (.iload_n 1, 1) := by decide +kernel
theorem dX12_busyFor_89 : decode cX12_busyFor 89 = .ok (.if_icmp .ne 6, 3) := by decide +kernel
theorem dX12_busyFor_92 : decode cX12_busyFor 92 = .ok (.iload 4, 2) := by decide +kernel
theorem dX12_busyFor_94 : decode cX12_busyFor 94 = .ok (.ireturn, 1) := by decide +kernel
theorem dX12_busyFor_95 : decode cX12_busyFor 95 = .ok (.iinc 6 1, 3) := by decide +kernel
theorem dX12_busyFor_98 : decode cX12_busyFor 98 = .ok (.goto (-48), 3) := by decide +kernel
theorem dX12_busyFor_101 : decode cX12_busyFor 101 = .ok (.iinc 4 1, 3) := by decide +kernel
theorem dX12_busyFor_104 : decode cX12_busyFor 104 = .ok (.goto (-101), 3) := by decide +kernel
theorem dX12_busyFor_107 : decode cX12_busyFor 107 = .ok (.iconst (-1), 1) := by decide +kernel
theorem dX12_busyFor_108 : decode cX12_busyFor 108 = .ok (.ireturn, 1) := by decide +kernel
theorem dX12_busyDays_0 : decode cX12_busyDays 0 = .ok (.iconst 0, 1) := by decide +kernel
theorem dX12_busyDays_1 : decode cX12_busyDays 1 = .ok (.istore_n 3, 1) := by decide +kernel
theorem dX12_busyDays_2 : decode cX12_busyDays 2 = .ok (.iconst 0, 1) := by decide +kernel
theorem dX12_busyDays_3 : decode cX12_busyDays 3 = .ok (.istore 4, 2) := by decide +kernel
theorem dX12_busyDays_5 : decode cX12_busyDays 5 = .ok (.iload 4, 2) := by decide +kernel
theorem dX12_busyDays_7 : decode cX12_busyDays 7 = .ok (.iload_n 2, 1) := by decide +kernel
theorem dX12_busyDays_8 : decode cX12_busyDays 8 = .ok (.if_icmp .ge 112, 3) := by decide +kernel
theorem dX12_busyDays_11 : decode cX12_busyDays 11 = .ok (.iconst 0, 1) := by decide +kernel
theorem dX12_busyDays_12 : decode cX12_busyDays 12 = .ok (.istore 5, 2) := by decide +kernel
theorem dX12_busyDays_14 : decode cX12_busyDays 14 = .ok (.iload 5, 2) := by decide +kernel
theorem dX12_busyDays_16 : decode cX12_busyDays 16 = .ok (.aload_n 0, 1) := by decide +kernel
theorem dX12_busyDays_17 : decode cX12_busyDays 17 = .ok (.getfield 88, 3) := by decide +kernel
theorem dX12_busyDays_20 : decode cX12_busyDays 20 = .ok (.iload 4, 2) := by decide +kernel
theorem dX12_busyDays_22 : decode cX12_busyDays 22 = .ok (.iaload, 1) := by decide +kernel
theorem dX12_busyDays_23 : decode cX12_busyDays 23 = .ok (.if_icmp .ge 91, 3) := by decide +kernel
theorem dX12_busyDays_26 : decode cX12_busyDays 26 = .ok (.aload_n 0, 1) := by decide +kernel
theorem dX12_busyDays_27 : decode cX12_busyDays 27 = .ok (.getfield 23, 3) := by decide +kernel
theorem dX12_busyDays_30 : decode cX12_busyDays 30 = .ok (.iload 4, 2) := by decide +kernel
theorem dX12_busyDays_32 : decode cX12_busyDays 32 = .ok (.baload, 1) := by decide +kernel
theorem dX12_busyDays_33 : decode cX12_busyDays 33 = .ok (.ifCond .eq 81, 3) := by decide +kernel
theorem dX12_busyDays_36 : decode cX12_busyDays 36 = .ok (.iload_n 3, 1) := by decide +kernel
theorem dX12_busyDays_37 : decode cX12_busyDays 37 = .ok (.aload_n 0, 1) := by decide +kernel
theorem dX12_busyDays_38 : decode cX12_busyDays 38 = .ok (.getfield 91, 3) := by decide +kernel
theorem dX12_busyDays_41 : decode cX12_busyDays 41 = .ok (.iload 4, 2) := by decide +kernel
theorem dX12_busyDays_43 : decode cX12_busyDays 43 = .ok (.bipush 16, 2) := by decide +kernel
theorem dX12_busyDays_45 : decode cX12_busyDays 45 = .ok (.imul, 1) := by decide +kernel
theorem dX12_busyDays_46 : decode cX12_busyDays 46 = .ok (.iload 5, 2) := by decide +kernel
theorem dX12_busyDays_48 : decode cX12_busyDays 48 = .ok (.iadd, 1) := by decide +kernel
theorem dX12_busyDays_49 : decode cX12_busyDays 49 = .ok (.iaload, 1) := by decide +kernel
theorem dX12_busyDays_50 : decode cX12_busyDays 50 = .ok (.iload_n 1, 1) := by decide +kernel
theorem dX12_busyDays_51 : decode cX12_busyDays 51 = .ok (.if_icmp .ne 18, 3) := by decide +kernel
theorem dX12_busyDays_54 : decode cX12_busyDays 54 = .ok (.aload_n 0, 1) := by decide +kernel
theorem dX12_busyDays_55 : decode cX12_busyDays 55 = .ok (.getfield 52, 3) := by decide +kernel
theorem dX12_busyDays_58 : decode cX12_busyDays 58 = .ok (.aload_n 0, 1) := by decide +kernel
theorem dX12_busyDays_59 : decode cX12_busyDays 59 = .ok (.getfield 55, 3) := by decide +kernel
theorem dX12_busyDays_62 : decode cX12_busyDays 62 = .ok (.iload 4, 2) := by decide +kernel
theorem dX12_busyDays_64 : decode cX12_busyDays 64 = .ok (.iaload, 1) := by decide +kernel
theorem dX12_busyDays_65 : decode cX12_busyDays 65 = .ok (.iaload, 1) := by decide +kernel
theorem dX12_busyDays_66 : decode cX12_busyDays 66 = .ok (.goto 4, 3) := by decide +kernel
theorem dX12_busyDays_69 : decode cX12_busyDays 69 = .ok (.iconst 0, 1) := by decide +kernel
theorem dX12_busyDays_70 : decode cX12_busyDays 70 = .ok (.iadd, 1) := by decide +kernel
theorem dX12_busyDays_71 : decode cX12_busyDays 71 = .ok (.istore_n 3, 1) := by decide +kernel
theorem dX12_busyDays_72 : decode cX12_busyDays 72 = .ok (.iload_n 3, 1) := by decide +kernel
theorem dX12_busyDays_73 : decode cX12_busyDays 73 = .ok (.aload_n 0, 1) := by decide +kernel
theorem dX12_busyDays_74 : decode cX12_busyDays 74 = .ok (.getfield 94, 3) := by decide +kernel
theorem dX12_busyDays_77 : decode cX12_busyDays 77 = .ok (.iload 4, 2) := by decide +kernel
theorem dX12_busyDays_79 : decode cX12_busyDays 79 = .ok (.bipush 16, 2) := by decide +kernel
theorem dX12_busyDays_81 : decode cX12_busyDays 81 = .ok (.imul, 1) := by decide +kernel
theorem dX12_busyDays_82 : decode cX12_busyDays 82 = .ok (.iload 5, 2) := by decide +kernel
theorem dX12_busyDays_84 : decode cX12_busyDays 84 = .ok (.iadd, 1) := by decide +kernel
theorem dX12_busyDays_85 : decode cX12_busyDays 85 = .ok (.iaload, 1) := by decide +kernel
theorem dX12_busyDays_86 : decode cX12_busyDays 86 = .ok (.iload_n 1, 1) := by decide +kernel
theorem dX12_busyDays_87 : decode cX12_busyDays 87 = .ok (.if_icmp .ne 18, 3) := by decide +kernel
theorem dX12_busyDays_90 : decode cX12_busyDays 90 = .ok (.aload_n 0, 1) := by decide +kernel
theorem dX12_busyDays_91 : decode cX12_busyDays 91 = .ok (.getfield 52, 3) := by decide +kernel
theorem dX12_busyDays_94 : decode cX12_busyDays 94 = .ok (.aload_n 0, 1) := by decide +kernel
theorem dX12_busyDays_95 : decode cX12_busyDays 95 = .ok (.getfield 55, 3) := by decide +kernel
theorem dX12_busyDays_98 : decode cX12_busyDays 98 = .ok (.iload 4, 2) := by decide +kernel
theorem dX12_busyDays_100 : decode cX12_busyDays 100 = .ok (.iaload, 1) := by decide +kernel
theorem dX12_busyDays_101 : decode cX12_busyDays 101 = .ok (.iaload, 1) := by decide +kernel
theorem dX12_busyDays_102 : decode cX12_busyDays 102 = .ok (.goto 4, 3) := by decide +kernel
theorem dX12_busyDays_105 : decode cX12_busyDays 105 = .ok (.iconst 0, 1) := by decide +kernel
theorem dX12_busyDays_106 : decode cX12_busyDays 106 = .ok (.iadd, 1) := by decide +kernel
theorem dX12_busyDays_107 : decode cX12_busyDays 107 = .ok (.istore_n 3, 1) := by decide +kernel
theorem dX12_busyDays_108 : decode cX12_busyDays 108 = .ok (.iinc 5 1, 3) := by decide +kernel
theorem dX12_busyDays_111 : decode cX12_busyDays 111 = .ok (.goto (-97), 3) := by decide +kernel
theorem dX12_busyDays_114 : decode cX12_busyDays 114 = .ok (.iinc 4 1, 3) := by decide +kernel
theorem dX12_busyDays_117 : decode cX12_busyDays 117 = .ok (.goto (-112), 3) := by decide +kernel
theorem dX12_busyDays_120 : decode cX12_busyDays 120 = .ok (.iload_n 3, 1) := by decide +kernel
theorem dX12_busyDays_121 : decode cX12_busyDays 121 = .ok (.ireturn, 1) := by decide +kernel
set_option maxRecDepth 20000 in
theorem ggX12_isReady_X12_mayTravel : GoodIn wsX12_isReady wsX12_mayTravel := goodIn_r _ [5, 6, 7, 8, 9, 10, 4, 11, 28, 29, 30, 31, 32, 33, 34, 35, 36, 37, 38, 39, 40, 41, 42, 43, 44, 45, 46, 47, 48, 49, 50, 51, 52, 53, 54, 55, 56, 57, 58, 59, 60, 61, 62, 63, 64, 65, 66, 67, 68, 69, 70, 71, 72, 73, 74, 75, 76, 77, 78] (by decide +kernel) (by decide +kernel)
set_option maxRecDepth 20000 in
theorem gX12_isReady_X12_mayTravel : GoodIn wsX12_isReady (wsV RX12 97 RX12 yX12_mayTravel wsX12_mayTravel) := goodIn_app (goodIn_of _ (by decide +kernel)) ggX12_isReady_X12_mayTravel
set_option maxRecDepth 20000 in
theorem ggX12_isReady_X12_busyFor : GoodIn wsX12_isReady wsX12_busyFor := goodIn_r _ [15, 16, 17, 18, 19, 20, 21, 22, 4, 23, 24, 25, 26, 27, 28, 29, 30, 31, 32, 33, 34, 35, 36, 37, 38, 39, 40, 41, 42, 43, 44, 45, 46, 47, 48, 49, 50, 51, 52, 53, 54, 55, 56, 57, 58, 59, 60, 61, 62, 63, 64, 65, 66, 67, 68, 69, 70, 71, 72, 73, 74, 75, 76, 77, 78] (by decide +kernel) (by decide +kernel)
set_option maxRecDepth 20000 in
theorem gX12_isReady_X12_busyFor : GoodIn wsX12_isReady (wsV RX12 100 RX12 yX12_busyFor wsX12_busyFor) := goodIn_app (goodIn_of _ (by decide +kernel)) ggX12_isReady_X12_busyFor
theorem dX12_isReady_0 : decode cX12_isReady 0 = .ok (.iconst 1, 1) := by decide +kernel
theorem dX12_isReady_1 : decode cX12_isReady 1 = .ok (.istore 5, 2) := by decide +kernel
theorem dX12_isReady_3 : decode cX12_isReady 3 = .ok (.iload_n 2, 1) := by decide +kernel
theorem dX12_isReady_4 : decode cX12_isReady 4 = .ok (.istore 6, 2) := by decide +kernel
theorem dX12_isReady_6 : decode cX12_isReady 6 = .ok (.iload 6, 2) := by decide +kernel
theorem dX12_isReady_8 : decode cX12_isReady 8 = .ok (.iload_n 2, 1) := by decide +kernel
theorem dX12_isReady_9 : decode cX12_isReady 9 = .ok (.iload_n 3, 1) := by decide +kernel
theorem dX12_isReady_10 : decode cX12_isReady 10 = .ok (.iadd, 1) := by decide +kernel
theorem dX12_isReady_11 : decode cX12_isReady 11 = .ok (.if_icmp .ge 51, 3) := by decide +kernel
theorem dX12_isReady_14 : decode cX12_isReady 14 = .ok (.iload 5, 2) := by decide +kernel
theorem dX12_isReady_16 : decode cX12_isReady 16 = .ok (.ifCond .eq 46, 3) := by decide +kernel
theorem dX12_isReady_19 : decode cX12_isReady 19 = .ok (.iload 6, 2) := by decide +kernel
theorem dX12_isReady_21 : decode cX12_isReady 21 = .ok (.sipush 1000, 3) := by decide +kernel
theorem dX12_isReady_24 : decode cX12_isReady 24 = .ok (.if_icmp .ge 29, 3) := by decide +kernel
theorem dX12_isReady_27 : decode cX12_isReady 27 = .ok (.aload_n 0, 1) := by decide +kernel
theorem dX12_isReady_28 : decode cX12_isReady 28 = .ok (.iload_n 1, 1) := by decide +kernel
theorem dX12_isReady_29 : decode cX12_isReady 29 = .ok (.iload 6, 2) := by decide +kernel
theorem dX12_isReady_31 : decode cX12_isReady 31 = .ok (.invokevirtual 97, 3) := by decide +kernel
theorem dX12_isReady_34 : decode cX12_isReady 34 = .ok (.ifCond .eq 19, 3) := by decide +kernel
theorem dX12_isReady_37 : decode cX12_isReady 37 = .ok (.aload_n 0, 1) := by decide +kernel
theorem dX12_isReady_38 : decode cX12_isReady 38 = .ok (.iload_n 1, 1) := by decide +kernel
theorem dX12_isReady_39 : decode cX12_isReady 39 = .ok (.iload 6, 2) := by decide +kernel
theorem dX12_isReady_41 : decode cX12_isReady 41 = .ok (.iload 4, 2) := by decide +kernel
theorem dX12_isReady_43 : decode cX12_isReady 43 = .ok (.invokevirtual 100, 3) := by decide +kernel
theorem dX12_isReady_46 : decode cX12_isReady 46 = .ok (.ifCond .ge 7, 3) := by decide +kernel
theorem dX12_isReady_49 : decode cX12_isReady 49 = .ok (.iconst 1, 1) := by decide +kernel
theorem dX12_isReady_50 : decode cX12_isReady 50 = .ok (.goto 4, 3) := by decide +kernel
theorem dX12_isReady_53 : decode cX12_isReady 53 = .ok (.iconst 0, 1) := by decide +kernel
theorem dX12_isReady_54 : decode cX12_isReady 54 = .ok (.istore 5, 2) := by decide +kernel
theorem dX12_isReady_56 : decode cX12_isReady 56 = .ok (.iinc 6 1, 3) := by decide +kernel
theorem dX12_isReady_59 : decode cX12_isReady 59 = .ok (.goto (-53), 3) := by decide +kernel
theorem dX12_isReady_62 : decode cX12_isReady 62 = .ok (.iload 5, 2) := by decide +kernel
theorem dX12_isReady_64 : decode cX12_isReady 64 = .ok (.ireturn, 1) := by decide +kernel
set_option maxRecDepth 20000 in
theorem ggX12_weightOf_X12_isHad : GoodIn wsX12_weightOf wsX12_isHad := goodIn_r _ [8, 9, 10, 11, 12, 13, 14, 15, 16, 17, 18, 19, 20, 21, 22, 23, 24, 25, 26, 27, 28, 29, 30, 31, 32, 33, 34, 35, 36, 37, 38, 39, 40, 41, 42, 43, 44, 45, 46, 47, 48, 49, 50, 51, 52, 53, 54, 55, 56, 57, 58, 59, 60] (by decide +kernel) (by decide +kernel)
set_option maxRecDepth 20000 in
theorem gX12_weightOf_X12_isHad : GoodIn wsX12_weightOf (wsV RX12 68 RX12 yX12_isHad wsX12_isHad) := goodIn_app (goodIn_of _ (by decide +kernel)) ggX12_weightOf_X12_isHad
theorem dX12_weightOf_0 : decode cX12_weightOf 0 = .ok (.iconst 0, 1) := by decide +kernel
theorem dX12_weightOf_1 : decode cX12_weightOf 1 = .ok (.istore_n 3, 1) := by decide +kernel
theorem dX12_weightOf_2 : decode cX12_weightOf 2 = .ok (.iconst 0, 1) := by decide +kernel
theorem dX12_weightOf_3 : decode cX12_weightOf 3 = .ok (.istore 4, 2) := by decide +kernel
theorem dX12_weightOf_5 : decode cX12_weightOf 5 = .ok (.iload 4, 2) := by decide +kernel
theorem dX12_weightOf_7 : decode cX12_weightOf 7 = .ok (.aload_n 0, 1) := by decide +kernel
theorem dX12_weightOf_8 : decode cX12_weightOf 8 = .ok (.getfield 7, 3) := by decide +kernel
theorem dX12_weightOf_11 : decode cX12_weightOf 11 = .ok (.if_icmp .ge 49, 3) := by decide +kernel
theorem dX12_weightOf_14 : decode cX12_weightOf 14 = .ok (.iload_n 3, 1) := by decide +kernel
theorem dX12_weightOf_15 : decode cX12_weightOf 15 = .ok (.aload_n 0, 1) := by decide +kernel
theorem dX12_weightOf_16 : decode cX12_weightOf 16 = .ok (.iload_n 1, 1) := by decide +kernel
theorem dX12_weightOf_17 : decode cX12_weightOf 17 = .ok (.iload 4, 2) := by decide +kernel
theorem dX12_weightOf_19 : decode cX12_weightOf 19 = .ok (.invokevirtual 68, 3) := by decide +kernel
theorem dX12_weightOf_22 : decode cX12_weightOf 22 = .ok (.ifCond .eq 29, 3) := by decide +kernel
theorem dX12_weightOf_25 : decode cX12_weightOf 25 = .ok (.aload_n 0, 1) := by decide +kernel
theorem dX12_weightOf_26 : decode cX12_weightOf 26 = .ok (.getfield 104, 3) := by decide +kernel
theorem dX12_weightOf_29 : decode cX12_weightOf 29 = .ok (.iload_n 1, 1) := by decide +kernel
theorem dX12_weightOf_30 : decode cX12_weightOf 30 = .ok (.bipush 16, 2) := by decide +kernel
theorem dX12_weightOf_32 : decode cX12_weightOf 32 = .ok (.imul, 1) := by decide +kernel
theorem dX12_weightOf_33 : decode cX12_weightOf 33 = .ok (.iload 4, 2) := by decide +kernel
theorem dX12_weightOf_35 : decode cX12_weightOf 35 = .ok (.iadd, 1) := by decide +kernel
theorem dX12_weightOf_36 : decode cX12_weightOf 36 = .ok (.iaload, 1) := by decide +kernel
theorem dX12_weightOf_37 : decode cX12_weightOf 37 = .ok (.iload_n 2, 1) := by decide +kernel
theorem dX12_weightOf_38 : decode cX12_weightOf 38 = .ok (.if_icmp .ne 13, 3) := by decide +kernel
theorem dX12_weightOf_41 : decode cX12_weightOf 41 = .ok (.aload_n 0, 1) := by decide +kernel
theorem dX12_weightOf_42 : decode cX12_weightOf 42 = .ok (.getfield 107, 3) := by decide +kernel
theorem dX12_weightOf_45 : decode cX12_weightOf 45 = .ok (.iload 4, 2) := by decide +kernel
theorem dX12_weightOf_47 : decode cX12_weightOf 47 = .ok (.iaload, 1) := by decide +kernel
theorem dX12_weightOf_48 : decode cX12_weightOf 48 = .ok (.goto 4, 3) := by decide +kernel
theorem dX12_weightOf_51 : decode cX12_weightOf 51 = .ok (.iconst 0, 1) := by decide +kernel
theorem dX12_weightOf_52 : decode cX12_weightOf 52 = .ok (.iadd, 1) := by decide +kernel
theorem dX12_weightOf_53 : decode cX12_weightOf 53 = .ok (.istore_n 3, 1) := by decide +kernel
theorem dX12_weightOf_54 : decode cX12_weightOf 54 = .ok (.iinc 4 1, 3) := by decide +kernel
theorem dX12_weightOf_57 : decode cX12_weightOf 57 = .ok (.goto (-52), 3) := by decide +kernel
theorem dX12_weightOf_60 : decode cX12_weightOf 60 = .ok (.iload_n 3, 1) := by decide +kernel
theorem dX12_weightOf_61 : decode cX12_weightOf 61 = .ok (.ireturn, 1) := by decide +kernel
set_option maxRecDepth 20000 in
theorem ggX12_goesInto_X12_weightOf : GoodIn wsX12_goesInto wsX12_weightOf := goodIn_r _ [10, 4, 5, 1, 11, 12, 13, 9, 14, 15, 22, 23, 24, 25, 26, 27, 28, 29, 30, 31, 32, 33, 34, 35, 36, 37, 38, 39, 40, 41, 42, 43, 44, 45, 46, 47, 48, 49, 50, 51, 52, 53, 54, 55, 56, 57, 58, 59, 60, 61, 62, 63, 64, 65, 66, 67, 68, 69, 70, 71, 72] (by decide +kernel) (by decide +kernel)
set_option maxRecDepth 20000 in
theorem gX12_goesInto_X12_weightOf : GoodIn wsX12_goesInto (wsV RX12 110 RX12 yX12_weightOf wsX12_weightOf) := goodIn_app (goodIn_of _ (by decide +kernel)) ggX12_goesInto_X12_weightOf
set_option maxRecDepth 20000 in
theorem ggX12_goesInto_X12_isHad : GoodIn wsX12_goesInto wsX12_isHad := goodIn_r _ [14, 15, 22, 23, 24, 25, 26, 27, 28, 29, 30, 31, 32, 33, 34, 35, 36, 37, 38, 39, 40, 41, 42, 43, 44, 45, 46, 47, 48, 49, 50, 51, 52, 53, 54, 55, 56, 57, 58, 59, 60, 61, 62, 63, 64, 65, 66, 67, 68, 69, 70, 71, 72] (by decide +kernel) (by decide +kernel)
set_option maxRecDepth 20000 in
theorem gX12_goesInto_X12_isHad : GoodIn wsX12_goesInto (wsV RX12 68 RX12 yX12_isHad wsX12_isHad) := goodIn_app (goodIn_of _ (by decide +kernel)) ggX12_goesInto_X12_isHad
set_option maxRecDepth 20000 in
theorem ggX12_goesInto_X12_areTogether : GoodIn wsX12_goesInto wsX12_areTogether := goodIn_r _ [19, 20, 21, 22, 23, 24, 25, 26, 27, 28, 29, 30, 31, 32, 33, 34, 35, 36, 37, 38, 39, 40, 41, 42, 43, 44, 45, 46, 47, 48, 49, 50, 51, 52, 53, 54, 55, 56, 57, 58, 59, 60, 61, 62, 63, 64, 65, 66, 67, 68, 69, 70, 71, 72] (by decide +kernel) (by decide +kernel)
set_option maxRecDepth 20000 in
theorem gX12_goesInto_X12_areTogether : GoodIn wsX12_goesInto (wsV RX12 116 RX12 yX12_areTogether wsX12_areTogether) := goodIn_app (goodIn_of _ (by decide +kernel)) ggX12_goesInto_X12_areTogether
theorem dX12_goesInto_0 : decode cX12_goesInto 0 = .ok (.aload_n 0, 1) := by decide +kernel
theorem dX12_goesInto_1 : decode cX12_goesInto 1 = .ok (.iload_n 1, 1) := by decide +kernel
theorem dX12_goesInto_2 : decode cX12_goesInto 2 = .ok (.iload_n 3, 1) := by decide +kernel
theorem dX12_goesInto_3 : decode cX12_goesInto 3 = .ok (.invokevirtual 110, 3) := by decide +kernel
theorem dX12_goesInto_6 : decode cX12_goesInto 6 = .ok (.aload_n 0, 1) := by decide +kernel
theorem dX12_goesInto_7 : decode cX12_goesInto 7 = .ok (.getfield 107, 3) := by decide +kernel
theorem dX12_goesInto_10 : decode cX12_goesInto 10 = .ok (.iload_n 2, 1) := by decide +kernel
theorem dX12_goesInto_11 : decode cX12_goesInto 11 = .ok (.iaload, 1) := by decide +kernel
theorem dX12_goesInto_12 : decode cX12_goesInto 12 = .ok (.iadd, 1) := by decide +kernel
theorem dX12_goesInto_13 : decode cX12_goesInto 13 = .ok (.aload_n 0, 1) := by decide +kernel
theorem dX12_goesInto_14 : decode cX12_goesInto 14 = .ok (.getfield 113, 3) := by decide +kernel
theorem dX12_goesInto_17 : decode cX12_goesInto 17 = .ok (.aload_n 0, 1) := by decide +kernel
theorem dX12_goesInto_18 : decode cX12_goesInto 18 = .ok (.getfield 55, 3) := by decide +kernel
theorem dX12_goesInto_21 : decode cX12_goesInto 21 = .ok (.iload_n 1, 1) := by decide +kernel
theorem dX12_goesInto_22 : decode cX12_goesInto 22 = .ok (.iaload, 1) := by decide +kernel
theorem dX12_goesInto_23 : decode cX12_goesInto 23 = .ok (.iaload, 1) := by decide +kernel
theorem dX12_goesInto_24 : decode cX12_goesInto 24 = .ok (.if_icmp .gt 7, 3) := by decide +kernel
theorem dX12_goesInto_27 : decode cX12_goesInto 27 = .ok (.iconst 1, 1) := by decide +kernel
theorem dX12_goesInto_28 : decode cX12_goesInto 28 = .ok (.goto 4, 3) := by decide +kernel
theorem dX12_goesInto_31 : decode cX12_goesInto 31 = .ok (.iconst 0, 1) := by decide +kernel
theorem dX12_goesInto_32 : decode cX12_goesInto 32 = .ok (.istore 4, 2) := by decide +kernel
theorem dX12_goesInto_34 : decode cX12_goesInto 34 = .ok (.iconst 0, 1) := by decide +kernel
theorem dX12_goesInto_35 : decode cX12_goesInto 35 = .ok (.istore 5, 2) := by decide +kernel
theorem dX12_goesInto_37 : decode cX12_goesInto 37 = .ok (.iload 5, 2) := by decide +kernel
theorem dX12_goesInto_39 : decode cX12_goesInto 39 = .ok (.aload_n 0, 1) := by decide +kernel
theorem dX12_goesInto_40 : decode cX12_goesInto 40 = .ok (.getfield 7, 3) := by decide +kernel
theorem dX12_goesInto_43 : decode cX12_goesInto 43 = .ok (.if_icmp .ge 57, 3) := by decide +kernel
theorem dX12_goesInto_46 : decode cX12_goesInto 46 = .ok (.iload 4, 2) := by decide +kernel
theorem dX12_goesInto_48 : decode cX12_goesInto 48 = .ok (.ifCond .eq 52, 3) := by decide +kernel
theorem dX12_goesInto_51 : decode cX12_goesInto 51 = .ok (.aload_n 0, 1) := by decide +kernel
theorem dX12_goesInto_52 : decode cX12_goesInto 52 = .ok (.iload_n 1, 1) := by decide +kernel
theorem dX12_goesInto_53 : decode cX12_goesInto 53 = .ok (.iload 5, 2) := by decide +kernel
theorem dX12_goesInto_55 : decode cX12_goesInto 55 = .ok (.invokevirtual 68, 3) := by decide +kernel
theorem dX12_goesInto_58 : decode cX12_goesInto 58 = .ok (.ifCond .eq 29, 3) := by decide +kernel
theorem dX12_goesInto_61 : decode cX12_goesInto 61 = .ok (.aload_n 0, 1) := by decide +kernel
theorem dX12_goesInto_62 : decode cX12_goesInto 62 = .ok (.getfield 104, 3) := by decide +kernel
theorem dX12_goesInto_65 : decode cX12_goesInto 65 = .ok (.iload_n 1, 1) := by decide +kernel
theorem dX12_goesInto_66 : decode cX12_goesInto 66 = .ok (.bipush 16, 2) := by decide +kernel
theorem dX12_goesInto_68 : decode cX12_goesInto 68 = .ok (.imul, 1) := by decide +kernel
theorem dX12_goesInto_69 : decode cX12_goesInto 69 = .ok (.iload 5, 2) := by decide +kernel
theorem dX12_goesInto_71 : decode cX12_goesInto 71 = .ok (.iadd, 1) := by decide +kernel
theorem dX12_goesInto_72 : decode cX12_goesInto 72 = .ok (.iaload, 1) := by decide +kernel
theorem dX12_goesInto_73 : decode cX12_goesInto 73 = .ok (.iload_n 3, 1) := by decide +kernel
theorem dX12_goesInto_74 : decode cX12_goesInto 74 = .ok (.if_icmp .ne 13, 3) := by decide +kernel
theorem dX12_goesInto_77 : decode cX12_goesInto 77 = .ok (.aload_n 0, 1) := by decide +kernel
theorem dX12_goesInto_78 : decode cX12_goesInto 78 = .ok (.iload_n 2, 1) := by decide +kernel
theorem dX12_goesInto_79 : decode cX12_goesInto 79 = .ok (.iload 5, 2) := by decide +kernel
theorem dX12_goesInto_81 : decode cX12_goesInto 81 = .ok (.invokevirtual 116, 3) := by decide +kernel
theorem dX12_goesInto_84 : decode cX12_goesInto 84 = .ok (.ifCond .eq 7, 3) := by decide +kernel
theorem dX12_goesInto_87 : decode cX12_goesInto 87 = .ok (.iconst 1, 1) := by decide +kernel
theorem dX12_goesInto_88 : decode cX12_goesInto 88 = .ok (.goto 4, 3) := by decide +kernel
theorem dX12_goesInto_91 : decode cX12_goesInto 91 = .ok (.iconst 0, 1) := by decide +kernel
theorem dX12_goesInto_92 : decode cX12_goesInto 92 = .ok (.istore 4, 2) := by decide +kernel
theorem dX12_goesInto_94 : decode cX12_goesInto 94 = .ok (.iinc 5 1, 3) := by decide +kernel
theorem dX12_goesInto_97 : decode cX12_goesInto 97 = .ok (.goto (-60), 3) := by decide +kernel
theorem dX12_goesInto_100 : decode cX12_goesInto 100 = .ok (.iload 4, 2) := by decide +kernel
theorem dX12_goesInto_102 : decode cX12_goesInto 102 = .ok (.ireturn, 1) := by decide +kernel
set_option maxRecDepth 20000 in
theorem ggX12_pack_X12_goesInto : GoodIn wsX12_pack wsX12_goesInto := goodIn_r _ [12, 5, 13, 14, 4, 2, 15, 16, 17, 11, 18, 19, 20, 21, 22, 3, 23, 24, 25, 26, 27, 28, 29, 30, 31, 32, 33, 34, 35, 36, 37, 38, 39, 40, 41, 42, 43, 44, 45, 46, 47, 48, 49, 50, 51, 52, 53, 54, 55, 56, 57, 58, 59, 60, 61, 62, 63, 64, 65, 66, 67, 68, 69, 70, 71, 72, 73, 74, 75, 76, 77, 78, 79] (by decide +kernel) (by decide +kernel)
set_option maxRecDepth 20000 in
theorem gX12_pack_X12_goesInto : GoodIn wsX12_pack (wsV RX12 119 RX12 yX12_goesInto wsX12_goesInto) := goodIn_app (goodIn_of _ (by decide +kernel)) ggX12_pack_X12_goesInto
theorem dX12_pack_0 : decode cX12_pack 0 = .ok (.aload_n 0, 1) := by decide +kernel
theorem dX12_pack_1 : decode cX12_pack 1 = .ok (.getfield 88, 3) := by decide +kernel
theorem dX12_pack_4 : decode cX12_pack 4 = .ok (.iload_n 1, 1) := by decide +kernel
theorem dX12_pack_5 : decode cX12_pack 5 = .ok (.iconst 0, 1) := by decide +kernel
theorem dX12_pack_6 : decode cX12_pack 6 = .ok (.iastore, 1) := by decide +kernel
theorem dX12_pack_7 : decode cX12_pack 7 = .ok (.iconst 0, 1) := by decide +kernel
theorem dX12_pack_8 : decode cX12_pack 8 = .ok (.istore_n 2, 1) := by decide +kernel
theorem dX12_pack_9 : decode cX12_pack 9 = .ok (.iload_n 2, 1) := by decide +kernel
theorem dX12_pack_10 : decode cX12_pack 10 = .ok (.bipush 16, 2) := by decide +kernel
theorem dX12_pack_12 : decode cX12_pack 12 = .ok (.if_icmp .ge 21, 3) := by decide +kernel
theorem dX12_pack_15 : decode cX12_pack 15 = .ok (.aload_n 0, 1) := by decide +kernel
theorem dX12_pack_16 : decode cX12_pack 16 = .ok (.getfield 104, 3) := by decide +kernel
theorem dX12_pack_19 : decode cX12_pack 19 = .ok (.iload_n 1, 1) := by decide +kernel
theorem dX12_pack_20 : decode cX12_pack 20 = .ok (.bipush 16, 2) := by decide +kernel
theorem dX12_pack_22 : decode cX12_pack 22 = .ok (.imul, 1) := by decide +kernel
theorem dX12_pack_23 : decode cX12_pack 23 = .ok (.iload_n 2, 1) := by decide +kernel
theorem dX12_pack_24 : decode cX12_pack 24 = .ok (.iadd, 1) := by decide +kernel
theorem dX12_pack_25 : decode cX12_pack 25 = .ok (.iconst (-1), 1) := by decide +kernel
theorem dX12_pack_26 : decode cX12_pack 26 = .ok (.iastore, 1) := by decide +kernel
theorem dX12_pack_27 : decode cX12_pack 27 = .ok (.iinc 2 1, 3) := by decide +kernel
theorem dX12_pack_30 : decode cX12_pack 30 = .ok (.goto (-21), 3) := by decide +kernel
theorem dX12_pack_33 : decode cX12_pack 33 = .ok (.aload_n 0, 1) := by decide +kernel
theorem dX12_pack_34 : decode cX12_pack 34 = .ok (.getfield 27, 3) := by decide +kernel
theorem dX12_pack_37 : decode cX12_pack 37 = .ok (.iload_n 1, 1) := by decide +kernel
theorem dX12_pack_38 : decode cX12_pack 38 = .ok (.iaload, 1) := by decide +kernel
theorem dX12_pack_39 : decode cX12_pack 39 = .ok (.istore_n 2, 1) := by decide +kernel
theorem dX12_pack_40 : decode cX12_pack 40 = .ok (.iload_n 2, 1) := by decide +kernel
theorem dX12_pack_41 : decode cX12_pack 41 = .ok (.ifCond .eq 161, 3) := by decide +kernel
theorem dX12_pack_44 : decode cX12_pack 44 = .ok (.iconst (-1), 1) := by decide +kernel
theorem dX12_pack_45 : decode cX12_pack 45 = .ok (.istore_n 3, 1) := by decide +kernel
theorem dX12_pack_46 : decode cX12_pack 46 = .ok (.iconst 0, 1) := by decide +kernel
theorem dX12_pack_47 : decode cX12_pack 47 = .ok (.istore 4, 2) := by decide +kernel
theorem dX12_pack_49 : decode cX12_pack 49 = .ok (.iload 4, 2) := by decide +kernel
theorem dX12_pack_51 : decode cX12_pack 51 = .ok (.aload_n 0, 1) := by decide +kernel
theorem dX12_pack_52 : decode cX12_pack 52 = .ok (.getfield 7, 3) := by decide +kernel
theorem dX12_pack_55 : decode cX12_pack 55 = .ok (.if_icmp .ge 42, 3) := by decide +kernel
theorem dX12_pack_58 : decode cX12_pack 58 = .ok (.iload_n 2, 1) := by decide +kernel
theorem dX12_pack_59 : decode cX12_pack 59 = .ok (.iload 4, 2) := by decide +kernel
theorem dX12_pack_61 : decode cX12_pack 61 = .ok (.ishr, 1) := by decide +kernel
theorem dX12_pack_62 : decode cX12_pack 62 = .ok (.iconst 1, 1) := by decide +kernel
theorem dX12_pack_63 : decode cX12_pack 63 = .ok (.iand, 1) := by decide +kernel
theorem dX12_pack_64 : decode cX12_pack 64 = .ok (.iconst 1, 1) := by decide +kernel
theorem dX12_pack_65 : decode cX12_pack 65 = .ok (.if_icmp .ne 26, 3) := by decide +kernel
theorem dX12_pack_68 : decode cX12_pack 68 = .ok (.iload_n 3, 1) := by decide +kernel
theorem dX12_pack_69 : decode cX12_pack 69 = .ok (.ifCond .lt 19, 3) := by decide +kernel
theorem dX12_pack_72 : decode cX12_pack 72 = .ok (.aload_n 0, 1) := by decide +kernel
theorem dX12_pack_73 : decode cX12_pack 73 = .ok (.getfield 107, 3) := by decide +kernel
theorem dX12_pack_76 : decode cX12_pack 76 = .ok (.iload 4, 2) := by decide +kernel
theorem dX12_pack_78 : decode cX12_pack 78 = .ok (.iaload, 1) := by decide +kernel
theorem dX12_pack_79 : decode cX12_pack 79 = .ok (.aload_n 0, 1) := by decide +kernel
theorem dX12_pack_80 : decode cX12_pack 80 = .ok (.getfield 107, 3) := by decide +kernel
theorem dX12_pack_83 : decode cX12_pack 83 = .ok (.iload_n 3, 1) := by decide +kernel
theorem dX12_pack_84 : decode cX12_pack 84 = .ok (.iaload, 1) := by decide +kernel
theorem dX12_pack_85 : decode cX12_pack 85 = .ok (.if_icmp .le 6, 3) := by decide +kernel
theorem dX12_pack_88 : decode cX12_pack 88 = .ok (.iload 4, 2) := by decide +kernel
theorem dX12_pack_90 : decode cX12_pack 90 = .ok (.istore_n 3, 1) := by decide +kernel
theorem dX12_pack_91 : decode cX12_pack 91 = .ok (.iinc 4 1, 3) := by decide +kernel
theorem dX12_pack_94 : decode cX12_pack 94 = .ok (.goto (-45), 3) := by decide +kernel
theorem dX12_pack_97 : decode cX12_pack 97 = .ok (.iload_n 2, 1) := by decide +kernel
theorem dX12_pack_98 : decode cX12_pack 98 = .ok (.iconst 1, 1) := by decide +kernel
theorem dX12_pack_99 : decode cX12_pack 99 = .ok (.iload_n 3, 1) := by decide +kernel
theorem dX12_pack_100 : decode cX12_pack 100 = .ok (.ishl, 1) := by decide +kernel
theorem dX12_pack_101 : decode cX12_pack 101 = .ok (.iconst (-1), 1) := by decide +kernel
theorem dX12_pack_102 : decode cX12_pack 102 = .ok (.ixor, 1) := by decide +kernel
theorem dX12_pack_103 : decode cX12_pack 103 = .ok (.iand, 1) := by decide +kernel
theorem dX12_pack_104 : decode cX12_pack 104 = .ok (.istore_n 2, 1) := by decide +kernel
theorem dX12_pack_105 : decode cX12_pack 105 = .ok (.iconst 0, 1) := by decide +kernel
theorem dX12_pack_106 : decode cX12_pack 106 = .ok (.istore 4, 2) := by decide +kernel
theorem dX12_pack_108 : decode cX12_pack 108 = .ok (.iload 4, 2) := by decide +kernel
theorem dX12_pack_110 : decode cX12_pack 110 = .ok (.aload_n 0, 1) := by decide +kernel
theorem dX12_pack_111 : decode cX12_pack 111 = .ok (.getfield 88, 3) := by decide +kernel
theorem dX12_pack_114 : decode cX12_pack 114 = .ok (.iload_n 1, 1) := by decide +kernel
theorem dX12_pack_115 : decode cX12_pack 115 = .ok (.iaload, 1) := by decide +kernel
theorem dX12_pack_116 : decode cX12_pack 116 = .ok (.if_icmp .ge 20, 3) := by decide +kernel
theorem dX12_pack_119 : decode cX12_pack 119 = .ok (.aload_n 0, 1) := by decide +kernel
theorem dX12_pack_120 : decode cX12_pack 120 = .ok (.iload_n 1, 1) := by decide +kernel
theorem dX12_pack_121 : decode cX12_pack 121 = .ok (.iload_n 3, 1) := by decide +kernel
theorem dX12_pack_122 : decode cX12_pack 122 = .ok (.iload 4, 2) := by decide +kernel
theorem dX12_pack_124 : decode cX12_pack 124 = .ok (.invokevirtual 119, 3) := by decide +kernel
theorem dX12_pack_127 : decode cX12_pack 127 = .ok (.ifCond .ne 9, 3) := by decide +kernel
theorem dX12_pack_130 : decode cX12_pack 130 = .ok (.iinc 4 1, 3) := by decide +kernel
theorem dX12_pack_133 : decode cX12_pack 133 = .ok (.goto (-25), 3) := by decide +kernel
theorem dX12_pack_136 : decode cX12_pack 136 = .ok (.aload_n 0, 1) := by decide +kernel
theorem dX12_pack_137 : decode cX12_pack 137 = .ok (.getfield 104, 3) := by decide +kernel
theorem dX12_pack_140 : decode cX12_pack 140 = .ok (.iload_n 1, 1) := by decide +kernel
theorem dX12_pack_141 : decode cX12_pack 141 = .ok (.bipush 16, 2) := by decide +kernel
theorem dX12_pack_143 : decode cX12_pack 143 = .ok (.imul, 1) := by decide +kernel
theorem dX12_pack_144 : decode cX12_pack 144 = .ok (.iload_n 3, 1) := by decide +kernel
theorem dX12_pack_145 : decode cX12_pack 145 = .ok (.iadd, 1) := by decide +kernel
theorem dX12_pack_146 : decode cX12_pack 146 = .ok (.iload 4, 2) := by decide +kernel
theorem dX12_pack_148 : decode cX12_pack 148 = .ok (.iastore, 1) := by decide +kernel
theorem dX12_pack_149 : decode cX12_pack 149 = .ok (.iload 4, 2) := by decide +kernel
theorem dX12_pack_151 : decode cX12_pack 151 = .ok (.aload_n 0, 1) := by decide +kernel
theorem dX12_pack_152 : decode cX12_pack 152 = .ok (.getfield 88, 3) := by decide +kernel
theorem dX12_pack_155 : decode cX12_pack 155 = .ok (.iload_n 1, 1) := by decide +kernel
theorem dX12_pack_156 : decode cX12_pack 156 = .ok (.iaload, 1) := by decide +kernel
theorem dX12_pack_157 : decode cX12_pack 157 = .ok (.if_icmp .ge 6, 3) := by decide +kernel
theorem dX12_pack_160 : decode cX12_pack 160 = .ok (.goto (-120), 3) := by decide +kernel
theorem dX12_pack_163 : decode cX12_pack 163 = .ok (.aload_n 0, 1) := by decide +kernel
theorem dX12_pack_164 : decode cX12_pack 164 = .ok (.getfield 91, 3) := by decide +kernel
theorem dX12_pack_167 : decode cX12_pack 167 = .ok (.iload_n 1, 1) := by decide +kernel
theorem dX12_pack_168 : decode cX12_pack 168 = .ok (.bipush 16, 2) := by decide +kernel
theorem dX12_pack_170 : decode cX12_pack 170 = .ok (.imul, 1) := by decide +kernel
theorem dX12_pack_171 : decode cX12_pack 171 = .ok (.iload 4, 2) := by decide +kernel
theorem dX12_pack_173 : decode cX12_pack 173 = .ok (.iadd, 1) := by decide +kernel
theorem dX12_pack_174 : decode cX12_pack 174 = .ok (.iconst (-1), 1) := by decide +kernel
theorem dX12_pack_175 : decode cX12_pack 175 = .ok (.iastore, 1) := by decide +kernel
theorem dX12_pack_176 : decode cX12_pack 176 = .ok (.aload_n 0, 1) := by decide +kernel
theorem dX12_pack_177 : decode cX12_pack 177 = .ok (.getfield 94, 3) := by decide +kernel
theorem dX12_pack_180 : decode cX12_pack 180 = .ok (.iload_n 1, 1) := by decide +kernel
theorem dX12_pack_181 : decode cX12_pack 181 = .ok (.bipush 16, 2) := by decide +kernel
theorem dX12_pack_183 : decode cX12_pack 183 = .ok (.imul, 1) := by decide +kernel
theorem dX12_pack_184 : decode cX12_pack 184 = .ok (.iload 4, 2) := by decide +kernel
theorem dX12_pack_186 : decode cX12_pack 186 = .ok (.iadd, 1) := by decide +kernel
theorem dX12_pack_187 : decode cX12_pack 187 = .ok (.iconst (-1), 1) := by decide +kernel
theorem dX12_pack_188 : decode cX12_pack 188 = .ok (.iastore, 1) := by decide +kernel
theorem dX12_pack_189 : decode cX12_pack 189 = .ok (.aload_n 0, 1) := by decide +kernel
theorem dX12_pack_190 : decode cX12_pack 190 = .ok (.getfield 88, 3) := by decide +kernel
theorem dX12_pack_193 : decode cX12_pack 193 = .ok (.iload_n 1, 1) := by decide +kernel
theorem dX12_pack_194 : decode cX12_pack 194 = .ok (.dup2, 1) := by decide +kernel
theorem dX12_pack_195 : decode cX12_pack 195 = .ok (.iaload, 1) := by decide +kernel
theorem dX12_pack_196 : decode cX12_pack 196 = .ok (.iconst 1, 1) := by decide +kernel
theorem dX12_pack_197 : decode cX12_pack 197 = .ok (.iadd, 1) := by decide +kernel
theorem dX12_pack_198 : decode cX12_pack 198 = .ok (.iastore, 1) := by decide +kernel
theorem dX12_pack_199 : decode cX12_pack 199 = .ok (.goto (-159), 3) := by decide +kernel
theorem dX12_pack_202 : decode cX12_pack 202 = .ok (.return_, 1) := by decide +kernel
set_option maxRecDepth 20000 in
theorem ggX12_worthOf_X12_isHad : GoodIn wsX12_worthOf wsX12_isHad := goodIn_r _ [7, 8, 18, 19, 20, 21, 22, 23, 24, 25, 26, 27, 28, 29, 30, 31, 32, 33, 34, 35, 36, 37, 38, 39, 40, 41, 42, 43, 44, 45, 46, 47, 48, 49, 50, 51, 52, 53, 54, 55, 56, 57, 58, 59, 60, 61, 62, 63, 64, 65, 66, 67, 68] (by decide +kernel) (by decide +kernel)
set_option maxRecDepth 20000 in
theorem gX12_worthOf_X12_isHad : GoodIn wsX12_worthOf (wsV RX12 68 RX12 yX12_isHad wsX12_isHad) := goodIn_app (goodIn_of _ (by decide +kernel)) ggX12_worthOf_X12_isHad
set_option maxRecDepth 20000 in
theorem ggX12_worthOf_X12_valueOn : GoodIn wsX12_worthOf wsX12_valueOn := goodIn_r _ [12, 13, 14, 15, 16, 17, 18, 19, 20, 21, 22, 23, 24, 25, 26, 27, 28, 29, 30, 31, 32, 33, 34, 35, 36, 37, 38, 39, 40, 41, 42, 43, 44, 45, 46, 47, 48, 49, 50, 51, 52, 53, 54, 55, 56, 57, 58, 59, 60, 61, 62, 63, 64, 65, 66, 67, 68] (by decide +kernel) (by decide +kernel)
set_option maxRecDepth 20000 in
theorem gX12_worthOf_X12_valueOn : GoodIn wsX12_worthOf (wsV RX12 122 RX12 yX12_valueOn wsX12_valueOn) := goodIn_app (goodIn_of _ (by decide +kernel)) ggX12_worthOf_X12_valueOn
theorem dX12_worthOf_0 : decode cX12_worthOf 0 = .ok (.iconst 0, 1) := by decide +kernel
theorem dX12_worthOf_1 : decode cX12_worthOf 1 = .ok (.istore 4, 2) := by decide +kernel
theorem dX12_worthOf_3 : decode cX12_worthOf 3 = .ok (.iconst 0, 1) := by decide +kernel
theorem dX12_worthOf_4 : decode cX12_worthOf 4 = .ok (.istore 5, 2) := by decide +kernel
theorem dX12_worthOf_6 : decode cX12_worthOf 6 = .ok (.iload 5, 2) := by decide +kernel
theorem dX12_worthOf_8 : decode cX12_worthOf 8 = .ok (.aload_n 0, 1) := by decide +kernel
theorem dX12_worthOf_9 : decode cX12_worthOf 9 = .ok (.getfield 7, 3) := by decide +kernel
theorem dX12_worthOf_12 : decode cX12_worthOf 12 = .ok (.if_icmp .ge 51, 3) := by decide +kernel
theorem dX12_worthOf_15 : decode cX12_worthOf 15 = .ok (.iload 4, 2) := by decide +kernel
theorem dX12_worthOf_17 : decode cX12_worthOf 17 = .ok (.aload_n 0, 1) := by decide +kernel
theorem dX12_worthOf_18 : decode cX12_worthOf 18 = .ok (.iload_n 1, 1) := by decide +kernel
theorem dX12_worthOf_19 : decode cX12_worthOf 19 = .ok (.iload 5, 2) := by decide +kernel
theorem dX12_worthOf_21 : decode cX12_worthOf 21 = .ok (.invokevirtual 68, 3) := by decide +kernel
theorem dX12_worthOf_24 : decode cX12_worthOf 24 = .ok (.ifCond .eq 29, 3) := by decide +kernel
theorem dX12_worthOf_27 : decode cX12_worthOf 27 = .ok (.aload_n 0, 1) := by decide +kernel
theorem dX12_worthOf_28 : decode cX12_worthOf 28 = .ok (.getfield 104, 3) := by decide +kernel
theorem dX12_worthOf_31 : decode cX12_worthOf 31 = .ok (.iload_n 1, 1) := by decide +kernel
theorem dX12_worthOf_32 : decode cX12_worthOf 32 = .ok (.bipush 16, 2) := by decide +kernel
theorem dX12_worthOf_34 : decode cX12_worthOf 34 = .ok (.imul, 1) := by decide +kernel
theorem dX12_worthOf_35 : decode cX12_worthOf 35 = .ok (.iload 5, 2) := by decide +kernel
theorem dX12_worthOf_37 : decode cX12_worthOf 37 = .ok (.iadd, 1) := by decide +kernel
theorem dX12_worthOf_38 : decode cX12_worthOf 38 = .ok (.iaload, 1) := by decide +kernel
theorem dX12_worthOf_39 : decode cX12_worthOf 39 = .ok (.iload_n 2, 1) := by decide +kernel
theorem dX12_worthOf_40 : decode cX12_worthOf 40 = .ok (.if_icmp .ne 13, 3) := by decide +kernel
theorem dX12_worthOf_43 : decode cX12_worthOf 43 = .ok (.aload_n 0, 1) := by decide +kernel
theorem dX12_worthOf_44 : decode cX12_worthOf 44 = .ok (.iload 5, 2) := by decide +kernel
theorem dX12_worthOf_46 : decode cX12_worthOf 46 = .ok (.iload_n 3, 1) := by decide +kernel
theorem dX12_worthOf_47 : decode cX12_worthOf 47 = .ok (.invokevirtual 122, 3) := by decide +kernel
theorem dX12_worthOf_50 : decode cX12_worthOf 50 = .ok (.goto 4, 3) := by decide +kernel
theorem dX12_worthOf_53 : decode cX12_worthOf 53 = .ok (.iconst 0, 1) := by decide +kernel
theorem dX12_worthOf_54 : decode cX12_worthOf 54 = .ok (.iadd, 1) := by decide +kernel
theorem dX12_worthOf_55 : decode cX12_worthOf 55 = .ok (.istore 4, 2) := by decide +kernel
theorem dX12_worthOf_57 : decode cX12_worthOf 57 = .ok (.iinc 5 1, 3) := by decide +kernel
theorem dX12_worthOf_60 : decode cX12_worthOf 60 = .ok (.goto (-54), 3) := by decide +kernel
theorem dX12_worthOf_63 : decode cX12_worthOf 63 = .ok (.iload 4, 2) := by decide +kernel
theorem dX12_worthOf_65 : decode cX12_worthOf 65 = .ok (.ireturn, 1) := by decide +kernel
set_option maxRecDepth 20000 in
theorem ggX12_areGuarded_X12_firstOfWay : GoodIn wsX12_areGuarded wsX12_firstOfWay := goodIn_r _ [13, 14, 6, 4, 15, 63, 64, 65, 66, 67, 68, 69, 70, 71, 72, 73, 74, 75, 76, 77, 78, 79, 80, 81, 82, 83, 84, 85, 86, 87, 88, 89, 90, 91, 92, 93, 94, 95, 96, 97, 98, 99, 100, 101, 102, 103, 104, 105, 106, 107, 108, 109, 110, 111, 112, 113] (by decide +kernel) (by decide +kernel)
set_option maxRecDepth 20000 in
theorem gX12_areGuarded_X12_firstOfWay : GoodIn wsX12_areGuarded (wsV RX12 125 RX12 yX12_firstOfWay wsX12_firstOfWay) := goodIn_app (goodIn_of _ (by decide +kernel)) ggX12_areGuarded_X12_firstOfWay
set_option maxRecDepth 20000 in
theorem ggX12_areGuarded_X12_worthOf : GoodIn wsX12_areGuarded wsX12_worthOf := goodIn_r _ [19, 20, 21, 22, 23, 24, 12, 25, 26, 27, 28, 29, 30, 31, 32, 33, 34, 35, 63, 64, 65, 66, 67, 68, 69, 70, 71, 72, 73, 74, 75, 76, 77, 78, 79, 80, 81, 82, 83, 84, 85, 86, 87, 88, 89, 90, 91, 92, 93, 94, 95, 96, 97, 98, 99, 100, 101, 102, 103, 104, 105, 106, 107, 108, 109, 110, 111, 112, 113] (by decide +kernel) (by decide +kernel)
set_option maxRecDepth 20000 in
theorem gX12_areGuarded_X12_worthOf : GoodIn wsX12_areGuarded (wsV RX12 132 RX12 yX12_worthOf wsX12_worthOf) := goodIn_app (goodIn_of _ (by decide +kernel)) ggX12_areGuarded_X12_worthOf
set_option maxRecDepth 20000 in
theorem ggX12_areGuarded_X12_isReady : GoodIn wsX12_areGuarded wsX12_isReady := goodIn_r _ [39, 40, 41, 42, 12, 43, 44, 45, 46, 47, 48, 49, 50, 51, 52, 53, 54, 1, 7, 8, 55, 56, 57, 58, 6, 4, 14, 15, 63, 64, 65, 66, 67, 68, 69, 70, 71, 72, 73, 74, 75, 76, 77, 78, 79, 80, 81, 82, 83, 84, 85, 86, 87, 88, 89, 90, 91, 92, 93, 94, 95, 96, 97, 98, 99, 100, 101, 102, 103, 104, 105, 106, 107, 108, 109, 110, 111, 112, 113] (by decide +kernel) (by decide +kernel)
set_option maxRecDepth 20000 in
theorem gX12_areGuarded_X12_isReady : GoodIn wsX12_areGuarded (wsV RX12 138 RX12 yX12_isReady wsX12_isReady) := goodIn_app (goodIn_of _ (by decide +kernel)) ggX12_areGuarded_X12_isReady
set_option maxRecDepth 20000 in
theorem ggX12_areGuarded_X12_busyDays : GoodIn wsX12_areGuarded wsX12_busyDays := goodIn_r _ [62, 1, 54, 7, 6, 4, 8, 63, 64, 65, 66, 67, 68, 69, 70, 71, 72, 73, 74, 75, 76, 77, 78, 79, 80, 81, 82, 83, 84, 85, 86, 87, 88, 89, 90, 91, 92, 93, 94, 95, 96, 97, 98, 99, 100, 101, 102, 103, 104, 105, 106, 107, 108, 109, 110, 111, 112, 113] (by decide +kernel) (by decide +kernel)
set_option maxRecDepth 20000 in
theorem gX12_areGuarded_X12_busyDays : GoodIn wsX12_areGuarded (wsV RX12 142 RX12 yX12_busyDays wsX12_busyDays) := goodIn_app (goodIn_of _ (by decide +kernel)) ggX12_areGuarded_X12_busyDays
theorem dX12_areGuarded_0 : decode cX12_areGuarded 0 = .ok (.aload_n 0, 1) := by decide +kernel
theorem dX12_areGuarded_1 : decode cX12_areGuarded 1 = .ok (.iload_n 1, 1) := by decide +kernel
theorem dX12_areGuarded_2 : decode cX12_areGuarded 2 = .ok (.iload_n 2, 1) := by decide +kernel
theorem dX12_areGuarded_3 : decode cX12_areGuarded 3 = .ok (.invokevirtual 125, 3) := by decide +kernel
theorem dX12_areGuarded_6 : decode cX12_areGuarded 6 = .ok (.istore_n 3, 1) := by decide +kernel
theorem dX12_areGuarded_7 : decode cX12_areGuarded 7 = .ok (.iconst 0, 1) := by decide +kernel
theorem dX12_areGuarded_8 : decode cX12_areGuarded 8 = .ok (.istore 4, 2) := by decide +kernel
theorem dX12_areGuarded_10 : decode cX12_areGuarded 10 = .ok (.iload 4, 2) := by decide +kernel
theorem dX12_areGuarded_12 : decode cX12_areGuarded 12 = .ok (.aload_n 0, 1) := by decide +kernel
theorem dX12_areGuarded_13 : decode cX12_areGuarded 13 = .ok (.getfield 88, 3) := by decide +kernel
theorem dX12_areGuarded_16 : decode cX12_areGuarded 16 = .ok (.iload_n 1, 1) := by decide +kernel
theorem dX12_areGuarded_17 : decode cX12_areGuarded 17 = .ok (.iaload, 1) := by decide +kernel
theorem dX12_areGuarded_18 : decode cX12_areGuarded 18 = .ok (.if_icmp .ge 43, 3) := by decide +kernel
theorem dX12_areGuarded_21 : decode cX12_areGuarded 21 = .ok (.aload_n 0, 1) := by decide +kernel
theorem dX12_areGuarded_22 : decode cX12_areGuarded 22 = .ok (.getfield 129, 3) := by decide +kernel
theorem dX12_areGuarded_25 : decode cX12_areGuarded 25 = .ok (.iload 4, 2) := by decide +kernel
theorem dX12_areGuarded_27 : decode cX12_areGuarded 27 = .ok (.aload_n 0, 1) := by decide +kernel
theorem dX12_areGuarded_28 : decode cX12_areGuarded 28 = .ok (.iload_n 1, 1) := by decide +kernel
theorem dX12_areGuarded_29 : decode cX12_areGuarded 29 = .ok (.iload 4, 2) := by decide +kernel
theorem dX12_areGuarded_31 : decode cX12_areGuarded 31 = .ok (.iload_n 3, 1) := by decide +kernel
theorem dX12_areGuarded_32 : decode cX12_areGuarded 32 = .ok (.invokevirtual 132, 3) := by decide +kernel
theorem dX12_areGuarded_35 : decode cX12_areGuarded 35 = .ok (.aload_n 0, 1) := by decide +kernel
theorem dX12_areGuarded_36 : decode cX12_areGuarded 36 = .ok (.getfield 135, 3) := by decide +kernel
theorem dX12_areGuarded_39 : decode cX12_areGuarded 39 = .ok (.aload_n 0, 1) := by decide +kernel
theorem dX12_areGuarded_40 : decode cX12_areGuarded 40 = .ok (.getfield 55, 3) := by decide +kernel
theorem dX12_areGuarded_43 : decode cX12_areGuarded 43 = .ok (.iload_n 1, 1) := by decide +kernel
theorem dX12_areGuarded_44 : decode cX12_areGuarded 44 = .ok (.iaload, 1) := by decide +kernel
theorem dX12_areGuarded_45 : decode cX12_areGuarded 45 = .ok (.iaload, 1) := by decide +kernel
theorem dX12_areGuarded_46 : decode cX12_areGuarded 46 = .ok (.if_icmp .gt 7, 3) := by decide +kernel
theorem dX12_areGuarded_49 : decode cX12_areGuarded 49 = .ok (.iconst 1, 1) := by decide +kernel
theorem dX12_areGuarded_50 : decode cX12_areGuarded 50 = .ok (.goto 4, 3) := by decide +kernel
theorem dX12_areGuarded_53 : decode cX12_areGuarded 53 = .ok (.iconst 0, 1) := by decide +kernel
theorem dX12_areGuarded_54 : decode cX12_areGuarded 54 = .ok (.bastore, 1) := by decide +kernel
theorem dX12_areGuarded_55 : decode cX12_areGuarded 55 = .ok (.iinc 4 1, 3) := by decide +kernel
theorem dX12_areGuarded_58 : decode cX12_areGuarded 58 = .ok (.goto (-48), 3) := by decide +kernel
theorem dX12_areGuarded_61 : decode cX12_areGuarded 61 = .ok (.iconst (-1), 1) := by decide +kernel
theorem dX12_areGuarded_62 : decode cX12_areGuarded 62 = .ok (.istore 4, 2) := by decide +kernel
theorem dX12_areGuarded_64 : decode cX12_areGuarded 64 = .ok (.iconst 0, 1) := by decide +kernel
theorem dX12_areGuarded_65 : decode cX12_areGuarded 65 = .ok (.istore 5, 2) := by decide +kernel
theorem dX12_areGuarded_67 : decode cX12_areGuarded 67 = .ok (.iload 5, 2) := by decide +kernel
theorem dX12_areGuarded_69 : decode cX12_areGuarded 69 = .ok (.aload_n 0, 1) := by decide +kernel
theorem dX12_areGuarded_70 : decode cX12_areGuarded 70 = .ok (.getfield 88, 3) := by decide +kernel
theorem dX12_areGuarded_73 : decode cX12_areGuarded 73 = .ok (.iload_n 1, 1) := by decide +kernel
theorem dX12_areGuarded_74 : decode cX12_areGuarded 74 = .ok (.iaload, 1) := by decide +kernel
theorem dX12_areGuarded_75 : decode cX12_areGuarded 75 = .ok (.if_icmp .ge 47, 3) := by decide +kernel
theorem dX12_areGuarded_78 : decode cX12_areGuarded 78 = .ok (.aload_n 0, 1) := by decide +kernel
theorem dX12_areGuarded_79 : decode cX12_areGuarded 79 = .ok (.getfield 129, 3) := by decide +kernel
theorem dX12_areGuarded_82 : decode cX12_areGuarded 82 = .ok (.iload 5, 2) := by decide +kernel
theorem dX12_areGuarded_84 : decode cX12_areGuarded 84 = .ok (.baload, 1) := by decide +kernel
theorem dX12_areGuarded_85 : decode cX12_areGuarded 85 = .ok (.ifCond .ne 31, 3) := by decide +kernel
theorem dX12_areGuarded_88 : decode cX12_areGuarded 88 = .ok (.iload 4, 2) := by decide +kernel
theorem dX12_areGuarded_90 : decode cX12_areGuarded 90 = .ok (.ifCond .lt 22, 3) := by decide +kernel
theorem dX12_areGuarded_93 : decode cX12_areGuarded 93 = .ok (.aload_n 0, 1) := by decide +kernel
theorem dX12_areGuarded_94 : decode cX12_areGuarded 94 = .ok (.iload_n 1, 1) := by decide +kernel
theorem dX12_areGuarded_95 : decode cX12_areGuarded 95 = .ok (.iload 5, 2) := by decide +kernel
theorem dX12_areGuarded_97 : decode cX12_areGuarded 97 = .ok (.iload_n 3, 1) := by decide +kernel
theorem dX12_areGuarded_98 : decode cX12_areGuarded 98 = .ok (.invokevirtual 132, 3) := by decide +kernel
theorem dX12_areGuarded_101 : decode cX12_areGuarded 101 = .ok (.aload_n 0, 1) := by decide +kernel
theorem dX12_areGuarded_102 : decode cX12_areGuarded 102 = .ok (.iload_n 1, 1) := by decide +kernel
theorem dX12_areGuarded_103 : decode cX12_areGuarded 103 = .ok (.iload 4, 2) := by decide +kernel
theorem dX12_areGuarded_105 : decode cX12_areGuarded 105 = .ok (.iload_n 3, 1) := by decide +kernel
theorem dX12_areGuarded_106 : decode cX12_areGuarded 106 = .ok (.invokevirtual 132, 3) := by decide +kernel
theorem dX12_areGuarded_109 : decode cX12_areGuarded 109 = .ok (.if_icmp .le 7, 3) := by decide +kernel
theorem dX12_areGuarded_112 : decode cX12_areGuarded 112 = .ok (.iload 5, 2) := by decide +kernel
theorem dX12_areGuarded_114 : decode cX12_areGuarded 114 = .ok (.istore 4, 2) := by decide +kernel
theorem dX12_areGuarded_116 : decode cX12_areGuarded 116 = .ok (.iinc 5 1, 3) := by decide +kernel
theorem dX12_areGuarded_119 : decode cX12_areGuarded 119 = .ok (.goto (-52), 3) := by decide +kernel
theorem dX12_areGuarded_122 : decode cX12_areGuarded 122 = .ok (.iload 4, 2) := by decide +kernel
theorem dX12_areGuarded_124 : decode cX12_areGuarded 124 = .ok (.ifCond .ge 5, 3) := by decide +kernel
theorem dX12_areGuarded_127 : decode cX12_areGuarded 127 = .ok (.iconst 1, 1) := by decide +kernel
theorem dX12_areGuarded_128 : decode cX12_areGuarded 128 = .ok (.ireturn, 1) := by decide +kernel
theorem dX12_areGuarded_129 : decode cX12_areGuarded 129 = .ok (.aload_n 0, 1) := by decide +kernel
theorem dX12_areGuarded_130 : decode cX12_areGuarded 130 = .ok (.getfield 129, 3) := by decide +kernel
theorem dX12_areGuarded_133 : decode cX12_areGuarded 133 = .ok (.iload 4, 2) := by decide +kernel
theorem dX12_areGuarded_135 : decode cX12_areGuarded 135 = .ok (.iconst 1, 1) := by decide +kernel
theorem dX12_areGuarded_136 : decode cX12_areGuarded 136 = .ok (.bastore, 1) := by decide +kernel
theorem dX12_areGuarded_137 : decode cX12_areGuarded 137 = .ok (.iconst (-1), 1) := by decide +kernel
theorem dX12_areGuarded_138 : decode cX12_areGuarded 138 = .ok (.istore 5, 2) := by decide +kernel
theorem dX12_areGuarded_140 : decode cX12_areGuarded 140 = .ok (.iconst 0, 1) := by decide +kernel
theorem dX12_areGuarded_141 : decode cX12_areGuarded 141 = .ok (.istore 6, 2) := by decide +kernel
theorem dX12_areGuarded_143 : decode cX12_areGuarded 143 = .ok (.iconst 0, 1) := by decide +kernel
theorem dX12_areGuarded_144 : decode cX12_areGuarded 144 = .ok (.istore 7, 2) := by decide +kernel
theorem dX12_areGuarded_146 : decode cX12_areGuarded 146 = .ok (.iload 7, 2) := by decide +kernel
theorem dX12_areGuarded_148 : decode cX12_areGuarded 148 = .ok (.aload_n 0, 1) := by decide +kernel
theorem dX12_areGuarded_149 : decode cX12_areGuarded 149 = .ok (.getfield 17, 3) := by decide +kernel
theorem dX12_areGuarded_152 : decode cX12_areGuarded 152 = .ok (.if_icmp .ge 70, 3) := by decide +kernel
theorem dX12_areGuarded_155 : decode cX12_areGuarded 155 = .ok (.aload_n 0, 1) := by decide +kernel
theorem dX12_areGuarded_156 : decode cX12_areGuarded 156 = .ok (.iload 7, 2) := by decide +kernel
theorem dX12_areGuarded_158 : decode cX12_areGuarded 158 = .ok (.iload_n 3, 1) := by decide +kernel
theorem dX12_areGuarded_159 : decode cX12_areGuarded 159 = .ok (.aload_n 0, 1) := by decide +kernel
theorem dX12_areGuarded_160 : decode cX12_areGuarded 160 = .ok (.getfield 52, 3) := by decide +kernel
theorem dX12_areGuarded_163 : decode cX12_areGuarded 163 = .ok (.aload_n 0, 1) := by decide +kernel
theorem dX12_areGuarded_164 : decode cX12_areGuarded 164 = .ok (.getfield 55, 3) := by decide +kernel
theorem dX12_areGuarded_167 : decode cX12_areGuarded 167 = .ok (.iload_n 1, 1) := by decide +kernel
theorem dX12_areGuarded_168 : decode cX12_areGuarded 168 = .ok (.iaload, 1) := by decide +kernel
theorem dX12_areGuarded_169 : decode cX12_areGuarded 169 = .ok (.iaload, 1) := by decide +kernel
theorem dX12_areGuarded_170 : decode cX12_areGuarded 170 = .ok (.iload_n 1, 1) := by decide +kernel
theorem dX12_areGuarded_171 : decode cX12_areGuarded 171 = .ok (.iconst 1, 1) := by decide +kernel
theorem dX12_areGuarded_172 : decode cX12_areGuarded 172 = .ok (.iadd, 1) := by decide +kernel
theorem dX12_areGuarded_173 : decode cX12_areGuarded 173 = .ok (.invokevirtual 138, 3) := by decide +kernel
theorem dX12_areGuarded_176 : decode cX12_areGuarded 176 = .ok (.ifCond .ne 6, 3) := by decide +kernel
theorem dX12_areGuarded_179 : decode cX12_areGuarded 179 = .ok (.goto 37, 3) := by decide +kernel
theorem dX12_areGuarded_182 : decode cX12_areGuarded 182 = .ok (.aload_n 0, 1) := by decide +kernel
theorem dX12_areGuarded_183 : decode cX12_areGuarded 183 = .ok (.iload 7, 2) := by decide +kernel
theorem dX12_areGuarded_185 : decode cX12_areGuarded 185 = .ok (.iload_n 1, 1) := by decide +kernel
theorem dX12_areGuarded_186 : decode cX12_areGuarded 186 = .ok (.iconst 1, 1) := by decide +kernel
theorem dX12_areGuarded_187 : decode cX12_areGuarded 187 = .ok (.iadd, 1) := by decide +kernel
theorem dX12_areGuarded_188 : decode cX12_areGuarded 188 = .ok (.invokevirtual 142, 3) := by decide +kernel
theorem dX12_areGuarded_191 : decode cX12_areGuarded 191 = .ok (.istore 8, 2) := by decide +kernel
theorem dX12_areGuarded_193 : decode cX12_areGuarded 193 = .ok (.iload 5, 2) := by decide +kernel
theorem dX12_areGuarded_195 : decode cX12_areGuarded 195 = .ok (.ifCond .lt 13, 3) := by decide +kernel
theorem dX12_areGuarded_198 : decode cX12_areGuarded 198 = .ok (.iload 8, 2) := by decide +kernel
theorem dX12_areGuarded_200 : decode cX12_areGuarded 200 = .ok (.iload 6, 2) := by decide +kernel
theorem dX12_areGuarded_202 : decode cX12_areGuarded 202 = .ok (.if_icmp .lt 6, 3) := by decide +kernel
theorem dX12_areGuarded_205 : decode cX12_areGuarded 205 = .ok (.goto 11, 3) := by decide +kernel
theorem dX12_areGuarded_208 : decode cX12_areGuarded 208 = .ok (.iload 7, 2) := by decide +kernel
theorem dX12_areGuarded_210 : decode cX12_areGuarded 210 = .ok (.istore 5, 2) := by decide +kernel
theorem dX12_areGuarded_212 : decode cX12_areGuarded 212 = .ok (.iload 8, 2) := by decide +kernel
theorem dX12_areGuarded_214 : decode cX12_areGuarded 214 = .ok (.istore 6, 2) := by decide +kernel
theorem dX12_areGuarded_216 : decode cX12_areGuarded 216 = .ok (.iinc 7 1, 3) := by decide +kernel
theorem dX12_areGuarded_219 : decode cX12_areGuarded 219 = .ok (.goto (-73), 3) := by decide +kernel
theorem dX12_areGuarded_222 : decode cX12_areGuarded 222 = .ok (.iload 5, 2) := by decide +kernel
theorem dX12_areGuarded_224 : decode cX12_areGuarded 224 = .ok (.ifCond .ge 5, 3) := by decide +kernel
theorem dX12_areGuarded_227 : decode cX12_areGuarded 227 = .ok (.iconst 0, 1) := by decide +kernel
theorem dX12_areGuarded_228 : decode cX12_areGuarded 228 = .ok (.ireturn, 1) := by decide +kernel
theorem dX12_areGuarded_229 : decode cX12_areGuarded 229 = .ok (.iload_n 2, 1) := by decide +kernel
theorem dX12_areGuarded_230 : decode cX12_areGuarded 230 = .ok (.ifCond .eq 10, 3) := by decide +kernel
theorem dX12_areGuarded_233 : decode cX12_areGuarded 233 = .ok (.aload_n 0, 1) := by decide +kernel
theorem dX12_areGuarded_234 : decode cX12_areGuarded 234 = .ok (.getfield 91, 3) := by decide +kernel
theorem dX12_areGuarded_237 : decode cX12_areGuarded 237 = .ok (.goto 7, 3) := by decide +kernel
theorem dX12_areGuarded_240 : decode cX12_areGuarded 240 = .ok (.aload_n 0, 1) := by decide +kernel
theorem dX12_areGuarded_241 : decode cX12_areGuarded 241 = .ok (.getfield 94, 3) := by decide +kernel
theorem dX12_areGuarded_244 : decode cX12_areGuarded 244 = .ok (.iload_n 1, 1) := by decide +kernel
theorem dX12_areGuarded_245 : decode cX12_areGuarded 245 = .ok (.bipush 16, 2) := by decide +kernel
theorem dX12_areGuarded_247 : decode cX12_areGuarded 247 = .ok (.imul, 1) := by decide +kernel
theorem dX12_areGuarded_248 : decode cX12_areGuarded 248 = .ok (.iload 4, 2) := by decide +kernel
theorem dX12_areGuarded_250 : decode cX12_areGuarded 250 = .ok (.iadd, 1) := by decide +kernel
theorem dX12_areGuarded_251 : decode cX12_areGuarded 251 = .ok (.iload 5, 2) := by decide +kernel
theorem dX12_areGuarded_253 : decode cX12_areGuarded 253 = .ok (.iastore, 1) := by decide +kernel
theorem dX12_areGuarded_254 : decode cX12_areGuarded 254 = .ok (.goto (-193), 3) := by decide +kernel
theorem dX12_inForce_0 : decode cX12_inForce 0 = .ok (.iconst (-1), 1) := by decide +kernel
theorem dX12_inForce_1 : decode cX12_inForce 1 = .ok (.istore_n 3, 1) := by decide +kernel
theorem dX12_inForce_2 : decode cX12_inForce 2 = .ok (.iconst 0, 1) := by decide +kernel
theorem dX12_inForce_3 : decode cX12_inForce 3 = .ok (.istore 4, 2) := by decide +kernel
theorem dX12_inForce_5 : decode cX12_inForce 5 = .ok (.iload 4, 2) := by decide +kernel
theorem dX12_inForce_7 : decode cX12_inForce 7 = .ok (.aload_n 0, 1) := by decide +kernel
theorem dX12_inForce_8 : decode cX12_inForce 8 = .ok (.getfield 145, 3) := by decide +kernel
theorem dX12_inForce_11 : decode cX12_inForce 11 = .ok (.if_icmp .ge 54, 3) := by decide +kernel
theorem dX12_inForce_14 : decode cX12_inForce 14 = .ok (.aload_n 0, 1) := by decide +kernel
theorem dX12_inForce_15 : decode cX12_inForce 15 = .ok (.getfield 148, 3) := by decide +kernel
theorem dX12_inForce_18 : decode cX12_inForce 18 = .ok (.iload 4, 2) := by decide +kernel
theorem dX12_inForce_20 : decode cX12_inForce 20 = .ok (.iaload, 1) := by decide +kernel
theorem dX12_inForce_21 : decode cX12_inForce 21 = .ok (.iload_n 1, 1) := by decide +kernel
theorem dX12_inForce_22 : decode cX12_inForce 22 = .ok (.if_icmp .ne 37, 3) := by decide +kernel
theorem dX12_inForce_25 : decode cX12_inForce 25 = .ok (.aload_n 0, 1) := by decide +kernel
theorem dX12_inForce_26 : decode cX12_inForce 26 = .ok (.getfield 151, 3) := by decide +kernel
theorem dX12_inForce_29 : decode cX12_inForce 29 = .ok (.iload 4, 2) := by decide +kernel
theorem dX12_inForce_31 : decode cX12_inForce 31 = .ok (.iaload, 1) := by decide +kernel
theorem dX12_inForce_32 : decode cX12_inForce 32 = .ok (.iload_n 2, 1) := by decide +kernel
theorem dX12_inForce_33 : decode cX12_inForce 33 = .ok (.if_icmp .gt 26, 3) := by decide +kernel
theorem dX12_inForce_36 : decode cX12_inForce 36 = .ok (.iload_n 3, 1) := by decide +kernel
theorem dX12_inForce_37 : decode cX12_inForce 37 = .ok (.ifCond .lt 19, 3) := by decide +kernel
theorem dX12_inForce_40 : decode cX12_inForce 40 = .ok (.aload_n 0, 1) := by decide +kernel
theorem dX12_inForce_41 : decode cX12_inForce 41 = .ok (.getfield 151, 3) := by decide +kernel
theorem dX12_inForce_44 : decode cX12_inForce 44 = .ok (.iload 4, 2) := by decide +kernel
theorem dX12_inForce_46 : decode cX12_inForce 46 = .ok (.iaload, 1) := by decide +kernel
theorem dX12_inForce_47 : decode cX12_inForce 47 = .ok (.aload_n 0, 1) := by decide +kernel
theorem dX12_inForce_48 : decode cX12_inForce 48 = .ok (.getfield 151, 3) := by decide +kernel
theorem dX12_inForce_51 : decode cX12_inForce 51 = .ok (.iload_n 3, 1) := by decide +kernel
theorem dX12_inForce_52 : decode cX12_inForce 52 = .ok (.iaload, 1) := by decide +kernel
theorem dX12_inForce_53 : decode cX12_inForce 53 = .ok (.if_icmp .le 6, 3) := by decide +kernel
theorem dX12_inForce_56 : decode cX12_inForce 56 = .ok (.iload 4, 2) := by decide +kernel
theorem dX12_inForce_58 : decode cX12_inForce 58 = .ok (.istore_n 3, 1) := by decide +kernel
theorem dX12_inForce_59 : decode cX12_inForce 59 = .ok (.iinc 4 1, 3) := by decide +kernel
theorem dX12_inForce_62 : decode cX12_inForce 62 = .ok (.goto (-57), 3) := by decide +kernel
theorem dX12_inForce_65 : decode cX12_inForce 65 = .ok (.iload_n 3, 1) := by decide +kernel
theorem dX12_inForce_66 : decode cX12_inForce 66 = .ok (.ireturn, 1) := by decide +kernel
set_option maxRecDepth 20000 in
theorem ggX12_reportOn_X12_inForce : GoodIn wsX12_reportOn wsX12_inForce := goodIn_r _ [6, 7, 8, 1, 9, 10, 11, 12, 13, 14, 15, 16, 17, 18, 19, 20, 21, 22, 23, 24, 25, 26, 27, 28, 29, 30, 31, 32, 33, 34, 35, 36, 37, 38, 39, 40, 41, 42, 43, 44, 45, 46, 47, 48, 49, 50, 51, 52, 53, 54, 55, 56, 57, 58, 59] (by decide +kernel) (by decide +kernel)
set_option maxRecDepth 20000 in
theorem gX12_reportOn_X12_inForce : GoodIn wsX12_reportOn (wsV RX12 154 RX12 yX12_inForce wsX12_inForce) := goodIn_app (goodIn_of _ (by decide +kernel)) ggX12_reportOn_X12_inForce
theorem dX12_reportOn_0 : decode cX12_reportOn 0 = .ok (.aload_n 0, 1) := by decide +kernel
theorem dX12_reportOn_1 : decode cX12_reportOn 1 = .ok (.iload_n 1, 1) := by decide +kernel
theorem dX12_reportOn_2 : decode cX12_reportOn 2 = .ok (.iload_n 2, 1) := by decide +kernel
theorem dX12_reportOn_3 : decode cX12_reportOn 3 = .ok (.invokevirtual 154, 3) := by decide +kernel
theorem dX12_reportOn_6 : decode cX12_reportOn 6 = .ok (.istore_n 3, 1) := by decide +kernel
theorem dX12_reportOn_7 : decode cX12_reportOn 7 = .ok (.iload_n 3, 1) := by decide +kernel
theorem dX12_reportOn_8 : decode cX12_reportOn 8 = .ok (.ifCond .lt 17, 3) := by decide +kernel
theorem dX12_reportOn_11 : decode cX12_reportOn 11 = .ok (.aload_n 0, 1) := by decide +kernel
theorem dX12_reportOn_12 : decode cX12_reportOn 12 = .ok (.getfield 151, 3) := by decide +kernel
theorem dX12_reportOn_15 : decode cX12_reportOn 15 = .ok (.iload_n 3, 1) := by decide +kernel
theorem dX12_reportOn_16 : decode cX12_reportOn 16 = .ok (.iaload, 1) := by decide +kernel
theorem dX12_reportOn_17 : decode cX12_reportOn 17 = .ok (.iload_n 2, 1) := by decide +kernel
theorem dX12_reportOn_18 : decode cX12_reportOn 18 = .ok (.if_icmp .ne 7, 3) := by decide +kernel
theorem dX12_reportOn_21 : decode cX12_reportOn 21 = .ok (.iload_n 3, 1) := by decide +kernel
theorem dX12_reportOn_22 : decode cX12_reportOn 22 = .ok (.goto 4, 3) := by decide +kernel
theorem dX12_reportOn_25 : decode cX12_reportOn 25 = .ok (.iconst (-1), 1) := by decide +kernel
theorem dX12_reportOn_26 : decode cX12_reportOn 26 = .ok (.ireturn, 1) := by decide +kernel
set_option maxRecDepth 20000 in
theorem ggX12_aheadOf_X12_inForce : GoodIn wsX12_aheadOf wsX12_inForce := goodIn_r _ [7, 8, 1, 2, 9, 10, 11, 12, 13, 14, 15, 16, 17, 18, 19, 20, 21, 22, 23, 24, 25, 26, 27, 28, 29, 30, 31, 32, 33, 34, 35, 36, 37, 38, 39, 40, 41, 42, 43, 44, 45, 46, 47, 48, 49, 50, 51, 52, 53, 54, 55, 56, 57, 58, 59] (by decide +kernel) (by decide +kernel)
set_option maxRecDepth 20000 in
theorem gX12_aheadOf_X12_inForce : GoodIn wsX12_aheadOf (wsV RX12 154 RX12 yX12_inForce wsX12_inForce) := goodIn_app (goodIn_of _ (by decide +kernel)) ggX12_aheadOf_X12_inForce
theorem dX12_aheadOf_0 : decode cX12_aheadOf 0 = .ok (.aload_n 0, 1) := by decide +kernel
theorem dX12_aheadOf_1 : decode cX12_aheadOf 1 = .ok (.aload_n 0, 1) := by decide +kernel
theorem dX12_aheadOf_2 : decode cX12_aheadOf 2 = .ok (.getfield 148, 3) := by decide +kernel
theorem dX12_aheadOf_5 : decode cX12_aheadOf 5 = .ok (.iload_n 1, 1) := by decide +kernel
theorem dX12_aheadOf_6 : decode cX12_aheadOf 6 = .ok (.iaload, 1) := by decide +kernel
theorem dX12_aheadOf_7 : decode cX12_aheadOf 7 = .ok (.aload_n 0, 1) := by decide +kernel
theorem dX12_aheadOf_8 : decode cX12_aheadOf 8 = .ok (.getfield 151, 3) := by decide +kernel
theorem dX12_aheadOf_11 : decode cX12_aheadOf 11 = .ok (.iload_n 1, 1) := by decide +kernel
theorem dX12_aheadOf_12 : decode cX12_aheadOf 12 = .ok (.iaload, 1) := by decide +kernel
theorem dX12_aheadOf_13 : decode cX12_aheadOf 13 = .ok (.iconst 1, 1) := by decide +kernel
theorem dX12_aheadOf_14 : decode cX12_aheadOf 14 = .ok (.isub, 1) := by decide +kernel
theorem dX12_aheadOf_15 : decode cX12_aheadOf 15 = .ok (.invokevirtual 154, 3) := by decide +kernel
theorem dX12_aheadOf_18 : decode cX12_aheadOf 18 = .ok (.ireturn, 1) := by decide +kernel
set_option maxRecDepth 20000 in
theorem ggX12_harmsOn_X12_inForce : GoodIn wsX12_harmsOn wsX12_inForce := goodIn_r _ [6, 7, 8, 9, 10, 11, 12, 13, 14, 15, 16, 17, 18, 19, 20, 21, 22, 23, 24, 25, 26, 27, 28, 29, 30, 31, 32, 33, 34, 35, 36, 37, 38, 39, 40, 41, 42, 43, 44, 45, 46, 47, 48, 49, 50, 51, 52, 53, 54, 55, 56, 57, 58, 59, 60] (by decide +kernel) (by decide +kernel)
set_option maxRecDepth 20000 in
theorem gX12_harmsOn_X12_inForce : GoodIn wsX12_harmsOn (wsV RX12 154 RX12 yX12_inForce wsX12_inForce) := goodIn_app (goodIn_of _ (by decide +kernel)) ggX12_harmsOn_X12_inForce
theorem dX12_harmsOn_0 : decode cX12_harmsOn 0 = .ok (.aload_n 0, 1) := by decide +kernel
theorem dX12_harmsOn_1 : decode cX12_harmsOn 1 = .ok (.iload_n 1, 1) := by decide +kernel
theorem dX12_harmsOn_2 : decode cX12_harmsOn 2 = .ok (.iload_n 2, 1) := by decide +kernel
theorem dX12_harmsOn_3 : decode cX12_harmsOn 3 = .ok (.invokevirtual 154, 3) := by decide +kernel
theorem dX12_harmsOn_6 : decode cX12_harmsOn 6 = .ok (.istore_n 3, 1) := by decide +kernel
theorem dX12_harmsOn_7 : decode cX12_harmsOn 7 = .ok (.iload_n 3, 1) := by decide +kernel
theorem dX12_harmsOn_8 : decode cX12_harmsOn 8 = .ok (.ifCond .ge 7, 3) := by decide +kernel
theorem dX12_harmsOn_11 : decode cX12_harmsOn 11 = .ok (.iconst 0, 1) := by decide +kernel
theorem dX12_harmsOn_12 : decode cX12_harmsOn 12 = .ok (.goto 9, 3) := by decide +kernel
theorem dX12_harmsOn_15 : decode cX12_harmsOn 15 = .ok (.aload_n 0, 1) := by decide +kernel
theorem dX12_harmsOn_16 : decode cX12_harmsOn 16 = .ok (.getfield 157, 3) := by decide +kernel
theorem dX12_harmsOn_19 : decode cX12_harmsOn 19 = .ok (.iload_n 3, 1) := by decide +kernel
theorem dX12_harmsOn_20 : decode cX12_harmsOn 20 = .ok (.iaload, 1) := by decide +kernel
theorem dX12_harmsOn_21 : decode cX12_harmsOn 21 = .ok (.ireturn, 1) := by decide +kernel
theorem dX12_sizeIn_0 : decode cX12_sizeIn 0 = .ok (.iconst 0, 1) := by decide +kernel
theorem dX12_sizeIn_1 : decode cX12_sizeIn 1 = .ok (.istore 4, 2) := by decide +kernel
theorem dX12_sizeIn_3 : decode cX12_sizeIn 3 = .ok (.iconst 0, 1) := by decide +kernel
theorem dX12_sizeIn_4 : decode cX12_sizeIn 4 = .ok (.istore 5, 2) := by decide +kernel
theorem dX12_sizeIn_6 : decode cX12_sizeIn 6 = .ok (.iload 5, 2) := by decide +kernel
theorem dX12_sizeIn_8 : decode cX12_sizeIn 8 = .ok (.aload_n 0, 1) := by decide +kernel
theorem dX12_sizeIn_9 : decode cX12_sizeIn 9 = .ok (.getfield 157, 3) := by decide +kernel
theorem dX12_sizeIn_12 : decode cX12_sizeIn 12 = .ok (.iload_n 1, 1) := by decide +kernel
theorem dX12_sizeIn_13 : decode cX12_sizeIn 13 = .ok (.iaload, 1) := by decide +kernel
theorem dX12_sizeIn_14 : decode cX12_sizeIn 14 = .ok (.if_icmp .ge 60, 3) := by decide +kernel
theorem dX12_sizeIn_17 : decode cX12_sizeIn 17 = .ok (.aload_n 0, 1) := by decide +kernel
theorem dX12_sizeIn_18 : decode cX12_sizeIn 18 = .ok (.getfield 160, 3) := by decide +kernel
theorem dX12_sizeIn_21 : decode cX12_sizeIn 21 = .ok (.iload_n 1, 1) := by decide +kernel
theorem dX12_sizeIn_22 : decode cX12_sizeIn 22 = .ok (.bipush 16, 2) := by decide +kernel
theorem dX12_sizeIn_24 : decode cX12_sizeIn 24 = .ok (.imul, 1) := by decide +kernel
theorem dX12_sizeIn_25 : decode cX12_sizeIn 25 = .ok (.iload 5, 2) := by decide +kernel
theorem dX12_sizeIn_27 : decode cX12_sizeIn 27 = .ok (.iadd, 1) := by decide +kernel
theorem dX12_sizeIn_28 : decode cX12_sizeIn 28 = .ok (.iaload, 1) := by decide +kernel
theorem dX12_sizeIn_29 : decode cX12_sizeIn 29 = .ok (.iload_n 2, 1) := by decide +kernel
theorem dX12_sizeIn_30 : decode cX12_sizeIn 30 = .ok (.if_icmp .ne 34, 3) := by decide +kernel
theorem dX12_sizeIn_33 : decode cX12_sizeIn 33 = .ok (.aload_n 0, 1) := by decide +kernel
theorem dX12_sizeIn_34 : decode cX12_sizeIn 34 = .ok (.getfield 163, 3) := by decide +kernel
theorem dX12_sizeIn_37 : decode cX12_sizeIn 37 = .ok (.iload_n 1, 1) := by decide +kernel
theorem dX12_sizeIn_38 : decode cX12_sizeIn 38 = .ok (.bipush 16, 2) := by decide +kernel
theorem dX12_sizeIn_40 : decode cX12_sizeIn 40 = .ok (.imul, 1) := by decide +kernel
theorem dX12_sizeIn_41 : decode cX12_sizeIn 41 = .ok (.iload 5, 2) := by decide +kernel
theorem dX12_sizeIn_43 : decode cX12_sizeIn 43 = .ok (.iadd, 1) := by decide +kernel
theorem dX12_sizeIn_44 : decode cX12_sizeIn 44 = .ok (.iaload, 1) := by decide +kernel
theorem dX12_sizeIn_45 : decode cX12_sizeIn 45 = .ok (.iload_n 3, 1) := by decide +kernel
theorem dX12_sizeIn_46 : decode cX12_sizeIn 46 = .ok (.if_icmp .ne 18, 3) := by decide +kernel
theorem dX12_sizeIn_49 : decode cX12_sizeIn 49 = .ok (.aload_n 0, 1) := by decide +kernel
theorem dX12_sizeIn_50 : decode cX12_sizeIn 50 = .ok (.getfield 166, 3) := by decide +kernel
theorem dX12_sizeIn_53 : decode cX12_sizeIn 53 = .ok (.iload_n 1, 1) := by decide +kernel
theorem dX12_sizeIn_54 : decode cX12_sizeIn 54 = .ok (.bipush 16, 2) := by decide +kernel
theorem dX12_sizeIn_56 : decode cX12_sizeIn 56 = .ok (.imul, 1) := by decide +kernel
theorem dX12_sizeIn_57 : decode cX12_sizeIn 57 = .ok (.iload 5, 2) := by decide +kernel
theorem dX12_sizeIn_59 : decode cX12_sizeIn 59 = .ok (.iadd, 1) := by decide +kernel
theorem dX12_sizeIn_60 : decode cX12_sizeIn 60 = .ok (.iaload, 1) := by decide +kernel
theorem dX12_sizeIn_61 : decode cX12_sizeIn 61 = .ok (.goto 5, 3) := by decide +kernel
theorem dX12_sizeIn_64 : decode cX12_sizeIn 64 = .ok (.iload 4, 2) := by decide +kernel
theorem dX12_sizeIn_66 : decode cX12_sizeIn 66 = .ok (.istore 4, 2) := by decide +kernel
theorem dX12_sizeIn_68 : decode cX12_sizeIn 68 = .ok (.iinc 5 1, 3) := by decide +kernel
theorem dX12_sizeIn_71 : decode cX12_sizeIn 71 = .ok (.goto (-65), 3) := by decide +kernel
theorem dX12_sizeIn_74 : decode cX12_sizeIn 74 = .ok (.iload 4, 2) := by decide +kernel
