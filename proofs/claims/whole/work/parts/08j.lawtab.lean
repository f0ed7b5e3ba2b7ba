def lw_x6 : List Cond := [.selects "java/lang/StringBuilder" ⟨"java/lang/AbstractStringBuilder", "appendNull", "()Ljava/lang/AbstractStringBuilder;"⟩ ⟨"java/lang/AbstractStringBuilder", "appendNull", "()Ljava/lang/AbstractStringBuilder;"⟩, .selects "java/lang/StringBuilder" ⟨"java/lang/AbstractStringBuilder", "ensureCapacityInternal", "(I)V"⟩ ⟨"java/lang/AbstractStringBuilder", "ensureCapacityInternal", "(I)V"⟩, .selects "java/lang/StringBuilder" ⟨"java/lang/AbstractStringBuilder", "newCapacity", "(I)I"⟩ ⟨"java/lang/AbstractStringBuilder", "newCapacity", "(I)I"⟩, .selects "java/lang/StringBuilder" ⟨"java/lang/AbstractStringBuilder", "putStringAt", "(ILjava/lang/String;)V"⟩ ⟨"java/lang/AbstractStringBuilder", "putStringAt", "(ILjava/lang/String;)V"⟩, .selects "java/lang/StringBuilder" ⟨"java/lang/AbstractStringBuilder", "inflateIfNeededFor", "(Ljava/lang/String;)V"⟩ ⟨"java/lang/AbstractStringBuilder", "inflateIfNeededFor", "(Ljava/lang/String;)V"⟩, .selects "java/lang/StringBuilder" ⟨"java/lang/AbstractStringBuilder", "inflate", "()V"⟩ ⟨"java/lang/AbstractStringBuilder", "inflate", "()V"⟩]
def lw_tb2 : List Cond := lw_x6 ++ lw_tbl
theorem selSB {y z : MethodName} {C : String} {s : State} {args : Array Value} (hy : y.cls ≠ "java/lang/invoke/MethodHandle" ∧ y.cls ≠ "java/lang/invoke/VarHandle") (hz : z.cls = y.cls) (hsel : (Cond.selects C z z).before args s = true) (hpriv : (Cond.privateMethod y).before args s = true) (hinst : (Cond.instanceMethod y).before args s = true) : (Cond.selects C y y).before args s = true := by
  obtain ⟨mk, methM, hnamed, hmethM, -, -⟩ := Cond.instanceMethod_spec hinst
  have hfound : s.methodFound? y.cls y.name y.desc = some mk := State.methodFound?_of_named hnamed hy
  have hcls : s.vm.findClass y.cls = some mk.cls := findClass_of_methodNamed hnamed
  obtain ⟨c, r, mz, hc, -, hn, -, ck, hck, hni⟩ := Cond.selects_spec hsel
  have hsm : selectMethod {} s.vm c mk = .method mk := selectMethod_private hmethM (Cond.privateMethod_at hpriv mk methM hnamed hmethM)
  have hz2 : s.vm.findClass z.cls = some mz.cls := findClass_of_methodNamed hn
  have e : mk.cls = mz.cls := by
    rw [hz, hcls] at hz2
    exact Option.some.inj hz2
  rw [← e] at hck
  simp [Cond.before, Cond.holds, Cond.value, hc, hfound, hnamed, hsm, hck, hni]
theorem lw_hts2 {args : Array Value} {s : State} (h : ∀ w ∈ lw_tbl, w.before args s = true) : ∀ w ∈ lw_tb2, w.before args s = true := by
  intro w hw
  rcases List.mem_append.mp hw with hw | hw
  · have h0 := h (.selects "java/lang/StringBuilder" ⟨"java/lang/AbstractStringBuilder", "isLatin1", "()Z"⟩ ⟨"java/lang/AbstractStringBuilder", "isLatin1", "()Z"⟩) (List.mem_of_getElem? (i := 581) (by decide +kernel))
    simp only [lw_x6, List.mem_cons, List.not_mem_nil, or_false] at hw
    rcases hw with rfl | rfl | rfl | rfl | rfl | rfl
    · exact selSB (z := ⟨"java/lang/AbstractStringBuilder", "isLatin1", "()Z"⟩) ⟨by decide +kernel, by decide +kernel⟩ rfl h0 (h _ (List.mem_of_getElem? (i := 540) (by decide +kernel))) (h _ (List.mem_of_getElem? (i := 541) (by decide +kernel)))
    · exact selSB (z := ⟨"java/lang/AbstractStringBuilder", "isLatin1", "()Z"⟩) ⟨by decide +kernel, by decide +kernel⟩ rfl h0 (h _ (List.mem_of_getElem? (i := 544) (by decide +kernel))) (h _ (List.mem_of_getElem? (i := 545) (by decide +kernel)))
    · exact selSB (z := ⟨"java/lang/AbstractStringBuilder", "isLatin1", "()Z"⟩) ⟨by decide +kernel, by decide +kernel⟩ rfl h0 (h _ (List.mem_of_getElem? (i := 548) (by decide +kernel))) (h _ (List.mem_of_getElem? (i := 549) (by decide +kernel)))
    · exact selSB (z := ⟨"java/lang/AbstractStringBuilder", "isLatin1", "()Z"⟩) ⟨by decide +kernel, by decide +kernel⟩ rfl h0 (h _ (List.mem_of_getElem? (i := 600) (by decide +kernel))) (h _ (List.mem_of_getElem? (i := 601) (by decide +kernel)))
    · exact selSB (z := ⟨"java/lang/AbstractStringBuilder", "isLatin1", "()Z"⟩) ⟨by decide +kernel, by decide +kernel⟩ rfl h0 (h _ (List.mem_of_getElem? (i := 604) (by decide +kernel))) (h _ (List.mem_of_getElem? (i := 605) (by decide +kernel)))
    · exact selSB (z := ⟨"java/lang/AbstractStringBuilder", "isLatin1", "()Z"⟩) ⟨by decide +kernel, by decide +kernel⟩ rfl h0 (h _ (List.mem_of_getElem? (i := 609) (by decide +kernel))) (h _ (List.mem_of_getElem? (i := 610) (by decide +kernel)))
  · exact h w hw
set_option maxRecDepth 100000 in
theorem wl_0 : ∀ w ∈ (wsL_law_r1 : List Cond), w ∈ lw_tb2 := sub_r [135, 136, 106, 1455, 1456, 113, 137, 138, 139, 140, 141, 142, 143, 144, 107, 227, 157, 158, 108, 228, 201, 202, 112, 229] (by decide +kernel)
set_option maxRecDepth 100000 in
theorem wl_1 : ∀ w ∈ (wsL_law_r2 : List Cond), w ∈ lw_tb2 := sub_r [230, 231, 232, 233, 234, 235, 236, 237, 146, 147, 148, 156, 149, 150, 160, 161, 162, 163, 164, 109, 185, 186, 187, 188] (by decide +kernel)
set_option maxRecDepth 100000 in
theorem wl_2 : ∀ w ∈ (wsL_law_r3 : List Cond), w ∈ lw_tb2 := sub_r [189, 166, 167, 168, 169, 170, 171, 172, 173, 203, 204, 205, 213, 215, 206, 207, 111, 208, 217, 209, 210, 110, 211, 212] (by decide +kernel)
set_option maxRecDepth 100000 in
theorem wl_3 : ∀ w ∈ (wsL_law_r4 : List Cond), w ∈ lw_tb2 := sub_r [1457, 1458, 1459, 1460, 1461, 1464, 1467, 1468, 1469, 1470, 1472, 1473, 1474, 1476, 1477, 1478, 1479, 1481, 1482, 1483, 1615, 1485, 1486, 1487] (by decide +kernel)
set_option maxRecDepth 100000 in
theorem wl_4 : ∀ w ∈ (wsL_law_r5 : List Cond), w ∈ lw_tb2 := sub_r [1488, 1489, 1490, 1491, 1492, 1493, 1495, 1496, 1497, 1498, 1499, 1500, 1501, 1502, 1509, 1510, 1511, 261, 262, 263, 264, 265, 266, 267] (by decide +kernel)
set_option maxRecDepth 100000 in
theorem wl_5 : ∀ w ∈ (wsL_law_r6 : List Cond), w ∈ lw_tb2 := sub_r [268, 269, 271, 6, 272, 273, 274, 275, 276, 277, 278, 279, 280, 281, 283, 7, 284, 1616, 1617, 1618, 1619, 1462, 1620, 1622] (by decide +kernel)
set_option maxRecDepth 100000 in
theorem wl_6 : ∀ w ∈ (wsL_law_r7 : List Cond), w ∈ lw_tb2 := sub_r [50, 1623, 1463, 1624, 1626, 51, 1627, 285, 286, 287, 288, 289, 290, 291, 292, 1628, 1629, 1630, 1631, 1632, 1633, 1634, 293, 294] (by decide +kernel)
set_option maxRecDepth 100000 in
theorem wl_7 : ∀ w ∈ (wsL_law_r8 : List Cond), w ∈ lw_tb2 := sub_r [295, 296, 463, 464, 118, 297, 298, 299, 300, 301, 302, 303, 304, 305, 306, 308, 8, 309, 310, 311, 312, 313, 314, 316] (by decide +kernel)
set_option maxRecDepth 100000 in
theorem wl_8 : ∀ w ∈ (wsL_law_r9 : List Cond), w ∈ lw_tb2 := sub_r [9, 317, 318, 320, 10, 321, 322, 324, 11, 325, 326, 328, 12, 329, 331, 332, 345, 347, 13, 348, 349, 350, 351, 114] (by decide +kernel)
set_option maxRecDepth 100000 in
theorem wl_9 : ∀ w ∈ (wsL_law_r10 : List Cond), w ∈ lw_tb2 := sub_r [352, 724, 353, 354, 355, 356, 357, 725, 359, 360, 361, 362, 363, 364, 365, 366, 367, 368, 115, 369, 370, 371, 372, 373] (by decide +kernel)
set_option maxRecDepth 100000 in
theorem wl_10 : ∀ w ∈ (wsL_law_r11 : List Cond), w ∈ lw_tb2 := sub_r [375, 376, 116, 377, 378, 379, 117, 380, 381, 382, 383, 384, 385, 386, 387, 388, 389, 390, 391, 393, 395, 397, 398, 399] (by decide +kernel)
set_option maxRecDepth 100000 in
theorem wl_11 : ∀ w ∈ (wsL_law_r12 : List Cond), w ∈ lw_tb2 := sub_r [400, 401, 403, 14, 404, 405, 406, 407, 408, 409, 411, 15, 412, 413, 414, 415, 416, 417, 419, 16, 420, 421, 423, 17] (by decide +kernel)
set_option maxRecDepth 100000 in
theorem wl_12 : ∀ w ∈ (wsL_law_r13 : List Cond), w ∈ lw_tb2 := sub_r [424, 425, 426, 427, 428, 429, 431, 18, 432, 433, 435, 19, 436, 437, 439, 20, 440, 441, 442, 443, 444, 445, 446, 447] (by decide +kernel)
set_option maxRecDepth 100000 in
theorem wl_13 : ∀ w ∈ (wsL_law_r14 : List Cond), w ∈ lw_tb2 := sub_r [448, 449, 450, 451, 452, 453, 454, 455, 456, 457, 458, 216, 459, 461, 21, 462, 465, 466, 467, 468, 469, 470, 119, 746] (by decide +kernel)
set_option maxRecDepth 100000 in
theorem wl_14 : ∀ w ∈ (wsL_law_r15 : List Cond), w ∈ lw_tb2 := sub_r [486, 487, 121, 748, 502, 752, 735, 738, 750, 741, 751, 744, 471, 472, 473, 474, 478, 479, 475, 476, 120, 477, 489, 490] (by decide +kernel)
set_option maxRecDepth 100000 in
theorem wl_15 : ∀ w ∈ (wsL_law_r16 : List Cond), w ∈ lw_tb2 := sub_r [491, 492, 493, 494, 503, 504, 505, 506, 507, 508, 123, 509, 510, 511, 512, 513, 122, 514, 515, 516, 485, 524, 525, 517] (by decide +kernel)
set_option maxRecDepth 100000 in
theorem wl_16 : ∀ w ∈ (wsL_law_r17 : List Cond), w ∈ lw_tb2 := sub_r [518, 519, 520, 521, 522, 523, 538, 539, 540, 541, 542, 2005, 536, 543, 544, 527, 545, 2006, 0, 547, 548, 549, 2007, 1] (by decide +kernel)
set_option maxRecDepth 100000 in
theorem wl_17 : ∀ w ∈ (wsL_law_r18 : List Cond), w ∈ lw_tb2 := sub_r [551, 552, 553, 2008, 2, 555, 556, 567, 557, 558, 124, 559, 560, 561, 125, 562, 563, 564, 565, 566, 568, 569, 570, 571] (by decide +kernel)
set_option maxRecDepth 100000 in
theorem wl_18 : ∀ w ∈ (wsL_law_r19 : List Cond), w ∈ lw_tb2 := sub_r [572, 573, 574, 575, 577, 578, 579, 580, 581, 583, 582, 126, 584, 586, 587, 585, 588, 589, 590, 591, 592, 593, 594, 595] (by decide +kernel)
set_option maxRecDepth 100000 in
theorem wl_19 : ∀ w ∈ (wsL_law_r20 : List Cond), w ∈ lw_tb2 := sub_r [596, 597, 598, 599, 600, 601, 602, 603, 604, 605, 2009, 3, 607, 608, 609, 2010, 4, 611, 612, 613, 614, 2011, 5, 616] (by decide +kernel)
set_option maxRecDepth 100000 in
theorem wl_20 : ∀ w ∈ (wsL_law_r21 : List Cond), w ∈ lw_tb2 := sub_r [617, 618, 619, 620, 621, 622, 623, 624, 625, 626, 627, 628, 629, 630, 631, 632, 633, 634, 635, 636, 637, 638, 639, 640] (by decide +kernel)
set_option maxRecDepth 100000 in
theorem wl_21 : ∀ w ∈ (wsL_law_r22 : List Cond), w ∈ lw_tb2 := sub_r [641, 642, 643, 2012, 644, 645, 646, 647, 648, 649, 650, 651, 652, 653, 654, 655, 656, 2013, 657, 658, 659, 660, 128, 661] (by decide +kernel)
set_option maxRecDepth 100000 in
theorem wl_22 : ∀ w ∈ (wsL_law_r23 : List Cond), w ∈ lw_tb2 := sub_r [662, 663, 664, 665, 667, 669, 670, 671, 672, 673, 674, 675, 676, 678, 679, 680, 681, 682, 683, 684, 685, 686, 687, 688] (by decide +kernel)
set_option maxRecDepth 100000 in
theorem wl_23 : ∀ w ∈ (wsL_law_r24 : List Cond), w ∈ lw_tb2 := sub_r [689, 690, 526, 691, 693, 694, 692, 695, 696, 698, 697, 699, 700, 701, 702, 697, 703, 704, 705, 706, 707, 708, 709, 710] (by decide +kernel)
set_option maxRecDepth 100000 in
theorem wl_24 : ∀ w ∈ (wsL_law_r25 : List Cond), w ∈ lw_tb2 := sub_r [711, 712, 713, 714, 715, 716, 717, 718, 719, 720, 721, 722, 723, 772, 773, 774, 775, 218, 219, 776, 778, 22, 779, 780] (by decide +kernel)
set_option maxRecDepth 100000 in
theorem wl_25 : ∀ w ∈ (wsL_law_r26 : List Cond), w ∈ lw_tb2 := sub_r [782, 23, 783, 784, 786, 24, 787, 818, 819, 788, 789, 790, 791, 792, 2031, 793, 811, 812, 813, 814, 815, 817, 1635, 1636] (by decide +kernel)
set_option maxRecDepth 100000 in
theorem wl_26 : ∀ w ∈ (wsL_law_r27 : List Cond), w ∈ lw_tb2 := sub_r [1637, 1638, 1466, 1639, 1641, 52, 1642, 1504, 1508, 1465, 1643, 1645, 53, 1646, 1505, 1506, 1507, 1647, 1649, 54, 1650, 1651, 1652, 1653] (by decide +kernel)
set_option maxRecDepth 100000 in
theorem wl_27 : ∀ w ∈ (wsL_law_r28 : List Cond), w ∈ lw_tb2 := sub_r [1659, 1661, 55, 1662, 1663, 1664, 1665, 1666, 1667, 1674, 1676, 56, 1677, 1678, 1680, 57, 1681, 1682, 1684, 58, 1685, 1686, 1688, 59] (by decide +kernel)
set_option maxRecDepth 100000 in
theorem wl_28 : ∀ w ∈ (wsL_law_r29 : List Cond), w ∈ lw_tb2 := sub_r [1689, 1690, 1692, 60, 1693, 820, 821, 822, 823, 832, 833, 129, 824, 825, 826, 827, 828, 829, 830, 831, 834, 835, 836, 837] (by decide +kernel)
set_option maxRecDepth 100000 in
theorem wl_29 : ∀ w ∈ (wsL_law_r30 : List Cond), w ∈ lw_tb2 := sub_r [843, 846, 849, 851, 838, 853, 839, 840, 841, 842, 1694, 1695, 1696, 1697, 1475, 866, 867, 868, 869, 887, 888, 130, 870, 871] (by decide +kernel)
set_option maxRecDepth 100000 in
theorem wl_30 : ∀ w ∈ (wsL_law_r31 : List Cond), w ∈ lw_tb2 := sub_r [872, 873, 874, 876, 25, 877, 878, 880, 26, 881, 882, 883, 884, 885, 886, 889, 890, 891, 892, 893, 915, 911, 895, 913] (by decide +kernel)
set_option maxRecDepth 100000 in
theorem wl_31 : ∀ w ∈ (wsL_law_r32 : List Cond), w ∈ lw_tb2 := sub_r [894, 896, 897, 898, 899, 900, 901, 903, 27, 904, 905, 907, 908, 909, 910, 1698, 1699, 1700, 1701, 1480, 1702, 1704, 61, 1705] (by decide +kernel)
set_option maxRecDepth 100000 in
theorem wl_32 : ∀ w ∈ (wsL_law_r33 : List Cond), w ∈ lw_tb2 := sub_r [924, 925, 926, 927, 928, 930, 28, 931, 832, 932, 933, 934, 935, 936, 937, 131, 938, 939, 940, 941, 942, 943, 944, 945] (by decide +kernel)
set_option maxRecDepth 100000 in
theorem wl_33 : ∀ w ∈ (wsL_law_r34 : List Cond), w ∈ lw_tb2 := sub_r [946, 947, 948, 950, 29, 951, 845, 747, 743, 848, 952, 953, 955, 30, 956, 957, 958, 960, 31, 961, 463, 962, 963, 964] (by decide +kernel)
set_option maxRecDepth 100000 in
theorem wl_34 : ∀ w ∈ (wsL_law_r35 : List Cond), w ∈ lw_tb2 := sub_r [965, 967, 968, 969, 971, 32, 972, 973, 974, 132, 975, 976, 977, 978, 979, 985, 987, 981, 983, 989, 980, 1001, 1002, 1003] (by decide +kernel)
set_option maxRecDepth 100000 in
theorem wl_35 : ∀ w ∈ (wsL_law_r36 : List Cond), w ∈ lw_tb2 := sub_r [1004, 1005, 1006, 1007, 1012, 1008, 1010, 33, 1011, 1013, 1014, 1015, 1016, 1019, 847, 1019, 1036, 133, 1017, 1018, 1020, 1021, 1022, 1023] (by decide +kernel)
set_option maxRecDepth 100000 in
theorem wl_36 : ∀ w ∈ (wsL_law_r37 : List Cond), w ∈ lw_tb2 := sub_r [1043, 742, 1045, 1026, 739, 1024, 1025, 1027, 1028, 1029, 1030, 1031, 1032, 1033, 1034, 1035, 1038, 1039, 1040, 1041, 1046, 1047, 1042, 1057] (by decide +kernel)
set_option maxRecDepth 100000 in
theorem wl_37 : ∀ w ∈ (wsL_law_r38 : List Cond), w ∈ lw_tb2 := sub_r [1058, 1060, 34, 1061, 982, 986, 916, 912, 1062, 1063, 1064, 1065, 844, 1066, 1067, 1068, 1069, 850, 1070, 1071, 1072, 1073, 1074, 1075] (by decide +kernel)
set_option maxRecDepth 100000 in
theorem wl_38 : ∀ w ∈ (wsL_law_r39 : List Cond), w ∈ lw_tb2 := sub_r [1076, 1077, 1078, 1079, 1080, 1081, 1082, 1083, 1085, 35, 1086, 1087, 1088, 1089, 1090, 1091, 1093, 36, 1094, 887, 1095, 1096, 1097, 1098] (by decide +kernel)
set_option maxRecDepth 100000 in
theorem wl_39 : ∀ w ∈ (wsL_law_r40 : List Cond), w ∈ lw_tb2 := sub_r [1099, 1100, 1101, 1102, 1103, 1104, 1105, 1106, 1107, 1109, 37, 1110, 1111, 1112, 1113, 1114, 1115, 1117, 38, 1118, 984, 1119, 1120, 1121] (by decide +kernel)
set_option maxRecDepth 100000 in
theorem wl_40 : ∀ w ∈ (wsL_law_r41 : List Cond), w ∈ lw_tb2 := sub_r [1122, 1123, 1124, 1125, 1126, 736, 1127, 1128, 1129, 1130, 1706, 1707, 1708, 1709, 1484, 1710, 1712, 62, 1713, 1714, 1716, 63, 1717, 1718] (by decide +kernel)
set_option maxRecDepth 100000 in
theorem wl_41 : ∀ w ∈ (wsL_law_r42 : List Cond), w ∈ lw_tb2 := sub_r [1720, 64, 1721, 1722, 1724, 65, 1725, 1726, 1728, 66, 1729, 1730, 1732, 67, 1733, 1734, 1736, 68, 1737, 1738, 1740, 69, 1741, 1742] (by decide +kernel)
set_option maxRecDepth 100000 in
theorem wl_42 : ∀ w ∈ (wsL_law_r43 : List Cond), w ∈ lw_tb2 := sub_r [1744, 70, 1745, 1746, 1748, 71, 1749, 1750, 1752, 72, 1753, 1754, 1756, 73, 1757, 1758, 1760, 74, 1761, 1762, 1764, 75, 1765, 1766] (by decide +kernel)
set_option maxRecDepth 100000 in
theorem wl_43 : ∀ w ∈ (wsL_law_r44 : List Cond), w ∈ lw_tb2 := sub_r [1768, 76, 1769, 1770, 1772, 77, 1773, 1471, 1774, 1776, 78, 1777, 1778, 1780, 79, 1781, 1782, 1784, 80, 1785, 1786, 1788, 81, 1789] (by decide +kernel)
set_option maxRecDepth 100000 in
theorem wl_44 : ∀ w ∈ (wsL_law_r45 : List Cond), w ∈ lw_tb2 := sub_r [1790, 1792, 82, 1793, 1131, 1132, 1133, 1134, 1175, 1176, 134, 1135, 1136, 1138, 39, 1139, 1140, 1141, 1142, 1143, 1144, 1146, 40, 1147] (by decide +kernel)
set_option maxRecDepth 100000 in
theorem wl_45 : ∀ w ∈ (wsL_law_r46 : List Cond), w ∈ lw_tb2 := sub_r [1148, 1149, 1150, 1151, 1152, 1153, 1155, 1154, 1156, 1157, 1158, 1159, 1160, 1161, 1162, 1163, 1193, 1164, 1165, 1166, 1167, 1170, 1168, 1169] (by decide +kernel)
set_option maxRecDepth 100000 in
theorem wl_46 : ∀ w ∈ (wsL_law_r47 : List Cond), w ∈ lw_tb2 := sub_r [1171, 1172, 1173, 1174, 1177, 1178, 1179, 1180, 1192, 1197, 1198, 1195, 1181, 1182, 1183, 1185, 1186, 1188, 1189, 1190, 1191, 1208, 1209, 1210] (by decide +kernel)
set_option maxRecDepth 100000 in
theorem wl_47 : ∀ w ∈ (wsL_law_r48 : List Cond), w ∈ lw_tb2 := sub_r [1211, 1212, 1213, 1214, 1215, 1216, 1794, 1795, 1796, 1797, 1494, 1798, 1799, 1800, 1801, 1803, 83, 1804, 1805, 1807, 84, 1808, 1217, 1218] (by decide +kernel)
set_option maxRecDepth 100000 in
theorem wl_48 : ∀ w ∈ (wsL_law_r49 : List Cond), w ∈ lw_tb2 := sub_r [1219, 1220, 749, 1221, 1222, 1223, 1224, 1225, 1226, 1227, 1228, 1229, 1230, 1231, 1233, 41, 1234, 1809, 1810, 1811, 1812, 1235, 1236, 1237] (by decide +kernel)
set_option maxRecDepth 100000 in
theorem wl_49 : ∀ w ∈ (wsL_law_r50 : List Cond), w ∈ lw_tb2 := sub_r [1238, 988, 1239, 1241, 42, 1242, 973, 1243, 1245, 43, 1246, 1813, 1814, 1815, 1816, 1817, 1819, 85, 1820, 1821, 1823, 86, 1824, 1247] (by decide +kernel)
set_option maxRecDepth 100000 in
theorem wl_50 : ∀ w ∈ (wsL_law_r51 : List Cond), w ∈ lw_tb2 := sub_r [1248, 1249, 1250, 1251, 1252, 1253, 1254, 1825, 1826, 1827, 1828, 1255, 1256, 1257, 1258, 1829, 1830, 1831, 1832, 1259, 1260, 1261, 1262, 1833] (by decide +kernel)
set_option maxRecDepth 100000 in
theorem wl_51 : ∀ w ∈ (wsL_law_r52 : List Cond), w ∈ lw_tb2 := sub_r [1834, 1835, 1836, 1263, 1264, 1265, 1266, 1837, 1838, 1839, 1840, 1267, 1268, 1269, 1270, 740, 1271, 1841, 1842, 1843, 1844, 1272, 1273, 1274] (by decide +kernel)
set_option maxRecDepth 100000 in
theorem wl_52 : ∀ w ∈ (wsL_law_r53 : List Cond), w ∈ lw_tb2 := sub_r [1275, 1276, 1277, 1278, 1279, 1845, 1846, 1847, 1848, 1280, 1281, 1282, 1283, 1284, 1285, 1286, 1287, 1288, 1289, 1290, 1849, 1850, 1851, 1852] (by decide +kernel)
set_option maxRecDepth 100000 in
theorem wl_53 : ∀ w ∈ (wsL_law_r54 : List Cond), w ∈ lw_tb2 := sub_r [1291, 1292, 1293, 1294, 1295, 1296, 1297, 1298, 1299, 1853, 1854, 1855, 1856, 1300, 1301, 1302, 1303, 1857, 1858, 1859, 1860, 1304, 1305, 1306] (by decide +kernel)
set_option maxRecDepth 100000 in
theorem wl_54 : ∀ w ∈ (wsL_law_r55 : List Cond), w ∈ lw_tb2 := sub_r [1307, 1861, 1862, 1863, 1864, 1308, 1309, 1310, 1311, 1044, 1312, 1313, 1314, 1315, 1865, 1866, 1867, 1868, 1869, 1871, 87, 1872, 1316, 1317] (by decide +kernel)
set_option maxRecDepth 100000 in
theorem wl_55 : ∀ w ∈ (wsL_law_r56 : List Cond), w ∈ lw_tb2 := sub_r [1318, 1319, 1320, 1873, 1874, 1875, 1876, 1321, 1322, 1323, 1324, 1325, 1327, 44, 1328, 1877, 1878, 1879, 1880, 1881, 1883, 88, 1884, 1329] (by decide +kernel)
set_option maxRecDepth 100000 in
theorem wl_56 : ∀ w ∈ (wsL_law_r57 : List Cond), w ∈ lw_tb2 := sub_r [1330, 1331, 1332, 1885, 1886, 1887, 1888, 1333, 1334, 1335, 1336, 1889, 1890, 1891, 1892, 1337, 1338, 1339, 1340, 1341, 1342, 1343, 1344, 852] (by decide +kernel)
set_option maxRecDepth 100000 in
theorem wl_57 : ∀ w ∈ (wsL_law_r58 : List Cond), w ∈ lw_tb2 := sub_r [1345, 1346, 1347, 1348, 1349, 1350, 1351, 1352, 1353, 1354, 1355, 1356, 1357, 1358, 1359, 1360, 1893, 1894, 1895, 1896, 1897, 1899, 89, 1900] (by decide +kernel)
set_option maxRecDepth 100000 in
theorem wl_58 : ∀ w ∈ (wsL_law_r59 : List Cond), w ∈ lw_tb2 := sub_r [1901, 1903, 90, 1904, 1361, 1362, 1363, 1364, 1372, 1365, 1366, 1367, 1368, 1369, 1370, 1371, 1905, 1906, 1907, 1908, 1909, 1373, 1374, 1375] (by decide +kernel)
set_option maxRecDepth 100000 in
theorem wl_59 : ∀ w ∈ (wsL_law_r60 : List Cond), w ∈ lw_tb2 := sub_r [1376, 1377, 1378, 1379, 1380, 1910, 1911, 1912, 1913, 1381, 1382, 1383, 1384, 1385, 1914, 1915, 1916, 1917, 1386, 1387, 1388, 1389, 1196, 1390] (by decide +kernel)
set_option maxRecDepth 100000 in
theorem wl_60 : ∀ w ∈ (wsL_law_r61 : List Cond), w ∈ lw_tb2 := sub_r [1391, 1392, 1394, 45, 1395, 1396, 1397, 1918, 1919, 1920, 1921, 1922, 1924, 91, 1925, 1503, 1926, 1928, 92, 1929, 1931, 1933, 93, 1934] (by decide +kernel)
set_option maxRecDepth 100000 in
theorem wl_61 : ∀ w ∈ (wsL_law_r62 : List Cond), w ∈ lw_tb2 := sub_r [1935, 1937, 94, 1938, 1939, 1941, 95, 1942, 1943, 1945, 96, 1946, 1398, 1399, 1400, 1401, 1402, 1403, 1404, 1405, 1406, 1407, 1408, 1409] (by decide +kernel)
set_option maxRecDepth 100000 in
theorem wl_62 : ∀ w ∈ (wsL_law_r63 : List Cond), w ∈ lw_tb2 := sub_r [1410, 1412, 46, 1413, 1415, 1416, 1417, 1947, 1948, 1949, 1950, 1951, 1953, 97, 1954, 1955, 1957, 98, 1958, 1959, 1961, 99, 1962, 1418] (by decide +kernel)
set_option maxRecDepth 100000 in
theorem wl_63 : ∀ w ∈ (wsL_law_r64 : List Cond), w ∈ lw_tb2 := sub_r [1419, 1420, 1421, 1422, 1424, 47, 1425, 737, 1194, 1426, 1427, 1428, 1429, 1963, 1964, 1965, 1966, 1967, 1969, 100, 1970, 1430, 1431, 1432] (by decide +kernel)
set_option maxRecDepth 100000 in
theorem wl_64 : ∀ w ∈ (wsL_law_r65 : List Cond), w ∈ lw_tb2 := sub_r [1433, 1434, 1436, 48, 1437, 1438, 1971, 1972, 1973, 1974, 1975, 1977, 101, 1978, 1979, 1439, 1440, 1441, 1442, 1980, 1981, 1982, 1983, 1443] (by decide +kernel)
set_option maxRecDepth 100000 in
theorem wl_65 : ∀ w ∈ (wsL_law_r66 : List Cond), w ∈ lw_tb2 := sub_r [1444, 1445, 1446, 1447, 1449, 49, 1450, 745, 854, 914, 1984, 1985, 1986, 1987, 1988, 1990, 102, 1991, 1993, 1995, 103, 1996, 1997, 1999] (by decide +kernel)
set_option maxRecDepth 100000 in
theorem wl_66 : ∀ w ∈ (wsL_law_r67 : List Cond), w ∈ lw_tb2 := sub_r [104, 2000, 1451, 1452, 1453, 1454, 2001, 2002, 2003, 2004] (by decide +kernel)
set_option maxRecDepth 100000 in
theorem wl_67 : ∀ w ∈ (wsX110 : List Cond), w ∈ lw_tb2 := sub_r [238, 240, 242, 244, 246, 248, 250, 252, 254, 256, 258] (by decide +kernel)
set_option maxRecDepth 100000 in
theorem wl_68 : ∀ w ∈ (wsX120 : List Cond), w ∈ lw_tb2 := sub_r [1512, 1514, 1516, 1518, 1520, 1522, 1524, 1526, 1528, 1530, 1532, 1534, 1536, 1538, 1540, 1542, 1544, 1546, 1548, 1550, 1552, 1554, 1556, 1558, 1560, 1562, 1564, 1566, 1568, 1570, 1572, 1574, 1576, 1578, 1580, 1582, 1584, 1586, 1588, 1590, 1592, 1594, 1596, 1598, 1600, 1602, 1604, 1606, 1608, 1610, 1612] (by decide +kernel)
set_option maxRecDepth 100000 in
theorem wl_69 : ∀ w ∈ (wsX90 : List Cond), w ∈ lw_tb2 := sub_r [151, 153] (by decide +kernel)
set_option maxRecDepth 100000 in
theorem wl_70 : ∀ w ∈ (wsX70 : List Cond), w ∈ lw_tb2 := sub_r [190, 192, 194, 196, 198] (by decide +kernel)
set_option maxRecDepth 100000 in
theorem wl_71 : ∀ w ∈ (wsJx4a65c0 : List Cond), w ∈ lw_tb2 := sub_r [224, 220, 222] (by decide +kernel)
set_option maxRecDepth 100000 in
theorem wl_72 : ∀ w ∈ (wsX60 : List Cond), w ∈ lw_tb2 := sub_r [174, 176, 178, 180, 182] (by decide +kernel)
set_option maxRecDepth 100000 in
theorem wl_73 : ∀ w ∈ (wsX100 : List Cond), w ∈ lw_tb2 := sub_r [753, 755, 757, 759, 761, 763, 765, 767, 769] (by decide +kernel)
set_option maxRecDepth 100000 in
theorem wl_74 : ∀ w ∈ (wsJ00 : List Cond), w ∈ lw_tb2 := sub_r [726, 728, 730, 732] (by decide +kernel)
set_option maxRecDepth 100000 in
theorem wl_75 : ∀ w ∈ (wsX10 : List Cond), w ∈ lw_tb2 := sub_r [480, 482] (by decide +kernel)
set_option maxRecDepth 100000 in
theorem wl_76 : ∀ w ∈ (wsX00 : List Cond), w ∈ lw_tb2 := sub_r [495, 497, 499] (by decide +kernel)
set_option maxRecDepth 100000 in
theorem wl_77 : ∀ w ∈ (wsJ40 : List Cond), w ∈ lw_tb2 := sub_r [528, 530, 532, 534] (by decide +kernel)
set_option maxRecDepth 100000 in
theorem wl_78 : ∀ w ∈ (wsX30 : List Cond), w ∈ lw_tb2 := sub_r [855, 857, 859, 861, 863] (by decide +kernel)
set_option maxRecDepth 100000 in
theorem wl_79 : ∀ w ∈ (wsX20 : List Cond), w ∈ lw_tb2 := sub_r [917, 919, 921] (by decide +kernel)
set_option maxRecDepth 100000 in
theorem wl_80 : ∀ w ∈ (wsX40 : List Cond), w ∈ lw_tb2 := sub_r [990, 992, 994, 996, 998] (by decide +kernel)
set_option maxRecDepth 100000 in
theorem wl_81 : ∀ w ∈ (wsX50 : List Cond), w ∈ lw_tb2 := sub_r [1048, 1050, 1052, 1054] (by decide +kernel)
set_option maxRecDepth 100000 in
theorem wl_82 : ∀ w ∈ (wsX80 : List Cond), w ∈ lw_tb2 := sub_r [1199, 1201, 1203, 1205] (by decide +kernel)
set_option maxRecDepth 100000 in
theorem wl_83 : ∀ w ∈ ([] : List Cond), w ∈ lw_tb2 := sub_r [] (by decide +kernel)
theorem wsL_in : ∀ w ∈ wsL_law, w ∈ lw_tb2 := by
  show ∀ w ∈ (wsL_law_r1 ++ (wsL_law_r2 ++ (wsL_law_r3 ++ (wsL_law_r4 ++ (wsL_law_r5 ++ (wsL_law_r6 ++ (wsL_law_r7 ++ (wsL_law_r8 ++ (wsL_law_r9 ++ (wsL_law_r10 ++ (wsL_law_r11 ++ (wsL_law_r12 ++ (wsL_law_r13 ++ (wsL_law_r14 ++ (wsL_law_r15 ++ (wsL_law_r16 ++ (wsL_law_r17 ++ (wsL_law_r18 ++ (wsL_law_r19 ++ (wsL_law_r20 ++ (wsL_law_r21 ++ (wsL_law_r22 ++ (wsL_law_r23 ++ (wsL_law_r24 ++ (wsL_law_r25 ++ (wsL_law_r26 ++ (wsL_law_r27 ++ (wsL_law_r28 ++ (wsL_law_r29 ++ (wsL_law_r30 ++ (wsL_law_r31 ++ (wsL_law_r32 ++ (wsL_law_r33 ++ (wsL_law_r34 ++ (wsL_law_r35 ++ (wsL_law_r36 ++ (wsL_law_r37 ++ (wsL_law_r38 ++ (wsL_law_r39 ++ (wsL_law_r40 ++ (wsL_law_r41 ++ (wsL_law_r42 ++ (wsL_law_r43 ++ (wsL_law_r44 ++ (wsL_law_r45 ++ (wsL_law_r46 ++ (wsL_law_r47 ++ (wsL_law_r48 ++ (wsL_law_r49 ++ (wsL_law_r50 ++ (wsL_law_r51 ++ (wsL_law_r52 ++ (wsL_law_r53 ++ (wsL_law_r54 ++ (wsL_law_r55 ++ (wsL_law_r56 ++ (wsL_law_r57 ++ (wsL_law_r58 ++ (wsL_law_r59 ++ (wsL_law_r60 ++ (wsL_law_r61 ++ (wsL_law_r62 ++ (wsL_law_r63 ++ (wsL_law_r64 ++ (wsL_law_r65 ++ (wsL_law_r66 ++ wsL_law_r67)))))))))))))))))))))))))))))))))))))))))))))))))))))))))))))))))) ++ wsX110 ++ wsX120 ++ wsX90 ++ wsX70 ++ wsJx4a65c0 ++ wsX60 ++ wsX100 ++ wsJ00 ++ wsX10 ++ wsX00 ++ wsJ40 ++ wsX30 ++ wsX20 ++ wsX40 ++ wsX50 ++ wsX80 ++ ([] : List Cond), w ∈ lw_tb2
  exact List.forall_mem_append.mpr ⟨List.forall_mem_append.mpr ⟨List.forall_mem_append.mpr ⟨List.forall_mem_append.mpr ⟨List.forall_mem_append.mpr ⟨List.forall_mem_append.mpr ⟨List.forall_mem_append.mpr ⟨List.forall_mem_append.mpr ⟨List.forall_mem_append.mpr ⟨List.forall_mem_append.mpr ⟨List.forall_mem_append.mpr ⟨List.forall_mem_append.mpr ⟨List.forall_mem_append.mpr ⟨List.forall_mem_append.mpr ⟨List.forall_mem_append.mpr ⟨List.forall_mem_append.mpr ⟨List.forall_mem_append.mpr ⟨List.forall_mem_append.mpr ⟨wl_0, List.forall_mem_append.mpr ⟨wl_1, List.forall_mem_append.mpr ⟨wl_2, List.forall_mem_append.mpr ⟨wl_3, List.forall_mem_append.mpr ⟨wl_4, List.forall_mem_append.mpr ⟨wl_5, List.forall_mem_append.mpr ⟨wl_6, List.forall_mem_append.mpr ⟨wl_7, List.forall_mem_append.mpr ⟨wl_8, List.forall_mem_append.mpr ⟨wl_9, List.forall_mem_append.mpr ⟨wl_10, List.forall_mem_append.mpr ⟨wl_11, List.forall_mem_append.mpr ⟨wl_12, List.forall_mem_append.mpr ⟨wl_13, List.forall_mem_append.mpr ⟨wl_14, List.forall_mem_append.mpr ⟨wl_15, List.forall_mem_append.mpr ⟨wl_16, List.forall_mem_append.mpr ⟨wl_17, List.forall_mem_append.mpr ⟨wl_18, List.forall_mem_append.mpr ⟨wl_19, List.forall_mem_append.mpr ⟨wl_20, List.forall_mem_append.mpr ⟨wl_21, List.forall_mem_append.mpr ⟨wl_22, List.forall_mem_append.mpr ⟨wl_23, List.forall_mem_append.mpr ⟨wl_24, List.forall_mem_append.mpr ⟨wl_25, List.forall_mem_append.mpr ⟨wl_26, List.forall_mem_append.mpr ⟨wl_27, List.forall_mem_append.mpr ⟨wl_28, List.forall_mem_append.mpr ⟨wl_29, List.forall_mem_append.mpr ⟨wl_30, List.forall_mem_append.mpr ⟨wl_31, List.forall_mem_append.mpr ⟨wl_32, List.forall_mem_append.mpr ⟨wl_33, List.forall_mem_append.mpr ⟨wl_34, List.forall_mem_append.mpr ⟨wl_35, List.forall_mem_append.mpr ⟨wl_36, List.forall_mem_append.mpr ⟨wl_37, List.forall_mem_append.mpr ⟨wl_38, List.forall_mem_append.mpr ⟨wl_39, List.forall_mem_append.mpr ⟨wl_40, List.forall_mem_append.mpr ⟨wl_41, List.forall_mem_append.mpr ⟨wl_42, List.forall_mem_append.mpr ⟨wl_43, List.forall_mem_append.mpr ⟨wl_44, List.forall_mem_append.mpr ⟨wl_45, List.forall_mem_append.mpr ⟨wl_46, List.forall_mem_append.mpr ⟨wl_47, List.forall_mem_append.mpr ⟨wl_48, List.forall_mem_append.mpr ⟨wl_49, List.forall_mem_append.mpr ⟨wl_50, List.forall_mem_append.mpr ⟨wl_51, List.forall_mem_append.mpr ⟨wl_52, List.forall_mem_append.mpr ⟨wl_53, List.forall_mem_append.mpr ⟨wl_54, List.forall_mem_append.mpr ⟨wl_55, List.forall_mem_append.mpr ⟨wl_56, List.forall_mem_append.mpr ⟨wl_57, List.forall_mem_append.mpr ⟨wl_58, List.forall_mem_append.mpr ⟨wl_59, List.forall_mem_append.mpr ⟨wl_60, List.forall_mem_append.mpr ⟨wl_61, List.forall_mem_append.mpr ⟨wl_62, List.forall_mem_append.mpr ⟨wl_63, List.forall_mem_append.mpr ⟨wl_64, List.forall_mem_append.mpr ⟨wl_65, wl_66⟩⟩⟩⟩⟩⟩⟩⟩⟩⟩⟩⟩⟩⟩⟩⟩⟩⟩⟩⟩⟩⟩⟩⟩⟩⟩⟩⟩⟩⟩⟩⟩⟩⟩⟩⟩⟩⟩⟩⟩⟩⟩⟩⟩⟩⟩⟩⟩⟩⟩⟩⟩⟩⟩⟩⟩⟩⟩⟩⟩⟩⟩⟩⟩⟩⟩, wl_67⟩, wl_68⟩, wl_69⟩, wl_70⟩, wl_71⟩, wl_72⟩, wl_73⟩, wl_74⟩, wl_75⟩, wl_76⟩, wl_77⟩, wl_78⟩, wl_79⟩, wl_80⟩, wl_81⟩, wl_82⟩, wl_83⟩
