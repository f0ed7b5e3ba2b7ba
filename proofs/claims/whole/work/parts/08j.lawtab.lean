def lw_x6 : List Cond := [.selects "java/lang/StringBuilder" ⟨"java/lang/AbstractStringBuilder", "appendNull", "()Ljava/lang/AbstractStringBuilder;"⟩ ⟨"java/lang/AbstractStringBuilder", "appendNull", "()Ljava/lang/AbstractStringBuilder;"⟩, .selects "java/lang/StringBuilder" ⟨"java/lang/AbstractStringBuilder", "ensureCapacityInternal", "(I)V"⟩ ⟨"java/lang/AbstractStringBuilder", "ensureCapacityInternal", "(I)V"⟩, .selects "java/lang/StringBuilder" ⟨"java/lang/AbstractStringBuilder", "newCapacity", "(I)I"⟩ ⟨"java/lang/AbstractStringBuilder", "newCapacity", "(I)I"⟩, .selects "java/lang/StringBuilder" ⟨"java/lang/AbstractStringBuilder", "putStringAt", "(ILjava/lang/String;)V"⟩ ⟨"java/lang/AbstractStringBuilder", "putStringAt", "(ILjava/lang/String;)V"⟩, .selects "java/lang/StringBuilder" ⟨"java/lang/AbstractStringBuilder", "inflateIfNeededFor", "(Ljava/lang/String;)V"⟩ ⟨"java/lang/AbstractStringBuilder", "inflateIfNeededFor", "(Ljava/lang/String;)V"⟩, .selects "java/lang/StringBuilder" ⟨"java/lang/AbstractStringBuilder", "inflate", "()V"⟩ ⟨"java/lang/AbstractStringBuilder", "inflate", "()V"⟩]
def lw_tb2 : List Cond := lw_x6 ++ lw_tbl
theorem selSB {y z : MethodName} {C : String} {s : State} {args : Array Value} (hy : y.cls ≠ "java/lang/invoke/MethodHandle" ∧ y.cls ≠ "java/lang/invoke/VarHandle") (hz : z.cls = y.cls) (hsel : (Cond.selects C z z).before args s = true) (hpriv : (Cond.privateMethod y).before args s = true) (hinst : (Cond.instanceMethod y).before args s = true) : (Cond.selects C y y).before args s = true := by
  obtain ⟨mk, methM, hnamed, hmethM, -, -⟩ := Cond.instanceMethod_spec hinst
  have hfound : s.methodFound? y.cls y.name y.desc = some mk := State.methodFound?_of_named hnamed hy
  have hcls : s.vm.findClass y.cls = some mk.cls := findClass_of_methodNamed hnamed
  obtain ⟨c, r, mz, hc, -, hn, -, ck, hck, hni⟩ := Cond.selects_spec hsel
  have hsm : selectMethod {} s.vm c mk = .method mk := selectMethod_private hmethM (Cond.privateMethod_at hpriv mk methM hnamed hmethM)
  have hz2 : s.vm.findClass z.cls = some mz.cls := findClass_of_methodNamed hn
  have e : mk.cls = mz.cls := by
    rw [hz, hcls] at hz2
    exact Option.some.inj hz2
  rw [← e] at hck
  simp [Cond.before, Cond.holds, Cond.value, hc, hfound, hnamed, hsm, hck, hni]
theorem lw_hts2 {args : Array Value} {s : State} (h : ∀ w ∈ lw_tbl, w.before args s = true) : ∀ w ∈ lw_tb2, w.before args s = true := by
  intro w hw
  rcases List.mem_append.mp hw with hw | hw
  · have h0 := h (.selects "java/lang/StringBuilder" ⟨"java/lang/AbstractStringBuilder", "isLatin1", "()Z"⟩ ⟨"java/lang/AbstractStringBuilder", "isLatin1", "()Z"⟩) (List.mem_of_getElem? (i := 582) (by decide +kernel))
    simp only [lw_x6, List.mem_cons, List.not_mem_nil, or_false] at hw
    rcases hw with rfl | rfl | rfl | rfl | rfl | rfl
    · exact selSB (z := ⟨"java/lang/AbstractStringBuilder", "isLatin1", "()Z"⟩) ⟨by decide +kernel, by decide +kernel⟩ rfl h0 (h _ (List.mem_of_getElem? (i := 541) (by decide +kernel))) (h _ (List.mem_of_getElem? (i := 542) (by decide +kernel)))
    · exact selSB (z := ⟨"java/lang/AbstractStringBuilder", "isLatin1", "()Z"⟩) ⟨by decide +kernel, by decide +kernel⟩ rfl h0 (h _ (List.mem_of_getElem? (i := 545) (by decide +kernel))) (h _ (List.mem_of_getElem? (i := 546) (by decide +kernel)))
    · exact selSB (z := ⟨"java/lang/AbstractStringBuilder", "isLatin1", "()Z"⟩) ⟨by decide +kernel, by decide +kernel⟩ rfl h0 (h _ (List.mem_of_getElem? (i := 549) (by decide +kernel))) (h _ (List.mem_of_getElem? (i := 550) (by decide +kernel)))
    · exact selSB (z := ⟨"java/lang/AbstractStringBuilder", "isLatin1", "()Z"⟩) ⟨by decide +kernel, by decide +kernel⟩ rfl h0 (h _ (List.mem_of_getElem? (i := 601) (by decide +kernel))) (h _ (List.mem_of_getElem? (i := 602) (by decide +kernel)))
    · exact selSB (z := ⟨"java/lang/AbstractStringBuilder", "isLatin1", "()Z"⟩) ⟨by decide +kernel, by decide +kernel⟩ rfl h0 (h _ (List.mem_of_getElem? (i := 605) (by decide +kernel))) (h _ (List.mem_of_getElem? (i := 606) (by decide +kernel)))
    · exact selSB (z := ⟨"java/lang/AbstractStringBuilder", "isLatin1", "()Z"⟩) ⟨by decide +kernel, by decide +kernel⟩ rfl h0 (h _ (List.mem_of_getElem? (i := 610) (by decide +kernel))) (h _ (List.mem_of_getElem? (i := 611) (by decide +kernel)))
  · exact h w hw
set_option maxRecDepth 100000 in
theorem wl_0 : ∀ w ∈ (wsL_law_r1 : List Cond), w ∈ lw_tb2 := sub_r [136, 137, 107, 1456, 1457, 114, 138, 139, 140, 141, 142, 143, 144, 145, 108, 228, 158, 159, 109, 229, 202, 203, 113, 230] (by decide +kernel)
set_option maxRecDepth 100000 in
theorem wl_1 : ∀ w ∈ (wsL_law_r2 : List Cond), w ∈ lw_tb2 := sub_r [231, 232, 233, 234, 235, 236, 237, 238, 147, 148, 149, 157, 150, 151, 161, 162, 163, 164, 165, 110, 186, 187, 188, 189] (by decide +kernel)
set_option maxRecDepth 100000 in
theorem wl_2 : ∀ w ∈ (wsL_law_r3 : List Cond), w ∈ lw_tb2 := sub_r [190, 167, 168, 169, 170, 171, 172, 173, 174, 204, 205, 206, 214, 216, 207, 208, 112, 209, 218, 210, 211, 111, 212, 213] (by decide +kernel)
set_option maxRecDepth 100000 in
theorem wl_3 : ∀ w ∈ (wsL_law_r4 : List Cond), w ∈ lw_tb2 := sub_r [1458, 1459, 1460, 1461, 1462, 1465, 1468, 1469, 1470, 1471, 1473, 1474, 1475, 1477, 1478, 1479, 1480, 1482, 1483, 1484, 1616, 1486, 1487, 1488] (by decide +kernel)
set_option maxRecDepth 100000 in
theorem wl_4 : ∀ w ∈ (wsL_law_r5 : List Cond), w ∈ lw_tb2 := sub_r [1489, 1490, 1491, 1492, 1493, 1494, 1496, 1497, 1498, 1499, 1500, 1501, 1502, 1503, 1510, 1511, 1512, 262, 263, 264, 265, 266, 267, 268] (by decide +kernel)
set_option maxRecDepth 100000 in
theorem wl_5 : ∀ w ∈ (wsL_law_r6 : List Cond), w ∈ lw_tb2 := sub_r [269, 270, 272, 6, 273, 274, 275, 276, 277, 278, 279, 280, 281, 282, 284, 7, 285, 1617, 1618, 1619, 1620, 1463, 1621, 1623] (by decide +kernel)
set_option maxRecDepth 100000 in
theorem wl_6 : ∀ w ∈ (wsL_law_r7 : List Cond), w ∈ lw_tb2 := sub_r [51, 1624, 1464, 1625, 1627, 52, 1628, 286, 287, 288, 289, 290, 291, 292, 293, 1629, 1630, 1631, 1632, 1633, 1634, 1635, 294, 295] (by decide +kernel)
set_option maxRecDepth 100000 in
theorem wl_7 : ∀ w ∈ (wsL_law_r8 : List Cond), w ∈ lw_tb2 := sub_r [296, 297, 464, 465, 119, 298, 299, 300, 301, 302, 304, 8, 305, 306, 307, 308, 309, 310, 311, 313, 9, 314, 315, 316] (by decide +kernel)
set_option maxRecDepth 100000 in
theorem wl_8 : ∀ w ∈ (wsL_law_r9 : List Cond), w ∈ lw_tb2 := sub_r [317, 318, 319, 321, 10, 322, 323, 325, 11, 326, 327, 329, 12, 330, 331, 333, 13, 334, 336, 337, 350, 352, 14, 353] (by decide +kernel)
set_option maxRecDepth 100000 in
theorem wl_9 : ∀ w ∈ (wsL_law_r10 : List Cond), w ∈ lw_tb2 := sub_r [354, 355, 356, 115, 357, 725, 358, 359, 360, 361, 362, 726, 364, 365, 366, 367, 368, 369, 370, 371, 372, 373, 116, 374] (by decide +kernel)
set_option maxRecDepth 100000 in
theorem wl_10 : ∀ w ∈ (wsL_law_r11 : List Cond), w ∈ lw_tb2 := sub_r [375, 376, 377, 378, 380, 381, 117, 382, 383, 384, 118, 385, 386, 387, 388, 389, 390, 391, 392, 393, 394, 395, 396, 398] (by decide +kernel)
set_option maxRecDepth 100000 in
theorem wl_11 : ∀ w ∈ (wsL_law_r12 : List Cond), w ∈ lw_tb2 := sub_r [400, 402, 404, 15, 405, 406, 407, 408, 409, 410, 412, 16, 413, 414, 415, 416, 417, 418, 420, 17, 421, 422, 424, 18] (by decide +kernel)
set_option maxRecDepth 100000 in
theorem wl_12 : ∀ w ∈ (wsL_law_r13 : List Cond), w ∈ lw_tb2 := sub_r [425, 426, 427, 428, 429, 430, 432, 19, 433, 434, 436, 20, 437, 438, 440, 21, 441, 442, 443, 444, 445, 446, 447, 448] (by decide +kernel)
set_option maxRecDepth 100000 in
theorem wl_13 : ∀ w ∈ (wsL_law_r14 : List Cond), w ∈ lw_tb2 := sub_r [449, 450, 451, 452, 453, 454, 455, 456, 457, 458, 459, 217, 460, 462, 22, 463, 466, 467, 468, 469, 470, 471, 120, 747] (by decide +kernel)
set_option maxRecDepth 100000 in
theorem wl_14 : ∀ w ∈ (wsL_law_r15 : List Cond), w ∈ lw_tb2 := sub_r [487, 488, 122, 749, 503, 753, 736, 739, 751, 742, 752, 745, 472, 473, 474, 475, 479, 480, 476, 477, 121, 478, 490, 491] (by decide +kernel)
set_option maxRecDepth 100000 in
theorem wl_15 : ∀ w ∈ (wsL_law_r16 : List Cond), w ∈ lw_tb2 := sub_r [492, 493, 494, 495, 504, 505, 506, 507, 508, 509, 124, 510, 511, 512, 513, 514, 123, 515, 516, 517, 486, 525, 526, 518] (by decide +kernel)
set_option maxRecDepth 100000 in
theorem wl_16 : ∀ w ∈ (wsL_law_r17 : List Cond), w ∈ lw_tb2 := sub_r [519, 520, 521, 522, 523, 524, 539, 540, 541, 542, 543, 2006, 537, 544, 545, 528, 546, 2007, 0, 548, 549, 550, 2008, 1] (by decide +kernel)
set_option maxRecDepth 100000 in
theorem wl_17 : ∀ w ∈ (wsL_law_r18 : List Cond), w ∈ lw_tb2 := sub_r [552, 553, 554, 2009, 2, 556, 557, 568, 558, 559, 125, 560, 561, 562, 126, 563, 564, 565, 566, 567, 569, 570, 571, 572] (by decide +kernel)
set_option maxRecDepth 100000 in
theorem wl_18 : ∀ w ∈ (wsL_law_r19 : List Cond), w ∈ lw_tb2 := sub_r [573, 574, 575, 576, 578, 579, 580, 581, 582, 584, 583, 127, 585, 587, 588, 586, 589, 590, 591, 592, 593, 594, 595, 596] (by decide +kernel)
set_option maxRecDepth 100000 in
theorem wl_19 : ∀ w ∈ (wsL_law_r20 : List Cond), w ∈ lw_tb2 := sub_r [597, 598, 599, 600, 601, 602, 603, 604, 605, 606, 2010, 3, 608, 609, 610, 2011, 4, 612, 613, 614, 615, 2012, 5, 617] (by decide +kernel)
set_option maxRecDepth 100000 in
theorem wl_20 : ∀ w ∈ (wsL_law_r21 : List Cond), w ∈ lw_tb2 := sub_r [618, 619, 620, 621, 622, 623, 624, 625, 626, 627, 628, 629, 630, 631, 632, 633, 634, 635, 636, 637, 638, 639, 640, 641] (by decide +kernel)
set_option maxRecDepth 100000 in
theorem wl_21 : ∀ w ∈ (wsL_law_r22 : List Cond), w ∈ lw_tb2 := sub_r [642, 643, 644, 2013, 645, 646, 647, 648, 649, 650, 651, 652, 653, 654, 655, 656, 657, 2014, 658, 659, 660, 661, 129, 662] (by decide +kernel)
set_option maxRecDepth 100000 in
theorem wl_22 : ∀ w ∈ (wsL_law_r23 : List Cond), w ∈ lw_tb2 := sub_r [663, 664, 665, 666, 668, 670, 671, 672, 673, 674, 675, 676, 677, 679, 680, 681, 682, 683, 684, 685, 686, 687, 688, 689] (by decide +kernel)
set_option maxRecDepth 100000 in
theorem wl_23 : ∀ w ∈ (wsL_law_r24 : List Cond), w ∈ lw_tb2 := sub_r [690, 691, 527, 692, 694, 695, 693, 696, 697, 699, 698, 700, 701, 702, 703, 698, 704, 705, 706, 707, 708, 709, 710, 711] (by decide +kernel)
set_option maxRecDepth 100000 in
theorem wl_24 : ∀ w ∈ (wsL_law_r25 : List Cond), w ∈ lw_tb2 := sub_r [712, 713, 714, 715, 716, 717, 718, 719, 720, 721, 722, 723, 724, 773, 774, 775, 776, 219, 220, 777, 779, 23, 780, 781] (by decide +kernel)
set_option maxRecDepth 100000 in
theorem wl_25 : ∀ w ∈ (wsL_law_r26 : List Cond), w ∈ lw_tb2 := sub_r [783, 24, 784, 785, 787, 25, 788, 819, 820, 789, 790, 791, 792, 793, 2032, 794, 812, 813, 814, 815, 816, 818, 1636, 1637] (by decide +kernel)
set_option maxRecDepth 100000 in
theorem wl_26 : ∀ w ∈ (wsL_law_r27 : List Cond), w ∈ lw_tb2 := sub_r [1638, 1639, 1467, 1640, 1642, 53, 1643, 1505, 1509, 1466, 1644, 1646, 54, 1647, 1506, 1507, 1508, 1648, 1650, 55, 1651, 1652, 1653, 1654] (by decide +kernel)
set_option maxRecDepth 100000 in
theorem wl_27 : ∀ w ∈ (wsL_law_r28 : List Cond), w ∈ lw_tb2 := sub_r [1660, 1662, 56, 1663, 1664, 1665, 1666, 1667, 1668, 1675, 1677, 57, 1678, 1679, 1681, 58, 1682, 1683, 1685, 59, 1686, 1687, 1689, 60] (by decide +kernel)
set_option maxRecDepth 100000 in
theorem wl_28 : ∀ w ∈ (wsL_law_r29 : List Cond), w ∈ lw_tb2 := sub_r [1690, 1691, 1693, 61, 1694, 821, 822, 823, 824, 833, 834, 130, 825, 826, 827, 828, 829, 830, 831, 832, 835, 836, 837, 838] (by decide +kernel)
set_option maxRecDepth 100000 in
theorem wl_29 : ∀ w ∈ (wsL_law_r30 : List Cond), w ∈ lw_tb2 := sub_r [844, 847, 850, 852, 839, 854, 840, 841, 842, 843, 1695, 1696, 1697, 1698, 1476, 867, 868, 869, 870, 888, 889, 131, 871, 872] (by decide +kernel)
set_option maxRecDepth 100000 in
theorem wl_30 : ∀ w ∈ (wsL_law_r31 : List Cond), w ∈ lw_tb2 := sub_r [873, 874, 875, 877, 26, 878, 879, 881, 27, 882, 883, 884, 885, 886, 887, 890, 891, 892, 893, 894, 916, 912, 896, 914] (by decide +kernel)
set_option maxRecDepth 100000 in
theorem wl_31 : ∀ w ∈ (wsL_law_r32 : List Cond), w ∈ lw_tb2 := sub_r [895, 897, 898, 899, 900, 901, 902, 904, 28, 905, 906, 908, 909, 910, 911, 1699, 1700, 1701, 1702, 1481, 1703, 1705, 62, 1706] (by decide +kernel)
set_option maxRecDepth 100000 in
theorem wl_32 : ∀ w ∈ (wsL_law_r33 : List Cond), w ∈ lw_tb2 := sub_r [925, 926, 927, 928, 929, 931, 29, 932, 833, 933, 934, 935, 936, 937, 938, 132, 939, 940, 941, 942, 943, 944, 945, 946] (by decide +kernel)
set_option maxRecDepth 100000 in
theorem wl_33 : ∀ w ∈ (wsL_law_r34 : List Cond), w ∈ lw_tb2 := sub_r [947, 948, 949, 951, 30, 952, 846, 748, 744, 849, 953, 954, 956, 31, 957, 958, 959, 961, 32, 962, 464, 963, 964, 965] (by decide +kernel)
set_option maxRecDepth 100000 in
theorem wl_34 : ∀ w ∈ (wsL_law_r35 : List Cond), w ∈ lw_tb2 := sub_r [966, 968, 969, 970, 972, 33, 973, 974, 975, 133, 976, 977, 978, 979, 980, 986, 988, 982, 984, 990, 981, 1002, 1003, 1004] (by decide +kernel)
set_option maxRecDepth 100000 in
theorem wl_35 : ∀ w ∈ (wsL_law_r36 : List Cond), w ∈ lw_tb2 := sub_r [1005, 1006, 1007, 1008, 1013, 1009, 1011, 34, 1012, 1014, 1015, 1016, 1017, 1020, 848, 1020, 1037, 134, 1018, 1019, 1021, 1022, 1023, 1024] (by decide +kernel)
set_option maxRecDepth 100000 in
theorem wl_36 : ∀ w ∈ (wsL_law_r37 : List Cond), w ∈ lw_tb2 := sub_r [1044, 743, 1046, 1027, 740, 1025, 1026, 1028, 1029, 1030, 1031, 1032, 1033, 1034, 1035, 1036, 1039, 1040, 1041, 1042, 1047, 1048, 1043, 1058] (by decide +kernel)
set_option maxRecDepth 100000 in
theorem wl_37 : ∀ w ∈ (wsL_law_r38 : List Cond), w ∈ lw_tb2 := sub_r [1059, 1061, 35, 1062, 983, 987, 917, 913, 1063, 1064, 1065, 1066, 845, 1067, 1068, 1069, 1070, 851, 1071, 1072, 1073, 1074, 1075, 1076] (by decide +kernel)
set_option maxRecDepth 100000 in
theorem wl_38 : ∀ w ∈ (wsL_law_r39 : List Cond), w ∈ lw_tb2 := sub_r [1077, 1078, 1079, 1080, 1081, 1082, 1083, 1084, 1086, 36, 1087, 1088, 1089, 1090, 1091, 1092, 1094, 37, 1095, 888, 1096, 1097, 1098, 1099] (by decide +kernel)
set_option maxRecDepth 100000 in
theorem wl_39 : ∀ w ∈ (wsL_law_r40 : List Cond), w ∈ lw_tb2 := sub_r [1100, 1101, 1102, 1103, 1104, 1105, 1106, 1107, 1108, 1110, 38, 1111, 1112, 1113, 1114, 1115, 1116, 1118, 39, 1119, 985, 1120, 1121, 1122] (by decide +kernel)
set_option maxRecDepth 100000 in
theorem wl_40 : ∀ w ∈ (wsL_law_r41 : List Cond), w ∈ lw_tb2 := sub_r [1123, 1124, 1125, 1126, 1127, 737, 1128, 1129, 1130, 1131, 1707, 1708, 1709, 1710, 1485, 1711, 1713, 63, 1714, 1715, 1717, 64, 1718, 1719] (by decide +kernel)
set_option maxRecDepth 100000 in
theorem wl_41 : ∀ w ∈ (wsL_law_r42 : List Cond), w ∈ lw_tb2 := sub_r [1721, 65, 1722, 1723, 1725, 66, 1726, 1727, 1729, 67, 1730, 1731, 1733, 68, 1734, 1735, 1737, 69, 1738, 1739, 1741, 70, 1742, 1743] (by decide +kernel)
set_option maxRecDepth 100000 in
theorem wl_42 : ∀ w ∈ (wsL_law_r43 : List Cond), w ∈ lw_tb2 := sub_r [1745, 71, 1746, 1747, 1749, 72, 1750, 1751, 1753, 73, 1754, 1755, 1757, 74, 1758, 1759, 1761, 75, 1762, 1763, 1765, 76, 1766, 1767] (by decide +kernel)
set_option maxRecDepth 100000 in
theorem wl_43 : ∀ w ∈ (wsL_law_r44 : List Cond), w ∈ lw_tb2 := sub_r [1769, 77, 1770, 1771, 1773, 78, 1774, 1472, 1775, 1777, 79, 1778, 1779, 1781, 80, 1782, 1783, 1785, 81, 1786, 1787, 1789, 82, 1790] (by decide +kernel)
set_option maxRecDepth 100000 in
theorem wl_44 : ∀ w ∈ (wsL_law_r45 : List Cond), w ∈ lw_tb2 := sub_r [1791, 1793, 83, 1794, 1132, 1133, 1134, 1135, 1176, 1177, 135, 1136, 1137, 1139, 40, 1140, 1141, 1142, 1143, 1144, 1145, 1147, 41, 1148] (by decide +kernel)
set_option maxRecDepth 100000 in
theorem wl_45 : ∀ w ∈ (wsL_law_r46 : List Cond), w ∈ lw_tb2 := sub_r [1149, 1150, 1151, 1152, 1153, 1154, 1156, 1155, 1157, 1158, 1159, 1160, 1161, 1162, 1163, 1164, 1194, 1165, 1166, 1167, 1168, 1171, 1169, 1170] (by decide +kernel)
set_option maxRecDepth 100000 in
theorem wl_46 : ∀ w ∈ (wsL_law_r47 : List Cond), w ∈ lw_tb2 := sub_r [1172, 1173, 1174, 1175, 1178, 1179, 1180, 1181, 1193, 1198, 1199, 1196, 1182, 1183, 1184, 1186, 1187, 1189, 1190, 1191, 1192, 1209, 1210, 1211] (by decide +kernel)
set_option maxRecDepth 100000 in
theorem wl_47 : ∀ w ∈ (wsL_law_r48 : List Cond), w ∈ lw_tb2 := sub_r [1212, 1213, 1214, 1215, 1216, 1217, 1795, 1796, 1797, 1798, 1495, 1799, 1800, 1801, 1802, 1804, 84, 1805, 1806, 1808, 85, 1809, 1218, 1219] (by decide +kernel)
set_option maxRecDepth 100000 in
theorem wl_48 : ∀ w ∈ (wsL_law_r49 : List Cond), w ∈ lw_tb2 := sub_r [1220, 1221, 750, 1222, 1223, 1224, 1225, 1226, 1227, 1228, 1229, 1230, 1231, 1232, 1234, 42, 1235, 1810, 1811, 1812, 1813, 1236, 1237, 1238] (by decide +kernel)
set_option maxRecDepth 100000 in
theorem wl_49 : ∀ w ∈ (wsL_law_r50 : List Cond), w ∈ lw_tb2 := sub_r [1239, 989, 1240, 1242, 43, 1243, 974, 1244, 1246, 44, 1247, 1814, 1815, 1816, 1817, 1818, 1820, 86, 1821, 1822, 1824, 87, 1825, 1248] (by decide +kernel)
set_option maxRecDepth 100000 in
theorem wl_50 : ∀ w ∈ (wsL_law_r51 : List Cond), w ∈ lw_tb2 := sub_r [1249, 1250, 1251, 1252, 1253, 1254, 1255, 1826, 1827, 1828, 1829, 1256, 1257, 1258, 1259, 1830, 1831, 1832, 1833, 1260, 1261, 1262, 1263, 1834] (by decide +kernel)
set_option maxRecDepth 100000 in
theorem wl_51 : ∀ w ∈ (wsL_law_r52 : List Cond), w ∈ lw_tb2 := sub_r [1835, 1836, 1837, 1264, 1265, 1266, 1267, 1838, 1839, 1840, 1841, 1268, 1269, 1270, 1271, 741, 1272, 1842, 1843, 1844, 1845, 1273, 1274, 1275] (by decide +kernel)
set_option maxRecDepth 100000 in
theorem wl_52 : ∀ w ∈ (wsL_law_r53 : List Cond), w ∈ lw_tb2 := sub_r [1276, 1277, 1278, 1279, 1280, 1846, 1847, 1848, 1849, 1281, 1282, 1283, 1284, 1285, 1286, 1287, 1288, 1289, 1290, 1291, 1850, 1851, 1852, 1853] (by decide +kernel)
set_option maxRecDepth 100000 in
theorem wl_53 : ∀ w ∈ (wsL_law_r54 : List Cond), w ∈ lw_tb2 := sub_r [1292, 1293, 1294, 1295, 1296, 1297, 1298, 1299, 1300, 1854, 1855, 1856, 1857, 1301, 1302, 1303, 1304, 1858, 1859, 1860, 1861, 1305, 1306, 1307] (by decide +kernel)
set_option maxRecDepth 100000 in
theorem wl_54 : ∀ w ∈ (wsL_law_r55 : List Cond), w ∈ lw_tb2 := sub_r [1308, 1862, 1863, 1864, 1865, 1309, 1310, 1311, 1312, 1045, 1313, 1314, 1315, 1316, 1866, 1867, 1868, 1869, 1870, 1872, 88, 1873, 1317, 1318] (by decide +kernel)
set_option maxRecDepth 100000 in
theorem wl_55 : ∀ w ∈ (wsL_law_r56 : List Cond), w ∈ lw_tb2 := sub_r [1319, 1320, 1321, 1874, 1875, 1876, 1877, 1322, 1323, 1324, 1325, 1326, 1328, 45, 1329, 1878, 1879, 1880, 1881, 1882, 1884, 89, 1885, 1330] (by decide +kernel)
set_option maxRecDepth 100000 in
theorem wl_56 : ∀ w ∈ (wsL_law_r57 : List Cond), w ∈ lw_tb2 := sub_r [1331, 1332, 1333, 1886, 1887, 1888, 1889, 1334, 1335, 1336, 1337, 1890, 1891, 1892, 1893, 1338, 1339, 1340, 1341, 1342, 1343, 1344, 1345, 853] (by decide +kernel)
set_option maxRecDepth 100000 in
theorem wl_57 : ∀ w ∈ (wsL_law_r58 : List Cond), w ∈ lw_tb2 := sub_r [1346, 1347, 1348, 1349, 1350, 1351, 1352, 1353, 1354, 1355, 1356, 1357, 1358, 1359, 1360, 1361, 1894, 1895, 1896, 1897, 1898, 1900, 90, 1901] (by decide +kernel)
set_option maxRecDepth 100000 in
theorem wl_58 : ∀ w ∈ (wsL_law_r59 : List Cond), w ∈ lw_tb2 := sub_r [1902, 1904, 91, 1905, 1362, 1363, 1364, 1365, 1373, 1366, 1367, 1368, 1369, 1370, 1371, 1372, 1906, 1907, 1908, 1909, 1910, 1374, 1375, 1376] (by decide +kernel)
set_option maxRecDepth 100000 in
theorem wl_59 : ∀ w ∈ (wsL_law_r60 : List Cond), w ∈ lw_tb2 := sub_r [1377, 1378, 1379, 1380, 1381, 1911, 1912, 1913, 1914, 1382, 1383, 1384, 1385, 1386, 1915, 1916, 1917, 1918, 1387, 1388, 1389, 1390, 1197, 1391] (by decide +kernel)
set_option maxRecDepth 100000 in
theorem wl_60 : ∀ w ∈ (wsL_law_r61 : List Cond), w ∈ lw_tb2 := sub_r [1392, 1393, 1395, 46, 1396, 1397, 1398, 1919, 1920, 1921, 1922, 1923, 1925, 92, 1926, 1504, 1927, 1929, 93, 1930, 1932, 1934, 94, 1935] (by decide +kernel)
set_option maxRecDepth 100000 in
theorem wl_61 : ∀ w ∈ (wsL_law_r62 : List Cond), w ∈ lw_tb2 := sub_r [1936, 1938, 95, 1939, 1940, 1942, 96, 1943, 1944, 1946, 97, 1947, 1399, 1400, 1401, 1402, 1403, 1404, 1405, 1406, 1407, 1408, 1409, 1410] (by decide +kernel)
set_option maxRecDepth 100000 in
theorem wl_62 : ∀ w ∈ (wsL_law_r63 : List Cond), w ∈ lw_tb2 := sub_r [1411, 1413, 47, 1414, 1416, 1417, 1418, 1948, 1949, 1950, 1951, 1952, 1954, 98, 1955, 1956, 1958, 99, 1959, 1960, 1962, 100, 1963, 1419] (by decide +kernel)
set_option maxRecDepth 100000 in
theorem wl_63 : ∀ w ∈ (wsL_law_r64 : List Cond), w ∈ lw_tb2 := sub_r [1420, 1421, 1422, 1423, 1425, 48, 1426, 738, 1195, 1427, 1428, 1429, 1430, 1964, 1965, 1966, 1967, 1968, 1970, 101, 1971, 1431, 1432, 1433] (by decide +kernel)
set_option maxRecDepth 100000 in
theorem wl_64 : ∀ w ∈ (wsL_law_r65 : List Cond), w ∈ lw_tb2 := sub_r [1434, 1435, 1437, 49, 1438, 1439, 1972, 1973, 1974, 1975, 1976, 1978, 102, 1979, 1980, 1440, 1441, 1442, 1443, 1981, 1982, 1983, 1984, 1444] (by decide +kernel)
set_option maxRecDepth 100000 in
theorem wl_65 : ∀ w ∈ (wsL_law_r66 : List Cond), w ∈ lw_tb2 := sub_r [1445, 1446, 1447, 1448, 1450, 50, 1451, 746, 855, 915, 1985, 1986, 1987, 1988, 1989, 1991, 103, 1992, 1994, 1996, 104, 1997, 1998, 2000] (by decide +kernel)
set_option maxRecDepth 100000 in
theorem wl_66 : ∀ w ∈ (wsL_law_r67 : List Cond), w ∈ lw_tb2 := sub_r [105, 2001, 1452, 1453, 1454, 1455, 2002, 2003, 2004, 2005] (by decide +kernel)
set_option maxRecDepth 100000 in
theorem wl_67 : ∀ w ∈ (wsX110 : List Cond), w ∈ lw_tb2 := sub_r [239, 241, 243, 245, 247, 249, 251, 253, 255, 257, 259] (by decide +kernel)
set_option maxRecDepth 100000 in
theorem wl_68 : ∀ w ∈ (wsX120 : List Cond), w ∈ lw_tb2 := sub_r [1513, 1515, 1517, 1519, 1521, 1523, 1525, 1527, 1529, 1531, 1533, 1535, 1537, 1539, 1541, 1543, 1545, 1547, 1549, 1551, 1553, 1555, 1557, 1559, 1561, 1563, 1565, 1567, 1569, 1571, 1573, 1575, 1577, 1579, 1581, 1583, 1585, 1587, 1589, 1591, 1593, 1595, 1597, 1599, 1601, 1603, 1605, 1607, 1609, 1611, 1613] (by decide +kernel)
set_option maxRecDepth 100000 in
theorem wl_69 : ∀ w ∈ (wsX90 : List Cond), w ∈ lw_tb2 := sub_r [152, 154] (by decide +kernel)
set_option maxRecDepth 100000 in
theorem wl_70 : ∀ w ∈ (wsX70 : List Cond), w ∈ lw_tb2 := sub_r [191, 193, 195, 197, 199] (by decide +kernel)
set_option maxRecDepth 100000 in
theorem wl_71 : ∀ w ∈ (wsJx4a65c0 : List Cond), w ∈ lw_tb2 := sub_r [225, 221, 223] (by decide +kernel)
set_option maxRecDepth 100000 in
theorem wl_72 : ∀ w ∈ (wsX60 : List Cond), w ∈ lw_tb2 := sub_r [175, 177, 179, 181, 183] (by decide +kernel)
set_option maxRecDepth 100000 in
theorem wl_73 : ∀ w ∈ (wsX100 : List Cond), w ∈ lw_tb2 := sub_r [754, 756, 758, 760, 762, 764, 766, 768, 770] (by decide +kernel)
set_option maxRecDepth 100000 in
theorem wl_74 : ∀ w ∈ (wsJ00 : List Cond), w ∈ lw_tb2 := sub_r [727, 729, 731, 733] (by decide +kernel)
set_option maxRecDepth 100000 in
theorem wl_75 : ∀ w ∈ (wsX10 : List Cond), w ∈ lw_tb2 := sub_r [481, 483] (by decide +kernel)
set_option maxRecDepth 100000 in
theorem wl_76 : ∀ w ∈ (wsX00 : List Cond), w ∈ lw_tb2 := sub_r [496, 498, 500] (by decide +kernel)
set_option maxRecDepth 100000 in
theorem wl_77 : ∀ w ∈ (wsJ40 : List Cond), w ∈ lw_tb2 := sub_r [529, 531, 533, 535] (by decide +kernel)
set_option maxRecDepth 100000 in
theorem wl_78 : ∀ w ∈ (wsX30 : List Cond), w ∈ lw_tb2 := sub_r [856, 858, 860, 862, 864] (by decide +kernel)
set_option maxRecDepth 100000 in
theorem wl_79 : ∀ w ∈ (wsX20 : List Cond), w ∈ lw_tb2 := sub_r [918, 920, 922] (by decide +kernel)
set_option maxRecDepth 100000 in
theorem wl_80 : ∀ w ∈ (wsX40 : List Cond), w ∈ lw_tb2 := sub_r [991, 993, 995, 997, 999] (by decide +kernel)
set_option maxRecDepth 100000 in
theorem wl_81 : ∀ w ∈ (wsX50 : List Cond), w ∈ lw_tb2 := sub_r [1049, 1051, 1053, 1055] (by decide +kernel)
set_option maxRecDepth 100000 in
theorem wl_82 : ∀ w ∈ (wsX80 : List Cond), w ∈ lw_tb2 := sub_r [1200, 1202, 1204, 1206] (by decide +kernel)
set_option maxRecDepth 100000 in
theorem wl_83 : ∀ w ∈ ([] : List Cond), w ∈ lw_tb2 := sub_r [] (by decide +kernel)
theorem wsL_in : ∀ w ∈ wsL_law, w ∈ lw_tb2 := by
  show ∀ w ∈ (wsL_law_r1 ++ (wsL_law_r2 ++ (wsL_law_r3 ++ (wsL_law_r4 ++ (wsL_law_r5 ++ (wsL_law_r6 ++ (wsL_law_r7 ++ (wsL_law_r8 ++ (wsL_law_r9 ++ (wsL_law_r10 ++ (wsL_law_r11 ++ (wsL_law_r12 ++ (wsL_law_r13 ++ (wsL_law_r14 ++ (wsL_law_r15 ++ (wsL_law_r16 ++ (wsL_law_r17 ++ (wsL_law_r18 ++ (wsL_law_r19 ++ (wsL_law_r20 ++ (wsL_law_r21 ++ (wsL_law_r22 ++ (wsL_law_r23 ++ (wsL_law_r24 ++ (wsL_law_r25 ++ (wsL_law_r26 ++ (wsL_law_r27 ++ (wsL_law_r28 ++ (wsL_law_r29 ++ (wsL_law_r30 ++ (wsL_law_r31 ++ (wsL_law_r32 ++ (wsL_law_r33 ++ (wsL_law_r34 ++ (wsL_law_r35 ++ (wsL_law_r36 ++ (wsL_law_r37 ++ (wsL_law_r38 ++ (wsL_law_r39 ++ (wsL_law_r40 ++ (wsL_law_r41 ++ (wsL_law_r42 ++ (wsL_law_r43 ++ (wsL_law_r44 ++ (wsL_law_r45 ++ (wsL_law_r46 ++ (wsL_law_r47 ++ (wsL_law_r48 ++ (wsL_law_r49 ++ (wsL_law_r50 ++ (wsL_law_r51 ++ (wsL_law_r52 ++ (wsL_law_r53 ++ (wsL_law_r54 ++ (wsL_law_r55 ++ (wsL_law_r56 ++ (wsL_law_r57 ++ (wsL_law_r58 ++ (wsL_law_r59 ++ (wsL_law_r60 ++ (wsL_law_r61 ++ (wsL_law_r62 ++ (wsL_law_r63 ++ (wsL_law_r64 ++ (wsL_law_r65 ++ (wsL_law_r66 ++ wsL_law_r67)))))))))))))))))))))))))))))))))))))))))))))))))))))))))))))))))) ++ wsX110 ++ wsX120 ++ wsX90 ++ wsX70 ++ wsJx4a65c0 ++ wsX60 ++ wsX100 ++ wsJ00 ++ wsX10 ++ wsX00 ++ wsJ40 ++ wsX30 ++ wsX20 ++ wsX40 ++ wsX50 ++ wsX80 ++ ([] : List Cond), w ∈ lw_tb2
  exact List.forall_mem_append.mpr ⟨List.forall_mem_append.mpr ⟨List.forall_mem_append.mpr ⟨List.forall_mem_append.mpr ⟨List.forall_mem_append.mpr ⟨List.forall_mem_append.mpr ⟨List.forall_mem_append.mpr ⟨List.forall_mem_append.mpr ⟨List.forall_mem_append.mpr ⟨List.forall_mem_append.mpr ⟨List.forall_mem_append.mpr ⟨List.forall_mem_append.mpr ⟨List.forall_mem_append.mpr ⟨List.forall_mem_append.mpr ⟨List.forall_mem_append.mpr ⟨List.forall_mem_append.mpr ⟨List.forall_mem_append.mpr ⟨List.forall_mem_append.mpr ⟨wl_0, List.forall_mem_append.mpr ⟨wl_1, List.forall_mem_append.mpr ⟨wl_2, List.forall_mem_append.mpr ⟨wl_3, List.forall_mem_append.mpr ⟨wl_4, List.forall_mem_append.mpr ⟨wl_5, List.forall_mem_append.mpr ⟨wl_6, List.forall_mem_append.mpr ⟨wl_7, List.forall_mem_append.mpr ⟨wl_8, List.forall_mem_append.mpr ⟨wl_9, List.forall_mem_append.mpr ⟨wl_10, List.forall_mem_append.mpr ⟨wl_11, List.forall_mem_append.mpr ⟨wl_12, List.forall_mem_append.mpr ⟨wl_13, List.forall_mem_append.mpr ⟨wl_14, List.forall_mem_append.mpr ⟨wl_15, List.forall_mem_append.mpr ⟨wl_16, List.forall_mem_append.mpr ⟨wl_17, List.forall_mem_append.mpr ⟨wl_18, List.forall_mem_append.mpr ⟨wl_19, List.forall_mem_append.mpr ⟨wl_20, List.forall_mem_append.mpr ⟨wl_21, List.forall_mem_append.mpr ⟨wl_22, List.forall_mem_append.mpr ⟨wl_23, List.forall_mem_append.mpr ⟨wl_24, List.forall_mem_append.mpr ⟨wl_25, List.forall_mem_append.mpr ⟨wl_26, List.forall_mem_append.mpr ⟨wl_27, List.forall_mem_append.mpr ⟨wl_28, List.forall_mem_append.mpr ⟨wl_29, List.forall_mem_append.mpr ⟨wl_30, List.forall_mem_append.mpr ⟨wl_31, List.forall_mem_append.mpr ⟨wl_32, List.forall_mem_append.mpr ⟨wl_33, List.forall_mem_append.mpr ⟨wl_34, List.forall_mem_append.mpr ⟨wl_35, List.forall_mem_append.mpr ⟨wl_36, List.forall_mem_append.mpr ⟨wl_37, List.forall_mem_append.mpr ⟨wl_38, List.forall_mem_append.mpr ⟨wl_39, List.forall_mem_append.mpr ⟨wl_40, List.forall_mem_append.mpr ⟨wl_41, List.forall_mem_append.mpr ⟨wl_42, List.forall_mem_append.mpr ⟨wl_43, List.forall_mem_append.mpr ⟨wl_44, List.forall_mem_append.mpr ⟨wl_45, List.forall_mem_append.mpr ⟨wl_46, List.forall_mem_append.mpr ⟨wl_47, List.forall_mem_append.mpr ⟨wl_48, List.forall_mem_append.mpr ⟨wl_49, List.forall_mem_append.mpr ⟨wl_50, List.forall_mem_append.mpr ⟨wl_51, List.forall_mem_append.mpr ⟨wl_52, List.forall_mem_append.mpr ⟨wl_53, List.forall_mem_append.mpr ⟨wl_54, List.forall_mem_append.mpr ⟨wl_55, List.forall_mem_append.mpr ⟨wl_56, List.forall_mem_append.mpr ⟨wl_57, List.forall_mem_append.mpr ⟨wl_58, List.forall_mem_append.mpr ⟨wl_59, List.forall_mem_append.mpr ⟨wl_60, List.forall_mem_append.mpr ⟨wl_61, List.forall_mem_append.mpr ⟨wl_62, List.forall_mem_append.mpr ⟨wl_63, List.forall_mem_append.mpr ⟨wl_64, List.forall_mem_append.mpr ⟨wl_65, wl_66⟩⟩⟩⟩⟩⟩⟩⟩⟩⟩⟩⟩⟩⟩⟩⟩⟩⟩⟩⟩⟩⟩⟩⟩⟩⟩⟩⟩⟩⟩⟩⟩⟩⟩⟩⟩⟩⟩⟩⟩⟩⟩⟩⟩⟩⟩⟩⟩⟩⟩⟩⟩⟩⟩⟩⟩⟩⟩⟩⟩⟩⟩⟩⟩⟩⟩, wl_67⟩, wl_68⟩, wl_69⟩, wl_70⟩, wl_71⟩, wl_72⟩, wl_73⟩, wl_74⟩, wl_75⟩, wl_76⟩, wl_77⟩, wl_78⟩, wl_79⟩, wl_80⟩, wl_81⟩, wl_82⟩, wl_83⟩
