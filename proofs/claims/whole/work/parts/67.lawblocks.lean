/-! THE LAW's body as the abstract machine reads it (printed by wip/whole/emit4.py); what is made ahead of its loop is walked by hand: block 0 is never taken -/
def pc_L : List Nat := [0, 18, 188, 211, 224, 237, 250, 293, 316, 359, 372, 395, 438, 461, 494, 517, 530, 553, 576, 609, 642, 665, 688, 731, 744, 757, 800, 833, 877, 920, 963, 986, 1039, 1082, 1145, 1178, 1201, 1215, 1221]
def b_L_0 : List ab_I := [(.athrow, [], 0)]
def b_L_1 : List ab_I := [(.iload_n 3, [], 0), (.aload_n 0, [], 0), (.arraylength, [], 0), (.bipush 6, [], 0), (.isub, [], 0), (.if_icmp .gt 1197, [38], 0), (.aload_n 0, [], 0), (.iload_n 3, [], 0), (.iaload, [], 0), (.bipush 63, [], 0), (.iand, [], 0), (.tableswitch 1182 0 34 #[155, 178, 191, 204, 217, 260, 283, 326, 339, 362, 405, 428, 461, 484, 497, 520, 543, 576, 609, 632, 655, 698, 711, 724, 767, 800, 844, 887, 930, 953, 1006, 1049, 1112, 1145, 1168], [37, 2, 3, 4, 5, 6, 7, 8, 9, 10, 11, 12, 13, 14, 15, 16, 17, 18, 19, 20, 21, 22, 23, 24, 25, 26, 27, 28, 29, 30, 31, 32, 33, 34, 35, 36], 0)]
def b_L_2 : List ab_I := [(.aload_n 1, [], 0), (.aload_n 0, [], 0), (.iload_n 3, [], 0), (.iconst 1, [], 0), (.iadd, [], 0), (.iaload, [], 0), (.invokevirtual 13, [31, 2, 4], 0), (.aload_n 2, [], 0), (.aload_n 0, [], 0), (.iload_n 3, [], 0), (.iconst 1, [], 0), (.iadd, [], 0), (.iaload, [], 0), (.invokevirtual 17, [109, 2, 5], 0), (.if_icmp .eq 1009, [37], 0), (.iconst 0, [], 0), (.ireturn, [1], 0)]
def b_L_3 : List ab_I := [(.aload_n 1, [], 0), (.invokevirtual 18, [32, 1, 4], 0), (.aload_n 2, [], 0), (.invokevirtual 22, [110, 1, 5], 0), (.if_icmp .eq 996, [37], 0), (.iconst 0, [], 0), (.ireturn, [1], 0)]
def b_L_4 : List ab_I := [(.aload_n 1, [], 0), (.invokevirtual 23, [33, 1, 4], 0), (.aload_n 2, [], 0), (.invokevirtual 26, [111, 1, 5], 0), (.if_icmp .eq 983, [37], 0), (.iconst 0, [], 0), (.ireturn, [1], 0)]
def b_L_5 : List ab_I := [(.aload_n 1, [], 0), (.invokevirtual 27, [34, 1, 4], 0), (.aload_n 2, [], 0), (.invokevirtual 30, [117, 1, 5], 0), (.if_icmp .eq 970, [37], 0), (.iconst 0, [], 0), (.ireturn, [1], 0)]
def b_L_6 : List ab_I := [(.aload_n 1, [], 0), (.aload_n 0, [], 0), (.iload_n 3, [], 0), (.iconst 1, [], 0), (.iadd, [], 0), (.iaload, [], 0), (.aload_n 0, [], 0), (.iload_n 3, [], 0), (.iconst 2, [], 0), (.iadd, [], 0), (.iaload, [], 0), (.aload_n 0, [], 0), (.iload_n 3, [], 0), (.iconst 3, [], 0), (.iadd, [], 0), (.iaload, [], 0), (.invokevirtual 31, [35, 4, 4], 0), (.aload_n 2, [], 0), (.aload_n 0, [], 0), (.iload_n 3, [], 0), (.iconst 1, [], 0), (.iadd, [], 0), (.iaload, [], 0), (.aload_n 0, [], 0), (.iload_n 3, [], 0), (.iconst 2, [], 0), (.iadd, [], 0), (.iaload, [], 0), (.aload_n 0, [], 0), (.iload_n 3, [], 0), (.iconst 3, [], 0), (.iadd, [], 0), (.iaload, [], 0), (.invokevirtual 35, [120, 4, 5], 0), (.if_icmp .eq 927, [37], 0), (.iconst 0, [], 0), (.ireturn, [1], 0)]
def b_L_7 : List ab_I := [(.aload_n 1, [], 0), (.aload_n 0, [], 0), (.iload_n 3, [], 0), (.iconst 1, [], 0), (.iadd, [], 0), (.iaload, [], 0), (.invokevirtual 36, [36, 2, 4], 0), (.aload_n 2, [], 0), (.aload_n 0, [], 0), (.iload_n 3, [], 0), (.iconst 1, [], 0), (.iadd, [], 0), (.iaload, [], 0), (.invokevirtual 39, [121, 2, 5], 0), (.if_icmp .eq 904, [37], 0), (.iconst 0, [], 0), (.ireturn, [1], 0)]
def b_L_8 : List ab_I := [(.aload_n 1, [], 0), (.aload_n 0, [], 0), (.iload_n 3, [], 0), (.iconst 1, [], 0), (.iadd, [], 0), (.iaload, [], 0), (.aload_n 0, [], 0), (.iload_n 3, [], 0), (.iconst 2, [], 0), (.iadd, [], 0), (.iaload, [], 0), (.aload_n 0, [], 0), (.iload_n 3, [], 0), (.iconst 3, [], 0), (.iadd, [], 0), (.iaload, [], 0), (.invokevirtual 40, [37, 4, 4], 0), (.aload_n 2, [], 0), (.aload_n 0, [], 0), (.iload_n 3, [], 0), (.iconst 1, [], 0), (.iadd, [], 0), (.iaload, [], 0), (.aload_n 0, [], 0), (.iload_n 3, [], 0), (.iconst 2, [], 0), (.iadd, [], 0), (.iaload, [], 0), (.aload_n 0, [], 0), (.iload_n 3, [], 0), (.iconst 3, [], 0), (.iadd, [], 0), (.iaload, [], 0), (.invokevirtual 43, [122, 4, 5], 0), (.if_icmp .eq 861, [37], 0), (.iconst 0, [], 0), (.ireturn, [1], 0)]
def b_L_9 : List ab_I := [(.aload_n 1, [], 0), (.invokevirtual 44, [38, 1, 4], 0), (.aload_n 2, [], 0), (.invokevirtual 47, [123, 1, 5], 0), (.if_icmp .eq 848, [37], 0), (.iconst 0, [], 0), (.ireturn, [1], 0)]
def b_L_10 : List ab_I := [(.aload_n 1, [], 0), (.aload_n 0, [], 0), (.iload_n 3, [], 0), (.iconst 1, [], 0), (.iadd, [], 0), (.iaload, [], 0), (.invokevirtual 48, [39, 2, 4], 0), (.aload_n 2, [], 0), (.aload_n 0, [], 0), (.iload_n 3, [], 0), (.iconst 1, [], 0), (.iadd, [], 0), (.iaload, [], 0), (.invokevirtual 51, [124, 2, 5], 0), (.if_icmp .eq 825, [37], 0), (.iconst 0, [], 0), (.ireturn, [1], 0)]
def b_L_11 : List ab_I := [(.aload_n 1, [], 0), (.aload_n 0, [], 0), (.iload_n 3, [], 0), (.iconst 1, [], 0), (.iadd, [], 0), (.iaload, [], 0), (.aload_n 0, [], 0), (.iload_n 3, [], 0), (.iconst 2, [], 0), (.iadd, [], 0), (.iaload, [], 0), (.aload_n 0, [], 0), (.iload_n 3, [], 0), (.iconst 3, [], 0), (.iadd, [], 0), (.iaload, [], 0), (.invokevirtual 52, [42, 4, 4], 0), (.aload_n 2, [], 0), (.aload_n 0, [], 0), (.iload_n 3, [], 0), (.iconst 1, [], 0), (.iadd, [], 0), (.iaload, [], 0), (.aload_n 0, [], 0), (.iload_n 3, [], 0), (.iconst 2, [], 0), (.iadd, [], 0), (.iaload, [], 0), (.aload_n 0, [], 0), (.iload_n 3, [], 0), (.iconst 3, [], 0), (.iadd, [], 0), (.iaload, [], 0), (.invokevirtual 55, [135, 4, 5], 0), (.if_icmp .eq 782, [37], 0), (.iconst 0, [], 0), (.ireturn, [1], 0)]
def b_L_12 : List ab_I := [(.aload_n 1, [], 0), (.aload_n 0, [], 0), (.iload_n 3, [], 0), (.iconst 1, [], 0), (.iadd, [], 0), (.iaload, [], 0), (.invokevirtual 56, [43, 2, 4], 0), (.aload_n 2, [], 0), (.aload_n 0, [], 0), (.iload_n 3, [], 0), (.iconst 1, [], 0), (.iadd, [], 0), (.iaload, [], 0), (.invokevirtual 59, [137, 2, 5], 0), (.if_icmp .eq 759, [37], 0), (.iconst 0, [], 0), (.ireturn, [1], 0)]
def b_L_13 : List ab_I := [(.aload_n 1, [], 0), (.aload_n 0, [], 0), (.iload_n 3, [], 0), (.iconst 1, [], 0), (.iadd, [], 0), (.iaload, [], 0), (.aload_n 0, [], 0), (.iload_n 3, [], 0), (.iconst 2, [], 0), (.iadd, [], 0), (.iaload, [], 0), (.invokevirtual 60, [44, 3, 4], 0), (.aload_n 2, [], 0), (.aload_n 0, [], 0), (.iload_n 3, [], 0), (.iconst 1, [], 0), (.iadd, [], 0), (.iaload, [], 0), (.aload_n 0, [], 0), (.iload_n 3, [], 0), (.iconst 2, [], 0), (.iadd, [], 0), (.iaload, [], 0), (.invokevirtual 64, [139, 3, 5], 0), (.if_icmp .eq 726, [37], 0), (.iconst 0, [], 0), (.ireturn, [1], 0)]
def b_L_14 : List ab_I := [(.aload_n 1, [], 0), (.aload_n 0, [], 0), (.iload_n 3, [], 0), (.iconst 1, [], 0), (.iadd, [], 0), (.iaload, [], 0), (.invokevirtual 65, [45, 2, 4], 0), (.aload_n 2, [], 0), (.aload_n 0, [], 0), (.iload_n 3, [], 0), (.iconst 1, [], 0), (.iadd, [], 0), (.iaload, [], 0), (.invokevirtual 68, [143, 2, 5], 0), (.if_icmp .eq 703, [37], 0), (.iconst 0, [], 0), (.ireturn, [1], 0)]
def b_L_15 : List ab_I := [(.aload_n 1, [], 0), (.invokevirtual 69, [47, 1, 4], 0), (.aload_n 2, [], 0), (.invokevirtual 72, [146, 1, 5], 0), (.if_icmp .eq 690, [37], 0), (.iconst 0, [], 0), (.ireturn, [1], 0)]
def b_L_16 : List ab_I := [(.aload_n 1, [], 0), (.aload_n 0, [], 0), (.iload_n 3, [], 0), (.iconst 1, [], 0), (.iadd, [], 0), (.iaload, [], 0), (.invokevirtual 73, [48, 2, 4], 0), (.aload_n 2, [], 0), (.aload_n 0, [], 0), (.iload_n 3, [], 0), (.iconst 1, [], 0), (.iadd, [], 0), (.iaload, [], 0), (.invokevirtual 76, [148, 2, 5], 0), (.if_icmp .eq 667, [37], 0), (.iconst 0, [], 0), (.ireturn, [1], 0)]
def b_L_17 : List ab_I := [(.aload_n 1, [], 0), (.aload_n 0, [], 0), (.iload_n 3, [], 0), (.iconst 1, [], 0), (.iadd, [], 0), (.iaload, [], 0), (.invokevirtual 77, [50, 2, 4], 0), (.aload_n 2, [], 0), (.aload_n 0, [], 0), (.iload_n 3, [], 0), (.iconst 1, [], 0), (.iadd, [], 0), (.iaload, [], 0), (.invokevirtual 80, [150, 2, 5], 0), (.if_icmp .eq 644, [37], 0), (.iconst 0, [], 0), (.ireturn, [1], 0)]
def b_L_18 : List ab_I := [(.aload_n 1, [], 0), (.aload_n 0, [], 0), (.iload_n 3, [], 0), (.iconst 1, [], 0), (.iadd, [], 0), (.iaload, [], 0), (.aload_n 0, [], 0), (.iload_n 3, [], 0), (.iconst 2, [], 0), (.iadd, [], 0), (.iaload, [], 0), (.invokevirtual 81, [51, 3, 4], 0), (.aload_n 2, [], 0), (.aload_n 0, [], 0), (.iload_n 3, [], 0), (.iconst 1, [], 0), (.iadd, [], 0), (.iaload, [], 0), (.aload_n 0, [], 0), (.iload_n 3, [], 0), (.iconst 2, [], 0), (.iadd, [], 0), (.iaload, [], 0), (.invokevirtual 84, [154, 3, 5], 0), (.if_icmp .eq 611, [37], 0), (.iconst 0, [], 0), (.ireturn, [1], 0)]
def b_L_19 : List ab_I := [(.aload_n 1, [], 0), (.aload_n 0, [], 0), (.iload_n 3, [], 0), (.iconst 1, [], 0), (.iadd, [], 0), (.iaload, [], 0), (.aload_n 0, [], 0), (.iload_n 3, [], 0), (.iconst 2, [], 0), (.iadd, [], 0), (.iaload, [], 0), (.invokevirtual 85, [54, 3, 4], 0), (.aload_n 2, [], 0), (.aload_n 0, [], 0), (.iload_n 3, [], 0), (.iconst 1, [], 0), (.iadd, [], 0), (.iaload, [], 0), (.aload_n 0, [], 0), (.iload_n 3, [], 0), (.iconst 2, [], 0), (.iadd, [], 0), (.iaload, [], 0), (.invokevirtual 88, [156, 3, 5], 0), (.if_icmp .eq 578, [37], 0), (.iconst 0, [], 0), (.ireturn, [1], 0)]
def b_L_20 : List ab_I := [(.aload_n 1, [], 0), (.aload_n 0, [], 0), (.iload_n 3, [], 0), (.iconst 1, [], 0), (.iadd, [], 0), (.iaload, [], 0), (.invokevirtual 89, [56, 2, 4], 0), (.aload_n 2, [], 0), (.aload_n 0, [], 0), (.iload_n 3, [], 0), (.iconst 1, [], 0), (.iadd, [], 0), (.iaload, [], 0), (.invokevirtual 92, [158, 2, 5], 0), (.if_icmp .eq 555, [37], 0), (.iconst 0, [], 0), (.ireturn, [1], 0)]
def b_L_21 : List ab_I := [(.aload_n 1, [], 0), (.aload_n 0, [], 0), (.iload_n 3, [], 0), (.iconst 1, [], 0), (.iadd, [], 0), (.iaload, [], 0), (.invokevirtual 93, [57, 2, 4], 0), (.aload_n 2, [], 0), (.aload_n 0, [], 0), (.iload_n 3, [], 0), (.iconst 1, [], 0), (.iadd, [], 0), (.iaload, [], 0), (.invokevirtual 96, [162, 2, 5], 0), (.if_icmp .eq 532, [37], 0), (.iconst 0, [], 0), (.ireturn, [1], 0)]
def b_L_22 : List ab_I := [(.aload_n 1, [], 0), (.aload_n 0, [], 0), (.iload_n 3, [], 0), (.iconst 1, [], 0), (.iadd, [], 0), (.iaload, [], 0), (.aload_n 0, [], 0), (.iload_n 3, [], 0), (.iconst 2, [], 0), (.iadd, [], 0), (.iaload, [], 0), (.aload_n 0, [], 0), (.iload_n 3, [], 0), (.iconst 3, [], 0), (.iadd, [], 0), (.iaload, [], 0), (.invokevirtual 97, [63, 4, 4], 0), (.aload_n 2, [], 0), (.aload_n 0, [], 0), (.iload_n 3, [], 0), (.iconst 1, [], 0), (.iadd, [], 0), (.iaload, [], 0), (.aload_n 0, [], 0), (.iload_n 3, [], 0), (.iconst 2, [], 0), (.iadd, [], 0), (.iaload, [], 0), (.aload_n 0, [], 0), (.iload_n 3, [], 0), (.iconst 3, [], 0), (.iadd, [], 0), (.iaload, [], 0), (.invokevirtual 100, [163, 4, 5], 0), (.if_icmp .eq 489, [37], 0), (.iconst 0, [], 0), (.ireturn, [1], 0)]
def b_L_23 : List ab_I := [(.aload_n 1, [], 0), (.invokevirtual 101, [64, 1, 4], 0), (.aload_n 2, [], 0), (.invokevirtual 104, [164, 1, 5], 0), (.if_icmp .eq 476, [37], 0), (.iconst 0, [], 0), (.ireturn, [1], 0)]
def b_L_24 : List ab_I := [(.aload_n 1, [], 0), (.invokevirtual 105, [65, 1, 4], 0), (.aload_n 2, [], 0), (.invokevirtual 108, [167, 1, 5], 0), (.if_icmp .eq 463, [37], 0), (.iconst 0, [], 0), (.ireturn, [1], 0)]
def b_L_25 : List ab_I := [(.aload_n 1, [], 0), (.aload_n 0, [], 0), (.iload_n 3, [], 0), (.iconst 1, [], 0), (.iadd, [], 0), (.iaload, [], 0), (.aload_n 0, [], 0), (.iload_n 3, [], 0), (.iconst 2, [], 0), (.iadd, [], 0), (.iaload, [], 0), (.aload_n 0, [], 0), (.iload_n 3, [], 0), (.iconst 3, [], 0), (.iadd, [], 0), (.iaload, [], 0), (.invokevirtual 109, [66, 4, 4], 0), (.aload_n 2, [], 0), (.aload_n 0, [], 0), (.iload_n 3, [], 0), (.iconst 1, [], 0), (.iadd, [], 0), (.iaload, [], 0), (.aload_n 0, [], 0), (.iload_n 3, [], 0), (.iconst 2, [], 0), (.iadd, [], 0), (.iaload, [], 0), (.aload_n 0, [], 0), (.iload_n 3, [], 0), (.iconst 3, [], 0), (.iadd, [], 0), (.iaload, [], 0), (.invokevirtual 112, [170, 4, 5], 0), (.if_icmp .eq 420, [37], 0), (.iconst 0, [], 0), (.ireturn, [1], 0)]
def b_L_26 : List ab_I := [(.aload_n 1, [], 0), (.aload_n 0, [], 0), (.iload_n 3, [], 0), (.iconst 1, [], 0), (.iadd, [], 0), (.iaload, [], 0), (.aload_n 0, [], 0), (.iload_n 3, [], 0), (.iconst 2, [], 0), (.iadd, [], 0), (.iaload, [], 0), (.invokevirtual 113, [69, 3, 4], 0), (.aload_n 2, [], 0), (.aload_n 0, [], 0), (.iload_n 3, [], 0), (.iconst 1, [], 0), (.iadd, [], 0), (.iaload, [], 0), (.aload_n 0, [], 0), (.iload_n 3, [], 0), (.iconst 2, [], 0), (.iadd, [], 0), (.iaload, [], 0), (.invokevirtual 116, [172, 3, 5], 0), (.if_icmp .eq 387, [37], 0), (.iconst 0, [], 0), (.ireturn, [1], 0)]
def b_L_27 : List ab_I := [(.aload_n 1, [], 0), (.aload_n 0, [], 0), (.iload_n 3, [], 0), (.iconst 1, [], 0), (.iadd, [], 0), (.iaload, [], 0), (.aload_n 0, [], 0), (.iload_n 3, [], 0), (.iconst 2, [], 0), (.iadd, [], 0), (.iaload, [], 0), (.aload_n 0, [], 0), (.iload_n 3, [], 0), (.iconst 3, [], 0), (.iadd, [], 0), (.iaload, [], 0), (.invokevirtual 117, [72, 4, 4], 0), (.aload_n 2, [], 0), (.aload_n 0, [], 0), (.iload_n 3, [], 0), (.iconst 1, [], 0), (.iadd, [], 0), (.iaload, [], 0), (.aload_n 0, [], 0), (.iload_n 3, [], 0), (.iconst 2, [], 0), (.iadd, [], 0), (.iaload, [], 0), (.aload_n 0, [], 0), (.iload_n 3, [], 0), (.iconst 3, [], 0), (.iadd, [], 0), (.iaload, [], 0), (.invokevirtual 121, [174, 4, 5], 0), (.lcmp, [], 0), (.ifCond .eq 343, [37], 0), (.iconst 0, [], 0), (.ireturn, [1], 0)]
def b_L_28 : List ab_I := [(.aload_n 1, [], 0), (.aload_n 0, [], 0), (.iload_n 3, [], 0), (.iconst 1, [], 0), (.iadd, [], 0), (.iaload, [], 0), (.aload_n 0, [], 0), (.iload_n 3, [], 0), (.iconst 2, [], 0), (.iadd, [], 0), (.iaload, [], 0), (.aload_n 0, [], 0), (.iload_n 3, [], 0), (.iconst 3, [], 0), (.iadd, [], 0), (.iaload, [], 0), (.invokevirtual 122, [75, 4, 4], 0), (.aload_n 2, [], 0), (.aload_n 0, [], 0), (.iload_n 3, [], 0), (.iconst 1, [], 0), (.iadd, [], 0), (.iaload, [], 0), (.aload_n 0, [], 0), (.iload_n 3, [], 0), (.iconst 2, [], 0), (.iadd, [], 0), (.iaload, [], 0), (.aload_n 0, [], 0), (.iload_n 3, [], 0), (.iconst 3, [], 0), (.iadd, [], 0), (.iaload, [], 0), (.invokevirtual 125, [176, 4, 5], 0), (.if_icmp .eq 300, [37], 0), (.iconst 0, [], 0), (.ireturn, [1], 0)]
def b_L_29 : List ab_I := [(.aload_n 1, [], 0), (.aload_n 0, [], 0), (.iload_n 3, [], 0), (.iconst 1, [], 0), (.iadd, [], 0), (.iaload, [], 0), (.aload_n 0, [], 0), (.iload_n 3, [], 0), (.iconst 2, [], 0), (.iadd, [], 0), (.iaload, [], 0), (.aload_n 0, [], 0), (.iload_n 3, [], 0), (.iconst 3, [], 0), (.iadd, [], 0), (.iaload, [], 0), (.invokevirtual 126, [78, 4, 4], 0), (.aload_n 2, [], 0), (.aload_n 0, [], 0), (.iload_n 3, [], 0), (.iconst 1, [], 0), (.iadd, [], 0), (.iaload, [], 0), (.aload_n 0, [], 0), (.iload_n 3, [], 0), (.iconst 2, [], 0), (.iadd, [], 0), (.iaload, [], 0), (.aload_n 0, [], 0), (.iload_n 3, [], 0), (.iconst 3, [], 0), (.iadd, [], 0), (.iaload, [], 0), (.invokevirtual 129, [179, 4, 5], 0), (.if_icmp .eq 257, [37], 0), (.iconst 0, [], 0), (.ireturn, [1], 0)]
def b_L_30 : List ab_I := [(.aload_n 1, [], 0), (.aload_n 0, [], 0), (.iload_n 3, [], 0), (.iconst 1, [], 0), (.iadd, [], 0), (.iaload, [], 0), (.invokevirtual 130, [79, 2, 4], 0), (.aload_n 2, [], 0), (.aload_n 0, [], 0), (.iload_n 3, [], 0), (.iconst 1, [], 0), (.iadd, [], 0), (.iaload, [], 0), (.invokevirtual 133, [180, 2, 5], 0), (.if_icmp .eq 234, [37], 0), (.iconst 0, [], 0), (.ireturn, [1], 0)]
def b_L_31 : List ab_I := [(.aload_n 1, [], 0), (.aload_n 0, [], 0), (.iload_n 3, [], 0), (.iconst 1, [], 0), (.iadd, [], 0), (.iaload, [], 0), (.aload_n 0, [], 0), (.iload_n 3, [], 0), (.iconst 2, [], 0), (.iadd, [], 0), (.iaload, [], 0), (.aload_n 0, [], 0), (.iload_n 3, [], 0), (.iconst 3, [], 0), (.iadd, [], 0), (.iaload, [], 0), (.aload_n 0, [], 0), (.iload_n 3, [], 0), (.iconst 4, [], 0), (.iadd, [], 0), (.iaload, [], 0), (.invokevirtual 134, [80, 5, 4], 0), (.aload_n 2, [], 0), (.aload_n 0, [], 0), (.iload_n 3, [], 0), (.iconst 1, [], 0), (.iadd, [], 0), (.iaload, [], 0), (.aload_n 0, [], 0), (.iload_n 3, [], 0), (.iconst 2, [], 0), (.iadd, [], 0), (.iaload, [], 0), (.aload_n 0, [], 0), (.iload_n 3, [], 0), (.iconst 3, [], 0), (.iadd, [], 0), (.iaload, [], 0), (.aload_n 0, [], 0), (.iload_n 3, [], 0), (.iconst 4, [], 0), (.iadd, [], 0), (.iaload, [], 0), (.invokevirtual 138, [183, 5, 5], 0), (.if_icmp .eq 181, [37], 0), (.iconst 0, [], 0), (.ireturn, [1], 0)]
def b_L_32 : List ab_I := [(.aload_n 1, [], 0), (.aload_n 0, [], 0), (.iload_n 3, [], 0), (.iconst 1, [], 0), (.iadd, [], 0), (.iaload, [], 0), (.aload_n 0, [], 0), (.iload_n 3, [], 0), (.iconst 2, [], 0), (.iadd, [], 0), (.iaload, [], 0), (.aload_n 0, [], 0), (.iload_n 3, [], 0), (.iconst 3, [], 0), (.iadd, [], 0), (.iaload, [], 0), (.invokevirtual 139, [81, 4, 4], 0), (.aload_n 2, [], 0), (.aload_n 0, [], 0), (.iload_n 3, [], 0), (.iconst 1, [], 0), (.iadd, [], 0), (.iaload, [], 0), (.aload_n 0, [], 0), (.iload_n 3, [], 0), (.iconst 2, [], 0), (.iadd, [], 0), (.iaload, [], 0), (.aload_n 0, [], 0), (.iload_n 3, [], 0), (.iconst 3, [], 0), (.iadd, [], 0), (.iaload, [], 0), (.invokevirtual 142, [184, 4, 5], 0), (.if_icmp .eq 138, [37], 0), (.iconst 0, [], 0), (.ireturn, [1], 0)]
def b_L_33 : List ab_I := [(.aload_n 1, [], 0), (.aload_n 0, [], 0), (.iload_n 3, [], 0), (.iconst 1, [], 0), (.iadd, [], 0), (.iaload, [], 0), (.aload_n 0, [], 0), (.iload_n 3, [], 0), (.iconst 2, [], 0), (.iadd, [], 0), (.iaload, [], 0), (.aload_n 0, [], 0), (.iload_n 3, [], 0), (.iconst 3, [], 0), (.iadd, [], 0), (.iaload, [], 0), (.aload_n 0, [], 0), (.iload_n 3, [], 0), (.iconst 4, [], 0), (.iadd, [], 0), (.iaload, [], 0), (.aload_n 0, [], 0), (.iload_n 3, [], 0), (.iconst 5, [], 0), (.iadd, [], 0), (.iaload, [], 0), (.invokevirtual 143, [83, 6, 4], 0), (.aload_n 2, [], 0), (.aload_n 0, [], 0), (.iload_n 3, [], 0), (.iconst 1, [], 0), (.iadd, [], 0), (.iaload, [], 0), (.aload_n 0, [], 0), (.iload_n 3, [], 0), (.iconst 2, [], 0), (.iadd, [], 0), (.iaload, [], 0), (.aload_n 0, [], 0), (.iload_n 3, [], 0), (.iconst 3, [], 0), (.iadd, [], 0), (.iaload, [], 0), (.aload_n 0, [], 0), (.iload_n 3, [], 0), (.iconst 4, [], 0), (.iadd, [], 0), (.iaload, [], 0), (.aload_n 0, [], 0), (.iload_n 3, [], 0), (.iconst 5, [], 0), (.iadd, [], 0), (.iaload, [], 0), (.invokevirtual 147, [185, 6, 5], 0), (.if_icmp .eq 75, [37], 0), (.iconst 0, [], 0), (.ireturn, [1], 0)]
def b_L_34 : List ab_I := [(.aload_n 1, [], 0), (.aload_n 0, [], 0), (.iload_n 3, [], 0), (.iconst 1, [], 0), (.iadd, [], 0), (.iaload, [], 0), (.aload_n 0, [], 0), (.iload_n 3, [], 0), (.iconst 2, [], 0), (.iadd, [], 0), (.iaload, [], 0), (.invokevirtual 148, [84, 3, 4], 0), (.aload_n 2, [], 0), (.aload_n 0, [], 0), (.iload_n 3, [], 0), (.iconst 1, [], 0), (.iadd, [], 0), (.iaload, [], 0), (.aload_n 0, [], 0), (.iload_n 3, [], 0), (.iconst 2, [], 0), (.iadd, [], 0), (.iaload, [], 0), (.invokevirtual 151, [186, 3, 5], 0), (.if_icmp .eq 42, [37], 0), (.iconst 0, [], 0), (.ireturn, [1], 0)]
def b_L_35 : List ab_I := [(.aload_n 1, [], 0), (.aload_n 0, [], 0), (.iload_n 3, [], 0), (.iconst 1, [], 0), (.iadd, [], 0), (.iaload, [], 0), (.invokevirtual 152, [85, 2, 4], 0), (.aload_n 2, [], 0), (.aload_n 0, [], 0), (.iload_n 3, [], 0), (.iconst 1, [], 0), (.iadd, [], 0), (.iaload, [], 0), (.invokevirtual 155, [190, 2, 5], 0), (.if_icmp .eq 19, [37], 0), (.iconst 0, [], 0), (.ireturn, [1], 0)]
def b_L_36 : List ab_I := [(.aload_n 1, [], 0), (.invokevirtual 156, [88, 1, 4], 0), (.aload_n 2, [], 0), (.invokevirtual 160, [194, 1, 5], 0), (.lcmp, [], 0), (.ifCond .eq 5, [37], 0), (.iconst 0, [], 0), (.ireturn, [1], 0)]
def b_L_37 : List ab_I := [(.iinc 3 6, [], 0), (.goto (-1200), [1], 0)]
def b_L_38 : List ab_I := [(.iconst 1, [], 0), (.ireturn, [1], 0)]
def bk_L : List (List ab_I) := [b_L_0, b_L_1, b_L_2, b_L_3, b_L_4, b_L_5, b_L_6, b_L_7, b_L_8, b_L_9, b_L_10, b_L_11, b_L_12, b_L_13, b_L_14, b_L_15, b_L_16, b_L_17, b_L_18, b_L_19, b_L_20, b_L_21, b_L_22, b_L_23, b_L_24, b_L_25, b_L_26, b_L_27, b_L_28, b_L_29, b_L_30, b_L_31, b_L_32, b_L_33, b_L_34, b_L_35, b_L_36, b_L_37, b_L_38]
set_option maxRecDepth 100000 in
theorem ck_L0 : ab_qb 6 code ret 4 pc_L 1 0 b_L_0 = true := by decide +kernel
set_option maxRecDepth 100000 in
theorem ck_L1 : ab_qb 6 code ret 4 pc_L 2 18 b_L_1 = true := by decide +kernel
set_option maxRecDepth 100000 in
theorem ck_L2 : ab_qb 6 code ret 4 pc_L 3 188 b_L_2 = true := by decide +kernel
set_option maxRecDepth 100000 in
theorem ck_L3 : ab_qb 6 code ret 4 pc_L 4 211 b_L_3 = true := by decide +kernel
set_option maxRecDepth 100000 in
theorem ck_L4 : ab_qb 6 code ret 4 pc_L 5 224 b_L_4 = true := by decide +kernel
set_option maxRecDepth 100000 in
theorem ck_L5 : ab_qb 6 code ret 4 pc_L 6 237 b_L_5 = true := by decide +kernel
set_option maxRecDepth 100000 in
theorem ck_L6 : ab_qb 6 code ret 4 pc_L 7 250 b_L_6 = true := by decide +kernel
set_option maxRecDepth 100000 in
theorem ck_L7 : ab_qb 6 code ret 4 pc_L 8 293 b_L_7 = true := by decide +kernel
set_option maxRecDepth 100000 in
theorem ck_L8 : ab_qb 6 code ret 4 pc_L 9 316 b_L_8 = true := by decide +kernel
set_option maxRecDepth 100000 in
theorem ck_L9 : ab_qb 6 code ret 4 pc_L 10 359 b_L_9 = true := by decide +kernel
set_option maxRecDepth 100000 in
theorem ck_L10 : ab_qb 6 code ret 4 pc_L 11 372 b_L_10 = true := by decide +kernel
set_option maxRecDepth 100000 in
theorem ck_L11 : ab_qb 6 code ret 4 pc_L 12 395 b_L_11 = true := by decide +kernel
set_option maxRecDepth 100000 in
theorem ck_L12 : ab_qb 6 code ret 4 pc_L 13 438 b_L_12 = true := by decide +kernel
set_option maxRecDepth 100000 in
theorem ck_L13 : ab_qb 6 code ret 4 pc_L 14 461 b_L_13 = true := by decide +kernel
set_option maxRecDepth 100000 in
theorem ck_L14 : ab_qb 6 code ret 4 pc_L 15 494 b_L_14 = true := by decide +kernel
set_option maxRecDepth 100000 in
theorem ck_L15 : ab_qb 6 code ret 4 pc_L 16 517 b_L_15 = true := by decide +kernel
set_option maxRecDepth 100000 in
theorem ck_L16 : ab_qb 6 code ret 4 pc_L 17 530 b_L_16 = true := by decide +kernel
set_option maxRecDepth 100000 in
theorem ck_L17 : ab_qb 6 code ret 4 pc_L 18 553 b_L_17 = true := by decide +kernel
set_option maxRecDepth 100000 in
theorem ck_L18 : ab_qb 6 code ret 4 pc_L 19 576 b_L_18 = true := by decide +kernel
set_option maxRecDepth 100000 in
theorem ck_L19 : ab_qb 6 code ret 4 pc_L 20 609 b_L_19 = true := by decide +kernel
set_option maxRecDepth 100000 in
theorem ck_L20 : ab_qb 6 code ret 4 pc_L 21 642 b_L_20 = true := by decide +kernel
set_option maxRecDepth 100000 in
theorem ck_L21 : ab_qb 6 code ret 4 pc_L 22 665 b_L_21 = true := by decide +kernel
set_option maxRecDepth 100000 in
theorem ck_L22 : ab_qb 6 code ret 4 pc_L 23 688 b_L_22 = true := by decide +kernel
set_option maxRecDepth 100000 in
theorem ck_L23 : ab_qb 6 code ret 4 pc_L 24 731 b_L_23 = true := by decide +kernel
set_option maxRecDepth 100000 in
theorem ck_L24 : ab_qb 6 code ret 4 pc_L 25 744 b_L_24 = true := by decide +kernel
set_option maxRecDepth 100000 in
theorem ck_L25 : ab_qb 6 code ret 4 pc_L 26 757 b_L_25 = true := by decide +kernel
set_option maxRecDepth 100000 in
theorem ck_L26 : ab_qb 6 code ret 4 pc_L 27 800 b_L_26 = true := by decide +kernel
set_option maxRecDepth 100000 in
theorem ck_L27 : ab_qb 6 code ret 4 pc_L 28 833 b_L_27 = true := by decide +kernel
set_option maxRecDepth 100000 in
theorem ck_L28 : ab_qb 6 code ret 4 pc_L 29 877 b_L_28 = true := by decide +kernel
set_option maxRecDepth 100000 in
theorem ck_L29 : ab_qb 6 code ret 4 pc_L 30 920 b_L_29 = true := by decide +kernel
set_option maxRecDepth 100000 in
theorem ck_L30 : ab_qb 6 code ret 4 pc_L 31 963 b_L_30 = true := by decide +kernel
set_option maxRecDepth 100000 in
theorem ck_L31 : ab_qb 6 code ret 4 pc_L 32 986 b_L_31 = true := by decide +kernel
set_option maxRecDepth 100000 in
theorem ck_L32 : ab_qb 6 code ret 4 pc_L 33 1039 b_L_32 = true := by decide +kernel
set_option maxRecDepth 100000 in
theorem ck_L33 : ab_qb 6 code ret 4 pc_L 34 1082 b_L_33 = true := by decide +kernel
set_option maxRecDepth 100000 in
theorem ck_L34 : ab_qb 6 code ret 4 pc_L 35 1145 b_L_34 = true := by decide +kernel
set_option maxRecDepth 100000 in
theorem ck_L35 : ab_qb 6 code ret 4 pc_L 36 1178 b_L_35 = true := by decide +kernel
set_option maxRecDepth 100000 in
theorem ck_L36 : ab_qb 6 code ret 4 pc_L 37 1201 b_L_36 = true := by decide +kernel
set_option maxRecDepth 100000 in
theorem ck_L37 : ab_qb 6 code ret 4 pc_L 38 1215 b_L_37 = true := by decide +kernel
set_option maxRecDepth 100000 in
theorem ck_L38 : ab_qb 6 code ret 4 pc_L 39 1221 b_L_38 = true := by decide +kernel
theorem ck_L : ab_ckm ab_mt (ab_own 6) code ret 4 pc_L bk_L := by
  refine ⟨rfl, fun b is hb => ?_⟩
  match b, hb with
  | 0, hb => cases hb; exact ⟨0, rfl, ab_qb_ok _ _ ck_L0⟩
  | 1, hb => cases hb; exact ⟨18, rfl, ab_qb_ok _ _ ck_L1⟩
  | 2, hb => cases hb; exact ⟨188, rfl, ab_qb_ok _ _ ck_L2⟩
  | 3, hb => cases hb; exact ⟨211, rfl, ab_qb_ok _ _ ck_L3⟩
  | 4, hb => cases hb; exact ⟨224, rfl, ab_qb_ok _ _ ck_L4⟩
  | 5, hb => cases hb; exact ⟨237, rfl, ab_qb_ok _ _ ck_L5⟩
  | 6, hb => cases hb; exact ⟨250, rfl, ab_qb_ok _ _ ck_L6⟩
  | 7, hb => cases hb; exact ⟨293, rfl, ab_qb_ok _ _ ck_L7⟩
  | 8, hb => cases hb; exact ⟨316, rfl, ab_qb_ok _ _ ck_L8⟩
  | 9, hb => cases hb; exact ⟨359, rfl, ab_qb_ok _ _ ck_L9⟩
  | 10, hb => cases hb; exact ⟨372, rfl, ab_qb_ok _ _ ck_L10⟩
  | 11, hb => cases hb; exact ⟨395, rfl, ab_qb_ok _ _ ck_L11⟩
  | 12, hb => cases hb; exact ⟨438, rfl, ab_qb_ok _ _ ck_L12⟩
  | 13, hb => cases hb; exact ⟨461, rfl, ab_qb_ok _ _ ck_L13⟩
  | 14, hb => cases hb; exact ⟨494, rfl, ab_qb_ok _ _ ck_L14⟩
  | 15, hb => cases hb; exact ⟨517, rfl, ab_qb_ok _ _ ck_L15⟩
  | 16, hb => cases hb; exact ⟨530, rfl, ab_qb_ok _ _ ck_L16⟩
  | 17, hb => cases hb; exact ⟨553, rfl, ab_qb_ok _ _ ck_L17⟩
  | 18, hb => cases hb; exact ⟨576, rfl, ab_qb_ok _ _ ck_L18⟩
  | 19, hb => cases hb; exact ⟨609, rfl, ab_qb_ok _ _ ck_L19⟩
  | 20, hb => cases hb; exact ⟨642, rfl, ab_qb_ok _ _ ck_L20⟩
  | 21, hb => cases hb; exact ⟨665, rfl, ab_qb_ok _ _ ck_L21⟩
  | 22, hb => cases hb; exact ⟨688, rfl, ab_qb_ok _ _ ck_L22⟩
  | 23, hb => cases hb; exact ⟨731, rfl, ab_qb_ok _ _ ck_L23⟩
  | 24, hb => cases hb; exact ⟨744, rfl, ab_qb_ok _ _ ck_L24⟩
  | 25, hb => cases hb; exact ⟨757, rfl, ab_qb_ok _ _ ck_L25⟩
  | 26, hb => cases hb; exact ⟨800, rfl, ab_qb_ok _ _ ck_L26⟩
  | 27, hb => cases hb; exact ⟨833, rfl, ab_qb_ok _ _ ck_L27⟩
  | 28, hb => cases hb; exact ⟨877, rfl, ab_qb_ok _ _ ck_L28⟩
  | 29, hb => cases hb; exact ⟨920, rfl, ab_qb_ok _ _ ck_L29⟩
  | 30, hb => cases hb; exact ⟨963, rfl, ab_qb_ok _ _ ck_L30⟩
  | 31, hb => cases hb; exact ⟨986, rfl, ab_qb_ok _ _ ck_L31⟩
  | 32, hb => cases hb; exact ⟨1039, rfl, ab_qb_ok _ _ ck_L32⟩
  | 33, hb => cases hb; exact ⟨1082, rfl, ab_qb_ok _ _ ck_L33⟩
  | 34, hb => cases hb; exact ⟨1145, rfl, ab_qb_ok _ _ ck_L34⟩
  | 35, hb => cases hb; exact ⟨1178, rfl, ab_qb_ok _ _ ck_L35⟩
  | 36, hb => cases hb; exact ⟨1201, rfl, ab_qb_ok _ _ ck_L36⟩
  | 37, hb => cases hb; exact ⟨1215, rfl, ab_qb_ok _ _ ck_L37⟩
  | 38, hb => cases hb; exact ⟨1221, rfl, ab_qb_ok _ _ ck_L38⟩
  | k + 39, hb => rw [List.getElem?_eq_none (by show bk_L.length ≤ _; rw [show bk_L.length = 39 from rfl]; omega)] at hb; cases hb
theorem ev_L_1 {Ls d : Nat} {q : Option ab_V → ab_W → Prop} {L S : List ab_V} {w : ab_W} : Ev Ls (Sm Ls d) q bk_L 1 L S w = ab_wb Ls (Sm Ls d) (Ev Ls (Sm Ls d) q bk_L) q 2 b_L_1 L S w := propext ⟨fun h => Ev.unfold (ab_Sm_mono d) h, fun h => Ev.fold (ab_Sm_mono d) h⟩
theorem ev_L_2 {Ls d : Nat} {q : Option ab_V → ab_W → Prop} {L S : List ab_V} {w : ab_W} : Ev Ls (Sm Ls d) q bk_L 2 L S w = ab_wb Ls (Sm Ls d) (Ev Ls (Sm Ls d) q bk_L) q 3 b_L_2 L S w := propext ⟨fun h => Ev.unfold (ab_Sm_mono d) h, fun h => Ev.fold (ab_Sm_mono d) h⟩
theorem ev_L_3 {Ls d : Nat} {q : Option ab_V → ab_W → Prop} {L S : List ab_V} {w : ab_W} : Ev Ls (Sm Ls d) q bk_L 3 L S w = ab_wb Ls (Sm Ls d) (Ev Ls (Sm Ls d) q bk_L) q 4 b_L_3 L S w := propext ⟨fun h => Ev.unfold (ab_Sm_mono d) h, fun h => Ev.fold (ab_Sm_mono d) h⟩
theorem ev_L_4 {Ls d : Nat} {q : Option ab_V → ab_W → Prop} {L S : List ab_V} {w : ab_W} : Ev Ls (Sm Ls d) q bk_L 4 L S w = ab_wb Ls (Sm Ls d) (Ev Ls (Sm Ls d) q bk_L) q 5 b_L_4 L S w := propext ⟨fun h => Ev.unfold (ab_Sm_mono d) h, fun h => Ev.fold (ab_Sm_mono d) h⟩
theorem ev_L_5 {Ls d : Nat} {q : Option ab_V → ab_W → Prop} {L S : List ab_V} {w : ab_W} : Ev Ls (Sm Ls d) q bk_L 5 L S w = ab_wb Ls (Sm Ls d) (Ev Ls (Sm Ls d) q bk_L) q 6 b_L_5 L S w := propext ⟨fun h => Ev.unfold (ab_Sm_mono d) h, fun h => Ev.fold (ab_Sm_mono d) h⟩
theorem ev_L_6 {Ls d : Nat} {q : Option ab_V → ab_W → Prop} {L S : List ab_V} {w : ab_W} : Ev Ls (Sm Ls d) q bk_L 6 L S w = ab_wb Ls (Sm Ls d) (Ev Ls (Sm Ls d) q bk_L) q 7 b_L_6 L S w := propext ⟨fun h => Ev.unfold (ab_Sm_mono d) h, fun h => Ev.fold (ab_Sm_mono d) h⟩
theorem ev_L_7 {Ls d : Nat} {q : Option ab_V → ab_W → Prop} {L S : List ab_V} {w : ab_W} : Ev Ls (Sm Ls d) q bk_L 7 L S w = ab_wb Ls (Sm Ls d) (Ev Ls (Sm Ls d) q bk_L) q 8 b_L_7 L S w := propext ⟨fun h => Ev.unfold (ab_Sm_mono d) h, fun h => Ev.fold (ab_Sm_mono d) h⟩
theorem ev_L_8 {Ls d : Nat} {q : Option ab_V → ab_W → Prop} {L S : List ab_V} {w : ab_W} : Ev Ls (Sm Ls d) q bk_L 8 L S w = ab_wb Ls (Sm Ls d) (Ev Ls (Sm Ls d) q bk_L) q 9 b_L_8 L S w := propext ⟨fun h => Ev.unfold (ab_Sm_mono d) h, fun h => Ev.fold (ab_Sm_mono d) h⟩
theorem ev_L_9 {Ls d : Nat} {q : Option ab_V → ab_W → Prop} {L S : List ab_V} {w : ab_W} : Ev Ls (Sm Ls d) q bk_L 9 L S w = ab_wb Ls (Sm Ls d) (Ev Ls (Sm Ls d) q bk_L) q 10 b_L_9 L S w := propext ⟨fun h => Ev.unfold (ab_Sm_mono d) h, fun h => Ev.fold (ab_Sm_mono d) h⟩
theorem ev_L_10 {Ls d : Nat} {q : Option ab_V → ab_W → Prop} {L S : List ab_V} {w : ab_W} : Ev Ls (Sm Ls d) q bk_L 10 L S w = ab_wb Ls (Sm Ls d) (Ev Ls (Sm Ls d) q bk_L) q 11 b_L_10 L S w := propext ⟨fun h => Ev.unfold (ab_Sm_mono d) h, fun h => Ev.fold (ab_Sm_mono d) h⟩
theorem ev_L_11 {Ls d : Nat} {q : Option ab_V → ab_W → Prop} {L S : List ab_V} {w : ab_W} : Ev Ls (Sm Ls d) q bk_L 11 L S w = ab_wb Ls (Sm Ls d) (Ev Ls (Sm Ls d) q bk_L) q 12 b_L_11 L S w := propext ⟨fun h => Ev.unfold (ab_Sm_mono d) h, fun h => Ev.fold (ab_Sm_mono d) h⟩
theorem ev_L_12 {Ls d : Nat} {q : Option ab_V → ab_W → Prop} {L S : List ab_V} {w : ab_W} : Ev Ls (Sm Ls d) q bk_L 12 L S w = ab_wb Ls (Sm Ls d) (Ev Ls (Sm Ls d) q bk_L) q 13 b_L_12 L S w := propext ⟨fun h => Ev.unfold (ab_Sm_mono d) h, fun h => Ev.fold (ab_Sm_mono d) h⟩
theorem ev_L_13 {Ls d : Nat} {q : Option ab_V → ab_W → Prop} {L S : List ab_V} {w : ab_W} : Ev Ls (Sm Ls d) q bk_L 13 L S w = ab_wb Ls (Sm Ls d) (Ev Ls (Sm Ls d) q bk_L) q 14 b_L_13 L S w := propext ⟨fun h => Ev.unfold (ab_Sm_mono d) h, fun h => Ev.fold (ab_Sm_mono d) h⟩
theorem ev_L_14 {Ls d : Nat} {q : Option ab_V → ab_W → Prop} {L S : List ab_V} {w : ab_W} : Ev Ls (Sm Ls d) q bk_L 14 L S w = ab_wb Ls (Sm Ls d) (Ev Ls (Sm Ls d) q bk_L) q 15 b_L_14 L S w := propext ⟨fun h => Ev.unfold (ab_Sm_mono d) h, fun h => Ev.fold (ab_Sm_mono d) h⟩
theorem ev_L_15 {Ls d : Nat} {q : Option ab_V → ab_W → Prop} {L S : List ab_V} {w : ab_W} : Ev Ls (Sm Ls d) q bk_L 15 L S w = ab_wb Ls (Sm Ls d) (Ev Ls (Sm Ls d) q bk_L) q 16 b_L_15 L S w := propext ⟨fun h => Ev.unfold (ab_Sm_mono d) h, fun h => Ev.fold (ab_Sm_mono d) h⟩
theorem ev_L_16 {Ls d : Nat} {q : Option ab_V → ab_W → Prop} {L S : List ab_V} {w : ab_W} : Ev Ls (Sm Ls d) q bk_L 16 L S w = ab_wb Ls (Sm Ls d) (Ev Ls (Sm Ls d) q bk_L) q 17 b_L_16 L S w := propext ⟨fun h => Ev.unfold (ab_Sm_mono d) h, fun h => Ev.fold (ab_Sm_mono d) h⟩
theorem ev_L_17 {Ls d : Nat} {q : Option ab_V → ab_W → Prop} {L S : List ab_V} {w : ab_W} : Ev Ls (Sm Ls d) q bk_L 17 L S w = ab_wb Ls (Sm Ls d) (Ev Ls (Sm Ls d) q bk_L) q 18 b_L_17 L S w := propext ⟨fun h => Ev.unfold (ab_Sm_mono d) h, fun h => Ev.fold (ab_Sm_mono d) h⟩
theorem ev_L_18 {Ls d : Nat} {q : Option ab_V → ab_W → Prop} {L S : List ab_V} {w : ab_W} : Ev Ls (Sm Ls d) q bk_L 18 L S w = ab_wb Ls (Sm Ls d) (Ev Ls (Sm Ls d) q bk_L) q 19 b_L_18 L S w := propext ⟨fun h => Ev.unfold (ab_Sm_mono d) h, fun h => Ev.fold (ab_Sm_mono d) h⟩
theorem ev_L_19 {Ls d : Nat} {q : Option ab_V → ab_W → Prop} {L S : List ab_V} {w : ab_W} : Ev Ls (Sm Ls d) q bk_L 19 L S w = ab_wb Ls (Sm Ls d) (Ev Ls (Sm Ls d) q bk_L) q 20 b_L_19 L S w := propext ⟨fun h => Ev.unfold (ab_Sm_mono d) h, fun h => Ev.fold (ab_Sm_mono d) h⟩
theorem ev_L_20 {Ls d : Nat} {q : Option ab_V → ab_W → Prop} {L S : List ab_V} {w : ab_W} : Ev Ls (Sm Ls d) q bk_L 20 L S w = ab_wb Ls (Sm Ls d) (Ev Ls (Sm Ls d) q bk_L) q 21 b_L_20 L S w := propext ⟨fun h => Ev.unfold (ab_Sm_mono d) h, fun h => Ev.fold (ab_Sm_mono d) h⟩
theorem ev_L_21 {Ls d : Nat} {q : Option ab_V → ab_W → Prop} {L S : List ab_V} {w : ab_W} : Ev Ls (Sm Ls d) q bk_L 21 L S w = ab_wb Ls (Sm Ls d) (Ev Ls (Sm Ls d) q bk_L) q 22 b_L_21 L S w := propext ⟨fun h => Ev.unfold (ab_Sm_mono d) h, fun h => Ev.fold (ab_Sm_mono d) h⟩
theorem ev_L_22 {Ls d : Nat} {q : Option ab_V → ab_W → Prop} {L S : List ab_V} {w : ab_W} : Ev Ls (Sm Ls d) q bk_L 22 L S w = ab_wb Ls (Sm Ls d) (Ev Ls (Sm Ls d) q bk_L) q 23 b_L_22 L S w := propext ⟨fun h => Ev.unfold (ab_Sm_mono d) h, fun h => Ev.fold (ab_Sm_mono d) h⟩
theorem ev_L_23 {Ls d : Nat} {q : Option ab_V → ab_W → Prop} {L S : List ab_V} {w : ab_W} : Ev Ls (Sm Ls d) q bk_L 23 L S w = ab_wb Ls (Sm Ls d) (Ev Ls (Sm Ls d) q bk_L) q 24 b_L_23 L S w := propext ⟨fun h => Ev.unfold (ab_Sm_mono d) h, fun h => Ev.fold (ab_Sm_mono d) h⟩
theorem ev_L_24 {Ls d : Nat} {q : Option ab_V → ab_W → Prop} {L S : List ab_V} {w : ab_W} : Ev Ls (Sm Ls d) q bk_L 24 L S w = ab_wb Ls (Sm Ls d) (Ev Ls (Sm Ls d) q bk_L) q 25 b_L_24 L S w := propext ⟨fun h => Ev.unfold (ab_Sm_mono d) h, fun h => Ev.fold (ab_Sm_mono d) h⟩
theorem ev_L_25 {Ls d : Nat} {q : Option ab_V → ab_W → Prop} {L S : List ab_V} {w : ab_W} : Ev Ls (Sm Ls d) q bk_L 25 L S w = ab_wb Ls (Sm Ls d) (Ev Ls (Sm Ls d) q bk_L) q 26 b_L_25 L S w := propext ⟨fun h => Ev.unfold (ab_Sm_mono d) h, fun h => Ev.fold (ab_Sm_mono d) h⟩
theorem ev_L_26 {Ls d : Nat} {q : Option ab_V → ab_W → Prop} {L S : List ab_V} {w : ab_W} : Ev Ls (Sm Ls d) q bk_L 26 L S w = ab_wb Ls (Sm Ls d) (Ev Ls (Sm Ls d) q bk_L) q 27 b_L_26 L S w := propext ⟨fun h => Ev.unfold (ab_Sm_mono d) h, fun h => Ev.fold (ab_Sm_mono d) h⟩
theorem ev_L_27 {Ls d : Nat} {q : Option ab_V → ab_W → Prop} {L S : List ab_V} {w : ab_W} : Ev Ls (Sm Ls d) q bk_L 27 L S w = ab_wb Ls (Sm Ls d) (Ev Ls (Sm Ls d) q bk_L) q 28 b_L_27 L S w := propext ⟨fun h => Ev.unfold (ab_Sm_mono d) h, fun h => Ev.fold (ab_Sm_mono d) h⟩
theorem ev_L_28 {Ls d : Nat} {q : Option ab_V → ab_W → Prop} {L S : List ab_V} {w : ab_W} : Ev Ls (Sm Ls d) q bk_L 28 L S w = ab_wb Ls (Sm Ls d) (Ev Ls (Sm Ls d) q bk_L) q 29 b_L_28 L S w := propext ⟨fun h => Ev.unfold (ab_Sm_mono d) h, fun h => Ev.fold (ab_Sm_mono d) h⟩
theorem ev_L_29 {Ls d : Nat} {q : Option ab_V → ab_W → Prop} {L S : List ab_V} {w : ab_W} : Ev Ls (Sm Ls d) q bk_L 29 L S w = ab_wb Ls (Sm Ls d) (Ev Ls (Sm Ls d) q bk_L) q 30 b_L_29 L S w := propext ⟨fun h => Ev.unfold (ab_Sm_mono d) h, fun h => Ev.fold (ab_Sm_mono d) h⟩
theorem ev_L_30 {Ls d : Nat} {q : Option ab_V → ab_W → Prop} {L S : List ab_V} {w : ab_W} : Ev Ls (Sm Ls d) q bk_L 30 L S w = ab_wb Ls (Sm Ls d) (Ev Ls (Sm Ls d) q bk_L) q 31 b_L_30 L S w := propext ⟨fun h => Ev.unfold (ab_Sm_mono d) h, fun h => Ev.fold (ab_Sm_mono d) h⟩
theorem ev_L_31 {Ls d : Nat} {q : Option ab_V → ab_W → Prop} {L S : List ab_V} {w : ab_W} : Ev Ls (Sm Ls d) q bk_L 31 L S w = ab_wb Ls (Sm Ls d) (Ev Ls (Sm Ls d) q bk_L) q 32 b_L_31 L S w := propext ⟨fun h => Ev.unfold (ab_Sm_mono d) h, fun h => Ev.fold (ab_Sm_mono d) h⟩
theorem ev_L_32 {Ls d : Nat} {q : Option ab_V → ab_W → Prop} {L S : List ab_V} {w : ab_W} : Ev Ls (Sm Ls d) q bk_L 32 L S w = ab_wb Ls (Sm Ls d) (Ev Ls (Sm Ls d) q bk_L) q 33 b_L_32 L S w := propext ⟨fun h => Ev.unfold (ab_Sm_mono d) h, fun h => Ev.fold (ab_Sm_mono d) h⟩
theorem ev_L_33 {Ls d : Nat} {q : Option ab_V → ab_W → Prop} {L S : List ab_V} {w : ab_W} : Ev Ls (Sm Ls d) q bk_L 33 L S w = ab_wb Ls (Sm Ls d) (Ev Ls (Sm Ls d) q bk_L) q 34 b_L_33 L S w := propext ⟨fun h => Ev.unfold (ab_Sm_mono d) h, fun h => Ev.fold (ab_Sm_mono d) h⟩
theorem ev_L_34 {Ls d : Nat} {q : Option ab_V → ab_W → Prop} {L S : List ab_V} {w : ab_W} : Ev Ls (Sm Ls d) q bk_L 34 L S w = ab_wb Ls (Sm Ls d) (Ev Ls (Sm Ls d) q bk_L) q 35 b_L_34 L S w := propext ⟨fun h => Ev.unfold (ab_Sm_mono d) h, fun h => Ev.fold (ab_Sm_mono d) h⟩
theorem ev_L_35 {Ls d : Nat} {q : Option ab_V → ab_W → Prop} {L S : List ab_V} {w : ab_W} : Ev Ls (Sm Ls d) q bk_L 35 L S w = ab_wb Ls (Sm Ls d) (Ev Ls (Sm Ls d) q bk_L) q 36 b_L_35 L S w := propext ⟨fun h => Ev.unfold (ab_Sm_mono d) h, fun h => Ev.fold (ab_Sm_mono d) h⟩
theorem ev_L_36 {Ls d : Nat} {q : Option ab_V → ab_W → Prop} {L S : List ab_V} {w : ab_W} : Ev Ls (Sm Ls d) q bk_L 36 L S w = ab_wb Ls (Sm Ls d) (Ev Ls (Sm Ls d) q bk_L) q 37 b_L_36 L S w := propext ⟨fun h => Ev.unfold (ab_Sm_mono d) h, fun h => Ev.fold (ab_Sm_mono d) h⟩
theorem ev_L_37 {Ls d : Nat} {q : Option ab_V → ab_W → Prop} {L S : List ab_V} {w : ab_W} : Ev Ls (Sm Ls d) q bk_L 37 L S w = ab_wb Ls (Sm Ls d) (Ev Ls (Sm Ls d) q bk_L) q 38 b_L_37 L S w := propext ⟨fun h => Ev.unfold (ab_Sm_mono d) h, fun h => Ev.fold (ab_Sm_mono d) h⟩
theorem ev_L_38 {Ls d : Nat} {q : Option ab_V → ab_W → Prop} {L S : List ab_V} {w : ab_W} : Ev Ls (Sm Ls d) q bk_L 38 L S w = ab_wb Ls (Sm Ls d) (Ev Ls (Sm Ls d) q bk_L) q 39 b_L_38 L S w := propext ⟨fun h => Ev.unfold (ab_Sm_mono d) h, fun h => Ev.fold (ab_Sm_mono d) h⟩
