/-! the printed program is the bytecode: tables of what its instructions link, each a word of the Statement's tables; a check by counting, and what it shows -/
def ab_own (oc : Nat) : String := match oc with
  | 0 => RX0
  | 1 => RX1
  | 2 => RX2
  | 3 => RX3
  | 4 => RX4
  | 5 => RX5
  | 6 => RL
  | 7 => RJ6
  | 8 => RJ13
  | 9 => RJ9
  | _ => RJ7
def ab_fls : List (Nat × Nat × Nat × Nat × Nat) := [(0, 9, 0, 0, 144), (0, 15, 0, 1, 146), (0, 18, 0, 2, 148), (0, 22, 0, 3, 149), (0, 25, 0, 4, 150), (0, 28, 0, 5, 152), (0, 32, 0, 6, 154), (0, 35, 0, 7, 156), (0, 44, 2, 1, 104), (0, 51, 2, 0, 102), (0, 66, 3, 3, 127), (0, 71, 3, 0, 119), (0, 74, 3, 1, 122), (0, 77, 3, 2, 124), (1, 9, 1, 0, 182), (1, 15, 1, 1, 184), (1, 19, 1, 2, 186), (1, 23, 1, 3, 188), (2, 9, 2, 0, 101), (2, 15, 2, 1, 103), (3, 9, 3, 0, 118), (3, 15, 3, 1, 121), (3, 18, 3, 2, 123), (3, 21, 3, 3, 126), (4, 12, 4, 0, 199), (4, 19, 4, 1, 200), (4, 23, 4, 2, 201), (4, 26, 4, 3, 202), (4, 32, 4, 4, 203), (4, 36, 4, 5, 204), (4, 39, 4, 6, 205), (4, 43, 4, 7, 206), (4, 47, 4, 8, 207), (4, 50, 4, 9, 208), (4, 55, 4, 10, 209), (4, 59, 4, 11, 210), (4, 63, 4, 12, 211), (4, 67, 2, 1, 105), (4, 95, 0, 0, 145), (4, 98, 0, 1, 147), (4, 105, 3, 3, 128), (4, 114, 1, 1, 185), (4, 121, 1, 3, 189), (4, 122, 1, 0, 183), (4, 151, 0, 4, 151), (4, 164, 0, 5, 153), (4, 206, 0, 6, 155), (4, 226, 3, 0, 120), (4, 229, 3, 2, 125), (4, 291, 1, 2, 187), (5, 7, 5, 1, 684), (5, 13, 5, 3, 686), (5, 16, 5, 4, 687), (5, 19, 5, 7, 690), (5, 22, 5, 8, 691), (5, 25, 5, 9, 692), (5, 28, 5, 12, 695), (5, 31, 5, 13, 696), (5, 34, 5, 14, 697), (5, 37, 5, 16, 699), (5, 40, 5, 17, 700), (5, 43, 5, 18, 701), (5, 46, 5, 19, 702), (5, 49, 5, 20, 703), (5, 52, 5, 21, 704), (5, 55, 5, 22, 705), (5, 58, 5, 23, 706), (5, 61, 5, 24, 707), (5, 64, 5, 25, 708), (5, 67, 5, 26, 709), (5, 70, 5, 28, 711), (5, 73, 5, 29, 712), (5, 76, 5, 30, 713), (5, 79, 5, 31, 714), (5, 82, 5, 32, 715), (5, 86, 5, 33, 716), (5, 89, 5, 34, 717), (5, 92, 5, 35, 718), (5, 95, 5, 36, 719), (5, 98, 5, 5, 688), (5, 108, 5, 0, 683), (5, 119, 5, 2, 685), (5, 152, 5, 6, 689), (5, 164, 5, 10, 693), (5, 167, 5, 11, 694), (5, 170, 5, 15, 698), (5, 262, 5, 27, 710), (5, 297, 5, 37, 720)]
def ab_mls : List (Nat × Nat × Nat × Nat) := [(0, 38, 27, 251), (0, 47, 29, 263), (0, 60, 3, 276), (0, 80, 10, 279), (0, 86, 12, 288), (0, 90, 5, 292), (0, 93, 13, 298), (0, 103, 15, 388), (0, 106, 1, 438), (0, 112, 14, 392), (0, 115, 18, 384), (0, 118, 20, 413), (0, 121, 19, 525), (1, 26, 4, 593), (2, 19, 28, 255), (2, 23, 29, 259), (4, 70, 26, 243), (4, 74, 6, 247), (4, 78, 40, 264), (4, 81, 27, 317), (4, 85, 92, 322), (4, 89, 93, 326), (4, 92, 97, 329), (4, 101, 96, 340), (4, 108, 30, 349), (4, 111, 98, 361), (4, 117, 100, 364), (4, 125, 41, 268), (4, 128, 9, 272), (4, 132, 11, 284), (4, 135, 94, 343), (4, 138, 14, 372), (4, 142, 16, 376), (4, 145, 19, 380), (4, 148, 15, 397), (4, 154, 46, 406), (4, 158, 21, 409), (4, 161, 20, 421), (4, 167, 49, 426), (4, 170, 17, 434), (4, 173, 52, 448), (4, 176, 4, 452), (4, 182, 7, 455), (4, 186, 53, 462), (4, 190, 8, 466), (4, 194, 12, 470), (4, 197, 55, 471), (4, 207, 59, 489), (4, 210, 60, 493), (4, 213, 58, 506), (4, 217, 61, 497), (4, 220, 62, 501), (4, 223, 18, 505), (4, 232, 95, 346), (4, 235, 22, 521), (4, 239, 67, 530), (4, 242, 68, 534), (4, 245, 70, 542), (4, 248, 71, 546), (4, 256, 0, 556), (4, 261, 74, 562), (4, 265, 73, 566), (4, 269, 76, 574), (4, 273, 77, 578), (4, 277, 99, 586), (4, 280, 23, 589), (4, 283, 82, 602), (4, 287, 24, 605), (4, 294, 25, 618), (4, 303, 86, 631), (4, 306, 47, 635), (4, 309, 87, 636), (4, 316, 85, 646), (4, 319, 34, 647), (4, 322, 89, 648), (4, 326, 90, 655), (4, 329, 91, 663), (4, 332, 45, 672), (4, 335, 48, 673), (4, 338, 57, 674), (4, 341, 65, 675), (4, 344, 75, 676), (4, 351, 42, 654), (4, 354, 35, 659), (4, 357, 44, 660), (4, 360, 66, 661), (4, 363, 69, 662), (4, 366, 43, 667), (4, 369, 50, 668), (4, 372, 54, 669), (4, 375, 56, 670), (4, 378, 72, 671), (5, 104, 101, 803), (5, 111, 112, 830), (5, 115, 113, 826), (5, 122, 114, 822), (5, 125, 115, 818), (5, 129, 116, 842), (5, 132, 118, 838), (5, 136, 106, 846), (5, 139, 107, 849), (5, 142, 119, 852), (5, 146, 108, 864), (5, 149, 105, 867), (5, 155, 178, 878), (5, 158, 177, 881), (5, 161, 122, 885), (5, 173, 102, 914), (5, 177, 127, 921), (5, 180, 128, 925), (5, 184, 126, 910), (5, 187, 129, 917), (5, 191, 130, 929), (5, 194, 131, 906), (5, 198, 125, 898), (5, 201, 132, 902), (5, 204, 133, 894), (5, 207, 134, 890), (5, 210, 136, 937), (5, 213, 138, 945), (5, 216, 140, 961), (5, 219, 141, 957), (5, 222, 142, 953), (5, 225, 144, 973), (5, 228, 145, 969), (5, 231, 147, 981), (5, 234, 149, 989), (5, 237, 152, 1001), (5, 240, 151, 1004), (5, 244, 153, 997), (5, 247, 155, 1012), (5, 250, 157, 1020), (5, 253, 159, 1032), (5, 256, 160, 1028), (5, 259, 161, 1036), (5, 265, 165, 1056), (5, 269, 166, 1052), (5, 272, 168, 1064), (5, 275, 169, 1068), (5, 278, 171, 1076), (5, 281, 104, 1088), (5, 285, 173, 1084), (5, 289, 103, 1091), (5, 294, 175, 1099), (5, 300, 181, 1116), (5, 303, 182, 1120), (5, 308, 189, 1141), (5, 311, 187, 1145), (5, 314, 188, 1149), (5, 319, 191, 1164), (5, 323, 192, 1168), (5, 328, 190, 1159), (5, 331, 193, 1160), (6, 13, 31, 239), (6, 17, 109, 799), (6, 18, 32, 305), (6, 22, 110, 806), (6, 23, 33, 309), (6, 26, 111, 810), (6, 27, 34, 313), (6, 30, 117, 814), (6, 31, 35, 318), (6, 35, 120, 834), (6, 36, 36, 332), (6, 39, 121, 856), (6, 40, 37, 336), (6, 43, 122, 860), (6, 44, 38, 353), (6, 47, 123, 870), (6, 48, 39, 357), (6, 51, 124, 874), (6, 52, 42, 368), (6, 55, 135, 886), (6, 56, 43, 393), (6, 59, 137, 933), (6, 60, 44, 398), (6, 64, 139, 941), (6, 65, 45, 402), (6, 68, 143, 949), (6, 69, 47, 417), (6, 72, 146, 965), (6, 73, 48, 422), (6, 76, 148, 977), (6, 77, 50, 430), (6, 80, 150, 985), (6, 81, 51, 444), (6, 84, 154, 993), (6, 85, 54, 474), (6, 88, 156, 1008), (6, 89, 56, 481), (6, 92, 158, 1016), (6, 93, 57, 485), (6, 96, 162, 1024), (6, 97, 63, 509), (6, 100, 163, 1040), (6, 101, 64, 513), (6, 104, 164, 1044), (6, 105, 65, 517), (6, 108, 167, 1048), (6, 109, 66, 526), (6, 112, 170, 1060), (6, 113, 69, 538), (6, 116, 172, 1072), (6, 117, 72, 551), (6, 121, 174, 1080), (6, 122, 75, 570), (6, 125, 176, 1095), (6, 126, 78, 582), (6, 129, 179, 1104), (6, 130, 79, 594), (6, 133, 180, 1108), (6, 134, 80, 598), (6, 138, 183, 1112), (6, 139, 81, 609), (6, 142, 184, 1124), (6, 143, 83, 614), (6, 147, 185, 1129), (6, 148, 84, 623), (6, 151, 186, 1133), (6, 152, 85, 627), (6, 155, 190, 1137), (6, 156, 88, 640), (6, 160, 194, 1153), (10, 13, 2, 295)]
def ab_kis : List (Nat × Nat × Int × Nat) := [(4, 276, 1103515245, 581), (4, 290, -2147483648, 613), (5, 293, 1103515245, 1103), (5, 307, -2147483648, 1128), (7, 265, 1431655765, 559), (7, 266, 858993459, 560), (7, 267, 252645135, 561)]
def ab_kls : List (Nat × Nat × Int × Nat) := [(0, 84, 7, 283), (4, 254, -9223372036854775806, 555), (4, 312, 17, 644), (4, 314, 31, 645), (5, 102, -9223372036854775808, 1094), (5, 317, 31, 1158), (5, 326, 17, 1157), (8, 314, 6148914691236517205, 441), (8, 316, 3689348814741910323, 442), (8, 318, 1085102592571150095, 443)]
def ab_acs : List (Nat × Nat × Nat) := [(0, 54, 459), (4, 297, 622)]
def ab_mxs : List (Nat × Nat × Nat) := [(0, 97, 302), (4, 251, 550)]
def ab_mns : List (Nat × Nat × Nat) := [(4, 201, 478)]
def ab_gst : List (Nat × Nat × Nat) := [(4, 348, 652)]
/-- of each method: the places of its words code, initialized, static or (instanceMethod, selects) -/
def ab_mps : List (Nat × Nat × Nat × Nat × Nat) := [(7, 558, 86, 557, 0), (8, 440, 84, 439, 0), (10, 297, 82, 296, 0), (10, 278, 82, 277, 0), (10, 454, 82, 453, 0), (10, 294, 82, 293, 0), (0, 250, 79, 248, 249), (0, 458, 79, 456, 457), (0, 469, 79, 467, 468), (0, 275, 79, 273, 274), (0, 282, 79, 281, 3), (0, 287, 79, 285, 286), (0, 291, 79, 289, 290), (0, 301, 79, 300, 4), (0, 375, 79, 373, 374), (0, 391, 79, 389, 390), (0, 379, 79, 377, 378), (0, 437, 79, 435, 436), (0, 387, 79, 385, 386), (0, 383, 79, 381, 382), (0, 416, 79, 414, 415), (0, 412, 79, 410, 411), (0, 524, 79, 522, 523), (1, 592, 80, 590, 591), (1, 608, 80, 606, 607), (1, 621, 80, 619, 620), (2, 246, 77, 244, 245), (2, 254, 77, 252, 253), (2, 258, 77, 257, 0), (2, 262, 77, 260, 261), (3, 352, 78, 350, 351), (4, 242, 76, 240, 241), (4, 308, 76, 306, 307), (4, 312, 76, 310, 311), (4, 316, 76, 314, 315), (4, 321, 76, 319, 320), (4, 335, 76, 333, 334), (4, 339, 76, 337, 338), (4, 356, 76, 354, 355), (4, 360, 76, 358, 359), (4, 267, 76, 266, 1), (4, 271, 76, 270, 2), (4, 371, 76, 369, 370), (4, 396, 76, 394, 395), (4, 401, 76, 399, 400), (4, 405, 76, 403, 404), (4, 408, 76, 407, 0), (4, 420, 76, 418, 419), (4, 425, 76, 423, 424), (4, 429, 76, 428, 7), (4, 433, 76, 431, 432), (4, 447, 76, 445, 446), (4, 451, 76, 450, 8), (4, 465, 76, 464, 9), (4, 477, 76, 475, 476), (4, 473, 76, 472, 0), (4, 484, 76, 482, 483), (4, 488, 76, 486, 487), (4, 508, 76, 507, 0), (4, 492, 76, 491, 10), (4, 496, 76, 495, 11), (4, 500, 76, 499, 12), (4, 504, 76, 503, 13), (4, 512, 76, 510, 511), (4, 516, 76, 514, 515), (4, 520, 76, 518, 519), (4, 529, 76, 527, 528), (4, 533, 76, 532, 14), (4, 537, 76, 536, 15), (4, 541, 76, 539, 540), (4, 545, 76, 544, 16), (4, 549, 76, 548, 17), (4, 554, 76, 552, 553), (4, 569, 76, 568, 19), (4, 565, 76, 564, 18), (4, 573, 76, 571, 572), (4, 577, 76, 576, 20), (4, 580, 76, 579, 0), (4, 585, 76, 583, 584), (4, 597, 76, 595, 596), (4, 601, 76, 599, 600), (4, 612, 76, 610, 611), (4, 604, 76, 603, 0), (4, 617, 76, 615, 616), (4, 626, 76, 624, 625), (4, 630, 76, 628, 629), (4, 634, 76, 633, 21), (4, 639, 76, 638, 22), (4, 643, 76, 641, 642), (4, 651, 76, 650, 23), (4, 658, 76, 657, 24), (4, 666, 76, 665, 25), (4, 325, 76, 324, 5), (4, 328, 76, 327, 0), (4, 345, 76, 344, 0), (4, 348, 76, 347, 0), (4, 342, 76, 341, 0), (4, 331, 76, 330, 0), (4, 363, 76, 362, 0), (4, 588, 76, 587, 0), (4, 367, 76, 366, 6), (5, 805, 81, 804, 0), (5, 916, 81, 915, 0), (5, 1093, 81, 1092, 0), (5, 1090, 81, 1089, 0), (5, 869, 81, 868, 0), (5, 848, 81, 847, 0), (5, 851, 81, 850, 0), (5, 866, 81, 865, 0), (5, 802, 81, 800, 801), (5, 809, 81, 807, 808), (5, 813, 81, 811, 812), (5, 833, 81, 832, 29), (5, 829, 81, 828, 28), (5, 825, 81, 824, 27), (5, 821, 81, 820, 26), (5, 845, 81, 844, 31), (5, 817, 81, 815, 816), (5, 841, 81, 840, 30), (5, 855, 81, 854, 32), (5, 837, 81, 835, 836), (5, 859, 81, 857, 858), (5, 863, 81, 861, 862), (5, 873, 81, 871, 872), (5, 877, 81, 875, 876), (5, 901, 81, 900, 36), (5, 913, 81, 912, 39), (5, 924, 81, 923, 41), (5, 928, 81, 927, 42), (5, 920, 81, 919, 40), (5, 932, 81, 931, 43), (5, 909, 81, 908, 38), (5, 905, 81, 904, 37), (5, 897, 81, 896, 35), (5, 893, 81, 892, 34), (5, 889, 81, 887, 888), (5, 940, 81, 939, 44), (5, 936, 81, 934, 935), (5, 948, 81, 947, 45), (5, 944, 81, 942, 943), (5, 964, 81, 963, 48), (5, 960, 81, 959, 47), (5, 956, 81, 955, 46), (5, 952, 81, 950, 951), (5, 976, 81, 975, 50), (5, 972, 81, 971, 49), (5, 968, 81, 966, 967), (5, 984, 81, 983, 51), (5, 980, 81, 978, 979), (5, 992, 81, 991, 52), (5, 988, 81, 986, 987), (5, 1007, 81, 1006, 54), (5, 1003, 81, 1002, 0), (5, 1000, 81, 999, 53), (5, 996, 81, 994, 995), (5, 1015, 81, 1014, 55), (5, 1011, 81, 1009, 1010), (5, 1023, 81, 1022, 56), (5, 1019, 81, 1017, 1018), (5, 1035, 81, 1034, 58), (5, 1031, 81, 1030, 57), (5, 1039, 81, 1038, 59), (5, 1027, 81, 1025, 1026), (5, 1043, 81, 1041, 1042), (5, 1047, 81, 1045, 1046), (5, 1059, 81, 1058, 61), (5, 1055, 81, 1054, 60), (5, 1051, 81, 1049, 1050), (5, 1067, 81, 1066, 62), (5, 1071, 81, 1070, 63), (5, 1063, 81, 1061, 1062), (5, 1079, 81, 1078, 64), (5, 1075, 81, 1073, 1074), (5, 1087, 81, 1086, 65), (5, 1083, 81, 1081, 1082), (5, 1102, 81, 1101, 66), (5, 1098, 81, 1096, 1097), (5, 884, 81, 883, 33), (5, 880, 81, 879, 0), (5, 1107, 81, 1105, 1106), (5, 1111, 81, 1109, 1110), (5, 1119, 81, 1118, 67), (5, 1123, 81, 1122, 68), (5, 1115, 81, 1113, 1114), (5, 1127, 81, 1125, 1126), (5, 1132, 81, 1130, 1131), (5, 1136, 81, 1134, 1135), (5, 1148, 81, 1147, 70), (5, 1152, 81, 1151, 71), (5, 1144, 81, 1143, 69), (5, 1140, 81, 1138, 1139), (5, 1167, 81, 1166, 73), (5, 1171, 81, 1170, 74), (5, 1163, 81, 1162, 72), (5, 1156, 81, 1154, 1155)]
def ab_wd (i : Nat) (w : Cond) : Bool := decide (lw_tbl[i]? = some w) && goodWord w
theorem ab_wd_ok {i : Nat} {w : Cond} (h : ab_wd i w = true) : w ∈ ab_TB := by
  unfold ab_wd at h
  simp only [Bool.and_eq_true, decide_eq_true_eq] at h
  exact List.mem_filter.mpr ⟨List.mem_of_getElem? h.1, h.2⟩
def ab_fq (q : Nat × Nat × Nat × Nat × Nat) : Bool := match ab_cl[q.2.2.1]? with
  | some (_, T, N) => decide (q.2.2.2.1 < N) && ab_wd q.2.2.2.2 (.fieldLink (ab_own q.1) q.2.1 (T q.2.2.2.1).1 (T q.2.2.2.1).2.1 (T q.2.2.2.1).2.2.1)
  | none => false
set_option maxRecDepth 100000 in
theorem ab_fls_ok : ab_fls.all ab_fq = true := by decide +kernel
def ab_mq (q : Nat × Nat × Nat × Nat) : Bool := match ab_mt q.2.2.1 with
  | some r => ab_wd q.2.2.2 (.methodLink (ab_own q.1) q.2.1 r.1)
  | none => false
set_option maxRecDepth 100000 in
theorem ab_mls_ok : ab_mls.all ab_mq = true := by decide +kernel
set_option maxRecDepth 100000 in
theorem ab_kis_ok : (ab_kis.all fun q => decide (-2147483648 ≤ q.2.2.1) && decide (q.2.2.1 < 2147483648) && ab_wd q.2.2.2 (.constant (ab_own q.1) q.2.1 (Int32.ofInt q.2.2.1))) = true := by decide +kernel
set_option maxRecDepth 100000 in
theorem ab_kls_ok : (ab_kls.all fun q => decide (-9223372036854775808 ≤ q.2.2.1) && decide (q.2.2.1 < 9223372036854775808) && ab_wd q.2.2.2 (.constantLong (ab_own q.1) q.2.1 (Int64.ofInt q.2.2.1))) = true := by decide +kernel
set_option maxRecDepth 100000 in
theorem ab_acs_ok : (ab_acs.all fun q => ab_wd q.2.2 (.methodLink (ab_own q.1) q.2.1 arraycopyName)) = true := by decide +kernel
set_option maxRecDepth 100000 in
theorem ab_mxs_ok : (ab_mxs.all fun q => ab_wd q.2.2 (.methodLink (ab_own q.1) q.2.1 Lib.Math.max.name)) = true := by decide +kernel
set_option maxRecDepth 100000 in
theorem ab_mns_ok : (ab_mns.all fun q => ab_wd q.2.2 (.methodLink (ab_own q.1) q.2.1 Lib.Math.min.name)) = true := by decide +kernel
set_option maxRecDepth 100000 in
theorem ab_gst_ok : (ab_gst.all fun q => ab_wd q.2.2 (.fieldLink (ab_own q.1) q.2.1 "RelayRace" "DIGEST_MOMENTS" "[I")) = true := by decide +kernel
def ab_moq (k : Nat) : Bool := match ab_MT[k]?, ab_mps[k]? with
  | some r, some q => ab_wd q.2.1 (ab_cw r) && ab_wd q.2.2.1 (.initialized r.1.cls) && decide (r.1.cls ≠ "java/lang/invoke/MethodHandle" ∧ r.1.cls ≠ "java/lang/invoke/VarHandle" ∧ (parseMethodDescriptor r.1.desc).map (fun d => d.parameters.length) = some r.2.2.2.2.1) && decide (r.2.2.1 ≤ 23) && plainName r.1.cls && decide (ab_own q.1 = r.1.cls) &&
    (if r.2.2.2.2.2 = true then ab_wd q.2.2.2.1 (.static r.1) else ab_wd q.2.2.2.1 (.instanceMethod r.1) && ab_wd q.2.2.2.2 (.selects r.1.cls r.1 r.1))
  | _, _ => false
-- the check of an instruction
def ab_tq (pcs : List Nat) (pc b : Nat) (off : Int) : Bool := match pcs[b]? with
  | some t => decide ((pc : Int) + off = (t : Int))
  | none => false
theorem ab_tq_ok {pcs : List Nat} {pc b : Nat} {off : Int} (h : ab_tq pcs pc b off = true) : ∃ t : Nat, pcs[b]? = some t ∧ (pc : Int) + off = (t : Int) := by
  unfold ab_tq at h
  split at h
  next t e => exact ⟨t, e, of_decide_eq_true h⟩
  next => cases h
def ab_isb (ci k b : Nat) : Bool := match ab_cl[ci]? with
  | some (_, T, _) => decide ((T k).2.2.2 = false) && ((decide (b = 0) && decide ((T k).2.2.1 = "I")) || (decide (b = 1) && decide ((T k).2.2.1 = "Z")))
  | none => false
def ab_q (oc : Nat) (rt : Option FieldType) (nL : Nat) (pcs : List Nat) (pc : Nat) (op : Instr) (ex : List Nat) (z : Int) : Bool := match op with
  | .iconst n => decide (-2147483648 ≤ n) && decide (n < 2147483648)
  | .bipush n => decide (-128 ≤ n) && decide (n ≤ 127)
  | .sipush n => decide (-32768 ≤ n) && decide (n ≤ 32767)
  | .ldc i => ab_kis.any fun q => decide (q.1 = oc) && decide (q.2.1 = i) && decide (q.2.2.1 = z)
  | .ldc_w i => ab_kis.any fun q => decide (q.1 = oc) && decide (q.2.1 = i) && decide (q.2.2.1 = z)
  | .ldc2_w i => ab_kls.any fun q => decide (q.1 = oc) && decide (q.2.1 = i) && decide (q.2.2.1 = z)
  | .istore n => decide (n < nL)
  | .istore_n n => decide (n.val < nL)
  | .astore n => decide (n < nL)
  | .astore_n n => decide (n.val < nL)
  | .lstore n => decide (n + 1 < nL)
  | .lstore_n n => decide (n.val + 1 < nL)
  | .iinc n c => decide (n < nL) && decide (-2147483648 ≤ c) && decide (c < 2147483648)
  | .ifCond _ off => ab_tq pcs pc (ex.headD 0) off
  | .if_icmp _ off => ab_tq pcs pc (ex.headD 0) off
  | .goto off => ab_tq pcs pc (ex.headD 0) off
  | .tableswitch d lo hi offs => ab_tq pcs pc (ex.headD 0) d && decide (hi = lo + offs.size - 1) && decide (ex.tail.length = offs.size) && (List.range ex.tail.length).all (fun j => match ex.tail[j]?, offs[j]? with | some b, some off => ab_tq pcs pc b off | _, _ => false)
  | .lookupswitch d ps => ab_tq pcs pc (ex.headD 0) d && (ps.toList.zip (ps.toList.drop 1)).all (fun (a, next) => a.1 < next.1) && decide (ex.tail.length = ps.toList.length) && (List.range ex.tail.length).all (fun j => match ex.tail[j]?, ps.toList[j]? with | some b, some q => ab_tq pcs pc b q.2 | _, _ => false)
  | .ireturn => (decide (rt = some .int) && decide (ex = [0])) || (decide (rt = some .boolean) && decide (ex = [1]))
  | .lreturn => decide (rt = some .long)
  | .return_ => decide (rt = none)
  | .getfield i => (match ex with | [ci, k] => ab_fls.any (fun q => decide (q.1 = oc) && decide (q.2.1 = i) && decide (q.2.2.1 = ci) && decide (q.2.2.2.1 = k)) | _ => false)
  | .putfield i => (match ex with | [ci, k, b] => ab_fls.any (fun q => decide (q.1 = oc) && decide (q.2.1 = i) && decide (q.2.2.1 = ci) && decide (q.2.2.2.1 = k)) && ab_isb ci k b | _ => false)
  | .getstatic i => ab_gst.any (fun q => decide (q.1 = oc) && decide (q.2.1 = i))
  | .invokevirtual i => (match ex with | [k, n, ci] => ab_mls.any (fun q => decide (q.1 = oc) && decide (q.2.1 = i) && decide (q.2.2.1 = k)) && (match ab_mt k, ab_cl[ci]? with | some r, some c => decide (r.2.2.2.2.2 = false) && decide (n = r.2.2.2.2.1 + 1) && decide (c.1 = r.1.cls) | _, _ => false) | _ => false)
  | .invokestatic i => (match ex with | [] => ab_acs.any (fun q => decide (q.1 = oc) && decide (q.2.1 = i)) | [1] => ab_mxs.any (fun q => decide (q.1 = oc) && decide (q.2.1 = i)) | [2] => ab_mns.any (fun q => decide (q.1 = oc) && decide (q.2.1 = i)) | [k, n, _] => ab_mls.any (fun q => decide (q.1 = oc) && decide (q.2.1 = i) && decide (q.2.2.1 = k)) && (match ab_mt k with | some r => decide (r.2.2.2.2.2 = true) && decide (n = r.2.2.2.2.1) | _ => false) | _ => false)
  | _ => true
theorem ab_fls_mem {oc i ci k : Nat} (h : ab_fls.any (fun q => decide (q.1 = oc) && decide (q.2.1 = i) && decide (q.2.2.1 = ci) && decide (q.2.2.2.1 = k)) = true) : ∃ (C : String) (T : u_T) (N : Nat), ab_cl[ci]? = some (C, T, N) ∧ k < N ∧ Cond.fieldLink (ab_own oc) i (T k).1 (T k).2.1 (T k).2.2.1 ∈ ab_TB := by
  obtain ⟨q, hq, h⟩ := List.any_eq_true.mp h
  simp only [Bool.and_eq_true, decide_eq_true_eq] at h
  obtain ⟨⟨⟨rfl, rfl⟩, rfl⟩, rfl⟩ := h
  have h1 := List.all_eq_true.mp ab_fls_ok q hq
  unfold ab_fq at h1
  split at h1
  next C T N e =>
    simp only [Bool.and_eq_true, decide_eq_true_eq] at h1
    exact ⟨C, T, N, e, h1.1, ab_wd_ok h1.2⟩
  next => cases h1
theorem ab_mls_mem {oc i k : Nat} {r : ab_M} (h : ab_mls.any (fun q => decide (q.1 = oc) && decide (q.2.1 = i) && decide (q.2.2.1 = k)) = true) (hr : ab_mt k = some r) : Cond.methodLink (ab_own oc) i r.1 ∈ ab_TB := by
  obtain ⟨q, hq, h⟩ := List.any_eq_true.mp h
  simp only [Bool.and_eq_true, decide_eq_true_eq] at h
  obtain ⟨⟨rfl, rfl⟩, rfl⟩ := h
  have h1 := List.all_eq_true.mp ab_mls_ok q hq
  unfold ab_mq at h1
  rw [hr] at h1
  exact ab_wd_ok h1
theorem ab_kis_mem {oc i : Nat} {z : Int} (h : (ab_kis.any fun q => decide (q.1 = oc) && decide (q.2.1 = i) && decide (q.2.2.1 = z)) = true) : ab_r32 z ∧ Cond.constant (ab_own oc) i (Int32.ofInt z) ∈ ab_TB := by
  obtain ⟨q, hq, h⟩ := List.any_eq_true.mp h
  simp only [Bool.and_eq_true, decide_eq_true_eq] at h
  obtain ⟨⟨rfl, rfl⟩, rfl⟩ := h
  have h1 := List.all_eq_true.mp ab_kis_ok q hq
  simp only [Bool.and_eq_true, decide_eq_true_eq] at h1
  exact ⟨⟨h1.1.1, h1.1.2⟩, ab_wd_ok h1.2⟩
theorem ab_kls_mem {oc i : Nat} {z : Int} (h : (ab_kls.any fun q => decide (q.1 = oc) && decide (q.2.1 = i) && decide (q.2.2.1 = z)) = true) : ab_r64 z ∧ Cond.constantLong (ab_own oc) i (Int64.ofInt z) ∈ ab_TB := by
  obtain ⟨q, hq, h⟩ := List.any_eq_true.mp h
  simp only [Bool.and_eq_true, decide_eq_true_eq] at h
  obtain ⟨⟨rfl, rfl⟩, rfl⟩ := h
  have h1 := List.all_eq_true.mp ab_kls_ok q hq
  simp only [Bool.and_eq_true, decide_eq_true_eq] at h1
  exact ⟨⟨h1.1.1, h1.1.2⟩, ab_wd_ok h1.2⟩
theorem ab_q_ok {oc : Nat} {rt : Option FieldType} {nL : Nat} {pcs : List Nat} {pc : Nat} {op : Instr} {ex : List Nat} {z : Int} (h : ab_q oc rt nL pcs pc op ex z = true) : ab_ck ab_mt (ab_own oc) rt nL pcs pc op ex z := by
  cases op <;> first | trivial | skip
  case iconst n => simpa [ab_q, ab_ck, ab_r32] using h
  case bipush n => simpa [ab_q, ab_ck] using h
  case sipush n => simpa [ab_q, ab_ck] using h
  case ldc i => exact ab_kis_mem h
  case ldc_w i => exact ab_kis_mem h
  case ldc2_w i => exact ab_kls_mem h
  case istore n => simpa [ab_q, ab_ck] using h
  case istore_n n => simpa [ab_q, ab_ck] using h
  case astore n => simpa [ab_q, ab_ck] using h
  case astore_n n => simpa [ab_q, ab_ck] using h
  case lstore n => simpa [ab_q, ab_ck] using h
  case lstore_n n => simpa [ab_q, ab_ck] using h
  case iinc n c =>
    simp only [ab_q, Bool.and_eq_true, decide_eq_true_eq] at h
    exact ⟨h.1.1, h.1.2, h.2⟩
  case ifCond k off => exact ab_tq_ok h
  case if_icmp k off => exact ab_tq_ok h
  case goto off => exact ab_tq_ok h
  case tableswitch d lo hi offs =>
    simp only [ab_q, Bool.and_eq_true, decide_eq_true_eq] at h
    exact ⟨ab_tq_ok h.1.1.1, h.1.1.2, h.1.2, fun j b off h1 h2 => by
      have h3 := List.all_eq_true.mp h.2 j (List.mem_range.mpr (List.getElem?_eq_some_iff.mp h1).1)
      simp only [h1, h2] at h3
      exact ab_tq_ok h3⟩
  case lookupswitch d ps =>
    simp only [ab_q, Bool.and_eq_true, decide_eq_true_eq] at h
    exact ⟨ab_tq_ok h.1.1.1, h.1.1.2, h.1.2, fun j b q h1 h2 => by
      have h3 := List.all_eq_true.mp h.2 j (List.mem_range.mpr (List.getElem?_eq_some_iff.mp h1).1)
      simp only [h1, h2] at h3
      exact ab_tq_ok h3⟩
  case ireturn => simpa [ab_q, ab_ck] using h
  case lreturn => simpa [ab_q, ab_ck] using h
  case return_ => simpa [ab_q, ab_ck] using h
  case getfield i =>
    dsimp only [ab_q] at h
    split at h
    · rename_i ci k
      obtain ⟨C, T, N, h1, h2, h3⟩ := ab_fls_mem h
      exact ⟨ci, k, C, T, N, rfl, h1, h2, h3⟩
    · cases h
  case putfield i =>
    dsimp only [ab_q] at h
    split at h
    · rename_i ci k b
      rw [Bool.and_eq_true] at h
      obtain ⟨C, T, N, h1, h2, h3⟩ := ab_fls_mem h.1
      have h4 := h.2
      unfold ab_isb at h4
      rw [h1] at h4
      simp only [Bool.and_eq_true, Bool.or_eq_true, decide_eq_true_eq] at h4
      exact ⟨ci, k, b, C, T, N, rfl, h1, h2, h3, h4.1, h4.2⟩
    · cases h
  case getstatic i =>
    dsimp only [ab_q] at h
    obtain ⟨q, hq, h⟩ := List.any_eq_true.mp h
    simp only [Bool.and_eq_true, decide_eq_true_eq] at h
    obtain ⟨rfl, rfl⟩ := h
    exact ab_wd_ok (List.all_eq_true.mp ab_gst_ok q hq)
  case invokevirtual i =>
    dsimp only [ab_q] at h
    split at h
    · rename_i k n ci
      rw [Bool.and_eq_true] at h
      obtain ⟨h1, h2⟩ := h
      split at h2
      · rename_i r c e1 e2
        simp only [Bool.and_eq_true, decide_eq_true_eq] at h2
        exact ⟨k, n, ci, r, c, rfl, e1, h2.1.1, h2.1.2, ab_mls_mem h1 e1, e2, h2.2⟩
      · cases h2
    · cases h
  case invokestatic i =>
    dsimp only [ab_q] at h
    split at h
    · obtain ⟨q, hq, h⟩ := List.any_eq_true.mp h
      simp only [Bool.and_eq_true, decide_eq_true_eq] at h
      obtain ⟨rfl, rfl⟩ := h
      exact Or.inl ⟨rfl, ab_wd_ok (List.all_eq_true.mp ab_acs_ok q hq)⟩
    · obtain ⟨q, hq, h⟩ := List.any_eq_true.mp h
      simp only [Bool.and_eq_true, decide_eq_true_eq] at h
      obtain ⟨rfl, rfl⟩ := h
      exact Or.inr (Or.inl ⟨rfl, ab_wd_ok (List.all_eq_true.mp ab_mxs_ok q hq)⟩)
    · obtain ⟨q, hq, h⟩ := List.any_eq_true.mp h
      simp only [Bool.and_eq_true, decide_eq_true_eq] at h
      obtain ⟨rfl, rfl⟩ := h
      exact Or.inr (Or.inr (Or.inl ⟨rfl, ab_wd_ok (List.all_eq_true.mp ab_mns_ok q hq)⟩))
    · rename_i k n ci
      rw [Bool.and_eq_true] at h
      obtain ⟨h1, h2⟩ := h
      split at h2
      · rename_i r e1
        simp only [Bool.and_eq_true, decide_eq_true_eq] at h2
        exact Or.inr (Or.inr (Or.inr ⟨k, n, ci, r, rfl, e1, h2.1, h2.2, ab_mls_mem h1 e1⟩))
      · cases h2
    · cases h
def ab_qb (oc : Nat) (cc : ByteArray) (rt : Option FieldType) (nL : Nat) (pcs : List Nat) (nx : Nat) : Nat → List ab_I → Bool
  | pc, [] => decide (pcs[nx]? = some pc)
  | pc, i :: is => decide (i.1 = .athrow) || (match decode cc pc with
    | .ok (op, n) => decide (op = i.1) && (decide (ab_ln i.1 = 0) || decide (n = ab_ln i.1)) && ab_q oc rt nL pcs pc i.1 i.2.1 i.2.2 && (ab_stop i.1 || ab_qb oc cc rt nL pcs nx (pc + ab_ln i.1) is)
    | .error _ => false)
theorem ab_qb_ok {oc : Nat} {cc : ByteArray} {rt : Option FieldType} {nL : Nat} {pcs : List Nat} {nx : Nat} : ∀ (is : List ab_I) (pc : Nat), ab_qb oc cc rt nL pcs nx pc is = true → ab_ckb ab_mt (ab_own oc) cc rt nL pcs nx pc is := by
  intro is
  induction is with
  | nil => exact fun pc h => by simpa [ab_qb, ab_ckb] using h
  | cons i is ih =>
    intro pc h
    unfold ab_qb at h
    rw [Bool.or_eq_true] at h
    rcases h with h | h
    · exact Or.inl (of_decide_eq_true h)
    · refine Or.inr ?_
      split at h
      · rename_i op n e
        simp only [Bool.and_eq_true, Bool.or_eq_true, decide_eq_true_eq] at h
        obtain ⟨⟨⟨rfl, h2⟩, h3⟩, h4⟩ := h
        refine ⟨n, e, h2, ab_q_ok h3, ?_⟩
        rcases h4 with h4 | h4
        · exact Or.inl h4
        · exact Or.inr (ih _ h4)
      · cases h
def ab_qm (oc : Nat) (cc : ByteArray) (rt : Option FieldType) (nL : Nat) (pcs : List Nat) (bl : List (List ab_I)) : Bool := decide (pcs[0]? = some 0) && (List.range bl.length).all fun b => match bl[b]?, pcs[b]? with
  | some is, some pc => ab_qb oc cc rt nL pcs (b + 1) pc is
  | _, _ => false
theorem ab_qm_ok {oc : Nat} {cc : ByteArray} {rt : Option FieldType} {nL : Nat} {pcs : List Nat} {bl : List (List ab_I)} (h : ab_qm oc cc rt nL pcs bl = true) : ab_ckm ab_mt (ab_own oc) cc rt nL pcs bl := by
  unfold ab_qm at h
  rw [Bool.and_eq_true] at h
  refine ⟨of_decide_eq_true h.1, fun b is hb => ?_⟩
  have h1 := List.all_eq_true.mp h.2 b (List.mem_range.mpr (List.getElem?_eq_some_iff.mp hb).1)
  simp only [hb] at h1
  split at h1
  · rename_i is' pc e1 e2
    cases e1
    exact ⟨pc, e2, ab_qb_ok _ _ h1⟩
  · cases h1
