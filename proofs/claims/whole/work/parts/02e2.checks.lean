def pg_zp : List (Nat × Nat × Nat) := [(63, 79, 0), (63, 397, 398), (63, 416, 417), (63, 424, 425), (63, 432, 433), (63, 444, 445), (63, 452, 453), (63, 536, 537), (63, 541, 542), (63, 545, 546), (63, 549, 550), (63, 553, 554), (63, 557, 558), (63, 640, 641), (63, 644, 645), (63, 652, 653), (63, 656, 657), (63, 699, 700), (63, 707, 708), (63, 713, 714), (63, 717, 718), (63, 401, 0), (63, 405, 0), (63, 409, 1), (63, 457, 2), (72, 762, 0), (72, 884, 36), (72, 892, 37), (72, 904, 38), (72, 879, 880), (72, 887, 888), (72, 895, 896), (72, 899, 900), (72, 907, 908), (72, 924, 41), (72, 920, 40), (72, 965, 47), (72, 933, 43), (72, 941, 45), (72, 937, 44), (72, 929, 42), (72, 916, 39), (72, 911, 912), (72, 944, 945), (72, 948, 949), (72, 957, 46), (72, 952, 953), (72, 960, 961), (72, 973, 48), (72, 968, 969), (72, 981, 49), (72, 985, 50), (72, 993, 52), (72, 997, 53), (72, 989, 51), (72, 976, 977), (72, 1005, 55), (72, 1008, 0), (72, 1001, 54), (72, 1011, 1012), (72, 1015, 1016), (72, 1019, 1020), (72, 1023, 1024), (72, 1029, 56), (72, 1033, 57), (72, 1036, 1037), (72, 1040, 1041), (72, 1044, 1045), (72, 1053, 58), (72, 1048, 1049), (72, 1057, 59), (72, 1065, 61), (72, 1061, 60), (64, 87, 0), (64, 420, 421), (64, 436, 437), (64, 412, 413), (64, 428, 429), (64, 440, 441), (64, 448, 449), (66, 169, 0), (66, 532, 533), (66, 494, 495), (66, 504, 7), (66, 508, 8), (66, 515, 9), (66, 519, 10), (66, 525, 11), (66, 529, 12), (68, 247, 0), (68, 648, 649), (68, 578, 579), (68, 583, 14), (68, 588, 15), (68, 602, 18), (68, 607, 19), (68, 611, 20), (68, 615, 21), (68, 619, 22), (68, 623, 23), (68, 594, 16), (68, 598, 17), (69, 292, 0), (69, 660, 661), (69, 664, 0), (69, 672, 0), (69, 696, 29), (69, 669, 26), (69, 680, 27), (69, 684, 28), (69, 676, 0), (69, 688, 0), (69, 691, 0), (67, 210, 0), (67, 703, 704), (67, 574, 575), (67, 561, 562), (67, 571, 13), (70, 321, 0), (70, 626, 627), (70, 632, 24), (70, 636, 25), (71, 342, 0), (71, 721, 722), (71, 726, 727), (71, 731, 30), (71, 735, 31), (71, 754, 35), (71, 739, 32), (71, 743, 33), (71, 750, 34), (65, 146, 0), (65, 498, 499), (65, 460, 461), (65, 475, 0), (65, 464, 0), (65, 468, 3), (65, 479, 4), (65, 483, 5), (65, 488, 6), (74, 757, 0), (73, 471, 0)]
def pg_kZb (z : Nat) : Bool := pg_is (pg_zp.getD z (0, 0, 0)).1 (Cond.initialized (pg_name z).cls) && (decide ((pg_name z).cls = pg_cn (pg_own z)) && (if pg_kd z = 0 then pg_is (pg_zp.getD z (0, 0, 0)).2.1 (Cond.static (pg_name z)) else (pg_is (pg_zp.getD z (0, 0, 0)).2.1 (Cond.instanceMethod (pg_name z)) && (decide (pg_kd z = 2) || pg_is (pg_zp.getD z (0, 0, 0)).2.2 (Cond.selects (pg_cn (pg_own z)) (pg_name z) (pg_name z))))))
set_option maxRecDepth 100000 in
theorem pg_kZ_0 : ((List.range 24).all fun k => pg_kZb (0 + k)) = true := by decide +kernel
set_option maxRecDepth 100000 in
theorem pg_kZ_1 : ((List.range 24).all fun k => pg_kZb (24 + k)) = true := by decide +kernel
set_option maxRecDepth 100000 in
theorem pg_kZ_2 : ((List.range 24).all fun k => pg_kZb (48 + k)) = true := by decide +kernel
set_option maxRecDepth 100000 in
theorem pg_kZ_3 : ((List.range 24).all fun k => pg_kZb (72 + k)) = true := by decide +kernel
set_option maxRecDepth 100000 in
theorem pg_kZ_4 : ((List.range 24).all fun k => pg_kZb (96 + k)) = true := by decide +kernel
set_option maxRecDepth 100000 in
theorem pg_kZ_5 : ((List.range 22).all fun k => pg_kZb (120 + k)) = true := by decide +kernel
theorem pg_kZ {z : Nat} (h : z < 142) : pg_kZb z = true := by
  by_cases h0 : z < 24
  · have := List.all_eq_true.mp pg_kZ_0 (z - 0) (List.mem_range.mpr (by omega))
    rwa [show 0 + (z - 0) = z by omega] at this
  by_cases h1 : z < 48
  · have := List.all_eq_true.mp pg_kZ_1 (z - 24) (List.mem_range.mpr (by omega))
    rwa [show 24 + (z - 24) = z by omega] at this
  by_cases h2 : z < 72
  · have := List.all_eq_true.mp pg_kZ_2 (z - 48) (List.mem_range.mpr (by omega))
    rwa [show 48 + (z - 48) = z by omega] at this
  by_cases h3 : z < 96
  · have := List.all_eq_true.mp pg_kZ_3 (z - 72) (List.mem_range.mpr (by omega))
    rwa [show 72 + (z - 72) = z by omega] at this
  by_cases h4 : z < 120
  · have := List.all_eq_true.mp pg_kZ_4 (z - 96) (List.mem_range.mpr (by omega))
    rwa [show 96 + (z - 96) = z by omega] at this
  by_cases h5 : z < 142
  · have := List.all_eq_true.mp pg_kZ_5 (z - 120) (List.mem_range.mpr (by omega))
    rwa [show 120 + (z - 120) = z by omega] at this
  · omega
def pg_kDb (z : Nat) : Bool := decide ((parseMethodDescriptor (pg_name z).desc).map (fun d => d.parameters.length) = some (if pg_kd z = 0 then pg_na z else pg_na z - 1)) && (decide (0 < pg_na z ∨ pg_kd z = 0) && (decide (pg_na z ≤ pg_maxL z) && decide (pg_maxL z ≤ 21)))
set_option maxRecDepth 100000 in
theorem pg_kD_0 : ((List.range 24).all fun k => pg_kDb (0 + k)) = true := by decide +kernel
set_option maxRecDepth 100000 in
theorem pg_kD_1 : ((List.range 24).all fun k => pg_kDb (24 + k)) = true := by decide +kernel
set_option maxRecDepth 100000 in
theorem pg_kD_2 : ((List.range 24).all fun k => pg_kDb (48 + k)) = true := by decide +kernel
set_option maxRecDepth 100000 in
theorem pg_kD_3 : ((List.range 24).all fun k => pg_kDb (72 + k)) = true := by decide +kernel
set_option maxRecDepth 100000 in
theorem pg_kD_4 : ((List.range 24).all fun k => pg_kDb (96 + k)) = true := by decide +kernel
set_option maxRecDepth 100000 in
theorem pg_kD_5 : ((List.range 22).all fun k => pg_kDb (120 + k)) = true := by decide +kernel
theorem pg_kD {z : Nat} (h : z < 142) : pg_kDb z = true := by
  by_cases h0 : z < 24
  · have := List.all_eq_true.mp pg_kD_0 (z - 0) (List.mem_range.mpr (by omega))
    rwa [show 0 + (z - 0) = z by omega] at this
  by_cases h1 : z < 48
  · have := List.all_eq_true.mp pg_kD_1 (z - 24) (List.mem_range.mpr (by omega))
    rwa [show 24 + (z - 24) = z by omega] at this
  by_cases h2 : z < 72
  · have := List.all_eq_true.mp pg_kD_2 (z - 48) (List.mem_range.mpr (by omega))
    rwa [show 48 + (z - 48) = z by omega] at this
  by_cases h3 : z < 96
  · have := List.all_eq_true.mp pg_kD_3 (z - 72) (List.mem_range.mpr (by omega))
    rwa [show 72 + (z - 72) = z by omega] at this
  by_cases h4 : z < 120
  · have := List.all_eq_true.mp pg_kD_4 (z - 96) (List.mem_range.mpr (by omega))
    rwa [show 96 + (z - 96) = z by omega] at this
  by_cases h5 : z < 142
  · have := List.all_eq_true.mp pg_kD_5 (z - 120) (List.mem_range.mpr (by omega))
    rwa [show 120 + (z - 120) = z by omega] at this
  · omega
def pg_kPb (z : Nat) : Bool := decide (plainFor (pg_name z) = true) && (decide (pg_kd z = 2 → pg_rt z = 9 ∧ (pg_name z).name = "<init>" ∧ pg_na z = 1) && decide (pg_rt z = 9 → (pg_name z).name = "<init>"))
set_option maxRecDepth 100000 in
theorem pg_kP_0 : ((List.range 24).all fun k => pg_kPb (0 + k)) = true := by decide +kernel
set_option maxRecDepth 100000 in
theorem pg_kP_1 : ((List.range 24).all fun k => pg_kPb (24 + k)) = true := by decide +kernel
set_option maxRecDepth 100000 in
theorem pg_kP_2 : ((List.range 24).all fun k => pg_kPb (48 + k)) = true := by decide +kernel
set_option maxRecDepth 100000 in
theorem pg_kP_3 : ((List.range 24).all fun k => pg_kPb (72 + k)) = true := by decide +kernel
set_option maxRecDepth 100000 in
theorem pg_kP_4 : ((List.range 24).all fun k => pg_kPb (96 + k)) = true := by decide +kernel
set_option maxRecDepth 100000 in
theorem pg_kP_5 : ((List.range 22).all fun k => pg_kPb (120 + k)) = true := by decide +kernel
theorem pg_kP {z : Nat} (h : z < 142) : pg_kPb z = true := by
  by_cases h0 : z < 24
  · have := List.all_eq_true.mp pg_kP_0 (z - 0) (List.mem_range.mpr (by omega))
    rwa [show 0 + (z - 0) = z by omega] at this
  by_cases h1 : z < 48
  · have := List.all_eq_true.mp pg_kP_1 (z - 24) (List.mem_range.mpr (by omega))
    rwa [show 24 + (z - 24) = z by omega] at this
  by_cases h2 : z < 72
  · have := List.all_eq_true.mp pg_kP_2 (z - 48) (List.mem_range.mpr (by omega))
    rwa [show 48 + (z - 48) = z by omega] at this
  by_cases h3 : z < 96
  · have := List.all_eq_true.mp pg_kP_3 (z - 72) (List.mem_range.mpr (by omega))
    rwa [show 72 + (z - 72) = z by omega] at this
  by_cases h4 : z < 120
  · have := List.all_eq_true.mp pg_kP_4 (z - 96) (List.mem_range.mpr (by omega))
    rwa [show 96 + (z - 96) = z by omega] at this
  by_cases h5 : z < 142
  · have := List.all_eq_true.mp pg_kP_5 (z - 120) (List.mem_range.mpr (by omega))
    rwa [show 120 + (z - 120) = z by omega] at this
  · omega
def pg_cpl : List Nat := [80, 399, 418, 426, 434, 446, 454, 538, 543, 547, 551, 555, 559, 642, 646, 654, 658, 701, 709, 715, 719, 402, 406, 410, 458, 763, 885, 893, 905, 881, 889, 897, 901, 909, 925, 921, 966, 934, 942, 938, 930, 917, 913, 946, 950, 958, 954, 962, 974, 970, 982, 986, 994, 998, 990, 978, 1006, 1009, 1002, 1013, 1017, 1021, 1025, 1030, 1034, 1038, 1042, 1046, 1054, 1050, 1058, 1066, 1062, 88, 422, 438, 414, 430, 442, 450, 170, 534, 496, 505, 509, 516, 520, 526, 530, 248, 650, 580, 584, 589, 603, 608, 612, 616, 620, 624, 595, 599, 293, 662, 665, 673, 697, 670, 681, 685, 677, 689, 692, 211, 705, 576, 563, 572, 322, 628, 633, 637, 343, 723, 728, 732, 736, 755, 740, 744, 751, 147, 500, 462, 476, 465, 469, 480, 484, 489, 758, 472]
def pg_kCp (z : Nat) : Prop := lw_tbl[pg_cpl.getD z 0]? = some (Cond.code (pg_name z) (pg_code z) (pg_maxL z) (pg_ret z))
set_option maxRecDepth 100000 in
theorem pg_kC_0 : pg_kCp 0 := rfl
set_option maxRecDepth 100000 in
theorem pg_kC_1 : pg_kCp 1 := rfl
set_option maxRecDepth 100000 in
theorem pg_kC_2 : pg_kCp 2 := rfl
set_option maxRecDepth 100000 in
theorem pg_kC_3 : pg_kCp 3 := rfl
set_option maxRecDepth 100000 in
theorem pg_kC_4 : pg_kCp 4 := rfl
set_option maxRecDepth 100000 in
theorem pg_kC_5 : pg_kCp 5 := rfl
set_option maxRecDepth 100000 in
theorem pg_kC_6 : pg_kCp 6 := rfl
set_option maxRecDepth 100000 in
theorem pg_kC_7 : pg_kCp 7 := rfl
set_option maxRecDepth 100000 in
theorem pg_kC_8 : pg_kCp 8 := rfl
set_option maxRecDepth 100000 in
theorem pg_kC_9 : pg_kCp 9 := rfl
set_option maxRecDepth 100000 in
theorem pg_kC_10 : pg_kCp 10 := rfl
set_option maxRecDepth 100000 in
theorem pg_kC_11 : pg_kCp 11 := rfl
set_option maxRecDepth 100000 in
theorem pg_kC_12 : pg_kCp 12 := rfl
set_option maxRecDepth 100000 in
theorem pg_kC_13 : pg_kCp 13 := rfl
set_option maxRecDepth 100000 in
theorem pg_kC_14 : pg_kCp 14 := rfl
set_option maxRecDepth 100000 in
theorem pg_kC_15 : pg_kCp 15 := rfl
set_option maxRecDepth 100000 in
theorem pg_kC_16 : pg_kCp 16 := rfl
set_option maxRecDepth 100000 in
theorem pg_kC_17 : pg_kCp 17 := rfl
set_option maxRecDepth 100000 in
theorem pg_kC_18 : pg_kCp 18 := rfl
set_option maxRecDepth 100000 in
theorem pg_kC_19 : pg_kCp 19 := rfl
set_option maxRecDepth 100000 in
theorem pg_kC_20 : pg_kCp 20 := rfl
set_option maxRecDepth 100000 in
theorem pg_kC_21 : pg_kCp 21 := rfl
set_option maxRecDepth 100000 in
theorem pg_kC_22 : pg_kCp 22 := rfl
set_option maxRecDepth 100000 in
theorem pg_kC_23 : pg_kCp 23 := rfl
set_option maxRecDepth 100000 in
theorem pg_kC_24 : pg_kCp 24 := rfl
set_option maxRecDepth 100000 in
theorem pg_kC_25 : pg_kCp 25 := rfl
set_option maxRecDepth 100000 in
theorem pg_kC_26 : pg_kCp 26 := rfl
set_option maxRecDepth 100000 in
theorem pg_kC_27 : pg_kCp 27 := rfl
set_option maxRecDepth 100000 in
theorem pg_kC_28 : pg_kCp 28 := rfl
set_option maxRecDepth 100000 in
theorem pg_kC_29 : pg_kCp 29 := rfl
set_option maxRecDepth 100000 in
theorem pg_kC_30 : pg_kCp 30 := rfl
set_option maxRecDepth 100000 in
theorem pg_kC_31 : pg_kCp 31 := rfl
set_option maxRecDepth 100000 in
theorem pg_kC_32 : pg_kCp 32 := rfl
set_option maxRecDepth 100000 in
theorem pg_kC_33 : pg_kCp 33 := rfl
set_option maxRecDepth 100000 in
theorem pg_kC_34 : pg_kCp 34 := rfl
set_option maxRecDepth 100000 in
theorem pg_kC_35 : pg_kCp 35 := rfl
set_option maxRecDepth 100000 in
theorem pg_kC_36 : pg_kCp 36 := rfl
set_option maxRecDepth 100000 in
theorem pg_kC_37 : pg_kCp 37 := rfl
set_option maxRecDepth 100000 in
theorem pg_kC_38 : pg_kCp 38 := rfl
set_option maxRecDepth 100000 in
theorem pg_kC_39 : pg_kCp 39 := rfl
set_option maxRecDepth 100000 in
theorem pg_kC_40 : pg_kCp 40 := rfl
set_option maxRecDepth 100000 in
theorem pg_kC_41 : pg_kCp 41 := rfl
set_option maxRecDepth 100000 in
theorem pg_kC_42 : pg_kCp 42 := rfl
set_option maxRecDepth 100000 in
theorem pg_kC_43 : pg_kCp 43 := rfl
set_option maxRecDepth 100000 in
theorem pg_kC_44 : pg_kCp 44 := rfl
set_option maxRecDepth 100000 in
theorem pg_kC_45 : pg_kCp 45 := rfl
set_option maxRecDepth 100000 in
theorem pg_kC_46 : pg_kCp 46 := rfl
set_option maxRecDepth 100000 in
theorem pg_kC_47 : pg_kCp 47 := rfl
set_option maxRecDepth 100000 in
theorem pg_kC_48 : pg_kCp 48 := rfl
set_option maxRecDepth 100000 in
theorem pg_kC_49 : pg_kCp 49 := rfl
set_option maxRecDepth 100000 in
theorem pg_kC_50 : pg_kCp 50 := rfl
set_option maxRecDepth 100000 in
theorem pg_kC_51 : pg_kCp 51 := rfl
set_option maxRecDepth 100000 in
theorem pg_kC_52 : pg_kCp 52 := rfl
set_option maxRecDepth 100000 in
theorem pg_kC_53 : pg_kCp 53 := rfl
set_option maxRecDepth 100000 in
theorem pg_kC_54 : pg_kCp 54 := rfl
set_option maxRecDepth 100000 in
theorem pg_kC_55 : pg_kCp 55 := rfl
set_option maxRecDepth 100000 in
theorem pg_kC_56 : pg_kCp 56 := rfl
set_option maxRecDepth 100000 in
theorem pg_kC_57 : pg_kCp 57 := rfl
set_option maxRecDepth 100000 in
theorem pg_kC_58 : pg_kCp 58 := rfl
set_option maxRecDepth 100000 in
theorem pg_kC_59 : pg_kCp 59 := rfl
set_option maxRecDepth 100000 in
theorem pg_kC_60 : pg_kCp 60 := rfl
set_option maxRecDepth 100000 in
theorem pg_kC_61 : pg_kCp 61 := rfl
set_option maxRecDepth 100000 in
theorem pg_kC_62 : pg_kCp 62 := rfl
set_option maxRecDepth 100000 in
theorem pg_kC_63 : pg_kCp 63 := rfl
set_option maxRecDepth 100000 in
theorem pg_kC_64 : pg_kCp 64 := rfl
set_option maxRecDepth 100000 in
theorem pg_kC_65 : pg_kCp 65 := rfl
set_option maxRecDepth 100000 in
theorem pg_kC_66 : pg_kCp 66 := rfl
set_option maxRecDepth 100000 in
theorem pg_kC_67 : pg_kCp 67 := rfl
set_option maxRecDepth 100000 in
theorem pg_kC_68 : pg_kCp 68 := rfl
set_option maxRecDepth 100000 in
theorem pg_kC_69 : pg_kCp 69 := rfl
set_option maxRecDepth 100000 in
theorem pg_kC_70 : pg_kCp 70 := rfl
set_option maxRecDepth 100000 in
theorem pg_kC_71 : pg_kCp 71 := rfl
set_option maxRecDepth 100000 in
theorem pg_kC_72 : pg_kCp 72 := rfl
set_option maxRecDepth 100000 in
theorem pg_kC_73 : pg_kCp 73 := rfl
set_option maxRecDepth 100000 in
theorem pg_kC_74 : pg_kCp 74 := rfl
set_option maxRecDepth 100000 in
theorem pg_kC_75 : pg_kCp 75 := rfl
set_option maxRecDepth 100000 in
theorem pg_kC_76 : pg_kCp 76 := rfl
set_option maxRecDepth 100000 in
theorem pg_kC_77 : pg_kCp 77 := rfl
set_option maxRecDepth 100000 in
theorem pg_kC_78 : pg_kCp 78 := rfl
set_option maxRecDepth 100000 in
theorem pg_kC_79 : pg_kCp 79 := rfl
set_option maxRecDepth 100000 in
theorem pg_kC_80 : pg_kCp 80 := rfl
set_option maxRecDepth 100000 in
theorem pg_kC_81 : pg_kCp 81 := rfl
set_option maxRecDepth 100000 in
theorem pg_kC_82 : pg_kCp 82 := rfl
set_option maxRecDepth 100000 in
theorem pg_kC_83 : pg_kCp 83 := rfl
set_option maxRecDepth 100000 in
theorem pg_kC_84 : pg_kCp 84 := rfl
set_option maxRecDepth 100000 in
theorem pg_kC_85 : pg_kCp 85 := rfl
set_option maxRecDepth 100000 in
theorem pg_kC_86 : pg_kCp 86 := rfl
set_option maxRecDepth 100000 in
theorem pg_kC_87 : pg_kCp 87 := rfl
set_option maxRecDepth 100000 in
theorem pg_kC_88 : pg_kCp 88 := rfl
set_option maxRecDepth 100000 in
theorem pg_kC_89 : pg_kCp 89 := rfl
set_option maxRecDepth 100000 in
theorem pg_kC_90 : pg_kCp 90 := rfl
set_option maxRecDepth 100000 in
theorem pg_kC_91 : pg_kCp 91 := rfl
set_option maxRecDepth 100000 in
theorem pg_kC_92 : pg_kCp 92 := rfl
set_option maxRecDepth 100000 in
theorem pg_kC_93 : pg_kCp 93 := rfl
set_option maxRecDepth 100000 in
theorem pg_kC_94 : pg_kCp 94 := rfl
set_option maxRecDepth 100000 in
theorem pg_kC_95 : pg_kCp 95 := rfl
set_option maxRecDepth 100000 in
theorem pg_kC_96 : pg_kCp 96 := rfl
set_option maxRecDepth 100000 in
theorem pg_kC_97 : pg_kCp 97 := rfl
set_option maxRecDepth 100000 in
theorem pg_kC_98 : pg_kCp 98 := rfl
set_option maxRecDepth 100000 in
theorem pg_kC_99 : pg_kCp 99 := rfl
set_option maxRecDepth 100000 in
theorem pg_kC_100 : pg_kCp 100 := rfl
set_option maxRecDepth 100000 in
theorem pg_kC_101 : pg_kCp 101 := rfl
set_option maxRecDepth 100000 in
theorem pg_kC_102 : pg_kCp 102 := rfl
set_option maxRecDepth 100000 in
theorem pg_kC_103 : pg_kCp 103 := rfl
set_option maxRecDepth 100000 in
theorem pg_kC_104 : pg_kCp 104 := rfl
set_option maxRecDepth 100000 in
theorem pg_kC_105 : pg_kCp 105 := rfl
set_option maxRecDepth 100000 in
theorem pg_kC_106 : pg_kCp 106 := rfl
set_option maxRecDepth 100000 in
theorem pg_kC_107 : pg_kCp 107 := rfl
set_option maxRecDepth 100000 in
theorem pg_kC_108 : pg_kCp 108 := rfl
set_option maxRecDepth 100000 in
theorem pg_kC_109 : pg_kCp 109 := rfl
set_option maxRecDepth 100000 in
theorem pg_kC_110 : pg_kCp 110 := rfl
set_option maxRecDepth 100000 in
theorem pg_kC_111 : pg_kCp 111 := rfl
set_option maxRecDepth 100000 in
theorem pg_kC_112 : pg_kCp 112 := rfl
set_option maxRecDepth 100000 in
theorem pg_kC_113 : pg_kCp 113 := rfl
set_option maxRecDepth 100000 in
theorem pg_kC_114 : pg_kCp 114 := rfl
set_option maxRecDepth 100000 in
theorem pg_kC_115 : pg_kCp 115 := rfl
set_option maxRecDepth 100000 in
theorem pg_kC_116 : pg_kCp 116 := rfl
set_option maxRecDepth 100000 in
theorem pg_kC_117 : pg_kCp 117 := rfl
set_option maxRecDepth 100000 in
theorem pg_kC_118 : pg_kCp 118 := rfl
set_option maxRecDepth 100000 in
theorem pg_kC_119 : pg_kCp 119 := rfl
set_option maxRecDepth 100000 in
theorem pg_kC_120 : pg_kCp 120 := rfl
set_option maxRecDepth 100000 in
theorem pg_kC_121 : pg_kCp 121 := rfl
set_option maxRecDepth 100000 in
theorem pg_kC_122 : pg_kCp 122 := rfl
set_option maxRecDepth 100000 in
theorem pg_kC_123 : pg_kCp 123 := rfl
set_option maxRecDepth 100000 in
theorem pg_kC_124 : pg_kCp 124 := rfl
set_option maxRecDepth 100000 in
theorem pg_kC_125 : pg_kCp 125 := rfl
set_option maxRecDepth 100000 in
theorem pg_kC_126 : pg_kCp 126 := rfl
set_option maxRecDepth 100000 in
theorem pg_kC_127 : pg_kCp 127 := rfl
set_option maxRecDepth 100000 in
theorem pg_kC_128 : pg_kCp 128 := rfl
set_option maxRecDepth 100000 in
theorem pg_kC_129 : pg_kCp 129 := rfl
set_option maxRecDepth 100000 in
theorem pg_kC_130 : pg_kCp 130 := rfl
set_option maxRecDepth 100000 in
theorem pg_kC_131 : pg_kCp 131 := rfl
set_option maxRecDepth 100000 in
theorem pg_kC_132 : pg_kCp 132 := rfl
set_option maxRecDepth 100000 in
theorem pg_kC_133 : pg_kCp 133 := rfl
set_option maxRecDepth 100000 in
theorem pg_kC_134 : pg_kCp 134 := rfl
set_option maxRecDepth 100000 in
theorem pg_kC_135 : pg_kCp 135 := rfl
set_option maxRecDepth 100000 in
theorem pg_kC_136 : pg_kCp 136 := rfl
set_option maxRecDepth 100000 in
theorem pg_kC_137 : pg_kCp 137 := rfl
set_option maxRecDepth 100000 in
theorem pg_kC_138 : pg_kCp 138 := rfl
set_option maxRecDepth 100000 in
theorem pg_kC_139 : pg_kCp 139 := rfl
set_option maxRecDepth 100000 in
theorem pg_kC_140 : pg_kCp 140 := rfl
set_option maxRecDepth 100000 in
theorem pg_kC_141 : pg_kCp 141 := rfl
theorem pg_kC : ∀ z, z < 142 → pg_kCp z
  | 0, _ => pg_kC_0
  | 1, _ => pg_kC_1
  | 2, _ => pg_kC_2
  | 3, _ => pg_kC_3
  | 4, _ => pg_kC_4
  | 5, _ => pg_kC_5
  | 6, _ => pg_kC_6
  | 7, _ => pg_kC_7
  | 8, _ => pg_kC_8
  | 9, _ => pg_kC_9
  | 10, _ => pg_kC_10
  | 11, _ => pg_kC_11
  | 12, _ => pg_kC_12
  | 13, _ => pg_kC_13
  | 14, _ => pg_kC_14
  | 15, _ => pg_kC_15
  | 16, _ => pg_kC_16
  | 17, _ => pg_kC_17
  | 18, _ => pg_kC_18
  | 19, _ => pg_kC_19
  | 20, _ => pg_kC_20
  | 21, _ => pg_kC_21
  | 22, _ => pg_kC_22
  | 23, _ => pg_kC_23
  | 24, _ => pg_kC_24
  | 25, _ => pg_kC_25
  | 26, _ => pg_kC_26
  | 27, _ => pg_kC_27
  | 28, _ => pg_kC_28
  | 29, _ => pg_kC_29
  | 30, _ => pg_kC_30
  | 31, _ => pg_kC_31
  | 32, _ => pg_kC_32
  | 33, _ => pg_kC_33
  | 34, _ => pg_kC_34
  | 35, _ => pg_kC_35
  | 36, _ => pg_kC_36
  | 37, _ => pg_kC_37
  | 38, _ => pg_kC_38
  | 39, _ => pg_kC_39
  | 40, _ => pg_kC_40
  | 41, _ => pg_kC_41
  | 42, _ => pg_kC_42
  | 43, _ => pg_kC_43
  | 44, _ => pg_kC_44
  | 45, _ => pg_kC_45
  | 46, _ => pg_kC_46
  | 47, _ => pg_kC_47
  | 48, _ => pg_kC_48
  | 49, _ => pg_kC_49
  | 50, _ => pg_kC_50
  | 51, _ => pg_kC_51
  | 52, _ => pg_kC_52
  | 53, _ => pg_kC_53
  | 54, _ => pg_kC_54
  | 55, _ => pg_kC_55
  | 56, _ => pg_kC_56
  | 57, _ => pg_kC_57
  | 58, _ => pg_kC_58
  | 59, _ => pg_kC_59
  | 60, _ => pg_kC_60
  | 61, _ => pg_kC_61
  | 62, _ => pg_kC_62
  | 63, _ => pg_kC_63
  | 64, _ => pg_kC_64
  | 65, _ => pg_kC_65
  | 66, _ => pg_kC_66
  | 67, _ => pg_kC_67
  | 68, _ => pg_kC_68
  | 69, _ => pg_kC_69
  | 70, _ => pg_kC_70
  | 71, _ => pg_kC_71
  | 72, _ => pg_kC_72
  | 73, _ => pg_kC_73
  | 74, _ => pg_kC_74
  | 75, _ => pg_kC_75
  | 76, _ => pg_kC_76
  | 77, _ => pg_kC_77
  | 78, _ => pg_kC_78
  | 79, _ => pg_kC_79
  | 80, _ => pg_kC_80
  | 81, _ => pg_kC_81
  | 82, _ => pg_kC_82
  | 83, _ => pg_kC_83
  | 84, _ => pg_kC_84
  | 85, _ => pg_kC_85
  | 86, _ => pg_kC_86
  | 87, _ => pg_kC_87
  | 88, _ => pg_kC_88
  | 89, _ => pg_kC_89
  | 90, _ => pg_kC_90
  | 91, _ => pg_kC_91
  | 92, _ => pg_kC_92
  | 93, _ => pg_kC_93
  | 94, _ => pg_kC_94
  | 95, _ => pg_kC_95
  | 96, _ => pg_kC_96
  | 97, _ => pg_kC_97
  | 98, _ => pg_kC_98
  | 99, _ => pg_kC_99
  | 100, _ => pg_kC_100
  | 101, _ => pg_kC_101
  | 102, _ => pg_kC_102
  | 103, _ => pg_kC_103
  | 104, _ => pg_kC_104
  | 105, _ => pg_kC_105
  | 106, _ => pg_kC_106
  | 107, _ => pg_kC_107
  | 108, _ => pg_kC_108
  | 109, _ => pg_kC_109
  | 110, _ => pg_kC_110
  | 111, _ => pg_kC_111
  | 112, _ => pg_kC_112
  | 113, _ => pg_kC_113
  | 114, _ => pg_kC_114
  | 115, _ => pg_kC_115
  | 116, _ => pg_kC_116
  | 117, _ => pg_kC_117
  | 118, _ => pg_kC_118
  | 119, _ => pg_kC_119
  | 120, _ => pg_kC_120
  | 121, _ => pg_kC_121
  | 122, _ => pg_kC_122
  | 123, _ => pg_kC_123
  | 124, _ => pg_kC_124
  | 125, _ => pg_kC_125
  | 126, _ => pg_kC_126
  | 127, _ => pg_kC_127
  | 128, _ => pg_kC_128
  | 129, _ => pg_kC_129
  | 130, _ => pg_kC_130
  | 131, _ => pg_kC_131
  | 132, _ => pg_kC_132
  | 133, _ => pg_kC_133
  | 134, _ => pg_kC_134
  | 135, _ => pg_kC_135
  | 136, _ => pg_kC_136
  | 137, _ => pg_kC_137
  | 138, _ => pg_kC_138
  | 139, _ => pg_kC_139
  | 140, _ => pg_kC_140
  | 141, _ => pg_kC_141
  | _ + 142, h => absurd h (by omega)
