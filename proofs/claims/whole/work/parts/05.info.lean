theorem goodIn_r9 {big : List Cond} (ws : List Cond) (ps : List Nat) (hp : ws = ps.filterMap (fun i => big[i]?)) (h : ws.all goodWord = true) : GoodIn big ws := by
  intro w hw
  have h1 := List.all_eq_true.mp h w hw
  rw [hp] at hw
  obtain ⟨i, -, hi⟩ := List.mem_filterMap.mp hw
  have hm : w ∈ big := by first | exact List.mem_of_getElem? hi | exact List.getElem?_mem hi
  exact ⟨hm, good_of_word h1⟩
/-! What the tables say of each method and each instruction: checked by the kernel, row by row. -/
abbrev hI : Type := MethodName × ByteArray × Nat × Option FieldType × Nat × Nat × Nat × Nat × Nat × Nat
def hRefs : List (List Bool) := [[true, true, false, false], [true, false, false], [true, false, true, false, true, true, false, false], [true, false, false, false, false], [true, true, true, true, false], [false, false, false, false, false, false], [true, false], [true, false, false], [false, false, false, false, false, false, false, false, false, false, false, false, false, false, false, false], [true, true, true, true, true, true, true, true, true, true], [true, true, true, false, true, true, true, true, false, false, false, false, false, false, true, false, true, true, false, true, false, true, false, true, false, true]]
def hRef (k j : Nat) : Bool := (hRefs.getD k []).getD j false
def hNf : List Nat := [4, 3, 8, 5, 5, 6, 2, 3, 16, 10, 26]
def hT (k : Nat) : u_T := match k with
  | 0 => TX0
  | 1 => TX1
  | 2 => TX2
  | 3 => TX3
  | 4 => TX4
  | 5 => TX5
  | 6 => TX6
  | 7 => TX7
  | 8 => TX8
  | 9 => TX9
  | _ => TX10
def hR (k : Nat) : String := match k with
  | 0 => RX0
  | 1 => RX1
  | 2 => RX2
  | 3 => RX3
  | 4 => RX4
  | 5 => RX5
  | 6 => RX6
  | 7 => RX7
  | 8 => RX8
  | 9 => RX9
  | _ => RX10
def hi_J6_bitCount_0f7a4 : hI := (yJ6_bitCount_0f7a4, prog_13_method_49_code, 1, some .int, 0, 763, 762, 0, 105, 0)
def hi_J9_abs_0f7a4 : hI := (yJ9_abs_0f7a4, prog_14_method_59_code, 1, some .int, 0, 703, 702, 0, 103, 0)
def hi_J9_floorDiv_7cf53 : hI := (yJ9_floorDiv_7cf53, prog_14_method_47_code, 3, some .int, 0, 614, 613, 0, 103, 0)
def hi_J9_floorMod_7cf53 : hI := (yJ9_floorMod_7cf53, prog_14_method_50_code, 3, some .int, 0, 526, 525, 0, 103, 0)
def hi_J9_max_7cf53 : hI := (yJ9_max_7cf53, prog_14_method_65_code, 2, some .int, 0, 588, 587, 0, 103, 0)
def hi_J9_min_7cf53 : hI := (yJ9_min_7cf53, prog_14_method_69_code, 2, some .int, 0, 544, 543, 0, 103, 0)
def hi_X10_away : hI := (yX10_away, prog_12_method_3_code, 2, some .int, 0, 977, 976, 0, 102, 0)
def hi_X10_clear : hI := (yX10_clear, prog_12_method_5_code, 2, some .int, 0, 892, 890, 891, 102, 1)
def hi_X10_count : hI := (yX10_count, prog_12_method_62_code, 2, some .int, 0, 1114, 1112, 1113, 102, 1)
def hi_X10_forget : hI := (yX10_forget, prog_12_method_54_code, 2, some .int, 0, 1081, 1079, 1080, 102, 1)
def hi_X10_in : hI := (yX10_in, prog_12_method_2_code, 3, some .boolean, 0, 888, 887, 0, 102, 0)
def hi_X10_isToldAlready : hI := (yX10_isToldAlready, prog_12_method_12_code, 2, some .boolean, 0, 915, 914, 64, 102, 1)
def hi_X10_leastOf : hI := (yX10_leastOf, prog_12_method_10_code, 2, some .int, 0, 923, 922, 66, 102, 1)
def hi_X10_mostOf : hI := (yX10_mostOf, prog_12_method_11_code, 1, some .int, 0, 926, 925, 0, 102, 0)
def hi_X10_notes : hI := (yX10_notes, prog_12_method_29_code, 2, none, 0, 934, 933, 67, 102, 1)
def hi_X10_notesSpeed : hI := (yX10_notesSpeed, prog_12_method_28_code, 2, none, 0, 1008, 1007, 79, 102, 1)
def hi_X10_pitchGoal : hI := (yX10_pitchGoal, prog_12_method_23_code, 4, some .int, 0, 989, 988, 75, 102, 1)
def hi_X10_plain : hI := (yX10_plain, prog_12_method_14_code, 1, none, 0, 798, 797, 59, 102, 1)
def hi_X10_record : hI := (yX10_record, prog_12_method_40_code, 2, some .int, 0, 1025, 1023, 1024, 102, 1)
def hi_X10_takesOver : hI := (yX10_takesOver, prog_12_method_15_code, 2, none, 0, 802, 801, 60, 102, 1)
def hi_X10_towards : hI := (yX10_towards, prog_12_method_22_code, 3, some .int, 0, 992, 991, 0, 102, 0)
def hi_X10_tries : hI := (yX10_tries, prog_12_method_41_code, 2, none, 0, 1037, 1036, 81, 102, 1)
def hi_X10_turns : hI := (yX10_turns, prog_12_method_25_code, 3, none, 0, 1004, 1003, 78, 102, 1)
def hi_X10_undo : hI := (yX10_undo, prog_12_method_37_code, 2, some .int, 0, 1012, 1010, 1011, 102, 1)
def hi_X10_unlikeOnes : hI := (yX10_unlikeOnes, prog_12_method_46_code, 4, some .int, 0, 1065, 1064, 86, 102, 1)
def hi_X10_whichOf : hI := (yX10_whichOf, prog_12_method_8_code, 1, some .int, 0, 907, 906, 0, 102, 0)
def hi_X1_lose : hI := (yX1_lose, prog_3_method_2_code, 1, none, 0, 511, 510, 19, 99, 1)
def hi_X2_allHalves : hI := (yX2_allHalves, prog_4_method_10_code, 3, some .int, 0, 728, 727, 52, 101, 1)
def hi_X2_findTurn : hI := (yX2_findTurn, prog_4_method_3_code, 4, none, 0, 692, 691, 45, 101, 1)
def hi_X2_placeOf : hI := (yX2_placeOf, prog_4_method_7_code, 3, some .int, 0, 711, 710, 49, 101, 1)
def hi_X3_isTold : hI := (yX3_isTold, prog_5_method_7_code, 2, some .boolean, 0, 473, 472, 10, 95, 1)
def hi_X3_settingOf : hI := (yX3_settingOf, prog_5_method_8_code, 1, some .int, 0, 469, 468, 0, 95, 0)
def hi_X3_takesEnd : hI := (yX3_takesEnd, prog_5_method_6_code, 2, some .boolean, 0, 494, 493, 15, 95, 1)
def hi_X4_add : hI := (yX4_add, prog_6_method_2_code, 4, none, 0, 736, 735, 53, 100, 1)
def hi_X5_become : hI := (yX5_become, prog_7_method_3_code, 2, none, 0, 498, 497, 16, 93, 1)
def hi_X5_put : hI := (yX5_put, prog_7_method_6_code, 3, none, 0, 490, 489, 14, 93, 1)
def hi_X5_startAnew : hI := (yX5_startAnew, prog_7_method_2_code, 1, none, 0, 123, 122, 0, 93, 1)
def hi_X5_tell : hI := (yX5_tell, prog_7_method_4_code, 2, some .int, 0, 652, 651, 40, 93, 1)
def hi_X6_append : hI := (yX6_append, prog_8_method_2_code, 2, none, 0, 427, 426, 2, 94, 1)
def hi_X6_letterAt : hI := (yX6_letterAt, prog_8_method_3_code, 2, some .int, 0, 448, 447, 5, 94, 1)
def hi_X7_startAnew : hI := (yX7_startAnew, prog_9_method_2_code, 1, none, 0, 507, 506, 18, 98, 1)
def hi_X8_ahead : hI := (yX8_ahead, prog_10_method_10_code, 1, some .int, 0, 603, 602, 32, 97, 1)
def hi_X8_become : hI := (yX8_become, prog_10_method_3_code, 2, none, 0, 534, 533, 23, 97, 1)
def hi_X8_drag : hI := (yX8_drag, prog_10_method_13_code, 1, some .int, 0, 611, 610, 34, 97, 1)
def hi_X8_isWound : hI := (yX8_isWound, prog_10_method_6_code, 2, some .boolean, 0, 580, 579, 28, 97, 1)
def hi_X8_startAnew : hI := (yX8_startAnew, prog_10_method_2_code, 1, none, 0, 207, 206, 1, 97, 1)
def hi_X8_torqueAim : hI := (yX8_torqueAim, prog_10_method_8_code, 2, some .int, 0, 595, 594, 30, 97, 1)
def hi_X8_turnBy : hI := (yX8_turnBy, prog_10_method_15_code, 2, none, 0, 622, 621, 36, 97, 1)
def hi_X9_alikeUpTo : hI := (yX9_alikeUpTo, prog_1_method_29_code, 5, some .int, 0, 774, 773, 58, 92, 1)
def hi_X9_clear : hI := (yX9_clear, prog_1_method_3_code, 2, some .int, 0, 431, 429, 430, 92, 1)
def hi_X9_count : hI := (yX9_count, prog_1_method_33_code, 2, some .int, 0, 788, 786, 787, 92, 1)
def hi_X9_forget : hI := (yX9_forget, prog_1_method_23_code, 2, some .int, 0, 740, 738, 739, 92, 1)
def hi_X9_isWithin : hI := (yX9_isWithin, prog_1_method_34_code, 3, some .boolean, 0, 423, 422, 0, 92, 0)
def hi_X9_loseImages : hI := (yX9_loseImages, prog_1_method_5_code, 2, none, 0, 515, 514, 20, 92, 1)
def hi_X0_startAnew : hI := (yX0_startAnew, prog_2_method_2_code, 1, none, 1, 502, 501, 17, 96, 1)
def hi_X10_back : hI := (yX10_back, prog_12_method_61_code, 3, some .int, 1, 1110, 1108, 1109, 102, 1)
def hi_X10_becomes : hI := (yX10_becomes, prog_12_method_32_code, 3, some .int, 1, 946, 945, 68, 102, 1)
def hi_X10_blows : hI := (yX10_blows, prog_12_method_30_code, 4, some .int, 1, 930, 928, 929, 102, 1)
def hi_X10_closes : hI := (yX10_closes, prog_12_method_48_code, 2, some .boolean, 1, 1069, 1068, 87, 102, 1)
def hi_X10_counts : hI := (yX10_counts, prog_12_method_20_code, 2, none, 1, 966, 965, 70, 102, 1)
def hi_X10_errorOf : hI := (yX10_errorOf, prog_12_method_17_code, 3, some .int, 1, 981, 980, 73, 102, 1)
def hi_X10_findsTurns : hI := (yX10_findsTurns, prog_12_method_47_code, 4, none, 1, 1061, 1060, 85, 102, 1)
def hi_X10_ices : hI := (yX10_ices, prog_12_method_31_code, 3, some .int, 1, 938, 936, 937, 102, 1)
def hi_X10_init : hI := (yX10_init, prog_12_method_1_code, 1, none, 1, 793, 792, 0, 102, 2)
def hi_X10_isFigure : hI := (yX10_isFigure, prog_12_method_6_code, 1, some .boolean, 1, 904, 903, 62, 102, 1)
def hi_X10_isWound : hI := (yX10_isWound, prog_12_method_19_code, 2, some .boolean, 1, 974, 973, 72, 102, 1)
def hi_X10_keep : hI := (yX10_keep, prog_12_method_60_code, 3, some .int, 1, 1106, 1104, 1105, 102, 1)
def hi_X10_resets : hI := (yX10_resets, prog_12_method_35_code, 1, some .int, 1, 954, 952, 953, 102, 1)
def hi_X10_sees : hI := (yX10_sees, prog_12_method_53_code, 4, some .int, 1, 1077, 1075, 1076, 102, 1)
def hi_X10_setting : hI := (yX10_setting, prog_12_method_39_code, 2, some .int, 1, 1021, 1019, 1020, 102, 1)
def hi_X10_type : hI := (yX10_type, prog_12_method_4_code, 2, some .int, 1, 885, 883, 884, 102, 1)
def hi_X2_addHalves : hI := (yX2_addHalves, prog_4_method_6_code, 4, none, 1, 707, 706, 48, 101, 1)
def hi_X2_greatestDifference : hI := (yX2_greatestDifference, prog_4_method_9_code, 3, some .int, 1, 723, 722, 51, 101, 1)
def hi_X2_halvesOf : hI := (yX2_halvesOf, prog_4_method_8_code, 3, some .int, 1, 715, 714, 50, 101, 1)
def hi_X2_init : hI := (yX2_init, prog_4_method_1_code, 1, none, 1, 354, 353, 0, 101, 2)
def hi_X2_isCycleInside : hI := (yX2_isCycleInside, prog_4_method_5_code, 4, some .boolean, 1, 700, 699, 47, 101, 1)
def hi_X3_takesLetter : hI := (yX3_takesLetter, prog_5_method_4_code, 2, some .boolean, 1, 466, 465, 9, 95, 1)
def hi_X4_init : hI := (yX4_init, prog_6_method_1_code, 1, none, 1, 326, 325, 0, 100, 2)
def hi_X5_init : hI := (yX5_init, prog_7_method_1_code, 1, none, 1, 118, 117, 0, 93, 2)
def hi_X5_mayBe : hI := (yX5_mayBe, prog_7_method_5_code, 3, some .boolean, 1, 485, 484, 13, 93, 1)
def hi_X6_behindBlanks : hI := (yX6_behindBlanks, prog_8_method_5_code, 3, some .int, 1, 444, 443, 4, 94, 1)
def hi_X6_init : hI := (yX6_init, prog_8_method_1_code, 1, none, 1, 155, 154, 0, 94, 2)
def hi_X6_isFigureAt : hI := (yX6_isFigureAt, prog_8_method_4_code, 2, some .boolean, 1, 456, 455, 7, 94, 1)
def hi_X7_add : hI := (yX7_add, prog_9_method_4_code, 2, none, 1, 626, 625, 37, 98, 1)
def hi_X7_become : hI := (yX7_become, prog_9_method_3_code, 2, none, 1, 538, 537, 24, 98, 1)
def hi_X7_init : hI := (yX7_init, prog_9_method_1_code, 1, none, 1, 271, 270, 0, 98, 2)
def hi_X7_speedAgo : hI := (yX7_speedAgo, prog_9_method_5_code, 2, some .int, 1, 660, 659, 41, 98, 1)
def hi_X8_drive : hI := (yX8_drive, prog_10_method_12_code, 2, some .int, 1, 607, 606, 33, 97, 1)
def hi_X8_error : hI := (yX8_error, prog_10_method_11_code, 2, some .int, 1, 599, 598, 31, 97, 1)
def hi_X8_init : hI := (yX8_init, prog_10_method_1_code, 1, none, 1, 202, 201, 0, 97, 2)
def hi_X8_nearer : hI := (yX8_nearer, prog_10_method_9_code, 3, some .int, 1, 591, 590, 0, 97, 0)
def hi_X8_nextMode : hI := (yX8_nextMode, prog_10_method_5_code, 4, some .int, 1, 576, 575, 27, 97, 1)
def hi_X8_pitchAim : hI := (yX8_pitchAim, prog_10_method_7_code, 2, some .int, 1, 584, 583, 29, 97, 1)
def hi_X8_turn : hI := (yX8_turn, prog_10_method_14_code, 3, none, 1, 618, 617, 35, 97, 1)
def hi_X9_sees : hI := (yX9_sees, prog_1_method_22_code, 4, some .int, 1, 732, 730, 731, 92, 1)
def hi_X9_setting : hI := (yX9_setting, prog_1_method_14_code, 2, some .int, 1, 648, 646, 647, 92, 1)
def hi_X9_type : hI := (yX9_type, prog_1_method_2_code, 2, some .int, 1, 420, 418, 419, 92, 1)
def hi_X0_become : hI := (yX0_become, prog_2_method_3_code, 2, none, 2, 530, 529, 22, 96, 1)
def hi_X0_init : hI := (yX0_init, prog_2_method_1_code, 1, none, 2, 196, 195, 0, 96, 2)
def hi_X10_driveOf : hI := (yX10_driveOf, prog_12_method_18_code, 3, some .int, 2, 996, 995, 76, 102, 1)
def hi_X10_grids : hI := (yX10_grids, prog_12_method_33_code, 2, some .int, 2, 942, 940, 941, 102, 1)
def hi_X10_looksUp : hI := (yX10_looksUp, prog_12_method_26_code, 7, none, 2, 1000, 999, 77, 102, 1)
def hi_X10_modeOf : hI := (yX10_modeOf, prog_12_method_21_code, 3, some .int, 2, 970, 969, 71, 102, 1)
def hi_X10_next : hI := (yX10_next, prog_12_method_7_code, 1, none, 2, 900, 899, 61, 102, 1)
def hi_X10_rains : hI := (yX10_rains, prog_12_method_49_code, 2, none, 2, 1057, 1056, 84, 102, 1)
def hi_X10_wants : hI := (yX10_wants, prog_12_method_34_code, 2, some .int, 2, 950, 948, 949, 102, 1)
def hi_X2_addToRow : hI := (yX2_addToRow, prog_4_method_4_code, 2, none, 2, 696, 695, 46, 101, 1)
def hi_X3_init : hI := (yX3_init, prog_5_method_1_code, 1, none, 2, 171, 170, 0, 95, 2)
def hi_X3_takesNumber : hI := (yX3_takesNumber, prog_5_method_5_code, 2, some .boolean, 2, 481, 480, 12, 95, 1)
def hi_X6_behindToken : hI := (yX6_behindToken, prog_8_method_6_code, 3, some .int, 2, 452, 451, 6, 94, 1)
def hi_X6_numberAt : hI := (yX6_numberAt, prog_8_method_7_code, 6, some .int, 2, 477, 476, 11, 94, 1)
def hi_X8_step : hI := (yX8_step, prog_10_method_4_code, 3, none, 2, 572, 571, 26, 97, 1)
def hi_X8_tell : hI := (yX8_tell, prog_10_method_16_code, 2, some .int, 2, 643, 642, 39, 97, 1)
def hi_X9_record : hI := (yX9_record, prog_1_method_15_code, 2, some .int, 2, 656, 654, 655, 92, 1)
def hi_X0_tick : hI := (yX0_tick, prog_2_method_4_code, 3, none, 3, 568, 567, 25, 96, 1)
def hi_X10_halvesOf : hI := (yX10_halvesOf, prog_12_method_50_code, 2, some .int, 3, 1053, 1052, 83, 102, 1)
def hi_X10_holds : hI := (yX10_holds, prog_12_method_24_code, 5, none, 3, 985, 984, 74, 102, 1)
def hi_X10_must : hI := (yX10_must, prog_12_method_9_code, 2, none, 3, 919, 918, 65, 102, 1)
def hi_X10_now : hI := (yX10_now, prog_12_method_38_code, 2, some .int, 3, 1016, 1014, 1015, 102, 1)
def hi_X10_rain : hI := (yX10_rain, prog_12_method_52_code, 6, some .int, 3, 1073, 1071, 1072, 102, 1)
def hi_X1_add : hI := (yX1_add, prog_3_method_3_code, 2, none, 3, 523, 522, 21, 99, 1)
def hi_X1_init : hI := (yX1_init, prog_3_method_1_code, 2, none, 3, 306, 305, 0, 99, 2)
def hi_X1_takeLatest : hI := (yX1_takeLatest, prog_3_method_4_code, 2, none, 3, 635, 634, 38, 99, 1)
def hi_X2_pour : hI := (yX2_pour, prog_4_method_2_code, 3, none, 3, 687, 686, 44, 101, 1)
def hi_X3_takes : hI := (yX3_takes, prog_5_method_3_code, 4, some .boolean, 3, 461, 460, 8, 95, 1)
def hi_X9_back : hI := (yX9_back, prog_1_method_32_code, 2, some .int, 3, 784, 782, 783, 92, 1)
def hi_X9_bearsGust : hI := (yX9_bearsGust, prog_1_method_17_code, 4, some .boolean, 3, 669, 668, 42, 92, 1)
def hi_X9_keep : hI := (yX9_keep, prog_1_method_31_code, 2, some .int, 3, 779, 777, 778, 92, 1)
def hi_X9_now : hI := (yX9_now, prog_1_method_13_code, 2, some .int, 3, 639, 637, 638, 92, 1)
def hi_X9_ridesDip : hI := (yX9_ridesDip, prog_1_method_19_code, 3, some .boolean, 3, 679, 678, 43, 92, 1)
def hi_X9_speedAfter : hI := (yX9_speedAfter, prog_1_method_30_code, 5, some .int, 3, 756, 755, 56, 92, 1)
def hi_X10_goesOn : hI := (yX10_goesOn, prog_12_method_27_code, 4, none, 4, 962, 961, 69, 102, 1)
def hi_X10_halves : hI := (yX10_halves, prog_12_method_51_code, 2, some .int, 4, 1049, 1047, 1048, 102, 1)
def hi_X10_readsItem : hI := (yX10_readsItem, prog_12_method_13_code, 3, none, 4, 911, 910, 63, 102, 1)
def hi_X3_read : hI := (yX3_read, prog_5_method_2_code, 5, some .int, 4, 439, 438, 3, 95, 1)
def hi_X9_agreesWithSeen : hI := (yX9_agreesWithSeen, prog_1_method_27_code, 3, some .boolean, 4, 752, 751, 55, 92, 1)
def hi_X9_blows : hI := (yX9_blows, prog_1_method_6_code, 5, some .int, 4, 519, 517, 518, 92, 1)
def hi_X9_dip : hI := (yX9_dip, prog_1_method_18_code, 3, some .int, 4, 675, 673, 674, 92, 1)
def hi_X9_grids : hI := (yX9_grids, prog_1_method_8_code, 3, some .int, 4, 552, 550, 551, 92, 1)
def hi_X9_gust : hI := (yX9_gust, prog_1_method_16_code, 3, some .int, 4, 665, 663, 664, 92, 1)
def hi_X9_halves : hI := (yX9_halves, prog_1_method_20_code, 2, some .int, 4, 683, 681, 682, 92, 1)
def hi_X9_ices : hI := (yX9_ices, prog_1_method_7_code, 4, some .int, 4, 548, 546, 547, 92, 1)
def hi_X9_init : hI := (yX9_init, prog_1_method_1_code, 1, none, 4, 110, 109, 0, 92, 2)
def hi_X9_mostAlike : hI := (yX9_mostAlike, prog_1_method_28_code, 5, some .int, 4, 770, 769, 57, 92, 1)
def hi_X9_rain : hI := (yX9_rain, prog_1_method_21_code, 2, some .int, 4, 719, 717, 718, 92, 1)
def hi_X9_resets : hI := (yX9_resets, prog_1_method_10_code, 2, some .int, 4, 560, 558, 559, 92, 1)
def hi_X9_ticks : hI := (yX9_ticks, prog_1_method_11_code, 3, some .int, 4, 564, 562, 563, 92, 1)
def hi_X9_undo : hI := (yX9_undo, prog_1_method_12_code, 1, some .int, 4, 631, 629, 630, 92, 1)
def hi_X9_wants : hI := (yX9_wants, prog_1_method_9_code, 3, some .int, 4, 556, 554, 555, 92, 1)
def hi_X10_bears : hI := (yX10_bears, prog_12_method_42_code, 5, some .boolean, 5, 1033, 1032, 80, 102, 1)
def hi_X10_rides : hI := (yX10_rides, prog_12_method_44_code, 4, some .boolean, 5, 1045, 1044, 82, 102, 1)
def hi_X10_speedBy : hI := (yX10_speedBy, prog_12_method_55_code, 5, some .int, 5, 1093, 1092, 89, 102, 1)
def hi_X10_tells : hI := (yX10_tells, prog_12_method_16_code, 2, some .int, 5, 896, 894, 895, 102, 1)
def hi_X10_ticks : hI := (yX10_ticks, prog_12_method_36_code, 3, some .int, 5, 958, 956, 957, 102, 1)
def hi_X9_possibleIce : hI := (yX9_possibleIce, prog_1_method_26_code, 3, some .int, 5, 748, 747, 54, 92, 1)
def hi_X9_tells : hI := (yX9_tells, prog_1_method_4_code, 2, some .int, 5, 435, 433, 434, 92, 1)
def hi_X10_dip : hI := (yX10_dip, prog_12_method_45_code, 3, some .int, 6, 1041, 1039, 1040, 102, 1)
def hi_X10_gust : hI := (yX10_gust, prog_12_method_43_code, 4, some .int, 6, 1029, 1027, 1028, 102, 1)
def hi_X10_isSo : hI := (yX10_isSo, prog_12_method_56_code, 4, some .boolean, 6, 1089, 1088, 88, 102, 1)
def hi_X10_mostAlike : hI := (yX10_mostAlike, prog_12_method_58_code, 7, some .int, 6, 1102, 1101, 90, 102, 1)
def hi_X9_ask : hI := (yX9_ask, prog_1_method_25_code, 6, some .int, 6, 760, 758, 759, 92, 1)
def hi_X9_which : hI := (yX9_which, prog_1_method_24_code, 1, some .int, 6, 744, 742, 743, 92, 1)
def hi_X10_which : hI := (yX10_which, prog_12_method_57_code, 3, some .int, 7, 1085, 1083, 1084, 102, 1)
def hi_X10_ask : hI := (yX10_ask, prog_12_method_59_code, 7, some .int, 8, 1097, 1095, 1096, 102, 1)
def hInf : List hI := [hi_J6_bitCount_0f7a4, hi_J9_abs_0f7a4, hi_J9_floorDiv_7cf53, hi_J9_floorMod_7cf53, hi_J9_max_7cf53, hi_J9_min_7cf53, hi_X10_away, hi_X10_clear, hi_X10_count, hi_X10_forget, hi_X10_in, hi_X10_isToldAlready, hi_X10_leastOf, hi_X10_mostOf, hi_X10_notes, hi_X10_notesSpeed, hi_X10_pitchGoal, hi_X10_plain, hi_X10_record, hi_X10_takesOver, hi_X10_towards, hi_X10_tries, hi_X10_turns, hi_X10_undo, hi_X10_unlikeOnes, hi_X10_whichOf, hi_X1_lose, hi_X2_allHalves, hi_X2_findTurn, hi_X2_placeOf, hi_X3_isTold, hi_X3_settingOf, hi_X3_takesEnd, hi_X4_add, hi_X5_become, hi_X5_put, hi_X5_startAnew, hi_X5_tell, hi_X6_append, hi_X6_letterAt, hi_X7_startAnew, hi_X8_ahead, hi_X8_become, hi_X8_drag, hi_X8_isWound, hi_X8_startAnew, hi_X8_torqueAim, hi_X8_turnBy, hi_X9_alikeUpTo, hi_X9_clear, hi_X9_count, hi_X9_forget, hi_X9_isWithin, hi_X9_loseImages, hi_X0_startAnew, hi_X10_back, hi_X10_becomes, hi_X10_blows, hi_X10_closes, hi_X10_counts, hi_X10_errorOf, hi_X10_findsTurns, hi_X10_ices, hi_X10_init, hi_X10_isFigure, hi_X10_isWound, hi_X10_keep, hi_X10_resets, hi_X10_sees, hi_X10_setting, hi_X10_type, hi_X2_addHalves, hi_X2_greatestDifference, hi_X2_halvesOf, hi_X2_init, hi_X2_isCycleInside, hi_X3_takesLetter, hi_X4_init, hi_X5_init, hi_X5_mayBe, hi_X6_behindBlanks, hi_X6_init, hi_X6_isFigureAt, hi_X7_add, hi_X7_become, hi_X7_init, hi_X7_speedAgo, hi_X8_drive, hi_X8_error, hi_X8_init, hi_X8_nearer, hi_X8_nextMode, hi_X8_pitchAim, hi_X8_turn, hi_X9_sees, hi_X9_setting, hi_X9_type, hi_X0_become, hi_X0_init, hi_X10_driveOf, hi_X10_grids, hi_X10_looksUp, hi_X10_modeOf, hi_X10_next, hi_X10_rains, hi_X10_wants, hi_X2_addToRow, hi_X3_init, hi_X3_takesNumber, hi_X6_behindToken, hi_X6_numberAt, hi_X8_step, hi_X8_tell, hi_X9_record, hi_X0_tick, hi_X10_halvesOf, hi_X10_holds, hi_X10_must, hi_X10_now, hi_X10_rain, hi_X1_add, hi_X1_init, hi_X1_takeLatest, hi_X2_pour, hi_X3_takes, hi_X9_back, hi_X9_bearsGust, hi_X9_keep, hi_X9_now, hi_X9_ridesDip, hi_X9_speedAfter, hi_X10_goesOn, hi_X10_halves, hi_X10_readsItem, hi_X3_read, hi_X9_agreesWithSeen, hi_X9_blows, hi_X9_dip, hi_X9_grids, hi_X9_gust, hi_X9_halves, hi_X9_ices, hi_X9_init, hi_X9_mostAlike, hi_X9_rain, hi_X9_resets, hi_X9_ticks, hi_X9_undo, hi_X9_wants, hi_X10_bears, hi_X10_rides, hi_X10_speedBy, hi_X10_tells, hi_X10_ticks, hi_X9_possibleIce, hi_X9_tells, hi_X10_dip, hi_X10_gust, hi_X10_isSo, hi_X10_mostAlike, hi_X9_ask, hi_X9_which, hi_X10_which, hi_X10_ask]
theorem hin_X0 : ∀ w ∈ u_ws RX0 TX0 4, w ∈ lw_tbl := fun w h => (goodIn_r9 (big := lw_tbl) (u_ws RX0 TX0 4) [293, 295, 297, 299] (by decide +kernel) (by decide +kernel) w h).1
theorem hin_X1 : ∀ w ∈ u_ws RX1 TX1 3, w ∈ lw_tbl := fun w h => (goodIn_r9 (big := lw_tbl) (u_ws RX1 TX1 3) [315, 317, 319] (by decide +kernel) (by decide +kernel) w h).1
theorem hin_X2 : ∀ w ∈ u_ws RX2 TX2 8, w ∈ lw_tbl := fun w h => (goodIn_r9 (big := lw_tbl) (u_ws RX2 TX2 8) [367, 369, 371, 373, 375, 377, 379, 381] (by decide +kernel) (by decide +kernel) w h).1
theorem hin_X3 : ∀ w ∈ u_ws RX3 TX3 5, w ∈ lw_tbl := fun w h => (goodIn_r9 (big := lw_tbl) (u_ws RX3 TX3 5) [181, 183, 185, 187, 189] (by decide +kernel) (by decide +kernel) w h).1
theorem hin_X4 : ∀ w ∈ u_ws RX4 TX4 5, w ∈ lw_tbl := fun w h => (goodIn_r9 (big := lw_tbl) (u_ws RX4 TX4 5) [338, 340, 342, 344, 346] (by decide +kernel) (by decide +kernel) w h).1
theorem hin_X5 : ∀ w ∈ u_ws RX5 TX5 6, w ∈ lw_tbl := fun w h => (goodIn_r9 (big := lw_tbl) (u_ws RX5 TX5 6) [138, 140, 142, 144, 146, 148] (by decide +kernel) (by decide +kernel) w h).1
theorem hin_X6 : ∀ w ∈ u_ws RX6 TX6 2, w ∈ lw_tbl := fun w h => (goodIn_r9 (big := lw_tbl) (u_ws RX6 TX6 2) [161, 163] (by decide +kernel) (by decide +kernel) w h).1
theorem hin_X7 : ∀ w ∈ u_ws RX7 TX7 3, w ∈ lw_tbl := fun w h => (goodIn_r9 (big := lw_tbl) (u_ws RX7 TX7 3) [278, 280, 282] (by decide +kernel) (by decide +kernel) w h).1
theorem hin_X8 : ∀ w ∈ u_ws RX8 TX8 16, w ∈ lw_tbl := fun w h => (goodIn_r9 (big := lw_tbl) (u_ws RX8 TX8 16) [234, 236, 238, 240, 242, 244, 246, 248, 250, 252, 254, 256, 258, 260, 262, 264] (by decide +kernel) (by decide +kernel) w h).1
theorem hin_X9 : ∀ w ∈ u_ws RX9 TX9 10, w ∈ lw_tbl := fun w h => (goodIn_r9 (big := lw_tbl) (u_ws RX9 TX9 10) [396, 398, 400, 402, 404, 406, 408, 410, 412, 414] (by decide +kernel) (by decide +kernel) w h).1
theorem hin_X10 : ∀ w ∈ u_ws RX10 TX10 26, w ∈ lw_tbl := fun w h => (goodIn_r9 (big := lw_tbl) (u_ws RX10 TX10 26) [829, 831, 833, 835, 837, 839, 841, 843, 845, 847, 849, 851, 853, 855, 857, 859, 861, 863, 865, 867, 869, 871, 873, 875, 877, 879] (by decide +kernel) (by decide +kernel) w h).1
def hRefT (o : Option FieldType) : Bool := match o with
  | some (.object _) => true
  | some (.array _) => true
  | _ => false
/-- a callee, as the tables have it -/
def hChkC (I : hI) (a b : Nat) (q : Nat) (idx : Nat) (d : Nat) (kind : Nat) (v : Int32) : Bool := match hInf[a]? with
  | some J => decide (J.2.2.2.2.1 < I.2.2.2.2.1) && (decide (lw_tbl[q]? = some (.methodLink I.1.cls idx J.1)) || decide (lw_tbl[q]? = some (.methodLinkNest I.1.cls idx J.1 "HeldBlades"))) && decide ((parseMethodDescriptor J.1.desc).map (fun d => d.parameters.length) = some b) && decide (J.2.2.2.2.2.2.2.2.2 = kind) && (decide (kind = 0) || (decide (d < 11) && decide (J.1.cls = hR d))) && (match J.2.2.2.1 with
      | none => decide (v = 0)
      | some _ => decide (v = 1))
  | none => false
def hChkI (I : hI) (e : hE) : Bool := match e with
  | (pc, i, nx, a, b, d, q, v) => match i with
    | .iconst n => decide (Int32.ofInt n = v) && decide (nx = pc + 1)
    | .bipush n => decide ((Int8.ofInt n).toInt32 = v) && decide (nx = pc + 2)
    | .sipush n => decide ((Int16.ofInt n).toInt32 = v) && decide (nx = pc + 3)
    | .ldc j => decide (lw_tbl[q]? = some (.constant I.1.cls j v)) && decide (nx = pc + 2)
    | .ldc_w j => decide (lw_tbl[q]? = some (.constant I.1.cls j v)) && decide (nx = pc + 3)
    | .iload_n k => decide (k.val = a) && decide (nx = pc + 1)
    | .aload_n k => decide (k.val = a) && decide (nx = pc + 1)
    | .istore_n k => decide (k.val = a) && decide (nx = pc + 1) && decide (a < I.2.2.1)
    | .astore_n k => decide (k.val = a) && decide (nx = pc + 1) && decide (a < I.2.2.1)
    | .iload k => decide (k = a) && decide (nx = pc + 2)
    | .istore k => decide (k = a) && decide (nx = pc + 2) && decide (a < I.2.2.1)
    | .iinc k n => decide (k = a) && decide (Int32.ofInt n = v) && decide (nx = pc + 3) && decide (a < I.2.2.1)
    | .if_icmp _ off => decide ((pc : Int) + off = (a : Int)) && decide (nx = pc + 3)
    | .ifCond _ off => decide ((pc : Int) + off = (a : Int)) && decide (nx = pc + 3)
    | .goto off => decide ((pc : Int) + off = (a : Int)) && decide (nx = pc + 3)
    | .tableswitch d lo hi offs => decide (hi - lo + 1 = (offs.size : Int)) && decide (0 ≤ (pc : Int) + d) && offs.all (fun o => decide (0 ≤ (pc : Int) + o))
    | .lookupswitch d ps => (ps.toList.zip (ps.toList.drop 1)).all (fun (a, next) => a.1 < next.1) && decide (0 ≤ (pc : Int) + d) && ps.toList.all (fun o => decide (0 ≤ (pc : Int) + o.2))
    | .getfield idx => decide (a < 11) && decide (b < hNf.getD a 0) && (decide (lw_tbl[q]? = some (.fieldLink I.1.cls idx (hT a b).1 (hT a b).2.1 (hT a b).2.2.1)) || decide (lw_tbl[q]? = some (.fieldLinkNest I.1.cls idx (hT a b).1 (hT a b).2.1 (hT a b).2.2.1 "HeldBlades"))) && decide (d = if hRef a b then 1 else 0) && decide (nx = pc + 3)
    | .putfield idx => decide (a < 11) && decide (b < hNf.getD a 0) && decide (nx = pc + 3) && (match d with
        | 1 => hRef a b && decide (lw_tbl[q]? = some (.fieldLink I.1.cls idx (hT a b).1 (hT a b).2.1 (hT a b).2.2.1)) && decide ((hT a b).2.2.2 = true) && decide ((hT a b).1 = I.1.cls) && decide (I.1.name = "<init>") && hRefT (parseFieldDescriptor (hT a b).2.2.1)
        | 0 => !hRef a b && (decide (lw_tbl[q]? = some (.fieldLink I.1.cls idx (hT a b).1 (hT a b).2.1 (hT a b).2.2.1)) || decide (lw_tbl[q]? = some (.fieldLinkNest I.1.cls idx (hT a b).1 (hT a b).2.1 (hT a b).2.2.1 "HeldBlades"))) && decide ((hT a b).2.2.2 = false) && decide (parseFieldDescriptor (hT a b).2.2.1 = some .int)
        | 2 => !hRef a b && (decide (lw_tbl[q]? = some (.fieldLink I.1.cls idx (hT a b).1 (hT a b).2.1 (hT a b).2.2.1)) || decide (lw_tbl[q]? = some (.fieldLinkNest I.1.cls idx (hT a b).1 (hT a b).2.1 (hT a b).2.2.1 "HeldBlades"))) && decide ((hT a b).2.2.2 = false) && decide (parseFieldDescriptor (hT a b).2.2.1 = some .boolean)
        | _ => false)
    | .new idx => decide (a < 11) && decide (lw_tbl[q]? = some (.classLink I.1.cls idx (hR a))) && decide (nx = pc + 3)
    | .newarray .int => decide (a = 10000) && decide (nx = pc + 2)
    | .newarray .boolean => decide (a = 20000) && decide (nx = pc + 2)
    | .newarray _ => false
    | .aload _ => false
    | .anewarray idx => decide (lw_tbl[q]? = some (.classLink I.1.cls idx "HeldBlades$Moment")) && decide (nx = pc + 3)
    | .invokestatic idx => decide (nx = pc + 3) && (if a = 9999 then decide (lw_tbl[q]? = some (.methodLink I.1.cls idx arraycopyName)) && decide (1 ≤ I.2.2.2.2.1) else hChkC I a b q idx d 0 v)
    | .invokevirtual idx => decide (nx = pc + 3) && hChkC I a b q idx d 1 v
    | .invokespecial idx => decide (nx = pc + 3) && (if a = 9998 then decide (lw_tbl[q]? = some (.methodLink I.1.cls idx objectInit)) && decide (1 ≤ I.2.2.2.2.1) else hChkC I a b q idx d 2 v)
    | .ireturn => decide (nx = pc + 1) && (match d with
        | 0 => decide (I.2.2.2.1 = some .int)
        | 2 => decide (I.2.2.2.1 = some .boolean)
        | _ => false)
    | .return_ => decide (nx = pc + 1) && decide (I.2.2.2.1 = none)
    | _ => decide (nx = pc + 1)
def hChkE (I : hI) (e : hE) : Bool := decide (decode I.2.1 e.1 = .ok (e.2.1, e.2.2.1 - e.1)) && hChkI I e
/-- the method's own words -/
def hChkW (I : hI) : Bool := decide (lw_tbl[I.2.2.2.2.2.1]? = some (.code I.1 I.2.1 I.2.2.1 I.2.2.2.1)) && decide (lw_tbl[I.2.2.2.2.2.2.2.2.1]? = some (.initialized I.1.cls)) && decide (plainFor I.1 = true) && decide (I.1.cls ≠ "java/lang/invoke/MethodHandle") && decide (I.1.cls ≠ "java/lang/invoke/VarHandle") && decide (I.2.2.1 ≤ 20) && (match I.2.2.2.2.2.2.2.2.2 with
  | 0 => decide (lw_tbl[I.2.2.2.2.2.2.1]? = some (.static I.1))
  | 1 => decide (lw_tbl[I.2.2.2.2.2.2.1]? = some (.instanceMethod I.1)) && decide (lw_tbl[I.2.2.2.2.2.2.2.1]? = some (.selects I.1.cls I.1 I.1))
  | 2 => decide (lw_tbl[I.2.2.2.2.2.2.1]? = some (.instanceMethod I.1)) && decide (I.1.name = "<init>") && decide (I.2.2.2.1 = none)
  | _ => false)
def hChkM (I : hI) (C : hC) : Bool := decide (C.1 = I.2.2.1) && hChkW I && C.2.all (fun b => b.all (hChkE I))
theorem hk_J6_bitCount_0f7a4 : hChkM hi_J6_bitCount_0f7a4 hc_J6_bitCount_0f7a4 = true := by decide +kernel
theorem hk_J9_abs_0f7a4 : hChkM hi_J9_abs_0f7a4 hc_J9_abs_0f7a4 = true := by decide +kernel
theorem hk_J9_floorDiv_7cf53 : hChkM hi_J9_floorDiv_7cf53 hc_J9_floorDiv_7cf53 = true := by decide +kernel
theorem hk_J9_floorMod_7cf53 : hChkM hi_J9_floorMod_7cf53 hc_J9_floorMod_7cf53 = true := by decide +kernel
theorem hk_J9_max_7cf53 : hChkM hi_J9_max_7cf53 hc_J9_max_7cf53 = true := by decide +kernel
theorem hk_J9_min_7cf53 : hChkM hi_J9_min_7cf53 hc_J9_min_7cf53 = true := by decide +kernel
theorem hk_X10_away : hChkM hi_X10_away hc_X10_away = true := by decide +kernel
theorem hk_X10_clear : hChkM hi_X10_clear hc_X10_clear = true := by decide +kernel
theorem hk_X10_count : hChkM hi_X10_count hc_X10_count = true := by decide +kernel
theorem hk_X10_forget : hChkM hi_X10_forget hc_X10_forget = true := by decide +kernel
theorem hk_X10_in : hChkM hi_X10_in hc_X10_in = true := by decide +kernel
theorem hk_X10_isToldAlready : hChkM hi_X10_isToldAlready hc_X10_isToldAlready = true := by decide +kernel
theorem hk_X10_leastOf : hChkM hi_X10_leastOf hc_X10_leastOf = true := by decide +kernel
theorem hk_X10_mostOf : hChkM hi_X10_mostOf hc_X10_mostOf = true := by decide +kernel
theorem hk_X10_notes : hChkM hi_X10_notes hc_X10_notes = true := by decide +kernel
theorem hk_X10_notesSpeed : hChkM hi_X10_notesSpeed hc_X10_notesSpeed = true := by decide +kernel
theorem hk_X10_pitchGoal : hChkM hi_X10_pitchGoal hc_X10_pitchGoal = true := by decide +kernel
theorem hk_X10_plain : hChkM hi_X10_plain hc_X10_plain = true := by decide +kernel
theorem hk_X10_record : hChkM hi_X10_record hc_X10_record = true := by decide +kernel
theorem hk_X10_takesOver : hChkM hi_X10_takesOver hc_X10_takesOver = true := by decide +kernel
theorem hk_X10_towards : hChkM hi_X10_towards hc_X10_towards = true := by decide +kernel
theorem hk_X10_tries : hChkM hi_X10_tries hc_X10_tries = true := by decide +kernel
theorem hk_X10_turns : hChkM hi_X10_turns hc_X10_turns = true := by decide +kernel
theorem hk_X10_undo : hChkM hi_X10_undo hc_X10_undo = true := by decide +kernel
theorem hk_X10_unlikeOnes : hChkM hi_X10_unlikeOnes hc_X10_unlikeOnes = true := by decide +kernel
theorem hk_X10_whichOf : hChkM hi_X10_whichOf hc_X10_whichOf = true := by decide +kernel
theorem hk_X1_lose : hChkM hi_X1_lose hc_X1_lose = true := by decide +kernel
theorem hk_X2_allHalves : hChkM hi_X2_allHalves hc_X2_allHalves = true := by decide +kernel
theorem hk_X2_findTurn : hChkM hi_X2_findTurn hc_X2_findTurn = true := by decide +kernel
theorem hk_X2_placeOf : hChkM hi_X2_placeOf hc_X2_placeOf = true := by decide +kernel
theorem hk_X3_isTold : hChkM hi_X3_isTold hc_X3_isTold = true := by decide +kernel
theorem hk_X3_settingOf : hChkM hi_X3_settingOf hc_X3_settingOf = true := by decide +kernel
theorem hk_X3_takesEnd : hChkM hi_X3_takesEnd hc_X3_takesEnd = true := by decide +kernel
theorem hk_X4_add : hChkM hi_X4_add hc_X4_add = true := by decide +kernel
theorem hk_X5_become : hChkM hi_X5_become hc_X5_become = true := by decide +kernel
theorem hk_X5_put : hChkM hi_X5_put hc_X5_put = true := by decide +kernel
theorem hk_X5_startAnew : hChkM hi_X5_startAnew hc_X5_startAnew = true := by decide +kernel
theorem hk_X5_tell : hChkM hi_X5_tell hc_X5_tell = true := by decide +kernel
theorem hk_X6_append : hChkM hi_X6_append hc_X6_append = true := by decide +kernel
theorem hk_X6_letterAt : hChkM hi_X6_letterAt hc_X6_letterAt = true := by decide +kernel
theorem hk_X7_startAnew : hChkM hi_X7_startAnew hc_X7_startAnew = true := by decide +kernel
theorem hk_X8_ahead : hChkM hi_X8_ahead hc_X8_ahead = true := by decide +kernel
theorem hk_X8_become : hChkM hi_X8_become hc_X8_become = true := by decide +kernel
theorem hk_X8_drag : hChkM hi_X8_drag hc_X8_drag = true := by decide +kernel
theorem hk_X8_isWound : hChkM hi_X8_isWound hc_X8_isWound = true := by decide +kernel
theorem hk_X8_startAnew : hChkM hi_X8_startAnew hc_X8_startAnew = true := by decide +kernel
theorem hk_X8_torqueAim : hChkM hi_X8_torqueAim hc_X8_torqueAim = true := by decide +kernel
theorem hk_X8_turnBy : hChkM hi_X8_turnBy hc_X8_turnBy = true := by decide +kernel
theorem hk_X9_alikeUpTo : hChkM hi_X9_alikeUpTo hc_X9_alikeUpTo = true := by decide +kernel
theorem hk_X9_clear : hChkM hi_X9_clear hc_X9_clear = true := by decide +kernel
theorem hk_X9_count : hChkM hi_X9_count hc_X9_count = true := by decide +kernel
theorem hk_X9_forget : hChkM hi_X9_forget hc_X9_forget = true := by decide +kernel
theorem hk_X9_isWithin : hChkM hi_X9_isWithin hc_X9_isWithin = true := by decide +kernel
theorem hk_X9_loseImages : hChkM hi_X9_loseImages hc_X9_loseImages = true := by decide +kernel
theorem hk_X0_startAnew : hChkM hi_X0_startAnew hc_X0_startAnew = true := by decide +kernel
theorem hk_X10_back : hChkM hi_X10_back hc_X10_back = true := by decide +kernel
theorem hk_X10_becomes : hChkM hi_X10_becomes hc_X10_becomes = true := by decide +kernel
theorem hk_X10_blows : hChkM hi_X10_blows hc_X10_blows = true := by decide +kernel
theorem hk_X10_closes : hChkM hi_X10_closes hc_X10_closes = true := by decide +kernel
theorem hk_X10_counts : hChkM hi_X10_counts hc_X10_counts = true := by decide +kernel
theorem hk_X10_errorOf : hChkM hi_X10_errorOf hc_X10_errorOf = true := by decide +kernel
theorem hk_X10_findsTurns : hChkM hi_X10_findsTurns hc_X10_findsTurns = true := by decide +kernel
theorem hk_X10_ices : hChkM hi_X10_ices hc_X10_ices = true := by decide +kernel
theorem hk_X10_init : hChkM hi_X10_init hc_X10_init = true := by decide +kernel
theorem hk_X10_isFigure : hChkM hi_X10_isFigure hc_X10_isFigure = true := by decide +kernel
theorem hk_X10_isWound : hChkM hi_X10_isWound hc_X10_isWound = true := by decide +kernel
theorem hk_X10_keep : hChkM hi_X10_keep hc_X10_keep = true := by decide +kernel
theorem hk_X10_resets : hChkM hi_X10_resets hc_X10_resets = true := by decide +kernel
theorem hk_X10_sees : hChkM hi_X10_sees hc_X10_sees = true := by decide +kernel
theorem hk_X10_setting : hChkM hi_X10_setting hc_X10_setting = true := by decide +kernel
theorem hk_X10_type : hChkM hi_X10_type hc_X10_type = true := by decide +kernel
theorem hk_X2_addHalves : hChkM hi_X2_addHalves hc_X2_addHalves = true := by decide +kernel
theorem hk_X2_greatestDifference : hChkM hi_X2_greatestDifference hc_X2_greatestDifference = true := by decide +kernel
theorem hk_X2_halvesOf : hChkM hi_X2_halvesOf hc_X2_halvesOf = true := by decide +kernel
theorem hk_X2_init : hChkM hi_X2_init hc_X2_init = true := by decide +kernel
theorem hk_X2_isCycleInside : hChkM hi_X2_isCycleInside hc_X2_isCycleInside = true := by decide +kernel
theorem hk_X3_takesLetter : hChkM hi_X3_takesLetter hc_X3_takesLetter = true := by decide +kernel
theorem hk_X4_init : hChkM hi_X4_init hc_X4_init = true := by decide +kernel
theorem hk_X5_init : hChkM hi_X5_init hc_X5_init = true := by decide +kernel
theorem hk_X5_mayBe : hChkM hi_X5_mayBe hc_X5_mayBe = true := by decide +kernel
theorem hk_X6_behindBlanks : hChkM hi_X6_behindBlanks hc_X6_behindBlanks = true := by decide +kernel
theorem hk_X6_init : hChkM hi_X6_init hc_X6_init = true := by decide +kernel
theorem hk_X6_isFigureAt : hChkM hi_X6_isFigureAt hc_X6_isFigureAt = true := by decide +kernel
theorem hk_X7_add : hChkM hi_X7_add hc_X7_add = true := by decide +kernel
theorem hk_X7_become : hChkM hi_X7_become hc_X7_become = true := by decide +kernel
theorem hk_X7_init : hChkM hi_X7_init hc_X7_init = true := by decide +kernel
theorem hk_X7_speedAgo : hChkM hi_X7_speedAgo hc_X7_speedAgo = true := by decide +kernel
theorem hk_X8_drive : hChkM hi_X8_drive hc_X8_drive = true := by decide +kernel
theorem hk_X8_error : hChkM hi_X8_error hc_X8_error = true := by decide +kernel
theorem hk_X8_init : hChkM hi_X8_init hc_X8_init = true := by decide +kernel
theorem hk_X8_nearer : hChkM hi_X8_nearer hc_X8_nearer = true := by decide +kernel
theorem hk_X8_nextMode : hChkM hi_X8_nextMode hc_X8_nextMode = true := by decide +kernel
theorem hk_X8_pitchAim : hChkM hi_X8_pitchAim hc_X8_pitchAim = true := by decide +kernel
theorem hk_X8_turn : hChkM hi_X8_turn hc_X8_turn = true := by decide +kernel
theorem hk_X9_sees : hChkM hi_X9_sees hc_X9_sees = true := by decide +kernel
theorem hk_X9_setting : hChkM hi_X9_setting hc_X9_setting = true := by decide +kernel
theorem hk_X9_type : hChkM hi_X9_type hc_X9_type = true := by decide +kernel
theorem hk_X0_become : hChkM hi_X0_become hc_X0_become = true := by decide +kernel
theorem hk_X0_init : hChkM hi_X0_init hc_X0_init = true := by decide +kernel
theorem hk_X10_driveOf : hChkM hi_X10_driveOf hc_X10_driveOf = true := by decide +kernel
theorem hk_X10_grids : hChkM hi_X10_grids hc_X10_grids = true := by decide +kernel
theorem hk_X10_looksUp : hChkM hi_X10_looksUp hc_X10_looksUp = true := by decide +kernel
theorem hk_X10_modeOf : hChkM hi_X10_modeOf hc_X10_modeOf = true := by decide +kernel
theorem hk_X10_next : hChkM hi_X10_next hc_X10_next = true := by decide +kernel
theorem hk_X10_rains : hChkM hi_X10_rains hc_X10_rains = true := by decide +kernel
theorem hk_X10_wants : hChkM hi_X10_wants hc_X10_wants = true := by decide +kernel
theorem hk_X2_addToRow : hChkM hi_X2_addToRow hc_X2_addToRow = true := by decide +kernel
theorem hk_X3_init : hChkM hi_X3_init hc_X3_init = true := by decide +kernel
theorem hk_X3_takesNumber : hChkM hi_X3_takesNumber hc_X3_takesNumber = true := by decide +kernel
theorem hk_X6_behindToken : hChkM hi_X6_behindToken hc_X6_behindToken = true := by decide +kernel
theorem hk_X6_numberAt : hChkM hi_X6_numberAt hc_X6_numberAt = true := by decide +kernel
theorem hk_X8_step : hChkM hi_X8_step hc_X8_step = true := by decide +kernel
theorem hk_X8_tell : hChkM hi_X8_tell hc_X8_tell = true := by decide +kernel
theorem hk_X9_record : hChkM hi_X9_record hc_X9_record = true := by decide +kernel
theorem hk_X0_tick : hChkM hi_X0_tick hc_X0_tick = true := by decide +kernel
theorem hk_X10_halvesOf : hChkM hi_X10_halvesOf hc_X10_halvesOf = true := by decide +kernel
theorem hk_X10_holds : hChkM hi_X10_holds hc_X10_holds = true := by decide +kernel
theorem hk_X10_must : hChkM hi_X10_must hc_X10_must = true := by decide +kernel
theorem hk_X10_now : hChkM hi_X10_now hc_X10_now = true := by decide +kernel
theorem hk_X10_rain : hChkM hi_X10_rain hc_X10_rain = true := by decide +kernel
theorem hk_X1_add : hChkM hi_X1_add hc_X1_add = true := by decide +kernel
theorem hk_X1_init : hChkM hi_X1_init hc_X1_init = true := by decide +kernel
theorem hk_X1_takeLatest : hChkM hi_X1_takeLatest hc_X1_takeLatest = true := by decide +kernel
theorem hk_X2_pour : hChkM hi_X2_pour hc_X2_pour = true := by decide +kernel
theorem hk_X3_takes : hChkM hi_X3_takes hc_X3_takes = true := by decide +kernel
theorem hk_X9_back : hChkM hi_X9_back hc_X9_back = true := by decide +kernel
theorem hk_X9_bearsGust : hChkM hi_X9_bearsGust hc_X9_bearsGust = true := by decide +kernel
theorem hk_X9_keep : hChkM hi_X9_keep hc_X9_keep = true := by decide +kernel
theorem hk_X9_now : hChkM hi_X9_now hc_X9_now = true := by decide +kernel
theorem hk_X9_ridesDip : hChkM hi_X9_ridesDip hc_X9_ridesDip = true := by decide +kernel
theorem hk_X9_speedAfter : hChkM hi_X9_speedAfter hc_X9_speedAfter = true := by decide +kernel
theorem hk_X10_goesOn : hChkM hi_X10_goesOn hc_X10_goesOn = true := by decide +kernel
theorem hk_X10_halves : hChkM hi_X10_halves hc_X10_halves = true := by decide +kernel
theorem hk_X10_readsItem : hChkM hi_X10_readsItem hc_X10_readsItem = true := by decide +kernel
theorem hk_X3_read : hChkM hi_X3_read hc_X3_read = true := by decide +kernel
theorem hk_X9_agreesWithSeen : hChkM hi_X9_agreesWithSeen hc_X9_agreesWithSeen = true := by decide +kernel
theorem hk_X9_blows : hChkM hi_X9_blows hc_X9_blows = true := by decide +kernel
theorem hk_X9_dip : hChkM hi_X9_dip hc_X9_dip = true := by decide +kernel
theorem hk_X9_grids : hChkM hi_X9_grids hc_X9_grids = true := by decide +kernel
theorem hk_X9_gust : hChkM hi_X9_gust hc_X9_gust = true := by decide +kernel
theorem hk_X9_halves : hChkM hi_X9_halves hc_X9_halves = true := by decide +kernel
theorem hk_X9_ices : hChkM hi_X9_ices hc_X9_ices = true := by decide +kernel
theorem hk_X9_init : hChkM hi_X9_init hc_X9_init = true := by decide +kernel
theorem hk_X9_mostAlike : hChkM hi_X9_mostAlike hc_X9_mostAlike = true := by decide +kernel
theorem hk_X9_rain : hChkM hi_X9_rain hc_X9_rain = true := by decide +kernel
theorem hk_X9_resets : hChkM hi_X9_resets hc_X9_resets = true := by decide +kernel
theorem hk_X9_ticks : hChkM hi_X9_ticks hc_X9_ticks = true := by decide +kernel
theorem hk_X9_undo : hChkM hi_X9_undo hc_X9_undo = true := by decide +kernel
theorem hk_X9_wants : hChkM hi_X9_wants hc_X9_wants = true := by decide +kernel
theorem hk_X10_bears : hChkM hi_X10_bears hc_X10_bears = true := by decide +kernel
theorem hk_X10_rides : hChkM hi_X10_rides hc_X10_rides = true := by decide +kernel
theorem hk_X10_speedBy : hChkM hi_X10_speedBy hc_X10_speedBy = true := by decide +kernel
theorem hk_X10_tells : hChkM hi_X10_tells hc_X10_tells = true := by decide +kernel
theorem hk_X10_ticks : hChkM hi_X10_ticks hc_X10_ticks = true := by decide +kernel
theorem hk_X9_possibleIce : hChkM hi_X9_possibleIce hc_X9_possibleIce = true := by decide +kernel
theorem hk_X9_tells : hChkM hi_X9_tells hc_X9_tells = true := by decide +kernel
theorem hk_X10_dip : hChkM hi_X10_dip hc_X10_dip = true := by decide +kernel
theorem hk_X10_gust : hChkM hi_X10_gust hc_X10_gust = true := by decide +kernel
theorem hk_X10_isSo : hChkM hi_X10_isSo hc_X10_isSo = true := by decide +kernel
theorem hk_X10_mostAlike : hChkM hi_X10_mostAlike hc_X10_mostAlike = true := by decide +kernel
theorem hk_X9_ask : hChkM hi_X9_ask hc_X9_ask = true := by decide +kernel
theorem hk_X9_which : hChkM hi_X9_which hc_X9_which = true := by decide +kernel
theorem hk_X10_which : hChkM hi_X10_which hc_X10_which = true := by decide +kernel
theorem hk_X10_ask : hChkM hi_X10_ask hc_X10_ask = true := by decide +kernel
