abbrev cX0_init : ByteArray := prog_2_method_1_code
abbrev cX0_alike : ByteArray := prog_2_method_2_code
abbrev cX0_fewestTuned : ByteArray := prog_2_method_3_code
abbrev cX0_fewestEars : ByteArray := prog_2_method_4_code
abbrev cX0_partnerAlikes : ByteArray := prog_2_method_5_code
abbrev cX0_areAlike : ByteArray := prog_2_method_6_code
abbrev cX0_fewestOfEachTwo : ByteArray := prog_2_method_7_code
abbrev cX0_hasOneOfEachTwo : ByteArray := prog_2_method_8_code
abbrev cX0_mostMilk : ByteArray := prog_2_method_9_code
abbrev cX0_fieldInHerd : ByteArray := prog_2_method_10_code
abbrev cX0_bestField : ByteArray := prog_2_method_11_code
abbrev cX0_measureHerds : ByteArray := prog_2_method_12_code
abbrev cX0_milkWith : ByteArray := prog_2_method_13_code
abbrev cX1_init : ByteArray := prog_3_method_1_code
abbrev cX1_isString : ByteArray := prog_3_method_2_code
abbrev cX1_soundTo : ByteArray := prog_3_method_3_code
abbrev cX1_fifthsAt : ByteArray := prog_3_method_4_code
abbrev cX1_isStringAt : ByteArray := prog_3_method_5_code
abbrev cX1_beastsThatSound : ByteArray := prog_3_method_6_code
abbrev cX2_init : ByteArray := prog_4_method_1_code
abbrev cX2_takes : ByteArray := prog_4_method_2_code
abbrev cX2_rowsFrom : ByteArray := prog_4_method_3_code
abbrev cX2_crossAll : ByteArray := prog_4_method_4_code
abbrev cX2_endsOf : ByteArray := prog_4_method_5_code
abbrev cX2_endsBehind : ByteArray := prog_4_method_6_code
abbrev cX2_kindsThatCan : ByteArray := prog_4_method_7_code
abbrev cX2_fenceToWatch : ByteArray := prog_4_method_8_code
abbrev cX2_greatestCrowd : ByteArray := prog_4_method_9_code
abbrev cX2_comesTo : ByteArray := prog_4_method_10_code
abbrev cX3_init : ByteArray := prog_5_method_1_code
abbrev cX3_take : ByteArray := prog_5_method_2_code
abbrev cX3_give : ByteArray := prog_5_method_3_code
abbrev cX4_init : ByteArray := prog_6_method_1_code
abbrev cX4_begin : ByteArray := prog_6_method_2_code
abbrev cX4_copyFrom : ByteArray := prog_6_method_3_code
abbrev cX4_isAt : ByteArray := prog_6_method_4_code
abbrev cX4_across : ByteArray := prog_6_method_5_code
abbrev cX4_endBits : ByteArray := prog_6_method_6_code
abbrev cX5_init : ByteArray := prog_7_method_1_code
abbrev cX5_note : ByteArray := prog_7_method_2_code
abbrev cX5_restore : ByteArray := prog_7_method_3_code
abbrev cX5_copyFrom : ByteArray := prog_7_method_4_code
abbrev cX6_init : ByteArray := prog_8_method_1_code
abbrev cX6_fewestHeard : ByteArray := prog_8_method_2_code
abbrev cX6_fewestCrossings : ByteArray := prog_8_method_3_code
abbrev cX6_firstFence : ByteArray := prog_8_method_4_code
abbrev cX6_costOf : ByteArray := prog_8_method_5_code
abbrev cX6_measure : ByteArray := prog_8_method_6_code
abbrev cX6_frostParts : ByteArray := prog_8_method_7_code
abbrev cX6_frostUnheard : ByteArray := prog_8_method_8_code
abbrev cX6_snappedFences : ByteArray := prog_8_method_9_code
abbrev cX6_reaches : ByteArray := prog_8_method_10_code
abbrev cX6_power : ByteArray := prog_8_method_11_code
abbrev cX6_commonDivisor : ByteArray := prog_8_method_12_code
abbrev cX7_init : ByteArray := prog_9_method_1_code
abbrev cX7_begin : ByteArray := prog_9_method_2_code
abbrev cX7_copyFrom : ByteArray := prog_9_method_3_code
abbrev cX7_sing : ByteArray := prog_9_method_4_code
abbrev cX8_init : ByteArray := prog_10_method_1_code
abbrev cX8_takes : ByteArray := prog_10_method_2_code
abbrev cX8_tell : ByteArray := prog_10_method_3_code
abbrev cX8_tellsFields : ByteArray := prog_10_method_4_code
abbrev cX8_tellsFence : ByteArray := prog_10_method_5_code
abbrev cX8_tellsKind : ByteArray := prog_10_method_6_code
abbrev cX8_tellsBeast : ByteArray := prog_10_method_7_code
abbrev cX8_tellsWet : ByteArray := prog_10_method_8_code
abbrev cX8_number : ByteArray := prog_10_method_9_code
abbrev cX8_stops : ByteArray := prog_10_method_10_code
abbrev cX8_step : ByteArray := prog_10_method_11_code
abbrev cX8_stepLetters : ByteArray := prog_10_method_12_code
abbrev cX8_stepNumber : ByteArray := prog_10_method_13_code
abbrev cX8_isLetter : ByteArray := prog_10_method_14_code
abbrev cX8_isDigit : ByteArray := prog_10_method_15_code
abbrev cX9_init : ByteArray := prog_1_method_1_code
abbrev cX9_type : ByteArray := prog_1_method_2_code
abbrev cX9_clear : ByteArray := prog_1_method_3_code
abbrev cX9_downs : ByteArray := prog_1_method_4_code
abbrev cX9_fence : ByteArray := prog_1_method_5_code
abbrev cX9_kind : ByteArray := prog_1_method_6_code
abbrev cX9_beast : ByteArray := prog_1_method_7_code
abbrev cX9_sound : ByteArray := prog_1_method_8_code
abbrev cX9_goes : ByteArray := prog_1_method_9_code
abbrev cX9_cuts : ByteArray := prog_1_method_10_code
abbrev cX9_tunes : ByteArray := prog_1_method_11_code
abbrev cX9_lays : ByteArray := prog_1_method_12_code
abbrev cX9_rains : ByteArray := prog_1_method_13_code
abbrev cX9_undo : ByteArray := prog_1_method_14_code
abbrev cX9_now : ByteArray := prog_1_method_15_code
abbrev cX9_song : ByteArray := prog_1_method_16_code
abbrev cX9_who : ByteArray := prog_1_method_17_code
abbrev cX9_hears : ByteArray := prog_1_method_18_code
abbrev cX9_forget : ByteArray := prog_1_method_19_code
abbrev cX9_ways : ByteArray := prog_1_method_20_code
abbrev cX9_ends : ByteArray := prog_1_method_21_code
abbrev cX9_can : ByteArray := prog_1_method_22_code
abbrev cX9_ask : ByteArray := prog_1_method_23_code
abbrev cX9_quiet : ByteArray := prog_1_method_24_code
abbrev cX9_fifths : ByteArray := prog_1_method_25_code
abbrev cX9_herd : ByteArray := prog_1_method_26_code
abbrev cX9_frost : ByteArray := prog_1_method_27_code
abbrev cX9_mark : ByteArray := prog_1_method_28_code
abbrev cX9_keep : ByteArray := prog_1_method_29_code
abbrev cX9_back : ByteArray := prog_1_method_30_code
abbrev cX9_count : ByteArray := prog_1_method_31_code
abbrev cX9_trace : ByteArray := prog_1_method_32_code
abbrev cX9_beginAnew : ByteArray := prog_1_method_33_code
abbrev cX9_isField : ByteArray := prog_1_method_34_code
abbrev cX9_isFence : ByteArray := prog_1_method_35_code
abbrev cX9_isKind : ByteArray := prog_1_method_36_code
abbrev cX9_isBeast : ByteArray := prog_1_method_37_code
abbrev cX9_isImage : ByteArray := prog_1_method_38_code
abbrev cX9_isFlag : ByteArray := prog_1_method_39_code
abbrev cX9_markString : ByteArray := prog_1_method_40_code
abbrev cX9_markBass : ByteArray := prog_1_method_41_code
abbrev cX9_markTreble : ByteArray := prog_1_method_42_code
abbrev cX9_markBull : ByteArray := prog_1_method_43_code
abbrev cX9_markLark : ByteArray := prog_1_method_44_code
abbrev cX9_markPedal : ByteArray := prog_1_method_45_code
abbrev cX10_init : ByteArray := prog_12_method_1_code
abbrev cX10_in : ByteArray := prog_12_method_3_code
abbrev cX10_has : ByteArray := prog_12_method_4_code
abbrev cX10_type : ByteArray := prog_12_method_5_code
abbrev cX10_clear : ByteArray := prog_12_method_6_code
abbrev cX10_here : ByteArray := prog_12_method_7_code
abbrev cX10_step : ByteArray := prog_12_method_8_code
abbrev cX10_due : ByteArray := prog_12_method_9_code
abbrev cX10_number : ByteArray := prog_12_method_10_code
abbrev cX10_item : ByteArray := prog_12_method_11_code
abbrev cX10_may : ByteArray := prog_12_method_12_code
abbrev cX10_read : ByteArray := prog_12_method_13_code
abbrev cX10_downs : ByteArray := prog_12_method_14_code
abbrev cX10_isField : ByteArray := prog_12_method_15_code
abbrev cX10_isFence : ByteArray := prog_12_method_16_code
abbrev cX10_isKind : ByteArray := prog_12_method_17_code
abbrev cX10_isBeast : ByteArray := prog_12_method_18_code
abbrev cX10_soundOf : ByteArray := prog_12_method_19_code
abbrev cX10_isAt : ByteArray := prog_12_method_20_code
abbrev cX10_across : ByteArray := prog_12_method_21_code
abbrev cX10_isString : ByteArray := prog_12_method_22_code
abbrev cX10_bitsOf : ByteArray := prog_12_method_23_code
abbrev cX10_allOf : ByteArray := prog_12_method_24_code
abbrev cX10_fence : ByteArray := prog_12_method_25_code
abbrev cX10_kind : ByteArray := prog_12_method_26_code
abbrev cX10_beast : ByteArray := prog_12_method_27_code
abbrev cX10_sound : ByteArray := prog_12_method_28_code
abbrev cX10_know : ByteArray := prog_12_method_29_code
abbrev cX10_sing : ByteArray := prog_12_method_30_code
abbrev cX10_goes : ByteArray := prog_12_method_31_code
abbrev cX10_cuts : ByteArray := prog_12_method_32_code
abbrev cX10_tunes : ByteArray := prog_12_method_33_code
abbrev cX10_lays : ByteArray := prog_12_method_34_code
abbrev cX10_rains : ByteArray := prog_12_method_35_code
abbrev cX10_undo : ByteArray := prog_12_method_36_code
abbrev cX10_areAlike : ByteArray := prog_12_method_37_code
abbrev cX10_alike : ByteArray := prog_12_method_38_code
abbrev cX10_areApart : ByteArray := prog_12_method_39_code
abbrev cX10_areHeard : ByteArray := prog_12_method_40_code
abbrev cX10_fewest : ByteArray := prog_12_method_41_code
abbrev cX10_now : ByteArray := prog_12_method_42_code
abbrev cX10_song : ByteArray := prog_12_method_43_code
abbrev cX10_who : ByteArray := prog_12_method_44_code
abbrev cX10_hears : ByteArray := prog_12_method_45_code
abbrev cX10_forget : ByteArray := prog_12_method_46_code
abbrev cX10_ways : ByteArray := prog_12_method_47_code
abbrev cX10_endsOf : ByteArray := prog_12_method_48_code
abbrev cX10_ends : ByteArray := prog_12_method_49_code
abbrev cX10_can : ByteArray := prog_12_method_50_code
abbrev cX10_comesTo : ByteArray := prog_12_method_51_code
abbrev cX10_ask : ByteArray := prog_12_method_52_code
abbrev cX10_costOf : ByteArray := prog_12_method_53_code
abbrev cX10_measure : ByteArray := prog_12_method_54_code
abbrev cX10_quiet : ByteArray := prog_12_method_55_code
abbrev cX10_fifthsOf : ByteArray := prog_12_method_56_code
abbrev cX10_fifths : ByteArray := prog_12_method_57_code
abbrev cX10_milkBy : ByteArray := prog_12_method_58_code
abbrev cX10_herd : ByteArray := prog_12_method_59_code
abbrev cX10_isUnheard : ByteArray := prog_12_method_60_code
abbrev cX10_frost : ByteArray := prog_12_method_61_code
abbrev cX10_bodiesOf : ByteArray := prog_12_method_62_code
abbrev cX10_mark : ByteArray := prog_12_method_63_code
abbrev cX10_trace : ByteArray := prog_12_method_64_code
abbrev cX10_keep : ByteArray := prog_12_method_65_code
abbrev cX10_back : ByteArray := prog_12_method_66_code
abbrev cX10_count : ByteArray := prog_12_method_67_code
abbrev cJ6_bitCount_0f7a4 : ByteArray := prog_13_method_49_code
abbrev cJ9_abs_0f7a4 : ByteArray := prog_14_method_59_code
abbrev cJ9_max_7cf53 : ByteArray := prog_14_method_65_code
abbrev cJ9_min_7cf53 : ByteArray := prog_14_method_69_code
abbrev cL_law : ByteArray := code
theorem dX0_init_0 : decode cX0_init 0 = .ok (.aload_n 0, 1) := by decide +kernel
theorem dX0_init_1 : decode cX0_init 1 = .ok (.invokespecial 3, 3) := by decide +kernel
theorem dX0_init_4 : decode cX0_init 4 = .ok (.aload_n 0, 1) := by decide +kernel
theorem dX0_init_5 : decode cX0_init 5 = .ok (.bipush 8, 2) := by decide +kernel
theorem dX0_init_7 : decode cX0_init 7 = .ok (.bipush 8, 2) := by decide +kernel
theorem dX0_init_9 : decode cX0_init 9 = .ok (.invokestatic 9, 3) := by decide +kernel
theorem dX0_init_12 : decode cX0_init 12 = .ok (.newarray .int, 2) := by decide +kernel
theorem dX0_init_14 : decode cX0_init 14 = .ok (.putfield 15, 3) := by decide +kernel
theorem dX0_init_17 : decode cX0_init 17 = .ok (.aload_n 0, 1) := by decide +kernel
theorem dX0_init_18 : decode cX0_init 18 = .ok (.bipush 8, 2) := by decide +kernel
theorem dX0_init_20 : decode cX0_init 20 = .ok (.newarray .int, 2) := by decide +kernel
theorem dX0_init_22 : decode cX0_init 22 = .ok (.putfield 21, 3) := by decide +kernel
theorem dX0_init_25 : decode cX0_init 25 = .ok (.aload_n 0, 1) := by decide +kernel
theorem dX0_init_26 : decode cX0_init 26 = .ok (.sipush 256, 3) := by decide +kernel
theorem dX0_init_29 : decode cX0_init 29 = .ok (.newarray .int, 2) := by decide +kernel
theorem dX0_init_31 : decode cX0_init 31 = .ok (.putfield 24, 3) := by decide +kernel
theorem dX0_init_34 : decode cX0_init 34 = .ok (.aload_n 0, 1) := by decide +kernel
theorem dX0_init_35 : decode cX0_init 35 = .ok (.aload_n 1, 1) := by decide +kernel
theorem dX0_init_36 : decode cX0_init 36 = .ok (.putfield 27, 3) := by decide +kernel
theorem dX0_init_39 : decode cX0_init 39 = .ok (.aload_n 0, 1) := by decide +kernel
theorem dX0_init_40 : decode cX0_init 40 = .ok (.aload_n 1, 1) := by decide +kernel
theorem dX0_init_41 : decode cX0_init 41 = .ok (.getfield 31, 3) := by decide +kernel
theorem dX0_init_44 : decode cX0_init 44 = .ok (.putfield 37, 3) := by decide +kernel
theorem dX0_init_47 : decode cX0_init 47 = .ok (.return_, 1) := by decide +kernel
theorem dX0_alike_0 : decode cX0_alike 0 = .ok (.aload_n 0, 1) := by decide +kernel
theorem dX0_alike_1 : decode cX0_alike 1 = .ok (.invokevirtual 38, 3) := by decide +kernel
theorem dX0_alike_4 : decode cX0_alike 4 = .ok (.iconst 0, 1) := by decide +kernel
theorem dX0_alike_5 : decode cX0_alike 5 = .ok (.istore_n 1, 1) := by decide +kernel
theorem dX0_alike_6 : decode cX0_alike 6 = .ok (.iconst 0, 1) := by decide +kernel
theorem dX0_alike_7 : decode cX0_alike 7 = .ok (.istore_n 2, 1) := by decide +kernel
theorem dX0_alike_8 : decode cX0_alike 8 = .ok (.iload_n 2, 1) := by decide +kernel
theorem dX0_alike_9 : decode cX0_alike 9 = .ok (.aload_n 0, 1) := by decide +kernel
theorem dX0_alike_10 : decode cX0_alike 10 = .ok (.getfield 37, 3) := by decide +kernel
theorem dX0_alike_13 : decode cX0_alike 13 = .ok (.getfield 41, 3) := by decide +kernel
theorem dX0_alike_16 : decode cX0_alike 16 = .ok (.if_icmp .ge 21, 3) := by decide +kernel
theorem dX0_alike_19 : decode cX0_alike 19 = .ok (.iload_n 1, 1) := by decide +kernel
theorem dX0_alike_20 : decode cX0_alike 20 = .ok (.aload_n 0, 1) := by decide +kernel
theorem dX0_alike_21 : decode cX0_alike 21 = .ok (.getfield 15, 3) := by decide +kernel
theorem dX0_alike_24 : decode cX0_alike 24 = .ok (.iload_n 2, 1) := by decide +kernel
theorem dX0_alike_25 : decode cX0_alike 25 = .ok (.iaload, 1) := by decide +kernel
theorem dX0_alike_26 : decode cX0_alike 26 = .ok (.invokestatic 47, 3) := by decide +kernel
theorem dX0_alike_29 : decode cX0_alike 29 = .ok (.iadd, 1) := by decide +kernel
theorem dX0_alike_30 : decode cX0_alike 30 = .ok (.istore_n 1, 1) := by decide +kernel
theorem dX0_alike_31 : decode cX0_alike 31 = .ok (.iinc 2 1, 3) := by decide +kernel
theorem dX0_alike_34 : decode cX0_alike 34 = .ok (.goto (-26), 3) := by decide +kernel
theorem dX0_alike_37 : decode cX0_alike 37 = .ok (.iload_n 1, 1) := by decide +kernel
theorem dX0_alike_38 : decode cX0_alike 38 = .ok (.iconst 2, 1) := by decide +kernel
theorem dX0_alike_39 : decode cX0_alike 39 = .ok (.idiv, 1) := by decide +kernel
theorem dX0_alike_40 : decode cX0_alike 40 = .ok (.ireturn, 1) := by decide +kernel
theorem dX0_fewestTuned_0 : decode cX0_fewestTuned 0 = .ok (.aload_n 0, 1) := by decide +kernel
theorem dX0_fewestTuned_1 : decode cX0_fewestTuned 1 = .ok (.invokevirtual 38, 3) := by decide +kernel
theorem dX0_fewestTuned_4 : decode cX0_fewestTuned 4 = .ok (.aload_n 0, 1) := by decide +kernel
theorem dX0_fewestTuned_5 : decode cX0_fewestTuned 5 = .ok (.aload_n 0, 1) := by decide +kernel
theorem dX0_fewestTuned_6 : decode cX0_fewestTuned 6 = .ok (.getfield 37, 3) := by decide +kernel
theorem dX0_fewestTuned_9 : decode cX0_fewestTuned 9 = .ok (.getfield 41, 3) := by decide +kernel
theorem dX0_fewestTuned_12 : decode cX0_fewestTuned 12 = .ok (.invokevirtual 53, 3) := by decide +kernel
theorem dX0_fewestTuned_15 : decode cX0_fewestTuned 15 = .ok (.ireturn, 1) := by decide +kernel
theorem dX0_fewestEars_0 : decode cX0_fewestEars 0 = .ok (.iconst 0, 1) := by decide +kernel
theorem dX0_fewestEars_1 : decode cX0_fewestEars 1 = .ok (.istore_n 1, 1) := by decide +kernel
theorem dX0_fewestEars_2 : decode cX0_fewestEars 2 = .ok (.iload_n 1, 1) := by decide +kernel
theorem dX0_fewestEars_3 : decode cX0_fewestEars 3 = .ok (.aload_n 0, 1) := by decide +kernel
theorem dX0_fewestEars_4 : decode cX0_fewestEars 4 = .ok (.getfield 37, 3) := by decide +kernel
theorem dX0_fewestEars_7 : decode cX0_fewestEars 7 = .ok (.getfield 56, 3) := by decide +kernel
theorem dX0_fewestEars_10 : decode cX0_fewestEars 10 = .ok (.if_icmp .ge 16, 3) := by decide +kernel
theorem dX0_fewestEars_13 : decode cX0_fewestEars 13 = .ok (.aload_n 0, 1) := by decide +kernel
theorem dX0_fewestEars_14 : decode cX0_fewestEars 14 = .ok (.getfield 15, 3) := by decide +kernel
theorem dX0_fewestEars_17 : decode cX0_fewestEars 17 = .ok (.iload_n 1, 1) := by decide +kernel
theorem dX0_fewestEars_18 : decode cX0_fewestEars 18 = .ok (.iconst 0, 1) := by decide +kernel
theorem dX0_fewestEars_19 : decode cX0_fewestEars 19 = .ok (.iastore, 1) := by decide +kernel
theorem dX0_fewestEars_20 : decode cX0_fewestEars 20 = .ok (.iinc 1 1, 3) := by decide +kernel
theorem dX0_fewestEars_23 : decode cX0_fewestEars 23 = .ok (.goto (-21), 3) := by decide +kernel
theorem dX0_fewestEars_26 : decode cX0_fewestEars 26 = .ok (.iconst 0, 1) := by decide +kernel
theorem dX0_fewestEars_27 : decode cX0_fewestEars 27 = .ok (.istore_n 1, 1) := by decide +kernel
theorem dX0_fewestEars_28 : decode cX0_fewestEars 28 = .ok (.iload_n 1, 1) := by decide +kernel
theorem dX0_fewestEars_29 : decode cX0_fewestEars 29 = .ok (.aload_n 0, 1) := by decide +kernel
theorem dX0_fewestEars_30 : decode cX0_fewestEars 30 = .ok (.getfield 37, 3) := by decide +kernel
theorem dX0_fewestEars_33 : decode cX0_fewestEars 33 = .ok (.getfield 41, 3) := by decide +kernel
theorem dX0_fewestEars_36 : decode cX0_fewestEars 36 = .ok (.if_icmp .ge 76, 3) := by decide +kernel
theorem dX0_fewestEars_39 : decode cX0_fewestEars 39 = .ok (.aload_n 0, 1) := by decide +kernel
theorem dX0_fewestEars_40 : decode cX0_fewestEars 40 = .ok (.getfield 27, 3) := by decide +kernel
theorem dX0_fewestEars_43 : decode cX0_fewestEars 43 = .ok (.iload_n 1, 1) := by decide +kernel
theorem dX0_fewestEars_44 : decode cX0_fewestEars 44 = .ok (.invokevirtual 59, 3) := by decide +kernel
theorem dX0_fewestEars_47 : decode cX0_fewestEars 47 = .ok (.ifCond .eq 59, 3) := by decide +kernel
theorem dX0_fewestEars_50 : decode cX0_fewestEars 50 = .ok (.aload_n 0, 1) := by decide +kernel
theorem dX0_fewestEars_51 : decode cX0_fewestEars 51 = .ok (.getfield 15, 3) := by decide +kernel
theorem dX0_fewestEars_54 : decode cX0_fewestEars 54 = .ok (.aload_n 0, 1) := by decide +kernel
theorem dX0_fewestEars_55 : decode cX0_fewestEars 55 = .ok (.getfield 37, 3) := by decide +kernel
theorem dX0_fewestEars_58 : decode cX0_fewestEars 58 = .ok (.getfield 63, 3) := by decide +kernel
theorem dX0_fewestEars_61 : decode cX0_fewestEars 61 = .ok (.iload_n 1, 1) := by decide +kernel
theorem dX0_fewestEars_62 : decode cX0_fewestEars 62 = .ok (.iaload, 1) := by decide +kernel
theorem dX0_fewestEars_63 : decode cX0_fewestEars 63 = .ok (.dup2, 1) := by decide +kernel
theorem dX0_fewestEars_64 : decode cX0_fewestEars 64 = .ok (.iaload, 1) := by decide +kernel
theorem dX0_fewestEars_65 : decode cX0_fewestEars 65 = .ok (.iconst 1, 1) := by decide +kernel
theorem dX0_fewestEars_66 : decode cX0_fewestEars 66 = .ok (.aload_n 0, 1) := by decide +kernel
theorem dX0_fewestEars_67 : decode cX0_fewestEars 67 = .ok (.getfield 37, 3) := by decide +kernel
theorem dX0_fewestEars_70 : decode cX0_fewestEars 70 = .ok (.getfield 66, 3) := by decide +kernel
theorem dX0_fewestEars_73 : decode cX0_fewestEars 73 = .ok (.iload_n 1, 1) := by decide +kernel
theorem dX0_fewestEars_74 : decode cX0_fewestEars 74 = .ok (.iaload, 1) := by decide +kernel
theorem dX0_fewestEars_75 : decode cX0_fewestEars 75 = .ok (.ishl, 1) := by decide +kernel
theorem dX0_fewestEars_76 : decode cX0_fewestEars 76 = .ok (.ior, 1) := by decide +kernel
theorem dX0_fewestEars_77 : decode cX0_fewestEars 77 = .ok (.iastore, 1) := by decide +kernel
theorem dX0_fewestEars_78 : decode cX0_fewestEars 78 = .ok (.aload_n 0, 1) := by decide +kernel
theorem dX0_fewestEars_79 : decode cX0_fewestEars 79 = .ok (.getfield 15, 3) := by decide +kernel
theorem dX0_fewestEars_82 : decode cX0_fewestEars 82 = .ok (.aload_n 0, 1) := by decide +kernel
theorem dX0_fewestEars_83 : decode cX0_fewestEars 83 = .ok (.getfield 37, 3) := by decide +kernel
theorem dX0_fewestEars_86 : decode cX0_fewestEars 86 = .ok (.getfield 66, 3) := by decide +kernel
theorem dX0_fewestEars_89 : decode cX0_fewestEars 89 = .ok (.iload_n 1, 1) := by decide +kernel
theorem dX0_fewestEars_90 : decode cX0_fewestEars 90 = .ok (.iaload, 1) := by decide +kernel
theorem dX0_fewestEars_91 : decode cX0_fewestEars 91 = .ok (.dup2, 1) := by decide +kernel
theorem dX0_fewestEars_92 : decode cX0_fewestEars 92 = .ok (.iaload, 1) := by decide +kernel
theorem dX0_fewestEars_93 : decode cX0_fewestEars 93 = .ok (.iconst 1, 1) := by decide +kernel
theorem dX0_fewestEars_94 : decode cX0_fewestEars 94 = .ok (.aload_n 0, 1) := by decide +kernel
theorem dX0_fewestEars_95 : decode cX0_fewestEars 95 = .ok (.getfield 37, 3) := by decide +kernel
theorem dX0_fewestEars_98 : decode cX0_fewestEars 98 = .ok (.getfield 63, 3) := by decide +kernel
theorem dX0_fewestEars_101 : decode cX0_fewestEars 101 = .ok (.iload_n 1, 1) := by decide +kernel
theorem dX0_fewestEars_102 : decode cX0_fewestEars 102 = .ok (.iaload, 1) := by decide +kernel
theorem dX0_fewestEars_103 : decode cX0_fewestEars 103 = .ok (.ishl, 1) := by decide +kernel
theorem dX0_fewestEars_104 : decode cX0_fewestEars 104 = .ok (.ior, 1) := by decide +kernel
theorem dX0_fewestEars_105 : decode cX0_fewestEars 105 = .ok (.iastore, 1) := by decide +kernel
theorem dX0_fewestEars_106 : decode cX0_fewestEars 106 = .ok (.iinc 1 1, 3) := by decide +kernel
theorem dX0_fewestEars_109 : decode cX0_fewestEars 109 = .ok (.goto (-81), 3) := by decide +kernel
theorem dX0_fewestEars_112 : decode cX0_fewestEars 112 = .ok (.aload_n 0, 1) := by decide +kernel
theorem dX0_fewestEars_113 : decode cX0_fewestEars 113 = .ok (.aload_n 0, 1) := by decide +kernel
theorem dX0_fewestEars_114 : decode cX0_fewestEars 114 = .ok (.getfield 37, 3) := by decide +kernel
theorem dX0_fewestEars_117 : decode cX0_fewestEars 117 = .ok (.getfield 56, 3) := by decide +kernel
theorem dX0_fewestEars_120 : decode cX0_fewestEars 120 = .ok (.invokevirtual 53, 3) := by decide +kernel
theorem dX0_fewestEars_123 : decode cX0_fewestEars 123 = .ok (.ireturn, 1) := by decide +kernel
theorem dX0_partnerAlikes_0 : decode cX0_partnerAlikes 0 = .ok (.iconst 0, 1) := by decide +kernel
theorem dX0_partnerAlikes_1 : decode cX0_partnerAlikes 1 = .ok (.istore_n 1, 1) := by decide +kernel
theorem dX0_partnerAlikes_2 : decode cX0_partnerAlikes 2 = .ok (.iload_n 1, 1) := by decide +kernel
theorem dX0_partnerAlikes_3 : decode cX0_partnerAlikes 3 = .ok (.aload_n 0, 1) := by decide +kernel
theorem dX0_partnerAlikes_4 : decode cX0_partnerAlikes 4 = .ok (.getfield 37, 3) := by decide +kernel
theorem dX0_partnerAlikes_7 : decode cX0_partnerAlikes 7 = .ok (.getfield 41, 3) := by decide +kernel
theorem dX0_partnerAlikes_10 : decode cX0_partnerAlikes 10 = .ok (.if_icmp .ge 61, 3) := by decide +kernel
theorem dX0_partnerAlikes_13 : decode cX0_partnerAlikes 13 = .ok (.aload_n 0, 1) := by decide +kernel
theorem dX0_partnerAlikes_14 : decode cX0_partnerAlikes 14 = .ok (.getfield 15, 3) := by decide +kernel
theorem dX0_partnerAlikes_17 : decode cX0_partnerAlikes 17 = .ok (.iload_n 1, 1) := by decide +kernel
theorem dX0_partnerAlikes_18 : decode cX0_partnerAlikes 18 = .ok (.iconst 0, 1) := by decide +kernel
theorem dX0_partnerAlikes_19 : decode cX0_partnerAlikes 19 = .ok (.iastore, 1) := by decide +kernel
theorem dX0_partnerAlikes_20 : decode cX0_partnerAlikes 20 = .ok (.iconst 0, 1) := by decide +kernel
theorem dX0_partnerAlikes_21 : decode cX0_partnerAlikes 21 = .ok (.istore_n 2, 1) := by decide +kernel
theorem dX0_partnerAlikes_22 : decode cX0_partnerAlikes 22 = .ok (.iload_n 2, 1) := by decide +kernel
theorem dX0_partnerAlikes_23 : decode cX0_partnerAlikes 23 = .ok (.aload_n 0, 1) := by decide +kernel
theorem dX0_partnerAlikes_24 : decode cX0_partnerAlikes 24 = .ok (.getfield 37, 3) := by decide +kernel
theorem dX0_partnerAlikes_27 : decode cX0_partnerAlikes 27 = .ok (.getfield 41, 3) := by decide +kernel
theorem dX0_partnerAlikes_30 : decode cX0_partnerAlikes 30 = .ok (.if_icmp .ge 35, 3) := by decide +kernel
theorem dX0_partnerAlikes_33 : decode cX0_partnerAlikes 33 = .ok (.iload_n 1, 1) := by decide +kernel
theorem dX0_partnerAlikes_34 : decode cX0_partnerAlikes 34 = .ok (.iload_n 2, 1) := by decide +kernel
theorem dX0_partnerAlikes_35 : decode cX0_partnerAlikes 35 = .ok (.if_icmp .eq 24, 3) := by decide +kernel
theorem dX0_partnerAlikes_38 : decode cX0_partnerAlikes 38 = .ok (.aload_n 0, 1) := by decide +kernel
theorem dX0_partnerAlikes_39 : decode cX0_partnerAlikes 39 = .ok (.iload_n 1, 1) := by decide +kernel
theorem dX0_partnerAlikes_40 : decode cX0_partnerAlikes 40 = .ok (.iload_n 2, 1) := by decide +kernel
theorem dX0_partnerAlikes_41 : decode cX0_partnerAlikes 41 = .ok (.invokevirtual 69, 3) := by decide +kernel
theorem dX0_partnerAlikes_44 : decode cX0_partnerAlikes 44 = .ok (.ifCond .eq 15, 3) := by decide +kernel
theorem dX0_partnerAlikes_47 : decode cX0_partnerAlikes 47 = .ok (.aload_n 0, 1) := by decide +kernel
theorem dX0_partnerAlikes_48 : decode cX0_partnerAlikes 48 = .ok (.getfield 15, 3) := by decide +kernel
theorem dX0_partnerAlikes_51 : decode cX0_partnerAlikes 51 = .ok (.iload_n 1, 1) := by decide +kernel
theorem dX0_partnerAlikes_52 : decode cX0_partnerAlikes 52 = .ok (.dup2, 1) := by decide +kernel
theorem dX0_partnerAlikes_53 : decode cX0_partnerAlikes 53 = .ok (.iaload, 1) := by decide +kernel
theorem dX0_partnerAlikes_54 : decode cX0_partnerAlikes 54 = .ok (.iconst 1, 1) := by decide +kernel
theorem dX0_partnerAlikes_55 : decode cX0_partnerAlikes 55 = .ok (.iload_n 2, 1) := by decide +kernel
theorem dX0_partnerAlikes_56 : decode cX0_partnerAlikes 56 = .ok (.ishl, 1) := by decide +kernel
theorem dX0_partnerAlikes_57 : decode cX0_partnerAlikes 57 = .ok (.ior, 1) := by decide +kernel
theorem dX0_partnerAlikes_58 : decode cX0_partnerAlikes 58 = .ok (.iastore, 1) := by decide +kernel
theorem dX0_partnerAlikes_59 : decode cX0_partnerAlikes 59 = .ok (.iinc 2 1, 3) := by decide +kernel
theorem dX0_partnerAlikes_62 : decode cX0_partnerAlikes 62 = .ok (.goto (-40), 3) := by decide +kernel
theorem dX0_partnerAlikes_65 : decode cX0_partnerAlikes 65 = .ok (.iinc 1 1, 3) := by decide +kernel
theorem dX0_partnerAlikes_68 : decode cX0_partnerAlikes 68 = .ok (.goto (-66), 3) := by decide +kernel
theorem dX0_partnerAlikes_71 : decode cX0_partnerAlikes 71 = .ok (.return_, 1) := by decide +kernel
theorem dX0_areAlike_0 : decode cX0_areAlike 0 = .ok (.aload_n 0, 1) := by decide +kernel
theorem dX0_areAlike_1 : decode cX0_areAlike 1 = .ok (.getfield 27, 3) := by decide +kernel
theorem dX0_areAlike_4 : decode cX0_areAlike 4 = .ok (.iload_n 1, 1) := by decide +kernel
theorem dX0_areAlike_5 : decode cX0_areAlike 5 = .ok (.invokevirtual 59, 3) := by decide +kernel
theorem dX0_areAlike_8 : decode cX0_areAlike 8 = .ok (.ifCond .eq 65, 3) := by decide +kernel
theorem dX0_areAlike_11 : decode cX0_areAlike 11 = .ok (.aload_n 0, 1) := by decide +kernel
theorem dX0_areAlike_12 : decode cX0_areAlike 12 = .ok (.getfield 27, 3) := by decide +kernel
theorem dX0_areAlike_15 : decode cX0_areAlike 15 = .ok (.iload_n 2, 1) := by decide +kernel
theorem dX0_areAlike_16 : decode cX0_areAlike 16 = .ok (.invokevirtual 59, 3) := by decide +kernel
theorem dX0_areAlike_19 : decode cX0_areAlike 19 = .ok (.ifCond .eq 54, 3) := by decide +kernel
theorem dX0_areAlike_22 : decode cX0_areAlike 22 = .ok (.aload_n 0, 1) := by decide +kernel
theorem dX0_areAlike_23 : decode cX0_areAlike 23 = .ok (.getfield 27, 3) := by decide +kernel
theorem dX0_areAlike_26 : decode cX0_areAlike 26 = .ok (.getfield 73, 3) := by decide +kernel
theorem dX0_areAlike_29 : decode cX0_areAlike 29 = .ok (.getfield 77, 3) := by decide +kernel
theorem dX0_areAlike_32 : decode cX0_areAlike 32 = .ok (.iload_n 1, 1) := by decide +kernel
theorem dX0_areAlike_33 : decode cX0_areAlike 33 = .ok (.iaload, 1) := by decide +kernel
theorem dX0_areAlike_34 : decode cX0_areAlike 34 = .ok (.aload_n 0, 1) := by decide +kernel
theorem dX0_areAlike_35 : decode cX0_areAlike 35 = .ok (.getfield 27, 3) := by decide +kernel
theorem dX0_areAlike_38 : decode cX0_areAlike 38 = .ok (.getfield 73, 3) := by decide +kernel
theorem dX0_areAlike_41 : decode cX0_areAlike 41 = .ok (.getfield 77, 3) := by decide +kernel
theorem dX0_areAlike_44 : decode cX0_areAlike 44 = .ok (.iload_n 2, 1) := by decide +kernel
theorem dX0_areAlike_45 : decode cX0_areAlike 45 = .ok (.iaload, 1) := by decide +kernel
theorem dX0_areAlike_46 : decode cX0_areAlike 46 = .ok (.if_icmp .ne 27, 3) := by decide +kernel
theorem dX0_areAlike_49 : decode cX0_areAlike 49 = .ok (.aload_n 0, 1) := by decide +kernel
theorem dX0_areAlike_50 : decode cX0_areAlike 50 = .ok (.getfield 37, 3) := by decide +kernel
theorem dX0_areAlike_53 : decode cX0_areAlike 53 = .ok (.iload_n 1, 1) := by decide +kernel
theorem dX0_areAlike_54 : decode cX0_areAlike 54 = .ok (.invokevirtual 82, 3) := by decide +kernel
theorem dX0_areAlike_57 : decode cX0_areAlike 57 = .ok (.aload_n 0, 1) := by decide +kernel
theorem dX0_areAlike_58 : decode cX0_areAlike 58 = .ok (.getfield 37, 3) := by decide +kernel
theorem dX0_areAlike_61 : decode cX0_areAlike 61 = .ok (.iload_n 2, 1) := by decide +kernel
theorem dX0_areAlike_62 : decode cX0_areAlike 62 = .ok (.invokevirtual 82, 3) := by decide +kernel
theorem dX0_areAlike_65 : decode cX0_areAlike 65 = .ok (.iand, 1) := by decide +kernel
theorem dX0_areAlike_66 : decode cX0_areAlike 66 = .ok (.ifCond .eq 7, 3) := by decide +kernel
theorem dX0_areAlike_69 : decode cX0_areAlike 69 = .ok (.iconst 1, 1) := by decide +kernel
theorem dX0_areAlike_70 : decode cX0_areAlike 70 = .ok (.goto 4, 3) := by decide +kernel
theorem dX0_areAlike_73 : decode cX0_areAlike 73 = .ok (.iconst 0, 1) := by decide +kernel
theorem dX0_areAlike_74 : decode cX0_areAlike 74 = .ok (.ireturn, 1) := by decide +kernel
theorem dX0_fewestOfEachTwo_0 : decode cX0_fewestOfEachTwo 0 = .ok (.iconst 1, 1) := by decide +kernel
theorem dX0_fewestOfEachTwo_1 : decode cX0_fewestOfEachTwo 1 = .ok (.iload_n 1, 1) := by decide +kernel
theorem dX0_fewestOfEachTwo_2 : decode cX0_fewestOfEachTwo 2 = .ok (.ishl, 1) := by decide +kernel
theorem dX0_fewestOfEachTwo_3 : decode cX0_fewestOfEachTwo 3 = .ok (.iconst 1, 1) := by decide +kernel
theorem dX0_fewestOfEachTwo_4 : decode cX0_fewestOfEachTwo 4 = .ok (.isub, 1) := by decide +kernel
theorem dX0_fewestOfEachTwo_5 : decode cX0_fewestOfEachTwo 5 = .ok (.istore_n 2, 1) := by decide +kernel
theorem dX0_fewestOfEachTwo_6 : decode cX0_fewestOfEachTwo 6 = .ok (.iconst 0, 1) := by decide +kernel
theorem dX0_fewestOfEachTwo_7 : decode cX0_fewestOfEachTwo 7 = .ok (.istore_n 3, 1) := by decide +kernel
theorem dX0_fewestOfEachTwo_8 : decode cX0_fewestOfEachTwo 8 = .ok (.iload_n 3, 1) := by decide +kernel
theorem dX0_fewestOfEachTwo_9 : decode cX0_fewestOfEachTwo 9 = .ok (.iconst 1, 1) := by decide +kernel
theorem dX0_fewestOfEachTwo_10 : decode cX0_fewestOfEachTwo 10 = .ok (.iload_n 1, 1) := by decide +kernel
theorem dX0_fewestOfEachTwo_11 : decode cX0_fewestOfEachTwo 11 = .ok (.ishl, 1) := by decide +kernel
theorem dX0_fewestOfEachTwo_12 : decode cX0_fewestOfEachTwo 12 = .ok (.if_icmp .ge 31, 3) := by decide +kernel
theorem dX0_fewestOfEachTwo_15 : decode cX0_fewestOfEachTwo 15 = .ok (.iload_n 3, 1) := by decide +kernel
theorem dX0_fewestOfEachTwo_16 : decode cX0_fewestOfEachTwo 16 = .ok (.invokestatic 47, 3) := by decide +kernel
theorem dX0_fewestOfEachTwo_19 : decode cX0_fewestOfEachTwo 19 = .ok (.iload_n 2, 1) := by decide +kernel
theorem dX0_fewestOfEachTwo_20 : decode cX0_fewestOfEachTwo 20 = .ok (.invokestatic 47, 3) := by decide +kernel
theorem dX0_fewestOfEachTwo_23 : decode cX0_fewestOfEachTwo 23 = .ok (.if_icmp .ge 14, 3) := by decide +kernel
theorem dX0_fewestOfEachTwo_26 : decode cX0_fewestOfEachTwo 26 = .ok (.aload_n 0, 1) := by decide +kernel
theorem dX0_fewestOfEachTwo_27 : decode cX0_fewestOfEachTwo 27 = .ok (.iload_n 3, 1) := by decide +kernel
theorem dX0_fewestOfEachTwo_28 : decode cX0_fewestOfEachTwo 28 = .ok (.iload_n 1, 1) := by decide +kernel
theorem dX0_fewestOfEachTwo_29 : decode cX0_fewestOfEachTwo 29 = .ok (.invokevirtual 85, 3) := by decide +kernel
theorem dX0_fewestOfEachTwo_32 : decode cX0_fewestOfEachTwo 32 = .ok (.ifCond .eq 5, 3) := by decide +kernel
theorem dX0_fewestOfEachTwo_35 : decode cX0_fewestOfEachTwo 35 = .ok (.iload_n 3, 1) := by decide +kernel
theorem dX0_fewestOfEachTwo_36 : decode cX0_fewestOfEachTwo 36 = .ok (.istore_n 2, 1) := by decide +kernel
theorem dX0_fewestOfEachTwo_37 : decode cX0_fewestOfEachTwo 37 = .ok (.iinc 3 1, 3) := by decide +kernel
theorem dX0_fewestOfEachTwo_40 : decode cX0_fewestOfEachTwo 40 = .ok (.goto (-32), 3) := by decide +kernel
theorem dX0_fewestOfEachTwo_43 : decode cX0_fewestOfEachTwo 43 = .ok (.iload_n 2, 1) := by decide +kernel
theorem dX0_fewestOfEachTwo_44 : decode cX0_fewestOfEachTwo 44 = .ok (.ireturn, 1) := by decide +kernel
theorem dX0_hasOneOfEachTwo_0 : decode cX0_hasOneOfEachTwo 0 = .ok (.iconst 0, 1) := by decide +kernel
theorem dX0_hasOneOfEachTwo_1 : decode cX0_hasOneOfEachTwo 1 = .ok (.istore_n 3, 1) := by decide +kernel
theorem dX0_hasOneOfEachTwo_2 : decode cX0_hasOneOfEachTwo 2 = .ok (.iload_n 3, 1) := by decide +kernel
theorem dX0_hasOneOfEachTwo_3 : decode cX0_hasOneOfEachTwo 3 = .ok (.iload_n 2, 1) := by decide +kernel
theorem dX0_hasOneOfEachTwo_4 : decode cX0_hasOneOfEachTwo 4 = .ok (.if_icmp .ge 32, 3) := by decide +kernel
theorem dX0_hasOneOfEachTwo_7 : decode cX0_hasOneOfEachTwo 7 = .ok (.iload_n 1, 1) := by decide +kernel
theorem dX0_hasOneOfEachTwo_8 : decode cX0_hasOneOfEachTwo 8 = .ok (.iload_n 3, 1) := by decide +kernel
theorem dX0_hasOneOfEachTwo_9 : decode cX0_hasOneOfEachTwo 9 = .ok (.ishr, 1) := by decide +kernel
theorem dX0_hasOneOfEachTwo_10 : decode cX0_hasOneOfEachTwo 10 = .ok (.iconst 1, 1) := by decide +kernel
theorem dX0_hasOneOfEachTwo_11 : decode cX0_hasOneOfEachTwo 11 = .ok (.iand, 1) := by decide +kernel
theorem dX0_hasOneOfEachTwo_12 : decode cX0_hasOneOfEachTwo 12 = .ok (.ifCond .ne 18, 3) := by decide +kernel
theorem dX0_hasOneOfEachTwo_15 : decode cX0_hasOneOfEachTwo 15 = .ok (.aload_n 0, 1) := by decide +kernel
theorem dX0_hasOneOfEachTwo_16 : decode cX0_hasOneOfEachTwo 16 = .ok (.getfield 15, 3) := by decide +kernel
theorem dX0_hasOneOfEachTwo_19 : decode cX0_hasOneOfEachTwo 19 = .ok (.iload_n 3, 1) := by decide +kernel
theorem dX0_hasOneOfEachTwo_20 : decode cX0_hasOneOfEachTwo 20 = .ok (.iaload, 1) := by decide +kernel
theorem dX0_hasOneOfEachTwo_21 : decode cX0_hasOneOfEachTwo 21 = .ok (.iload_n 1, 1) := by decide +kernel
theorem dX0_hasOneOfEachTwo_22 : decode cX0_hasOneOfEachTwo 22 = .ok (.iconst (-1), 1) := by decide +kernel
theorem dX0_hasOneOfEachTwo_23 : decode cX0_hasOneOfEachTwo 23 = .ok (.ixor, 1) := by decide +kernel
theorem dX0_hasOneOfEachTwo_24 : decode cX0_hasOneOfEachTwo 24 = .ok (.iand, 1) := by decide +kernel
theorem dX0_hasOneOfEachTwo_25 : decode cX0_hasOneOfEachTwo 25 = .ok (.ifCond .eq 5, 3) := by decide +kernel
theorem dX0_hasOneOfEachTwo_28 : decode cX0_hasOneOfEachTwo 28 = .ok (.iconst 0, 1) := by decide +kernel
theorem dX0_hasOneOfEachTwo_29 : decode cX0_hasOneOfEachTwo 29 = .ok (.ireturn, 1) := by decide +kernel
theorem dX0_hasOneOfEachTwo_30 : decode cX0_hasOneOfEachTwo 30 = .ok (.iinc 3 1, 3) := by decide +kernel
theorem dX0_hasOneOfEachTwo_33 : decode cX0_hasOneOfEachTwo 33 = .ok (.goto (-31), 3) := by decide +kernel
theorem dX0_hasOneOfEachTwo_36 : decode cX0_hasOneOfEachTwo 36 = .ok (.iconst 1, 1) := by decide +kernel
theorem dX0_hasOneOfEachTwo_37 : decode cX0_hasOneOfEachTwo 37 = .ok (.ireturn, 1) := by decide +kernel
theorem dX0_mostMilk_0 : decode cX0_mostMilk 0 = .ok (.aload_n 0, 1) := by decide +kernel
theorem dX0_mostMilk_1 : decode cX0_mostMilk 1 = .ok (.invokevirtual 88, 3) := by decide +kernel
theorem dX0_mostMilk_4 : decode cX0_mostMilk 4 = .ok (.aload_n 0, 1) := by decide +kernel
theorem dX0_mostMilk_5 : decode cX0_mostMilk 5 = .ok (.getfield 24, 3) := by decide +kernel
theorem dX0_mostMilk_8 : decode cX0_mostMilk 8 = .ok (.iconst 0, 1) := by decide +kernel
theorem dX0_mostMilk_9 : decode cX0_mostMilk 9 = .ok (.iaload, 1) := by decide +kernel
theorem dX0_mostMilk_10 : decode cX0_mostMilk 10 = .ok (.ireturn, 1) := by decide +kernel
theorem dX0_fieldInHerd_0 : decode cX0_fieldInHerd 0 = .ok (.aload_n 0, 1) := by decide +kernel
theorem dX0_fieldInHerd_1 : decode cX0_fieldInHerd 1 = .ok (.invokevirtual 88, 3) := by decide +kernel
theorem dX0_fieldInHerd_4 : decode cX0_fieldInHerd 4 = .ok (.iconst 0, 1) := by decide +kernel
theorem dX0_fieldInHerd_5 : decode cX0_fieldInHerd 5 = .ok (.istore_n 2, 1) := by decide +kernel
theorem dX0_fieldInHerd_6 : decode cX0_fieldInHerd 6 = .ok (.bipush (-9), 2) := by decide +kernel
theorem dX0_fieldInHerd_8 : decode cX0_fieldInHerd 8 = .ok (.istore_n 3, 1) := by decide +kernel
theorem dX0_fieldInHerd_9 : decode cX0_fieldInHerd 9 = .ok (.iconst 0, 1) := by decide +kernel
theorem dX0_fieldInHerd_10 : decode cX0_fieldInHerd 10 = .ok (.istore 4, 2) := by decide +kernel
theorem dX0_fieldInHerd_12 : decode cX0_fieldInHerd 12 = .ok (.iload 4, 2) := by decide +kernel
theorem dX0_fieldInHerd_14 : decode cX0_fieldInHerd 14 = .ok (.iload_n 1, 1) := by decide +kernel
theorem dX0_fieldInHerd_15 : decode cX0_fieldInHerd 15 = .ok (.if_icmp .gt 32, 3) := by decide +kernel
theorem dX0_fieldInHerd_18 : decode cX0_fieldInHerd 18 = .ok (.aload_n 0, 1) := by decide +kernel
theorem dX0_fieldInHerd_19 : decode cX0_fieldInHerd 19 = .ok (.iload 4, 2) := by decide +kernel
theorem dX0_fieldInHerd_21 : decode cX0_fieldInHerd 21 = .ok (.iload_n 2, 1) := by decide +kernel
theorem dX0_fieldInHerd_22 : decode cX0_fieldInHerd 22 = .ok (.invokevirtual 91, 3) := by decide +kernel
theorem dX0_fieldInHerd_25 : decode cX0_fieldInHerd 25 = .ok (.istore_n 3, 1) := by decide +kernel
theorem dX0_fieldInHerd_26 : decode cX0_fieldInHerd 26 = .ok (.iload_n 3, 1) := by decide +kernel
theorem dX0_fieldInHerd_27 : decode cX0_fieldInHerd 27 = .ok (.bipush (-9), 2) := by decide +kernel
theorem dX0_fieldInHerd_29 : decode cX0_fieldInHerd 29 = .ok (.if_icmp .ne 6, 3) := by decide +kernel
theorem dX0_fieldInHerd_32 : decode cX0_fieldInHerd 32 = .ok (.bipush (-9), 2) := by decide +kernel
theorem dX0_fieldInHerd_34 : decode cX0_fieldInHerd 34 = .ok (.ireturn, 1) := by decide +kernel
theorem dX0_fieldInHerd_35 : decode cX0_fieldInHerd 35 = .ok (.iload_n 2, 1) := by decide +kernel
theorem dX0_fieldInHerd_36 : decode cX0_fieldInHerd 36 = .ok (.iconst 1, 1) := by decide +kernel
theorem dX0_fieldInHerd_37 : decode cX0_fieldInHerd 37 = .ok (.iload_n 3, 1) := by decide +kernel
theorem dX0_fieldInHerd_38 : decode cX0_fieldInHerd 38 = .ok (.ishl, 1) := by decide +kernel
theorem dX0_fieldInHerd_39 : decode cX0_fieldInHerd 39 = .ok (.ior, 1) := by decide +kernel
theorem dX0_fieldInHerd_40 : decode cX0_fieldInHerd 40 = .ok (.istore_n 2, 1) := by decide +kernel
theorem dX0_fieldInHerd_41 : decode cX0_fieldInHerd 41 = .ok (.iinc 4 1, 3) := by decide +kernel
theorem dX0_fieldInHerd_44 : decode cX0_fieldInHerd 44 = .ok (.goto (-32), 3) := by decide +kernel
theorem dX0_fieldInHerd_47 : decode cX0_fieldInHerd 47 = .ok (.iload_n 3, 1) := by decide +kernel
theorem dX0_fieldInHerd_48 : decode cX0_fieldInHerd 48 = .ok (.ireturn, 1) := by decide +kernel
theorem dX0_bestField_0 : decode cX0_bestField 0 = .ok (.iconst 0, 1) := by decide +kernel
theorem dX0_bestField_1 : decode cX0_bestField 1 = .ok (.istore_n 3, 1) := by decide +kernel
theorem dX0_bestField_2 : decode cX0_bestField 2 = .ok (.iload_n 3, 1) := by decide +kernel
theorem dX0_bestField_3 : decode cX0_bestField 3 = .ok (.aload_n 0, 1) := by decide +kernel
theorem dX0_bestField_4 : decode cX0_bestField 4 = .ok (.getfield 37, 3) := by decide +kernel
theorem dX0_bestField_7 : decode cX0_bestField 7 = .ok (.getfield 56, 3) := by decide +kernel
theorem dX0_bestField_10 : decode cX0_bestField 10 = .ok (.if_icmp .ge 35, 3) := by decide +kernel
theorem dX0_bestField_13 : decode cX0_bestField 13 = .ok (.iload_n 2, 1) := by decide +kernel
theorem dX0_bestField_14 : decode cX0_bestField 14 = .ok (.iload_n 3, 1) := by decide +kernel
theorem dX0_bestField_15 : decode cX0_bestField 15 = .ok (.ishr, 1) := by decide +kernel
theorem dX0_bestField_16 : decode cX0_bestField 16 = .ok (.iconst 1, 1) := by decide +kernel
theorem dX0_bestField_17 : decode cX0_bestField 17 = .ok (.iand, 1) := by decide +kernel
theorem dX0_bestField_18 : decode cX0_bestField 18 = .ok (.ifCond .ne 21, 3) := by decide +kernel
theorem dX0_bestField_21 : decode cX0_bestField 21 = .ok (.aload_n 0, 1) := by decide +kernel
theorem dX0_bestField_22 : decode cX0_bestField 22 = .ok (.iload_n 1, 1) := by decide +kernel
theorem dX0_bestField_23 : decode cX0_bestField 23 = .ok (.iload_n 3, 1) := by decide +kernel
theorem dX0_bestField_24 : decode cX0_bestField 24 = .ok (.iload_n 2, 1) := by decide +kernel
theorem dX0_bestField_25 : decode cX0_bestField 25 = .ok (.invokevirtual 94, 3) := by decide +kernel
theorem dX0_bestField_28 : decode cX0_bestField 28 = .ok (.aload_n 0, 1) := by decide +kernel
theorem dX0_bestField_29 : decode cX0_bestField 29 = .ok (.getfield 24, 3) := by decide +kernel
theorem dX0_bestField_32 : decode cX0_bestField 32 = .ok (.iload_n 2, 1) := by decide +kernel
theorem dX0_bestField_33 : decode cX0_bestField 33 = .ok (.iaload, 1) := by decide +kernel
theorem dX0_bestField_34 : decode cX0_bestField 34 = .ok (.if_icmp .ne 5, 3) := by decide +kernel
theorem dX0_bestField_37 : decode cX0_bestField 37 = .ok (.iload_n 3, 1) := by decide +kernel
theorem dX0_bestField_38 : decode cX0_bestField 38 = .ok (.ireturn, 1) := by decide +kernel
theorem dX0_bestField_39 : decode cX0_bestField 39 = .ok (.iinc 3 1, 3) := by decide +kernel
theorem dX0_bestField_42 : decode cX0_bestField 42 = .ok (.goto (-40), 3) := by decide +kernel
theorem dX0_bestField_45 : decode cX0_bestField 45 = .ok (.bipush (-9), 2) := by decide +kernel
theorem dX0_bestField_47 : decode cX0_bestField 47 = .ok (.ireturn, 1) := by decide +kernel
theorem dX0_measureHerds_0 : decode cX0_measureHerds 0 = .ok (.iconst 0, 1) := by decide +kernel
theorem dX0_measureHerds_1 : decode cX0_measureHerds 1 = .ok (.istore_n 1, 1) := by decide +kernel
theorem dX0_measureHerds_2 : decode cX0_measureHerds 2 = .ok (.iload_n 1, 1) := by decide +kernel
theorem dX0_measureHerds_3 : decode cX0_measureHerds 3 = .ok (.aload_n 0, 1) := by decide +kernel
theorem dX0_measureHerds_4 : decode cX0_measureHerds 4 = .ok (.getfield 37, 3) := by decide +kernel
theorem dX0_measureHerds_7 : decode cX0_measureHerds 7 = .ok (.getfield 56, 3) := by decide +kernel
theorem dX0_measureHerds_10 : decode cX0_measureHerds 10 = .ok (.if_icmp .ge 23, 3) := by decide +kernel
theorem dX0_measureHerds_13 : decode cX0_measureHerds 13 = .ok (.aload_n 0, 1) := by decide +kernel
theorem dX0_measureHerds_14 : decode cX0_measureHerds 14 = .ok (.getfield 21, 3) := by decide +kernel
theorem dX0_measureHerds_17 : decode cX0_measureHerds 17 = .ok (.iload_n 1, 1) := by decide +kernel
theorem dX0_measureHerds_18 : decode cX0_measureHerds 18 = .ok (.aload_n 0, 1) := by decide +kernel
theorem dX0_measureHerds_19 : decode cX0_measureHerds 19 = .ok (.getfield 27, 3) := by decide +kernel
theorem dX0_measureHerds_22 : decode cX0_measureHerds 22 = .ok (.iload_n 1, 1) := by decide +kernel
theorem dX0_measureHerds_23 : decode cX0_measureHerds 23 = .ok (.invokevirtual 98, 3) := by decide +kernel
theorem dX0_measureHerds_26 : decode cX0_measureHerds 26 = .ok (.iastore, 1) := by decide +kernel
theorem dX0_measureHerds_27 : decode cX0_measureHerds 27 = .ok (.iinc 1 1, 3) := by decide +kernel
theorem dX0_measureHerds_30 : decode cX0_measureHerds 30 = .ok (.goto (-28), 3) := by decide +kernel
theorem dX0_measureHerds_33 : decode cX0_measureHerds 33 = .ok (.iconst 1, 1) := by decide +kernel
theorem dX0_measureHerds_34 : decode cX0_measureHerds 34 = .ok (.aload_n 0, 1) := by decide +kernel
theorem dX0_measureHerds_35 : decode cX0_measureHerds 35 = .ok (.getfield 37, 3) := by decide +kernel
theorem dX0_measureHerds_38 : decode cX0_measureHerds 38 = .ok (.getfield 56, 3) := by decide +kernel
theorem dX0_measureHerds_41 : decode cX0_measureHerds 41 = .ok (.ishl, 1) := by decide +kernel
theorem dX0_measureHerds_42 : decode cX0_measureHerds 42 = .ok (.iconst 1, 1) := by decide +kernel
theorem dX0_measureHerds_43 : decode cX0_measureHerds 43 = .ok (.isub, 1) := by decide +kernel
theorem dX0_measureHerds_44 : decode cX0_measureHerds 44 = .ok (.istore_n 1, 1) := by decide +kernel
theorem dX0_measureHerds_45 : decode cX0_measureHerds 45 = .ok (.iload_n 1, 1) := by decide +kernel
theorem dX0_measureHerds_46 : decode cX0_measureHerds 46 = .ok (.ifCond .lt 81, 3) := by decide +kernel
theorem dX0_measureHerds_49 : decode cX0_measureHerds 49 = .ok (.iload_n 1, 1) := by decide +kernel
theorem dX0_measureHerds_50 : decode cX0_measureHerds 50 = .ok (.invokestatic 47, 3) := by decide +kernel
theorem dX0_measureHerds_53 : decode cX0_measureHerds 53 = .ok (.istore_n 2, 1) := by decide +kernel
theorem dX0_measureHerds_54 : decode cX0_measureHerds 54 = .ok (.aload_n 0, 1) := by decide +kernel
theorem dX0_measureHerds_55 : decode cX0_measureHerds 55 = .ok (.getfield 24, 3) := by decide +kernel
theorem dX0_measureHerds_58 : decode cX0_measureHerds 58 = .ok (.iload_n 1, 1) := by decide +kernel
theorem dX0_measureHerds_59 : decode cX0_measureHerds 59 = .ok (.iconst 0, 1) := by decide +kernel
theorem dX0_measureHerds_60 : decode cX0_measureHerds 60 = .ok (.iastore, 1) := by decide +kernel
theorem dX0_measureHerds_61 : decode cX0_measureHerds 61 = .ok (.iconst 0, 1) := by decide +kernel
theorem dX0_measureHerds_62 : decode cX0_measureHerds 62 = .ok (.istore_n 3, 1) := by decide +kernel
theorem dX0_measureHerds_63 : decode cX0_measureHerds 63 = .ok (.iload_n 3, 1) := by decide +kernel
theorem dX0_measureHerds_64 : decode cX0_measureHerds 64 = .ok (.aload_n 0, 1) := by decide +kernel
theorem dX0_measureHerds_65 : decode cX0_measureHerds 65 = .ok (.getfield 37, 3) := by decide +kernel
theorem dX0_measureHerds_68 : decode cX0_measureHerds 68 = .ok (.getfield 56, 3) := by decide +kernel
theorem dX0_measureHerds_71 : decode cX0_measureHerds 71 = .ok (.if_icmp .ge 50, 3) := by decide +kernel
theorem dX0_measureHerds_74 : decode cX0_measureHerds 74 = .ok (.iload_n 2, 1) := by decide +kernel
theorem dX0_measureHerds_75 : decode cX0_measureHerds 75 = .ok (.aload_n 0, 1) := by decide +kernel
theorem dX0_measureHerds_76 : decode cX0_measureHerds 76 = .ok (.getfield 37, 3) := by decide +kernel
theorem dX0_measureHerds_79 : decode cX0_measureHerds 79 = .ok (.getfield 101, 3) := by decide +kernel
theorem dX0_measureHerds_82 : decode cX0_measureHerds 82 = .ok (.if_icmp .ge 39, 3) := by decide +kernel
theorem dX0_measureHerds_85 : decode cX0_measureHerds 85 = .ok (.iload_n 1, 1) := by decide +kernel
theorem dX0_measureHerds_86 : decode cX0_measureHerds 86 = .ok (.iload_n 3, 1) := by decide +kernel
theorem dX0_measureHerds_87 : decode cX0_measureHerds 87 = .ok (.ishr, 1) := by decide +kernel
theorem dX0_measureHerds_88 : decode cX0_measureHerds 88 = .ok (.iconst 1, 1) := by decide +kernel
theorem dX0_measureHerds_89 : decode cX0_measureHerds 89 = .ok (.iand, 1) := by decide +kernel
theorem dX0_measureHerds_90 : decode cX0_measureHerds 90 = .ok (.ifCond .ne 25, 3) := by decide +kernel
theorem dX0_measureHerds_93 : decode cX0_measureHerds 93 = .ok (.aload_n 0, 1) := by decide +kernel
theorem dX0_measureHerds_94 : decode cX0_measureHerds 94 = .ok (.getfield 24, 3) := by decide +kernel
theorem dX0_measureHerds_97 : decode cX0_measureHerds 97 = .ok (.iload_n 1, 1) := by decide +kernel
theorem dX0_measureHerds_98 : decode cX0_measureHerds 98 = .ok (.aload_n 0, 1) := by decide +kernel
theorem dX0_measureHerds_99 : decode cX0_measureHerds 99 = .ok (.getfield 24, 3) := by decide +kernel
theorem dX0_measureHerds_102 : decode cX0_measureHerds 102 = .ok (.iload_n 1, 1) := by decide +kernel
theorem dX0_measureHerds_103 : decode cX0_measureHerds 103 = .ok (.iaload, 1) := by decide +kernel
theorem dX0_measureHerds_104 : decode cX0_measureHerds 104 = .ok (.aload_n 0, 1) := by decide +kernel
theorem dX0_measureHerds_105 : decode cX0_measureHerds 105 = .ok (.iload_n 2, 1) := by decide +kernel
theorem dX0_measureHerds_106 : decode cX0_measureHerds 106 = .ok (.iload_n 3, 1) := by decide +kernel
theorem dX0_measureHerds_107 : decode cX0_measureHerds 107 = .ok (.iload_n 1, 1) := by decide +kernel
theorem dX0_measureHerds_108 : decode cX0_measureHerds 108 = .ok (.invokevirtual 94, 3) := by decide +kernel
theorem dX0_measureHerds_111 : decode cX0_measureHerds 111 = .ok (.invokestatic 9, 3) := by decide +kernel
theorem dX0_measureHerds_114 : decode cX0_measureHerds 114 = .ok (.iastore, 1) := by decide +kernel
theorem dX0_measureHerds_115 : decode cX0_measureHerds 115 = .ok (.iinc 3 1, 3) := by decide +kernel
theorem dX0_measureHerds_118 : decode cX0_measureHerds 118 = .ok (.goto (-55), 3) := by decide +kernel
theorem dX0_measureHerds_121 : decode cX0_measureHerds 121 = .ok (.iinc 1 (-1), 3) := by decide +kernel
theorem dX0_measureHerds_124 : decode cX0_measureHerds 124 = .ok (.goto (-79), 3) := by decide +kernel
theorem dX0_measureHerds_127 : decode cX0_measureHerds 127 = .ok (.return_, 1) := by decide +kernel
theorem dX0_milkWith_0 : decode cX0_milkWith 0 = .ok (.aload_n 0, 1) := by decide +kernel
theorem dX0_milkWith_1 : decode cX0_milkWith 1 = .ok (.getfield 37, 3) := by decide +kernel
theorem dX0_milkWith_4 : decode cX0_milkWith 4 = .ok (.getfield 104, 3) := by decide +kernel
theorem dX0_milkWith_7 : decode cX0_milkWith 7 = .ok (.aload_n 0, 1) := by decide +kernel
theorem dX0_milkWith_8 : decode cX0_milkWith 8 = .ok (.getfield 37, 3) := by decide +kernel
theorem dX0_milkWith_11 : decode cX0_milkWith 11 = .ok (.getfield 107, 3) := by decide +kernel
theorem dX0_milkWith_14 : decode cX0_milkWith 14 = .ok (.iload_n 1, 1) := by decide +kernel
theorem dX0_milkWith_15 : decode cX0_milkWith 15 = .ok (.iaload, 1) := by decide +kernel
theorem dX0_milkWith_16 : decode cX0_milkWith 16 = .ok (.iaload, 1) := by decide +kernel
theorem dX0_milkWith_17 : decode cX0_milkWith 17 = .ok (.aload_n 0, 1) := by decide +kernel
theorem dX0_milkWith_18 : decode cX0_milkWith 18 = .ok (.getfield 21, 3) := by decide +kernel
theorem dX0_milkWith_21 : decode cX0_milkWith 21 = .ok (.iload_n 2, 1) := by decide +kernel
theorem dX0_milkWith_22 : decode cX0_milkWith 22 = .ok (.iaload, 1) := by decide +kernel
theorem dX0_milkWith_23 : decode cX0_milkWith 23 = .ok (.imul, 1) := by decide +kernel
theorem dX0_milkWith_24 : decode cX0_milkWith 24 = .ok (.aload_n 0, 1) := by decide +kernel
theorem dX0_milkWith_25 : decode cX0_milkWith 25 = .ok (.getfield 24, 3) := by decide +kernel
theorem dX0_milkWith_28 : decode cX0_milkWith 28 = .ok (.iload_n 3, 1) := by decide +kernel
theorem dX0_milkWith_29 : decode cX0_milkWith 29 = .ok (.iconst 1, 1) := by decide +kernel
theorem dX0_milkWith_30 : decode cX0_milkWith 30 = .ok (.iload_n 2, 1) := by decide +kernel
theorem dX0_milkWith_31 : decode cX0_milkWith 31 = .ok (.ishl, 1) := by decide +kernel
theorem dX0_milkWith_32 : decode cX0_milkWith 32 = .ok (.ior, 1) := by decide +kernel
theorem dX0_milkWith_33 : decode cX0_milkWith 33 = .ok (.iaload, 1) := by decide +kernel
theorem dX0_milkWith_34 : decode cX0_milkWith 34 = .ok (.iadd, 1) := by decide +kernel
theorem dX0_milkWith_35 : decode cX0_milkWith 35 = .ok (.ireturn, 1) := by decide +kernel
theorem dX1_init_0 : decode cX1_init 0 = .ok (.aload_n 0, 1) := by decide +kernel
theorem dX1_init_1 : decode cX1_init 1 = .ok (.invokespecial 3, 3) := by decide +kernel
theorem dX1_init_4 : decode cX1_init 4 = .ok (.aload_n 0, 1) := by decide +kernel
theorem dX1_init_5 : decode cX1_init 5 = .ok (.aload_n 1, 1) := by decide +kernel
theorem dX1_init_6 : decode cX1_init 6 = .ok (.putfield 9, 3) := by decide +kernel
theorem dX1_init_9 : decode cX1_init 9 = .ok (.aload_n 0, 1) := by decide +kernel
theorem dX1_init_10 : decode cX1_init 10 = .ok (.aload_n 2, 1) := by decide +kernel
theorem dX1_init_11 : decode cX1_init 11 = .ok (.putfield 15, 3) := by decide +kernel
theorem dX1_init_14 : decode cX1_init 14 = .ok (.return_, 1) := by decide +kernel
theorem dX1_isString_0 : decode cX1_isString 0 = .ok (.aload_n 0, 1) := by decide +kernel
theorem dX1_isString_1 : decode cX1_isString 1 = .ok (.getfield 15, 3) := by decide +kernel
theorem dX1_isString_4 : decode cX1_isString 4 = .ok (.getfield 19, 3) := by decide +kernel
theorem dX1_isString_7 : decode cX1_isString 7 = .ok (.iload_n 1, 1) := by decide +kernel
theorem dX1_isString_8 : decode cX1_isString 8 = .ok (.iaload, 1) := by decide +kernel
theorem dX1_isString_9 : decode cX1_isString 9 = .ok (.ifCond .le 21, 3) := by decide +kernel
theorem dX1_isString_12 : decode cX1_isString 12 = .ok (.aload_n 0, 1) := by decide +kernel
theorem dX1_isString_13 : decode cX1_isString 13 = .ok (.getfield 15, 3) := by decide +kernel
theorem dX1_isString_16 : decode cX1_isString 16 = .ok (.getfield 25, 3) := by decide +kernel
theorem dX1_isString_19 : decode cX1_isString 19 = .ok (.iload_n 1, 1) := by decide +kernel
theorem dX1_isString_20 : decode cX1_isString 20 = .ok (.ishr, 1) := by decide +kernel
theorem dX1_isString_21 : decode cX1_isString 21 = .ok (.iconst 1, 1) := by decide +kernel
theorem dX1_isString_22 : decode cX1_isString 22 = .ok (.iand, 1) := by decide +kernel
theorem dX1_isString_23 : decode cX1_isString 23 = .ok (.ifCond .ne 7, 3) := by decide +kernel
theorem dX1_isString_26 : decode cX1_isString 26 = .ok (.iconst 1, 1) := by decide +kernel
theorem dX1_isString_27 : decode cX1_isString 27 = .ok (.goto 4, 3) := by decide +kernel
theorem dX1_isString_30 : decode cX1_isString 30 = .ok (.iconst 0, 1) := by decide +kernel
theorem dX1_isString_31 : decode cX1_isString 31 = .ok (.ireturn, 1) := by decide +kernel
theorem dX1_soundTo_0 : decode cX1_soundTo 0 = .ok (.aload_n 0, 1) := by decide +kernel
theorem dX1_soundTo_1 : decode cX1_soundTo 1 = .ok (.iload_n 2, 1) := by decide +kernel
theorem dX1_soundTo_2 : decode cX1_soundTo 2 = .ok (.invokevirtual 29, 3) := by decide +kernel
theorem dX1_soundTo_5 : decode cX1_soundTo 5 = .ok (.ifCond .eq 18, 3) := by decide +kernel
theorem dX1_soundTo_8 : decode cX1_soundTo 8 = .ok (.aload_n 0, 1) := by decide +kernel
theorem dX1_soundTo_9 : decode cX1_soundTo 9 = .ok (.getfield 15, 3) := by decide +kernel
theorem dX1_soundTo_12 : decode cX1_soundTo 12 = .ok (.getfield 33, 3) := by decide +kernel
theorem dX1_soundTo_15 : decode cX1_soundTo 15 = .ok (.iload_n 2, 1) := by decide +kernel
theorem dX1_soundTo_16 : decode cX1_soundTo 16 = .ok (.ishr, 1) := by decide +kernel
theorem dX1_soundTo_17 : decode cX1_soundTo 17 = .ok (.iconst 1, 1) := by decide +kernel
theorem dX1_soundTo_18 : decode cX1_soundTo 18 = .ok (.iand, 1) := by decide +kernel
theorem dX1_soundTo_19 : decode cX1_soundTo 19 = .ok (.iconst 1, 1) := by decide +kernel
theorem dX1_soundTo_20 : decode cX1_soundTo 20 = .ok (.if_icmp .ne 5, 3) := by decide +kernel
theorem dX1_soundTo_23 : decode cX1_soundTo 23 = .ok (.iconst 0, 1) := by decide +kernel
theorem dX1_soundTo_24 : decode cX1_soundTo 24 = .ok (.ireturn, 1) := by decide +kernel
theorem dX1_soundTo_25 : decode cX1_soundTo 25 = .ok (.iconst 0, 1) := by decide +kernel
theorem dX1_soundTo_26 : decode cX1_soundTo 26 = .ok (.aload_n 0, 1) := by decide +kernel
theorem dX1_soundTo_27 : decode cX1_soundTo 27 = .ok (.getfield 15, 3) := by decide +kernel
theorem dX1_soundTo_30 : decode cX1_soundTo 30 = .ok (.getfield 19, 3) := by decide +kernel
theorem dX1_soundTo_33 : decode cX1_soundTo 33 = .ok (.iload_n 2, 1) := by decide +kernel
theorem dX1_soundTo_34 : decode cX1_soundTo 34 = .ok (.iaload, 1) := by decide +kernel
theorem dX1_soundTo_35 : decode cX1_soundTo 35 = .ok (.aload_n 0, 1) := by decide +kernel
theorem dX1_soundTo_36 : decode cX1_soundTo 36 = .ok (.getfield 9, 3) := by decide +kernel
theorem dX1_soundTo_39 : decode cX1_soundTo 39 = .ok (.getfield 36, 3) := by decide +kernel
theorem dX1_soundTo_42 : decode cX1_soundTo 42 = .ok (.iload_n 1, 1) := by decide +kernel
theorem dX1_soundTo_43 : decode cX1_soundTo 43 = .ok (.iaload, 1) := by decide +kernel
theorem dX1_soundTo_44 : decode cX1_soundTo 44 = .ok (.iadd, 1) := by decide +kernel
theorem dX1_soundTo_45 : decode cX1_soundTo 45 = .ok (.aload_n 0, 1) := by decide +kernel
theorem dX1_soundTo_46 : decode cX1_soundTo 46 = .ok (.getfield 15, 3) := by decide +kernel
theorem dX1_soundTo_49 : decode cX1_soundTo 49 = .ok (.getfield 41, 3) := by decide +kernel
theorem dX1_soundTo_52 : decode cX1_soundTo 52 = .ok (.isub, 1) := by decide +kernel
theorem dX1_soundTo_53 : decode cX1_soundTo 53 = .ok (.invokestatic 44, 3) := by decide +kernel
theorem dX1_soundTo_56 : decode cX1_soundTo 56 = .ok (.ireturn, 1) := by decide +kernel
theorem dX1_fifthsAt_0 : decode cX1_fifthsAt 0 = .ok (.iconst 0, 1) := by decide +kernel
theorem dX1_fifthsAt_1 : decode cX1_fifthsAt 1 = .ok (.istore_n 2, 1) := by decide +kernel
theorem dX1_fifthsAt_2 : decode cX1_fifthsAt 2 = .ok (.iconst 1, 1) := by decide +kernel
theorem dX1_fifthsAt_3 : decode cX1_fifthsAt 3 = .ok (.istore_n 3, 1) := by decide +kernel
theorem dX1_fifthsAt_4 : decode cX1_fifthsAt 4 = .ok (.iload_n 3, 1) := by decide +kernel
theorem dX1_fifthsAt_5 : decode cX1_fifthsAt 5 = .ok (.aload_n 0, 1) := by decide +kernel
theorem dX1_fifthsAt_6 : decode cX1_fifthsAt 6 = .ok (.getfield 9, 3) := by decide +kernel
theorem dX1_fifthsAt_9 : decode cX1_fifthsAt 9 = .ok (.getfield 50, 3) := by decide +kernel
theorem dX1_fifthsAt_12 : decode cX1_fifthsAt 12 = .ok (.if_icmp .ge 74, 3) := by decide +kernel
theorem dX1_fifthsAt_15 : decode cX1_fifthsAt 15 = .ok (.iconst 0, 1) := by decide +kernel
theorem dX1_fifthsAt_16 : decode cX1_fifthsAt 16 = .ok (.istore 4, 2) := by decide +kernel
theorem dX1_fifthsAt_18 : decode cX1_fifthsAt 18 = .ok (.iload 4, 2) := by decide +kernel
theorem dX1_fifthsAt_20 : decode cX1_fifthsAt 20 = .ok (.iload_n 3, 1) := by decide +kernel
theorem dX1_fifthsAt_21 : decode cX1_fifthsAt 21 = .ok (.if_icmp .ge 59, 3) := by decide +kernel
theorem dX1_fifthsAt_24 : decode cX1_fifthsAt 24 = .ok (.aload_n 0, 1) := by decide +kernel
theorem dX1_fifthsAt_25 : decode cX1_fifthsAt 25 = .ok (.iload_n 3, 1) := by decide +kernel
theorem dX1_fifthsAt_26 : decode cX1_fifthsAt 26 = .ok (.iload_n 1, 1) := by decide +kernel
theorem dX1_fifthsAt_27 : decode cX1_fifthsAt 27 = .ok (.invokevirtual 53, 3) := by decide +kernel
theorem dX1_fifthsAt_30 : decode cX1_fifthsAt 30 = .ok (.ifCond .eq 44, 3) := by decide +kernel
theorem dX1_fifthsAt_33 : decode cX1_fifthsAt 33 = .ok (.aload_n 0, 1) := by decide +kernel
theorem dX1_fifthsAt_34 : decode cX1_fifthsAt 34 = .ok (.iload 4, 2) := by decide +kernel
theorem dX1_fifthsAt_36 : decode cX1_fifthsAt 36 = .ok (.iload_n 1, 1) := by decide +kernel
theorem dX1_fifthsAt_37 : decode cX1_fifthsAt 37 = .ok (.invokevirtual 53, 3) := by decide +kernel
theorem dX1_fifthsAt_40 : decode cX1_fifthsAt 40 = .ok (.ifCond .eq 34, 3) := by decide +kernel
theorem dX1_fifthsAt_43 : decode cX1_fifthsAt 43 = .ok (.aload_n 0, 1) := by decide +kernel
theorem dX1_fifthsAt_44 : decode cX1_fifthsAt 44 = .ok (.getfield 15, 3) := by decide +kernel
theorem dX1_fifthsAt_47 : decode cX1_fifthsAt 47 = .ok (.getfield 19, 3) := by decide +kernel
theorem dX1_fifthsAt_50 : decode cX1_fifthsAt 50 = .ok (.iload_n 3, 1) := by decide +kernel
theorem dX1_fifthsAt_51 : decode cX1_fifthsAt 51 = .ok (.iaload, 1) := by decide +kernel
theorem dX1_fifthsAt_52 : decode cX1_fifthsAt 52 = .ok (.aload_n 0, 1) := by decide +kernel
theorem dX1_fifthsAt_53 : decode cX1_fifthsAt 53 = .ok (.getfield 15, 3) := by decide +kernel
theorem dX1_fifthsAt_56 : decode cX1_fifthsAt 56 = .ok (.getfield 19, 3) := by decide +kernel
theorem dX1_fifthsAt_59 : decode cX1_fifthsAt 59 = .ok (.iload 4, 2) := by decide +kernel
theorem dX1_fifthsAt_61 : decode cX1_fifthsAt 61 = .ok (.iaload, 1) := by decide +kernel
theorem dX1_fifthsAt_62 : decode cX1_fifthsAt 62 = .ok (.isub, 1) := by decide +kernel
theorem dX1_fifthsAt_63 : decode cX1_fifthsAt 63 = .ok (.invokestatic 57, 3) := by decide +kernel
theorem dX1_fifthsAt_66 : decode cX1_fifthsAt 66 = .ok (.bipush 7, 2) := by decide +kernel
theorem dX1_fifthsAt_68 : decode cX1_fifthsAt 68 = .ok (.if_icmp .ne 6, 3) := by decide +kernel
theorem dX1_fifthsAt_71 : decode cX1_fifthsAt 71 = .ok (.iinc 2 1, 3) := by decide +kernel
theorem dX1_fifthsAt_74 : decode cX1_fifthsAt 74 = .ok (.iinc 4 1, 3) := by decide +kernel
theorem dX1_fifthsAt_77 : decode cX1_fifthsAt 77 = .ok (.goto (-59), 3) := by decide +kernel
theorem dX1_fifthsAt_80 : decode cX1_fifthsAt 80 = .ok (.iinc 3 1, 3) := by decide +kernel
theorem dX1_fifthsAt_83 : decode cX1_fifthsAt 83 = .ok (.goto (-79), 3) := by decide +kernel
theorem dX1_fifthsAt_86 : decode cX1_fifthsAt 86 = .ok (.iload_n 2, 1) := by decide +kernel
theorem dX1_fifthsAt_87 : decode cX1_fifthsAt 87 = .ok (.ireturn, 1) := by decide +kernel
theorem dX1_isStringAt_0 : decode cX1_isStringAt 0 = .ok (.aload_n 0, 1) := by decide +kernel
theorem dX1_isStringAt_1 : decode cX1_isStringAt 1 = .ok (.iload_n 1, 1) := by decide +kernel
theorem dX1_isStringAt_2 : decode cX1_isStringAt 2 = .ok (.invokevirtual 29, 3) := by decide +kernel
theorem dX1_isStringAt_5 : decode cX1_isStringAt 5 = .ok (.ifCond .eq 19, 3) := by decide +kernel
theorem dX1_isStringAt_8 : decode cX1_isStringAt 8 = .ok (.aload_n 0, 1) := by decide +kernel
theorem dX1_isStringAt_9 : decode cX1_isStringAt 9 = .ok (.getfield 9, 3) := by decide +kernel
theorem dX1_isStringAt_12 : decode cX1_isStringAt 12 = .ok (.iload_n 1, 1) := by decide +kernel
theorem dX1_isStringAt_13 : decode cX1_isStringAt 13 = .ok (.iload_n 2, 1) := by decide +kernel
theorem dX1_isStringAt_14 : decode cX1_isStringAt 14 = .ok (.invokevirtual 61, 3) := by decide +kernel
theorem dX1_isStringAt_17 : decode cX1_isStringAt 17 = .ok (.ifCond .eq 7, 3) := by decide +kernel
theorem dX1_isStringAt_20 : decode cX1_isStringAt 20 = .ok (.iconst 1, 1) := by decide +kernel
theorem dX1_isStringAt_21 : decode cX1_isStringAt 21 = .ok (.goto 4, 3) := by decide +kernel
theorem dX1_isStringAt_24 : decode cX1_isStringAt 24 = .ok (.iconst 0, 1) := by decide +kernel
theorem dX1_isStringAt_25 : decode cX1_isStringAt 25 = .ok (.ireturn, 1) := by decide +kernel
theorem dX1_beastsThatSound_0 : decode cX1_beastsThatSound 0 = .ok (.iconst 0, 1) := by decide +kernel
theorem dX1_beastsThatSound_1 : decode cX1_beastsThatSound 1 = .ok (.istore_n 2, 1) := by decide +kernel
theorem dX1_beastsThatSound_2 : decode cX1_beastsThatSound 2 = .ok (.iconst 0, 1) := by decide +kernel
theorem dX1_beastsThatSound_3 : decode cX1_beastsThatSound 3 = .ok (.istore_n 3, 1) := by decide +kernel
theorem dX1_beastsThatSound_4 : decode cX1_beastsThatSound 4 = .ok (.iload_n 3, 1) := by decide +kernel
theorem dX1_beastsThatSound_5 : decode cX1_beastsThatSound 5 = .ok (.aload_n 0, 1) := by decide +kernel
theorem dX1_beastsThatSound_6 : decode cX1_beastsThatSound 6 = .ok (.getfield 9, 3) := by decide +kernel
theorem dX1_beastsThatSound_9 : decode cX1_beastsThatSound 9 = .ok (.getfield 64, 3) := by decide +kernel
theorem dX1_beastsThatSound_12 : decode cX1_beastsThatSound 12 = .ok (.if_icmp .ge 76, 3) := by decide +kernel
theorem dX1_beastsThatSound_15 : decode cX1_beastsThatSound 15 = .ok (.iconst 0, 1) := by decide +kernel
theorem dX1_beastsThatSound_16 : decode cX1_beastsThatSound 16 = .ok (.istore 4, 2) := by decide +kernel
theorem dX1_beastsThatSound_18 : decode cX1_beastsThatSound 18 = .ok (.iload 4, 2) := by decide +kernel
theorem dX1_beastsThatSound_20 : decode cX1_beastsThatSound 20 = .ok (.aload_n 0, 1) := by decide +kernel
theorem dX1_beastsThatSound_21 : decode cX1_beastsThatSound 21 = .ok (.getfield 9, 3) := by decide +kernel
theorem dX1_beastsThatSound_24 : decode cX1_beastsThatSound 24 = .ok (.getfield 50, 3) := by decide +kernel
theorem dX1_beastsThatSound_27 : decode cX1_beastsThatSound 27 = .ok (.if_icmp .ge 55, 3) := by decide +kernel
theorem dX1_beastsThatSound_30 : decode cX1_beastsThatSound 30 = .ok (.aload_n 0, 1) := by decide +kernel
theorem dX1_beastsThatSound_31 : decode cX1_beastsThatSound 31 = .ok (.getfield 9, 3) := by decide +kernel
theorem dX1_beastsThatSound_34 : decode cX1_beastsThatSound 34 = .ok (.iload 4, 2) := by decide +kernel
theorem dX1_beastsThatSound_36 : decode cX1_beastsThatSound 36 = .ok (.aload_n 0, 1) := by decide +kernel
theorem dX1_beastsThatSound_37 : decode cX1_beastsThatSound 37 = .ok (.getfield 15, 3) := by decide +kernel
theorem dX1_beastsThatSound_40 : decode cX1_beastsThatSound 40 = .ok (.getfield 67, 3) := by decide +kernel
theorem dX1_beastsThatSound_43 : decode cX1_beastsThatSound 43 = .ok (.iload_n 3, 1) := by decide +kernel
theorem dX1_beastsThatSound_44 : decode cX1_beastsThatSound 44 = .ok (.iaload, 1) := by decide +kernel
theorem dX1_beastsThatSound_45 : decode cX1_beastsThatSound 45 = .ok (.invokevirtual 61, 3) := by decide +kernel
theorem dX1_beastsThatSound_48 : decode cX1_beastsThatSound 48 = .ok (.ifCond .eq 28, 3) := by decide +kernel
theorem dX1_beastsThatSound_51 : decode cX1_beastsThatSound 51 = .ok (.aload_n 0, 1) := by decide +kernel
theorem dX1_beastsThatSound_52 : decode cX1_beastsThatSound 52 = .ok (.aload_n 0, 1) := by decide +kernel
theorem dX1_beastsThatSound_53 : decode cX1_beastsThatSound 53 = .ok (.getfield 9, 3) := by decide +kernel
theorem dX1_beastsThatSound_56 : decode cX1_beastsThatSound 56 = .ok (.getfield 70, 3) := by decide +kernel
theorem dX1_beastsThatSound_59 : decode cX1_beastsThatSound 59 = .ok (.iload_n 3, 1) := by decide +kernel
theorem dX1_beastsThatSound_60 : decode cX1_beastsThatSound 60 = .ok (.iaload, 1) := by decide +kernel
theorem dX1_beastsThatSound_61 : decode cX1_beastsThatSound 61 = .ok (.iload 4, 2) := by decide +kernel
theorem dX1_beastsThatSound_63 : decode cX1_beastsThatSound 63 = .ok (.invokevirtual 73, 3) := by decide +kernel
theorem dX1_beastsThatSound_66 : decode cX1_beastsThatSound 66 = .ok (.iload_n 1, 1) := by decide +kernel
theorem dX1_beastsThatSound_67 : decode cX1_beastsThatSound 67 = .ok (.if_icmp .ne 9, 3) := by decide +kernel
theorem dX1_beastsThatSound_70 : decode cX1_beastsThatSound 70 = .ok (.iload_n 2, 1) := by decide +kernel
theorem dX1_beastsThatSound_71 : decode cX1_beastsThatSound 71 = .ok (.iconst 1, 1) := by decide +kernel
theorem dX1_beastsThatSound_72 : decode cX1_beastsThatSound 72 = .ok (.iload_n 3, 1) := by decide +kernel
theorem dX1_beastsThatSound_73 : decode cX1_beastsThatSound 73 = .ok (.ishl, 1) := by decide +kernel
theorem dX1_beastsThatSound_74 : decode cX1_beastsThatSound 74 = .ok (.ior, 1) := by decide +kernel
theorem dX1_beastsThatSound_75 : decode cX1_beastsThatSound 75 = .ok (.istore_n 2, 1) := by decide +kernel
theorem dX1_beastsThatSound_76 : decode cX1_beastsThatSound 76 = .ok (.iinc 4 1, 3) := by decide +kernel
theorem dX1_beastsThatSound_79 : decode cX1_beastsThatSound 79 = .ok (.goto (-61), 3) := by decide +kernel
theorem dX1_beastsThatSound_82 : decode cX1_beastsThatSound 82 = .ok (.iinc 3 1, 3) := by decide +kernel
theorem dX1_beastsThatSound_85 : decode cX1_beastsThatSound 85 = .ok (.goto (-81), 3) := by decide +kernel
theorem dX1_beastsThatSound_88 : decode cX1_beastsThatSound 88 = .ok (.iload_n 2, 1) := by decide +kernel
theorem dX1_beastsThatSound_89 : decode cX1_beastsThatSound 89 = .ok (.ireturn, 1) := by decide +kernel
theorem dX2_init_0 : decode cX2_init 0 = .ok (.aload_n 0, 1) := by decide +kernel
theorem dX2_init_1 : decode cX2_init 1 = .ok (.invokespecial 3, 3) := by decide +kernel
theorem dX2_init_4 : decode cX2_init 4 = .ok (.aload_n 0, 1) := by decide +kernel
theorem dX2_init_5 : decode cX2_init 5 = .ok (.bipush 6, 2) := by decide +kernel
theorem dX2_init_7 : decode cX2_init 7 = .ok (.newarray .int, 2) := by decide +kernel
theorem dX2_init_9 : decode cX2_init 9 = .ok (.putfield 9, 3) := by decide +kernel
theorem dX2_init_12 : decode cX2_init 12 = .ok (.aload_n 0, 1) := by decide +kernel
theorem dX2_init_13 : decode cX2_init 13 = .ok (.iconst 4, 1) := by decide +kernel
theorem dX2_init_14 : decode cX2_init 14 = .ok (.newarray .int, 2) := by decide +kernel
theorem dX2_init_16 : decode cX2_init 16 = .ok (.putfield 15, 3) := by decide +kernel
theorem dX2_init_19 : decode cX2_init 19 = .ok (.aload_n 0, 1) := by decide +kernel
theorem dX2_init_20 : decode cX2_init 20 = .ok (.bipush 8, 2) := by decide +kernel
theorem dX2_init_22 : decode cX2_init 22 = .ok (.newarray .int, 2) := by decide +kernel
theorem dX2_init_24 : decode cX2_init 24 = .ok (.putfield 18, 3) := by decide +kernel
theorem dX2_init_27 : decode cX2_init 27 = .ok (.aload_n 0, 1) := by decide +kernel
theorem dX2_init_28 : decode cX2_init 28 = .ok (.bipush 8, 2) := by decide +kernel
theorem dX2_init_30 : decode cX2_init 30 = .ok (.newarray .int, 2) := by decide +kernel
theorem dX2_init_32 : decode cX2_init 32 = .ok (.putfield 21, 3) := by decide +kernel
theorem dX2_init_35 : decode cX2_init 35 = .ok (.aload_n 0, 1) := by decide +kernel
theorem dX2_init_36 : decode cX2_init 36 = .ok (.aload_n 1, 1) := by decide +kernel
theorem dX2_init_37 : decode cX2_init 37 = .ok (.putfield 24, 3) := by decide +kernel
theorem dX2_init_40 : decode cX2_init 40 = .ok (.aload_n 0, 1) := by decide +kernel
theorem dX2_init_41 : decode cX2_init 41 = .ok (.aload_n 1, 1) := by decide +kernel
theorem dX2_init_42 : decode cX2_init 42 = .ok (.getfield 28, 3) := by decide +kernel
theorem dX2_init_45 : decode cX2_init 45 = .ok (.putfield 34, 3) := by decide +kernel
theorem dX2_init_48 : decode cX2_init 48 = .ok (.return_, 1) := by decide +kernel
theorem dX2_takes_0 : decode cX2_takes 0 = .ok (.aload_n 0, 1) := by decide +kernel
theorem dX2_takes_1 : decode cX2_takes 1 = .ok (.getfield 35, 3) := by decide +kernel
theorem dX2_takes_4 : decode cX2_takes 4 = .ok (.bipush 6, 2) := by decide +kernel
theorem dX2_takes_6 : decode cX2_takes 6 = .ok (.if_icmp .lt 5, 3) := by decide +kernel
theorem dX2_takes_9 : decode cX2_takes 9 = .ok (.iconst 0, 1) := by decide +kernel
theorem dX2_takes_10 : decode cX2_takes 10 = .ok (.ireturn, 1) := by decide +kernel
theorem dX2_takes_11 : decode cX2_takes 11 = .ok (.aload_n 0, 1) := by decide +kernel
theorem dX2_takes_12 : decode cX2_takes 12 = .ok (.getfield 9, 3) := by decide +kernel
theorem dX2_takes_15 : decode cX2_takes 15 = .ok (.aload_n 0, 1) := by decide +kernel
theorem dX2_takes_16 : decode cX2_takes 16 = .ok (.getfield 35, 3) := by decide +kernel
theorem dX2_takes_19 : decode cX2_takes 19 = .ok (.iload_n 1, 1) := by decide +kernel
theorem dX2_takes_20 : decode cX2_takes 20 = .ok (.iastore, 1) := by decide +kernel
theorem dX2_takes_21 : decode cX2_takes 21 = .ok (.aload_n 0, 1) := by decide +kernel
theorem dX2_takes_22 : decode cX2_takes 22 = .ok (.dup, 1) := by decide +kernel
theorem dX2_takes_23 : decode cX2_takes 23 = .ok (.getfield 35, 3) := by decide +kernel
theorem dX2_takes_26 : decode cX2_takes 26 = .ok (.iconst 1, 1) := by decide +kernel
theorem dX2_takes_27 : decode cX2_takes 27 = .ok (.iadd, 1) := by decide +kernel
theorem dX2_takes_28 : decode cX2_takes 28 = .ok (.putfield 35, 3) := by decide +kernel
theorem dX2_takes_31 : decode cX2_takes 31 = .ok (.iconst 1, 1) := by decide +kernel
theorem dX2_takes_32 : decode cX2_takes 32 = .ok (.ireturn, 1) := by decide +kernel
theorem dX2_rowsFrom_0 : decode cX2_rowsFrom 0 = .ok (.iconst 0, 1) := by decide +kernel
theorem dX2_rowsFrom_1 : decode cX2_rowsFrom 1 = .ok (.istore_n 3, 1) := by decide +kernel
theorem dX2_rowsFrom_2 : decode cX2_rowsFrom 2 = .ok (.iload_n 3, 1) := by decide +kernel
theorem dX2_rowsFrom_3 : decode cX2_rowsFrom 3 = .ok (.aload_n 0, 1) := by decide +kernel
theorem dX2_rowsFrom_4 : decode cX2_rowsFrom 4 = .ok (.getfield 34, 3) := by decide +kernel
theorem dX2_rowsFrom_7 : decode cX2_rowsFrom 7 = .ok (.getfield 39, 3) := by decide +kernel
theorem dX2_rowsFrom_10 : decode cX2_rowsFrom 10 = .ok (.if_icmp .ge 25, 3) := by decide +kernel
theorem dX2_rowsFrom_13 : decode cX2_rowsFrom 13 = .ok (.aload_n 0, 1) := by decide +kernel
theorem dX2_rowsFrom_14 : decode cX2_rowsFrom 14 = .ok (.getfield 18, 3) := by decide +kernel
theorem dX2_rowsFrom_17 : decode cX2_rowsFrom 17 = .ok (.iload_n 3, 1) := by decide +kernel
theorem dX2_rowsFrom_18 : decode cX2_rowsFrom 18 = .ok (.iload_n 3, 1) := by decide +kernel
theorem dX2_rowsFrom_19 : decode cX2_rowsFrom 19 = .ok (.iload_n 2, 1) := by decide +kernel
theorem dX2_rowsFrom_20 : decode cX2_rowsFrom 20 = .ok (.if_icmp .ne 7, 3) := by decide +kernel
theorem dX2_rowsFrom_23 : decode cX2_rowsFrom 23 = .ok (.iconst 1, 1) := by decide +kernel
theorem dX2_rowsFrom_24 : decode cX2_rowsFrom 24 = .ok (.goto 4, 3) := by decide +kernel
theorem dX2_rowsFrom_27 : decode cX2_rowsFrom 27 = .ok (.iconst 0, 1) := by decide +kernel
theorem dX2_rowsFrom_28 : decode cX2_rowsFrom 28 = .ok (.iastore, 1) := by decide +kernel
theorem dX2_rowsFrom_29 : decode cX2_rowsFrom 29 = .ok (.iinc 3 1, 3) := by decide +kernel
theorem dX2_rowsFrom_32 : decode cX2_rowsFrom 32 = .ok (.goto (-30), 3) := by decide +kernel
theorem dX2_rowsFrom_35 : decode cX2_rowsFrom 35 = .ok (.iconst 0, 1) := by decide +kernel
theorem dX2_rowsFrom_36 : decode cX2_rowsFrom 36 = .ok (.istore_n 3, 1) := by decide +kernel
theorem dX2_rowsFrom_37 : decode cX2_rowsFrom 37 = .ok (.iload_n 3, 1) := by decide +kernel
theorem dX2_rowsFrom_38 : decode cX2_rowsFrom 38 = .ok (.aload_n 0, 1) := by decide +kernel
theorem dX2_rowsFrom_39 : decode cX2_rowsFrom 39 = .ok (.getfield 35, 3) := by decide +kernel
theorem dX2_rowsFrom_42 : decode cX2_rowsFrom 42 = .ok (.if_icmp .ge 20, 3) := by decide +kernel
theorem dX2_rowsFrom_45 : decode cX2_rowsFrom 45 = .ok (.aload_n 0, 1) := by decide +kernel
theorem dX2_rowsFrom_46 : decode cX2_rowsFrom 46 = .ok (.iload_n 1, 1) := by decide +kernel
theorem dX2_rowsFrom_47 : decode cX2_rowsFrom 47 = .ok (.aload_n 0, 1) := by decide +kernel
theorem dX2_rowsFrom_48 : decode cX2_rowsFrom 48 = .ok (.getfield 9, 3) := by decide +kernel
theorem dX2_rowsFrom_51 : decode cX2_rowsFrom 51 = .ok (.iload_n 3, 1) := by decide +kernel
theorem dX2_rowsFrom_52 : decode cX2_rowsFrom 52 = .ok (.iaload, 1) := by decide +kernel
theorem dX2_rowsFrom_53 : decode cX2_rowsFrom 53 = .ok (.invokevirtual 44, 3) := by decide +kernel
theorem dX2_rowsFrom_56 : decode cX2_rowsFrom 56 = .ok (.iinc 3 1, 3) := by decide +kernel
theorem dX2_rowsFrom_59 : decode cX2_rowsFrom 59 = .ok (.goto (-22), 3) := by decide +kernel
theorem dX2_rowsFrom_62 : decode cX2_rowsFrom 62 = .ok (.iconst 0, 1) := by decide +kernel
theorem dX2_rowsFrom_63 : decode cX2_rowsFrom 63 = .ok (.istore_n 3, 1) := by decide +kernel
theorem dX2_rowsFrom_64 : decode cX2_rowsFrom 64 = .ok (.iconst 0, 1) := by decide +kernel
theorem dX2_rowsFrom_65 : decode cX2_rowsFrom 65 = .ok (.istore 4, 2) := by decide +kernel
theorem dX2_rowsFrom_67 : decode cX2_rowsFrom 67 = .ok (.iload 4, 2) := by decide +kernel
theorem dX2_rowsFrom_69 : decode cX2_rowsFrom 69 = .ok (.aload_n 0, 1) := by decide +kernel
theorem dX2_rowsFrom_70 : decode cX2_rowsFrom 70 = .ok (.getfield 34, 3) := by decide +kernel
theorem dX2_rowsFrom_73 : decode cX2_rowsFrom 73 = .ok (.getfield 39, 3) := by decide +kernel
theorem dX2_rowsFrom_76 : decode cX2_rowsFrom 76 = .ok (.if_icmp .ge 22, 3) := by decide +kernel
theorem dX2_rowsFrom_79 : decode cX2_rowsFrom 79 = .ok (.iload_n 3, 1) := by decide +kernel
theorem dX2_rowsFrom_80 : decode cX2_rowsFrom 80 = .ok (.aload_n 0, 1) := by decide +kernel
theorem dX2_rowsFrom_81 : decode cX2_rowsFrom 81 = .ok (.getfield 18, 3) := by decide +kernel
theorem dX2_rowsFrom_84 : decode cX2_rowsFrom 84 = .ok (.iload 4, 2) := by decide +kernel
theorem dX2_rowsFrom_86 : decode cX2_rowsFrom 86 = .ok (.iaload, 1) := by decide +kernel
theorem dX2_rowsFrom_87 : decode cX2_rowsFrom 87 = .ok (.iadd, 1) := by decide +kernel
theorem dX2_rowsFrom_88 : decode cX2_rowsFrom 88 = .ok (.ldc 48, 2) := by decide +kernel
theorem dX2_rowsFrom_90 : decode cX2_rowsFrom 90 = .ok (.irem, 1) := by decide +kernel
theorem dX2_rowsFrom_91 : decode cX2_rowsFrom 91 = .ok (.istore_n 3, 1) := by decide +kernel
theorem dX2_rowsFrom_92 : decode cX2_rowsFrom 92 = .ok (.iinc 4 1, 3) := by decide +kernel
theorem dX2_rowsFrom_95 : decode cX2_rowsFrom 95 = .ok (.goto (-28), 3) := by decide +kernel
theorem dX2_rowsFrom_98 : decode cX2_rowsFrom 98 = .ok (.iload_n 3, 1) := by decide +kernel
theorem dX2_rowsFrom_99 : decode cX2_rowsFrom 99 = .ok (.ireturn, 1) := by decide +kernel
theorem dX2_crossAll_0 : decode cX2_crossAll 0 = .ok (.iconst 0, 1) := by decide +kernel
theorem dX2_crossAll_1 : decode cX2_crossAll 1 = .ok (.istore_n 3, 1) := by decide +kernel
theorem dX2_crossAll_2 : decode cX2_crossAll 2 = .ok (.iload_n 3, 1) := by decide +kernel
theorem dX2_crossAll_3 : decode cX2_crossAll 3 = .ok (.aload_n 0, 1) := by decide +kernel
theorem dX2_crossAll_4 : decode cX2_crossAll 4 = .ok (.getfield 34, 3) := by decide +kernel
theorem dX2_crossAll_7 : decode cX2_crossAll 7 = .ok (.getfield 39, 3) := by decide +kernel
theorem dX2_crossAll_10 : decode cX2_crossAll 10 = .ok (.if_icmp .ge 16, 3) := by decide +kernel
theorem dX2_crossAll_13 : decode cX2_crossAll 13 = .ok (.aload_n 0, 1) := by decide +kernel
theorem dX2_crossAll_14 : decode cX2_crossAll 14 = .ok (.getfield 21, 3) := by decide +kernel
theorem dX2_crossAll_17 : decode cX2_crossAll 17 = .ok (.iload_n 3, 1) := by decide +kernel
theorem dX2_crossAll_18 : decode cX2_crossAll 18 = .ok (.iconst 0, 1) := by decide +kernel
theorem dX2_crossAll_19 : decode cX2_crossAll 19 = .ok (.iastore, 1) := by decide +kernel
theorem dX2_crossAll_20 : decode cX2_crossAll 20 = .ok (.iinc 3 1, 3) := by decide +kernel
theorem dX2_crossAll_23 : decode cX2_crossAll 23 = .ok (.goto (-21), 3) := by decide +kernel
theorem dX2_crossAll_26 : decode cX2_crossAll 26 = .ok (.iconst 0, 1) := by decide +kernel
theorem dX2_crossAll_27 : decode cX2_crossAll 27 = .ok (.istore_n 3, 1) := by decide +kernel
theorem dX2_crossAll_28 : decode cX2_crossAll 28 = .ok (.iload_n 3, 1) := by decide +kernel
theorem dX2_crossAll_29 : decode cX2_crossAll 29 = .ok (.aload_n 0, 1) := by decide +kernel
theorem dX2_crossAll_30 : decode cX2_crossAll 30 = .ok (.getfield 34, 3) := by decide +kernel
theorem dX2_crossAll_33 : decode cX2_crossAll 33 = .ok (.getfield 49, 3) := by decide +kernel
theorem dX2_crossAll_36 : decode cX2_crossAll 36 = .ok (.if_icmp .ge 94, 3) := by decide +kernel
theorem dX2_crossAll_39 : decode cX2_crossAll 39 = .ok (.aload_n 0, 1) := by decide +kernel
theorem dX2_crossAll_40 : decode cX2_crossAll 40 = .ok (.getfield 24, 3) := by decide +kernel
theorem dX2_crossAll_43 : decode cX2_crossAll 43 = .ok (.iload_n 1, 1) := by decide +kernel
theorem dX2_crossAll_44 : decode cX2_crossAll 44 = .ok (.iload_n 3, 1) := by decide +kernel
theorem dX2_crossAll_45 : decode cX2_crossAll 45 = .ok (.invokevirtual 52, 3) := by decide +kernel
theorem dX2_crossAll_48 : decode cX2_crossAll 48 = .ok (.iload_n 2, 1) := by decide +kernel
theorem dX2_crossAll_49 : decode cX2_crossAll 49 = .ok (.if_icmp .ne 75, 3) := by decide +kernel
theorem dX2_crossAll_52 : decode cX2_crossAll 52 = .ok (.aload_n 0, 1) := by decide +kernel
theorem dX2_crossAll_53 : decode cX2_crossAll 53 = .ok (.getfield 34, 3) := by decide +kernel
theorem dX2_crossAll_56 : decode cX2_crossAll 56 = .ok (.getfield 56, 3) := by decide +kernel
theorem dX2_crossAll_59 : decode cX2_crossAll 59 = .ok (.iload_n 3, 1) := by decide +kernel
theorem dX2_crossAll_60 : decode cX2_crossAll 60 = .ok (.iaload, 1) := by decide +kernel
theorem dX2_crossAll_61 : decode cX2_crossAll 61 = .ok (.istore 4, 2) := by decide +kernel
theorem dX2_crossAll_63 : decode cX2_crossAll 63 = .ok (.aload_n 0, 1) := by decide +kernel
theorem dX2_crossAll_64 : decode cX2_crossAll 64 = .ok (.getfield 34, 3) := by decide +kernel
theorem dX2_crossAll_67 : decode cX2_crossAll 67 = .ok (.getfield 59, 3) := by decide +kernel
theorem dX2_crossAll_70 : decode cX2_crossAll 70 = .ok (.iload_n 3, 1) := by decide +kernel
theorem dX2_crossAll_71 : decode cX2_crossAll 71 = .ok (.iaload, 1) := by decide +kernel
theorem dX2_crossAll_72 : decode cX2_crossAll 72 = .ok (.istore 5, 2) := by decide +kernel
theorem dX2_crossAll_74 : decode cX2_crossAll 74 = .ok (.aload_n 0, 1) := by decide +kernel
theorem dX2_crossAll_75 : decode cX2_crossAll 75 = .ok (.getfield 21, 3) := by decide +kernel
theorem dX2_crossAll_78 : decode cX2_crossAll 78 = .ok (.iload 4, 2) := by decide +kernel
theorem dX2_crossAll_80 : decode cX2_crossAll 80 = .ok (.aload_n 0, 1) := by decide +kernel
theorem dX2_crossAll_81 : decode cX2_crossAll 81 = .ok (.getfield 21, 3) := by decide +kernel
theorem dX2_crossAll_84 : decode cX2_crossAll 84 = .ok (.iload 4, 2) := by decide +kernel
theorem dX2_crossAll_86 : decode cX2_crossAll 86 = .ok (.iaload, 1) := by decide +kernel
theorem dX2_crossAll_87 : decode cX2_crossAll 87 = .ok (.aload_n 0, 1) := by decide +kernel
theorem dX2_crossAll_88 : decode cX2_crossAll 88 = .ok (.getfield 18, 3) := by decide +kernel
theorem dX2_crossAll_91 : decode cX2_crossAll 91 = .ok (.iload 5, 2) := by decide +kernel
theorem dX2_crossAll_93 : decode cX2_crossAll 93 = .ok (.iaload, 1) := by decide +kernel
theorem dX2_crossAll_94 : decode cX2_crossAll 94 = .ok (.iadd, 1) := by decide +kernel
theorem dX2_crossAll_95 : decode cX2_crossAll 95 = .ok (.ldc 48, 2) := by decide +kernel
theorem dX2_crossAll_97 : decode cX2_crossAll 97 = .ok (.irem, 1) := by decide +kernel
theorem dX2_crossAll_98 : decode cX2_crossAll 98 = .ok (.iastore, 1) := by decide +kernel
theorem dX2_crossAll_99 : decode cX2_crossAll 99 = .ok (.aload_n 0, 1) := by decide +kernel
theorem dX2_crossAll_100 : decode cX2_crossAll 100 = .ok (.getfield 21, 3) := by decide +kernel
theorem dX2_crossAll_103 : decode cX2_crossAll 103 = .ok (.iload 5, 2) := by decide +kernel
theorem dX2_crossAll_105 : decode cX2_crossAll 105 = .ok (.aload_n 0, 1) := by decide +kernel
theorem dX2_crossAll_106 : decode cX2_crossAll 106 = .ok (.getfield 21, 3) := by decide +kernel
theorem dX2_crossAll_109 : decode cX2_crossAll 109 = .ok (.iload 5, 2) := by decide +kernel
theorem dX2_crossAll_111 : decode cX2_crossAll 111 = .ok (.iaload, 1) := by decide +kernel
theorem dX2_crossAll_112 : decode cX2_crossAll 112 = .ok (.aload_n 0, 1) := by decide +kernel
theorem dX2_crossAll_113 : decode cX2_crossAll 113 = .ok (.getfield 18, 3) := by decide +kernel
theorem dX2_crossAll_116 : decode cX2_crossAll 116 = .ok (.iload 4, 2) := by decide +kernel
theorem dX2_crossAll_118 : decode cX2_crossAll 118 = .ok (.iaload, 1) := by decide +kernel
theorem dX2_crossAll_119 : decode cX2_crossAll 119 = .ok (.iadd, 1) := by decide +kernel
theorem dX2_crossAll_120 : decode cX2_crossAll 120 = .ok (.ldc 48, 2) := by decide +kernel
theorem dX2_crossAll_122 : decode cX2_crossAll 122 = .ok (.irem, 1) := by decide +kernel
theorem dX2_crossAll_123 : decode cX2_crossAll 123 = .ok (.iastore, 1) := by decide +kernel
theorem dX2_crossAll_124 : decode cX2_crossAll 124 = .ok (.iinc 3 1, 3) := by decide +kernel
theorem dX2_crossAll_127 : decode cX2_crossAll 127 = .ok (.goto (-99), 3) := by decide +kernel
theorem dX2_crossAll_130 : decode cX2_crossAll 130 = .ok (.aload_n 0, 1) := by decide +kernel
theorem dX2_crossAll_131 : decode cX2_crossAll 131 = .ok (.getfield 18, 3) := by decide +kernel
theorem dX2_crossAll_134 : decode cX2_crossAll 134 = .ok (.astore_n 3, 1) := by decide +kernel
theorem dX2_crossAll_135 : decode cX2_crossAll 135 = .ok (.aload_n 0, 1) := by decide +kernel
theorem dX2_crossAll_136 : decode cX2_crossAll 136 = .ok (.aload_n 0, 1) := by decide +kernel
theorem dX2_crossAll_137 : decode cX2_crossAll 137 = .ok (.getfield 21, 3) := by decide +kernel
theorem dX2_crossAll_140 : decode cX2_crossAll 140 = .ok (.putfield 18, 3) := by decide +kernel
theorem dX2_crossAll_143 : decode cX2_crossAll 143 = .ok (.aload_n 0, 1) := by decide +kernel
theorem dX2_crossAll_144 : decode cX2_crossAll 144 = .ok (.aload_n 3, 1) := by decide +kernel
theorem dX2_crossAll_145 : decode cX2_crossAll 145 = .ok (.putfield 21, 3) := by decide +kernel
theorem dX2_crossAll_148 : decode cX2_crossAll 148 = .ok (.return_, 1) := by decide +kernel
theorem dX2_endsOf_0 : decode cX2_endsOf 0 = .ok (.iconst 1, 1) := by decide +kernel
theorem dX2_endsOf_1 : decode cX2_endsOf 1 = .ok (.aload_n 0, 1) := by decide +kernel
theorem dX2_endsOf_2 : decode cX2_endsOf 2 = .ok (.getfield 34, 3) := by decide +kernel
theorem dX2_endsOf_5 : decode cX2_endsOf 5 = .ok (.getfield 39, 3) := by decide +kernel
theorem dX2_endsOf_8 : decode cX2_endsOf 8 = .ok (.ishl, 1) := by decide +kernel
theorem dX2_endsOf_9 : decode cX2_endsOf 9 = .ok (.iconst 1, 1) := by decide +kernel
theorem dX2_endsOf_10 : decode cX2_endsOf 10 = .ok (.isub, 1) := by decide +kernel
theorem dX2_endsOf_11 : decode cX2_endsOf 11 = .ok (.istore_n 2, 1) := by decide +kernel
theorem dX2_endsOf_12 : decode cX2_endsOf 12 = .ok (.iconst 0, 1) := by decide +kernel
theorem dX2_endsOf_13 : decode cX2_endsOf 13 = .ok (.istore_n 3, 1) := by decide +kernel
theorem dX2_endsOf_14 : decode cX2_endsOf 14 = .ok (.iload_n 3, 1) := by decide +kernel
theorem dX2_endsOf_15 : decode cX2_endsOf 15 = .ok (.aload_n 0, 1) := by decide +kernel
theorem dX2_endsOf_16 : decode cX2_endsOf 16 = .ok (.getfield 35, 3) := by decide +kernel
theorem dX2_endsOf_19 : decode cX2_endsOf 19 = .ok (.if_icmp .ge 22, 3) := by decide +kernel
theorem dX2_endsOf_22 : decode cX2_endsOf 22 = .ok (.aload_n 0, 1) := by decide +kernel
theorem dX2_endsOf_23 : decode cX2_endsOf 23 = .ok (.iload_n 1, 1) := by decide +kernel
theorem dX2_endsOf_24 : decode cX2_endsOf 24 = .ok (.iload_n 2, 1) := by decide +kernel
theorem dX2_endsOf_25 : decode cX2_endsOf 25 = .ok (.aload_n 0, 1) := by decide +kernel
theorem dX2_endsOf_26 : decode cX2_endsOf 26 = .ok (.getfield 9, 3) := by decide +kernel
theorem dX2_endsOf_29 : decode cX2_endsOf 29 = .ok (.iload_n 3, 1) := by decide +kernel
theorem dX2_endsOf_30 : decode cX2_endsOf 30 = .ok (.iaload, 1) := by decide +kernel
theorem dX2_endsOf_31 : decode cX2_endsOf 31 = .ok (.invokevirtual 62, 3) := by decide +kernel
theorem dX2_endsOf_34 : decode cX2_endsOf 34 = .ok (.istore_n 2, 1) := by decide +kernel
theorem dX2_endsOf_35 : decode cX2_endsOf 35 = .ok (.iinc 3 1, 3) := by decide +kernel
theorem dX2_endsOf_38 : decode cX2_endsOf 38 = .ok (.goto (-24), 3) := by decide +kernel
theorem dX2_endsOf_41 : decode cX2_endsOf 41 = .ok (.iload_n 2, 1) := by decide +kernel
theorem dX2_endsOf_42 : decode cX2_endsOf 42 = .ok (.ireturn, 1) := by decide +kernel
theorem dX2_endsBehind_0 : decode cX2_endsBehind 0 = .ok (.iconst 0, 1) := by decide +kernel
theorem dX2_endsBehind_1 : decode cX2_endsBehind 1 = .ok (.istore 4, 2) := by decide +kernel
theorem dX2_endsBehind_3 : decode cX2_endsBehind 3 = .ok (.iconst 0, 1) := by decide +kernel
theorem dX2_endsBehind_4 : decode cX2_endsBehind 4 = .ok (.istore 5, 2) := by decide +kernel
theorem dX2_endsBehind_6 : decode cX2_endsBehind 6 = .ok (.iload 5, 2) := by decide +kernel
theorem dX2_endsBehind_8 : decode cX2_endsBehind 8 = .ok (.aload_n 0, 1) := by decide +kernel
theorem dX2_endsBehind_9 : decode cX2_endsBehind 9 = .ok (.getfield 34, 3) := by decide +kernel
theorem dX2_endsBehind_12 : decode cX2_endsBehind 12 = .ok (.getfield 49, 3) := by decide +kernel
theorem dX2_endsBehind_15 : decode cX2_endsBehind 15 = .ok (.if_icmp .ge 83, 3) := by decide +kernel
theorem dX2_endsBehind_18 : decode cX2_endsBehind 18 = .ok (.aload_n 0, 1) := by decide +kernel
theorem dX2_endsBehind_19 : decode cX2_endsBehind 19 = .ok (.getfield 24, 3) := by decide +kernel
theorem dX2_endsBehind_22 : decode cX2_endsBehind 22 = .ok (.iload_n 1, 1) := by decide +kernel
theorem dX2_endsBehind_23 : decode cX2_endsBehind 23 = .ok (.iload 5, 2) := by decide +kernel
theorem dX2_endsBehind_25 : decode cX2_endsBehind 25 = .ok (.invokevirtual 52, 3) := by decide +kernel
theorem dX2_endsBehind_28 : decode cX2_endsBehind 28 = .ok (.iload_n 3, 1) := by decide +kernel
theorem dX2_endsBehind_29 : decode cX2_endsBehind 29 = .ok (.if_icmp .ne 63, 3) := by decide +kernel
theorem dX2_endsBehind_32 : decode cX2_endsBehind 32 = .ok (.iload 4, 2) := by decide +kernel
theorem dX2_endsBehind_34 : decode cX2_endsBehind 34 = .ok (.iload_n 2, 1) := by decide +kernel
theorem dX2_endsBehind_35 : decode cX2_endsBehind 35 = .ok (.aload_n 0, 1) := by decide +kernel
theorem dX2_endsBehind_36 : decode cX2_endsBehind 36 = .ok (.getfield 34, 3) := by decide +kernel
theorem dX2_endsBehind_39 : decode cX2_endsBehind 39 = .ok (.getfield 56, 3) := by decide +kernel
theorem dX2_endsBehind_42 : decode cX2_endsBehind 42 = .ok (.iload 5, 2) := by decide +kernel
theorem dX2_endsBehind_44 : decode cX2_endsBehind 44 = .ok (.iaload, 1) := by decide +kernel
theorem dX2_endsBehind_45 : decode cX2_endsBehind 45 = .ok (.ishr, 1) := by decide +kernel
theorem dX2_endsBehind_46 : decode cX2_endsBehind 46 = .ok (.iconst 1, 1) := by decide +kernel
theorem dX2_endsBehind_47 : decode cX2_endsBehind 47 = .ok (.iand, 1) := by decide +kernel
theorem dX2_endsBehind_48 : decode cX2_endsBehind 48 = .ok (.aload_n 0, 1) := by decide +kernel
theorem dX2_endsBehind_49 : decode cX2_endsBehind 49 = .ok (.getfield 34, 3) := by decide +kernel
theorem dX2_endsBehind_52 : decode cX2_endsBehind 52 = .ok (.getfield 59, 3) := by decide +kernel
theorem dX2_endsBehind_55 : decode cX2_endsBehind 55 = .ok (.iload 5, 2) := by decide +kernel
theorem dX2_endsBehind_57 : decode cX2_endsBehind 57 = .ok (.iaload, 1) := by decide +kernel
theorem dX2_endsBehind_58 : decode cX2_endsBehind 58 = .ok (.ishl, 1) := by decide +kernel
theorem dX2_endsBehind_59 : decode cX2_endsBehind 59 = .ok (.ior, 1) := by decide +kernel
theorem dX2_endsBehind_60 : decode cX2_endsBehind 60 = .ok (.istore 4, 2) := by decide +kernel
theorem dX2_endsBehind_62 : decode cX2_endsBehind 62 = .ok (.iload 4, 2) := by decide +kernel
theorem dX2_endsBehind_64 : decode cX2_endsBehind 64 = .ok (.iload_n 2, 1) := by decide +kernel
theorem dX2_endsBehind_65 : decode cX2_endsBehind 65 = .ok (.aload_n 0, 1) := by decide +kernel
theorem dX2_endsBehind_66 : decode cX2_endsBehind 66 = .ok (.getfield 34, 3) := by decide +kernel
theorem dX2_endsBehind_69 : decode cX2_endsBehind 69 = .ok (.getfield 59, 3) := by decide +kernel
theorem dX2_endsBehind_72 : decode cX2_endsBehind 72 = .ok (.iload 5, 2) := by decide +kernel
theorem dX2_endsBehind_74 : decode cX2_endsBehind 74 = .ok (.iaload, 1) := by decide +kernel
theorem dX2_endsBehind_75 : decode cX2_endsBehind 75 = .ok (.ishr, 1) := by decide +kernel
theorem dX2_endsBehind_76 : decode cX2_endsBehind 76 = .ok (.iconst 1, 1) := by decide +kernel
theorem dX2_endsBehind_77 : decode cX2_endsBehind 77 = .ok (.iand, 1) := by decide +kernel
theorem dX2_endsBehind_78 : decode cX2_endsBehind 78 = .ok (.aload_n 0, 1) := by decide +kernel
theorem dX2_endsBehind_79 : decode cX2_endsBehind 79 = .ok (.getfield 34, 3) := by decide +kernel
theorem dX2_endsBehind_82 : decode cX2_endsBehind 82 = .ok (.getfield 56, 3) := by decide +kernel
theorem dX2_endsBehind_85 : decode cX2_endsBehind 85 = .ok (.iload 5, 2) := by decide +kernel
theorem dX2_endsBehind_87 : decode cX2_endsBehind 87 = .ok (.iaload, 1) := by decide +kernel
theorem dX2_endsBehind_88 : decode cX2_endsBehind 88 = .ok (.ishl, 1) := by decide +kernel
theorem dX2_endsBehind_89 : decode cX2_endsBehind 89 = .ok (.ior, 1) := by decide +kernel
theorem dX2_endsBehind_90 : decode cX2_endsBehind 90 = .ok (.istore 4, 2) := by decide +kernel
theorem dX2_endsBehind_92 : decode cX2_endsBehind 92 = .ok (.iinc 5 1, 3) := by decide +kernel
theorem dX2_endsBehind_95 : decode cX2_endsBehind 95 = .ok (.goto (-89), 3) := by decide +kernel
theorem dX2_endsBehind_98 : decode cX2_endsBehind 98 = .ok (.iload 4, 2) := by decide +kernel
theorem dX2_endsBehind_100 : decode cX2_endsBehind 100 = .ok (.ireturn, 1) := by decide +kernel
theorem dX2_kindsThatCan_0 : decode cX2_kindsThatCan 0 = .ok (.iconst 0, 1) := by decide +kernel
theorem dX2_kindsThatCan_1 : decode cX2_kindsThatCan 1 = .ok (.istore_n 1, 1) := by decide +kernel
theorem dX2_kindsThatCan_2 : decode cX2_kindsThatCan 2 = .ok (.iconst 0, 1) := by decide +kernel
theorem dX2_kindsThatCan_3 : decode cX2_kindsThatCan 3 = .ok (.istore_n 2, 1) := by decide +kernel
theorem dX2_kindsThatCan_4 : decode cX2_kindsThatCan 4 = .ok (.iload_n 2, 1) := by decide +kernel
theorem dX2_kindsThatCan_5 : decode cX2_kindsThatCan 5 = .ok (.aload_n 0, 1) := by decide +kernel
theorem dX2_kindsThatCan_6 : decode cX2_kindsThatCan 6 = .ok (.getfield 34, 3) := by decide +kernel
theorem dX2_kindsThatCan_9 : decode cX2_kindsThatCan 9 = .ok (.getfield 66, 3) := by decide +kernel
theorem dX2_kindsThatCan_12 : decode cX2_kindsThatCan 12 = .ok (.if_icmp .ge 23, 3) := by decide +kernel
theorem dX2_kindsThatCan_15 : decode cX2_kindsThatCan 15 = .ok (.aload_n 0, 1) := by decide +kernel
theorem dX2_kindsThatCan_16 : decode cX2_kindsThatCan 16 = .ok (.iload_n 2, 1) := by decide +kernel
theorem dX2_kindsThatCan_17 : decode cX2_kindsThatCan 17 = .ok (.invokevirtual 69, 3) := by decide +kernel
theorem dX2_kindsThatCan_20 : decode cX2_kindsThatCan 20 = .ok (.ifCond .eq 9, 3) := by decide +kernel
theorem dX2_kindsThatCan_23 : decode cX2_kindsThatCan 23 = .ok (.iload_n 1, 1) := by decide +kernel
theorem dX2_kindsThatCan_24 : decode cX2_kindsThatCan 24 = .ok (.iconst 1, 1) := by decide +kernel
theorem dX2_kindsThatCan_25 : decode cX2_kindsThatCan 25 = .ok (.iload_n 2, 1) := by decide +kernel
theorem dX2_kindsThatCan_26 : decode cX2_kindsThatCan 26 = .ok (.ishl, 1) := by decide +kernel
theorem dX2_kindsThatCan_27 : decode cX2_kindsThatCan 27 = .ok (.ior, 1) := by decide +kernel
theorem dX2_kindsThatCan_28 : decode cX2_kindsThatCan 28 = .ok (.istore_n 1, 1) := by decide +kernel
theorem dX2_kindsThatCan_29 : decode cX2_kindsThatCan 29 = .ok (.iinc 2 1, 3) := by decide +kernel
theorem dX2_kindsThatCan_32 : decode cX2_kindsThatCan 32 = .ok (.goto (-28), 3) := by decide +kernel
theorem dX2_kindsThatCan_35 : decode cX2_kindsThatCan 35 = .ok (.iload_n 1, 1) := by decide +kernel
theorem dX2_kindsThatCan_36 : decode cX2_kindsThatCan 36 = .ok (.ireturn, 1) := by decide +kernel
theorem dX2_fenceToWatch_0 : decode cX2_fenceToWatch 0 = .ok (.iconst 0, 1) := by decide +kernel
theorem dX2_fenceToWatch_1 : decode cX2_fenceToWatch 1 = .ok (.istore_n 1, 1) := by decide +kernel
theorem dX2_fenceToWatch_2 : decode cX2_fenceToWatch 2 = .ok (.iload_n 1, 1) := by decide +kernel
theorem dX2_fenceToWatch_3 : decode cX2_fenceToWatch 3 = .ok (.aload_n 0, 1) := by decide +kernel
theorem dX2_fenceToWatch_4 : decode cX2_fenceToWatch 4 = .ok (.getfield 34, 3) := by decide +kernel
theorem dX2_fenceToWatch_7 : decode cX2_fenceToWatch 7 = .ok (.getfield 66, 3) := by decide +kernel
theorem dX2_fenceToWatch_10 : decode cX2_fenceToWatch 10 = .ok (.if_icmp .ge 20, 3) := by decide +kernel
theorem dX2_fenceToWatch_13 : decode cX2_fenceToWatch 13 = .ok (.aload_n 0, 1) := by decide +kernel
theorem dX2_fenceToWatch_14 : decode cX2_fenceToWatch 14 = .ok (.getfield 15, 3) := by decide +kernel
theorem dX2_fenceToWatch_17 : decode cX2_fenceToWatch 17 = .ok (.iload_n 1, 1) := by decide +kernel
theorem dX2_fenceToWatch_18 : decode cX2_fenceToWatch 18 = .ok (.aload_n 0, 1) := by decide +kernel
theorem dX2_fenceToWatch_19 : decode cX2_fenceToWatch 19 = .ok (.iload_n 1, 1) := by decide +kernel
theorem dX2_fenceToWatch_20 : decode cX2_fenceToWatch 20 = .ok (.invokevirtual 69, 3) := by decide +kernel
theorem dX2_fenceToWatch_23 : decode cX2_fenceToWatch 23 = .ok (.iastore, 1) := by decide +kernel
theorem dX2_fenceToWatch_24 : decode cX2_fenceToWatch 24 = .ok (.iinc 1 1, 3) := by decide +kernel
theorem dX2_fenceToWatch_27 : decode cX2_fenceToWatch 27 = .ok (.goto (-25), 3) := by decide +kernel
theorem dX2_fenceToWatch_30 : decode cX2_fenceToWatch 30 = .ok (.bipush (-9), 2) := by decide +kernel
theorem dX2_fenceToWatch_32 : decode cX2_fenceToWatch 32 = .ok (.istore_n 1, 1) := by decide +kernel
theorem dX2_fenceToWatch_33 : decode cX2_fenceToWatch 33 = .ok (.iconst 5, 1) := by decide +kernel
theorem dX2_fenceToWatch_34 : decode cX2_fenceToWatch 34 = .ok (.istore_n 2, 1) := by decide +kernel
theorem dX2_fenceToWatch_35 : decode cX2_fenceToWatch 35 = .ok (.iconst 0, 1) := by decide +kernel
theorem dX2_fenceToWatch_36 : decode cX2_fenceToWatch 36 = .ok (.istore_n 3, 1) := by decide +kernel
theorem dX2_fenceToWatch_37 : decode cX2_fenceToWatch 37 = .ok (.iload_n 3, 1) := by decide +kernel
theorem dX2_fenceToWatch_38 : decode cX2_fenceToWatch 38 = .ok (.aload_n 0, 1) := by decide +kernel
theorem dX2_fenceToWatch_39 : decode cX2_fenceToWatch 39 = .ok (.getfield 34, 3) := by decide +kernel
theorem dX2_fenceToWatch_42 : decode cX2_fenceToWatch 42 = .ok (.getfield 49, 3) := by decide +kernel
theorem dX2_fenceToWatch_45 : decode cX2_fenceToWatch 45 = .ok (.if_icmp .ge 32, 3) := by decide +kernel
theorem dX2_fenceToWatch_48 : decode cX2_fenceToWatch 48 = .ok (.aload_n 0, 1) := by decide +kernel
theorem dX2_fenceToWatch_49 : decode cX2_fenceToWatch 49 = .ok (.iload_n 3, 1) := by decide +kernel
theorem dX2_fenceToWatch_50 : decode cX2_fenceToWatch 50 = .ok (.invokevirtual 73, 3) := by decide +kernel
theorem dX2_fenceToWatch_53 : decode cX2_fenceToWatch 53 = .ok (.istore 4, 2) := by decide +kernel
theorem dX2_fenceToWatch_55 : decode cX2_fenceToWatch 55 = .ok (.iload 4, 2) := by decide +kernel
theorem dX2_fenceToWatch_57 : decode cX2_fenceToWatch 57 = .ok (.ifCond .le 14, 3) := by decide +kernel
theorem dX2_fenceToWatch_60 : decode cX2_fenceToWatch 60 = .ok (.iload 4, 2) := by decide +kernel
theorem dX2_fenceToWatch_62 : decode cX2_fenceToWatch 62 = .ok (.iload_n 2, 1) := by decide +kernel
theorem dX2_fenceToWatch_63 : decode cX2_fenceToWatch 63 = .ok (.if_icmp .ge 8, 3) := by decide +kernel
theorem dX2_fenceToWatch_66 : decode cX2_fenceToWatch 66 = .ok (.iload 4, 2) := by decide +kernel
theorem dX2_fenceToWatch_68 : decode cX2_fenceToWatch 68 = .ok (.istore_n 2, 1) := by decide +kernel
theorem dX2_fenceToWatch_69 : decode cX2_fenceToWatch 69 = .ok (.iload_n 3, 1) := by decide +kernel
theorem dX2_fenceToWatch_70 : decode cX2_fenceToWatch 70 = .ok (.istore_n 1, 1) := by decide +kernel
theorem dX2_fenceToWatch_71 : decode cX2_fenceToWatch 71 = .ok (.iinc 3 1, 3) := by decide +kernel
theorem dX2_fenceToWatch_74 : decode cX2_fenceToWatch 74 = .ok (.goto (-37), 3) := by decide +kernel
theorem dX2_fenceToWatch_77 : decode cX2_fenceToWatch 77 = .ok (.iload_n 1, 1) := by decide +kernel
theorem dX2_fenceToWatch_78 : decode cX2_fenceToWatch 78 = .ok (.ireturn, 1) := by decide +kernel
theorem dX2_greatestCrowd_0 : decode cX2_greatestCrowd 0 = .ok (.iconst 0, 1) := by decide +kernel
theorem dX2_greatestCrowd_1 : decode cX2_greatestCrowd 1 = .ok (.istore_n 2, 1) := by decide +kernel
theorem dX2_greatestCrowd_2 : decode cX2_greatestCrowd 2 = .ok (.iconst 0, 1) := by decide +kernel
theorem dX2_greatestCrowd_3 : decode cX2_greatestCrowd 3 = .ok (.istore_n 3, 1) := by decide +kernel
theorem dX2_greatestCrowd_4 : decode cX2_greatestCrowd 4 = .ok (.iload_n 3, 1) := by decide +kernel
theorem dX2_greatestCrowd_5 : decode cX2_greatestCrowd 5 = .ok (.aload_n 0, 1) := by decide +kernel
theorem dX2_greatestCrowd_6 : decode cX2_greatestCrowd 6 = .ok (.getfield 34, 3) := by decide +kernel
theorem dX2_greatestCrowd_9 : decode cX2_greatestCrowd 9 = .ok (.getfield 66, 3) := by decide +kernel
theorem dX2_greatestCrowd_12 : decode cX2_greatestCrowd 12 = .ok (.if_icmp .ge 84, 3) := by decide +kernel
theorem dX2_greatestCrowd_15 : decode cX2_greatestCrowd 15 = .ok (.iconst 0, 1) := by decide +kernel
theorem dX2_greatestCrowd_16 : decode cX2_greatestCrowd 16 = .ok (.istore 4, 2) := by decide +kernel
theorem dX2_greatestCrowd_18 : decode cX2_greatestCrowd 18 = .ok (.iconst 0, 1) := by decide +kernel
theorem dX2_greatestCrowd_19 : decode cX2_greatestCrowd 19 = .ok (.istore 5, 2) := by decide +kernel
theorem dX2_greatestCrowd_21 : decode cX2_greatestCrowd 21 = .ok (.iload 5, 2) := by decide +kernel
theorem dX2_greatestCrowd_23 : decode cX2_greatestCrowd 23 = .ok (.aload_n 0, 1) := by decide +kernel
theorem dX2_greatestCrowd_24 : decode cX2_greatestCrowd 24 = .ok (.getfield 34, 3) := by decide +kernel
theorem dX2_greatestCrowd_27 : decode cX2_greatestCrowd 27 = .ok (.getfield 66, 3) := by decide +kernel
theorem dX2_greatestCrowd_30 : decode cX2_greatestCrowd 30 = .ok (.if_icmp .ge 53, 3) := by decide +kernel
theorem dX2_greatestCrowd_33 : decode cX2_greatestCrowd 33 = .ok (.aload_n 0, 1) := by decide +kernel
theorem dX2_greatestCrowd_34 : decode cX2_greatestCrowd 34 = .ok (.iload_n 3, 1) := by decide +kernel
theorem dX2_greatestCrowd_35 : decode cX2_greatestCrowd 35 = .ok (.iload_n 1, 1) := by decide +kernel
theorem dX2_greatestCrowd_36 : decode cX2_greatestCrowd 36 = .ok (.invokevirtual 76, 3) := by decide +kernel
theorem dX2_greatestCrowd_39 : decode cX2_greatestCrowd 39 = .ok (.ifCond .eq 38, 3) := by decide +kernel
theorem dX2_greatestCrowd_42 : decode cX2_greatestCrowd 42 = .ok (.aload_n 0, 1) := by decide +kernel
theorem dX2_greatestCrowd_43 : decode cX2_greatestCrowd 43 = .ok (.iload 5, 2) := by decide +kernel
theorem dX2_greatestCrowd_45 : decode cX2_greatestCrowd 45 = .ok (.iload_n 1, 1) := by decide +kernel
theorem dX2_greatestCrowd_46 : decode cX2_greatestCrowd 46 = .ok (.invokevirtual 76, 3) := by decide +kernel
theorem dX2_greatestCrowd_49 : decode cX2_greatestCrowd 49 = .ok (.ifCond .eq 28, 3) := by decide +kernel
theorem dX2_greatestCrowd_52 : decode cX2_greatestCrowd 52 = .ok (.aload_n 0, 1) := by decide +kernel
theorem dX2_greatestCrowd_53 : decode cX2_greatestCrowd 53 = .ok (.getfield 24, 3) := by decide +kernel
theorem dX2_greatestCrowd_56 : decode cX2_greatestCrowd 56 = .ok (.iload_n 3, 1) := by decide +kernel
theorem dX2_greatestCrowd_57 : decode cX2_greatestCrowd 57 = .ok (.iload_n 1, 1) := by decide +kernel
theorem dX2_greatestCrowd_58 : decode cX2_greatestCrowd 58 = .ok (.invokevirtual 52, 3) := by decide +kernel
theorem dX2_greatestCrowd_61 : decode cX2_greatestCrowd 61 = .ok (.aload_n 0, 1) := by decide +kernel
theorem dX2_greatestCrowd_62 : decode cX2_greatestCrowd 62 = .ok (.getfield 24, 3) := by decide +kernel
theorem dX2_greatestCrowd_65 : decode cX2_greatestCrowd 65 = .ok (.iload 5, 2) := by decide +kernel
theorem dX2_greatestCrowd_67 : decode cX2_greatestCrowd 67 = .ok (.iload_n 1, 1) := by decide +kernel
theorem dX2_greatestCrowd_68 : decode cX2_greatestCrowd 68 = .ok (.invokevirtual 52, 3) := by decide +kernel
theorem dX2_greatestCrowd_71 : decode cX2_greatestCrowd 71 = .ok (.if_icmp .ne 6, 3) := by decide +kernel
theorem dX2_greatestCrowd_74 : decode cX2_greatestCrowd 74 = .ok (.iinc 4 1, 3) := by decide +kernel
theorem dX2_greatestCrowd_77 : decode cX2_greatestCrowd 77 = .ok (.iinc 5 1, 3) := by decide +kernel
theorem dX2_greatestCrowd_80 : decode cX2_greatestCrowd 80 = .ok (.goto (-59), 3) := by decide +kernel
theorem dX2_greatestCrowd_83 : decode cX2_greatestCrowd 83 = .ok (.iload_n 2, 1) := by decide +kernel
theorem dX2_greatestCrowd_84 : decode cX2_greatestCrowd 84 = .ok (.iload 4, 2) := by decide +kernel
theorem dX2_greatestCrowd_86 : decode cX2_greatestCrowd 86 = .ok (.invokestatic 80, 3) := by decide +kernel
theorem dX2_greatestCrowd_89 : decode cX2_greatestCrowd 89 = .ok (.istore_n 2, 1) := by decide +kernel
theorem dX2_greatestCrowd_90 : decode cX2_greatestCrowd 90 = .ok (.iinc 3 1, 3) := by decide +kernel
theorem dX2_greatestCrowd_93 : decode cX2_greatestCrowd 93 = .ok (.goto (-89), 3) := by decide +kernel
theorem dX2_greatestCrowd_96 : decode cX2_greatestCrowd 96 = .ok (.iload_n 2, 1) := by decide +kernel
theorem dX2_greatestCrowd_97 : decode cX2_greatestCrowd 97 = .ok (.ireturn, 1) := by decide +kernel
theorem dX2_comesTo_0 : decode cX2_comesTo 0 = .ok (.aload_n 0, 1) := by decide +kernel
theorem dX2_comesTo_1 : decode cX2_comesTo 1 = .ok (.getfield 15, 3) := by decide +kernel
theorem dX2_comesTo_4 : decode cX2_comesTo 4 = .ok (.iload_n 1, 1) := by decide +kernel
theorem dX2_comesTo_5 : decode cX2_comesTo 5 = .ok (.iaload, 1) := by decide +kernel
theorem dX2_comesTo_6 : decode cX2_comesTo 6 = .ok (.aload_n 0, 1) := by decide +kernel
theorem dX2_comesTo_7 : decode cX2_comesTo 7 = .ok (.getfield 34, 3) := by decide +kernel
theorem dX2_comesTo_10 : decode cX2_comesTo 10 = .ok (.iload_n 2, 1) := by decide +kernel
theorem dX2_comesTo_11 : decode cX2_comesTo 11 = .ok (.invokevirtual 85, 3) := by decide +kernel
theorem dX2_comesTo_14 : decode cX2_comesTo 14 = .ok (.iand, 1) := by decide +kernel
theorem dX2_comesTo_15 : decode cX2_comesTo 15 = .ok (.ifCond .eq 7, 3) := by decide +kernel
theorem dX2_comesTo_18 : decode cX2_comesTo 18 = .ok (.iconst 1, 1) := by decide +kernel
theorem dX2_comesTo_19 : decode cX2_comesTo 19 = .ok (.goto 4, 3) := by decide +kernel
theorem dX2_comesTo_22 : decode cX2_comesTo 22 = .ok (.iconst 0, 1) := by decide +kernel
theorem dX2_comesTo_23 : decode cX2_comesTo 23 = .ok (.ireturn, 1) := by decide +kernel
theorem dX3_init_0 : decode cX3_init 0 = .ok (.aload_n 0, 1) := by decide +kernel
theorem dX3_init_1 : decode cX3_init 1 = .ok (.invokespecial 1, 3) := by decide +kernel
theorem dX3_init_4 : decode cX3_init 4 = .ok (.aload_n 0, 1) := by decide +kernel
theorem dX3_init_5 : decode cX3_init 5 = .ok (.new 7, 3) := by decide +kernel
theorem dX3_init_8 : decode cX3_init 8 = .ok (.dup, 1) := by decide +kernel
theorem dX3_init_9 : decode cX3_init 9 = .ok (.invokespecial 9, 3) := by decide +kernel
theorem dX3_init_12 : decode cX3_init 12 = .ok (.putfield 10, 3) := by decide +kernel
theorem dX3_init_15 : decode cX3_init 15 = .ok (.aload_n 0, 1) := by decide +kernel
theorem dX3_init_16 : decode cX3_init 16 = .ok (.new 16, 3) := by decide +kernel
theorem dX3_init_19 : decode cX3_init 19 = .ok (.dup, 1) := by decide +kernel
theorem dX3_init_20 : decode cX3_init 20 = .ok (.invokespecial 18, 3) := by decide +kernel
theorem dX3_init_23 : decode cX3_init 23 = .ok (.putfield 19, 3) := by decide +kernel
theorem dX3_init_26 : decode cX3_init 26 = .ok (.return_, 1) := by decide +kernel
theorem dX3_take_0 : decode cX3_take 0 = .ok (.aload_n 0, 1) := by decide +kernel
theorem dX3_take_1 : decode cX3_take 1 = .ok (.getfield 10, 3) := by decide +kernel
theorem dX3_take_4 : decode cX3_take 4 = .ok (.aload_n 1, 1) := by decide +kernel
theorem dX3_take_5 : decode cX3_take 5 = .ok (.invokevirtual 23, 3) := by decide +kernel
theorem dX3_take_8 : decode cX3_take 8 = .ok (.aload_n 0, 1) := by decide +kernel
theorem dX3_take_9 : decode cX3_take 9 = .ok (.getfield 19, 3) := by decide +kernel
theorem dX3_take_12 : decode cX3_take 12 = .ok (.aload_n 2, 1) := by decide +kernel
theorem dX3_take_13 : decode cX3_take 13 = .ok (.invokevirtual 27, 3) := by decide +kernel
theorem dX3_take_16 : decode cX3_take 16 = .ok (.aload_n 0, 1) := by decide +kernel
theorem dX3_take_17 : decode cX3_take 17 = .ok (.iconst 1, 1) := by decide +kernel
theorem dX3_take_18 : decode cX3_take 18 = .ok (.putfield 30, 3) := by decide +kernel
theorem dX3_take_21 : decode cX3_take 21 = .ok (.return_, 1) := by decide +kernel
theorem dX3_give_0 : decode cX3_give 0 = .ok (.aload_n 1, 1) := by decide +kernel
theorem dX3_give_1 : decode cX3_give 1 = .ok (.aload_n 0, 1) := by decide +kernel
theorem dX3_give_2 : decode cX3_give 2 = .ok (.getfield 10, 3) := by decide +kernel
theorem dX3_give_5 : decode cX3_give 5 = .ok (.invokevirtual 23, 3) := by decide +kernel
theorem dX3_give_8 : decode cX3_give 8 = .ok (.aload_n 2, 1) := by decide +kernel
theorem dX3_give_9 : decode cX3_give 9 = .ok (.aload_n 0, 1) := by decide +kernel
theorem dX3_give_10 : decode cX3_give 10 = .ok (.getfield 19, 3) := by decide +kernel
theorem dX3_give_13 : decode cX3_give 13 = .ok (.invokevirtual 27, 3) := by decide +kernel
theorem dX3_give_16 : decode cX3_give 16 = .ok (.return_, 1) := by decide +kernel
theorem dX4_init_0 : decode cX4_init 0 = .ok (.aload_n 0, 1) := by decide +kernel
theorem dX4_init_1 : decode cX4_init 1 = .ok (.invokespecial 3, 3) := by decide +kernel
theorem dX4_init_4 : decode cX4_init 4 = .ok (.aload_n 0, 1) := by decide +kernel
theorem dX4_init_5 : decode cX4_init 5 = .ok (.bipush 8, 2) := by decide +kernel
theorem dX4_init_7 : decode cX4_init 7 = .ok (.newarray .int, 2) := by decide +kernel
theorem dX4_init_9 : decode cX4_init 9 = .ok (.putfield 9, 3) := by decide +kernel
theorem dX4_init_12 : decode cX4_init 12 = .ok (.aload_n 0, 1) := by decide +kernel
theorem dX4_init_13 : decode cX4_init 13 = .ok (.bipush 8, 2) := by decide +kernel
theorem dX4_init_15 : decode cX4_init 15 = .ok (.newarray .int, 2) := by decide +kernel
theorem dX4_init_17 : decode cX4_init 17 = .ok (.putfield 15, 3) := by decide +kernel
theorem dX4_init_20 : decode cX4_init 20 = .ok (.aload_n 0, 1) := by decide +kernel
theorem dX4_init_21 : decode cX4_init 21 = .ok (.bipush 8, 2) := by decide +kernel
theorem dX4_init_23 : decode cX4_init 23 = .ok (.newarray .int, 2) := by decide +kernel
theorem dX4_init_25 : decode cX4_init 25 = .ok (.putfield 18, 3) := by decide +kernel
theorem dX4_init_28 : decode cX4_init 28 = .ok (.aload_n 0, 1) := by decide +kernel
theorem dX4_init_29 : decode cX4_init 29 = .ok (.iconst 4, 1) := by decide +kernel
theorem dX4_init_30 : decode cX4_init 30 = .ok (.newarray .int, 2) := by decide +kernel
theorem dX4_init_32 : decode cX4_init 32 = .ok (.putfield 21, 3) := by decide +kernel
theorem dX4_init_35 : decode cX4_init 35 = .ok (.aload_n 0, 1) := by decide +kernel
theorem dX4_init_36 : decode cX4_init 36 = .ok (.iconst 4, 1) := by decide +kernel
theorem dX4_init_37 : decode cX4_init 37 = .ok (.newarray .int, 2) := by decide +kernel
theorem dX4_init_39 : decode cX4_init 39 = .ok (.putfield 24, 3) := by decide +kernel
theorem dX4_init_42 : decode cX4_init 42 = .ok (.aload_n 0, 1) := by decide +kernel
theorem dX4_init_43 : decode cX4_init 43 = .ok (.bipush 6, 2) := by decide +kernel
theorem dX4_init_45 : decode cX4_init 45 = .ok (.newarray .int, 2) := by decide +kernel
theorem dX4_init_47 : decode cX4_init 47 = .ok (.putfield 27, 3) := by decide +kernel
theorem dX4_init_50 : decode cX4_init 50 = .ok (.aload_n 0, 1) := by decide +kernel
theorem dX4_init_51 : decode cX4_init 51 = .ok (.bipush 6, 2) := by decide +kernel
theorem dX4_init_53 : decode cX4_init 53 = .ok (.newarray .int, 2) := by decide +kernel
theorem dX4_init_55 : decode cX4_init 55 = .ok (.putfield 30, 3) := by decide +kernel
theorem dX4_init_58 : decode cX4_init 58 = .ok (.return_, 1) := by decide +kernel
theorem dX4_begin_0 : decode cX4_begin 0 = .ok (.aload_n 0, 1) := by decide +kernel
theorem dX4_begin_1 : decode cX4_begin 1 = .ok (.iconst 2, 1) := by decide +kernel
theorem dX4_begin_2 : decode cX4_begin 2 = .ok (.putfield 33, 3) := by decide +kernel
theorem dX4_begin_5 : decode cX4_begin 5 = .ok (.aload_n 0, 1) := by decide +kernel
theorem dX4_begin_6 : decode cX4_begin 6 = .ok (.iconst 0, 1) := by decide +kernel
theorem dX4_begin_7 : decode cX4_begin 7 = .ok (.putfield 37, 3) := by decide +kernel
theorem dX4_begin_10 : decode cX4_begin 10 = .ok (.aload_n 0, 1) := by decide +kernel
theorem dX4_begin_11 : decode cX4_begin 11 = .ok (.iconst 0, 1) := by decide +kernel
theorem dX4_begin_12 : decode cX4_begin 12 = .ok (.putfield 40, 3) := by decide +kernel
theorem dX4_begin_15 : decode cX4_begin 15 = .ok (.aload_n 0, 1) := by decide +kernel
theorem dX4_begin_16 : decode cX4_begin 16 = .ok (.iconst 0, 1) := by decide +kernel
theorem dX4_begin_17 : decode cX4_begin 17 = .ok (.putfield 43, 3) := by decide +kernel
theorem dX4_begin_20 : decode cX4_begin 20 = .ok (.aload_n 0, 1) := by decide +kernel
theorem dX4_begin_21 : decode cX4_begin 21 = .ok (.iconst 0, 1) := by decide +kernel
theorem dX4_begin_22 : decode cX4_begin 22 = .ok (.putfield 46, 3) := by decide +kernel
theorem dX4_begin_25 : decode cX4_begin 25 = .ok (.return_, 1) := by decide +kernel
theorem dX4_copyFrom_0 : decode cX4_copyFrom 0 = .ok (.aload_n 0, 1) := by decide +kernel
theorem dX4_copyFrom_1 : decode cX4_copyFrom 1 = .ok (.aload_n 1, 1) := by decide +kernel
theorem dX4_copyFrom_2 : decode cX4_copyFrom 2 = .ok (.getfield 33, 3) := by decide +kernel
theorem dX4_copyFrom_5 : decode cX4_copyFrom 5 = .ok (.putfield 33, 3) := by decide +kernel
theorem dX4_copyFrom_8 : decode cX4_copyFrom 8 = .ok (.aload_n 0, 1) := by decide +kernel
theorem dX4_copyFrom_9 : decode cX4_copyFrom 9 = .ok (.aload_n 1, 1) := by decide +kernel
theorem dX4_copyFrom_10 : decode cX4_copyFrom 10 = .ok (.getfield 37, 3) := by decide +kernel
theorem dX4_copyFrom_13 : decode cX4_copyFrom 13 = .ok (.putfield 37, 3) := by decide +kernel
theorem dX4_copyFrom_16 : decode cX4_copyFrom 16 = .ok (.aload_n 0, 1) := by decide +kernel
theorem dX4_copyFrom_17 : decode cX4_copyFrom 17 = .ok (.aload_n 1, 1) := by decide +kernel
theorem dX4_copyFrom_18 : decode cX4_copyFrom 18 = .ok (.getfield 40, 3) := by decide +kernel
theorem dX4_copyFrom_21 : decode cX4_copyFrom 21 = .ok (.putfield 40, 3) := by decide +kernel
theorem dX4_copyFrom_24 : decode cX4_copyFrom 24 = .ok (.aload_n 0, 1) := by decide +kernel
theorem dX4_copyFrom_25 : decode cX4_copyFrom 25 = .ok (.aload_n 1, 1) := by decide +kernel
theorem dX4_copyFrom_26 : decode cX4_copyFrom 26 = .ok (.getfield 43, 3) := by decide +kernel
theorem dX4_copyFrom_29 : decode cX4_copyFrom 29 = .ok (.putfield 43, 3) := by decide +kernel
theorem dX4_copyFrom_32 : decode cX4_copyFrom 32 = .ok (.aload_n 0, 1) := by decide +kernel
theorem dX4_copyFrom_33 : decode cX4_copyFrom 33 = .ok (.aload_n 1, 1) := by decide +kernel
theorem dX4_copyFrom_34 : decode cX4_copyFrom 34 = .ok (.getfield 46, 3) := by decide +kernel
theorem dX4_copyFrom_37 : decode cX4_copyFrom 37 = .ok (.putfield 46, 3) := by decide +kernel
theorem dX4_copyFrom_40 : decode cX4_copyFrom 40 = .ok (.aload_n 1, 1) := by decide +kernel
theorem dX4_copyFrom_41 : decode cX4_copyFrom 41 = .ok (.getfield 9, 3) := by decide +kernel
theorem dX4_copyFrom_44 : decode cX4_copyFrom 44 = .ok (.iconst 0, 1) := by decide +kernel
theorem dX4_copyFrom_45 : decode cX4_copyFrom 45 = .ok (.aload_n 0, 1) := by decide +kernel
theorem dX4_copyFrom_46 : decode cX4_copyFrom 46 = .ok (.getfield 9, 3) := by decide +kernel
theorem dX4_copyFrom_49 : decode cX4_copyFrom 49 = .ok (.iconst 0, 1) := by decide +kernel
theorem dX4_copyFrom_50 : decode cX4_copyFrom 50 = .ok (.bipush 8, 2) := by decide +kernel
theorem dX4_copyFrom_52 : decode cX4_copyFrom 52 = .ok (.invokestatic 49, 3) := by decide +kernel
theorem dX4_copyFrom_55 : decode cX4_copyFrom 55 = .ok (.aload_n 1, 1) := by decide +kernel
theorem dX4_copyFrom_56 : decode cX4_copyFrom 56 = .ok (.getfield 15, 3) := by decide +kernel
theorem dX4_copyFrom_59 : decode cX4_copyFrom 59 = .ok (.iconst 0, 1) := by decide +kernel
theorem dX4_copyFrom_60 : decode cX4_copyFrom 60 = .ok (.aload_n 0, 1) := by decide +kernel
theorem dX4_copyFrom_61 : decode cX4_copyFrom 61 = .ok (.getfield 15, 3) := by decide +kernel
theorem dX4_copyFrom_64 : decode cX4_copyFrom 64 = .ok (.iconst 0, 1) := by decide +kernel
theorem dX4_copyFrom_65 : decode cX4_copyFrom 65 = .ok (.bipush 8, 2) := by decide +kernel
theorem dX4_copyFrom_67 : decode cX4_copyFrom 67 = .ok (.invokestatic 49, 3) := by decide +kernel
theorem dX4_copyFrom_70 : decode cX4_copyFrom 70 = .ok (.aload_n 1, 1) := by decide +kernel
theorem dX4_copyFrom_71 : decode cX4_copyFrom 71 = .ok (.getfield 18, 3) := by decide +kernel
theorem dX4_copyFrom_74 : decode cX4_copyFrom 74 = .ok (.iconst 0, 1) := by decide +kernel
theorem dX4_copyFrom_75 : decode cX4_copyFrom 75 = .ok (.aload_n 0, 1) := by decide +kernel
theorem dX4_copyFrom_76 : decode cX4_copyFrom 76 = .ok (.getfield 18, 3) := by decide +kernel
theorem dX4_copyFrom_79 : decode cX4_copyFrom 79 = .ok (.iconst 0, 1) := by decide +kernel
theorem dX4_copyFrom_80 : decode cX4_copyFrom 80 = .ok (.bipush 8, 2) := by decide +kernel
theorem dX4_copyFrom_82 : decode cX4_copyFrom 82 = .ok (.invokestatic 49, 3) := by decide +kernel
theorem dX4_copyFrom_85 : decode cX4_copyFrom 85 = .ok (.aload_n 1, 1) := by decide +kernel
theorem dX4_copyFrom_86 : decode cX4_copyFrom 86 = .ok (.getfield 21, 3) := by decide +kernel
theorem dX4_copyFrom_89 : decode cX4_copyFrom 89 = .ok (.iconst 0, 1) := by decide +kernel
theorem dX4_copyFrom_90 : decode cX4_copyFrom 90 = .ok (.aload_n 0, 1) := by decide +kernel
theorem dX4_copyFrom_91 : decode cX4_copyFrom 91 = .ok (.getfield 21, 3) := by decide +kernel
theorem dX4_copyFrom_94 : decode cX4_copyFrom 94 = .ok (.iconst 0, 1) := by decide +kernel
theorem dX4_copyFrom_95 : decode cX4_copyFrom 95 = .ok (.iconst 4, 1) := by decide +kernel
theorem dX4_copyFrom_96 : decode cX4_copyFrom 96 = .ok (.invokestatic 49, 3) := by decide +kernel
theorem dX4_copyFrom_99 : decode cX4_copyFrom 99 = .ok (.aload_n 1, 1) := by decide +kernel
theorem dX4_copyFrom_100 : decode cX4_copyFrom 100 = .ok (.getfield 24, 3) := by decide +kernel
theorem dX4_copyFrom_103 : decode cX4_copyFrom 103 = .ok (.iconst 0, 1) := by decide +kernel
theorem dX4_copyFrom_104 : decode cX4_copyFrom 104 = .ok (.aload_n 0, 1) := by decide +kernel
theorem dX4_copyFrom_105 : decode cX4_copyFrom 105 = .ok (.getfield 24, 3) := by decide +kernel
theorem dX4_copyFrom_108 : decode cX4_copyFrom 108 = .ok (.iconst 0, 1) := by decide +kernel
theorem dX4_copyFrom_109 : decode cX4_copyFrom 109 = .ok (.iconst 4, 1) := by decide +kernel
theorem dX4_copyFrom_110 : decode cX4_copyFrom 110 = .ok (.invokestatic 49, 3) := by decide +kernel
theorem dX4_copyFrom_113 : decode cX4_copyFrom 113 = .ok (.aload_n 1, 1) := by decide +kernel
theorem dX4_copyFrom_114 : decode cX4_copyFrom 114 = .ok (.getfield 27, 3) := by decide +kernel
theorem dX4_copyFrom_117 : decode cX4_copyFrom 117 = .ok (.iconst 0, 1) := by decide +kernel
theorem dX4_copyFrom_118 : decode cX4_copyFrom 118 = .ok (.aload_n 0, 1) := by decide +kernel
theorem dX4_copyFrom_119 : decode cX4_copyFrom 119 = .ok (.getfield 27, 3) := by decide +kernel
theorem dX4_copyFrom_122 : decode cX4_copyFrom 122 = .ok (.iconst 0, 1) := by decide +kernel
theorem dX4_copyFrom_123 : decode cX4_copyFrom 123 = .ok (.bipush 6, 2) := by decide +kernel
theorem dX4_copyFrom_125 : decode cX4_copyFrom 125 = .ok (.invokestatic 49, 3) := by decide +kernel
theorem dX4_copyFrom_128 : decode cX4_copyFrom 128 = .ok (.aload_n 1, 1) := by decide +kernel
theorem dX4_copyFrom_129 : decode cX4_copyFrom 129 = .ok (.getfield 30, 3) := by decide +kernel
theorem dX4_copyFrom_132 : decode cX4_copyFrom 132 = .ok (.iconst 0, 1) := by decide +kernel
theorem dX4_copyFrom_133 : decode cX4_copyFrom 133 = .ok (.aload_n 0, 1) := by decide +kernel
theorem dX4_copyFrom_134 : decode cX4_copyFrom 134 = .ok (.getfield 30, 3) := by decide +kernel
theorem dX4_copyFrom_137 : decode cX4_copyFrom 137 = .ok (.iconst 0, 1) := by decide +kernel
theorem dX4_copyFrom_138 : decode cX4_copyFrom 138 = .ok (.bipush 6, 2) := by decide +kernel
theorem dX4_copyFrom_140 : decode cX4_copyFrom 140 = .ok (.invokestatic 49, 3) := by decide +kernel
theorem dX4_copyFrom_143 : decode cX4_copyFrom 143 = .ok (.return_, 1) := by decide +kernel
theorem dX4_isAt_0 : decode cX4_isAt 0 = .ok (.aload_n 0, 1) := by decide +kernel
theorem dX4_isAt_1 : decode cX4_isAt 1 = .ok (.getfield 9, 3) := by decide +kernel
theorem dX4_isAt_4 : decode cX4_isAt 4 = .ok (.iload_n 1, 1) := by decide +kernel
theorem dX4_isAt_5 : decode cX4_isAt 5 = .ok (.iaload, 1) := by decide +kernel
theorem dX4_isAt_6 : decode cX4_isAt 6 = .ok (.iload_n 2, 1) := by decide +kernel
theorem dX4_isAt_7 : decode cX4_isAt 7 = .ok (.if_icmp .eq 13, 3) := by decide +kernel
theorem dX4_isAt_10 : decode cX4_isAt 10 = .ok (.aload_n 0, 1) := by decide +kernel
theorem dX4_isAt_11 : decode cX4_isAt 11 = .ok (.getfield 15, 3) := by decide +kernel
theorem dX4_isAt_14 : decode cX4_isAt 14 = .ok (.iload_n 1, 1) := by decide +kernel
theorem dX4_isAt_15 : decode cX4_isAt 15 = .ok (.iaload, 1) := by decide +kernel
theorem dX4_isAt_16 : decode cX4_isAt 16 = .ok (.iload_n 2, 1) := by decide +kernel
theorem dX4_isAt_17 : decode cX4_isAt 17 = .ok (.if_icmp .ne 7, 3) := by decide +kernel
theorem dX4_isAt_20 : decode cX4_isAt 20 = .ok (.iconst 1, 1) := by decide +kernel
theorem dX4_isAt_21 : decode cX4_isAt 21 = .ok (.goto 4, 3) := by decide +kernel
theorem dX4_isAt_24 : decode cX4_isAt 24 = .ok (.iconst 0, 1) := by decide +kernel
theorem dX4_isAt_25 : decode cX4_isAt 25 = .ok (.ireturn, 1) := by decide +kernel
theorem dX4_across_0 : decode cX4_across 0 = .ok (.aload_n 0, 1) := by decide +kernel
theorem dX4_across_1 : decode cX4_across 1 = .ok (.getfield 9, 3) := by decide +kernel
theorem dX4_across_4 : decode cX4_across 4 = .ok (.iload_n 1, 1) := by decide +kernel
theorem dX4_across_5 : decode cX4_across 5 = .ok (.iaload, 1) := by decide +kernel
theorem dX4_across_6 : decode cX4_across 6 = .ok (.iload_n 2, 1) := by decide +kernel
theorem dX4_across_7 : decode cX4_across 7 = .ok (.if_icmp .ne 12, 3) := by decide +kernel
theorem dX4_across_10 : decode cX4_across 10 = .ok (.aload_n 0, 1) := by decide +kernel
theorem dX4_across_11 : decode cX4_across 11 = .ok (.getfield 15, 3) := by decide +kernel
theorem dX4_across_14 : decode cX4_across 14 = .ok (.iload_n 1, 1) := by decide +kernel
theorem dX4_across_15 : decode cX4_across 15 = .ok (.iaload, 1) := by decide +kernel
theorem dX4_across_16 : decode cX4_across 16 = .ok (.goto 9, 3) := by decide +kernel
theorem dX4_across_19 : decode cX4_across 19 = .ok (.aload_n 0, 1) := by decide +kernel
theorem dX4_across_20 : decode cX4_across 20 = .ok (.getfield 9, 3) := by decide +kernel
theorem dX4_across_23 : decode cX4_across 23 = .ok (.iload_n 1, 1) := by decide +kernel
theorem dX4_across_24 : decode cX4_across 24 = .ok (.iaload, 1) := by decide +kernel
theorem dX4_across_25 : decode cX4_across 25 = .ok (.ireturn, 1) := by decide +kernel
theorem dX4_endBits_0 : decode cX4_endBits 0 = .ok (.iconst 1, 1) := by decide +kernel
theorem dX4_endBits_1 : decode cX4_endBits 1 = .ok (.aload_n 0, 1) := by decide +kernel
theorem dX4_endBits_2 : decode cX4_endBits 2 = .ok (.getfield 9, 3) := by decide +kernel
theorem dX4_endBits_5 : decode cX4_endBits 5 = .ok (.iload_n 1, 1) := by decide +kernel
theorem dX4_endBits_6 : decode cX4_endBits 6 = .ok (.iaload, 1) := by decide +kernel
theorem dX4_endBits_7 : decode cX4_endBits 7 = .ok (.ishl, 1) := by decide +kernel
theorem dX4_endBits_8 : decode cX4_endBits 8 = .ok (.iconst 1, 1) := by decide +kernel
theorem dX4_endBits_9 : decode cX4_endBits 9 = .ok (.aload_n 0, 1) := by decide +kernel
theorem dX4_endBits_10 : decode cX4_endBits 10 = .ok (.getfield 15, 3) := by decide +kernel
theorem dX4_endBits_13 : decode cX4_endBits 13 = .ok (.iload_n 1, 1) := by decide +kernel
theorem dX4_endBits_14 : decode cX4_endBits 14 = .ok (.iaload, 1) := by decide +kernel
theorem dX4_endBits_15 : decode cX4_endBits 15 = .ok (.ishl, 1) := by decide +kernel
theorem dX4_endBits_16 : decode cX4_endBits 16 = .ok (.ior, 1) := by decide +kernel
theorem dX4_endBits_17 : decode cX4_endBits 17 = .ok (.ireturn, 1) := by decide +kernel
theorem dX5_init_0 : decode cX5_init 0 = .ok (.aload_n 0, 1) := by decide +kernel
theorem dX5_init_1 : decode cX5_init 1 = .ok (.invokespecial 3, 3) := by decide +kernel
theorem dX5_init_4 : decode cX5_init 4 = .ok (.aload_n 0, 1) := by decide +kernel
theorem dX5_init_5 : decode cX5_init 5 = .ok (.bipush 10, 2) := by decide +kernel
theorem dX5_init_7 : decode cX5_init 7 = .ok (.anewarray 9, 3) := by decide +kernel
theorem dX5_init_10 : decode cX5_init 10 = .ok (.putfield 11, 3) := by decide +kernel
theorem dX5_init_13 : decode cX5_init 13 = .ok (.iconst 0, 1) := by decide +kernel
theorem dX5_init_14 : decode cX5_init 14 = .ok (.istore_n 1, 1) := by decide +kernel
theorem dX5_init_15 : decode cX5_init 15 = .ok (.iload_n 1, 1) := by decide +kernel
theorem dX5_init_16 : decode cX5_init 16 = .ok (.bipush 10, 2) := by decide +kernel
theorem dX5_init_18 : decode cX5_init 18 = .ok (.if_icmp .ge 22, 3) := by decide +kernel
theorem dX5_init_21 : decode cX5_init 21 = .ok (.aload_n 0, 1) := by decide +kernel
theorem dX5_init_22 : decode cX5_init 22 = .ok (.getfield 11, 3) := by decide +kernel
theorem dX5_init_25 : decode cX5_init 25 = .ok (.iload_n 1, 1) := by decide +kernel
theorem dX5_init_26 : decode cX5_init 26 = .ok (.new 9, 3) := by decide +kernel
theorem dX5_init_29 : decode cX5_init 29 = .ok (.dup, 1) := by decide +kernel
theorem dX5_init_30 : decode cX5_init 30 = .ok (.invokespecial 17, 3) := by decide +kernel
theorem dX5_init_33 : decode cX5_init 33 = .ok (.aastore, 1) := by decide +kernel
theorem dX5_init_34 : decode cX5_init 34 = .ok (.iinc 1 1, 3) := by decide +kernel
theorem dX5_init_37 : decode cX5_init 37 = .ok (.goto (-22), 3) := by decide +kernel
theorem dX5_init_40 : decode cX5_init 40 = .ok (.return_, 1) := by decide +kernel
theorem dX5_note_0 : decode cX5_note 0 = .ok (.aload_n 0, 1) := by decide +kernel
theorem dX5_note_1 : decode cX5_note 1 = .ok (.aload_n 0, 1) := by decide +kernel
theorem dX5_note_2 : decode cX5_note 2 = .ok (.getfield 18, 3) := by decide +kernel
theorem dX5_note_5 : decode cX5_note 5 = .ok (.iconst 1, 1) := by decide +kernel
theorem dX5_note_6 : decode cX5_note 6 = .ok (.iadd, 1) := by decide +kernel
theorem dX5_note_7 : decode cX5_note 7 = .ok (.bipush 10, 2) := by decide +kernel
theorem dX5_note_9 : decode cX5_note 9 = .ok (.if_icmp .ge 12, 3) := by decide +kernel
theorem dX5_note_12 : decode cX5_note 12 = .ok (.aload_n 0, 1) := by decide +kernel
theorem dX5_note_13 : decode cX5_note 13 = .ok (.getfield 18, 3) := by decide +kernel
theorem dX5_note_16 : decode cX5_note 16 = .ok (.iconst 1, 1) := by decide +kernel
theorem dX5_note_17 : decode cX5_note 17 = .ok (.iadd, 1) := by decide +kernel
theorem dX5_note_18 : decode cX5_note 18 = .ok (.goto 4, 3) := by decide +kernel
theorem dX5_note_21 : decode cX5_note 21 = .ok (.iconst 0, 1) := by decide +kernel
theorem dX5_note_22 : decode cX5_note 22 = .ok (.putfield 18, 3) := by decide +kernel
theorem dX5_note_25 : decode cX5_note 25 = .ok (.aload_n 0, 1) := by decide +kernel
theorem dX5_note_26 : decode cX5_note 26 = .ok (.getfield 11, 3) := by decide +kernel
theorem dX5_note_29 : decode cX5_note 29 = .ok (.aload_n 0, 1) := by decide +kernel
theorem dX5_note_30 : decode cX5_note 30 = .ok (.getfield 18, 3) := by decide +kernel
theorem dX5_note_33 : decode cX5_note 33 = .ok (.aaload, 1) := by decide +kernel
theorem dX5_note_34 : decode cX5_note 34 = .ok (.aload_n 1, 1) := by decide +kernel
theorem dX5_note_35 : decode cX5_note 35 = .ok (.invokevirtual 22, 3) := by decide +kernel
theorem dX5_note_38 : decode cX5_note 38 = .ok (.aload_n 0, 1) := by decide +kernel
theorem dX5_note_39 : decode cX5_note 39 = .ok (.bipush 10, 2) := by decide +kernel
theorem dX5_note_41 : decode cX5_note 41 = .ok (.aload_n 0, 1) := by decide +kernel
theorem dX5_note_42 : decode cX5_note 42 = .ok (.getfield 26, 3) := by decide +kernel
theorem dX5_note_45 : decode cX5_note 45 = .ok (.iconst 1, 1) := by decide +kernel
theorem dX5_note_46 : decode cX5_note 46 = .ok (.iadd, 1) := by decide +kernel
theorem dX5_note_47 : decode cX5_note 47 = .ok (.invokestatic 29, 3) := by decide +kernel
theorem dX5_note_50 : decode cX5_note 50 = .ok (.putfield 26, 3) := by decide +kernel
theorem dX5_note_53 : decode cX5_note 53 = .ok (.return_, 1) := by decide +kernel
theorem dX5_restore_0 : decode cX5_restore 0 = .ok (.aload_n 1, 1) := by decide +kernel
theorem dX5_restore_1 : decode cX5_restore 1 = .ok (.aload_n 0, 1) := by decide +kernel
theorem dX5_restore_2 : decode cX5_restore 2 = .ok (.getfield 11, 3) := by decide +kernel
theorem dX5_restore_5 : decode cX5_restore 5 = .ok (.aload_n 0, 1) := by decide +kernel
theorem dX5_restore_6 : decode cX5_restore 6 = .ok (.getfield 18, 3) := by decide +kernel
theorem dX5_restore_9 : decode cX5_restore 9 = .ok (.aaload, 1) := by decide +kernel
theorem dX5_restore_10 : decode cX5_restore 10 = .ok (.invokevirtual 22, 3) := by decide +kernel
theorem dX5_restore_13 : decode cX5_restore 13 = .ok (.aload_n 0, 1) := by decide +kernel
theorem dX5_restore_14 : decode cX5_restore 14 = .ok (.aload_n 0, 1) := by decide +kernel
theorem dX5_restore_15 : decode cX5_restore 15 = .ok (.getfield 18, 3) := by decide +kernel
theorem dX5_restore_18 : decode cX5_restore 18 = .ok (.ifCond .le 12, 3) := by decide +kernel
theorem dX5_restore_21 : decode cX5_restore 21 = .ok (.aload_n 0, 1) := by decide +kernel
theorem dX5_restore_22 : decode cX5_restore 22 = .ok (.getfield 18, 3) := by decide +kernel
theorem dX5_restore_25 : decode cX5_restore 25 = .ok (.iconst 1, 1) := by decide +kernel
theorem dX5_restore_26 : decode cX5_restore 26 = .ok (.isub, 1) := by decide +kernel
theorem dX5_restore_27 : decode cX5_restore 27 = .ok (.goto 5, 3) := by decide +kernel
theorem dX5_restore_30 : decode cX5_restore 30 = .ok (.bipush 9, 2) := by decide +kernel
theorem dX5_restore_32 : decode cX5_restore 32 = .ok (.putfield 18, 3) := by decide +kernel
theorem dX5_restore_35 : decode cX5_restore 35 = .ok (.aload_n 0, 1) := by decide +kernel
theorem dX5_restore_36 : decode cX5_restore 36 = .ok (.iconst 0, 1) := by decide +kernel
theorem dX5_restore_37 : decode cX5_restore 37 = .ok (.aload_n 0, 1) := by decide +kernel
theorem dX5_restore_38 : decode cX5_restore 38 = .ok (.getfield 26, 3) := by decide +kernel
theorem dX5_restore_41 : decode cX5_restore 41 = .ok (.iconst 1, 1) := by decide +kernel
theorem dX5_restore_42 : decode cX5_restore 42 = .ok (.isub, 1) := by decide +kernel
theorem dX5_restore_43 : decode cX5_restore 43 = .ok (.invokestatic 35, 3) := by decide +kernel
theorem dX5_restore_46 : decode cX5_restore 46 = .ok (.putfield 26, 3) := by decide +kernel
theorem dX5_restore_49 : decode cX5_restore 49 = .ok (.return_, 1) := by decide +kernel
theorem dX5_copyFrom_0 : decode cX5_copyFrom 0 = .ok (.iconst 0, 1) := by decide +kernel
theorem dX5_copyFrom_1 : decode cX5_copyFrom 1 = .ok (.istore_n 2, 1) := by decide +kernel
theorem dX5_copyFrom_2 : decode cX5_copyFrom 2 = .ok (.iload_n 2, 1) := by decide +kernel
theorem dX5_copyFrom_3 : decode cX5_copyFrom 3 = .ok (.bipush 10, 2) := by decide +kernel
theorem dX5_copyFrom_5 : decode cX5_copyFrom 5 = .ok (.if_icmp .ge 24, 3) := by decide +kernel
theorem dX5_copyFrom_8 : decode cX5_copyFrom 8 = .ok (.aload_n 0, 1) := by decide +kernel
theorem dX5_copyFrom_9 : decode cX5_copyFrom 9 = .ok (.getfield 11, 3) := by decide +kernel
theorem dX5_copyFrom_12 : decode cX5_copyFrom 12 = .ok (.iload_n 2, 1) := by decide +kernel
theorem dX5_copyFrom_13 : decode cX5_copyFrom 13 = .ok (.aaload, 1) := by decide +kernel
theorem dX5_copyFrom_14 : decode cX5_copyFrom 14 = .ok (.aload_n 1, 1) := by decide +kernel
theorem dX5_copyFrom_15 : decode cX5_copyFrom 15 = .ok (.getfield 11, 3) := by decide +kernel
theorem dX5_copyFrom_18 : decode cX5_copyFrom 18 = .ok (.iload_n 2, 1) := by decide +kernel
theorem dX5_copyFrom_19 : decode cX5_copyFrom 19 = .ok (.aaload, 1) := by decide +kernel
theorem dX5_copyFrom_20 : decode cX5_copyFrom 20 = .ok (.invokevirtual 22, 3) := by decide +kernel
theorem dX5_copyFrom_23 : decode cX5_copyFrom 23 = .ok (.iinc 2 1, 3) := by decide +kernel
theorem dX5_copyFrom_26 : decode cX5_copyFrom 26 = .ok (.goto (-24), 3) := by decide +kernel
theorem dX5_copyFrom_29 : decode cX5_copyFrom 29 = .ok (.aload_n 0, 1) := by decide +kernel
theorem dX5_copyFrom_30 : decode cX5_copyFrom 30 = .ok (.aload_n 1, 1) := by decide +kernel
theorem dX5_copyFrom_31 : decode cX5_copyFrom 31 = .ok (.getfield 18, 3) := by decide +kernel
theorem dX5_copyFrom_34 : decode cX5_copyFrom 34 = .ok (.putfield 18, 3) := by decide +kernel
theorem dX5_copyFrom_37 : decode cX5_copyFrom 37 = .ok (.aload_n 0, 1) := by decide +kernel
theorem dX5_copyFrom_38 : decode cX5_copyFrom 38 = .ok (.aload_n 1, 1) := by decide +kernel
theorem dX5_copyFrom_39 : decode cX5_copyFrom 39 = .ok (.getfield 26, 3) := by decide +kernel
theorem dX5_copyFrom_42 : decode cX5_copyFrom 42 = .ok (.putfield 26, 3) := by decide +kernel
theorem dX5_copyFrom_45 : decode cX5_copyFrom 45 = .ok (.return_, 1) := by decide +kernel
