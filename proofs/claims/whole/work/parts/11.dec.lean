theorem dX0_init_0 : decode cX0_init 0 = .ok (.aload_n 0, 1) := by decide +kernel
theorem dX0_init_1 : decode cX0_init 1 = .ok (.invokespecial 3, 3) := by decide +kernel
theorem dX0_init_4 : decode cX0_init 4 = .ok (.aload_n 0, 1) := by decide +kernel
theorem dX0_init_5 : decode cX0_init 5 = .ok (.bipush 8, 2) := by decide +kernel
theorem dX0_init_7 : decode cX0_init 7 = .ok (.bipush 8, 2) := by decide +kernel
theorem dX0_init_9 : decode cX0_init 9 = .ok (.invokestatic 9, 3) := by decide +kernel
theorem dX0_init_12 : decode cX0_init 12 = .ok (.newarray .int, 2) := by decide +kernel
theorem dX0_init_14 : decode cX0_init 14 = .ok (.putfield 15, 3) := by decide +kernel
theorem dX0_init_17 : decode cX0_init 17 = .ok (.aload_n 0, 1) := by decide +kernel
theorem dX0_init_18 : decode cX0_init 18 = .ok (.bipush 8, 2) := by decide +kernel
theorem dX0_init_20 : decode cX0_init 20 = .ok (.newarray .int, 2) := by decide +kernel
theorem dX0_init_22 : decode cX0_init 22 = .ok (.putfield 21, 3) := by decide +kernel
theorem dX0_init_25 : decode cX0_init 25 = .ok (.aload_n 0, 1) := by decide +kernel
theorem dX0_init_26 : decode cX0_init 26 = .ok (.sipush 256, 3) := by decide +kernel
theorem dX0_init_29 : decode cX0_init 29 = .ok (.newarray .int, 2) := by decide +kernel
theorem dX0_init_31 : decode cX0_init 31 = .ok (.putfield 24, 3) := by decide +kernel
theorem dX0_init_34 : decode cX0_init 34 = .ok (.aload_n 0, 1) := by decide +kernel
theorem dX0_init_35 : decode cX0_init 35 = .ok (.aload_n 1, 1) := by decide +kernel
theorem dX0_init_36 : decode cX0_init 36 = .ok (.putfield 27, 3) := by decide +kernel
theorem dX0_init_39 : decode cX0_init 39 = .ok (.aload_n 0, 1) := by decide +kernel
theorem dX0_init_40 : decode cX0_init 40 = .ok (.aload_n 1, 1) := by decide +kernel
theorem dX0_init_41 : decode cX0_init 41 = .ok (.getfield 31, 3) := by decide +kernel
theorem dX0_init_44 : decode cX0_init 44 = .ok (.putfield 37, 3) := by decide +kernel
theorem dX0_init_47 : decode cX0_init 47 = .ok (.return_, 1) := by decide +kernel
theorem dX0_alike_0 : decode cX0_alike 0 = .ok (.aload_n 0, 1) := by decide +kernel
theorem dX0_alike_1 : decode cX0_alike 1 = .ok (.invokevirtual 38, 3) := by decide +kernel
theorem dX0_alike_4 : decode cX0_alike 4 = .ok (.iconst 0, 1) := by decide +kernel
theorem dX0_alike_5 : decode cX0_alike 5 = .ok (.istore_n 1, 1) := by decide +kernel
theorem dX0_alike_6 : decode cX0_alike 6 = .ok (.iconst 0, 1) := by decide +kernel
theorem dX0_alike_7 : decode cX0_alike 7 = .ok (.istore_n 2, 1) := by decide +kernel
theorem dX0_alike_8 : decode cX0_alike 8 = .ok (.iload_n 2, 1) := by decide +kernel
theorem dX0_alike_9 : decode cX0_alike 9 = .ok (.aload_n 0, 1) := by decide +kernel
theorem dX0_alike_10 : decode cX0_alike 10 = .ok (.getfield 37, 3) := by decide +kernel
theorem dX0_alike_13 : decode cX0_alike 13 = .ok (.getfield 41, 3) := by decide +kernel
theorem dX0_alike_16 : decode cX0_alike 16 = .ok (.if_icmp .ge 21, 3) := by decide +kernel
theorem dX0_alike_19 : decode cX0_alike 19 = .ok (.iload_n 1, 1) := by decide +kernel
theorem dX0_alike_20 : decode cX0_alike 20 = .ok (.aload_n 0, 1) := by decide +kernel
theorem dX0_alike_21 : decode cX0_alike 21 = .ok (.getfield 15, 3) := by decide +kernel
theorem dX0_alike_24 : decode cX0_alike 24 = .ok (.iload_n 2, 1) := by decide +kernel
theorem dX0_alike_25 : decode cX0_alike 25 = .ok (.iaload, 1) := by decide +kernel
theorem dX0_alike_26 : decode cX0_alike 26 = .ok (.invokestatic 47, 3) := by decide +kernel
theorem dX0_alike_29 : decode cX0_alike 29 = .ok (.iadd, 1) := by decide +kernel
theorem dX0_alike_30 : decode cX0_alike 30 = .ok (.istore_n 1, 1) := by decide +kernel
theorem dX0_alike_31 : decode cX0_alike 31 = .ok (.iinc 2 1, 3) := by decide +kernel
theorem dX0_alike_34 : decode cX0_alike 34 = .ok (.goto (-26), 3) := by decide +kernel
theorem dX0_alike_37 : decode cX0_alike 37 = .ok (.iload_n 1, 1) := by decide +kernel
theorem dX0_alike_38 : decode cX0_alike 38 = .ok (.ireturn, 1) := by decide +kernel
theorem dX0_fewestTuned_0 : decode cX0_fewestTuned 0 = .ok (.aload_n 0, 1) := by decide +kernel
theorem dX0_fewestTuned_1 : decode cX0_fewestTuned 1 = .ok (.invokevirtual 38, 3) := by decide +kernel
theorem dX0_fewestTuned_4 : decode cX0_fewestTuned 4 = .ok (.aload_n 0, 1) := by decide +kernel
theorem dX0_fewestTuned_5 : decode cX0_fewestTuned 5 = .ok (.aload_n 0, 1) := by decide +kernel
theorem dX0_fewestTuned_6 : decode cX0_fewestTuned 6 = .ok (.getfield 37, 3) := by decide +kernel
theorem dX0_fewestTuned_9 : decode cX0_fewestTuned 9 = .ok (.getfield 41, 3) := by decide +kernel
theorem dX0_fewestTuned_12 : decode cX0_fewestTuned 12 = .ok (.invokevirtual 53, 3) := by decide +kernel
theorem dX0_fewestTuned_15 : decode cX0_fewestTuned 15 = .ok (.ireturn, 1) := by decide +kernel
theorem dX0_fewestEars_0 : decode cX0_fewestEars 0 = .ok (.iconst 0, 1) := by decide +kernel
theorem dX0_fewestEars_1 : decode cX0_fewestEars 1 = .ok (.istore_n 1, 1) := by decide +kernel
theorem dX0_fewestEars_2 : decode cX0_fewestEars 2 = .ok (.iload_n 1, 1) := by decide +kernel
theorem dX0_fewestEars_3 : decode cX0_fewestEars 3 = .ok (.aload_n 0, 1) := by decide +kernel
theorem dX0_fewestEars_4 : decode cX0_fewestEars 4 = .ok (.getfield 37, 3) := by decide +kernel
theorem dX0_fewestEars_7 : decode cX0_fewestEars 7 = .ok (.getfield 56, 3) := by decide +kernel
theorem dX0_fewestEars_10 : decode cX0_fewestEars 10 = .ok (.if_icmp .ge 16, 3) := by decide +kernel
theorem dX0_fewestEars_13 : decode cX0_fewestEars 13 = .ok (.aload_n 0, 1) := by decide +kernel
theorem dX0_fewestEars_14 : decode cX0_fewestEars 14 = .ok (.getfield 15, 3) := by decide +kernel
theorem dX0_fewestEars_17 : decode cX0_fewestEars 17 = .ok (.iload_n 1, 1) := by decide +kernel
theorem dX0_fewestEars_18 : decode cX0_fewestEars 18 = .ok (.iconst 0, 1) := by decide +kernel
theorem dX0_fewestEars_19 : decode cX0_fewestEars 19 = .ok (.iastore, 1) := by decide +kernel
theorem dX0_fewestEars_20 : decode cX0_fewestEars 20 = .ok (.iinc 1 1, 3) := by decide +kernel
theorem dX0_fewestEars_23 : decode cX0_fewestEars 23 = .ok (.goto (-21), 3) := by decide +kernel
theorem dX0_fewestEars_26 : decode cX0_fewestEars 26 = .ok (.iconst 0, 1) := by decide +kernel
theorem dX0_fewestEars_27 : decode cX0_fewestEars 27 = .ok (.istore_n 1, 1) := by decide +kernel
theorem dX0_fewestEars_28 : decode cX0_fewestEars 28 = .ok (.iload_n 1, 1) := by decide +kernel
theorem dX0_fewestEars_29 : decode cX0_fewestEars 29 = .ok (.aload_n 0, 1) := by decide +kernel
theorem dX0_fewestEars_30 : decode cX0_fewestEars 30 = .ok (.getfield 37, 3) := by decide +kernel
theorem dX0_fewestEars_33 : decode cX0_fewestEars 33 = .ok (.getfield 41, 3) := by decide +kernel
theorem dX0_fewestEars_36 : decode cX0_fewestEars 36 = .ok (.if_icmp .ge 48, 3) := by decide +kernel
theorem dX0_fewestEars_39 : decode cX0_fewestEars 39 = .ok (.aload_n 0, 1) := by decide +kernel
theorem dX0_fewestEars_40 : decode cX0_fewestEars 40 = .ok (.getfield 27, 3) := by decide +kernel
theorem dX0_fewestEars_43 : decode cX0_fewestEars 43 = .ok (.iload_n 1, 1) := by decide +kernel
theorem dX0_fewestEars_44 : decode cX0_fewestEars 44 = .ok (.invokevirtual 59, 3) := by decide +kernel
theorem dX0_fewestEars_47 : decode cX0_fewestEars 47 = .ok (.ifCond .eq 31, 3) := by decide +kernel
theorem dX0_fewestEars_50 : decode cX0_fewestEars 50 = .ok (.aload_n 0, 1) := by decide +kernel
theorem dX0_fewestEars_51 : decode cX0_fewestEars 51 = .ok (.getfield 15, 3) := by decide +kernel
theorem dX0_fewestEars_54 : decode cX0_fewestEars 54 = .ok (.aload_n 0, 1) := by decide +kernel
theorem dX0_fewestEars_55 : decode cX0_fewestEars 55 = .ok (.getfield 37, 3) := by decide +kernel
theorem dX0_fewestEars_58 : decode cX0_fewestEars 58 = .ok (.getfield 63, 3) := by decide +kernel
theorem dX0_fewestEars_61 : decode cX0_fewestEars 61 = .ok (.iload_n 1, 1) := by decide +kernel
theorem dX0_fewestEars_62 : decode cX0_fewestEars 62 = .ok (.iaload, 1) := by decide +kernel
theorem dX0_fewestEars_63 : decode cX0_fewestEars 63 = .ok (.dup2, 1) := by decide +kernel
theorem dX0_fewestEars_64 : decode cX0_fewestEars 64 = .ok (.iaload, 1) := by decide +kernel
theorem dX0_fewestEars_65 : decode cX0_fewestEars 65 = .ok (.iconst 1, 1) := by decide +kernel
theorem dX0_fewestEars_66 : decode cX0_fewestEars 66 = .ok (.aload_n 0, 1) := by decide +kernel
theorem dX0_fewestEars_67 : decode cX0_fewestEars 67 = .ok (.getfield 37, 3) := by decide +kernel
theorem dX0_fewestEars_70 : decode cX0_fewestEars 70 = .ok (.getfield 66, 3) := by decide +kernel
theorem dX0_fewestEars_73 : decode cX0_fewestEars 73 = .ok (.iload_n 1, 1) := by decide +kernel
theorem dX0_fewestEars_74 : decode cX0_fewestEars 74 = .ok (.iaload, 1) := by decide +kernel
theorem dX0_fewestEars_75 : decode cX0_fewestEars 75 = .ok (.ishl, 1) := by decide +kernel
theorem dX0_fewestEars_76 : decode cX0_fewestEars 76 = .ok (.ior, 1) := by decide +kernel
theorem dX0_fewestEars_77 : decode cX0_fewestEars 77 = .ok (.iastore, 1) := by decide +kernel
theorem dX0_fewestEars_78 : decode cX0_fewestEars 78 = .ok (.iinc 1 1, 3) := by decide +kernel
theorem dX0_fewestEars_81 : decode cX0_fewestEars 81 = .ok (.goto (-53), 3) := by decide +kernel
theorem dX0_fewestEars_84 : decode cX0_fewestEars 84 = .ok (.aload_n 0, 1) := by decide +kernel
theorem dX0_fewestEars_85 : decode cX0_fewestEars 85 = .ok (.aload_n 0, 1) := by decide +kernel
theorem dX0_fewestEars_86 : decode cX0_fewestEars 86 = .ok (.getfield 37, 3) := by decide +kernel
theorem dX0_fewestEars_89 : decode cX0_fewestEars 89 = .ok (.getfield 56, 3) := by decide +kernel
theorem dX0_fewestEars_92 : decode cX0_fewestEars 92 = .ok (.invokevirtual 53, 3) := by decide +kernel
theorem dX0_fewestEars_95 : decode cX0_fewestEars 95 = .ok (.ireturn, 1) := by decide +kernel
theorem dX0_partnerAlikes_0 : decode cX0_partnerAlikes 0 = .ok (.iconst 0, 1) := by decide +kernel
theorem dX0_partnerAlikes_1 : decode cX0_partnerAlikes 1 = .ok (.istore_n 1, 1) := by decide +kernel
theorem dX0_partnerAlikes_2 : decode cX0_partnerAlikes 2 = .ok (.iload_n 1, 1) := by decide +kernel
theorem dX0_partnerAlikes_3 : decode cX0_partnerAlikes 3 = .ok (.aload_n 0, 1) := by decide +kernel
theorem dX0_partnerAlikes_4 : decode cX0_partnerAlikes 4 = .ok (.getfield 37, 3) := by decide +kernel
theorem dX0_partnerAlikes_7 : decode cX0_partnerAlikes 7 = .ok (.getfield 41, 3) := by decide +kernel
theorem dX0_partnerAlikes_10 : decode cX0_partnerAlikes 10 = .ok (.if_icmp .ge 58, 3) := by decide +kernel
theorem dX0_partnerAlikes_13 : decode cX0_partnerAlikes 13 = .ok (.aload_n 0, 1) := by decide +kernel
theorem dX0_partnerAlikes_14 : decode cX0_partnerAlikes 14 = .ok (.getfield 15, 3) := by decide +kernel
theorem dX0_partnerAlikes_17 : decode cX0_partnerAlikes 17 = .ok (.iload_n 1, 1) := by decide +kernel
theorem dX0_partnerAlikes_18 : decode cX0_partnerAlikes 18 = .ok (.iconst 0, 1) := by decide +kernel
theorem dX0_partnerAlikes_19 : decode cX0_partnerAlikes 19 = .ok (.iastore, 1) := by decide +kernel
theorem dX0_partnerAlikes_20 : decode cX0_partnerAlikes 20 = .ok (.iload_n 1, 1) := by decide +kernel
theorem dX0_partnerAlikes_21 : decode cX0_partnerAlikes 21 = .ok (.iconst 1, 1) := by decide +kernel
theorem dX0_partnerAlikes_22 : decode cX0_partnerAlikes 22 = .ok (.iadd, 1) := by decide +kernel
theorem dX0_partnerAlikes_23 : decode cX0_partnerAlikes 23 = .ok (.istore_n 2, 1) := by decide +kernel
theorem dX0_partnerAlikes_24 : decode cX0_partnerAlikes 24 = .ok (.iload_n 2, 1) := by decide +kernel
theorem dX0_partnerAlikes_25 : decode cX0_partnerAlikes 25 = .ok (.aload_n 0, 1) := by decide +kernel
theorem dX0_partnerAlikes_26 : decode cX0_partnerAlikes 26 = .ok (.getfield 37, 3) := by decide +kernel
theorem dX0_partnerAlikes_29 : decode cX0_partnerAlikes 29 = .ok (.getfield 41, 3) := by decide +kernel
theorem dX0_partnerAlikes_32 : decode cX0_partnerAlikes 32 = .ok (.if_icmp .ge 30, 3) := by decide +kernel
theorem dX0_partnerAlikes_35 : decode cX0_partnerAlikes 35 = .ok (.aload_n 0, 1) := by decide +kernel
theorem dX0_partnerAlikes_36 : decode cX0_partnerAlikes 36 = .ok (.iload_n 1, 1) := by decide +kernel
theorem dX0_partnerAlikes_37 : decode cX0_partnerAlikes 37 = .ok (.iload_n 2, 1) := by decide +kernel
theorem dX0_partnerAlikes_38 : decode cX0_partnerAlikes 38 = .ok (.invokevirtual 69, 3) := by decide +kernel
theorem dX0_partnerAlikes_41 : decode cX0_partnerAlikes 41 = .ok (.ifCond .eq 15, 3) := by decide +kernel
theorem dX0_partnerAlikes_44 : decode cX0_partnerAlikes 44 = .ok (.aload_n 0, 1) := by decide +kernel
theorem dX0_partnerAlikes_45 : decode cX0_partnerAlikes 45 = .ok (.getfield 15, 3) := by decide +kernel
theorem dX0_partnerAlikes_48 : decode cX0_partnerAlikes 48 = .ok (.iload_n 1, 1) := by decide +kernel
theorem dX0_partnerAlikes_49 : decode cX0_partnerAlikes 49 = .ok (.dup2, 1) := by decide +kernel
theorem dX0_partnerAlikes_50 : decode cX0_partnerAlikes 50 = .ok (.iaload, 1) := by decide +kernel
theorem dX0_partnerAlikes_51 : decode cX0_partnerAlikes 51 = .ok (.iconst 1, 1) := by decide +kernel
theorem dX0_partnerAlikes_52 : decode cX0_partnerAlikes 52 = .ok (.iload_n 2, 1) := by decide +kernel
theorem dX0_partnerAlikes_53 : decode cX0_partnerAlikes 53 = .ok (.ishl, 1) := by decide +kernel
theorem dX0_partnerAlikes_54 : decode cX0_partnerAlikes 54 = .ok (.ior, 1) := by decide +kernel
theorem dX0_partnerAlikes_55 : decode cX0_partnerAlikes 55 = .ok (.iastore, 1) := by decide +kernel
theorem dX0_partnerAlikes_56 : decode cX0_partnerAlikes 56 = .ok (.iinc 2 1, 3) := by decide +kernel
theorem dX0_partnerAlikes_59 : decode cX0_partnerAlikes 59 = .ok (.goto (-35), 3) := by decide +kernel
theorem dX0_partnerAlikes_62 : decode cX0_partnerAlikes 62 = .ok (.iinc 1 1, 3) := by decide +kernel
theorem dX0_partnerAlikes_65 : decode cX0_partnerAlikes 65 = .ok (.goto (-63), 3) := by decide +kernel
theorem dX0_partnerAlikes_68 : decode cX0_partnerAlikes 68 = .ok (.return_, 1) := by decide +kernel
theorem dX0_areAlike_0 : decode cX0_areAlike 0 = .ok (.aload_n 0, 1) := by decide +kernel
theorem dX0_areAlike_1 : decode cX0_areAlike 1 = .ok (.getfield 27, 3) := by decide +kernel
theorem dX0_areAlike_4 : decode cX0_areAlike 4 = .ok (.iload_n 1, 1) := by decide +kernel
theorem dX0_areAlike_5 : decode cX0_areAlike 5 = .ok (.invokevirtual 59, 3) := by decide +kernel
theorem dX0_areAlike_8 : decode cX0_areAlike 8 = .ok (.ifCond .eq 65, 3) := by decide +kernel
theorem dX0_areAlike_11 : decode cX0_areAlike 11 = .ok (.aload_n 0, 1) := by decide +kernel
theorem dX0_areAlike_12 : decode cX0_areAlike 12 = .ok (.getfield 27, 3) := by decide +kernel
theorem dX0_areAlike_15 : decode cX0_areAlike 15 = .ok (.iload_n 2, 1) := by decide +kernel
theorem dX0_areAlike_16 : decode cX0_areAlike 16 = .ok (.invokevirtual 59, 3) := by decide +kernel
theorem dX0_areAlike_19 : decode cX0_areAlike 19 = .ok (.ifCond .eq 54, 3) := by decide +kernel
theorem dX0_areAlike_22 : decode cX0_areAlike 22 = .ok (.aload_n 0, 1) := by decide +kernel
theorem dX0_areAlike_23 : decode cX0_areAlike 23 = .ok (.getfield 27, 3) := by decide +kernel
theorem dX0_areAlike_26 : decode cX0_areAlike 26 = .ok (.getfield 73, 3) := by decide +kernel
theorem dX0_areAlike_29 : decode cX0_areAlike 29 = .ok (.getfield 77, 3) := by decide +kernel
theorem dX0_areAlike_32 : decode cX0_areAlike 32 = .ok (.iload_n 1, 1) := by decide +kernel
theorem dX0_areAlike_33 : decode cX0_areAlike 33 = .ok (.iaload, 1) := by decide +kernel
theorem dX0_areAlike_34 : decode cX0_areAlike 34 = .ok (.aload_n 0, 1) := by decide +kernel
theorem dX0_areAlike_35 : decode cX0_areAlike 35 = .ok (.getfield 27, 3) := by decide +kernel
theorem dX0_areAlike_38 : decode cX0_areAlike 38 = .ok (.getfield 73, 3) := by decide +kernel
theorem dX0_areAlike_41 : decode cX0_areAlike 41 = .ok (.getfield 77, 3) := by decide +kernel
theorem dX0_areAlike_44 : decode cX0_areAlike 44 = .ok (.iload_n 2, 1) := by decide +kernel
theorem dX0_areAlike_45 : decode cX0_areAlike 45 = .ok (.iaload, 1) := by decide +kernel
theorem dX0_areAlike_46 : decode cX0_areAlike 46 = .ok (.if_icmp .ne 27, 3) := by decide +kernel
theorem dX0_areAlike_49 : decode cX0_areAlike 49 = .ok (.aload_n 0, 1) := by decide +kernel
theorem dX0_areAlike_50 : decode cX0_areAlike 50 = .ok (.getfield 37, 3) := by decide +kernel
theorem dX0_areAlike_53 : decode cX0_areAlike 53 = .ok (.iload_n 1, 1) := by decide +kernel
theorem dX0_areAlike_54 : decode cX0_areAlike 54 = .ok (.invokevirtual 82, 3) := by decide +kernel
theorem dX0_areAlike_57 : decode cX0_areAlike 57 = .ok (.aload_n 0, 1) := by decide +kernel
theorem dX0_areAlike_58 : decode cX0_areAlike 58 = .ok (.getfield 37, 3) := by decide +kernel
theorem dX0_areAlike_61 : decode cX0_areAlike 61 = .ok (.iload_n 2, 1) := by decide +kernel
theorem dX0_areAlike_62 : decode cX0_areAlike 62 = .ok (.invokevirtual 82, 3) := by decide +kernel
theorem dX0_areAlike_65 : decode cX0_areAlike 65 = .ok (.iand, 1) := by decide +kernel
theorem dX0_areAlike_66 : decode cX0_areAlike 66 = .ok (.ifCond .eq 7, 3) := by decide +kernel
theorem dX0_areAlike_69 : decode cX0_areAlike 69 = .ok (.iconst 1, 1) := by decide +kernel
theorem dX0_areAlike_70 : decode cX0_areAlike 70 = .ok (.goto 4, 3) := by decide +kernel
theorem dX0_areAlike_73 : decode cX0_areAlike 73 = .ok (.iconst 0, 1) := by decide +kernel
theorem dX0_areAlike_74 : decode cX0_areAlike 74 = .ok (.ireturn, 1) := by decide +kernel
theorem dX0_fewestOfEachTwo_0 : decode cX0_fewestOfEachTwo 0 = .ok (.iconst 1, 1) := by decide +kernel
theorem dX0_fewestOfEachTwo_1 : decode cX0_fewestOfEachTwo 1 = .ok (.iload_n 1, 1) := by decide +kernel
theorem dX0_fewestOfEachTwo_2 : decode cX0_fewestOfEachTwo 2 = .ok (.ishl, 1) := by decide +kernel
theorem dX0_fewestOfEachTwo_3 : decode cX0_fewestOfEachTwo 3 = .ok (.iconst 1, 1) := by decide +kernel
theorem dX0_fewestOfEachTwo_4 : decode cX0_fewestOfEachTwo 4 = .ok (.isub, 1) := by decide +kernel
theorem dX0_fewestOfEachTwo_5 : decode cX0_fewestOfEachTwo 5 = .ok (.istore_n 2, 1) := by decide +kernel
theorem dX0_fewestOfEachTwo_6 : decode cX0_fewestOfEachTwo 6 = .ok (.iconst 0, 1) := by decide +kernel
theorem dX0_fewestOfEachTwo_7 : decode cX0_fewestOfEachTwo 7 = .ok (.istore_n 3, 1) := by decide +kernel
theorem dX0_fewestOfEachTwo_8 : decode cX0_fewestOfEachTwo 8 = .ok (.iload_n 3, 1) := by decide +kernel
theorem dX0_fewestOfEachTwo_9 : decode cX0_fewestOfEachTwo 9 = .ok (.iconst 1, 1) := by decide +kernel
theorem dX0_fewestOfEachTwo_10 : decode cX0_fewestOfEachTwo 10 = .ok (.iload_n 1, 1) := by decide +kernel
theorem dX0_fewestOfEachTwo_11 : decode cX0_fewestOfEachTwo 11 = .ok (.ishl, 1) := by decide +kernel
theorem dX0_fewestOfEachTwo_12 : decode cX0_fewestOfEachTwo 12 = .ok (.if_icmp .ge 31, 3) := by decide +kernel
theorem dX0_fewestOfEachTwo_15 : decode cX0_fewestOfEachTwo 15 = .ok (.iload_n 3, 1) := by decide +kernel
theorem dX0_fewestOfEachTwo_16 : decode cX0_fewestOfEachTwo 16 = .ok (.invokestatic 47, 3) := by decide +kernel
theorem dX0_fewestOfEachTwo_19 : decode cX0_fewestOfEachTwo 19 = .ok (.iload_n 2, 1) := by decide +kernel
theorem dX0_fewestOfEachTwo_20 : decode cX0_fewestOfEachTwo 20 = .ok (.invokestatic 47, 3) := by decide +kernel
theorem dX0_fewestOfEachTwo_23 : decode cX0_fewestOfEachTwo 23 = .ok (.if_icmp .ge 14, 3) := by decide +kernel
theorem dX0_fewestOfEachTwo_26 : decode cX0_fewestOfEachTwo 26 = .ok (.aload_n 0, 1) := by decide +kernel
theorem dX0_fewestOfEachTwo_27 : decode cX0_fewestOfEachTwo 27 = .ok (.iload_n 3, 1) := by decide +kernel
theorem dX0_fewestOfEachTwo_28 : decode cX0_fewestOfEachTwo 28 = .ok (.iload_n 1, 1) := by decide +kernel
theorem dX0_fewestOfEachTwo_29 : decode cX0_fewestOfEachTwo 29 = .ok (.invokevirtual 85, 3) := by decide +kernel
theorem dX0_fewestOfEachTwo_32 : decode cX0_fewestOfEachTwo 32 = .ok (.ifCond .eq 5, 3) := by decide +kernel
theorem dX0_fewestOfEachTwo_35 : decode cX0_fewestOfEachTwo 35 = .ok (.iload_n 3, 1) := by decide +kernel
theorem dX0_fewestOfEachTwo_36 : decode cX0_fewestOfEachTwo 36 = .ok (.istore_n 2, 1) := by decide +kernel
theorem dX0_fewestOfEachTwo_37 : decode cX0_fewestOfEachTwo 37 = .ok (.iinc 3 1, 3) := by decide +kernel
theorem dX0_fewestOfEachTwo_40 : decode cX0_fewestOfEachTwo 40 = .ok (.goto (-32), 3) := by decide +kernel
theorem dX0_fewestOfEachTwo_43 : decode cX0_fewestOfEachTwo 43 = .ok (.iload_n 2, 1) := by decide +kernel
theorem dX0_fewestOfEachTwo_44 : decode cX0_fewestOfEachTwo 44 = .ok (.ireturn, 1) := by decide +kernel
theorem dX0_hasOneOfEachTwo_0 : decode cX0_hasOneOfEachTwo 0 = .ok (.iconst 0, 1) := by decide +kernel
theorem dX0_hasOneOfEachTwo_1 : decode cX0_hasOneOfEachTwo 1 = .ok (.istore_n 3, 1) := by decide +kernel
theorem dX0_hasOneOfEachTwo_2 : decode cX0_hasOneOfEachTwo 2 = .ok (.iload_n 3, 1) := by decide +kernel
theorem dX0_hasOneOfEachTwo_3 : decode cX0_hasOneOfEachTwo 3 = .ok (.iload_n 2, 1) := by decide +kernel
theorem dX0_hasOneOfEachTwo_4 : decode cX0_hasOneOfEachTwo 4 = .ok (.if_icmp .ge 32, 3) := by decide +kernel
theorem dX0_hasOneOfEachTwo_7 : decode cX0_hasOneOfEachTwo 7 = .ok (.iload_n 1, 1) := by decide +kernel
theorem dX0_hasOneOfEachTwo_8 : decode cX0_hasOneOfEachTwo 8 = .ok (.iload_n 3, 1) := by decide +kernel
theorem dX0_hasOneOfEachTwo_9 : decode cX0_hasOneOfEachTwo 9 = .ok (.ishr, 1) := by decide +kernel
theorem dX0_hasOneOfEachTwo_10 : decode cX0_hasOneOfEachTwo 10 = .ok (.iconst 1, 1) := by decide +kernel
theorem dX0_hasOneOfEachTwo_11 : decode cX0_hasOneOfEachTwo 11 = .ok (.iand, 1) := by decide +kernel
theorem dX0_hasOneOfEachTwo_12 : decode cX0_hasOneOfEachTwo 12 = .ok (.ifCond .ne 18, 3) := by decide +kernel
theorem dX0_hasOneOfEachTwo_15 : decode cX0_hasOneOfEachTwo 15 = .ok (.aload_n 0, 1) := by decide +kernel
theorem dX0_hasOneOfEachTwo_16 : decode cX0_hasOneOfEachTwo 16 = .ok (.getfield 15, 3) := by decide +kernel
theorem dX0_hasOneOfEachTwo_19 : decode cX0_hasOneOfEachTwo 19 = .ok (.iload_n 3, 1) := by decide +kernel
theorem dX0_hasOneOfEachTwo_20 : decode cX0_hasOneOfEachTwo 20 = .ok (.iaload, 1) := by decide +kernel
theorem dX0_hasOneOfEachTwo_21 : decode cX0_hasOneOfEachTwo 21 = .ok (.iload_n 1, 1) := by decide +kernel
theorem dX0_hasOneOfEachTwo_22 : decode cX0_hasOneOfEachTwo 22 = .ok (.iconst (-1), 1) := by decide +kernel
theorem dX0_hasOneOfEachTwo_23 : decode cX0_hasOneOfEachTwo 23 = .ok (.ixor, 1) := by decide +kernel
theorem dX0_hasOneOfEachTwo_24 : decode cX0_hasOneOfEachTwo 24 = .ok (.iand, 1) := by decide +kernel
theorem dX0_hasOneOfEachTwo_25 : decode cX0_hasOneOfEachTwo 25 = .ok (.ifCond .eq 5, 3) := by decide +kernel
theorem dX0_hasOneOfEachTwo_28 : decode cX0_hasOneOfEachTwo 28 = .ok (.iconst 0, 1) := by decide +kernel
theorem dX0_hasOneOfEachTwo_29 : decode cX0_hasOneOfEachTwo 29 = .ok (.ireturn, 1) := by decide +kernel
theorem dX0_hasOneOfEachTwo_30 : decode cX0_hasOneOfEachTwo 30 = .ok (.iinc 3 1, 3) := by decide +kernel
theorem dX0_hasOneOfEachTwo_33 : decode cX0_hasOneOfEachTwo 33 = .ok (.goto (-31), 3) := by decide +kernel
theorem dX0_hasOneOfEachTwo_36 : decode cX0_hasOneOfEachTwo 36 = .ok (.iconst 1, 1) := by decide +kernel
theorem dX0_hasOneOfEachTwo_37 : decode cX0_hasOneOfEachTwo 37 = .ok (.ireturn, 1) := by decide +kernel
theorem dX0_mostMilk_0 : decode cX0_mostMilk 0 = .ok (.aload_n 0, 1) := by decide +kernel
theorem dX0_mostMilk_1 : decode cX0_mostMilk 1 = .ok (.invokevirtual 88, 3) := by decide +kernel
theorem dX0_mostMilk_4 : decode cX0_mostMilk 4 = .ok (.aload_n 0, 1) := by decide +kernel
theorem dX0_mostMilk_5 : decode cX0_mostMilk 5 = .ok (.getfield 24, 3) := by decide +kernel
theorem dX0_mostMilk_8 : decode cX0_mostMilk 8 = .ok (.iconst 0, 1) := by decide +kernel
theorem dX0_mostMilk_9 : decode cX0_mostMilk 9 = .ok (.iaload, 1) := by decide +kernel
theorem dX0_mostMilk_10 : decode cX0_mostMilk 10 = .ok (.ireturn, 1) := by decide +kernel
theorem dX0_fieldInHerd_0 : decode cX0_fieldInHerd 0 = .ok (.aload_n 0, 1) := by decide +kernel
theorem dX0_fieldInHerd_1 : decode cX0_fieldInHerd 1 = .ok (.invokevirtual 88, 3) := by decide +kernel
theorem dX0_fieldInHerd_4 : decode cX0_fieldInHerd 4 = .ok (.iconst 0, 1) := by decide +kernel
theorem dX0_fieldInHerd_5 : decode cX0_fieldInHerd 5 = .ok (.istore_n 2, 1) := by decide +kernel
theorem dX0_fieldInHerd_6 : decode cX0_fieldInHerd 6 = .ok (.bipush (-9), 2) := by decide +kernel
theorem dX0_fieldInHerd_8 : decode cX0_fieldInHerd 8 = .ok (.istore_n 3, 1) := by decide +kernel
theorem dX0_fieldInHerd_9 : decode cX0_fieldInHerd 9 = .ok (.iconst 0, 1) := by decide +kernel
theorem dX0_fieldInHerd_10 : decode cX0_fieldInHerd 10 = .ok (.istore 4, 2) := by decide +kernel
theorem dX0_fieldInHerd_12 : decode cX0_fieldInHerd 12 = .ok (.iload 4, 2) := by decide +kernel
theorem dX0_fieldInHerd_14 : decode cX0_fieldInHerd 14 = .ok (.iload_n 1, 1) := by decide +kernel
theorem dX0_fieldInHerd_15 : decode cX0_fieldInHerd 15 = .ok (.if_icmp .gt 32, 3) := by decide +kernel
theorem dX0_fieldInHerd_18 : decode cX0_fieldInHerd 18 = .ok (.aload_n 0, 1) := by decide +kernel
theorem dX0_fieldInHerd_19 : decode cX0_fieldInHerd 19 = .ok (.iload 4, 2) := by decide +kernel
theorem dX0_fieldInHerd_21 : decode cX0_fieldInHerd 21 = .ok (.iload_n 2, 1) := by decide +kernel
theorem dX0_fieldInHerd_22 : decode cX0_fieldInHerd 22 = .ok (.invokevirtual 91, 3) := by decide +kernel
theorem dX0_fieldInHerd_25 : decode cX0_fieldInHerd 25 = .ok (.istore_n 3, 1) := by decide +kernel
theorem dX0_fieldInHerd_26 : decode cX0_fieldInHerd 26 = .ok (.iload_n 3, 1) := by decide +kernel
theorem dX0_fieldInHerd_27 : decode cX0_fieldInHerd 27 = .ok (.bipush (-9), 2) := by decide +kernel
theorem dX0_fieldInHerd_29 : decode cX0_fieldInHerd 29 = .ok (.if_icmp .ne 6, 3) := by decide +kernel
theorem dX0_fieldInHerd_32 : decode cX0_fieldInHerd 32 = .ok (.bipush (-9), 2) := by decide +kernel
theorem dX0_fieldInHerd_34 : decode cX0_fieldInHerd 34 = .ok (.ireturn, 1) := by decide +kernel
theorem dX0_fieldInHerd_35 : decode cX0_fieldInHerd 35 = .ok (.iload_n 2, 1) := by decide +kernel
theorem dX0_fieldInHerd_36 : decode cX0_fieldInHerd 36 = .ok (.iconst 1, 1) := by decide +kernel
theorem dX0_fieldInHerd_37 : decode cX0_fieldInHerd 37 = .ok (.iload_n 3, 1) := by decide +kernel
theorem dX0_fieldInHerd_38 : decode cX0_fieldInHerd 38 = .ok (.ishl, 1) := by decide +kernel
theorem dX0_fieldInHerd_39 : decode cX0_fieldInHerd 39 = .ok (.ior, 1) := by decide +kernel
theorem dX0_fieldInHerd_40 : decode cX0_fieldInHerd 40 = .ok (.istore_n 2, 1) := by decide +kernel
theorem dX0_fieldInHerd_41 : decode cX0_fieldInHerd 41 = .ok (.iinc 4 1, 3) := by decide +kernel
theorem dX0_fieldInHerd_44 : decode cX0_fieldInHerd 44 = .ok (.goto (-32), 3) := by decide +kernel
theorem dX0_fieldInHerd_47 : decode cX0_fieldInHerd 47 = .ok (.iload_n 3, 1) := by decide +kernel
theorem dX0_fieldInHerd_48 : decode cX0_fieldInHerd 48 = .ok (.ireturn, 1) := by decide +kernel
theorem dX0_bestField_0 : decode cX0_bestField 0 = .ok (.iconst 0, 1) := by decide +kernel
theorem dX0_bestField_1 : decode cX0_bestField 1 = .ok (.istore_n 3, 1) := by decide +kernel
theorem dX0_bestField_2 : decode cX0_bestField 2 = .ok (.iload_n 3, 1) := by decide +kernel
theorem dX0_bestField_3 : decode cX0_bestField 3 = .ok (.aload_n 0, 1) := by decide +kernel
theorem dX0_bestField_4 : decode cX0_bestField 4 = .ok (.getfield 37, 3) := by decide +kernel
theorem dX0_bestField_7 : decode cX0_bestField 7 = .ok (.getfield 56, 3) := by decide +kernel
theorem dX0_bestField_10 : decode cX0_bestField 10 = .ok (.if_icmp .ge 35, 3) := by decide +kernel
theorem dX0_bestField_13 : decode cX0_bestField 13 = .ok (.iload_n 2, 1) := by decide +kernel
theorem dX0_bestField_14 : decode cX0_bestField 14 = .ok (.iload_n 3, 1) := by decide +kernel
theorem dX0_bestField_15 : decode cX0_bestField 15 = .ok (.ishr, 1) := by decide +kernel
theorem dX0_bestField_16 : decode cX0_bestField 16 = .ok (.iconst 1, 1) := by decide +kernel
theorem dX0_bestField_17 : decode cX0_bestField 17 = .ok (.iand, 1) := by decide +kernel
theorem dX0_bestField_18 : decode cX0_bestField 18 = .ok (.ifCond .ne 21, 3) := by decide +kernel
theorem dX0_bestField_21 : decode cX0_bestField 21 = .ok (.aload_n 0, 1) := by decide +kernel
theorem dX0_bestField_22 : decode cX0_bestField 22 = .ok (.iload_n 1, 1) := by decide +kernel
theorem dX0_bestField_23 : decode cX0_bestField 23 = .ok (.iload_n 3, 1) := by decide +kernel
theorem dX0_bestField_24 : decode cX0_bestField 24 = .ok (.iload_n 2, 1) := by decide +kernel
theorem dX0_bestField_25 : decode cX0_bestField 25 = .ok (.invokevirtual 94, 3) := by decide +kernel
theorem dX0_bestField_28 : decode cX0_bestField 28 = .ok (.aload_n 0, 1) := by decide +kernel
theorem dX0_bestField_29 : decode cX0_bestField 29 = .ok (.getfield 24, 3) := by decide +kernel
theorem dX0_bestField_32 : decode cX0_bestField 32 = .ok (.iload_n 2, 1) := by decide +kernel
theorem dX0_bestField_33 : decode cX0_bestField 33 = .ok (.iaload, 1) := by decide +kernel
theorem dX0_bestField_34 : decode cX0_bestField 34 = .ok (.if_icmp .ne 5, 3) := by decide +kernel
theorem dX0_bestField_37 : decode cX0_bestField 37 = .ok (.iload_n 3, 1) := by decide +kernel
theorem dX0_bestField_38 : decode cX0_bestField 38 = .ok (.ireturn, 1) := by decide +kernel
theorem dX0_bestField_39 : decode cX0_bestField 39 = .ok (.iinc 3 1, 3) := by decide +kernel
theorem dX0_bestField_42 : decode cX0_bestField 42 = .ok (.goto (-40), 3) := by decide +kernel
theorem dX0_bestField_45 : decode cX0_bestField 45 = .ok (.bipush (-9), 2) := by decide +kernel
theorem dX0_bestField_47 : decode cX0_bestField 47 = .ok (.ireturn, 1) := by decide +kernel
theorem dX0_measureHerds_0 : decode cX0_measureHerds 0 = .ok (.iconst 0, 1) := by decide +kernel
theorem dX0_measureHerds_1 : decode cX0_measureHerds 1 = .ok (.istore_n 1, 1) := by decide +kernel
theorem dX0_measureHerds_2 : decode cX0_measureHerds 2 = .ok (.iload_n 1, 1) := by decide +kernel
theorem dX0_measureHerds_3 : decode cX0_measureHerds 3 = .ok (.aload_n 0, 1) := by decide +kernel
theorem dX0_measureHerds_4 : decode cX0_measureHerds 4 = .ok (.getfield 37, 3) := by decide +kernel
theorem dX0_measureHerds_7 : decode cX0_measureHerds 7 = .ok (.getfield 56, 3) := by decide +kernel
theorem dX0_measureHerds_10 : decode cX0_measureHerds 10 = .ok (.if_icmp .ge 23, 3) := by decide +kernel
theorem dX0_measureHerds_13 : decode cX0_measureHerds 13 = .ok (.aload_n 0, 1) := by decide +kernel
theorem dX0_measureHerds_14 : decode cX0_measureHerds 14 = .ok (.getfield 21, 3) := by decide +kernel
theorem dX0_measureHerds_17 : decode cX0_measureHerds 17 = .ok (.iload_n 1, 1) := by decide +kernel
theorem dX0_measureHerds_18 : decode cX0_measureHerds 18 = .ok (.aload_n 0, 1) := by decide +kernel
theorem dX0_measureHerds_19 : decode cX0_measureHerds 19 = .ok (.getfield 27, 3) := by decide +kernel
theorem dX0_measureHerds_22 : decode cX0_measureHerds 22 = .ok (.iload_n 1, 1) := by decide +kernel
theorem dX0_measureHerds_23 : decode cX0_measureHerds 23 = .ok (.invokevirtual 98, 3) := by decide +kernel
theorem dX0_measureHerds_26 : decode cX0_measureHerds 26 = .ok (.iastore, 1) := by decide +kernel
theorem dX0_measureHerds_27 : decode cX0_measureHerds 27 = .ok (.iinc 1 1, 3) := by decide +kernel
theorem dX0_measureHerds_30 : decode cX0_measureHerds 30 = .ok (.goto (-28), 3) := by decide +kernel
theorem dX0_measureHerds_33 : decode cX0_measureHerds 33 = .ok (.iconst 1, 1) := by decide +kernel
theorem dX0_measureHerds_34 : decode cX0_measureHerds 34 = .ok (.aload_n 0, 1) := by decide +kernel
theorem dX0_measureHerds_35 : decode cX0_measureHerds 35 = .ok (.getfield 37, 3) := by decide +kernel
theorem dX0_measureHerds_38 : decode cX0_measureHerds 38 = .ok (.getfield 56, 3) := by decide +kernel
theorem dX0_measureHerds_41 : decode cX0_measureHerds 41 = .ok (.ishl, 1) := by decide +kernel
theorem dX0_measureHerds_42 : decode cX0_measureHerds 42 = .ok (.iconst 1, 1) := by decide +kernel
theorem dX0_measureHerds_43 : decode cX0_measureHerds 43 = .ok (.isub, 1) := by decide +kernel
theorem dX0_measureHerds_44 : decode cX0_measureHerds 44 = .ok (.istore_n 1, 1) := by decide +kernel
theorem dX0_measureHerds_45 : decode cX0_measureHerds 45 = .ok (.iload_n 1, 1) := by decide +kernel
theorem dX0_measureHerds_46 : decode cX0_measureHerds 46 = .ok (.ifCond .lt 81, 3) := by decide +kernel
theorem dX0_measureHerds_49 : decode cX0_measureHerds 49 = .ok (.iload_n 1, 1) := by decide +kernel
theorem dX0_measureHerds_50 : decode cX0_measureHerds 50 = .ok (.invokestatic 47, 3) := by decide +kernel
theorem dX0_measureHerds_53 : decode cX0_measureHerds 53 = .ok (.istore_n 2, 1) := by decide +kernel
theorem dX0_measureHerds_54 : decode cX0_measureHerds 54 = .ok (.aload_n 0, 1) := by decide +kernel
theorem dX0_measureHerds_55 : decode cX0_measureHerds 55 = .ok (.getfield 24, 3) := by decide +kernel
theorem dX0_measureHerds_58 : decode cX0_measureHerds 58 = .ok (.iload_n 1, 1) := by decide +kernel
theorem dX0_measureHerds_59 : decode cX0_measureHerds 59 = .ok (.iconst 0, 1) := by decide +kernel
theorem dX0_measureHerds_60 : decode cX0_measureHerds 60 = .ok (.iastore, 1) := by decide +kernel
theorem dX0_measureHerds_61 : decode cX0_measureHerds 61 = .ok (.iconst 0, 1) := by decide +kernel
theorem dX0_measureHerds_62 : decode cX0_measureHerds 62 = .ok (.istore_n 3, 1) := by decide +kernel
theorem dX0_measureHerds_63 : decode cX0_measureHerds 63 = .ok (.iload_n 3, 1) := by decide +kernel
theorem dX0_measureHerds_64 : decode cX0_measureHerds 64 = .ok (.aload_n 0, 1) := by decide +kernel
theorem dX0_measureHerds_65 : decode cX0_measureHerds 65 = .ok (.getfield 37, 3) := by decide +kernel
theorem dX0_measureHerds_68 : decode cX0_measureHerds 68 = .ok (.getfield 56, 3) := by decide +kernel
theorem dX0_measureHerds_71 : decode cX0_measureHerds 71 = .ok (.if_icmp .ge 50, 3) := by decide +kernel
theorem dX0_measureHerds_74 : decode cX0_measureHerds 74 = .ok (.iload_n 2, 1) := by decide +kernel
theorem dX0_measureHerds_75 : decode cX0_measureHerds 75 = .ok (.aload_n 0, 1) := by decide +kernel
theorem dX0_measureHerds_76 : decode cX0_measureHerds 76 = .ok (.getfield 37, 3) := by decide +kernel
theorem dX0_measureHerds_79 : decode cX0_measureHerds 79 = .ok (.getfield 101, 3) := by decide +kernel
theorem dX0_measureHerds_82 : decode cX0_measureHerds 82 = .ok (.if_icmp .ge 39, 3) := by decide +kernel
theorem dX0_measureHerds_85 : decode cX0_measureHerds 85 = .ok (.iload_n 1, 1) := by decide +kernel
theorem dX0_measureHerds_86 : decode cX0_measureHerds 86 = .ok (.iload_n 3, 1) := by decide +kernel
theorem dX0_measureHerds_87 : decode cX0_measureHerds 87 = .ok (.ishr, 1) := by decide +kernel
theorem dX0_measureHerds_88 : decode cX0_measureHerds 88 = .ok (.iconst 1, 1) := by decide +kernel
theorem dX0_measureHerds_89 : decode cX0_measureHerds 89 = .ok (.iand, 1) := by decide +kernel
theorem dX0_measureHerds_90 : decode cX0_measureHerds 90 = .ok (.ifCond .ne 25, 3) := by decide +kernel
theorem dX0_measureHerds_93 : decode cX0_measureHerds 93 = .ok (.aload_n 0, 1) := by decide +kernel
theorem dX0_measureHerds_94 : decode cX0_measureHerds 94 = .ok (.getfield 24, 3) := by decide +kernel
theorem dX0_measureHerds_97 : decode cX0_measureHerds 97 = .ok (.iload_n 1, 1) := by decide +kernel
theorem dX0_measureHerds_98 : decode cX0_measureHerds 98 = .ok (.aload_n 0, 1) := by decide +kernel
theorem dX0_measureHerds_99 : decode cX0_measureHerds 99 = .ok (.getfield 24, 3) := by decide +kernel
theorem dX0_measureHerds_102 : decode cX0_measureHerds 102 = .ok (.iload_n 1, 1) := by decide +kernel
theorem dX0_measureHerds_103 : decode cX0_measureHerds 103 = .ok (.iaload, 1) := by decide +kernel
theorem dX0_measureHerds_104 : decode cX0_measureHerds 104 = .ok (.aload_n 0, 1) := by decide +kernel
theorem dX0_measureHerds_105 : decode cX0_measureHerds 105 = .ok (.iload_n 2, 1) := by decide +kernel
theorem dX0_measureHerds_106 : decode cX0_measureHerds 106 = .ok (.iload_n 3, 1) := by decide +kernel
theorem dX0_measureHerds_107 : decode cX0_measureHerds 107 = .ok (.iload_n 1, 1) := by decide +kernel
theorem dX0_measureHerds_108 : decode cX0_measureHerds 108 = .ok (.invokevirtual 94, 3) := by decide +kernel
theorem dX0_measureHerds_111 : decode cX0_measureHerds 111 = .ok (.invokestatic 9, 3) := by decide +kernel
theorem dX0_measureHerds_114 : decode cX0_measureHerds 114 = .ok (.iastore, 1) := by decide +kernel
theorem dX0_measureHerds_115 : decode cX0_measureHerds 115 = .ok (.iinc 3 1, 3) := by decide +kernel
theorem dX0_measureHerds_118 : decode cX0_measureHerds 118 = .ok (.goto (-55), 3) := by decide +kernel
theorem dX0_measureHerds_121 : decode cX0_measureHerds 121 = .ok (.iinc 1 (-1), 3) := by decide +kernel
theorem dX0_measureHerds_124 : decode cX0_measureHerds 124 = .ok (.goto (-79), 3) := by decide +kernel
theorem dX0_measureHerds_127 : decode cX0_measureHerds 127 = .ok (.return_, 1) := by decide +kernel
theorem dX0_milkWith_0 : decode cX0_milkWith 0 = .ok (.aload_n 0, 1) := by decide +kernel
theorem dX0_milkWith_1 : decode cX0_milkWith 1 = .ok (.getfield 37, 3) := by decide +kernel
theorem dX0_milkWith_4 : decode cX0_milkWith 4 = .ok (.getfield 104, 3) := by decide +kernel
theorem dX0_milkWith_7 : decode cX0_milkWith 7 = .ok (.aload_n 0, 1) := by decide +kernel
theorem dX0_milkWith_8 : decode cX0_milkWith 8 = .ok (.getfield 37, 3) := by decide +kernel
theorem dX0_milkWith_11 : decode cX0_milkWith 11 = .ok (.getfield 107, 3) := by decide +kernel
theorem dX0_milkWith_14 : decode cX0_milkWith 14 = .ok (.iload_n 1, 1) := by decide +kernel
theorem dX0_milkWith_15 : decode cX0_milkWith 15 = .ok (.iaload, 1) := by decide +kernel
theorem dX0_milkWith_16 : decode cX0_milkWith 16 = .ok (.iaload, 1) := by decide +kernel
theorem dX0_milkWith_17 : decode cX0_milkWith 17 = .ok (.aload_n 0, 1) := by decide +kernel
theorem dX0_milkWith_18 : decode cX0_milkWith 18 = .ok (.getfield 21, 3) := by decide +kernel
theorem dX0_milkWith_21 : decode cX0_milkWith 21 = .ok (.iload_n 2, 1) := by decide +kernel
theorem dX0_milkWith_22 : decode cX0_milkWith 22 = .ok (.iaload, 1) := by decide +kernel
theorem dX0_milkWith_23 : decode cX0_milkWith 23 = .ok (.imul, 1) := by decide +kernel
theorem dX0_milkWith_24 : decode cX0_milkWith 24 = .ok (.aload_n 0, 1) := by decide +kernel
theorem dX0_milkWith_25 : decode cX0_milkWith 25 = .ok (.getfield 24, 3) := by decide +kernel
theorem dX0_milkWith_28 : decode cX0_milkWith 28 = .ok (.iload_n 3, 1) := by decide +kernel
theorem dX0_milkWith_29 : decode cX0_milkWith 29 = .ok (.iconst 1, 1) := by decide +kernel
theorem dX0_milkWith_30 : decode cX0_milkWith 30 = .ok (.iload_n 2, 1) := by decide +kernel
theorem dX0_milkWith_31 : decode cX0_milkWith 31 = .ok (.ishl, 1) := by decide +kernel
theorem dX0_milkWith_32 : decode cX0_milkWith 32 = .ok (.ior, 1) := by decide +kernel
theorem dX0_milkWith_33 : decode cX0_milkWith 33 = .ok (.iaload, 1) := by decide +kernel
theorem dX0_milkWith_34 : decode cX0_milkWith 34 = .ok (.iadd, 1) := by decide +kernel
theorem dX0_milkWith_35 : decode cX0_milkWith 35 = .ok (.ireturn, 1) := by decide +kernel
theorem dX1_init_0 : decode cX1_init 0 = .ok (.aload_n 0, 1) := by decide +kernel
theorem dX1_init_1 : decode cX1_init 1 = .ok (.invokespecial 3, 3) := by decide +kernel
theorem dX1_init_4 : decode cX1_init 4 = .ok (.aload_n 0, 1) := by decide +kernel
theorem dX1_init_5 : decode cX1_init 5 = .ok (.aload_n 1, 1) := by decide +kernel
theorem dX1_init_6 : decode cX1_init 6 = .ok (.putfield 9, 3) := by decide +kernel
theorem dX1_init_9 : decode cX1_init 9 = .ok (.aload_n 0, 1) := by decide +kernel
theorem dX1_init_10 : decode cX1_init 10 = .ok (.aload_n 2, 1) := by decide +kernel
theorem dX1_init_11 : decode cX1_init 11 = .ok (.putfield 15, 3) := by decide +kernel
theorem dX1_init_14 : decode cX1_init 14 = .ok (.return_, 1) := by decide +kernel
theorem dX1_isString_0 : decode cX1_isString 0 = .ok (.aload_n 0, 1) := by decide +kernel
theorem dX1_isString_1 : decode cX1_isString 1 = .ok (.getfield 15, 3) := by decide +kernel
theorem dX1_isString_4 : decode cX1_isString 4 = .ok (.getfield 19, 3) := by decide +kernel
theorem dX1_isString_7 : decode cX1_isString 7 = .ok (.iload_n 1, 1) := by decide +kernel
theorem dX1_isString_8 : decode cX1_isString 8 = .ok (.iaload, 1) := by decide +kernel
theorem dX1_isString_9 : decode cX1_isString 9 = .ok (.ifCond .le 21, 3) := by decide +kernel
theorem dX1_isString_12 : decode cX1_isString 12 = .ok (.aload_n 0, 1) := by decide +kernel
theorem dX1_isString_13 : decode cX1_isString 13 = .ok (.getfield 15, 3) := by decide +kernel
theorem dX1_isString_16 : decode cX1_isString 16 = .ok (.getfield 25, 3) := by decide +kernel
theorem dX1_isString_19 : decode cX1_isString 19 = .ok (.iload_n 1, 1) := by decide +kernel
theorem dX1_isString_20 : decode cX1_isString 20 = .ok (.ishr, 1) := by decide +kernel
theorem dX1_isString_21 : decode cX1_isString 21 = .ok (.iconst 1, 1) := by decide +kernel
theorem dX1_isString_22 : decode cX1_isString 22 = .ok (.iand, 1) := by decide +kernel
theorem dX1_isString_23 : decode cX1_isString 23 = .ok (.ifCond .ne 7, 3) := by decide +kernel
theorem dX1_isString_26 : decode cX1_isString 26 = .ok (.iconst 1, 1) := by decide +kernel
theorem dX1_isString_27 : decode cX1_isString 27 = .ok (.goto 4, 3) := by decide +kernel
theorem dX1_isString_30 : decode cX1_isString 30 = .ok (.iconst 0, 1) := by decide +kernel
theorem dX1_isString_31 : decode cX1_isString 31 = .ok (.ireturn, 1) := by decide +kernel
theorem dX1_soundTo_0 : decode cX1_soundTo 0 = .ok (.aload_n 0, 1) := by decide +kernel
theorem dX1_soundTo_1 : decode cX1_soundTo 1 = .ok (.iload_n 2, 1) := by decide +kernel
theorem dX1_soundTo_2 : decode cX1_soundTo 2 = .ok (.invokevirtual 29, 3) := by decide +kernel
theorem dX1_soundTo_5 : decode cX1_soundTo 5 = .ok (.ifCond .eq 18, 3) := by decide +kernel
theorem dX1_soundTo_8 : decode cX1_soundTo 8 = .ok (.aload_n 0, 1) := by decide +kernel
theorem dX1_soundTo_9 : decode cX1_soundTo 9 = .ok (.getfield 15, 3) := by decide +kernel
theorem dX1_soundTo_12 : decode cX1_soundTo 12 = .ok (.getfield 33, 3) := by decide +kernel
theorem dX1_soundTo_15 : decode cX1_soundTo 15 = .ok (.iload_n 2, 1) := by decide +kernel
theorem dX1_soundTo_16 : decode cX1_soundTo 16 = .ok (.ishr, 1) := by decide +kernel
theorem dX1_soundTo_17 : decode cX1_soundTo 17 = .ok (.iconst 1, 1) := by decide +kernel
theorem dX1_soundTo_18 : decode cX1_soundTo 18 = .ok (.iand, 1) := by decide +kernel
theorem dX1_soundTo_19 : decode cX1_soundTo 19 = .ok (.iconst 1, 1) := by decide +kernel
theorem dX1_soundTo_20 : decode cX1_soundTo 20 = .ok (.if_icmp .ne 5, 3) := by decide +kernel
theorem dX1_soundTo_23 : decode cX1_soundTo 23 = .ok (.iconst 0, 1) := by decide +kernel
theorem dX1_soundTo_24 : decode cX1_soundTo 24 = .ok (.ireturn, 1) := by decide +kernel
theorem dX1_soundTo_25 : decode cX1_soundTo 25 = .ok (.iconst 0, 1) := by decide +kernel
theorem dX1_soundTo_26 : decode cX1_soundTo 26 = .ok (.aload_n 0, 1) := by decide +kernel
theorem dX1_soundTo_27 : decode cX1_soundTo 27 = .ok (.getfield 15, 3) := by decide +kernel
theorem dX1_soundTo_30 : decode cX1_soundTo 30 = .ok (.getfield 19, 3) := by decide +kernel
theorem dX1_soundTo_33 : decode cX1_soundTo 33 = .ok (.iload_n 2, 1) := by decide +kernel
theorem dX1_soundTo_34 : decode cX1_soundTo 34 = .ok (.iaload, 1) := by decide +kernel
theorem dX1_soundTo_35 : decode cX1_soundTo 35 = .ok (.aload_n 0, 1) := by decide +kernel
theorem dX1_soundTo_36 : decode cX1_soundTo 36 = .ok (.getfield 9, 3) := by decide +kernel
theorem dX1_soundTo_39 : decode cX1_soundTo 39 = .ok (.getfield 36, 3) := by decide +kernel
theorem dX1_soundTo_42 : decode cX1_soundTo 42 = .ok (.iload_n 1, 1) := by decide +kernel
theorem dX1_soundTo_43 : decode cX1_soundTo 43 = .ok (.iaload, 1) := by decide +kernel
theorem dX1_soundTo_44 : decode cX1_soundTo 44 = .ok (.iadd, 1) := by decide +kernel
theorem dX1_soundTo_45 : decode cX1_soundTo 45 = .ok (.aload_n 0, 1) := by decide +kernel
theorem dX1_soundTo_46 : decode cX1_soundTo 46 = .ok (.getfield 15, 3) := by decide +kernel
theorem dX1_soundTo_49 : decode cX1_soundTo 49 = .ok (.getfield 41, 3) := by decide +kernel
theorem dX1_soundTo_52 : decode cX1_soundTo 52 = .ok (.isub, 1) := by decide +kernel
theorem dX1_soundTo_53 : decode cX1_soundTo 53 = .ok (.invokestatic 44, 3) := by decide +kernel
theorem dX1_soundTo_56 : decode cX1_soundTo 56 = .ok (.ireturn, 1) := by decide +kernel
theorem dX1_fifthsAt_0 : decode cX1_fifthsAt 0 = .ok (.iconst 0, 1) := by decide +kernel
theorem dX1_fifthsAt_1 : decode cX1_fifthsAt 1 = .ok (.istore_n 2, 1) := by decide +kernel
theorem dX1_fifthsAt_2 : decode cX1_fifthsAt 2 = .ok (.iconst 1, 1) := by decide +kernel
theorem dX1_fifthsAt_3 : decode cX1_fifthsAt 3 = .ok (.istore_n 3, 1) := by decide +kernel
theorem dX1_fifthsAt_4 : decode cX1_fifthsAt 4 = .ok (.iload_n 3, 1) := by decide +kernel
theorem dX1_fifthsAt_5 : decode cX1_fifthsAt 5 = .ok (.aload_n 0, 1) := by decide +kernel
theorem dX1_fifthsAt_6 : decode cX1_fifthsAt 6 = .ok (.getfield 9, 3) := by decide +kernel
theorem dX1_fifthsAt_9 : decode cX1_fifthsAt 9 = .ok (.getfield 50, 3) := by decide +kernel
theorem dX1_fifthsAt_12 : decode cX1_fifthsAt 12 = .ok (.if_icmp .ge 74, 3) := by decide +kernel
theorem dX1_fifthsAt_15 : decode cX1_fifthsAt 15 = .ok (.iconst 0, 1) := by decide +kernel
theorem dX1_fifthsAt_16 : decode cX1_fifthsAt 16 = .ok (.istore 4, 2) := by decide +kernel
theorem dX1_fifthsAt_18 : decode cX1_fifthsAt 18 = .ok (.iload 4, 2) := by decide +kernel
theorem dX1_fifthsAt_20 : decode cX1_fifthsAt 20 = .ok (.iload_n 3, 1) := by decide +kernel
theorem dX1_fifthsAt_21 : decode cX1_fifthsAt 21 = .ok (.if_icmp .ge 59, 3) := by decide +kernel
theorem dX1_fifthsAt_24 : decode cX1_fifthsAt 24 = .ok (.aload_n 0, 1) := by decide +kernel
theorem dX1_fifthsAt_25 : decode cX1_fifthsAt 25 = .ok (.iload_n 3, 1) := by decide +kernel
theorem dX1_fifthsAt_26 : decode cX1_fifthsAt 26 = .ok (.iload_n 1, 1) := by decide +kernel
theorem dX1_fifthsAt_27 : decode cX1_fifthsAt 27 = .ok (.invokevirtual 53, 3) := by decide +kernel
theorem dX1_fifthsAt_30 : decode cX1_fifthsAt 30 = .ok (.ifCond .eq 44, 3) := by decide +kernel
theorem dX1_fifthsAt_33 : decode cX1_fifthsAt 33 = .ok (.aload_n 0, 1) := by decide +kernel
theorem dX1_fifthsAt_34 : decode cX1_fifthsAt 34 = .ok (.iload 4, 2) := by decide +kernel
theorem dX1_fifthsAt_36 : decode cX1_fifthsAt 36 = .ok (.iload_n 1, 1) := by decide +kernel
theorem dX1_fifthsAt_37 : decode cX1_fifthsAt 37 = .ok (.invokevirtual 53, 3) := by decide +kernel
theorem dX1_fifthsAt_40 : decode cX1_fifthsAt 40 = .ok (.ifCond .eq 34, 3) := by decide +kernel
theorem dX1_fifthsAt_43 : decode cX1_fifthsAt 43 = .ok (.aload_n 0, 1) := by decide +kernel
theorem dX1_fifthsAt_44 : decode cX1_fifthsAt 44 = .ok (.getfield 15, 3) := by decide +kernel
theorem dX1_fifthsAt_47 : decode cX1_fifthsAt 47 = .ok (.getfield 19, 3) := by decide +kernel
theorem dX1_fifthsAt_50 : decode cX1_fifthsAt 50 = .ok (.iload_n 3, 1) := by decide +kernel
theorem dX1_fifthsAt_51 : decode cX1_fifthsAt 51 = .ok (.iaload, 1) := by decide +kernel
theorem dX1_fifthsAt_52 : decode cX1_fifthsAt 52 = .ok (.aload_n 0, 1) := by decide +kernel
theorem dX1_fifthsAt_53 : decode cX1_fifthsAt 53 = .ok (.getfield 15, 3) := by decide +kernel
theorem dX1_fifthsAt_56 : decode cX1_fifthsAt 56 = .ok (.getfield 19, 3) := by decide +kernel
theorem dX1_fifthsAt_59 : decode cX1_fifthsAt 59 = .ok (.iload 4, 2) := by decide +kernel
theorem dX1_fifthsAt_61 : decode cX1_fifthsAt 61 = .ok (.iaload, 1) := by decide +kernel
theorem dX1_fifthsAt_62 : decode cX1_fifthsAt 62 = .ok (.isub, 1) := by decide +kernel
theorem dX1_fifthsAt_63 : decode cX1_fifthsAt 63 = .ok (.invokestatic 57, 3) := by decide +kernel
theorem dX1_fifthsAt_66 : decode cX1_fifthsAt 66 = .ok (.bipush 7, 2) := by decide +kernel
theorem dX1_fifthsAt_68 : decode cX1_fifthsAt 68 = .ok (.if_icmp .ne 6, 3) := by decide +kernel
theorem dX1_fifthsAt_71 : decode cX1_fifthsAt 71 = .ok (.iinc 2 1, 3) := by decide +kernel
theorem dX1_fifthsAt_74 : decode cX1_fifthsAt 74 = .ok (.iinc 4 1, 3) := by decide +kernel
theorem dX1_fifthsAt_77 : decode cX1_fifthsAt 77 = .ok (.goto (-59), 3) := by decide +kernel
theorem dX1_fifthsAt_80 : decode cX1_fifthsAt 80 = .ok (.iinc 3 1, 3) := by decide +kernel
theorem dX1_fifthsAt_83 : decode cX1_fifthsAt 83 = .ok (.goto (-79), 3) := by decide +kernel
theorem dX1_fifthsAt_86 : decode cX1_fifthsAt 86 = .ok (.iload_n 2, 1) := by decide +kernel
theorem dX1_fifthsAt_87 : decode cX1_fifthsAt 87 = .ok (.ireturn, 1) := by decide +kernel
theorem dX1_isStringAt_0 : decode cX1_isStringAt 0 = .ok (.aload_n 0, 1) := by decide +kernel
theorem dX1_isStringAt_1 : decode cX1_isStringAt 1 = .ok (.iload_n 1, 1) := by decide +kernel
theorem dX1_isStringAt_2 : decode cX1_isStringAt 2 = .ok (.invokevirtual 29, 3) := by decide +kernel
theorem dX1_isStringAt_5 : decode cX1_isStringAt 5 = .ok (.ifCond .eq 19, 3) := by decide +kernel
theorem dX1_isStringAt_8 : decode cX1_isStringAt 8 = .ok (.aload_n 0, 1) := by decide +kernel
theorem dX1_isStringAt_9 : decode cX1_isStringAt 9 = .ok (.getfield 9, 3) := by decide +kernel
theorem dX1_isStringAt_12 : decode cX1_isStringAt 12 = .ok (.iload_n 1, 1) := by decide +kernel
theorem dX1_isStringAt_13 : decode cX1_isStringAt 13 = .ok (.iload_n 2, 1) := by decide +kernel
theorem dX1_isStringAt_14 : decode cX1_isStringAt 14 = .ok (.invokevirtual 61, 3) := by decide +kernel
theorem dX1_isStringAt_17 : decode cX1_isStringAt 17 = .ok (.ifCond .eq 7, 3) := by decide +kernel
theorem dX1_isStringAt_20 : decode cX1_isStringAt 20 = .ok (.iconst 1, 1) := by decide +kernel
theorem dX1_isStringAt_21 : decode cX1_isStringAt 21 = .ok (.goto 4, 3) := by decide +kernel
theorem dX1_isStringAt_24 : decode cX1_isStringAt 24 = .ok (.iconst 0, 1) := by decide +kernel
theorem dX1_isStringAt_25 : decode cX1_isStringAt 25 = .ok (.ireturn, 1) := by decide +kernel
theorem dX1_beastsThatSound_0 : decode cX1_beastsThatSound 0 = .ok (.iconst 0, 1) := by decide +kernel
theorem dX1_beastsThatSound_1 : decode cX1_beastsThatSound 1 = .ok (.istore_n 2, 1) := by decide +kernel
theorem dX1_beastsThatSound_2 : decode cX1_beastsThatSound 2 = .ok (.iconst 0, 1) := by decide +kernel
theorem dX1_beastsThatSound_3 : decode cX1_beastsThatSound 3 = .ok (.istore_n 3, 1) := by decide +kernel
theorem dX1_beastsThatSound_4 : decode cX1_beastsThatSound 4 = .ok (.iload_n 3, 1) := by decide +kernel
theorem dX1_beastsThatSound_5 : decode cX1_beastsThatSound 5 = .ok (.aload_n 0, 1) := by decide +kernel
theorem dX1_beastsThatSound_6 : decode cX1_beastsThatSound 6 = .ok (.getfield 9, 3) := by decide +kernel
theorem dX1_beastsThatSound_9 : decode cX1_beastsThatSound 9 = .ok (.getfield 64, 3) := by decide +kernel
theorem dX1_beastsThatSound_12 : decode cX1_beastsThatSound 12 = .ok (.if_icmp .ge 76, 3) := by decide +kernel
theorem dX1_beastsThatSound_15 : decode cX1_beastsThatSound 15 = .ok (.iconst 0, 1) := by decide +kernel
theorem dX1_beastsThatSound_16 : decode cX1_beastsThatSound 16 = .ok (.istore 4, 2) := by decide +kernel
theorem dX1_beastsThatSound_18 : decode cX1_beastsThatSound 18 = .ok (.iload 4, 2) := by decide +kernel
theorem dX1_beastsThatSound_20 : decode cX1_beastsThatSound 20 = .ok (.aload_n 0, 1) := by decide +kernel
theorem dX1_beastsThatSound_21 : decode cX1_beastsThatSound 21 = .ok (.getfield 9, 3) := by decide +kernel
theorem dX1_beastsThatSound_24 : decode cX1_beastsThatSound 24 = .ok (.getfield 50, 3) := by decide +kernel
theorem dX1_beastsThatSound_27 : decode cX1_beastsThatSound 27 = .ok (.if_icmp .ge 55, 3) := by decide +kernel
theorem dX1_beastsThatSound_30 : decode cX1_beastsThatSound 30 = .ok (.aload_n 0, 1) := by decide +kernel
theorem dX1_beastsThatSound_31 : decode cX1_beastsThatSound 31 = .ok (.getfield 9, 3) := by decide +kernel
theorem dX1_beastsThatSound_34 : decode cX1_beastsThatSound 34 = .ok (.iload 4, 2) := by decide +kernel
theorem dX1_beastsThatSound_36 : decode cX1_beastsThatSound 36 = .ok (.aload_n 0, 1) := by decide +kernel
theorem dX1_beastsThatSound_37 : decode cX1_beastsThatSound 37 = .ok (.getfield 15, 3) := by decide +kernel
theorem dX1_beastsThatSound_40 : decode cX1_beastsThatSound 40 = .ok (.getfield 67, 3) := by decide +kernel
theorem dX1_beastsThatSound_43 : decode cX1_beastsThatSound 43 = .ok (.iload_n 3, 1) := by decide +kernel
theorem dX1_beastsThatSound_44 : decode cX1_beastsThatSound 44 = .ok (.iaload, 1) := by decide +kernel
theorem dX1_beastsThatSound_45 : decode cX1_beastsThatSound 45 = .ok (.invokevirtual 61, 3) := by decide +kernel
theorem dX1_beastsThatSound_48 : decode cX1_beastsThatSound 48 = .ok (.ifCond .eq 28, 3) := by decide +kernel
theorem dX1_beastsThatSound_51 : decode cX1_beastsThatSound 51 = .ok (.aload_n 0, 1) := by decide +kernel
theorem dX1_beastsThatSound_52 : decode cX1_beastsThatSound 52 = .ok (.aload_n 0, 1) := by decide +kernel
theorem dX1_beastsThatSound_53 : decode cX1_beastsThatSound 53 = .ok (.getfield 9, 3) := by decide +kernel
theorem dX1_beastsThatSound_56 : decode cX1_beastsThatSound 56 = .ok (.getfield 70, 3) := by decide +kernel
theorem dX1_beastsThatSound_59 : decode cX1_beastsThatSound 59 = .ok (.iload_n 3, 1) := by decide +kernel
theorem dX1_beastsThatSound_60 : decode cX1_beastsThatSound 60 = .ok (.iaload, 1) := by decide +kernel
theorem dX1_beastsThatSound_61 : decode cX1_beastsThatSound 61 = .ok (.iload 4, 2) := by decide +kernel
theorem dX1_beastsThatSound_63 : decode cX1_beastsThatSound 63 = .ok (.invokevirtual 73, 3) := by decide +kernel
theorem dX1_beastsThatSound_66 : decode cX1_beastsThatSound 66 = .ok (.iload_n 1, 1) := by decide +kernel
theorem dX1_beastsThatSound_67 : decode cX1_beastsThatSound 67 = .ok (.if_icmp .ne 9, 3) := by decide +kernel
theorem dX1_beastsThatSound_70 : decode cX1_beastsThatSound 70 = .ok (.iload_n 2, 1) := by decide +kernel
theorem dX1_beastsThatSound_71 : decode cX1_beastsThatSound 71 = .ok (.iconst 1, 1) := by decide +kernel
theorem dX1_beastsThatSound_72 : decode cX1_beastsThatSound 72 = .ok (.iload_n 3, 1) := by decide +kernel
theorem dX1_beastsThatSound_73 : decode cX1_beastsThatSound 73 = .ok (.ishl, 1) := by decide +kernel
theorem dX1_beastsThatSound_74 : decode cX1_beastsThatSound 74 = .ok (.ior, 1) := by decide +kernel
theorem dX1_beastsThatSound_75 : decode cX1_beastsThatSound 75 = .ok (.istore_n 2, 1) := by decide +kernel
theorem dX1_beastsThatSound_76 : decode cX1_beastsThatSound 76 = .ok (.iinc 4 1, 3) := by decide +kernel
theorem dX1_beastsThatSound_79 : decode cX1_beastsThatSound 79 = .ok (.goto (-61), 3) := by decide +kernel
theorem dX1_beastsThatSound_82 : decode cX1_beastsThatSound 82 = .ok (.iinc 3 1, 3) := by decide +kernel
theorem dX1_beastsThatSound_85 : decode cX1_beastsThatSound 85 = .ok (.goto (-81), 3) := by decide +kernel
theorem dX1_beastsThatSound_88 : decode cX1_beastsThatSound 88 = .ok (.iload_n 2, 1) := by decide +kernel
theorem dX1_beastsThatSound_89 : decode cX1_beastsThatSound 89 = .ok (.ireturn, 1) := by decide +kernel
theorem dX2_init_0 : decode cX2_init 0 = .ok (.aload_n 0, 1) := by decide +kernel
theorem dX2_init_1 : decode cX2_init 1 = .ok (.invokespecial 3, 3) := by decide +kernel
theorem dX2_init_4 : decode cX2_init 4 = .ok (.aload_n 0, 1) := by decide +kernel
theorem dX2_init_5 : decode cX2_init 5 = .ok (.bipush 6, 2) := by decide +kernel
theorem dX2_init_7 : decode cX2_init 7 = .ok (.newarray .int, 2) := by decide +kernel
theorem dX2_init_9 : decode cX2_init 9 = .ok (.putfield 9, 3) := by decide +kernel
theorem dX2_init_12 : decode cX2_init 12 = .ok (.aload_n 0, 1) := by decide +kernel
theorem dX2_init_13 : decode cX2_init 13 = .ok (.iconst 4, 1) := by decide +kernel
theorem dX2_init_14 : decode cX2_init 14 = .ok (.newarray .int, 2) := by decide +kernel
theorem dX2_init_16 : decode cX2_init 16 = .ok (.putfield 15, 3) := by decide +kernel
theorem dX2_init_19 : decode cX2_init 19 = .ok (.aload_n 0, 1) := by decide +kernel
theorem dX2_init_20 : decode cX2_init 20 = .ok (.bipush 8, 2) := by decide +kernel
theorem dX2_init_22 : decode cX2_init 22 = .ok (.newarray .int, 2) := by decide +kernel
theorem dX2_init_24 : decode cX2_init 24 = .ok (.putfield 18, 3) := by decide +kernel
theorem dX2_init_27 : decode cX2_init 27 = .ok (.aload_n 0, 1) := by decide +kernel
theorem dX2_init_28 : decode cX2_init 28 = .ok (.bipush 8, 2) := by decide +kernel
theorem dX2_init_30 : decode cX2_init 30 = .ok (.newarray .int, 2) := by decide +kernel
theorem dX2_init_32 : decode cX2_init 32 = .ok (.putfield 21, 3) := by decide +kernel
theorem dX2_init_35 : decode cX2_init 35 = .ok (.aload_n 0, 1) := by decide +kernel
theorem dX2_init_36 : decode cX2_init 36 = .ok (.aload_n 1, 1) := by decide +kernel
theorem dX2_init_37 : decode cX2_init 37 = .ok (.putfield 24, 3) := by decide +kernel
theorem dX2_init_40 : decode cX2_init 40 = .ok (.aload_n 0, 1) := by decide +kernel
theorem dX2_init_41 : decode cX2_init 41 = .ok (.aload_n 1, 1) := by decide +kernel
theorem dX2_init_42 : decode cX2_init 42 = .ok (.getfield 28, 3) := by decide +kernel
theorem dX2_init_45 : decode cX2_init 45 = .ok (.putfield 34, 3) := by decide +kernel
theorem dX2_init_48 : decode cX2_init 48 = .ok (.return_, 1) := by decide +kernel
theorem dX2_takes_0 : decode cX2_takes 0 = .ok (.aload_n 0, 1) := by decide +kernel
theorem dX2_takes_1 : decode cX2_takes 1 = .ok (.getfield 35, 3) := by decide +kernel
theorem dX2_takes_4 : decode cX2_takes 4 = .ok (.bipush 6, 2) := by decide +kernel
theorem dX2_takes_6 : decode cX2_takes 6 = .ok (.if_icmp .lt 5, 3) := by decide +kernel
theorem dX2_takes_9 : decode cX2_takes 9 = .ok (.iconst 0, 1) := by decide +kernel
theorem dX2_takes_10 : decode cX2_takes 10 = .ok (.ireturn, 1) := by decide +kernel
theorem dX2_takes_11 : decode cX2_takes 11 = .ok (.aload_n 0, 1) := by decide +kernel
theorem dX2_takes_12 : decode cX2_takes 12 = .ok (.getfield 9, 3) := by decide +kernel
theorem dX2_takes_15 : decode cX2_takes 15 = .ok (.aload_n 0, 1) := by decide +kernel
theorem dX2_takes_16 : decode cX2_takes 16 = .ok (.getfield 35, 3) := by decide +kernel
theorem dX2_takes_19 : decode cX2_takes 19 = .ok (.iload_n 1, 1) := by decide +kernel
theorem dX2_takes_20 : decode cX2_takes 20 = .ok (.iastore, 1) := by decide +kernel
theorem dX2_takes_21 : decode cX2_takes 21 = .ok (.aload_n 0, 1) := by decide +kernel
theorem dX2_takes_22 : decode cX2_takes 22 = .ok (.dup, 1) := by decide +kernel
theorem dX2_takes_23 : decode cX2_takes 23 = .ok (.getfield 35, 3) := by decide +kernel
theorem dX2_takes_26 : decode cX2_takes 26 = .ok (.iconst 1, 1) := by decide +kernel
theorem dX2_takes_27 : decode cX2_takes 27 = .ok (.iadd, 1) := by decide +kernel
theorem dX2_takes_28 : decode cX2_takes 28 = .ok (.putfield 35, 3) := by decide +kernel
theorem dX2_takes_31 : decode cX2_takes 31 = .ok (.iconst 1, 1) := by decide +kernel
theorem dX2_takes_32 : decode cX2_takes 32 = .ok (.ireturn, 1) := by decide +kernel
theorem dX2_rowsFrom_0 : decode cX2_rowsFrom 0 = .ok (.iconst 0, 1) := by decide +kernel
theorem dX2_rowsFrom_1 : decode cX2_rowsFrom 1 = .ok (.istore_n 3, 1) := by decide +kernel
theorem dX2_rowsFrom_2 : decode cX2_rowsFrom 2 = .ok (.iload_n 3, 1) := by decide +kernel
theorem dX2_rowsFrom_3 : decode cX2_rowsFrom 3 = .ok (.aload_n 0, 1) := by decide +kernel
theorem dX2_rowsFrom_4 : decode cX2_rowsFrom 4 = .ok (.getfield 34, 3) := by decide +kernel
theorem dX2_rowsFrom_7 : decode cX2_rowsFrom 7 = .ok (.getfield 39, 3) := by decide +kernel
theorem dX2_rowsFrom_10 : decode cX2_rowsFrom 10 = .ok (.if_icmp .ge 25, 3) := by decide +kernel
theorem dX2_rowsFrom_13 : decode cX2_rowsFrom 13 = .ok (.aload_n 0, 1) := by decide +kernel
theorem dX2_rowsFrom_14 : decode cX2_rowsFrom 14 = .ok (.getfield 18, 3) := by decide +kernel
theorem dX2_rowsFrom_17 : decode cX2_rowsFrom 17 = .ok (.iload_n 3, 1) := by decide +kernel
theorem dX2_rowsFrom_18 : decode cX2_rowsFrom 18 = .ok (.iload_n 3, 1) := by decide +kernel
theorem dX2_rowsFrom_19 : decode cX2_rowsFrom 19 = .ok (.iload_n 2, 1) := by decide +kernel
theorem dX2_rowsFrom_20 : decode cX2_rowsFrom 20 = .ok (.if_icmp .ne 7, 3) := by decide +kernel
theorem dX2_rowsFrom_23 : decode cX2_rowsFrom 23 = .ok (.iconst 1, 1) := by decide +kernel
theorem dX2_rowsFrom_24 : decode cX2_rowsFrom 24 = .ok (.goto 4, 3) := by decide +kernel
theorem dX2_rowsFrom_27 : decode cX2_rowsFrom 27 = .ok (.iconst 0, 1) := by decide +kernel
theorem dX2_rowsFrom_28 : decode cX2_rowsFrom 28 = .ok (.iastore, 1) := by decide +kernel
theorem dX2_rowsFrom_29 : decode cX2_rowsFrom 29 = .ok (.iinc 3 1, 3) := by decide +kernel
theorem dX2_rowsFrom_32 : decode cX2_rowsFrom 32 = .ok (.goto (-30), 3) := by decide +kernel
theorem dX2_rowsFrom_35 : decode cX2_rowsFrom 35 = .ok (.iconst 0, 1) := by decide +kernel
theorem dX2_rowsFrom_36 : decode cX2_rowsFrom 36 = .ok (.istore_n 3, 1) := by decide +kernel
theorem dX2_rowsFrom_37 : decode cX2_rowsFrom 37 = .ok (.iload_n 3, 1) := by decide +kernel
theorem dX2_rowsFrom_38 : decode cX2_rowsFrom 38 = .ok (.aload_n 0, 1) := by decide +kernel
theorem dX2_rowsFrom_39 : decode cX2_rowsFrom 39 = .ok (.getfield 35, 3) := by decide +kernel
theorem dX2_rowsFrom_42 : decode cX2_rowsFrom 42 = .ok (.if_icmp .ge 20, 3) := by decide +kernel
theorem dX2_rowsFrom_45 : decode cX2_rowsFrom 45 = .ok (.aload_n 0, 1) := by decide +kernel
theorem dX2_rowsFrom_46 : decode cX2_rowsFrom 46 = .ok (.iload_n 1, 1) := by decide +kernel
theorem dX2_rowsFrom_47 : decode cX2_rowsFrom 47 = .ok (.aload_n 0, 1) := by decide +kernel
theorem dX2_rowsFrom_48 : decode cX2_rowsFrom 48 = .ok (.getfield 9, 3) := by decide +kernel
theorem dX2_rowsFrom_51 : decode cX2_rowsFrom 51 = .ok (.iload_n 3, 1) := by decide +kernel
theorem dX2_rowsFrom_52 : decode cX2_rowsFrom 52 = .ok (.iaload, 1) := by decide +kernel
theorem dX2_rowsFrom_53 : decode cX2_rowsFrom 53 = .ok (.invokevirtual 44, 3) := by decide +kernel
theorem dX2_rowsFrom_56 : decode cX2_rowsFrom 56 = .ok (.iinc 3 1, 3) := by decide +kernel
theorem dX2_rowsFrom_59 : decode cX2_rowsFrom 59 = .ok (.goto (-22), 3) := by decide +kernel
theorem dX2_rowsFrom_62 : decode cX2_rowsFrom 62 = .ok (.iconst 0, 1) := by decide +kernel
theorem dX2_rowsFrom_63 : decode cX2_rowsFrom 63 = .ok (.istore_n 3, 1) := by decide +kernel
theorem dX2_rowsFrom_64 : decode cX2_rowsFrom 64 = .ok (.iconst 0, 1) := by decide +kernel
theorem dX2_rowsFrom_65 : decode cX2_rowsFrom 65 = .ok (.istore 4, 2) := by decide +kernel
theorem dX2_rowsFrom_67 : decode cX2_rowsFrom 67 = .ok (.iload 4, 2) := by decide +kernel
theorem dX2_rowsFrom_69 : decode cX2_rowsFrom 69 = .ok (.aload_n 0, 1) := by decide +kernel
theorem dX2_rowsFrom_70 : decode cX2_rowsFrom 70 = .ok (.getfield 34, 3) := by decide +kernel
theorem dX2_rowsFrom_73 : decode cX2_rowsFrom 73 = .ok (.getfield 39, 3) := by decide +kernel
theorem dX2_rowsFrom_76 : decode cX2_rowsFrom 76 = .ok (.if_icmp .ge 22, 3) := by decide +kernel
theorem dX2_rowsFrom_79 : decode cX2_rowsFrom 79 = .ok (.iload_n 3, 1) := by decide +kernel
theorem dX2_rowsFrom_80 : decode cX2_rowsFrom 80 = .ok (.aload_n 0, 1) := by decide +kernel
theorem dX2_rowsFrom_81 : decode cX2_rowsFrom 81 = .ok (.getfield 18, 3) := by decide +kernel
theorem dX2_rowsFrom_84 : decode cX2_rowsFrom 84 = .ok (.iload 4, 2) := by decide +kernel
theorem dX2_rowsFrom_86 : decode cX2_rowsFrom 86 = .ok (.iaload, 1) := by decide +kernel
theorem dX2_rowsFrom_87 : decode cX2_rowsFrom 87 = .ok (.iadd, 1) := by decide +kernel
theorem dX2_rowsFrom_88 : decode cX2_rowsFrom 88 = .ok (.ldc 48, 2) := by decide +kernel
theorem dX2_rowsFrom_90 : decode cX2_rowsFrom 90 = .ok (.irem, 1) := by decide +kernel
theorem dX2_rowsFrom_91 : decode cX2_rowsFrom 91 = .ok (.istore_n 3, 1) := by decide +kernel
theorem dX2_rowsFrom_92 : decode cX2_rowsFrom 92 = .ok (.iinc 4 1, 3) := by decide +kernel
theorem dX2_rowsFrom_95 : decode cX2_rowsFrom 95 = .ok (.goto (-28), 3) := by decide +kernel
theorem dX2_rowsFrom_98 : decode cX2_rowsFrom 98 = .ok (.iload_n 3, 1) := by decide +kernel
theorem dX2_rowsFrom_99 : decode cX2_rowsFrom 99 = .ok (.ireturn, 1) := by decide +kernel
theorem dX2_crossAll_0 : decode cX2_crossAll 0 = .ok (.iconst 0, 1) := by decide +kernel
theorem dX2_crossAll_1 : decode cX2_crossAll 1 = .ok (.istore_n 3, 1) := by decide +kernel
theorem dX2_crossAll_2 : decode cX2_crossAll 2 = .ok (.iload_n 3, 1) := by decide +kernel
theorem dX2_crossAll_3 : decode cX2_crossAll 3 = .ok (.aload_n 0, 1) := by decide +kernel
theorem dX2_crossAll_4 : decode cX2_crossAll 4 = .ok (.getfield 34, 3) := by decide +kernel
theorem dX2_crossAll_7 : decode cX2_crossAll 7 = .ok (.getfield 39, 3) := by decide +kernel
theorem dX2_crossAll_10 : decode cX2_crossAll 10 = .ok (.if_icmp .ge 16, 3) := by decide +kernel
theorem dX2_crossAll_13 : decode cX2_crossAll 13 = .ok (.aload_n 0, 1) := by decide +kernel
theorem dX2_crossAll_14 : decode cX2_crossAll 14 = .ok (.getfield 21, 3) := by decide +kernel
theorem dX2_crossAll_17 : decode cX2_crossAll 17 = .ok (.iload_n 3, 1) := by decide +kernel
theorem dX2_crossAll_18 : decode cX2_crossAll 18 = .ok (.iconst 0, 1) := by decide +kernel
theorem dX2_crossAll_19 : decode cX2_crossAll 19 = .ok (.iastore, 1) := by decide +kernel
theorem dX2_crossAll_20 : decode cX2_crossAll 20 = .ok (.iinc 3 1, 3) := by decide +kernel
theorem dX2_crossAll_23 : decode cX2_crossAll 23 = .ok (.goto (-21), 3) := by decide +kernel
theorem dX2_crossAll_26 : decode cX2_crossAll 26 = .ok (.iconst 0, 1) := by decide +kernel
theorem dX2_crossAll_27 : decode cX2_crossAll 27 = .ok (.istore_n 3, 1) := by decide +kernel
theorem dX2_crossAll_28 : decode cX2_crossAll 28 = .ok (.iload_n 3, 1) := by decide +kernel
theorem dX2_crossAll_29 : decode cX2_crossAll 29 = .ok (.aload_n 0, 1) := by decide +kernel
theorem dX2_crossAll_30 : decode cX2_crossAll 30 = .ok (.getfield 34, 3) := by decide +kernel
theorem dX2_crossAll_33 : decode cX2_crossAll 33 = .ok (.getfield 49, 3) := by decide +kernel
theorem dX2_crossAll_36 : decode cX2_crossAll 36 = .ok (.if_icmp .ge 94, 3) := by decide +kernel
theorem dX2_crossAll_39 : decode cX2_crossAll 39 = .ok (.aload_n 0, 1) := by decide +kernel
theorem dX2_crossAll_40 : decode cX2_crossAll 40 = .ok (.getfield 24, 3) := by decide +kernel
theorem dX2_crossAll_43 : decode cX2_crossAll 43 = .ok (.iload_n 1, 1) := by decide +kernel
theorem dX2_crossAll_44 : decode cX2_crossAll 44 = .ok (.iload_n 3, 1) := by decide +kernel
theorem dX2_crossAll_45 : decode cX2_crossAll 45 = .ok (.invokevirtual 52, 3) := by decide +kernel
theorem dX2_crossAll_48 : decode cX2_crossAll 48 = .ok (.iload_n 2, 1) := by decide +kernel
theorem dX2_crossAll_49 : decode cX2_crossAll 49 = .ok (.if_icmp .ne 75, 3) := by decide +kernel
theorem dX2_crossAll_52 : decode cX2_crossAll 52 = .ok (.aload_n 0, 1) := by decide +kernel
theorem dX2_crossAll_53 : decode cX2_crossAll 53 = .ok (.getfield 34, 3) := by decide +kernel
theorem dX2_crossAll_56 : decode cX2_crossAll 56 = .ok (.getfield 56, 3) := by decide +kernel
theorem dX2_crossAll_59 : decode cX2_crossAll 59 = .ok (.iload_n 3, 1) := by decide +kernel
theorem dX2_crossAll_60 : decode cX2_crossAll 60 = .ok (.iaload, 1) := by decide +kernel
theorem dX2_crossAll_61 : decode cX2_crossAll 61 = .ok (.istore 4, 2) := by decide +kernel
theorem dX2_crossAll_63 : decode cX2_crossAll 63 = .ok (.aload_n 0, 1) := by decide +kernel
theorem dX2_crossAll_64 : decode cX2_crossAll 64 = .ok (.getfield 34, 3) := by decide +kernel
theorem dX2_crossAll_67 : decode cX2_crossAll 67 = .ok (.getfield 59, 3) := by decide +kernel
theorem dX2_crossAll_70 : decode cX2_crossAll 70 = .ok (.iload_n 3, 1) := by decide +kernel
theorem dX2_crossAll_71 : decode cX2_crossAll 71 = .ok (.iaload, 1) := by decide +kernel
theorem dX2_crossAll_72 : decode cX2_crossAll 72 = .ok (.istore 5, 2) := by decide +kernel
theorem dX2_crossAll_74 : decode cX2_crossAll 74 = .ok (.aload_n 0, 1) := by decide +kernel
theorem dX2_crossAll_75 : decode cX2_crossAll 75 = .ok (.getfield 21, 3) := by decide +kernel
theorem dX2_crossAll_78 : decode cX2_crossAll 78 = .ok (.iload 4, 2) := by decide +kernel
theorem dX2_crossAll_80 : decode cX2_crossAll 80 = .ok (.aload_n 0, 1) := by decide +kernel
theorem dX2_crossAll_81 : decode cX2_crossAll 81 = .ok (.getfield 21, 3) := by decide +kernel
theorem dX2_crossAll_84 : decode cX2_crossAll 84 = .ok (.iload 4, 2) := by decide +kernel
theorem dX2_crossAll_86 : decode cX2_crossAll 86 = .ok (.iaload, 1) := by decide +kernel
theorem dX2_crossAll_87 : decode cX2_crossAll 87 = .ok (.aload_n 0, 1) := by decide +kernel
theorem dX2_crossAll_88 : decode cX2_crossAll 88 = .ok (.getfield 18, 3) := by decide +kernel
theorem dX2_crossAll_91 : decode cX2_crossAll 91 = .ok (.iload 5, 2) := by decide +kernel
theorem dX2_crossAll_93 : decode cX2_crossAll 93 = .ok (.iaload, 1) := by decide +kernel
theorem dX2_crossAll_94 : decode cX2_crossAll 94 = .ok (.iadd, 1) := by decide +kernel
theorem dX2_crossAll_95 : decode cX2_crossAll 95 = .ok (.ldc 48, 2) := by decide +kernel
theorem dX2_crossAll_97 : decode cX2_crossAll 97 = .ok (.irem, 1) := by decide +kernel
theorem dX2_crossAll_98 : decode cX2_crossAll 98 = .ok (.iastore, 1) := by decide +kernel
theorem dX2_crossAll_99 : decode cX2_crossAll 99 = .ok (.aload_n 0, 1) := by decide +kernel
theorem dX2_crossAll_100 : decode cX2_crossAll 100 = .ok (.getfield 21, 3) := by decide +kernel
theorem dX2_crossAll_103 : decode cX2_crossAll 103 = .ok (.iload 5, 2) := by decide +kernel
theorem dX2_crossAll_105 : decode cX2_crossAll 105 = .ok (.aload_n 0, 1) := by decide +kernel
theorem dX2_crossAll_106 : decode cX2_crossAll 106 = .ok (.getfield 21, 3) := by decide +kernel
theorem dX2_crossAll_109 : decode cX2_crossAll 109 = .ok (.iload 5, 2) := by decide +kernel
theorem dX2_crossAll_111 : decode cX2_crossAll 111 = .ok (.iaload, 1) := by decide +kernel
theorem dX2_crossAll_112 : decode cX2_crossAll 112 = .ok (.aload_n 0, 1) := by decide +kernel
theorem dX2_crossAll_113 : decode cX2_crossAll 113 = .ok (.getfield 18, 3) := by decide +kernel
theorem dX2_crossAll_116 : decode cX2_crossAll 116 = .ok (.iload 4, 2) := by decide +kernel
theorem dX2_crossAll_118 : decode cX2_crossAll 118 = .ok (.iaload, 1) := by decide +kernel
theorem dX2_crossAll_119 : decode cX2_crossAll 119 = .ok (.iadd, 1) := by decide +kernel
theorem dX2_crossAll_120 : decode cX2_crossAll 120 = .ok (.ldc 48, 2) := by decide +kernel
theorem dX2_crossAll_122 : decode cX2_crossAll 122 = .ok (.irem, 1) := by decide +kernel
theorem dX2_crossAll_123 : decode cX2_crossAll 123 = .ok (.iastore, 1) := by decide +kernel
theorem dX2_crossAll_124 : decode cX2_crossAll 124 = .ok (.iinc 3 1, 3) := by decide +kernel
theorem dX2_crossAll_127 : decode cX2_crossAll 127 = .ok (.goto (-99), 3) := by decide +kernel
theorem dX2_crossAll_130 : decode cX2_crossAll 130 = .ok (.aload_n 0, 1) := by decide +kernel
theorem dX2_crossAll_131 : decode cX2_crossAll 131 = .ok (.getfield 18, 3) := by decide +kernel
theorem dX2_crossAll_134 : decode cX2_crossAll 134 = .ok (.astore_n 3, 1) := by decide +kernel
theorem dX2_crossAll_135 : decode cX2_crossAll 135 = .ok (.aload_n 0, 1) := by decide +kernel
theorem dX2_crossAll_136 : decode cX2_crossAll 136 = .ok (.aload_n 0, 1) := by decide +kernel
theorem dX2_crossAll_137 : decode cX2_crossAll 137 = .ok (.getfield 21, 3) := by decide +kernel
theorem dX2_crossAll_140 : decode cX2_crossAll 140 = .ok (.putfield 18, 3) := by decide +kernel
theorem dX2_crossAll_143 : decode cX2_crossAll 143 = .ok (.aload_n 0, 1) := by decide +kernel
theorem dX2_crossAll_144 : decode cX2_crossAll 144 = .ok (.aload_n 3, 1) := by decide +kernel
theorem dX2_crossAll_145 : decode cX2_crossAll 145 = .ok (.putfield 21, 3) := by decide +kernel
theorem dX2_crossAll_148 : decode cX2_crossAll 148 = .ok (.return_, 1) := by decide +kernel
theorem dX2_endsOf_0 : decode cX2_endsOf 0 = .ok (.iconst 1, 1) := by decide +kernel
theorem dX2_endsOf_1 : decode cX2_endsOf 1 = .ok (.aload_n 0, 1) := by decide +kernel
theorem dX2_endsOf_2 : decode cX2_endsOf 2 = .ok (.getfield 34, 3) := by decide +kernel
theorem dX2_endsOf_5 : decode cX2_endsOf 5 = .ok (.getfield 39, 3) := by decide +kernel
theorem dX2_endsOf_8 : decode cX2_endsOf 8 = .ok (.ishl, 1) := by decide +kernel
theorem dX2_endsOf_9 : decode cX2_endsOf 9 = .ok (.iconst 1, 1) := by decide +kernel
theorem dX2_endsOf_10 : decode cX2_endsOf 10 = .ok (.isub, 1) := by decide +kernel
theorem dX2_endsOf_11 : decode cX2_endsOf 11 = .ok (.istore_n 2, 1) := by decide +kernel
theorem dX2_endsOf_12 : decode cX2_endsOf 12 = .ok (.iconst 0, 1) := by decide +kernel
theorem dX2_endsOf_13 : decode cX2_endsOf 13 = .ok (.istore_n 3, 1) := by decide +kernel
theorem dX2_endsOf_14 : decode cX2_endsOf 14 = .ok (.iload_n 3, 1) := by decide +kernel
theorem dX2_endsOf_15 : decode cX2_endsOf 15 = .ok (.aload_n 0, 1) := by decide +kernel
theorem dX2_endsOf_16 : decode cX2_endsOf 16 = .ok (.getfield 35, 3) := by decide +kernel
theorem dX2_endsOf_19 : decode cX2_endsOf 19 = .ok (.if_icmp .ge 22, 3) := by decide +kernel
theorem dX2_endsOf_22 : decode cX2_endsOf 22 = .ok (.aload_n 0, 1) := by decide +kernel
theorem dX2_endsOf_23 : decode cX2_endsOf 23 = .ok (.iload_n 1, 1) := by decide +kernel
theorem dX2_endsOf_24 : decode cX2_endsOf 24 = .ok (.iload_n 2, 1) := by decide +kernel
theorem dX2_endsOf_25 : decode cX2_endsOf 25 = .ok (.aload_n 0, 1) := by decide +kernel
theorem dX2_endsOf_26 : decode cX2_endsOf 26 = .ok (.getfield 9, 3) := by decide +kernel
theorem dX2_endsOf_29 : decode cX2_endsOf 29 = .ok (.iload_n 3, 1) := by decide +kernel
theorem dX2_endsOf_30 : decode cX2_endsOf 30 = .ok (.iaload, 1) := by decide +kernel
theorem dX2_endsOf_31 : decode cX2_endsOf 31 = .ok (.invokevirtual 62, 3) := by decide +kernel
theorem dX2_endsOf_34 : decode cX2_endsOf 34 = .ok (.istore_n 2, 1) := by decide +kernel
theorem dX2_endsOf_35 : decode cX2_endsOf 35 = .ok (.iinc 3 1, 3) := by decide +kernel
theorem dX2_endsOf_38 : decode cX2_endsOf 38 = .ok (.goto (-24), 3) := by decide +kernel
theorem dX2_endsOf_41 : decode cX2_endsOf 41 = .ok (.iload_n 2, 1) := by decide +kernel
theorem dX2_endsOf_42 : decode cX2_endsOf 42 = .ok (.ireturn, 1) := by decide +kernel
theorem dX2_endsBehind_0 : decode cX2_endsBehind 0 = .ok (.iconst 0, 1) := by decide +kernel
theorem dX2_endsBehind_1 : decode cX2_endsBehind 1 = .ok (.istore 4, 2) := by decide +kernel
theorem dX2_endsBehind_3 : decode cX2_endsBehind 3 = .ok (.iconst 0, 1) := by decide +kernel
theorem dX2_endsBehind_4 : decode cX2_endsBehind 4 = .ok (.istore 5, 2) := by decide +kernel
theorem dX2_endsBehind_6 : decode cX2_endsBehind 6 = .ok (.iload 5, 2) := by decide +kernel
theorem dX2_endsBehind_8 : decode cX2_endsBehind 8 = .ok (.aload_n 0, 1) := by decide +kernel
theorem dX2_endsBehind_9 : decode cX2_endsBehind 9 = .ok (.getfield 34, 3) := by decide +kernel
theorem dX2_endsBehind_12 : decode cX2_endsBehind 12 = .ok (.getfield 49, 3) := by decide +kernel
theorem dX2_endsBehind_15 : decode cX2_endsBehind 15 = .ok (.if_icmp .ge 83, 3) := by decide +kernel
theorem dX2_endsBehind_18 : decode cX2_endsBehind 18 = .ok (.aload_n 0, 1) := by decide +kernel
theorem dX2_endsBehind_19 : decode cX2_endsBehind 19 = .ok (.getfield 24, 3) := by decide +kernel
theorem dX2_endsBehind_22 : decode cX2_endsBehind 22 = .ok (.iload_n 1, 1) := by decide +kernel
theorem dX2_endsBehind_23 : decode cX2_endsBehind 23 = .ok (.iload 5, 2) := by decide +kernel
theorem dX2_endsBehind_25 : decode cX2_endsBehind 25 = .ok (.invokevirtual 52, 3) := by decide +kernel
theorem dX2_endsBehind_28 : decode cX2_endsBehind 28 = .ok (.iload_n 3, 1) := by decide +kernel
theorem dX2_endsBehind_29 : decode cX2_endsBehind 29 = .ok (.if_icmp .ne 63, 3) := by decide +kernel
theorem dX2_endsBehind_32 : decode cX2_endsBehind 32 = .ok (.iload 4, 2) := by decide +kernel
theorem dX2_endsBehind_34 : decode cX2_endsBehind 34 = .ok (.iload_n 2, 1) := by decide +kernel
theorem dX2_endsBehind_35 : decode cX2_endsBehind 35 = .ok (.aload_n 0, 1) := by decide +kernel
theorem dX2_endsBehind_36 : decode cX2_endsBehind 36 = .ok (.getfield 34, 3) := by decide +kernel
theorem dX2_endsBehind_39 : decode cX2_endsBehind 39 = .ok (.getfield 56, 3) := by decide +kernel
theorem dX2_endsBehind_42 : decode cX2_endsBehind 42 = .ok (.iload 5, 2) := by decide +kernel
theorem dX2_endsBehind_44 : decode cX2_endsBehind 44 = .ok (.iaload, 1) := by decide +kernel
theorem dX2_endsBehind_45 : decode cX2_endsBehind 45 = .ok (.ishr, 1) := by decide +kernel
theorem dX2_endsBehind_46 : decode cX2_endsBehind 46 = .ok (.iconst 1, 1) := by decide +kernel
theorem dX2_endsBehind_47 : decode cX2_endsBehind 47 = .ok (.iand, 1) := by decide +kernel
theorem dX2_endsBehind_48 : decode cX2_endsBehind 48 = .ok (.aload_n 0, 1) := by decide +kernel
theorem dX2_endsBehind_49 : decode cX2_endsBehind 49 = .ok (.getfield 34, 3) := by decide +kernel
theorem dX2_endsBehind_52 : decode cX2_endsBehind 52 = .ok (.getfield 59, 3) := by decide +kernel
theorem dX2_endsBehind_55 : decode cX2_endsBehind 55 = .ok (.iload 5, 2) := by decide +kernel
theorem dX2_endsBehind_57 : decode cX2_endsBehind 57 = .ok (.iaload, 1) := by decide +kernel
theorem dX2_endsBehind_58 : decode cX2_endsBehind 58 = .ok (.ishl, 1) := by decide +kernel
theorem dX2_endsBehind_59 : decode cX2_endsBehind 59 = .ok (.ior, 1) := by decide +kernel
theorem dX2_endsBehind_60 : decode cX2_endsBehind 60 = .ok (.istore 4, 2) := by decide +kernel
theorem dX2_endsBehind_62 : decode cX2_endsBehind 62 = .ok (.iload 4, 2) := by decide +kernel
theorem dX2_endsBehind_64 : decode cX2_endsBehind 64 = .ok (.iload_n 2, 1) := by decide +kernel
theorem dX2_endsBehind_65 : decode cX2_endsBehind 65 = .ok (.aload_n 0, 1) := by decide +kernel
theorem dX2_endsBehind_66 : decode cX2_endsBehind 66 = .ok (.getfield 34, 3) := by decide +kernel
theorem dX2_endsBehind_69 : decode cX2_endsBehind 69 = .ok (.getfield 59, 3) := by decide +kernel
theorem dX2_endsBehind_72 : decode cX2_endsBehind 72 = .ok (.iload 5, 2) := by decide +kernel
theorem dX2_endsBehind_74 : decode cX2_endsBehind 74 = .ok (.iaload, 1) := by decide +kernel
theorem dX2_endsBehind_75 : decode cX2_endsBehind 75 = .ok (.ishr, 1) := by decide +kernel
theorem dX2_endsBehind_76 : decode cX2_endsBehind 76 = .ok (.iconst 1, 1) := by decide +kernel
theorem dX2_endsBehind_77 : decode cX2_endsBehind 77 = .ok (.iand, 1) := by decide +kernel
theorem dX2_endsBehind_78 : decode cX2_endsBehind 78 = .ok (.aload_n 0, 1) := by decide +kernel
theorem dX2_endsBehind_79 : decode cX2_endsBehind 79 = .ok (.getfield 34, 3) := by decide +kernel
theorem dX2_endsBehind_82 : decode cX2_endsBehind 82 = .ok (.getfield 56, 3) := by decide +kernel
theorem dX2_endsBehind_85 : decode cX2_endsBehind 85 = .ok (.iload 5, 2) := by decide +kernel
theorem dX2_endsBehind_87 : decode cX2_endsBehind 87 = .ok (.iaload, 1) := by decide +kernel
theorem dX2_endsBehind_88 : decode cX2_endsBehind 88 = .ok (.ishl, 1) := by decide +kernel
theorem dX2_endsBehind_89 : decode cX2_endsBehind 89 = .ok (.ior, 1) := by decide +kernel
theorem dX2_endsBehind_90 : decode cX2_endsBehind 90 = .ok (.istore 4, 2) := by decide +kernel
theorem dX2_endsBehind_92 : decode cX2_endsBehind 92 = .ok (.iinc 5 1, 3) := by decide +kernel
theorem dX2_endsBehind_95 : decode cX2_endsBehind 95 = .ok (.goto (-89), 3) := by decide +kernel
theorem dX2_endsBehind_98 : decode cX2_endsBehind 98 = .ok (.iload 4, 2) := by decide +kernel
theorem dX2_endsBehind_100 : decode cX2_endsBehind 100 = .ok (.ireturn, 1) := by decide +kernel
theorem dX2_kindsThatCan_0 : decode cX2_kindsThatCan 0 = .ok (.iconst 0, 1) := by decide +kernel
theorem dX2_kindsThatCan_1 : decode cX2_kindsThatCan 1 = .ok (.istore_n 1, 1) := by decide +kernel
theorem dX2_kindsThatCan_2 : decode cX2_kindsThatCan 2 = .ok (.iconst 0, 1) := by decide +kernel
theorem dX2_kindsThatCan_3 : decode cX2_kindsThatCan 3 = .ok (.istore_n 2, 1) := by decide +kernel
theorem dX2_kindsThatCan_4 : decode cX2_kindsThatCan 4 = .ok (.iload_n 2, 1) := by decide +kernel
theorem dX2_kindsThatCan_5 : decode cX2_kindsThatCan 5 = .ok (.aload_n 0, 1) := by decide +kernel
theorem dX2_kindsThatCan_6 : decode cX2_kindsThatCan 6 = .ok (.getfield 34, 3) := by decide +kernel
theorem dX2_kindsThatCan_9 : decode cX2_kindsThatCan 9 = .ok (.getfield 66, 3) := by decide +kernel
theorem dX2_kindsThatCan_12 : decode cX2_kindsThatCan 12 = .ok (.if_icmp .ge 23, 3) := by decide +kernel
theorem dX2_kindsThatCan_15 : decode cX2_kindsThatCan 15 = .ok (.aload_n 0, 1) := by decide +kernel
theorem dX2_kindsThatCan_16 : decode cX2_kindsThatCan 16 = .ok (.iload_n 2, 1) := by decide +kernel
theorem dX2_kindsThatCan_17 : decode cX2_kindsThatCan 17 = .ok (.invokevirtual 69, 3) := by decide +kernel
theorem dX2_kindsThatCan_20 : decode cX2_kindsThatCan 20 = .ok (.ifCond .eq 9, 3) := by decide +kernel
theorem dX2_kindsThatCan_23 : decode cX2_kindsThatCan 23 = .ok (.iload_n 1, 1) := by decide +kernel
theorem dX2_kindsThatCan_24 : decode cX2_kindsThatCan 24 = .ok (.iconst 1, 1) := by decide +kernel
theorem dX2_kindsThatCan_25 : decode cX2_kindsThatCan 25 = .ok (.iload_n 2, 1) := by decide +kernel
theorem dX2_kindsThatCan_26 : decode cX2_kindsThatCan 26 = .ok (.ishl, 1) := by decide +kernel
theorem dX2_kindsThatCan_27 : decode cX2_kindsThatCan 27 = .ok (.ior, 1) := by decide +kernel
theorem dX2_kindsThatCan_28 : decode cX2_kindsThatCan 28 = .ok (.istore_n 1, 1) := by decide +kernel
theorem dX2_kindsThatCan_29 : decode cX2_kindsThatCan 29 = .ok (.iinc 2 1, 3) := by decide +kernel
theorem dX2_kindsThatCan_32 : decode cX2_kindsThatCan 32 = .ok (.goto (-28), 3) := by decide +kernel
theorem dX2_kindsThatCan_35 : decode cX2_kindsThatCan 35 = .ok (.iload_n 1, 1) := by decide +kernel
theorem dX2_kindsThatCan_36 : decode cX2_kindsThatCan 36 = .ok (.ireturn, 1) := by decide +kernel
theorem dX2_fenceToWatch_0 : decode cX2_fenceToWatch 0 = .ok (.iconst 0, 1) := by decide +kernel
theorem dX2_fenceToWatch_1 : decode cX2_fenceToWatch 1 = .ok (.istore_n 1, 1) := by decide +kernel
theorem dX2_fenceToWatch_2 : decode cX2_fenceToWatch 2 = .ok (.iload_n 1, 1) := by decide +kernel
theorem dX2_fenceToWatch_3 : decode cX2_fenceToWatch 3 = .ok (.aload_n 0, 1) := by decide +kernel
theorem dX2_fenceToWatch_4 : decode cX2_fenceToWatch 4 = .ok (.getfield 34, 3) := by decide +kernel
theorem dX2_fenceToWatch_7 : decode cX2_fenceToWatch 7 = .ok (.getfield 66, 3) := by decide +kernel
theorem dX2_fenceToWatch_10 : decode cX2_fenceToWatch 10 = .ok (.if_icmp .ge 20, 3) := by decide +kernel
theorem dX2_fenceToWatch_13 : decode cX2_fenceToWatch 13 = .ok (.aload_n 0, 1) := by decide +kernel
theorem dX2_fenceToWatch_14 : decode cX2_fenceToWatch 14 = .ok (.getfield 15, 3) := by decide +kernel
theorem dX2_fenceToWatch_17 : decode cX2_fenceToWatch 17 = .ok (.iload_n 1, 1) := by decide +kernel
theorem dX2_fenceToWatch_18 : decode cX2_fenceToWatch 18 = .ok (.aload_n 0, 1) := by decide +kernel
theorem dX2_fenceToWatch_19 : decode cX2_fenceToWatch 19 = .ok (.iload_n 1, 1) := by decide +kernel
theorem dX2_fenceToWatch_20 : decode cX2_fenceToWatch 20 = .ok (.invokevirtual 69, 3) := by decide +kernel
theorem dX2_fenceToWatch_23 : decode cX2_fenceToWatch 23 = .ok (.iastore, 1) := by decide +kernel
theorem dX2_fenceToWatch_24 : decode cX2_fenceToWatch 24 = .ok (.iinc 1 1, 3) := by decide +kernel
theorem dX2_fenceToWatch_27 : decode cX2_fenceToWatch 27 = .ok (.goto (-25), 3) := by decide +kernel
theorem dX2_fenceToWatch_30 : decode cX2_fenceToWatch 30 = .ok (.bipush (-9), 2) := by decide +kernel
theorem dX2_fenceToWatch_32 : decode cX2_fenceToWatch 32 = .ok (.istore_n 1, 1) := by decide +kernel
theorem dX2_fenceToWatch_33 : decode cX2_fenceToWatch 33 = .ok (.iconst 5, 1) := by decide +kernel
theorem dX2_fenceToWatch_34 : decode cX2_fenceToWatch 34 = .ok (.istore_n 2, 1) := by decide +kernel
theorem dX2_fenceToWatch_35 : decode cX2_fenceToWatch 35 = .ok (.iconst 0, 1) := by decide +kernel
theorem dX2_fenceToWatch_36 : decode cX2_fenceToWatch 36 = .ok (.istore_n 3, 1) := by decide +kernel
theorem dX2_fenceToWatch_37 : decode cX2_fenceToWatch 37 = .ok (.iload_n 3, 1) := by decide +kernel
theorem dX2_fenceToWatch_38 : decode cX2_fenceToWatch 38 = .ok (.aload_n 0, 1) := by decide +kernel
theorem dX2_fenceToWatch_39 : decode cX2_fenceToWatch 39 = .ok (.getfield 34, 3) := by decide +kernel
theorem dX2_fenceToWatch_42 : decode cX2_fenceToWatch 42 = .ok (.getfield 49, 3) := by decide +kernel
theorem dX2_fenceToWatch_45 : decode cX2_fenceToWatch 45 = .ok (.if_icmp .ge 32, 3) := by decide +kernel
theorem dX2_fenceToWatch_48 : decode cX2_fenceToWatch 48 = .ok (.aload_n 0, 1) := by decide +kernel
theorem dX2_fenceToWatch_49 : decode cX2_fenceToWatch 49 = .ok (.iload_n 3, 1) := by decide +kernel
theorem dX2_fenceToWatch_50 : decode cX2_fenceToWatch 50 = .ok (.invokevirtual 73, 3) := by decide +kernel
theorem dX2_fenceToWatch_53 : decode cX2_fenceToWatch 53 = .ok (.istore 4, 2) := by decide +kernel
theorem dX2_fenceToWatch_55 : decode cX2_fenceToWatch 55 = .ok (.iload 4, 2) := by decide +kernel
theorem dX2_fenceToWatch_57 : decode cX2_fenceToWatch 57 = .ok (.ifCond .le 14, 3) := by decide +kernel
theorem dX2_fenceToWatch_60 : decode cX2_fenceToWatch 60 = .ok (.iload 4, 2) := by decide +kernel
theorem dX2_fenceToWatch_62 : decode cX2_fenceToWatch 62 = .ok (.iload_n 2, 1) := by decide +kernel
theorem dX2_fenceToWatch_63 : decode cX2_fenceToWatch 63 = .ok (.if_icmp .ge 8, 3) := by decide +kernel
theorem dX2_fenceToWatch_66 : decode cX2_fenceToWatch 66 = .ok (.iload 4, 2) := by decide +kernel
theorem dX2_fenceToWatch_68 : decode cX2_fenceToWatch 68 = .ok (.istore_n 2, 1) := by decide +kernel
theorem dX2_fenceToWatch_69 : decode cX2_fenceToWatch 69 = .ok (.iload_n 3, 1) := by decide +kernel
theorem dX2_fenceToWatch_70 : decode cX2_fenceToWatch 70 = .ok (.istore_n 1, 1) := by decide +kernel
theorem dX2_fenceToWatch_71 : decode cX2_fenceToWatch 71 = .ok (.iinc 3 1, 3) := by decide +kernel
theorem dX2_fenceToWatch_74 : decode cX2_fenceToWatch 74 = .ok (.goto (-37), 3) := by decide +kernel
theorem dX2_fenceToWatch_77 : decode cX2_fenceToWatch 77 = .ok (.iload_n 1, 1) := by decide +kernel
theorem dX2_fenceToWatch_78 : decode cX2_fenceToWatch 78 = .ok (.ireturn, 1) := by decide +kernel
theorem dX2_greatestCrowd_0 : decode cX2_greatestCrowd 0 = .ok (.iconst 0, 1) := by decide +kernel
theorem dX2_greatestCrowd_1 : decode cX2_greatestCrowd 1 = .ok (.istore_n 2, 1) := by decide +kernel
theorem dX2_greatestCrowd_2 : decode cX2_greatestCrowd 2 = .ok (.iconst 0, 1) := by decide +kernel
theorem dX2_greatestCrowd_3 : decode cX2_greatestCrowd 3 = .ok (.istore_n 3, 1) := by decide +kernel
theorem dX2_greatestCrowd_4 : decode cX2_greatestCrowd 4 = .ok (.iload_n 3, 1) := by decide +kernel
theorem dX2_greatestCrowd_5 : decode cX2_greatestCrowd 5 = .ok (.aload_n 0, 1) := by decide +kernel
theorem dX2_greatestCrowd_6 : decode cX2_greatestCrowd 6 = .ok (.getfield 34, 3) := by decide +kernel
theorem dX2_greatestCrowd_9 : decode cX2_greatestCrowd 9 = .ok (.getfield 66, 3) := by decide +kernel
theorem dX2_greatestCrowd_12 : decode cX2_greatestCrowd 12 = .ok (.if_icmp .ge 84, 3) := by decide +kernel
theorem dX2_greatestCrowd_15 : decode cX2_greatestCrowd 15 = .ok (.iconst 0, 1) := by decide +kernel
theorem dX2_greatestCrowd_16 : decode cX2_greatestCrowd 16 = .ok (.istore 4, 2) := by decide +kernel
theorem dX2_greatestCrowd_18 : decode cX2_greatestCrowd 18 = .ok (.iconst 0, 1) := by decide +kernel
theorem dX2_greatestCrowd_19 : decode cX2_greatestCrowd 19 = .ok (.istore 5, 2) := by decide +kernel
theorem dX2_greatestCrowd_21 : decode cX2_greatestCrowd 21 = .ok (.iload 5, 2) := by decide +kernel
theorem dX2_greatestCrowd_23 : decode cX2_greatestCrowd 23 = .ok (.aload_n 0, 1) := by decide +kernel
theorem dX2_greatestCrowd_24 : decode cX2_greatestCrowd 24 = .ok (.getfield 34, 3) := by decide +kernel
theorem dX2_greatestCrowd_27 : decode cX2_greatestCrowd 27 = .ok (.getfield 66, 3) := by decide +kernel
theorem dX2_greatestCrowd_30 : decode cX2_greatestCrowd 30 = .ok (.if_icmp .ge 53, 3) := by decide +kernel
theorem dX2_greatestCrowd_33 : decode cX2_greatestCrowd 33 = .ok (.aload_n 0, 1) := by decide +kernel
theorem dX2_greatestCrowd_34 : decode cX2_greatestCrowd 34 = .ok (.iload_n 3, 1) := by decide +kernel
theorem dX2_greatestCrowd_35 : decode cX2_greatestCrowd 35 = .ok (.iload_n 1, 1) := by decide +kernel
theorem dX2_greatestCrowd_36 : decode cX2_greatestCrowd 36 = .ok (.invokevirtual 76, 3) := by decide +kernel
theorem dX2_greatestCrowd_39 : decode cX2_greatestCrowd 39 = .ok (.ifCond .eq 38, 3) := by decide +kernel
theorem dX2_greatestCrowd_42 : decode cX2_greatestCrowd 42 = .ok (.aload_n 0, 1) := by decide +kernel
theorem dX2_greatestCrowd_43 : decode cX2_greatestCrowd 43 = .ok (.iload 5, 2) := by decide +kernel
theorem dX2_greatestCrowd_45 : decode cX2_greatestCrowd 45 = .ok (.iload_n 1, 1) := by decide +kernel
theorem dX2_greatestCrowd_46 : decode cX2_greatestCrowd 46 = .ok (.invokevirtual 76, 3) := by decide +kernel
theorem dX2_greatestCrowd_49 : decode cX2_greatestCrowd 49 = .ok (.ifCond .eq 28, 3) := by decide +kernel
theorem dX2_greatestCrowd_52 : decode cX2_greatestCrowd 52 = .ok (.aload_n 0, 1) := by decide +kernel
theorem dX2_greatestCrowd_53 : decode cX2_greatestCrowd 53 = .ok (.getfield 24, 3) := by decide +kernel
theorem dX2_greatestCrowd_56 : decode cX2_greatestCrowd 56 = .ok (.iload_n 3, 1) := by decide +kernel
theorem dX2_greatestCrowd_57 : decode cX2_greatestCrowd 57 = .ok (.iload_n 1, 1) := by decide +kernel
theorem dX2_greatestCrowd_58 : decode cX2_greatestCrowd 58 = .ok (.invokevirtual 52, 3) := by decide +kernel
theorem dX2_greatestCrowd_61 : decode cX2_greatestCrowd 61 = .ok (.aload_n 0, 1) := by decide +kernel
theorem dX2_greatestCrowd_62 : decode cX2_greatestCrowd 62 = .ok (.getfield 24, 3) := by decide +kernel
theorem dX2_greatestCrowd_65 : decode cX2_greatestCrowd 65 = .ok (.iload 5, 2) := by decide +kernel
theorem dX2_greatestCrowd_67 : decode cX2_greatestCrowd 67 = .ok (.iload_n 1, 1) := by decide +kernel
theorem dX2_greatestCrowd_68 : decode cX2_greatestCrowd 68 = .ok (.invokevirtual 52, 3) := by decide +kernel
theorem dX2_greatestCrowd_71 : decode cX2_greatestCrowd 71 = .ok (.if_icmp .ne 6, 3) := by decide +kernel
theorem dX2_greatestCrowd_74 : decode cX2_greatestCrowd 74 = .ok (.iinc 4 1, 3) := by decide +kernel
theorem dX2_greatestCrowd_77 : decode cX2_greatestCrowd 77 = .ok (.iinc 5 1, 3) := by decide +kernel
theorem dX2_greatestCrowd_80 : decode cX2_greatestCrowd 80 = .ok (.goto (-59), 3) := by decide +kernel
theorem dX2_greatestCrowd_83 : decode cX2_greatestCrowd 83 = .ok (.iload_n 2, 1) := by decide +kernel
theorem dX2_greatestCrowd_84 : decode cX2_greatestCrowd 84 = .ok (.iload 4, 2) := by decide +kernel
theorem dX2_greatestCrowd_86 : decode cX2_greatestCrowd 86 = .ok (.invokestatic 80, 3) := by decide +kernel
theorem dX2_greatestCrowd_89 : decode cX2_greatestCrowd 89 = .ok (.istore_n 2, 1) := by decide +kernel
theorem dX2_greatestCrowd_90 : decode cX2_greatestCrowd 90 = .ok (.iinc 3 1, 3) := by decide +kernel
theorem dX2_greatestCrowd_93 : decode cX2_greatestCrowd 93 = .ok (.goto (-89), 3) := by decide +kernel
theorem dX2_greatestCrowd_96 : decode cX2_greatestCrowd 96 = .ok (.iload_n 2, 1) := by decide +kernel
theorem dX2_greatestCrowd_97 : decode cX2_greatestCrowd 97 = .ok (.ireturn, 1) := by decide +kernel
theorem dX2_comesTo_0 : decode cX2_comesTo 0 = .ok (.aload_n 0, 1) := by decide +kernel
theorem dX2_comesTo_1 : decode cX2_comesTo 1 = .ok (.getfield 15, 3) := by decide +kernel
theorem dX2_comesTo_4 : decode cX2_comesTo 4 = .ok (.iload_n 1, 1) := by decide +kernel
theorem dX2_comesTo_5 : decode cX2_comesTo 5 = .ok (.iaload, 1) := by decide +kernel
theorem dX2_comesTo_6 : decode cX2_comesTo 6 = .ok (.aload_n 0, 1) := by decide +kernel
theorem dX2_comesTo_7 : decode cX2_comesTo 7 = .ok (.getfield 34, 3) := by decide +kernel
theorem dX2_comesTo_10 : decode cX2_comesTo 10 = .ok (.iload_n 2, 1) := by decide +kernel
theorem dX2_comesTo_11 : decode cX2_comesTo 11 = .ok (.invokevirtual 85, 3) := by decide +kernel
theorem dX2_comesTo_14 : decode cX2_comesTo 14 = .ok (.iand, 1) := by decide +kernel
theorem dX2_comesTo_15 : decode cX2_comesTo 15 = .ok (.ifCond .eq 7, 3) := by decide +kernel
theorem dX2_comesTo_18 : decode cX2_comesTo 18 = .ok (.iconst 1, 1) := by decide +kernel
theorem dX2_comesTo_19 : decode cX2_comesTo 19 = .ok (.goto 4, 3) := by decide +kernel
theorem dX2_comesTo_22 : decode cX2_comesTo 22 = .ok (.iconst 0, 1) := by decide +kernel
theorem dX2_comesTo_23 : decode cX2_comesTo 23 = .ok (.ireturn, 1) := by decide +kernel
theorem dX3_init_0 : decode cX3_init 0 = .ok (.aload_n 0, 1) := by decide +kernel
theorem dX3_init_1 : decode cX3_init 1 = .ok (.invokespecial 1, 3) := by decide +kernel
theorem dX3_init_4 : decode cX3_init 4 = .ok (.aload_n 0, 1) := by decide +kernel
theorem dX3_init_5 : decode cX3_init 5 = .ok (.new 7, 3) := by decide +kernel
theorem dX3_init_8 : decode cX3_init 8 = .ok (.dup, 1) := by decide +kernel
theorem dX3_init_9 : decode cX3_init 9 = .ok (.invokespecial 9, 3) := by decide +kernel
theorem dX3_init_12 : decode cX3_init 12 = .ok (.putfield 10, 3) := by decide +kernel
theorem dX3_init_15 : decode cX3_init 15 = .ok (.aload_n 0, 1) := by decide +kernel
theorem dX3_init_16 : decode cX3_init 16 = .ok (.new 16, 3) := by decide +kernel
theorem dX3_init_19 : decode cX3_init 19 = .ok (.dup, 1) := by decide +kernel
theorem dX3_init_20 : decode cX3_init 20 = .ok (.invokespecial 18, 3) := by decide +kernel
theorem dX3_init_23 : decode cX3_init 23 = .ok (.putfield 19, 3) := by decide +kernel
theorem dX3_init_26 : decode cX3_init 26 = .ok (.return_, 1) := by decide +kernel
theorem dX3_take_0 : decode cX3_take 0 = .ok (.aload_n 0, 1) := by decide +kernel
theorem dX3_take_1 : decode cX3_take 1 = .ok (.getfield 10, 3) := by decide +kernel
theorem dX3_take_4 : decode cX3_take 4 = .ok (.aload_n 1, 1) := by decide +kernel
theorem dX3_take_5 : decode cX3_take 5 = .ok (.invokevirtual 23, 3) := by decide +kernel
theorem dX3_take_8 : decode cX3_take 8 = .ok (.aload_n 0, 1) := by decide +kernel
theorem dX3_take_9 : decode cX3_take 9 = .ok (.getfield 19, 3) := by decide +kernel
theorem dX3_take_12 : decode cX3_take 12 = .ok (.aload_n 2, 1) := by decide +kernel
theorem dX3_take_13 : decode cX3_take 13 = .ok (.invokevirtual 27, 3) := by decide +kernel
theorem dX3_take_16 : decode cX3_take 16 = .ok (.aload_n 0, 1) := by decide +kernel
theorem dX3_take_17 : decode cX3_take 17 = .ok (.iconst 1, 1) := by decide +kernel
theorem dX3_take_18 : decode cX3_take 18 = .ok (.putfield 30, 3) := by decide +kernel
theorem dX3_take_21 : decode cX3_take 21 = .ok (.return_, 1) := by decide +kernel
theorem dX3_give_0 : decode cX3_give 0 = .ok (.aload_n 1, 1) := by decide +kernel
theorem dX3_give_1 : decode cX3_give 1 = .ok (.aload_n 0, 1) := by decide +kernel
theorem dX3_give_2 : decode cX3_give 2 = .ok (.getfield 10, 3) := by decide +kernel
theorem dX3_give_5 : decode cX3_give 5 = .ok (.invokevirtual 23, 3) := by decide +kernel
theorem dX3_give_8 : decode cX3_give 8 = .ok (.aload_n 2, 1) := by decide +kernel
theorem dX3_give_9 : decode cX3_give 9 = .ok (.aload_n 0, 1) := by decide +kernel
theorem dX3_give_10 : decode cX3_give 10 = .ok (.getfield 19, 3) := by decide +kernel
theorem dX3_give_13 : decode cX3_give 13 = .ok (.invokevirtual 27, 3) := by decide +kernel
theorem dX3_give_16 : decode cX3_give 16 = .ok (.return_, 1) := by decide +kernel
theorem dX4_init_0 : decode cX4_init 0 = .ok (.aload_n 0, 1) := by decide +kernel
theorem dX4_init_1 : decode cX4_init 1 = .ok (.invokespecial 3, 3) := by decide +kernel
theorem dX4_init_4 : decode cX4_init 4 = .ok (.aload_n 0, 1) := by decide +kernel
theorem dX4_init_5 : decode cX4_init 5 = .ok (.bipush 8, 2) := by decide +kernel
theorem dX4_init_7 : decode cX4_init 7 = .ok (.newarray .int, 2) := by decide +kernel
theorem dX4_init_9 : decode cX4_init 9 = .ok (.putfield 9, 3) := by decide +kernel
theorem dX4_init_12 : decode cX4_init 12 = .ok (.aload_n 0, 1) := by decide +kernel
theorem dX4_init_13 : decode cX4_init 13 = .ok (.bipush 8, 2) := by decide +kernel
theorem dX4_init_15 : decode cX4_init 15 = .ok (.newarray .int, 2) := by decide +kernel
theorem dX4_init_17 : decode cX4_init 17 = .ok (.putfield 15, 3) := by decide +kernel
theorem dX4_init_20 : decode cX4_init 20 = .ok (.aload_n 0, 1) := by decide +kernel
theorem dX4_init_21 : decode cX4_init 21 = .ok (.bipush 8, 2) := by decide +kernel
theorem dX4_init_23 : decode cX4_init 23 = .ok (.newarray .int, 2) := by decide +kernel
theorem dX4_init_25 : decode cX4_init 25 = .ok (.putfield 18, 3) := by decide +kernel
theorem dX4_init_28 : decode cX4_init 28 = .ok (.aload_n 0, 1) := by decide +kernel
theorem dX4_init_29 : decode cX4_init 29 = .ok (.iconst 4, 1) := by decide +kernel
theorem dX4_init_30 : decode cX4_init 30 = .ok (.newarray .int, 2) := by decide +kernel
theorem dX4_init_32 : decode cX4_init 32 = .ok (.putfield 21, 3) := by decide +kernel
theorem dX4_init_35 : decode cX4_init 35 = .ok (.aload_n 0, 1) := by decide +kernel
theorem dX4_init_36 : decode cX4_init 36 = .ok (.iconst 4, 1) := by decide +kernel
theorem dX4_init_37 : decode cX4_init 37 = .ok (.newarray .int, 2) := by decide +kernel
theorem dX4_init_39 : decode cX4_init 39 = .ok (.putfield 24, 3) := by decide +kernel
theorem dX4_init_42 : decode cX4_init 42 = .ok (.aload_n 0, 1) := by decide +kernel
theorem dX4_init_43 : decode cX4_init 43 = .ok (.bipush 6, 2) := by decide +kernel
theorem dX4_init_45 : decode cX4_init 45 = .ok (.newarray .int, 2) := by decide +kernel
theorem dX4_init_47 : decode cX4_init 47 = .ok (.putfield 27, 3) := by decide +kernel
theorem dX4_init_50 : decode cX4_init 50 = .ok (.aload_n 0, 1) := by decide +kernel
theorem dX4_init_51 : decode cX4_init 51 = .ok (.bipush 6, 2) := by decide +kernel
theorem dX4_init_53 : decode cX4_init 53 = .ok (.newarray .int, 2) := by decide +kernel
theorem dX4_init_55 : decode cX4_init 55 = .ok (.putfield 30, 3) := by decide +kernel
theorem dX4_init_58 : decode cX4_init 58 = .ok (.return_, 1) := by decide +kernel
theorem dX4_begin_0 : decode cX4_begin 0 = .ok (.aload_n 0, 1) := by decide +kernel
theorem dX4_begin_1 : decode cX4_begin 1 = .ok (.iconst 2, 1) := by decide +kernel
theorem dX4_begin_2 : decode cX4_begin 2 = .ok (.putfield 33, 3) := by decide +kernel
theorem dX4_begin_5 : decode cX4_begin 5 = .ok (.aload_n 0, 1) := by decide +kernel
theorem dX4_begin_6 : decode cX4_begin 6 = .ok (.iconst 0, 1) := by decide +kernel
theorem dX4_begin_7 : decode cX4_begin 7 = .ok (.putfield 37, 3) := by decide +kernel
theorem dX4_begin_10 : decode cX4_begin 10 = .ok (.aload_n 0, 1) := by decide +kernel
theorem dX4_begin_11 : decode cX4_begin 11 = .ok (.iconst 0, 1) := by decide +kernel
theorem dX4_begin_12 : decode cX4_begin 12 = .ok (.putfield 40, 3) := by decide +kernel
theorem dX4_begin_15 : decode cX4_begin 15 = .ok (.aload_n 0, 1) := by decide +kernel
theorem dX4_begin_16 : decode cX4_begin 16 = .ok (.iconst 0, 1) := by decide +kernel
theorem dX4_begin_17 : decode cX4_begin 17 = .ok (.putfield 43, 3) := by decide +kernel
theorem dX4_begin_20 : decode cX4_begin 20 = .ok (.aload_n 0, 1) := by decide +kernel
theorem dX4_begin_21 : decode cX4_begin 21 = .ok (.iconst 0, 1) := by decide +kernel
theorem dX4_begin_22 : decode cX4_begin 22 = .ok (.putfield 46, 3) := by decide +kernel
theorem dX4_begin_25 : decode cX4_begin 25 = .ok (.return_, 1) := by decide +kernel
theorem dX4_copyFrom_0 : decode cX4_copyFrom 0 = .ok (.aload_n 0, 1) := by decide +kernel
theorem dX4_copyFrom_1 : decode cX4_copyFrom 1 = .ok (.aload_n 1, 1) := by decide +kernel
theorem dX4_copyFrom_2 : decode cX4_copyFrom 2 = .ok (.getfield 33, 3) := by decide +kernel
theorem dX4_copyFrom_5 : decode cX4_copyFrom 5 = .ok (.putfield 33, 3) := by decide +kernel
theorem dX4_copyFrom_8 : decode cX4_copyFrom 8 = .ok (.aload_n 0, 1) := by decide +kernel
theorem dX4_copyFrom_9 : decode cX4_copyFrom 9 = .ok (.aload_n 1, 1) := by decide +kernel
theorem dX4_copyFrom_10 : decode cX4_copyFrom 10 = .ok (.getfield 37, 3) := by decide +kernel
theorem dX4_copyFrom_13 : decode cX4_copyFrom 13 = .ok (.putfield 37, 3) := by decide +kernel
theorem dX4_copyFrom_16 : decode cX4_copyFrom 16 = .ok (.aload_n 0, 1) := by decide +kernel
theorem dX4_copyFrom_17 : decode cX4_copyFrom 17 = .ok (.aload_n 1, 1) := by decide +kernel
theorem dX4_copyFrom_18 : decode cX4_copyFrom 18 = .ok (.getfield 40, 3) := by decide +kernel
theorem dX4_copyFrom_21 : decode cX4_copyFrom 21 = .ok (.putfield 40, 3) := by decide +kernel
theorem dX4_copyFrom_24 : decode cX4_copyFrom 24 = .ok (.aload_n 0, 1) := by decide +kernel
theorem dX4_copyFrom_25 : decode cX4_copyFrom 25 = .ok (.aload_n 1, 1) := by decide +kernel
theorem dX4_copyFrom_26 : decode cX4_copyFrom 26 = .ok (.getfield 43, 3) := by decide +kernel
theorem dX4_copyFrom_29 : decode cX4_copyFrom 29 = .ok (.putfield 43, 3) := by decide +kernel
theorem dX4_copyFrom_32 : decode cX4_copyFrom 32 = .ok (.aload_n 0, 1) := by decide +kernel
theorem dX4_copyFrom_33 : decode cX4_copyFrom 33 = .ok (.aload_n 1, 1) := by decide +kernel
theorem dX4_copyFrom_34 : decode cX4_copyFrom 34 = .ok (.getfield 46, 3) := by decide +kernel
theorem dX4_copyFrom_37 : decode cX4_copyFrom 37 = .ok (.putfield 46, 3) := by decide +kernel
theorem dX4_copyFrom_40 : decode cX4_copyFrom 40 = .ok (.aload_n 1, 1) := by decide +kernel
theorem dX4_copyFrom_41 : decode cX4_copyFrom 41 = .ok (.getfield 9, 3) := by decide +kernel
theorem dX4_copyFrom_44 : decode cX4_copyFrom 44 = .ok (.iconst 0, 1) := by decide +kernel
theorem dX4_copyFrom_45 : decode cX4_copyFrom 45 = .ok (.aload_n 0, 1) := by decide +kernel
theorem dX4_copyFrom_46 : decode cX4_copyFrom 46 = .ok (.getfield 9, 3) := by decide +kernel
theorem dX4_copyFrom_49 : decode cX4_copyFrom 49 = .ok (.iconst 0, 1) := by decide +kernel
theorem dX4_copyFrom_50 : decode cX4_copyFrom 50 = .ok (.bipush 8, 2) := by decide +kernel
theorem dX4_copyFrom_52 : decode cX4_copyFrom 52 = .ok (.invokestatic 49, 3) := by decide +kernel
theorem dX4_copyFrom_55 : decode cX4_copyFrom 55 = .ok (.aload_n 1, 1) := by decide +kernel
theorem dX4_copyFrom_56 : decode cX4_copyFrom 56 = .ok (.getfield 15, 3) := by decide +kernel
theorem dX4_copyFrom_59 : decode cX4_copyFrom 59 = .ok (.iconst 0, 1) := by decide +kernel
theorem dX4_copyFrom_60 : decode cX4_copyFrom 60 = .ok (.aload_n 0, 1) := by decide +kernel
theorem dX4_copyFrom_61 : decode cX4_copyFrom 61 = .ok (.getfield 15, 3) := by decide +kernel
theorem dX4_copyFrom_64 : decode cX4_copyFrom 64 = .ok (.iconst 0, 1) := by decide +kernel
theorem dX4_copyFrom_65 : decode cX4_copyFrom 65 = .ok (.bipush 8, 2) := by decide +kernel
theorem dX4_copyFrom_67 : decode cX4_copyFrom 67 = .ok (.invokestatic 49, 3) := by decide +kernel
theorem dX4_copyFrom_70 : decode cX4_copyFrom 70 = .ok (.aload_n 1, 1) := by decide +kernel
theorem dX4_copyFrom_71 : decode cX4_copyFrom 71 = .ok (.getfield 18, 3) := by decide +kernel
theorem dX4_copyFrom_74 : decode cX4_copyFrom 74 = .ok (.iconst 0, 1) := by decide +kernel
theorem dX4_copyFrom_75 : decode cX4_copyFrom 75 = .ok (.aload_n 0, 1) := by decide +kernel
theorem dX4_copyFrom_76 : decode cX4_copyFrom 76 = .ok (.getfield 18, 3) := by decide +kernel
theorem dX4_copyFrom_79 : decode cX4_copyFrom 79 = .ok (.iconst 0, 1) := by decide +kernel
theorem dX4_copyFrom_80 : decode cX4_copyFrom 80 = .ok (.bipush 8, 2) := by decide +kernel
theorem dX4_copyFrom_82 : decode cX4_copyFrom 82 = .ok (.invokestatic 49, 3) := by decide +kernel
theorem dX4_copyFrom_85 : decode cX4_copyFrom 85 = .ok (.aload_n 1, 1) := by decide +kernel
theorem dX4_copyFrom_86 : decode cX4_copyFrom 86 = .ok (.getfield 21, 3) := by decide +kernel
theorem dX4_copyFrom_89 : decode cX4_copyFrom 89 = .ok (.iconst 0, 1) := by decide +kernel
theorem dX4_copyFrom_90 : decode cX4_copyFrom 90 = .ok (.aload_n 0, 1) := by decide +kernel
theorem dX4_copyFrom_91 : decode cX4_copyFrom 91 = .ok (.getfield 21, 3) := by decide +kernel
theorem dX4_copyFrom_94 : decode cX4_copyFrom 94 = .ok (.iconst 0, 1) := by decide +kernel
theorem dX4_copyFrom_95 : decode cX4_copyFrom 95 = .ok (.iconst 4, 1) := by decide +kernel
theorem dX4_copyFrom_96 : decode cX4_copyFrom 96 = .ok (.invokestatic 49, 3) := by decide +kernel
theorem dX4_copyFrom_99 : decode cX4_copyFrom 99 = .ok (.aload_n 1, 1) := by decide +kernel
theorem dX4_copyFrom_100 : decode cX4_copyFrom 100 = .ok (.getfield 24, 3) := by decide +kernel
theorem dX4_copyFrom_103 : decode cX4_copyFrom 103 = .ok (.iconst 0, 1) := by decide +kernel
theorem dX4_copyFrom_104 : decode cX4_copyFrom 104 = .ok (.aload_n 0, 1) := by decide +kernel
theorem dX4_copyFrom_105 : decode cX4_copyFrom 105 = .ok (.getfield 24, 3) := by decide +kernel
theorem dX4_copyFrom_108 : decode cX4_copyFrom 108 = .ok (.iconst 0, 1) := by decide +kernel
theorem dX4_copyFrom_109 : decode cX4_copyFrom 109 = .ok (.iconst 4, 1) := by decide +kernel
theorem dX4_copyFrom_110 : decode cX4_copyFrom 110 = .ok (.invokestatic 49, 3) := by decide +kernel
theorem dX4_copyFrom_113 : decode cX4_copyFrom 113 = .ok (.aload_n 1, 1) := by decide +kernel
theorem dX4_copyFrom_114 : decode cX4_copyFrom 114 = .ok (.getfield 27, 3) := by decide +kernel
theorem dX4_copyFrom_117 : decode cX4_copyFrom 117 = .ok (.iconst 0, 1) := by decide +kernel
theorem dX4_copyFrom_118 : decode cX4_copyFrom 118 = .ok (.aload_n 0, 1) := by decide +kernel
theorem dX4_copyFrom_119 : decode cX4_copyFrom 119 = .ok (.getfield 27, 3) := by decide +kernel
theorem dX4_copyFrom_122 : decode cX4_copyFrom 122 = .ok (.iconst 0, 1) := by decide +kernel
theorem dX4_copyFrom_123 : decode cX4_copyFrom 123 = .ok (.bipush 6, 2) := by decide +kernel
theorem dX4_copyFrom_125 : decode cX4_copyFrom 125 = .ok (.invokestatic 49, 3) := by decide +kernel
theorem dX4_copyFrom_128 : decode cX4_copyFrom 128 = .ok (.aload_n 1, 1) := by decide +kernel
theorem dX4_copyFrom_129 : decode cX4_copyFrom 129 = .ok (.getfield 30, 3) := by decide +kernel
theorem dX4_copyFrom_132 : decode cX4_copyFrom 132 = .ok (.iconst 0, 1) := by decide +kernel
theorem dX4_copyFrom_133 : decode cX4_copyFrom 133 = .ok (.aload_n 0, 1) := by decide +kernel
theorem dX4_copyFrom_134 : decode cX4_copyFrom 134 = .ok (.getfield 30, 3) := by decide +kernel
theorem dX4_copyFrom_137 : decode cX4_copyFrom 137 = .ok (.iconst 0, 1) := by decide +kernel
theorem dX4_copyFrom_138 : decode cX4_copyFrom 138 = .ok (.bipush 6, 2) := by decide +kernel
theorem dX4_copyFrom_140 : decode cX4_copyFrom 140 = .ok (.invokestatic 49, 3) := by decide +kernel
theorem dX4_copyFrom_143 : decode cX4_copyFrom 143 = .ok (.return_, 1) := by decide +kernel
theorem dX4_isAt_0 : decode cX4_isAt 0 = .ok (.aload_n 0, 1) := by decide +kernel
theorem dX4_isAt_1 : decode cX4_isAt 1 = .ok (.getfield 9, 3) := by decide +kernel
theorem dX4_isAt_4 : decode cX4_isAt 4 = .ok (.iload_n 1, 1) := by decide +kernel
theorem dX4_isAt_5 : decode cX4_isAt 5 = .ok (.iaload, 1) := by decide +kernel
theorem dX4_isAt_6 : decode cX4_isAt 6 = .ok (.iload_n 2, 1) := by decide +kernel
theorem dX4_isAt_7 : decode cX4_isAt 7 = .ok (.if_icmp .eq 13, 3) := by decide +kernel
theorem dX4_isAt_10 : decode cX4_isAt 10 = .ok (.aload_n 0, 1) := by decide +kernel
theorem dX4_isAt_11 : decode cX4_isAt 11 = .ok (.getfield 15, 3) := by decide +kernel
theorem dX4_isAt_14 : decode cX4_isAt 14 = .ok (.iload_n 1, 1) := by decide +kernel
theorem dX4_isAt_15 : decode cX4_isAt 15 = .ok (.iaload, 1) := by decide +kernel
theorem dX4_isAt_16 : decode cX4_isAt 16 = .ok (.iload_n 2, 1) := by decide +kernel
theorem dX4_isAt_17 : decode cX4_isAt 17 = .ok (.if_icmp .ne 7, 3) := by decide +kernel
theorem dX4_isAt_20 : decode cX4_isAt 20 = .ok (.iconst 1, 1) := by decide +kernel
theorem dX4_isAt_21 : decode cX4_isAt 21 = .ok (.goto 4, 3) := by decide +kernel
theorem dX4_isAt_24 : decode cX4_isAt 24 = .ok (.iconst 0, 1) := by decide +kernel
theorem dX4_isAt_25 : decode cX4_isAt 25 = .ok (.ireturn, 1) := by decide +kernel
theorem dX4_across_0 : decode cX4_across 0 = .ok (.aload_n 0, 1) := by decide +kernel
theorem dX4_across_1 : decode cX4_across 1 = .ok (.getfield 9, 3) := by decide +kernel
theorem dX4_across_4 : decode cX4_across 4 = .ok (.iload_n 1, 1) := by decide +kernel
theorem dX4_across_5 : decode cX4_across 5 = .ok (.iaload, 1) := by decide +kernel
theorem dX4_across_6 : decode cX4_across 6 = .ok (.iload_n 2, 1) := by decide +kernel
theorem dX4_across_7 : decode cX4_across 7 = .ok (.if_icmp .ne 12, 3) := by decide +kernel
theorem dX4_across_10 : decode cX4_across 10 = .ok (.aload_n 0, 1) := by decide +kernel
theorem dX4_across_11 : decode cX4_across 11 = .ok (.getfield 15, 3) := by decide +kernel
theorem dX4_across_14 : decode cX4_across 14 = .ok (.iload_n 1, 1) := by decide +kernel
theorem dX4_across_15 : decode cX4_across 15 = .ok (.iaload, 1) := by decide +kernel
theorem dX4_across_16 : decode cX4_across 16 = .ok (.goto 9, 3) := by decide +kernel
theorem dX4_across_19 : decode cX4_across 19 = .ok (.aload_n 0, 1) := by decide +kernel
theorem dX4_across_20 : decode cX4_across 20 = .ok (.getfield 9, 3) := by decide +kernel
theorem dX4_across_23 : decode cX4_across 23 = .ok (.iload_n 1, 1) := by decide +kernel
theorem dX4_across_24 : decode cX4_across 24 = .ok (.iaload, 1) := by decide +kernel
theorem dX4_across_25 : decode cX4_across 25 = .ok (.ireturn, 1) := by decide +kernel
theorem dX4_endBits_0 : decode cX4_endBits 0 = .ok (.iconst 1, 1) := by decide +kernel
theorem dX4_endBits_1 : decode cX4_endBits 1 = .ok (.aload_n 0, 1) := by decide +kernel
theorem dX4_endBits_2 : decode cX4_endBits 2 = .ok (.getfield 9, 3) := by decide +kernel
theorem dX4_endBits_5 : decode cX4_endBits 5 = .ok (.iload_n 1, 1) := by decide +kernel
theorem dX4_endBits_6 : decode cX4_endBits 6 = .ok (.iaload, 1) := by decide +kernel
theorem dX4_endBits_7 : decode cX4_endBits 7 = .ok (.ishl, 1) := by decide +kernel
theorem dX4_endBits_8 : decode cX4_endBits 8 = .ok (.iconst 1, 1) := by decide +kernel
theorem dX4_endBits_9 : decode cX4_endBits 9 = .ok (.aload_n 0, 1) := by decide +kernel
theorem dX4_endBits_10 : decode cX4_endBits 10 = .ok (.getfield 15, 3) := by decide +kernel
theorem dX4_endBits_13 : decode cX4_endBits 13 = .ok (.iload_n 1, 1) := by decide +kernel
theorem dX4_endBits_14 : decode cX4_endBits 14 = .ok (.iaload, 1) := by decide +kernel
theorem dX4_endBits_15 : decode cX4_endBits 15 = .ok (.ishl, 1) := by decide +kernel
theorem dX4_endBits_16 : decode cX4_endBits 16 = .ok (.ior, 1) := by decide +kernel
theorem dX4_endBits_17 : decode cX4_endBits 17 = .ok (.ireturn, 1) := by decide +kernel
theorem dX5_init_0 : decode cX5_init 0 = .ok (.aload_n 0, 1) := by decide +kernel
theorem dX5_init_1 : decode cX5_init 1 = .ok (.invokespecial 3, 3) := by decide +kernel
theorem dX5_init_4 : decode cX5_init 4 = .ok (.aload_n 0, 1) := by decide +kernel
theorem dX5_init_5 : decode cX5_init 5 = .ok (.bipush 10, 2) := by decide +kernel
theorem dX5_init_7 : decode cX5_init 7 = .ok (.anewarray 9, 3) := by decide +kernel
theorem dX5_init_10 : decode cX5_init 10 = .ok (.putfield 11, 3) := by decide +kernel
theorem dX5_init_13 : decode cX5_init 13 = .ok (.iconst 0, 1) := by decide +kernel
theorem dX5_init_14 : decode cX5_init 14 = .ok (.istore_n 1, 1) := by decide +kernel
theorem dX5_init_15 : decode cX5_init 15 = .ok (.iload_n 1, 1) := by decide +kernel
theorem dX5_init_16 : decode cX5_init 16 = .ok (.bipush 10, 2) := by decide +kernel
theorem dX5_init_18 : decode cX5_init 18 = .ok (.if_icmp .ge 22, 3) := by decide +kernel
theorem dX5_init_21 : decode cX5_init 21 = .ok (.aload_n 0, 1) := by decide +kernel
theorem dX5_init_22 : decode cX5_init 22 = .ok (.getfield 11, 3) := by decide +kernel
theorem dX5_init_25 : decode cX5_init 25 = .ok (.iload_n 1, 1) := by decide +kernel
theorem dX5_init_26 : decode cX5_init 26 = .ok (.new 9, 3) := by decide +kernel
theorem dX5_init_29 : decode cX5_init 29 = .ok (.dup, 1) := by decide +kernel
theorem dX5_init_30 : decode cX5_init 30 = .ok (.invokespecial 17, 3) := by decide +kernel
theorem dX5_init_33 : decode cX5_init 33 = .ok (.aastore, 1) := by decide +kernel
theorem dX5_init_34 : decode cX5_init 34 = .ok (.iinc 1 1, 3) := by decide +kernel
theorem dX5_init_37 : decode cX5_init 37 = .ok (.goto (-22), 3) := by decide +kernel
theorem dX5_init_40 : decode cX5_init 40 = .ok (.return_, 1) := by decide +kernel
theorem dX5_note_0 : decode cX5_note 0 = .ok (.aload_n 0, 1) := by decide +kernel
theorem dX5_note_1 : decode cX5_note 1 = .ok (.aload_n 0, 1) := by decide +kernel
theorem dX5_note_2 : decode cX5_note 2 = .ok (.getfield 18, 3) := by decide +kernel
theorem dX5_note_5 : decode cX5_note 5 = .ok (.iconst 1, 1) := by decide +kernel
theorem dX5_note_6 : decode cX5_note 6 = .ok (.iadd, 1) := by decide +kernel
theorem dX5_note_7 : decode cX5_note 7 = .ok (.bipush 10, 2) := by decide +kernel
theorem dX5_note_9 : decode cX5_note 9 = .ok (.if_icmp .ge 12, 3) := by decide +kernel
theorem dX5_note_12 : decode cX5_note 12 = .ok (.aload_n 0, 1) := by decide +kernel
theorem dX5_note_13 : decode cX5_note 13 = .ok (.getfield 18, 3) := by decide +kernel
theorem dX5_note_16 : decode cX5_note 16 = .ok (.iconst 1, 1) := by decide +kernel
theorem dX5_note_17 : decode cX5_note 17 = .ok (.iadd, 1) := by decide +kernel
theorem dX5_note_18 : decode cX5_note 18 = .ok (.goto 4, 3) := by decide +kernel
theorem dX5_note_21 : decode cX5_note 21 = .ok (.iconst 0, 1) := by decide +kernel
theorem dX5_note_22 : decode cX5_note 22 = .ok (.putfield 18, 3) := by decide +kernel
theorem dX5_note_25 : decode cX5_note 25 = .ok (.aload_n 0, 1) := by decide +kernel
theorem dX5_note_26 : decode cX5_note 26 = .ok (.getfield 11, 3) := by decide +kernel
theorem dX5_note_29 : decode cX5_note 29 = .ok (.aload_n 0, 1) := by decide +kernel
theorem dX5_note_30 : decode cX5_note 30 = .ok (.getfield 18, 3) := by decide +kernel
theorem dX5_note_33 : decode cX5_note 33 = .ok (.aaload, 1) := by decide +kernel
theorem dX5_note_34 : decode cX5_note 34 = .ok (.aload_n 1, 1) := by decide +kernel
theorem dX5_note_35 : decode cX5_note 35 = .ok (.invokevirtual 22, 3) := by decide +kernel
theorem dX5_note_38 : decode cX5_note 38 = .ok (.aload_n 0, 1) := by decide +kernel
theorem dX5_note_39 : decode cX5_note 39 = .ok (.bipush 10, 2) := by decide +kernel
theorem dX5_note_41 : decode cX5_note 41 = .ok (.aload_n 0, 1) := by decide +kernel
theorem dX5_note_42 : decode cX5_note 42 = .ok (.getfield 26, 3) := by decide +kernel
theorem dX5_note_45 : decode cX5_note 45 = .ok (.iconst 1, 1) := by decide +kernel
theorem dX5_note_46 : decode cX5_note 46 = .ok (.iadd, 1) := by decide +kernel
theorem dX5_note_47 : decode cX5_note 47 = .ok (.invokestatic 29, 3) := by decide +kernel
theorem dX5_note_50 : decode cX5_note 50 = .ok (.putfield 26, 3) := by decide +kernel
theorem dX5_note_53 : decode cX5_note 53 = .ok (.return_, 1) := by decide +kernel
theorem dX5_restore_0 : decode cX5_restore 0 = .ok (.aload_n 1, 1) := by decide +kernel
theorem dX5_restore_1 : decode cX5_restore 1 = .ok (.aload_n 0, 1) := by decide +kernel
theorem dX5_restore_2 : decode cX5_restore 2 = .ok (.getfield 11, 3) := by decide +kernel
theorem dX5_restore_5 : decode cX5_restore 5 = .ok (.aload_n 0, 1) := by decide +kernel
theorem dX5_restore_6 : decode cX5_restore 6 = .ok (.getfield 18, 3) := by decide +kernel
theorem dX5_restore_9 : decode cX5_restore 9 = .ok (.aaload, 1) := by decide +kernel
theorem dX5_restore_10 : decode cX5_restore 10 = .ok (.invokevirtual 22, 3) := by decide +kernel
theorem dX5_restore_13 : decode cX5_restore 13 = .ok (.aload_n 0, 1) := by decide +kernel
theorem dX5_restore_14 : decode cX5_restore 14 = .ok (.aload_n 0, 1) := by decide +kernel
theorem dX5_restore_15 : decode cX5_restore 15 = .ok (.getfield 18, 3) := by decide +kernel
theorem dX5_restore_18 : decode cX5_restore 18 = .ok (.ifCond .le 12, 3) := by decide +kernel
theorem dX5_restore_21 : decode cX5_restore 21 = .ok (.aload_n 0, 1) := by decide +kernel
theorem dX5_restore_22 : decode cX5_restore 22 = .ok (.getfield 18, 3) := by decide +kernel
theorem dX5_restore_25 : decode cX5_restore 25 = .ok (.iconst 1, 1) := by decide +kernel
theorem dX5_restore_26 : decode cX5_restore 26 = .ok (.isub, 1) := by decide +kernel
theorem dX5_restore_27 : decode cX5_restore 27 = .ok (.goto 5, 3) := by decide +kernel
theorem dX5_restore_30 : decode cX5_restore 30 = .ok (.bipush 9, 2) := by decide +kernel
theorem dX5_restore_32 : decode cX5_restore 32 = .ok (.putfield 18, 3) := by decide +kernel
theorem dX5_restore_35 : decode cX5_restore 35 = .ok (.aload_n 0, 1) := by decide +kernel
theorem dX5_restore_36 : decode cX5_restore 36 = .ok (.iconst 0, 1) := by decide +kernel
theorem dX5_restore_37 : decode cX5_restore 37 = .ok (.aload_n 0, 1) := by decide +kernel
theorem dX5_restore_38 : decode cX5_restore 38 = .ok (.getfield 26, 3) := by decide +kernel
theorem dX5_restore_41 : decode cX5_restore 41 = .ok (.iconst 1, 1) := by decide +kernel
theorem dX5_restore_42 : decode cX5_restore 42 = .ok (.isub, 1) := by decide +kernel
theorem dX5_restore_43 : decode cX5_restore 43 = .ok (.invokestatic 35, 3) := by decide +kernel
theorem dX5_restore_46 : decode cX5_restore 46 = .ok (.putfield 26, 3) := by decide +kernel
theorem dX5_restore_49 : decode cX5_restore 49 = .ok (.return_, 1) := by decide +kernel
theorem dX5_copyFrom_0 : decode cX5_copyFrom 0 = .ok (.iconst 0, 1) := by decide +kernel
theorem dX5_copyFrom_1 : decode cX5_copyFrom 1 = .ok (.istore_n 2, 1) := by decide +kernel
theorem dX5_copyFrom_2 : decode cX5_copyFrom 2 = .ok (.iload_n 2, 1) := by decide +kernel
theorem dX5_copyFrom_3 : decode cX5_copyFrom 3 = .ok (.bipush 10, 2) := by decide +kernel
theorem dX5_copyFrom_5 : decode cX5_copyFrom 5 = .ok (.if_icmp .ge 24, 3) := by decide +kernel
theorem dX5_copyFrom_8 : decode cX5_copyFrom 8 = .ok (.aload_n 0, 1) := by decide +kernel
theorem dX5_copyFrom_9 : decode cX5_copyFrom 9 = .ok (.getfield 11, 3) := by decide +kernel
theorem dX5_copyFrom_12 : decode cX5_copyFrom 12 = .ok (.iload_n 2, 1) := by decide +kernel
theorem dX5_copyFrom_13 : decode cX5_copyFrom 13 = .ok (.aaload, 1) := by decide +kernel
theorem dX5_copyFrom_14 : decode cX5_copyFrom 14 = .ok (.aload_n 1, 1) := by decide +kernel
theorem dX5_copyFrom_15 : decode cX5_copyFrom 15 = .ok (.getfield 11, 3) := by decide +kernel
theorem dX5_copyFrom_18 : decode cX5_copyFrom 18 = .ok (.iload_n 2, 1) := by decide +kernel
theorem dX5_copyFrom_19 : decode cX5_copyFrom 19 = .ok (.aaload, 1) := by decide +kernel
theorem dX5_copyFrom_20 : decode cX5_copyFrom 20 = .ok (.invokevirtual 22, 3) := by decide +kernel
theorem dX5_copyFrom_23 : decode cX5_copyFrom 23 = .ok (.iinc 2 1, 3) := by decide +kernel
theorem dX5_copyFrom_26 : decode cX5_copyFrom 26 = .ok (.goto (-24), 3) := by decide +kernel
theorem dX5_copyFrom_29 : decode cX5_copyFrom 29 = .ok (.aload_n 0, 1) := by decide +kernel
theorem dX5_copyFrom_30 : decode cX5_copyFrom 30 = .ok (.aload_n 1, 1) := by decide +kernel
theorem dX5_copyFrom_31 : decode cX5_copyFrom 31 = .ok (.getfield 18, 3) := by decide +kernel
theorem dX5_copyFrom_34 : decode cX5_copyFrom 34 = .ok (.putfield 18, 3) := by decide +kernel
theorem dX5_copyFrom_37 : decode cX5_copyFrom 37 = .ok (.aload_n 0, 1) := by decide +kernel
theorem dX5_copyFrom_38 : decode cX5_copyFrom 38 = .ok (.aload_n 1, 1) := by decide +kernel
theorem dX5_copyFrom_39 : decode cX5_copyFrom 39 = .ok (.getfield 26, 3) := by decide +kernel
theorem dX5_copyFrom_42 : decode cX5_copyFrom 42 = .ok (.putfield 26, 3) := by decide +kernel
theorem dX5_copyFrom_45 : decode cX5_copyFrom 45 = .ok (.return_, 1) := by decide +kernel
theorem dX6_init_0 : decode cX6_init 0 = .ok (.aload_n 0, 1) := by decide +kernel
theorem dX6_init_1 : decode cX6_init 1 = .ok (.invokespecial 3, 3) := by decide +kernel
theorem dX6_init_4 : decode cX6_init 4 = .ok (.aload_n 0, 1) := by decide +kernel
theorem dX6_init_5 : decode cX6_init 5 = .ok (.bipush 8, 2) := by decide +kernel
theorem dX6_init_7 : decode cX6_init 7 = .ok (.newarray .int, 2) := by decide +kernel
theorem dX6_init_9 : decode cX6_init 9 = .ok (.putfield 9, 3) := by decide +kernel
theorem dX6_init_12 : decode cX6_init 12 = .ok (.aload_n 0, 1) := by decide +kernel
theorem dX6_init_13 : decode cX6_init 13 = .ok (.bipush 8, 2) := by decide +kernel
theorem dX6_init_15 : decode cX6_init 15 = .ok (.newarray .int, 2) := by decide +kernel
theorem dX6_init_17 : decode cX6_init 17 = .ok (.putfield 15, 3) := by decide +kernel
theorem dX6_init_20 : decode cX6_init 20 = .ok (.aload_n 0, 1) := by decide +kernel
theorem dX6_init_21 : decode cX6_init 21 = .ok (.aload_n 1, 1) := by decide +kernel
theorem dX6_init_22 : decode cX6_init 22 = .ok (.putfield 18, 3) := by decide +kernel
theorem dX6_init_25 : decode cX6_init 25 = .ok (.aload_n 0, 1) := by decide +kernel
theorem dX6_init_26 : decode cX6_init 26 = .ok (.aload_n 1, 1) := by decide +kernel
theorem dX6_init_27 : decode cX6_init 27 = .ok (.getfield 22, 3) := by decide +kernel
theorem dX6_init_30 : decode cX6_init 30 = .ok (.putfield 28, 3) := by decide +kernel
theorem dX6_init_33 : decode cX6_init 33 = .ok (.return_, 1) := by decide +kernel
theorem dX6_fewestHeard_0 : decode cX6_fewestHeard 0 = .ok (.aload_n 0, 1) := by decide +kernel
theorem dX6_fewestHeard_1 : decode cX6_fewestHeard 1 = .ok (.iload_n 1, 1) := by decide +kernel
theorem dX6_fewestHeard_2 : decode cX6_fewestHeard 2 = .ok (.iload_n 3, 1) := by decide +kernel
theorem dX6_fewestHeard_3 : decode cX6_fewestHeard 3 = .ok (.invokevirtual 29, 3) := by decide +kernel
theorem dX6_fewestHeard_6 : decode cX6_fewestHeard 6 = .ok (.aload_n 0, 1) := by decide +kernel
theorem dX6_fewestHeard_7 : decode cX6_fewestHeard 7 = .ok (.getfield 9, 3) := by decide +kernel
theorem dX6_fewestHeard_10 : decode cX6_fewestHeard 10 = .ok (.iload_n 2, 1) := by decide +kernel
theorem dX6_fewestHeard_11 : decode cX6_fewestHeard 11 = .ok (.iaload, 1) := by decide +kernel
theorem dX6_fewestHeard_12 : decode cX6_fewestHeard 12 = .ok (.ldc 33, 2) := by decide +kernel
theorem dX6_fewestHeard_14 : decode cX6_fewestHeard 14 = .ok (.if_icmp .lt 8, 3) := by decide +kernel
theorem dX6_fewestHeard_17 : decode cX6_fewestHeard 17 = .ok (.bipush (-9), 2) := by decide +kernel
theorem dX6_fewestHeard_19 : decode cX6_fewestHeard 19 = .ok (.goto 12, 3) := by decide +kernel
theorem dX6_fewestHeard_22 : decode cX6_fewestHeard 22 = .ok (.aload_n 0, 1) := by decide +kernel
theorem dX6_fewestHeard_23 : decode cX6_fewestHeard 23 = .ok (.getfield 9, 3) := by decide +kernel
theorem dX6_fewestHeard_26 : decode cX6_fewestHeard 26 = .ok (.iload_n 2, 1) := by decide +kernel
theorem dX6_fewestHeard_27 : decode cX6_fewestHeard 27 = .ok (.iaload, 1) := by decide +kernel
theorem dX6_fewestHeard_28 : decode cX6_fewestHeard 28 = .ok (.bipush 100, 2) := by decide +kernel
theorem dX6_fewestHeard_30 : decode cX6_fewestHeard 30 = .ok (.idiv, 1) := by decide +kernel
theorem dX6_fewestHeard_31 : decode cX6_fewestHeard 31 = .ok (.ireturn, 1) := by decide +kernel
theorem dX6_fewestCrossings_0 : decode cX6_fewestCrossings 0 = .ok (.aload_n 0, 1) := by decide +kernel
theorem dX6_fewestCrossings_1 : decode cX6_fewestCrossings 1 = .ok (.iload_n 1, 1) := by decide +kernel
theorem dX6_fewestCrossings_2 : decode cX6_fewestCrossings 2 = .ok (.iload_n 3, 1) := by decide +kernel
theorem dX6_fewestCrossings_3 : decode cX6_fewestCrossings 3 = .ok (.invokevirtual 29, 3) := by decide +kernel
theorem dX6_fewestCrossings_6 : decode cX6_fewestCrossings 6 = .ok (.aload_n 0, 1) := by decide +kernel
theorem dX6_fewestCrossings_7 : decode cX6_fewestCrossings 7 = .ok (.getfield 9, 3) := by decide +kernel
theorem dX6_fewestCrossings_10 : decode cX6_fewestCrossings 10 = .ok (.iload_n 2, 1) := by decide +kernel
theorem dX6_fewestCrossings_11 : decode cX6_fewestCrossings 11 = .ok (.iaload, 1) := by decide +kernel
theorem dX6_fewestCrossings_12 : decode cX6_fewestCrossings 12 = .ok (.ldc 33, 2) := by decide +kernel
theorem dX6_fewestCrossings_14 : decode cX6_fewestCrossings 14 = .ok (.if_icmp .lt 8, 3) := by decide +kernel
theorem dX6_fewestCrossings_17 : decode cX6_fewestCrossings 17 = .ok (.bipush (-9), 2) := by decide +kernel
theorem dX6_fewestCrossings_19 : decode cX6_fewestCrossings 19 = .ok (.goto 12, 3) := by decide +kernel
theorem dX6_fewestCrossings_22 : decode cX6_fewestCrossings 22 = .ok (.aload_n 0, 1) := by decide +kernel
theorem dX6_fewestCrossings_23 : decode cX6_fewestCrossings 23 = .ok (.getfield 9, 3) := by decide +kernel
theorem dX6_fewestCrossings_26 : decode cX6_fewestCrossings 26 = .ok (.iload_n 2, 1) := by decide +kernel
theorem dX6_fewestCrossings_27 : decode cX6_fewestCrossings 27 = .ok (.iaload, 1) := by decide +kernel
theorem dX6_fewestCrossings_28 : decode cX6_fewestCrossings 28 = .ok (.bipush 100, 2) := by decide +kernel
theorem dX6_fewestCrossings_30 : decode cX6_fewestCrossings 30 = .ok (.irem, 1) := by decide +kernel
theorem dX6_fewestCrossings_31 : decode cX6_fewestCrossings 31 = .ok (.ireturn, 1) := by decide +kernel
theorem dX6_firstFence_0 : decode cX6_firstFence 0 = .ok (.aload_n 0, 1) := by decide +kernel
theorem dX6_firstFence_1 : decode cX6_firstFence 1 = .ok (.iload_n 1, 1) := by decide +kernel
theorem dX6_firstFence_2 : decode cX6_firstFence 2 = .ok (.iload_n 3, 1) := by decide +kernel
theorem dX6_firstFence_3 : decode cX6_firstFence 3 = .ok (.invokevirtual 29, 3) := by decide +kernel
theorem dX6_firstFence_6 : decode cX6_firstFence 6 = .ok (.iload_n 2, 1) := by decide +kernel
theorem dX6_firstFence_7 : decode cX6_firstFence 7 = .ok (.iload_n 3, 1) := by decide +kernel
theorem dX6_firstFence_8 : decode cX6_firstFence 8 = .ok (.if_icmp .eq 14, 3) := by decide +kernel
theorem dX6_firstFence_11 : decode cX6_firstFence 11 = .ok (.aload_n 0, 1) := by decide +kernel
theorem dX6_firstFence_12 : decode cX6_firstFence 12 = .ok (.getfield 9, 3) := by decide +kernel
theorem dX6_firstFence_15 : decode cX6_firstFence 15 = .ok (.iload_n 2, 1) := by decide +kernel
theorem dX6_firstFence_16 : decode cX6_firstFence 16 = .ok (.iaload, 1) := by decide +kernel
theorem dX6_firstFence_17 : decode cX6_firstFence 17 = .ok (.ldc 33, 2) := by decide +kernel
theorem dX6_firstFence_19 : decode cX6_firstFence 19 = .ok (.if_icmp .lt 6, 3) := by decide +kernel
theorem dX6_firstFence_22 : decode cX6_firstFence 22 = .ok (.bipush (-9), 2) := by decide +kernel
theorem dX6_firstFence_24 : decode cX6_firstFence 24 = .ok (.ireturn, 1) := by decide +kernel
theorem dX6_firstFence_25 : decode cX6_firstFence 25 = .ok (.iconst 0, 1) := by decide +kernel
theorem dX6_firstFence_26 : decode cX6_firstFence 26 = .ok (.istore 4, 2) := by decide +kernel
theorem dX6_firstFence_28 : decode cX6_firstFence 28 = .ok (.iload 4, 2) := by decide +kernel
theorem dX6_firstFence_30 : decode cX6_firstFence 30 = .ok (.aload_n 0, 1) := by decide +kernel
theorem dX6_firstFence_31 : decode cX6_firstFence 31 = .ok (.getfield 28, 3) := by decide +kernel
theorem dX6_firstFence_34 : decode cX6_firstFence 34 = .ok (.getfield 34, 3) := by decide +kernel
theorem dX6_firstFence_37 : decode cX6_firstFence 37 = .ok (.if_icmp .ge 57, 3) := by decide +kernel
theorem dX6_firstFence_40 : decode cX6_firstFence 40 = .ok (.aload_n 0, 1) := by decide +kernel
theorem dX6_firstFence_41 : decode cX6_firstFence 41 = .ok (.getfield 28, 3) := by decide +kernel
theorem dX6_firstFence_44 : decode cX6_firstFence 44 = .ok (.iload 4, 2) := by decide +kernel
theorem dX6_firstFence_46 : decode cX6_firstFence 46 = .ok (.iload_n 2, 1) := by decide +kernel
theorem dX6_firstFence_47 : decode cX6_firstFence 47 = .ok (.invokevirtual 40, 3) := by decide +kernel
theorem dX6_firstFence_50 : decode cX6_firstFence 50 = .ok (.ifCond .eq 38, 3) := by decide +kernel
theorem dX6_firstFence_53 : decode cX6_firstFence 53 = .ok (.aload_n 0, 1) := by decide +kernel
theorem dX6_firstFence_54 : decode cX6_firstFence 54 = .ok (.getfield 9, 3) := by decide +kernel
theorem dX6_firstFence_57 : decode cX6_firstFence 57 = .ok (.iload_n 2, 1) := by decide +kernel
theorem dX6_firstFence_58 : decode cX6_firstFence 58 = .ok (.iaload, 1) := by decide +kernel
theorem dX6_firstFence_59 : decode cX6_firstFence 59 = .ok (.aload_n 0, 1) := by decide +kernel
theorem dX6_firstFence_60 : decode cX6_firstFence 60 = .ok (.getfield 9, 3) := by decide +kernel
theorem dX6_firstFence_63 : decode cX6_firstFence 63 = .ok (.aload_n 0, 1) := by decide +kernel
theorem dX6_firstFence_64 : decode cX6_firstFence 64 = .ok (.getfield 28, 3) := by decide +kernel
theorem dX6_firstFence_67 : decode cX6_firstFence 67 = .ok (.iload 4, 2) := by decide +kernel
theorem dX6_firstFence_69 : decode cX6_firstFence 69 = .ok (.iload_n 2, 1) := by decide +kernel
theorem dX6_firstFence_70 : decode cX6_firstFence 70 = .ok (.invokevirtual 44, 3) := by decide +kernel
theorem dX6_firstFence_73 : decode cX6_firstFence 73 = .ok (.iaload, 1) := by decide +kernel
theorem dX6_firstFence_74 : decode cX6_firstFence 74 = .ok (.aload_n 0, 1) := by decide +kernel
theorem dX6_firstFence_75 : decode cX6_firstFence 75 = .ok (.iload_n 1, 1) := by decide +kernel
theorem dX6_firstFence_76 : decode cX6_firstFence 76 = .ok (.iload 4, 2) := by decide +kernel
theorem dX6_firstFence_78 : decode cX6_firstFence 78 = .ok (.invokevirtual 48, 3) := by decide +kernel
theorem dX6_firstFence_81 : decode cX6_firstFence 81 = .ok (.iadd, 1) := by decide +kernel
theorem dX6_firstFence_82 : decode cX6_firstFence 82 = .ok (.if_icmp .ne 6, 3) := by decide +kernel
theorem dX6_firstFence_85 : decode cX6_firstFence 85 = .ok (.iload 4, 2) := by decide +kernel
theorem dX6_firstFence_87 : decode cX6_firstFence 87 = .ok (.ireturn, 1) := by decide +kernel
theorem dX6_firstFence_88 : decode cX6_firstFence 88 = .ok (.iinc 4 1, 3) := by decide +kernel
theorem dX6_firstFence_91 : decode cX6_firstFence 91 = .ok (.goto (-63), 3) := by decide +kernel
theorem dX6_firstFence_94 : decode cX6_firstFence 94 = .ok (.bipush (-9), 2) := by decide +kernel
theorem dX6_firstFence_96 : decode cX6_firstFence 96 = .ok (.ireturn, 1) := by decide +kernel
theorem dX6_costOf_0 : decode cX6_costOf 0 = .ok (.aload_n 0, 1) := by decide +kernel
theorem dX6_costOf_1 : decode cX6_costOf 1 = .ok (.getfield 18, 3) := by decide +kernel
theorem dX6_costOf_4 : decode cX6_costOf 4 = .ok (.iload_n 1, 1) := by decide +kernel
theorem dX6_costOf_5 : decode cX6_costOf 5 = .ok (.iload_n 2, 1) := by decide +kernel
theorem dX6_costOf_6 : decode cX6_costOf 6 = .ok (.invokevirtual 51, 3) := by decide +kernel
theorem dX6_costOf_9 : decode cX6_costOf 9 = .ok (.ifCond .le 8, 3) := by decide +kernel
theorem dX6_costOf_12 : decode cX6_costOf 12 = .ok (.bipush 101, 2) := by decide +kernel
theorem dX6_costOf_14 : decode cX6_costOf 14 = .ok (.goto 4, 3) := by decide +kernel
theorem dX6_costOf_17 : decode cX6_costOf 17 = .ok (.iconst 1, 1) := by decide +kernel
theorem dX6_costOf_18 : decode cX6_costOf 18 = .ok (.ireturn, 1) := by decide +kernel
theorem dX6_measure_0 : decode cX6_measure 0 = .ok (.iconst 0, 1) := by decide +kernel
theorem dX6_measure_1 : decode cX6_measure 1 = .ok (.istore_n 3, 1) := by decide +kernel
theorem dX6_measure_2 : decode cX6_measure 2 = .ok (.iload_n 3, 1) := by decide +kernel
theorem dX6_measure_3 : decode cX6_measure 3 = .ok (.aload_n 0, 1) := by decide +kernel
theorem dX6_measure_4 : decode cX6_measure 4 = .ok (.getfield 28, 3) := by decide +kernel
theorem dX6_measure_7 : decode cX6_measure 7 = .ok (.getfield 54, 3) := by decide +kernel
theorem dX6_measure_10 : decode cX6_measure 10 = .ok (.if_icmp .ge 26, 3) := by decide +kernel
theorem dX6_measure_13 : decode cX6_measure 13 = .ok (.aload_n 0, 1) := by decide +kernel
theorem dX6_measure_14 : decode cX6_measure 14 = .ok (.getfield 9, 3) := by decide +kernel
theorem dX6_measure_17 : decode cX6_measure 17 = .ok (.iload_n 3, 1) := by decide +kernel
theorem dX6_measure_18 : decode cX6_measure 18 = .ok (.iload_n 3, 1) := by decide +kernel
theorem dX6_measure_19 : decode cX6_measure 19 = .ok (.iload_n 2, 1) := by decide +kernel
theorem dX6_measure_20 : decode cX6_measure 20 = .ok (.if_icmp .ne 7, 3) := by decide +kernel
theorem dX6_measure_23 : decode cX6_measure 23 = .ok (.iconst 0, 1) := by decide +kernel
theorem dX6_measure_24 : decode cX6_measure 24 = .ok (.goto 5, 3) := by decide +kernel
theorem dX6_measure_27 : decode cX6_measure 27 = .ok (.ldc 33, 2) := by decide +kernel
theorem dX6_measure_29 : decode cX6_measure 29 = .ok (.iastore, 1) := by decide +kernel
theorem dX6_measure_30 : decode cX6_measure 30 = .ok (.iinc 3 1, 3) := by decide +kernel
theorem dX6_measure_33 : decode cX6_measure 33 = .ok (.goto (-31), 3) := by decide +kernel
theorem dX6_measure_36 : decode cX6_measure 36 = .ok (.iconst 1, 1) := by decide +kernel
theorem dX6_measure_37 : decode cX6_measure 37 = .ok (.istore_n 3, 1) := by decide +kernel
theorem dX6_measure_38 : decode cX6_measure 38 = .ok (.iload_n 3, 1) := by decide +kernel
theorem dX6_measure_39 : decode cX6_measure 39 = .ok (.aload_n 0, 1) := by decide +kernel
theorem dX6_measure_40 : decode cX6_measure 40 = .ok (.getfield 28, 3) := by decide +kernel
theorem dX6_measure_43 : decode cX6_measure 43 = .ok (.getfield 54, 3) := by decide +kernel
theorem dX6_measure_46 : decode cX6_measure 46 = .ok (.if_icmp .ge 117, 3) := by decide +kernel
theorem dX6_measure_49 : decode cX6_measure 49 = .ok (.iconst 0, 1) := by decide +kernel
theorem dX6_measure_50 : decode cX6_measure 50 = .ok (.istore 4, 2) := by decide +kernel
theorem dX6_measure_52 : decode cX6_measure 52 = .ok (.iload 4, 2) := by decide +kernel
theorem dX6_measure_54 : decode cX6_measure 54 = .ok (.aload_n 0, 1) := by decide +kernel
theorem dX6_measure_55 : decode cX6_measure 55 = .ok (.getfield 28, 3) := by decide +kernel
theorem dX6_measure_58 : decode cX6_measure 58 = .ok (.getfield 34, 3) := by decide +kernel
theorem dX6_measure_61 : decode cX6_measure 61 = .ok (.if_icmp .ge 96, 3) := by decide +kernel
theorem dX6_measure_64 : decode cX6_measure 64 = .ok (.aload_n 0, 1) := by decide +kernel
theorem dX6_measure_65 : decode cX6_measure 65 = .ok (.getfield 28, 3) := by decide +kernel
theorem dX6_measure_68 : decode cX6_measure 68 = .ok (.getfield 57, 3) := by decide +kernel
theorem dX6_measure_71 : decode cX6_measure 71 = .ok (.iload 4, 2) := by decide +kernel
theorem dX6_measure_73 : decode cX6_measure 73 = .ok (.iaload, 1) := by decide +kernel
theorem dX6_measure_74 : decode cX6_measure 74 = .ok (.istore 5, 2) := by decide +kernel
theorem dX6_measure_76 : decode cX6_measure 76 = .ok (.aload_n 0, 1) := by decide +kernel
theorem dX6_measure_77 : decode cX6_measure 77 = .ok (.getfield 28, 3) := by decide +kernel
theorem dX6_measure_80 : decode cX6_measure 80 = .ok (.getfield 60, 3) := by decide +kernel
theorem dX6_measure_83 : decode cX6_measure 83 = .ok (.iload 4, 2) := by decide +kernel
theorem dX6_measure_85 : decode cX6_measure 85 = .ok (.iaload, 1) := by decide +kernel
theorem dX6_measure_86 : decode cX6_measure 86 = .ok (.istore 6, 2) := by decide +kernel
theorem dX6_measure_88 : decode cX6_measure 88 = .ok (.aload_n 0, 1) := by decide +kernel
theorem dX6_measure_89 : decode cX6_measure 89 = .ok (.iload_n 1, 1) := by decide +kernel
theorem dX6_measure_90 : decode cX6_measure 90 = .ok (.iload 4, 2) := by decide +kernel
theorem dX6_measure_92 : decode cX6_measure 92 = .ok (.invokevirtual 48, 3) := by decide +kernel
theorem dX6_measure_95 : decode cX6_measure 95 = .ok (.istore 7, 2) := by decide +kernel
theorem dX6_measure_97 : decode cX6_measure 97 = .ok (.aload_n 0, 1) := by decide +kernel
theorem dX6_measure_98 : decode cX6_measure 98 = .ok (.getfield 9, 3) := by decide +kernel
theorem dX6_measure_101 : decode cX6_measure 101 = .ok (.iload 5, 2) := by decide +kernel
theorem dX6_measure_103 : decode cX6_measure 103 = .ok (.aload_n 0, 1) := by decide +kernel
theorem dX6_measure_104 : decode cX6_measure 104 = .ok (.getfield 9, 3) := by decide +kernel
theorem dX6_measure_107 : decode cX6_measure 107 = .ok (.iload 5, 2) := by decide +kernel
theorem dX6_measure_109 : decode cX6_measure 109 = .ok (.iaload, 1) := by decide +kernel
theorem dX6_measure_110 : decode cX6_measure 110 = .ok (.aload_n 0, 1) := by decide +kernel
theorem dX6_measure_111 : decode cX6_measure 111 = .ok (.getfield 9, 3) := by decide +kernel
theorem dX6_measure_114 : decode cX6_measure 114 = .ok (.iload 6, 2) := by decide +kernel
theorem dX6_measure_116 : decode cX6_measure 116 = .ok (.iaload, 1) := by decide +kernel
theorem dX6_measure_117 : decode cX6_measure 117 = .ok (.iload 7, 2) := by decide +kernel
theorem dX6_measure_119 : decode cX6_measure 119 = .ok (.iadd, 1) := by decide +kernel
theorem dX6_measure_120 : decode cX6_measure 120 = .ok (.invokestatic 63, 3) := by decide +kernel
theorem dX6_measure_123 : decode cX6_measure 123 = .ok (.iastore, 1) := by decide +kernel
theorem dX6_measure_124 : decode cX6_measure 124 = .ok (.aload_n 0, 1) := by decide +kernel
theorem dX6_measure_125 : decode cX6_measure 125 = .ok (.getfield 9, 3) := by decide +kernel
theorem dX6_measure_128 : decode cX6_measure 128 = .ok (.iload 6, 2) := by decide +kernel
theorem dX6_measure_130 : decode cX6_measure 130 = .ok (.aload_n 0, 1) := by decide +kernel
theorem dX6_measure_131 : decode cX6_measure 131 = .ok (.getfield 9, 3) := by decide +kernel
theorem dX6_measure_134 : decode cX6_measure 134 = .ok (.iload 6, 2) := by decide +kernel
theorem dX6_measure_136 : decode cX6_measure 136 = .ok (.iaload, 1) := by decide +kernel
theorem dX6_measure_137 : decode cX6_measure 137 = .ok (.aload_n 0, 1) := by decide +kernel
theorem dX6_measure_138 : decode cX6_measure 138 = .ok (.getfield 9, 3) := by decide +kernel
theorem dX6_measure_141 : decode cX6_measure 141 = .ok (.iload 5, 2) := by decide +kernel
theorem dX6_measure_143 : decode cX6_measure 143 = .ok (.iaload, 1) := by decide +kernel
theorem dX6_measure_144 : decode cX6_measure 144 = .ok (.iload 7, 2) := by decide +kernel
theorem dX6_measure_146 : decode cX6_measure 146 = .ok (.iadd, 1) := by decide +kernel
theorem dX6_measure_147 : decode cX6_measure 147 = .ok (.invokestatic 63, 3) := by decide +kernel
theorem dX6_measure_150 : decode cX6_measure 150 = .ok (.iastore, 1) := by decide +kernel
theorem dX6_measure_151 : decode cX6_measure 151 = .ok (.iinc 4 1, 3) := by decide +kernel
theorem dX6_measure_154 : decode cX6_measure 154 = .ok (.goto (-102), 3) := by decide +kernel
theorem dX6_measure_157 : decode cX6_measure 157 = .ok (.iinc 3 1, 3) := by decide +kernel
theorem dX6_measure_160 : decode cX6_measure 160 = .ok (.goto (-122), 3) := by decide +kernel
theorem dX6_measure_163 : decode cX6_measure 163 = .ok (.return_, 1) := by decide +kernel
theorem dX6_frostParts_0 : decode cX6_frostParts 0 = .ok (.aload_n 0, 1) := by decide +kernel
theorem dX6_frostParts_1 : decode cX6_frostParts 1 = .ok (.iconst 0, 1) := by decide +kernel
theorem dX6_frostParts_2 : decode cX6_frostParts 2 = .ok (.putfield 68, 3) := by decide +kernel
theorem dX6_frostParts_5 : decode cX6_frostParts 5 = .ok (.aload_n 0, 1) := by decide +kernel
theorem dX6_frostParts_6 : decode cX6_frostParts 6 = .ok (.iconst 0, 1) := by decide +kernel
theorem dX6_frostParts_7 : decode cX6_frostParts 7 = .ok (.putfield 71, 3) := by decide +kernel
theorem dX6_frostParts_10 : decode cX6_frostParts 10 = .ok (.iconst 0, 1) := by decide +kernel
theorem dX6_frostParts_11 : decode cX6_frostParts 11 = .ok (.istore_n 3, 1) := by decide +kernel
theorem dX6_frostParts_12 : decode cX6_frostParts 12 = .ok (.iload_n 3, 1) := by decide +kernel
theorem dX6_frostParts_13 : decode cX6_frostParts 13 = .ok (.aload_n 0, 1) := by decide +kernel
theorem dX6_frostParts_14 : decode cX6_frostParts 14 = .ok (.getfield 28, 3) := by decide +kernel
theorem dX6_frostParts_17 : decode cX6_frostParts 17 = .ok (.getfield 34, 3) := by decide +kernel
theorem dX6_frostParts_20 : decode cX6_frostParts 20 = .ok (.if_icmp .ge 72, 3) := by decide +kernel
theorem dX6_frostParts_23 : decode cX6_frostParts 23 = .ok (.aload_n 0, 1) := by decide +kernel
theorem dX6_frostParts_24 : decode cX6_frostParts 24 = .ok (.getfield 18, 3) := by decide +kernel
theorem dX6_frostParts_27 : decode cX6_frostParts 27 = .ok (.iload_n 1, 1) := by decide +kernel
theorem dX6_frostParts_28 : decode cX6_frostParts 28 = .ok (.iload_n 3, 1) := by decide +kernel
theorem dX6_frostParts_29 : decode cX6_frostParts 29 = .ok (.invokevirtual 51, 3) := by decide +kernel
theorem dX6_frostParts_32 : decode cX6_frostParts 32 = .ok (.ifCond .ne 18, 3) := by decide +kernel
theorem dX6_frostParts_35 : decode cX6_frostParts 35 = .ok (.aload_n 0, 1) := by decide +kernel
theorem dX6_frostParts_36 : decode cX6_frostParts 36 = .ok (.dup, 1) := by decide +kernel
theorem dX6_frostParts_37 : decode cX6_frostParts 37 = .ok (.getfield 68, 3) := by decide +kernel
theorem dX6_frostParts_40 : decode cX6_frostParts 40 = .ok (.iconst 1, 1) := by decide +kernel
theorem dX6_frostParts_41 : decode cX6_frostParts 41 = .ok (.iload_n 3, 1) := by decide +kernel
theorem dX6_frostParts_42 : decode cX6_frostParts 42 = .ok (.ishl, 1) := by decide +kernel
theorem dX6_frostParts_43 : decode cX6_frostParts 43 = .ok (.ior, 1) := by decide +kernel
theorem dX6_frostParts_44 : decode cX6_frostParts 44 = .ok (.putfield 68, 3) := by decide +kernel
theorem dX6_frostParts_47 : decode cX6_frostParts 47 = .ok (.goto 39, 3) := by decide +kernel
theorem dX6_frostParts_50 : decode cX6_frostParts 50 = .ok (.aload_n 0, 1) := by decide +kernel
theorem dX6_frostParts_51 : decode cX6_frostParts 51 = .ok (.getfield 18, 3) := by decide +kernel
theorem dX6_frostParts_54 : decode cX6_frostParts 54 = .ok (.getfield 74, 3) := by decide +kernel
theorem dX6_frostParts_57 : decode cX6_frostParts 57 = .ok (.getfield 78, 3) := by decide +kernel
theorem dX6_frostParts_60 : decode cX6_frostParts 60 = .ok (.iload_n 3, 1) := by decide +kernel
theorem dX6_frostParts_61 : decode cX6_frostParts 61 = .ok (.iaload, 1) := by decide +kernel
theorem dX6_frostParts_62 : decode cX6_frostParts 62 = .ok (.iload_n 2, 1) := by decide +kernel
theorem dX6_frostParts_63 : decode cX6_frostParts 63 = .ok (.if_icmp .lt 23, 3) := by decide +kernel
theorem dX6_frostParts_66 : decode cX6_frostParts 66 = .ok (.aload_n 0, 1) := by decide +kernel
theorem dX6_frostParts_67 : decode cX6_frostParts 67 = .ok (.getfield 15, 3) := by decide +kernel
theorem dX6_frostParts_70 : decode cX6_frostParts 70 = .ok (.aload_n 0, 1) := by decide +kernel
theorem dX6_frostParts_71 : decode cX6_frostParts 71 = .ok (.getfield 71, 3) := by decide +kernel
theorem dX6_frostParts_74 : decode cX6_frostParts 74 = .ok (.iload_n 3, 1) := by decide +kernel
theorem dX6_frostParts_75 : decode cX6_frostParts 75 = .ok (.iastore, 1) := by decide +kernel
theorem dX6_frostParts_76 : decode cX6_frostParts 76 = .ok (.aload_n 0, 1) := by decide +kernel
theorem dX6_frostParts_77 : decode cX6_frostParts 77 = .ok (.dup, 1) := by decide +kernel
theorem dX6_frostParts_78 : decode cX6_frostParts 78 = .ok (.getfield 71, 3) := by decide +kernel
theorem dX6_frostParts_81 : decode cX6_frostParts 81 = .ok (.iconst 1, 1) := by decide +kernel
theorem dX6_frostParts_82 : decode cX6_frostParts 82 = .ok (.iadd, 1) := by decide +kernel
theorem dX6_frostParts_83 : decode cX6_frostParts 83 = .ok (.putfield 71, 3) := by decide +kernel
theorem dX6_frostParts_86 : decode cX6_frostParts 86 = .ok (.iinc 3 1, 3) := by decide +kernel
theorem dX6_frostParts_89 : decode cX6_frostParts 89 = .ok (.goto (-77), 3) := by decide +kernel
theorem dX6_frostParts_92 : decode cX6_frostParts 92 = .ok (.bipush 10, 2) := by decide +kernel
theorem dX6_frostParts_94 : decode cX6_frostParts 94 = .ok (.aload_n 0, 1) := by decide +kernel
theorem dX6_frostParts_95 : decode cX6_frostParts 95 = .ok (.getfield 71, 3) := by decide +kernel
theorem dX6_frostParts_98 : decode cX6_frostParts 98 = .ok (.invokestatic 83, 3) := by decide +kernel
theorem dX6_frostParts_101 : decode cX6_frostParts 101 = .ok (.ireturn, 1) := by decide +kernel
theorem dX6_frostUnheard_0 : decode cX6_frostUnheard 0 = .ok (.iconst 0, 1) := by decide +kernel
theorem dX6_frostUnheard_1 : decode cX6_frostUnheard 1 = .ok (.istore 4, 2) := by decide +kernel
theorem dX6_frostUnheard_3 : decode cX6_frostUnheard 3 = .ok (.iconst 0, 1) := by decide +kernel
theorem dX6_frostUnheard_4 : decode cX6_frostUnheard 4 = .ok (.istore 5, 2) := by decide +kernel
theorem dX6_frostUnheard_6 : decode cX6_frostUnheard 6 = .ok (.iload 5, 2) := by decide +kernel
theorem dX6_frostUnheard_8 : decode cX6_frostUnheard 8 = .ok (.iconst 1, 1) := by decide +kernel
theorem dX6_frostUnheard_9 : decode cX6_frostUnheard 9 = .ok (.aload_n 0, 1) := by decide +kernel
theorem dX6_frostUnheard_10 : decode cX6_frostUnheard 10 = .ok (.getfield 71, 3) := by decide +kernel
theorem dX6_frostUnheard_13 : decode cX6_frostUnheard 13 = .ok (.ishl, 1) := by decide +kernel
theorem dX6_frostUnheard_14 : decode cX6_frostUnheard 14 = .ok (.if_icmp .ge 71, 3) := by decide +kernel
theorem dX6_frostUnheard_17 : decode cX6_frostUnheard 17 = .ok (.iload 5, 2) := by decide +kernel
theorem dX6_frostUnheard_19 : decode cX6_frostUnheard 19 = .ok (.invokestatic 86, 3) := by decide +kernel
theorem dX6_frostUnheard_22 : decode cX6_frostUnheard 22 = .ok (.istore 6, 2) := by decide +kernel
theorem dX6_frostUnheard_24 : decode cX6_frostUnheard 24 = .ok (.iload_n 3, 1) := by decide +kernel
theorem dX6_frostUnheard_25 : decode cX6_frostUnheard 25 = .ok (.iload 6, 2) := by decide +kernel
theorem dX6_frostUnheard_27 : decode cX6_frostUnheard 27 = .ok (.invokestatic 83, 3) := by decide +kernel
theorem dX6_frostUnheard_30 : decode cX6_frostUnheard 30 = .ok (.bipush 10, 2) := by decide +kernel
theorem dX6_frostUnheard_32 : decode cX6_frostUnheard 32 = .ok (.iload_n 3, 1) := by decide +kernel
theorem dX6_frostUnheard_33 : decode cX6_frostUnheard 33 = .ok (.isub, 1) := by decide +kernel
theorem dX6_frostUnheard_34 : decode cX6_frostUnheard 34 = .ok (.aload_n 0, 1) := by decide +kernel
theorem dX6_frostUnheard_35 : decode cX6_frostUnheard 35 = .ok (.getfield 71, 3) := by decide +kernel
theorem dX6_frostUnheard_38 : decode cX6_frostUnheard 38 = .ok (.iload 6, 2) := by decide +kernel
theorem dX6_frostUnheard_40 : decode cX6_frostUnheard 40 = .ok (.isub, 1) := by decide +kernel
theorem dX6_frostUnheard_41 : decode cX6_frostUnheard 41 = .ok (.invokestatic 83, 3) := by decide +kernel
theorem dX6_frostUnheard_44 : decode cX6_frostUnheard 44 = .ok (.imul, 1) := by decide +kernel
theorem dX6_frostUnheard_45 : decode cX6_frostUnheard 45 = .ok (.istore 7, 2) := by decide +kernel
theorem dX6_frostUnheard_47 : decode cX6_frostUnheard 47 = .ok (.iload 7, 2) := by decide +kernel
theorem dX6_frostUnheard_49 : decode cX6_frostUnheard 49 = .ok (.ifCond .le 30, 3) := by decide +kernel
theorem dX6_frostUnheard_52 : decode cX6_frostUnheard 52 = .ok (.aload_n 0, 1) := by decide +kernel
theorem dX6_frostUnheard_53 : decode cX6_frostUnheard 53 = .ok (.iload_n 1, 1) := by decide +kernel
theorem dX6_frostUnheard_54 : decode cX6_frostUnheard 54 = .ok (.iload_n 2, 1) := by decide +kernel
theorem dX6_frostUnheard_55 : decode cX6_frostUnheard 55 = .ok (.aload_n 0, 1) := by decide +kernel
theorem dX6_frostUnheard_56 : decode cX6_frostUnheard 56 = .ok (.getfield 68, 3) := by decide +kernel
theorem dX6_frostUnheard_59 : decode cX6_frostUnheard 59 = .ok (.aload_n 0, 1) := by decide +kernel
theorem dX6_frostUnheard_60 : decode cX6_frostUnheard 60 = .ok (.iload 5, 2) := by decide +kernel
theorem dX6_frostUnheard_62 : decode cX6_frostUnheard 62 = .ok (.invokevirtual 92, 3) := by decide +kernel
theorem dX6_frostUnheard_65 : decode cX6_frostUnheard 65 = .ok (.ior, 1) := by decide +kernel
theorem dX6_frostUnheard_66 : decode cX6_frostUnheard 66 = .ok (.invokevirtual 95, 3) := by decide +kernel
theorem dX6_frostUnheard_69 : decode cX6_frostUnheard 69 = .ok (.ifCond .eq 10, 3) := by decide +kernel
theorem dX6_frostUnheard_72 : decode cX6_frostUnheard 72 = .ok (.iload 4, 2) := by decide +kernel
theorem dX6_frostUnheard_74 : decode cX6_frostUnheard 74 = .ok (.iload 7, 2) := by decide +kernel
theorem dX6_frostUnheard_76 : decode cX6_frostUnheard 76 = .ok (.iadd, 1) := by decide +kernel
theorem dX6_frostUnheard_77 : decode cX6_frostUnheard 77 = .ok (.istore 4, 2) := by decide +kernel
theorem dX6_frostUnheard_79 : decode cX6_frostUnheard 79 = .ok (.iinc 5 1, 3) := by decide +kernel
theorem dX6_frostUnheard_82 : decode cX6_frostUnheard 82 = .ok (.goto (-76), 3) := by decide +kernel
theorem dX6_frostUnheard_85 : decode cX6_frostUnheard 85 = .ok (.iload 4, 2) := by decide +kernel
theorem dX6_frostUnheard_87 : decode cX6_frostUnheard 87 = .ok (.ireturn, 1) := by decide +kernel
theorem dX6_snappedFences_0 : decode cX6_snappedFences 0 = .ok (.iconst 0, 1) := by decide +kernel
theorem dX6_snappedFences_1 : decode cX6_snappedFences 1 = .ok (.istore_n 2, 1) := by decide +kernel
theorem dX6_snappedFences_2 : decode cX6_snappedFences 2 = .ok (.iconst 0, 1) := by decide +kernel
theorem dX6_snappedFences_3 : decode cX6_snappedFences 3 = .ok (.istore_n 3, 1) := by decide +kernel
theorem dX6_snappedFences_4 : decode cX6_snappedFences 4 = .ok (.iload_n 3, 1) := by decide +kernel
theorem dX6_snappedFences_5 : decode cX6_snappedFences 5 = .ok (.aload_n 0, 1) := by decide +kernel
theorem dX6_snappedFences_6 : decode cX6_snappedFences 6 = .ok (.getfield 71, 3) := by decide +kernel
theorem dX6_snappedFences_9 : decode cX6_snappedFences 9 = .ok (.if_icmp .ge 24, 3) := by decide +kernel
theorem dX6_snappedFences_12 : decode cX6_snappedFences 12 = .ok (.iload_n 2, 1) := by decide +kernel
theorem dX6_snappedFences_13 : decode cX6_snappedFences 13 = .ok (.iload_n 1, 1) := by decide +kernel
theorem dX6_snappedFences_14 : decode cX6_snappedFences 14 = .ok (.iload_n 3, 1) := by decide +kernel
theorem dX6_snappedFences_15 : decode cX6_snappedFences 15 = .ok (.ishr, 1) := by decide +kernel
theorem dX6_snappedFences_16 : decode cX6_snappedFences 16 = .ok (.iconst 1, 1) := by decide +kernel
theorem dX6_snappedFences_17 : decode cX6_snappedFences 17 = .ok (.iand, 1) := by decide +kernel
theorem dX6_snappedFences_18 : decode cX6_snappedFences 18 = .ok (.aload_n 0, 1) := by decide +kernel
theorem dX6_snappedFences_19 : decode cX6_snappedFences 19 = .ok (.getfield 15, 3) := by decide +kernel
theorem dX6_snappedFences_22 : decode cX6_snappedFences 22 = .ok (.iload_n 3, 1) := by decide +kernel
theorem dX6_snappedFences_23 : decode cX6_snappedFences 23 = .ok (.iaload, 1) := by decide +kernel
theorem dX6_snappedFences_24 : decode cX6_snappedFences 24 = .ok (.ishl, 1) := by decide +kernel
theorem dX6_snappedFences_25 : decode cX6_snappedFences 25 = .ok (.ior, 1) := by decide +kernel
theorem dX6_snappedFences_26 : decode cX6_snappedFences 26 = .ok (.istore_n 2, 1) := by decide +kernel
theorem dX6_snappedFences_27 : decode cX6_snappedFences 27 = .ok (.iinc 3 1, 3) := by decide +kernel
theorem dX6_snappedFences_30 : decode cX6_snappedFences 30 = .ok (.goto (-26), 3) := by decide +kernel
theorem dX6_snappedFences_33 : decode cX6_snappedFences 33 = .ok (.iload_n 2, 1) := by decide +kernel
theorem dX6_snappedFences_34 : decode cX6_snappedFences 34 = .ok (.ireturn, 1) := by decide +kernel
theorem dX6_reaches_0 : decode cX6_reaches 0 = .ok (.iconst 1, 1) := by decide +kernel
theorem dX6_reaches_1 : decode cX6_reaches 1 = .ok (.iload_n 1, 1) := by decide +kernel
theorem dX6_reaches_2 : decode cX6_reaches 2 = .ok (.ishl, 1) := by decide +kernel
theorem dX6_reaches_3 : decode cX6_reaches 3 = .ok (.istore 4, 2) := by decide +kernel
theorem dX6_reaches_5 : decode cX6_reaches 5 = .ok (.iconst 1, 1) := by decide +kernel
theorem dX6_reaches_6 : decode cX6_reaches 6 = .ok (.istore 5, 2) := by decide +kernel
theorem dX6_reaches_8 : decode cX6_reaches 8 = .ok (.iload 5, 2) := by decide +kernel
theorem dX6_reaches_10 : decode cX6_reaches 10 = .ok (.aload_n 0, 1) := by decide +kernel
theorem dX6_reaches_11 : decode cX6_reaches 11 = .ok (.getfield 28, 3) := by decide +kernel
theorem dX6_reaches_14 : decode cX6_reaches 14 = .ok (.getfield 54, 3) := by decide +kernel
theorem dX6_reaches_17 : decode cX6_reaches 17 = .ok (.if_icmp .ge 69, 3) := by decide +kernel
theorem dX6_reaches_20 : decode cX6_reaches 20 = .ok (.iconst 0, 1) := by decide +kernel
theorem dX6_reaches_21 : decode cX6_reaches 21 = .ok (.istore 6, 2) := by decide +kernel
theorem dX6_reaches_23 : decode cX6_reaches 23 = .ok (.iload 6, 2) := by decide +kernel
theorem dX6_reaches_25 : decode cX6_reaches 25 = .ok (.aload_n 0, 1) := by decide +kernel
theorem dX6_reaches_26 : decode cX6_reaches 26 = .ok (.getfield 28, 3) := by decide +kernel
theorem dX6_reaches_29 : decode cX6_reaches 29 = .ok (.getfield 34, 3) := by decide +kernel
theorem dX6_reaches_32 : decode cX6_reaches 32 = .ok (.if_icmp .ge 48, 3) := by decide +kernel
theorem dX6_reaches_35 : decode cX6_reaches 35 = .ok (.iload_n 3, 1) := by decide +kernel
theorem dX6_reaches_36 : decode cX6_reaches 36 = .ok (.iload 6, 2) := by decide +kernel
theorem dX6_reaches_38 : decode cX6_reaches 38 = .ok (.ishr, 1) := by decide +kernel
theorem dX6_reaches_39 : decode cX6_reaches 39 = .ok (.iconst 1, 1) := by decide +kernel
theorem dX6_reaches_40 : decode cX6_reaches 40 = .ok (.iand, 1) := by decide +kernel
theorem dX6_reaches_41 : decode cX6_reaches 41 = .ok (.iconst 1, 1) := by decide +kernel
theorem dX6_reaches_42 : decode cX6_reaches 42 = .ok (.if_icmp .ne 32, 3) := by decide +kernel
theorem dX6_reaches_45 : decode cX6_reaches 45 = .ok (.iload 4, 2) := by decide +kernel
theorem dX6_reaches_47 : decode cX6_reaches 47 = .ok (.aload_n 0, 1) := by decide +kernel
theorem dX6_reaches_48 : decode cX6_reaches 48 = .ok (.getfield 28, 3) := by decide +kernel
theorem dX6_reaches_51 : decode cX6_reaches 51 = .ok (.iload 6, 2) := by decide +kernel
theorem dX6_reaches_53 : decode cX6_reaches 53 = .ok (.invokevirtual 99, 3) := by decide +kernel
theorem dX6_reaches_56 : decode cX6_reaches 56 = .ok (.iand, 1) := by decide +kernel
theorem dX6_reaches_57 : decode cX6_reaches 57 = .ok (.ifCond .eq 17, 3) := by decide +kernel
theorem dX6_reaches_60 : decode cX6_reaches 60 = .ok (.iload 4, 2) := by decide +kernel
theorem dX6_reaches_62 : decode cX6_reaches 62 = .ok (.aload_n 0, 1) := by decide +kernel
theorem dX6_reaches_63 : decode cX6_reaches 63 = .ok (.getfield 28, 3) := by decide +kernel
theorem dX6_reaches_66 : decode cX6_reaches 66 = .ok (.iload 6, 2) := by decide +kernel
theorem dX6_reaches_68 : decode cX6_reaches 68 = .ok (.invokevirtual 99, 3) := by decide +kernel
theorem dX6_reaches_71 : decode cX6_reaches 71 = .ok (.ior, 1) := by decide +kernel
theorem dX6_reaches_72 : decode cX6_reaches 72 = .ok (.istore 4, 2) := by decide +kernel
theorem dX6_reaches_74 : decode cX6_reaches 74 = .ok (.iinc 6 1, 3) := by decide +kernel
theorem dX6_reaches_77 : decode cX6_reaches 77 = .ok (.goto (-54), 3) := by decide +kernel
theorem dX6_reaches_80 : decode cX6_reaches 80 = .ok (.iinc 5 1, 3) := by decide +kernel
theorem dX6_reaches_83 : decode cX6_reaches 83 = .ok (.goto (-75), 3) := by decide +kernel
theorem dX6_reaches_86 : decode cX6_reaches 86 = .ok (.iload 4, 2) := by decide +kernel
theorem dX6_reaches_88 : decode cX6_reaches 88 = .ok (.iload_n 2, 1) := by decide +kernel
theorem dX6_reaches_89 : decode cX6_reaches 89 = .ok (.ishr, 1) := by decide +kernel
theorem dX6_reaches_90 : decode cX6_reaches 90 = .ok (.iconst 1, 1) := by decide +kernel
theorem dX6_reaches_91 : decode cX6_reaches 91 = .ok (.iand, 1) := by decide +kernel
theorem dX6_reaches_92 : decode cX6_reaches 92 = .ok (.iconst 1, 1) := by decide +kernel
theorem dX6_reaches_93 : decode cX6_reaches 93 = .ok (.if_icmp .ne 7, 3) := by decide +kernel
theorem dX6_reaches_96 : decode cX6_reaches 96 = .ok (.iconst 1, 1) := by decide +kernel
theorem dX6_reaches_97 : decode cX6_reaches 97 = .ok (.goto 4, 3) := by decide +kernel
theorem dX6_reaches_100 : decode cX6_reaches 100 = .ok (.iconst 0, 1) := by decide +kernel
theorem dX6_reaches_101 : decode cX6_reaches 101 = .ok (.ireturn, 1) := by decide +kernel
theorem dX6_power_0 : decode cX6_power 0 = .ok (.iconst 1, 1) := by decide +kernel
theorem dX6_power_1 : decode cX6_power 1 = .ok (.istore_n 2, 1) := by decide +kernel
theorem dX6_power_2 : decode cX6_power 2 = .ok (.iconst 0, 1) := by decide +kernel
theorem dX6_power_3 : decode cX6_power 3 = .ok (.istore_n 3, 1) := by decide +kernel
theorem dX6_power_4 : decode cX6_power 4 = .ok (.iload_n 3, 1) := by decide +kernel
theorem dX6_power_5 : decode cX6_power 5 = .ok (.iload_n 1, 1) := by decide +kernel
theorem dX6_power_6 : decode cX6_power 6 = .ok (.if_icmp .ge 13, 3) := by decide +kernel
theorem dX6_power_9 : decode cX6_power 9 = .ok (.iload_n 2, 1) := by decide +kernel
theorem dX6_power_10 : decode cX6_power 10 = .ok (.iload_n 0, 1) := by decide +kernel
theorem dX6_power_11 : decode cX6_power 11 = .ok (.imul, 1) := by decide +kernel
theorem dX6_power_12 : decode cX6_power 12 = .ok (.istore_n 2, 1) := by decide +kernel
theorem dX6_power_13 : decode cX6_power 13 = .ok (.iinc 3 1, 3) := by decide +kernel
theorem dX6_power_16 : decode cX6_power 16 = .ok (.goto (-12), 3) := by decide +kernel
theorem dX6_power_19 : decode cX6_power 19 = .ok (.iload_n 2, 1) := by decide +kernel
theorem dX6_power_20 : decode cX6_power 20 = .ok (.ireturn, 1) := by decide +kernel
theorem dX6_commonDivisor_0 : decode cX6_commonDivisor 0 = .ok (.iload_n 0, 1) := by decide +kernel
theorem dX6_commonDivisor_1 : decode cX6_commonDivisor 1 = .ok (.istore_n 2, 1) := by decide +kernel
theorem dX6_commonDivisor_2 : decode cX6_commonDivisor 2 = .ok (.iload_n 1, 1) := by decide +kernel
theorem dX6_commonDivisor_3 : decode cX6_commonDivisor 3 = .ok (.istore_n 3, 1) := by decide +kernel
theorem dX6_commonDivisor_4 : decode cX6_commonDivisor 4 = .ok (.iconst 0, 1) := by decide +kernel
theorem dX6_commonDivisor_5 : decode cX6_commonDivisor 5 = .ok (.istore 4, 2) := by decide +kernel
theorem dX6_commonDivisor_7 : decode cX6_commonDivisor 7 = .ok (.iload 4, 2) := by decide +kernel
theorem dX6_commonDivisor_9 : decode cX6_commonDivisor 9 = .ok (.bipush 100, 2) := by decide +kernel
theorem dX6_commonDivisor_11 : decode cX6_commonDivisor 11 = .ok (.if_icmp .ge 23, 3) := by decide +kernel
theorem dX6_commonDivisor_14 : decode cX6_commonDivisor 14 = .ok (.iload_n 3, 1) := by decide +kernel
theorem dX6_commonDivisor_15 : decode cX6_commonDivisor 15 = .ok (.ifCond .eq 19, 3) := by decide +kernel
theorem dX6_commonDivisor_18 : decode cX6_commonDivisor 18 = .ok (.iload_n 2, 1) := by decide +kernel
theorem dX6_commonDivisor_19 : decode cX6_commonDivisor 19 = .ok (.iload_n 3, 1) := by decide +kernel
theorem dX6_commonDivisor_20 : decode cX6_commonDivisor 20 = .ok (.irem, 1) := by decide +kernel
theorem dX6_commonDivisor_21 : decode cX6_commonDivisor 21 = .ok (.istore 5, 2) := by decide +kernel
theorem dX6_commonDivisor_23 : decode cX6_commonDivisor 23 = .ok (.iload_n 3, 1) := by decide +kernel
theorem dX6_commonDivisor_24 : decode cX6_commonDivisor 24 = .ok (.istore_n 2, 1) := by decide +kernel
theorem dX6_commonDivisor_25 : decode cX6_commonDivisor 25 = .ok (.iload 5, 2) := by decide +kernel
theorem dX6_commonDivisor_27 : decode cX6_commonDivisor 27 = .ok (.istore_n 3, 1) := by decide +kernel
theorem dX6_commonDivisor_28 : decode cX6_commonDivisor 28 = .ok (.iinc 4 1, 3) := by decide +kernel
theorem dX6_commonDivisor_31 : decode cX6_commonDivisor 31 = .ok (.goto (-24), 3) := by decide +kernel
theorem dX6_commonDivisor_34 : decode cX6_commonDivisor 34 = .ok (.iload_n 2, 1) := by decide +kernel
theorem dX6_commonDivisor_35 : decode cX6_commonDivisor 35 = .ok (.ireturn, 1) := by decide +kernel
theorem dX7_init_0 : decode cX7_init 0 = .ok (.aload_n 0, 1) := by decide +kernel
theorem dX7_init_1 : decode cX7_init 1 = .ok (.invokespecial 3, 3) := by decide +kernel
theorem dX7_init_4 : decode cX7_init 4 = .ok (.aload_n 0, 1) := by decide +kernel
theorem dX7_init_5 : decode cX7_init 5 = .ok (.bipush 6, 2) := by decide +kernel
theorem dX7_init_7 : decode cX7_init 7 = .ok (.newarray .int, 2) := by decide +kernel
theorem dX7_init_9 : decode cX7_init 9 = .ok (.putfield 9, 3) := by decide +kernel
theorem dX7_init_12 : decode cX7_init 12 = .ok (.aload_n 0, 1) := by decide +kernel
theorem dX7_init_13 : decode cX7_init 13 = .ok (.bipush 8, 2) := by decide +kernel
theorem dX7_init_15 : decode cX7_init 15 = .ok (.newarray .int, 2) := by decide +kernel
theorem dX7_init_17 : decode cX7_init 17 = .ok (.putfield 15, 3) := by decide +kernel
theorem dX7_init_20 : decode cX7_init 20 = .ok (.aload_n 0, 1) := by decide +kernel
theorem dX7_init_21 : decode cX7_init 21 = .ok (.bipush 12, 2) := by decide +kernel
theorem dX7_init_23 : decode cX7_init 23 = .ok (.newarray .int, 2) := by decide +kernel
theorem dX7_init_25 : decode cX7_init 25 = .ok (.putfield 18, 3) := by decide +kernel
theorem dX7_init_28 : decode cX7_init 28 = .ok (.return_, 1) := by decide +kernel
theorem dX7_begin_0 : decode cX7_begin 0 = .ok (.aload_n 1, 1) := by decide +kernel
theorem dX7_begin_1 : decode cX7_begin 1 = .ok (.getfield 21, 3) := by decide +kernel
theorem dX7_begin_4 : decode cX7_begin 4 = .ok (.iconst 0, 1) := by decide +kernel
theorem dX7_begin_5 : decode cX7_begin 5 = .ok (.aload_n 0, 1) := by decide +kernel
theorem dX7_begin_6 : decode cX7_begin 6 = .ok (.getfield 9, 3) := by decide +kernel
theorem dX7_begin_9 : decode cX7_begin 9 = .ok (.iconst 0, 1) := by decide +kernel
theorem dX7_begin_10 : decode cX7_begin 10 = .ok (.bipush 6, 2) := by decide +kernel
theorem dX7_begin_12 : decode cX7_begin 12 = .ok (.invokestatic 24, 3) := by decide +kernel
theorem dX7_begin_15 : decode cX7_begin 15 = .ok (.aload_n 1, 1) := by decide +kernel
theorem dX7_begin_16 : decode cX7_begin 16 = .ok (.getfield 30, 3) := by decide +kernel
theorem dX7_begin_19 : decode cX7_begin 19 = .ok (.iconst 0, 1) := by decide +kernel
theorem dX7_begin_20 : decode cX7_begin 20 = .ok (.aload_n 0, 1) := by decide +kernel
theorem dX7_begin_21 : decode cX7_begin 21 = .ok (.getfield 15, 3) := by decide +kernel
theorem dX7_begin_24 : decode cX7_begin 24 = .ok (.iconst 0, 1) := by decide +kernel
theorem dX7_begin_25 : decode cX7_begin 25 = .ok (.bipush 8, 2) := by decide +kernel
theorem dX7_begin_27 : decode cX7_begin 27 = .ok (.invokestatic 24, 3) := by decide +kernel
theorem dX7_begin_30 : decode cX7_begin 30 = .ok (.aload_n 0, 1) := by decide +kernel
theorem dX7_begin_31 : decode cX7_begin 31 = .ok (.iconst 0, 1) := by decide +kernel
theorem dX7_begin_32 : decode cX7_begin 32 = .ok (.putfield 31, 3) := by decide +kernel
theorem dX7_begin_35 : decode cX7_begin 35 = .ok (.aload_n 0, 1) := by decide +kernel
theorem dX7_begin_36 : decode cX7_begin 36 = .ok (.iconst 0, 1) := by decide +kernel
theorem dX7_begin_37 : decode cX7_begin 37 = .ok (.putfield 35, 3) := by decide +kernel
theorem dX7_begin_40 : decode cX7_begin 40 = .ok (.aload_n 0, 1) := by decide +kernel
theorem dX7_begin_41 : decode cX7_begin 41 = .ok (.iconst 0, 1) := by decide +kernel
theorem dX7_begin_42 : decode cX7_begin 42 = .ok (.putfield 38, 3) := by decide +kernel
theorem dX7_begin_45 : decode cX7_begin 45 = .ok (.aload_n 0, 1) := by decide +kernel
theorem dX7_begin_46 : decode cX7_begin 46 = .ok (.aload_n 1, 1) := by decide +kernel
theorem dX7_begin_47 : decode cX7_begin 47 = .ok (.getfield 41, 3) := by decide +kernel
theorem dX7_begin_50 : decode cX7_begin 50 = .ok (.putfield 44, 3) := by decide +kernel
theorem dX7_begin_53 : decode cX7_begin 53 = .ok (.return_, 1) := by decide +kernel
theorem dX7_copyFrom_0 : decode cX7_copyFrom 0 = .ok (.aload_n 1, 1) := by decide +kernel
theorem dX7_copyFrom_1 : decode cX7_copyFrom 1 = .ok (.getfield 9, 3) := by decide +kernel
theorem dX7_copyFrom_4 : decode cX7_copyFrom 4 = .ok (.iconst 0, 1) := by decide +kernel
theorem dX7_copyFrom_5 : decode cX7_copyFrom 5 = .ok (.aload_n 0, 1) := by decide +kernel
theorem dX7_copyFrom_6 : decode cX7_copyFrom 6 = .ok (.getfield 9, 3) := by decide +kernel
theorem dX7_copyFrom_9 : decode cX7_copyFrom 9 = .ok (.iconst 0, 1) := by decide +kernel
theorem dX7_copyFrom_10 : decode cX7_copyFrom 10 = .ok (.bipush 6, 2) := by decide +kernel
theorem dX7_copyFrom_12 : decode cX7_copyFrom 12 = .ok (.invokestatic 24, 3) := by decide +kernel
theorem dX7_copyFrom_15 : decode cX7_copyFrom 15 = .ok (.aload_n 1, 1) := by decide +kernel
theorem dX7_copyFrom_16 : decode cX7_copyFrom 16 = .ok (.getfield 15, 3) := by decide +kernel
theorem dX7_copyFrom_19 : decode cX7_copyFrom 19 = .ok (.iconst 0, 1) := by decide +kernel
theorem dX7_copyFrom_20 : decode cX7_copyFrom 20 = .ok (.aload_n 0, 1) := by decide +kernel
theorem dX7_copyFrom_21 : decode cX7_copyFrom 21 = .ok (.getfield 15, 3) := by decide +kernel
theorem dX7_copyFrom_24 : decode cX7_copyFrom 24 = .ok (.iconst 0, 1) := by decide +kernel
theorem dX7_copyFrom_25 : decode cX7_copyFrom 25 = .ok (.bipush 8, 2) := by decide +kernel
theorem dX7_copyFrom_27 : decode cX7_copyFrom 27 = .ok (.invokestatic 24, 3) := by decide +kernel
theorem dX7_copyFrom_30 : decode cX7_copyFrom 30 = .ok (.aload_n 1, 1) := by decide +kernel
theorem dX7_copyFrom_31 : decode cX7_copyFrom 31 = .ok (.getfield 18, 3) := by decide +kernel
theorem dX7_copyFrom_34 : decode cX7_copyFrom 34 = .ok (.iconst 0, 1) := by decide +kernel
theorem dX7_copyFrom_35 : decode cX7_copyFrom 35 = .ok (.aload_n 0, 1) := by decide +kernel
theorem dX7_copyFrom_36 : decode cX7_copyFrom 36 = .ok (.getfield 18, 3) := by decide +kernel
theorem dX7_copyFrom_39 : decode cX7_copyFrom 39 = .ok (.iconst 0, 1) := by decide +kernel
theorem dX7_copyFrom_40 : decode cX7_copyFrom 40 = .ok (.bipush 12, 2) := by decide +kernel
theorem dX7_copyFrom_42 : decode cX7_copyFrom 42 = .ok (.invokestatic 24, 3) := by decide +kernel
theorem dX7_copyFrom_45 : decode cX7_copyFrom 45 = .ok (.aload_n 0, 1) := by decide +kernel
theorem dX7_copyFrom_46 : decode cX7_copyFrom 46 = .ok (.aload_n 1, 1) := by decide +kernel
theorem dX7_copyFrom_47 : decode cX7_copyFrom 47 = .ok (.getfield 31, 3) := by decide +kernel
theorem dX7_copyFrom_50 : decode cX7_copyFrom 50 = .ok (.putfield 31, 3) := by decide +kernel
theorem dX7_copyFrom_53 : decode cX7_copyFrom 53 = .ok (.aload_n 0, 1) := by decide +kernel
theorem dX7_copyFrom_54 : decode cX7_copyFrom 54 = .ok (.aload_n 1, 1) := by decide +kernel
theorem dX7_copyFrom_55 : decode cX7_copyFrom 55 = .ok (.getfield 35, 3) := by decide +kernel
theorem dX7_copyFrom_58 : decode cX7_copyFrom 58 = .ok (.putfield 35, 3) := by decide +kernel
theorem dX7_copyFrom_61 : decode cX7_copyFrom 61 = .ok (.aload_n 0, 1) := by decide +kernel
theorem dX7_copyFrom_62 : decode cX7_copyFrom 62 = .ok (.aload_n 1, 1) := by decide +kernel
theorem dX7_copyFrom_63 : decode cX7_copyFrom 63 = .ok (.getfield 38, 3) := by decide +kernel
theorem dX7_copyFrom_66 : decode cX7_copyFrom 66 = .ok (.putfield 38, 3) := by decide +kernel
theorem dX7_copyFrom_69 : decode cX7_copyFrom 69 = .ok (.aload_n 0, 1) := by decide +kernel
theorem dX7_copyFrom_70 : decode cX7_copyFrom 70 = .ok (.aload_n 1, 1) := by decide +kernel
theorem dX7_copyFrom_71 : decode cX7_copyFrom 71 = .ok (.getfield 44, 3) := by decide +kernel
theorem dX7_copyFrom_74 : decode cX7_copyFrom 74 = .ok (.putfield 44, 3) := by decide +kernel
theorem dX7_copyFrom_77 : decode cX7_copyFrom 77 = .ok (.return_, 1) := by decide +kernel
theorem dX7_sing_0 : decode cX7_sing 0 = .ok (.aload_n 0, 1) := by decide +kernel
theorem dX7_sing_1 : decode cX7_sing 1 = .ok (.getfield 18, 3) := by decide +kernel
theorem dX7_sing_4 : decode cX7_sing 4 = .ok (.iconst 0, 1) := by decide +kernel
theorem dX7_sing_5 : decode cX7_sing 5 = .ok (.aload_n 0, 1) := by decide +kernel
theorem dX7_sing_6 : decode cX7_sing 6 = .ok (.getfield 18, 3) := by decide +kernel
theorem dX7_sing_9 : decode cX7_sing 9 = .ok (.iconst 1, 1) := by decide +kernel
theorem dX7_sing_10 : decode cX7_sing 10 = .ok (.bipush 11, 2) := by decide +kernel
theorem dX7_sing_12 : decode cX7_sing 12 = .ok (.invokestatic 24, 3) := by decide +kernel
theorem dX7_sing_15 : decode cX7_sing 15 = .ok (.aload_n 0, 1) := by decide +kernel
theorem dX7_sing_16 : decode cX7_sing 16 = .ok (.getfield 18, 3) := by decide +kernel
theorem dX7_sing_19 : decode cX7_sing 19 = .ok (.iconst 0, 1) := by decide +kernel
theorem dX7_sing_20 : decode cX7_sing 20 = .ok (.iload_n 1, 1) := by decide +kernel
theorem dX7_sing_21 : decode cX7_sing 21 = .ok (.iastore, 1) := by decide +kernel
theorem dX7_sing_22 : decode cX7_sing 22 = .ok (.aload_n 0, 1) := by decide +kernel
theorem dX7_sing_23 : decode cX7_sing 23 = .ok (.bipush 12, 2) := by decide +kernel
theorem dX7_sing_25 : decode cX7_sing 25 = .ok (.aload_n 0, 1) := by decide +kernel
theorem dX7_sing_26 : decode cX7_sing 26 = .ok (.getfield 31, 3) := by decide +kernel
theorem dX7_sing_29 : decode cX7_sing 29 = .ok (.iconst 1, 1) := by decide +kernel
theorem dX7_sing_30 : decode cX7_sing 30 = .ok (.iadd, 1) := by decide +kernel
theorem dX7_sing_31 : decode cX7_sing 31 = .ok (.invokestatic 45, 3) := by decide +kernel
theorem dX7_sing_34 : decode cX7_sing 34 = .ok (.putfield 31, 3) := by decide +kernel
theorem dX7_sing_37 : decode cX7_sing 37 = .ok (.return_, 1) := by decide +kernel
theorem dX8_init_0 : decode cX8_init 0 = .ok (.aload_n 0, 1) := by decide +kernel
theorem dX8_init_1 : decode cX8_init 1 = .ok (.invokespecial 3, 3) := by decide +kernel
theorem dX8_init_4 : decode cX8_init 4 = .ok (.aload_n 0, 1) := by decide +kernel
theorem dX8_init_5 : decode cX8_init 5 = .ok (.sipush 150, 3) := by decide +kernel
theorem dX8_init_8 : decode cX8_init 8 = .ok (.newarray .int, 2) := by decide +kernel
theorem dX8_init_10 : decode cX8_init 10 = .ok (.putfield 9, 3) := by decide +kernel
theorem dX8_init_13 : decode cX8_init 13 = .ok (.return_, 1) := by decide +kernel
theorem dX8_takes_0 : decode cX8_takes 0 = .ok (.aload_n 0, 1) := by decide +kernel
theorem dX8_takes_1 : decode cX8_takes 1 = .ok (.getfield 15, 3) := by decide +kernel
theorem dX8_takes_4 : decode cX8_takes 4 = .ok (.sipush 150, 3) := by decide +kernel
theorem dX8_takes_7 : decode cX8_takes 7 = .ok (.if_icmp .lt 5, 3) := by decide +kernel
theorem dX8_takes_10 : decode cX8_takes 10 = .ok (.iconst 0, 1) := by decide +kernel
theorem dX8_takes_11 : decode cX8_takes 11 = .ok (.ireturn, 1) := by decide +kernel
theorem dX8_takes_12 : decode cX8_takes 12 = .ok (.aload_n 0, 1) := by decide +kernel
theorem dX8_takes_13 : decode cX8_takes 13 = .ok (.getfield 9, 3) := by decide +kernel
theorem dX8_takes_16 : decode cX8_takes 16 = .ok (.aload_n 0, 1) := by decide +kernel
theorem dX8_takes_17 : decode cX8_takes 17 = .ok (.getfield 15, 3) := by decide +kernel
theorem dX8_takes_20 : decode cX8_takes 20 = .ok (.iload_n 1, 1) := by decide +kernel
theorem dX8_takes_21 : decode cX8_takes 21 = .ok (.iastore, 1) := by decide +kernel
theorem dX8_takes_22 : decode cX8_takes 22 = .ok (.aload_n 0, 1) := by decide +kernel
theorem dX8_takes_23 : decode cX8_takes 23 = .ok (.dup, 1) := by decide +kernel
theorem dX8_takes_24 : decode cX8_takes 24 = .ok (.getfield 15, 3) := by decide +kernel
theorem dX8_takes_27 : decode cX8_takes 27 = .ok (.iconst 1, 1) := by decide +kernel
theorem dX8_takes_28 : decode cX8_takes 28 = .ok (.iadd, 1) := by decide +kernel
theorem dX8_takes_29 : decode cX8_takes 29 = .ok (.putfield 15, 3) := by decide +kernel
theorem dX8_takes_32 : decode cX8_takes 32 = .ok (.iconst 1, 1) := by decide +kernel
theorem dX8_takes_33 : decode cX8_takes 33 = .ok (.ireturn, 1) := by decide +kernel
theorem dX8_tell_0 : decode cX8_tell 0 = .ok (.aload_n 1, 1) := by decide +kernel
theorem dX8_tell_1 : decode cX8_tell 1 = .ok (.invokevirtual 19, 3) := by decide +kernel
theorem dX8_tell_4 : decode cX8_tell 4 = .ok (.aload_n 0, 1) := by decide +kernel
theorem dX8_tell_5 : decode cX8_tell 5 = .ok (.iconst 0, 1) := by decide +kernel
theorem dX8_tell_6 : decode cX8_tell 6 = .ok (.putfield 24, 3) := by decide +kernel
theorem dX8_tell_9 : decode cX8_tell 9 = .ok (.aload_n 0, 1) := by decide +kernel
theorem dX8_tell_10 : decode cX8_tell 10 = .ok (.iconst 0, 1) := by decide +kernel
theorem dX8_tell_11 : decode cX8_tell 11 = .ok (.putfield 27, 3) := by decide +kernel
theorem dX8_tell_14 : decode cX8_tell 14 = .ok (.iconst 0, 1) := by decide +kernel
theorem dX8_tell_15 : decode cX8_tell 15 = .ok (.istore_n 2, 1) := by decide +kernel
theorem dX8_tell_16 : decode cX8_tell 16 = .ok (.iload_n 2, 1) := by decide +kernel
theorem dX8_tell_17 : decode cX8_tell 17 = .ok (.sipush 150, 3) := by decide +kernel
theorem dX8_tell_20 : decode cX8_tell 20 = .ok (.if_icmp .gt 233, 3) := by decide +kernel
theorem dX8_tell_23 : decode cX8_tell 23 = .ok (.aload_n 0, 1) := by decide +kernel
theorem dX8_tell_24 : decode cX8_tell 24 = .ok (.invokevirtual 31, 3) := by decide +kernel
theorem dX8_tell_27 : decode cX8_tell 27 = .ok (.aload_n 0, 1) := by decide +kernel
theorem dX8_tell_28 : decode cX8_tell 28 = .ok (.getfield 34, 3) := by decide +kernel
theorem dX8_tell_31 : decode cX8_tell 31 = .ok (.ifCond .ne 5, 3) := by decide +kernel
theorem dX8_tell_34 : decode cX8_tell 34 = .ok (.iload_n 2, 1) := by decide +kernel
theorem dX8_tell_35 : decode cX8_tell 35 = .ok (.ireturn, 1) := by decide +kernel
theorem dX8_tell_36 : decode cX8_tell 36 = .ok (.aload_n 0, 1) := by decide +kernel
theorem dX8_tell_37 : decode cX8_tell 37 = .ok (.getfield 34, 3) := by decide +kernel
theorem dX8_tell_40 : decode cX8_tell 40 = .ok (.iconst 1, 1) := by decide +kernel
theorem dX8_tell_41 : decode cX8_tell 41 = .ok (.if_icmp .ne 10, 3) := by decide +kernel
theorem dX8_tell_44 : decode cX8_tell 44 = .ok (.aload_n 0, 1) := by decide +kernel
theorem dX8_tell_45 : decode cX8_tell 45 = .ok (.getfield 37, 3) := by decide +kernel
theorem dX8_tell_48 : decode cX8_tell 48 = .ok (.goto 4, 3) := by decide +kernel
theorem dX8_tell_51 : decode cX8_tell 51 = .ok (.iconst 0, 1) := by decide +kernel
theorem dX8_tell_52 : decode cX8_tell 52 = .ok (.lookupswitch 174 #[(98, 124), (102, 73), (107, 99), (110, 52), (119, 150)], 52) := by decide +kernel
theorem dX8_tell_104 : decode cX8_tell 104 = .ok (.iload_n 2, 1) := by decide +kernel
theorem dX8_tell_105 : decode cX8_tell 105 = .ok (.ifCond .ne 15, 3) := by decide +kernel
theorem dX8_tell_108 : decode cX8_tell 108 = .ok (.aload_n 0, 1) := by decide +kernel
theorem dX8_tell_109 : decode cX8_tell 109 = .ok (.aload_n 1, 1) := by decide +kernel
theorem dX8_tell_110 : decode cX8_tell 110 = .ok (.invokevirtual 40, 3) := by decide +kernel
theorem dX8_tell_113 : decode cX8_tell 113 = .ok (.ifCond .eq 7, 3) := by decide +kernel
theorem dX8_tell_116 : decode cX8_tell 116 = .ok (.iconst 1, 1) := by decide +kernel
theorem dX8_tell_117 : decode cX8_tell 117 = .ok (.goto 4, 3) := by decide +kernel
theorem dX8_tell_120 : decode cX8_tell 120 = .ok (.iconst 0, 1) := by decide +kernel
theorem dX8_tell_121 : decode cX8_tell 121 = .ok (.istore_n 3, 1) := by decide +kernel
theorem dX8_tell_122 : decode cX8_tell 122 = .ok (.goto 106, 3) := by decide +kernel
theorem dX8_tell_125 : decode cX8_tell 125 = .ok (.aload_n 1, 1) := by decide +kernel
theorem dX8_tell_126 : decode cX8_tell 126 = .ok (.getfield 44, 3) := by decide +kernel
theorem dX8_tell_129 : decode cX8_tell 129 = .ok (.bipush 8, 2) := by decide +kernel
theorem dX8_tell_131 : decode cX8_tell 131 = .ok (.if_icmp .ge 15, 3) := by decide +kernel
theorem dX8_tell_134 : decode cX8_tell 134 = .ok (.aload_n 0, 1) := by decide +kernel
theorem dX8_tell_135 : decode cX8_tell 135 = .ok (.aload_n 1, 1) := by decide +kernel
theorem dX8_tell_136 : decode cX8_tell 136 = .ok (.invokevirtual 47, 3) := by decide +kernel
theorem dX8_tell_139 : decode cX8_tell 139 = .ok (.ifCond .eq 7, 3) := by decide +kernel
theorem dX8_tell_142 : decode cX8_tell 142 = .ok (.iconst 1, 1) := by decide +kernel
theorem dX8_tell_143 : decode cX8_tell 143 = .ok (.goto 4, 3) := by decide +kernel
theorem dX8_tell_146 : decode cX8_tell 146 = .ok (.iconst 0, 1) := by decide +kernel
theorem dX8_tell_147 : decode cX8_tell 147 = .ok (.istore_n 3, 1) := by decide +kernel
theorem dX8_tell_148 : decode cX8_tell 148 = .ok (.goto 80, 3) := by decide +kernel
theorem dX8_tell_151 : decode cX8_tell 151 = .ok (.aload_n 1, 1) := by decide +kernel
theorem dX8_tell_152 : decode cX8_tell 152 = .ok (.getfield 50, 3) := by decide +kernel
theorem dX8_tell_155 : decode cX8_tell 155 = .ok (.iconst 4, 1) := by decide +kernel
theorem dX8_tell_156 : decode cX8_tell 156 = .ok (.if_icmp .ge 15, 3) := by decide +kernel
theorem dX8_tell_159 : decode cX8_tell 159 = .ok (.aload_n 0, 1) := by decide +kernel
theorem dX8_tell_160 : decode cX8_tell 160 = .ok (.aload_n 1, 1) := by decide +kernel
theorem dX8_tell_161 : decode cX8_tell 161 = .ok (.invokevirtual 53, 3) := by decide +kernel
theorem dX8_tell_164 : decode cX8_tell 164 = .ok (.ifCond .eq 7, 3) := by decide +kernel
theorem dX8_tell_167 : decode cX8_tell 167 = .ok (.iconst 1, 1) := by decide +kernel
theorem dX8_tell_168 : decode cX8_tell 168 = .ok (.goto 4, 3) := by decide +kernel
theorem dX8_tell_171 : decode cX8_tell 171 = .ok (.iconst 0, 1) := by decide +kernel
theorem dX8_tell_172 : decode cX8_tell 172 = .ok (.istore_n 3, 1) := by decide +kernel
theorem dX8_tell_173 : decode cX8_tell 173 = .ok (.goto 55, 3) := by decide +kernel
theorem dX8_tell_176 : decode cX8_tell 176 = .ok (.aload_n 1, 1) := by decide +kernel
theorem dX8_tell_177 : decode cX8_tell 177 = .ok (.getfield 56, 3) := by decide +kernel
theorem dX8_tell_180 : decode cX8_tell 180 = .ok (.bipush 6, 2) := by decide +kernel
theorem dX8_tell_182 : decode cX8_tell 182 = .ok (.if_icmp .ge 15, 3) := by decide +kernel
theorem dX8_tell_185 : decode cX8_tell 185 = .ok (.aload_n 0, 1) := by decide +kernel
theorem dX8_tell_186 : decode cX8_tell 186 = .ok (.aload_n 1, 1) := by decide +kernel
theorem dX8_tell_187 : decode cX8_tell 187 = .ok (.invokevirtual 59, 3) := by decide +kernel
theorem dX8_tell_190 : decode cX8_tell 190 = .ok (.ifCond .eq 7, 3) := by decide +kernel
theorem dX8_tell_193 : decode cX8_tell 193 = .ok (.iconst 1, 1) := by decide +kernel
theorem dX8_tell_194 : decode cX8_tell 194 = .ok (.goto 4, 3) := by decide +kernel
theorem dX8_tell_197 : decode cX8_tell 197 = .ok (.iconst 0, 1) := by decide +kernel
theorem dX8_tell_198 : decode cX8_tell 198 = .ok (.istore_n 3, 1) := by decide +kernel
theorem dX8_tell_199 : decode cX8_tell 199 = .ok (.goto 29, 3) := by decide +kernel
theorem dX8_tell_202 : decode cX8_tell 202 = .ok (.aload_n 0, 1) := by decide +kernel
theorem dX8_tell_203 : decode cX8_tell 203 = .ok (.getfield 27, 3) := by decide +kernel
theorem dX8_tell_206 : decode cX8_tell 206 = .ok (.ifCond .ne 15, 3) := by decide +kernel
theorem dX8_tell_209 : decode cX8_tell 209 = .ok (.aload_n 0, 1) := by decide +kernel
theorem dX8_tell_210 : decode cX8_tell 210 = .ok (.aload_n 1, 1) := by decide +kernel
theorem dX8_tell_211 : decode cX8_tell 211 = .ok (.invokevirtual 62, 3) := by decide +kernel
theorem dX8_tell_214 : decode cX8_tell 214 = .ok (.ifCond .eq 7, 3) := by decide +kernel
theorem dX8_tell_217 : decode cX8_tell 217 = .ok (.iconst 1, 1) := by decide +kernel
theorem dX8_tell_218 : decode cX8_tell 218 = .ok (.goto 4, 3) := by decide +kernel
theorem dX8_tell_221 : decode cX8_tell 221 = .ok (.iconst 0, 1) := by decide +kernel
theorem dX8_tell_222 : decode cX8_tell 222 = .ok (.istore_n 3, 1) := by decide +kernel
theorem dX8_tell_223 : decode cX8_tell 223 = .ok (.goto 5, 3) := by decide +kernel
theorem dX8_tell_226 : decode cX8_tell 226 = .ok (.iconst 0, 1) := by decide +kernel
theorem dX8_tell_227 : decode cX8_tell 227 = .ok (.istore_n 3, 1) := by decide +kernel
theorem dX8_tell_228 : decode cX8_tell 228 = .ok (.iload_n 3, 1) := by decide +kernel
theorem dX8_tell_229 : decode cX8_tell 229 = .ok (.ifCond .eq 10, 3) := by decide +kernel
theorem dX8_tell_232 : decode cX8_tell 232 = .ok (.aload_n 0, 1) := by decide +kernel
theorem dX8_tell_233 : decode cX8_tell 233 = .ok (.invokevirtual 65, 3) := by decide +kernel
theorem dX8_tell_236 : decode cX8_tell 236 = .ok (.ifCond .ne 11, 3) := by decide +kernel
theorem dX8_tell_239 : decode cX8_tell 239 = .ok (.bipush (-10), 2) := by decide +kernel
theorem dX8_tell_241 : decode cX8_tell 241 = .ok (.aload_n 0, 1) := by decide +kernel
theorem dX8_tell_242 : decode cX8_tell 242 = .ok (.getfield 69, 3) := by decide +kernel
theorem dX8_tell_245 : decode cX8_tell 245 = .ok (.isub, 1) := by decide +kernel
theorem dX8_tell_246 : decode cX8_tell 246 = .ok (.ireturn, 1) := by decide +kernel
theorem dX8_tell_247 : decode cX8_tell 247 = .ok (.iinc 2 1, 3) := by decide +kernel
theorem dX8_tell_250 : decode cX8_tell 250 = .ok (.goto (-234), 3) := by decide +kernel
theorem dX8_tell_253 : decode cX8_tell 253 = .ok (.bipush (-10), 2) := by decide +kernel
theorem dX8_tell_255 : decode cX8_tell 255 = .ok (.aload_n 0, 1) := by decide +kernel
theorem dX8_tell_256 : decode cX8_tell 256 = .ok (.getfield 69, 3) := by decide +kernel
theorem dX8_tell_259 : decode cX8_tell 259 = .ok (.isub, 1) := by decide +kernel
theorem dX8_tell_260 : decode cX8_tell 260 = .ok (.ireturn, 1) := by decide +kernel
theorem dX8_tellsFields_0 : decode cX8_tellsFields 0 = .ok (.aload_n 0, 1) := by decide +kernel
theorem dX8_tellsFields_1 : decode cX8_tellsFields 1 = .ok (.iconst 1, 1) := by decide +kernel
theorem dX8_tellsFields_2 : decode cX8_tellsFields 2 = .ok (.bipush 8, 2) := by decide +kernel
theorem dX8_tellsFields_4 : decode cX8_tellsFields 4 = .ok (.invokevirtual 72, 3) := by decide +kernel
theorem dX8_tellsFields_7 : decode cX8_tellsFields 7 = .ok (.ifCond .ne 5, 3) := by decide +kernel
theorem dX8_tellsFields_10 : decode cX8_tellsFields 10 = .ok (.iconst 0, 1) := by decide +kernel
theorem dX8_tellsFields_11 : decode cX8_tellsFields 11 = .ok (.ireturn, 1) := by decide +kernel
theorem dX8_tellsFields_12 : decode cX8_tellsFields 12 = .ok (.aload_n 1, 1) := by decide +kernel
theorem dX8_tellsFields_13 : decode cX8_tellsFields 13 = .ok (.aload_n 0, 1) := by decide +kernel
theorem dX8_tellsFields_14 : decode cX8_tellsFields 14 = .ok (.getfield 37, 3) := by decide +kernel
theorem dX8_tellsFields_17 : decode cX8_tellsFields 17 = .ok (.putfield 76, 3) := by decide +kernel
theorem dX8_tellsFields_20 : decode cX8_tellsFields 20 = .ok (.iconst 1, 1) := by decide +kernel
theorem dX8_tellsFields_21 : decode cX8_tellsFields 21 = .ok (.ireturn, 1) := by decide +kernel
theorem dX8_tellsFence_0 : decode cX8_tellsFence 0 = .ok (.aload_n 1, 1) := by decide +kernel
theorem dX8_tellsFence_1 : decode cX8_tellsFence 1 = .ok (.getfield 44, 3) := by decide +kernel
theorem dX8_tellsFence_4 : decode cX8_tellsFence 4 = .ok (.istore_n 2, 1) := by decide +kernel
theorem dX8_tellsFence_5 : decode cX8_tellsFence 5 = .ok (.aload_n 0, 1) := by decide +kernel
theorem dX8_tellsFence_6 : decode cX8_tellsFence 6 = .ok (.iconst 0, 1) := by decide +kernel
theorem dX8_tellsFence_7 : decode cX8_tellsFence 7 = .ok (.aload_n 1, 1) := by decide +kernel
theorem dX8_tellsFence_8 : decode cX8_tellsFence 8 = .ok (.getfield 76, 3) := by decide +kernel
theorem dX8_tellsFence_11 : decode cX8_tellsFence 11 = .ok (.iconst 1, 1) := by decide +kernel
theorem dX8_tellsFence_12 : decode cX8_tellsFence 12 = .ok (.isub, 1) := by decide +kernel
theorem dX8_tellsFence_13 : decode cX8_tellsFence 13 = .ok (.invokevirtual 72, 3) := by decide +kernel
theorem dX8_tellsFence_16 : decode cX8_tellsFence 16 = .ok (.ifCond .ne 5, 3) := by decide +kernel
theorem dX8_tellsFence_19 : decode cX8_tellsFence 19 = .ok (.iconst 0, 1) := by decide +kernel
theorem dX8_tellsFence_20 : decode cX8_tellsFence 20 = .ok (.ireturn, 1) := by decide +kernel
theorem dX8_tellsFence_21 : decode cX8_tellsFence 21 = .ok (.aload_n 1, 1) := by decide +kernel
theorem dX8_tellsFence_22 : decode cX8_tellsFence 22 = .ok (.getfield 79, 3) := by decide +kernel
theorem dX8_tellsFence_25 : decode cX8_tellsFence 25 = .ok (.iload_n 2, 1) := by decide +kernel
theorem dX8_tellsFence_26 : decode cX8_tellsFence 26 = .ok (.aload_n 0, 1) := by decide +kernel
theorem dX8_tellsFence_27 : decode cX8_tellsFence 27 = .ok (.getfield 37, 3) := by decide +kernel
theorem dX8_tellsFence_30 : decode cX8_tellsFence 30 = .ok (.iastore, 1) := by decide +kernel
theorem dX8_tellsFence_31 : decode cX8_tellsFence 31 = .ok (.aload_n 0, 1) := by decide +kernel
theorem dX8_tellsFence_32 : decode cX8_tellsFence 32 = .ok (.iconst 0, 1) := by decide +kernel
theorem dX8_tellsFence_33 : decode cX8_tellsFence 33 = .ok (.aload_n 1, 1) := by decide +kernel
theorem dX8_tellsFence_34 : decode cX8_tellsFence 34 = .ok (.getfield 76, 3) := by decide +kernel
theorem dX8_tellsFence_37 : decode cX8_tellsFence 37 = .ok (.iconst 1, 1) := by decide +kernel
theorem dX8_tellsFence_38 : decode cX8_tellsFence 38 = .ok (.isub, 1) := by decide +kernel
theorem dX8_tellsFence_39 : decode cX8_tellsFence 39 = .ok (.invokevirtual 72, 3) := by decide +kernel
theorem dX8_tellsFence_42 : decode cX8_tellsFence 42 = .ok (.ifCond .eq 16, 3) := by decide +kernel
theorem dX8_tellsFence_45 : decode cX8_tellsFence 45 = .ok (.aload_n 0, 1) := by decide +kernel
theorem dX8_tellsFence_46 : decode cX8_tellsFence 46 = .ok (.getfield 37, 3) := by decide +kernel
theorem dX8_tellsFence_49 : decode cX8_tellsFence 49 = .ok (.aload_n 1, 1) := by decide +kernel
theorem dX8_tellsFence_50 : decode cX8_tellsFence 50 = .ok (.getfield 79, 3) := by decide +kernel
theorem dX8_tellsFence_53 : decode cX8_tellsFence 53 = .ok (.iload_n 2, 1) := by decide +kernel
theorem dX8_tellsFence_54 : decode cX8_tellsFence 54 = .ok (.iaload, 1) := by decide +kernel
theorem dX8_tellsFence_55 : decode cX8_tellsFence 55 = .ok (.if_icmp .ne 5, 3) := by decide +kernel
theorem dX8_tellsFence_58 : decode cX8_tellsFence 58 = .ok (.iconst 0, 1) := by decide +kernel
theorem dX8_tellsFence_59 : decode cX8_tellsFence 59 = .ok (.ireturn, 1) := by decide +kernel
theorem dX8_tellsFence_60 : decode cX8_tellsFence 60 = .ok (.aload_n 1, 1) := by decide +kernel
theorem dX8_tellsFence_61 : decode cX8_tellsFence 61 = .ok (.getfield 82, 3) := by decide +kernel
theorem dX8_tellsFence_64 : decode cX8_tellsFence 64 = .ok (.iload_n 2, 1) := by decide +kernel
theorem dX8_tellsFence_65 : decode cX8_tellsFence 65 = .ok (.aload_n 0, 1) := by decide +kernel
theorem dX8_tellsFence_66 : decode cX8_tellsFence 66 = .ok (.getfield 37, 3) := by decide +kernel
theorem dX8_tellsFence_69 : decode cX8_tellsFence 69 = .ok (.iastore, 1) := by decide +kernel
theorem dX8_tellsFence_70 : decode cX8_tellsFence 70 = .ok (.aload_n 0, 1) := by decide +kernel
theorem dX8_tellsFence_71 : decode cX8_tellsFence 71 = .ok (.iconst 0, 1) := by decide +kernel
theorem dX8_tellsFence_72 : decode cX8_tellsFence 72 = .ok (.bipush 40, 2) := by decide +kernel
theorem dX8_tellsFence_74 : decode cX8_tellsFence 74 = .ok (.invokevirtual 72, 3) := by decide +kernel
theorem dX8_tellsFence_77 : decode cX8_tellsFence 77 = .ok (.ifCond .ne 5, 3) := by decide +kernel
theorem dX8_tellsFence_80 : decode cX8_tellsFence 80 = .ok (.iconst 0, 1) := by decide +kernel
theorem dX8_tellsFence_81 : decode cX8_tellsFence 81 = .ok (.ireturn, 1) := by decide +kernel
theorem dX8_tellsFence_82 : decode cX8_tellsFence 82 = .ok (.aload_n 1, 1) := by decide +kernel
theorem dX8_tellsFence_83 : decode cX8_tellsFence 83 = .ok (.getfield 85, 3) := by decide +kernel
theorem dX8_tellsFence_86 : decode cX8_tellsFence 86 = .ok (.iload_n 2, 1) := by decide +kernel
theorem dX8_tellsFence_87 : decode cX8_tellsFence 87 = .ok (.aload_n 0, 1) := by decide +kernel
theorem dX8_tellsFence_88 : decode cX8_tellsFence 88 = .ok (.getfield 37, 3) := by decide +kernel
theorem dX8_tellsFence_91 : decode cX8_tellsFence 91 = .ok (.iastore, 1) := by decide +kernel
theorem dX8_tellsFence_92 : decode cX8_tellsFence 92 = .ok (.aload_n 1, 1) := by decide +kernel
theorem dX8_tellsFence_93 : decode cX8_tellsFence 93 = .ok (.dup, 1) := by decide +kernel
theorem dX8_tellsFence_94 : decode cX8_tellsFence 94 = .ok (.getfield 44, 3) := by decide +kernel
theorem dX8_tellsFence_97 : decode cX8_tellsFence 97 = .ok (.iconst 1, 1) := by decide +kernel
theorem dX8_tellsFence_98 : decode cX8_tellsFence 98 = .ok (.iadd, 1) := by decide +kernel
theorem dX8_tellsFence_99 : decode cX8_tellsFence 99 = .ok (.putfield 44, 3) := by decide +kernel
theorem dX8_tellsFence_102 : decode cX8_tellsFence 102 = .ok (.iconst 1, 1) := by decide +kernel
theorem dX8_tellsFence_103 : decode cX8_tellsFence 103 = .ok (.ireturn, 1) := by decide +kernel
theorem dX8_tellsKind_0 : decode cX8_tellsKind 0 = .ok (.aload_n 1, 1) := by decide +kernel
theorem dX8_tellsKind_1 : decode cX8_tellsKind 1 = .ok (.getfield 50, 3) := by decide +kernel
theorem dX8_tellsKind_4 : decode cX8_tellsKind 4 = .ok (.istore_n 2, 1) := by decide +kernel
theorem dX8_tellsKind_5 : decode cX8_tellsKind 5 = .ok (.aload_n 0, 1) := by decide +kernel
theorem dX8_tellsKind_6 : decode cX8_tellsKind 6 = .ok (.iconst 0, 1) := by decide +kernel
theorem dX8_tellsKind_7 : decode cX8_tellsKind 7 = .ok (.bipush 6, 2) := by decide +kernel
theorem dX8_tellsKind_9 : decode cX8_tellsKind 9 = .ok (.invokevirtual 72, 3) := by decide +kernel
theorem dX8_tellsKind_12 : decode cX8_tellsKind 12 = .ok (.ifCond .ne 5, 3) := by decide +kernel
theorem dX8_tellsKind_15 : decode cX8_tellsKind 15 = .ok (.iconst 0, 1) := by decide +kernel
theorem dX8_tellsKind_16 : decode cX8_tellsKind 16 = .ok (.ireturn, 1) := by decide +kernel
theorem dX8_tellsKind_17 : decode cX8_tellsKind 17 = .ok (.aload_n 1, 1) := by decide +kernel
theorem dX8_tellsKind_18 : decode cX8_tellsKind 18 = .ok (.getfield 88, 3) := by decide +kernel
theorem dX8_tellsKind_21 : decode cX8_tellsKind 21 = .ok (.iload_n 2, 1) := by decide +kernel
theorem dX8_tellsKind_22 : decode cX8_tellsKind 22 = .ok (.aload_n 0, 1) := by decide +kernel
theorem dX8_tellsKind_23 : decode cX8_tellsKind 23 = .ok (.getfield 37, 3) := by decide +kernel
theorem dX8_tellsKind_26 : decode cX8_tellsKind 26 = .ok (.iconst 3, 1) := by decide +kernel
theorem dX8_tellsKind_27 : decode cX8_tellsKind 27 = .ok (.isub, 1) := by decide +kernel
theorem dX8_tellsKind_28 : decode cX8_tellsKind 28 = .ok (.iastore, 1) := by decide +kernel
theorem dX8_tellsKind_29 : decode cX8_tellsKind 29 = .ok (.aload_n 0, 1) := by decide +kernel
theorem dX8_tellsKind_30 : decode cX8_tellsKind 30 = .ok (.iconst 0, 1) := by decide +kernel
theorem dX8_tellsKind_31 : decode cX8_tellsKind 31 = .ok (.bipush 9, 2) := by decide +kernel
theorem dX8_tellsKind_33 : decode cX8_tellsKind 33 = .ok (.invokevirtual 72, 3) := by decide +kernel
theorem dX8_tellsKind_36 : decode cX8_tellsKind 36 = .ok (.ifCond .ne 5, 3) := by decide +kernel
theorem dX8_tellsKind_39 : decode cX8_tellsKind 39 = .ok (.iconst 0, 1) := by decide +kernel
theorem dX8_tellsKind_40 : decode cX8_tellsKind 40 = .ok (.ireturn, 1) := by decide +kernel
theorem dX8_tellsKind_41 : decode cX8_tellsKind 41 = .ok (.aload_n 1, 1) := by decide +kernel
theorem dX8_tellsKind_42 : decode cX8_tellsKind 42 = .ok (.getfield 91, 3) := by decide +kernel
theorem dX8_tellsKind_45 : decode cX8_tellsKind 45 = .ok (.iload_n 2, 1) := by decide +kernel
theorem dX8_tellsKind_46 : decode cX8_tellsKind 46 = .ok (.aload_n 0, 1) := by decide +kernel
theorem dX8_tellsKind_47 : decode cX8_tellsKind 47 = .ok (.getfield 37, 3) := by decide +kernel
theorem dX8_tellsKind_50 : decode cX8_tellsKind 50 = .ok (.iastore, 1) := by decide +kernel
theorem dX8_tellsKind_51 : decode cX8_tellsKind 51 = .ok (.aload_n 1, 1) := by decide +kernel
theorem dX8_tellsKind_52 : decode cX8_tellsKind 52 = .ok (.dup, 1) := by decide +kernel
theorem dX8_tellsKind_53 : decode cX8_tellsKind 53 = .ok (.getfield 50, 3) := by decide +kernel
theorem dX8_tellsKind_56 : decode cX8_tellsKind 56 = .ok (.iconst 1, 1) := by decide +kernel
theorem dX8_tellsKind_57 : decode cX8_tellsKind 57 = .ok (.iadd, 1) := by decide +kernel
theorem dX8_tellsKind_58 : decode cX8_tellsKind 58 = .ok (.putfield 50, 3) := by decide +kernel
theorem dX8_tellsKind_61 : decode cX8_tellsKind 61 = .ok (.iconst 1, 1) := by decide +kernel
theorem dX8_tellsKind_62 : decode cX8_tellsKind 62 = .ok (.ireturn, 1) := by decide +kernel
theorem dX8_tellsBeast_0 : decode cX8_tellsBeast 0 = .ok (.aload_n 1, 1) := by decide +kernel
theorem dX8_tellsBeast_1 : decode cX8_tellsBeast 1 = .ok (.getfield 56, 3) := by decide +kernel
theorem dX8_tellsBeast_4 : decode cX8_tellsBeast 4 = .ok (.istore_n 2, 1) := by decide +kernel
theorem dX8_tellsBeast_5 : decode cX8_tellsBeast 5 = .ok (.aload_n 0, 1) := by decide +kernel
theorem dX8_tellsBeast_6 : decode cX8_tellsBeast 6 = .ok (.iconst 0, 1) := by decide +kernel
theorem dX8_tellsBeast_7 : decode cX8_tellsBeast 7 = .ok (.aload_n 1, 1) := by decide +kernel
theorem dX8_tellsBeast_8 : decode cX8_tellsBeast 8 = .ok (.getfield 50, 3) := by decide +kernel
theorem dX8_tellsBeast_11 : decode cX8_tellsBeast 11 = .ok (.iconst 1, 1) := by decide +kernel
theorem dX8_tellsBeast_12 : decode cX8_tellsBeast 12 = .ok (.isub, 1) := by decide +kernel
theorem dX8_tellsBeast_13 : decode cX8_tellsBeast 13 = .ok (.invokevirtual 72, 3) := by decide +kernel
theorem dX8_tellsBeast_16 : decode cX8_tellsBeast 16 = .ok (.ifCond .ne 5, 3) := by decide +kernel
theorem dX8_tellsBeast_19 : decode cX8_tellsBeast 19 = .ok (.iconst 0, 1) := by decide +kernel
theorem dX8_tellsBeast_20 : decode cX8_tellsBeast 20 = .ok (.ireturn, 1) := by decide +kernel
theorem dX8_tellsBeast_21 : decode cX8_tellsBeast 21 = .ok (.aload_n 1, 1) := by decide +kernel
theorem dX8_tellsBeast_22 : decode cX8_tellsBeast 22 = .ok (.getfield 94, 3) := by decide +kernel
theorem dX8_tellsBeast_25 : decode cX8_tellsBeast 25 = .ok (.iload_n 2, 1) := by decide +kernel
theorem dX8_tellsBeast_26 : decode cX8_tellsBeast 26 = .ok (.aload_n 0, 1) := by decide +kernel
theorem dX8_tellsBeast_27 : decode cX8_tellsBeast 27 = .ok (.getfield 37, 3) := by decide +kernel
theorem dX8_tellsBeast_30 : decode cX8_tellsBeast 30 = .ok (.iastore, 1) := by decide +kernel
theorem dX8_tellsBeast_31 : decode cX8_tellsBeast 31 = .ok (.aload_n 0, 1) := by decide +kernel
theorem dX8_tellsBeast_32 : decode cX8_tellsBeast 32 = .ok (.iconst 0, 1) := by decide +kernel
theorem dX8_tellsBeast_33 : decode cX8_tellsBeast 33 = .ok (.aload_n 1, 1) := by decide +kernel
theorem dX8_tellsBeast_34 : decode cX8_tellsBeast 34 = .ok (.getfield 76, 3) := by decide +kernel
theorem dX8_tellsBeast_37 : decode cX8_tellsBeast 37 = .ok (.iconst 1, 1) := by decide +kernel
theorem dX8_tellsBeast_38 : decode cX8_tellsBeast 38 = .ok (.isub, 1) := by decide +kernel
theorem dX8_tellsBeast_39 : decode cX8_tellsBeast 39 = .ok (.invokevirtual 72, 3) := by decide +kernel
theorem dX8_tellsBeast_42 : decode cX8_tellsBeast 42 = .ok (.ifCond .ne 5, 3) := by decide +kernel
theorem dX8_tellsBeast_45 : decode cX8_tellsBeast 45 = .ok (.iconst 0, 1) := by decide +kernel
theorem dX8_tellsBeast_46 : decode cX8_tellsBeast 46 = .ok (.ireturn, 1) := by decide +kernel
theorem dX8_tellsBeast_47 : decode cX8_tellsBeast 47 = .ok (.aload_n 1, 1) := by decide +kernel
theorem dX8_tellsBeast_48 : decode cX8_tellsBeast 48 = .ok (.getfield 97, 3) := by decide +kernel
theorem dX8_tellsBeast_51 : decode cX8_tellsBeast 51 = .ok (.iload_n 2, 1) := by decide +kernel
theorem dX8_tellsBeast_52 : decode cX8_tellsBeast 52 = .ok (.aload_n 0, 1) := by decide +kernel
theorem dX8_tellsBeast_53 : decode cX8_tellsBeast 53 = .ok (.getfield 37, 3) := by decide +kernel
theorem dX8_tellsBeast_56 : decode cX8_tellsBeast 56 = .ok (.iastore, 1) := by decide +kernel
theorem dX8_tellsBeast_57 : decode cX8_tellsBeast 57 = .ok (.aload_n 1, 1) := by decide +kernel
theorem dX8_tellsBeast_58 : decode cX8_tellsBeast 58 = .ok (.dup, 1) := by decide +kernel
theorem dX8_tellsBeast_59 : decode cX8_tellsBeast 59 = .ok (.getfield 56, 3) := by decide +kernel
theorem dX8_tellsBeast_62 : decode cX8_tellsBeast 62 = .ok (.iconst 1, 1) := by decide +kernel
theorem dX8_tellsBeast_63 : decode cX8_tellsBeast 63 = .ok (.iadd, 1) := by decide +kernel
theorem dX8_tellsBeast_64 : decode cX8_tellsBeast 64 = .ok (.putfield 56, 3) := by decide +kernel
theorem dX8_tellsBeast_67 : decode cX8_tellsBeast 67 = .ok (.iconst 1, 1) := by decide +kernel
theorem dX8_tellsBeast_68 : decode cX8_tellsBeast 68 = .ok (.ireturn, 1) := by decide +kernel
theorem dX8_tellsWet_0 : decode cX8_tellsWet 0 = .ok (.aload_n 0, 1) := by decide +kernel
theorem dX8_tellsWet_1 : decode cX8_tellsWet 1 = .ok (.iconst 1, 1) := by decide +kernel
theorem dX8_tellsWet_2 : decode cX8_tellsWet 2 = .ok (.putfield 27, 3) := by decide +kernel
theorem dX8_tellsWet_5 : decode cX8_tellsWet 5 = .ok (.aload_n 0, 1) := by decide +kernel
theorem dX8_tellsWet_6 : decode cX8_tellsWet 6 = .ok (.iconst 0, 1) := by decide +kernel
theorem dX8_tellsWet_7 : decode cX8_tellsWet 7 = .ok (.bipush 9, 2) := by decide +kernel
theorem dX8_tellsWet_9 : decode cX8_tellsWet 9 = .ok (.invokevirtual 72, 3) := by decide +kernel
theorem dX8_tellsWet_12 : decode cX8_tellsWet 12 = .ok (.ifCond .ne 5, 3) := by decide +kernel
theorem dX8_tellsWet_15 : decode cX8_tellsWet 15 = .ok (.iconst 0, 1) := by decide +kernel
theorem dX8_tellsWet_16 : decode cX8_tellsWet 16 = .ok (.ireturn, 1) := by decide +kernel
theorem dX8_tellsWet_17 : decode cX8_tellsWet 17 = .ok (.aload_n 1, 1) := by decide +kernel
theorem dX8_tellsWet_18 : decode cX8_tellsWet 18 = .ok (.aload_n 0, 1) := by decide +kernel
theorem dX8_tellsWet_19 : decode cX8_tellsWet 19 = .ok (.getfield 37, 3) := by decide +kernel
theorem dX8_tellsWet_22 : decode cX8_tellsWet 22 = .ok (.putfield 100, 3) := by decide +kernel
theorem dX8_tellsWet_25 : decode cX8_tellsWet 25 = .ok (.iconst 1, 1) := by decide +kernel
theorem dX8_tellsWet_26 : decode cX8_tellsWet 26 = .ok (.ireturn, 1) := by decide +kernel
theorem dX8_number_0 : decode cX8_number 0 = .ok (.aload_n 0, 1) := by decide +kernel
theorem dX8_number_1 : decode cX8_number 1 = .ok (.invokevirtual 31, 3) := by decide +kernel
theorem dX8_number_4 : decode cX8_number 4 = .ok (.aload_n 0, 1) := by decide +kernel
theorem dX8_number_5 : decode cX8_number 5 = .ok (.getfield 34, 3) := by decide +kernel
theorem dX8_number_8 : decode cX8_number 8 = .ok (.iconst 2, 1) := by decide +kernel
theorem dX8_number_9 : decode cX8_number 9 = .ok (.if_icmp .ne 23, 3) := by decide +kernel
theorem dX8_number_12 : decode cX8_number 12 = .ok (.aload_n 0, 1) := by decide +kernel
theorem dX8_number_13 : decode cX8_number 13 = .ok (.getfield 37, 3) := by decide +kernel
theorem dX8_number_16 : decode cX8_number 16 = .ok (.iload_n 1, 1) := by decide +kernel
theorem dX8_number_17 : decode cX8_number 17 = .ok (.if_icmp .lt 15, 3) := by decide +kernel
theorem dX8_number_20 : decode cX8_number 20 = .ok (.aload_n 0, 1) := by decide +kernel
theorem dX8_number_21 : decode cX8_number 21 = .ok (.getfield 37, 3) := by decide +kernel
theorem dX8_number_24 : decode cX8_number 24 = .ok (.iload_n 2, 1) := by decide +kernel
theorem dX8_number_25 : decode cX8_number 25 = .ok (.if_icmp .gt 7, 3) := by decide +kernel
theorem dX8_number_28 : decode cX8_number 28 = .ok (.iconst 1, 1) := by decide +kernel
theorem dX8_number_29 : decode cX8_number 29 = .ok (.goto 4, 3) := by decide +kernel
theorem dX8_number_32 : decode cX8_number 32 = .ok (.iconst 0, 1) := by decide +kernel
theorem dX8_number_33 : decode cX8_number 33 = .ok (.ireturn, 1) := by decide +kernel
theorem dX8_stops_0 : decode cX8_stops 0 = .ok (.aload_n 0, 1) := by decide +kernel
theorem dX8_stops_1 : decode cX8_stops 1 = .ok (.invokevirtual 31, 3) := by decide +kernel
theorem dX8_stops_4 : decode cX8_stops 4 = .ok (.aload_n 0, 1) := by decide +kernel
theorem dX8_stops_5 : decode cX8_stops 5 = .ok (.getfield 34, 3) := by decide +kernel
theorem dX8_stops_8 : decode cX8_stops 8 = .ok (.iconst 3, 1) := by decide +kernel
theorem dX8_stops_9 : decode cX8_stops 9 = .ok (.if_icmp .ne 7, 3) := by decide +kernel
theorem dX8_stops_12 : decode cX8_stops 12 = .ok (.iconst 1, 1) := by decide +kernel
theorem dX8_stops_13 : decode cX8_stops 13 = .ok (.goto 4, 3) := by decide +kernel
theorem dX8_stops_16 : decode cX8_stops 16 = .ok (.iconst 0, 1) := by decide +kernel
theorem dX8_stops_17 : decode cX8_stops 17 = .ok (.ireturn, 1) := by decide +kernel
theorem dX8_step_0 : decode cX8_step 0 = .ok (.aload_n 0, 1) := by decide +kernel
theorem dX8_step_1 : decode cX8_step 1 = .ok (.getfield 24, 3) := by decide +kernel
theorem dX8_step_4 : decode cX8_step 4 = .ok (.aload_n 0, 1) := by decide +kernel
theorem dX8_step_5 : decode cX8_step 5 = .ok (.getfield 15, 3) := by decide +kernel
theorem dX8_step_8 : decode cX8_step 8 = .ok (.if_icmp .ge 30, 3) := by decide +kernel
theorem dX8_step_11 : decode cX8_step 11 = .ok (.aload_n 0, 1) := by decide +kernel
theorem dX8_step_12 : decode cX8_step 12 = .ok (.getfield 9, 3) := by decide +kernel
theorem dX8_step_15 : decode cX8_step 15 = .ok (.aload_n 0, 1) := by decide +kernel
theorem dX8_step_16 : decode cX8_step 16 = .ok (.getfield 24, 3) := by decide +kernel
theorem dX8_step_19 : decode cX8_step 19 = .ok (.iaload, 1) := by decide +kernel
theorem dX8_step_20 : decode cX8_step 20 = .ok (.bipush 32, 2) := by decide +kernel
theorem dX8_step_22 : decode cX8_step 22 = .ok (.if_icmp .ne 16, 3) := by decide +kernel
theorem dX8_step_25 : decode cX8_step 25 = .ok (.aload_n 0, 1) := by decide +kernel
theorem dX8_step_26 : decode cX8_step 26 = .ok (.dup, 1) := by decide +kernel
theorem dX8_step_27 : decode cX8_step 27 = .ok (.getfield 24, 3) := by decide +kernel
theorem dX8_step_30 : decode cX8_step 30 = .ok (.iconst 1, 1) := by decide +kernel
theorem dX8_step_31 : decode cX8_step 31 = .ok (.iadd, 1) := by decide +kernel
theorem dX8_step_32 : decode cX8_step 32 = .ok (.putfield 24, 3) := by decide +kernel
theorem dX8_step_35 : decode cX8_step 35 = .ok (.goto (-35), 3) := by decide +kernel
theorem dX8_step_38 : decode cX8_step 38 = .ok (.aload_n 0, 1) := by decide +kernel
theorem dX8_step_39 : decode cX8_step 39 = .ok (.aload_n 0, 1) := by decide +kernel
theorem dX8_step_40 : decode cX8_step 40 = .ok (.getfield 24, 3) := by decide +kernel
theorem dX8_step_43 : decode cX8_step 43 = .ok (.putfield 69, 3) := by decide +kernel
theorem dX8_step_46 : decode cX8_step 46 = .ok (.aload_n 0, 1) := by decide +kernel
theorem dX8_step_47 : decode cX8_step 47 = .ok (.getfield 24, 3) := by decide +kernel
theorem dX8_step_50 : decode cX8_step 50 = .ok (.aload_n 0, 1) := by decide +kernel
theorem dX8_step_51 : decode cX8_step 51 = .ok (.getfield 15, 3) := by decide +kernel
theorem dX8_step_54 : decode cX8_step 54 = .ok (.if_icmp .lt 11, 3) := by decide +kernel
theorem dX8_step_57 : decode cX8_step 57 = .ok (.aload_n 0, 1) := by decide +kernel
theorem dX8_step_58 : decode cX8_step 58 = .ok (.iconst 0, 1) := by decide +kernel
theorem dX8_step_59 : decode cX8_step 59 = .ok (.putfield 34, 3) := by decide +kernel
theorem dX8_step_62 : decode cX8_step 62 = .ok (.goto 80, 3) := by decide +kernel
theorem dX8_step_65 : decode cX8_step 65 = .ok (.aload_n 0, 1) := by decide +kernel
theorem dX8_step_66 : decode cX8_step 66 = .ok (.getfield 9, 3) := by decide +kernel
theorem dX8_step_69 : decode cX8_step 69 = .ok (.aload_n 0, 1) := by decide +kernel
theorem dX8_step_70 : decode cX8_step 70 = .ok (.getfield 24, 3) := by decide +kernel
theorem dX8_step_73 : decode cX8_step 73 = .ok (.iaload, 1) := by decide +kernel
theorem dX8_step_74 : decode cX8_step 74 = .ok (.invokestatic 103, 3) := by decide +kernel
theorem dX8_step_77 : decode cX8_step 77 = .ok (.ifCond .eq 10, 3) := by decide +kernel
theorem dX8_step_80 : decode cX8_step 80 = .ok (.aload_n 0, 1) := by decide +kernel
theorem dX8_step_81 : decode cX8_step 81 = .ok (.invokevirtual 107, 3) := by decide +kernel
theorem dX8_step_84 : decode cX8_step 84 = .ok (.goto 58, 3) := by decide +kernel
theorem dX8_step_87 : decode cX8_step 87 = .ok (.aload_n 0, 1) := by decide +kernel
theorem dX8_step_88 : decode cX8_step 88 = .ok (.getfield 9, 3) := by decide +kernel
theorem dX8_step_91 : decode cX8_step 91 = .ok (.aload_n 0, 1) := by decide +kernel
theorem dX8_step_92 : decode cX8_step 92 = .ok (.getfield 24, 3) := by decide +kernel
theorem dX8_step_95 : decode cX8_step 95 = .ok (.iaload, 1) := by decide +kernel
theorem dX8_step_96 : decode cX8_step 96 = .ok (.invokestatic 110, 3) := by decide +kernel
theorem dX8_step_99 : decode cX8_step 99 = .ok (.ifCond .eq 10, 3) := by decide +kernel
theorem dX8_step_102 : decode cX8_step 102 = .ok (.aload_n 0, 1) := by decide +kernel
theorem dX8_step_103 : decode cX8_step 103 = .ok (.invokevirtual 113, 3) := by decide +kernel
theorem dX8_step_106 : decode cX8_step 106 = .ok (.goto 36, 3) := by decide +kernel
theorem dX8_step_109 : decode cX8_step 109 = .ok (.aload_n 0, 1) := by decide +kernel
theorem dX8_step_110 : decode cX8_step 110 = .ok (.aload_n 0, 1) := by decide +kernel
theorem dX8_step_111 : decode cX8_step 111 = .ok (.getfield 9, 3) := by decide +kernel
theorem dX8_step_114 : decode cX8_step 114 = .ok (.aload_n 0, 1) := by decide +kernel
theorem dX8_step_115 : decode cX8_step 115 = .ok (.getfield 24, 3) := by decide +kernel
theorem dX8_step_118 : decode cX8_step 118 = .ok (.iaload, 1) := by decide +kernel
theorem dX8_step_119 : decode cX8_step 119 = .ok (.bipush 59, 2) := by decide +kernel
theorem dX8_step_121 : decode cX8_step 121 = .ok (.if_icmp .ne 7, 3) := by decide +kernel
theorem dX8_step_124 : decode cX8_step 124 = .ok (.iconst 3, 1) := by decide +kernel
theorem dX8_step_125 : decode cX8_step 125 = .ok (.goto 4, 3) := by decide +kernel
theorem dX8_step_128 : decode cX8_step 128 = .ok (.iconst 4, 1) := by decide +kernel
theorem dX8_step_129 : decode cX8_step 129 = .ok (.putfield 34, 3) := by decide +kernel
theorem dX8_step_132 : decode cX8_step 132 = .ok (.aload_n 0, 1) := by decide +kernel
theorem dX8_step_133 : decode cX8_step 133 = .ok (.dup, 1) := by decide +kernel
theorem dX8_step_134 : decode cX8_step 134 = .ok (.getfield 24, 3) := by decide +kernel
theorem dX8_step_137 : decode cX8_step 137 = .ok (.iconst 1, 1) := by decide +kernel
theorem dX8_step_138 : decode cX8_step 138 = .ok (.iadd, 1) := by decide +kernel
theorem dX8_step_139 : decode cX8_step 139 = .ok (.putfield 24, 3) := by decide +kernel
theorem dX8_step_142 : decode cX8_step 142 = .ok (.return_, 1) := by decide +kernel
theorem dX8_stepLetters_0 : decode cX8_stepLetters 0 = .ok (.aload_n 0, 1) := by decide +kernel
theorem dX8_stepLetters_1 : decode cX8_stepLetters 1 = .ok (.iconst 1, 1) := by decide +kernel
theorem dX8_stepLetters_2 : decode cX8_stepLetters 2 = .ok (.putfield 34, 3) := by decide +kernel
theorem dX8_stepLetters_5 : decode cX8_stepLetters 5 = .ok (.aload_n 0, 1) := by decide +kernel
theorem dX8_stepLetters_6 : decode cX8_stepLetters 6 = .ok (.aload_n 0, 1) := by decide +kernel
theorem dX8_stepLetters_7 : decode cX8_stepLetters 7 = .ok (.getfield 9, 3) := by decide +kernel
theorem dX8_stepLetters_10 : decode cX8_stepLetters 10 = .ok (.aload_n 0, 1) := by decide +kernel
theorem dX8_stepLetters_11 : decode cX8_stepLetters 11 = .ok (.getfield 69, 3) := by decide +kernel
theorem dX8_stepLetters_14 : decode cX8_stepLetters 14 = .ok (.iaload, 1) := by decide +kernel
theorem dX8_stepLetters_15 : decode cX8_stepLetters 15 = .ok (.putfield 37, 3) := by decide +kernel
theorem dX8_stepLetters_18 : decode cX8_stepLetters 18 = .ok (.aload_n 0, 1) := by decide +kernel
theorem dX8_stepLetters_19 : decode cX8_stepLetters 19 = .ok (.dup, 1) := by decide +kernel
theorem dX8_stepLetters_20 : decode cX8_stepLetters 20 = .ok (.getfield 24, 3) := by decide +kernel
theorem dX8_stepLetters_23 : decode cX8_stepLetters 23 = .ok (.iconst 1, 1) := by decide +kernel
theorem dX8_stepLetters_24 : decode cX8_stepLetters 24 = .ok (.iadd, 1) := by decide +kernel
theorem dX8_stepLetters_25 : decode cX8_stepLetters 25 = .ok (.putfield 24, 3) := by decide +kernel
theorem dX8_stepLetters_28 : decode cX8_stepLetters 28 = .ok (.aload_n 0, 1) := by decide +kernel
theorem dX8_stepLetters_29 : decode cX8_stepLetters 29 = .ok (.getfield 24, 3) := by decide +kernel
theorem dX8_stepLetters_32 : decode cX8_stepLetters 32 = .ok (.aload_n 0, 1) := by decide +kernel
theorem dX8_stepLetters_33 : decode cX8_stepLetters 33 = .ok (.getfield 15, 3) := by decide +kernel
theorem dX8_stepLetters_36 : decode cX8_stepLetters 36 = .ok (.if_icmp .ge 36, 3) := by decide +kernel
theorem dX8_stepLetters_39 : decode cX8_stepLetters 39 = .ok (.aload_n 0, 1) := by decide +kernel
theorem dX8_stepLetters_40 : decode cX8_stepLetters 40 = .ok (.getfield 9, 3) := by decide +kernel
theorem dX8_stepLetters_43 : decode cX8_stepLetters 43 = .ok (.aload_n 0, 1) := by decide +kernel
theorem dX8_stepLetters_44 : decode cX8_stepLetters 44 = .ok (.getfield 24, 3) := by decide +kernel
theorem dX8_stepLetters_47 : decode cX8_stepLetters 47 = .ok (.iaload, 1) := by decide +kernel
theorem dX8_stepLetters_48 : decode cX8_stepLetters 48 = .ok (.invokestatic 103, 3) := by decide +kernel
theorem dX8_stepLetters_51 : decode cX8_stepLetters 51 = .ok (.ifCond .eq 21, 3) := by decide +kernel
theorem dX8_stepLetters_54 : decode cX8_stepLetters 54 = .ok (.aload_n 0, 1) := by decide +kernel
theorem dX8_stepLetters_55 : decode cX8_stepLetters 55 = .ok (.iconst 0, 1) := by decide +kernel
theorem dX8_stepLetters_56 : decode cX8_stepLetters 56 = .ok (.putfield 37, 3) := by decide +kernel
theorem dX8_stepLetters_59 : decode cX8_stepLetters 59 = .ok (.aload_n 0, 1) := by decide +kernel
theorem dX8_stepLetters_60 : decode cX8_stepLetters 60 = .ok (.dup, 1) := by decide +kernel
theorem dX8_stepLetters_61 : decode cX8_stepLetters 61 = .ok (.getfield 24, 3) := by decide +kernel
theorem dX8_stepLetters_64 : decode cX8_stepLetters 64 = .ok (.iconst 1, 1) := by decide +kernel
theorem dX8_stepLetters_65 : decode cX8_stepLetters 65 = .ok (.iadd, 1) := by decide +kernel
theorem dX8_stepLetters_66 : decode cX8_stepLetters 66 = .ok (.putfield 24, 3) := by decide +kernel
theorem dX8_stepLetters_69 : decode cX8_stepLetters 69 = .ok (.goto (-41), 3) := by decide +kernel
theorem dX8_stepLetters_72 : decode cX8_stepLetters 72 = .ok (.return_, 1) := by decide +kernel
theorem dX8_stepNumber_0 : decode cX8_stepNumber 0 = .ok (.aload_n 0, 1) := by decide +kernel
theorem dX8_stepNumber_1 : decode cX8_stepNumber 1 = .ok (.iconst 0, 1) := by decide +kernel
theorem dX8_stepNumber_2 : decode cX8_stepNumber 2 = .ok (.putfield 37, 3) := by decide +kernel
theorem dX8_stepNumber_5 : decode cX8_stepNumber 5 = .ok (.aload_n 0, 1) := by decide +kernel
theorem dX8_stepNumber_6 : decode cX8_stepNumber 6 = .ok (.getfield 24, 3) := by decide +kernel
theorem dX8_stepNumber_9 : decode cX8_stepNumber 9 = .ok (.aload_n 0, 1) := by decide +kernel
theorem dX8_stepNumber_10 : decode cX8_stepNumber 10 = .ok (.getfield 15, 3) := by decide +kernel
theorem dX8_stepNumber_13 : decode cX8_stepNumber 13 = .ok (.if_icmp .ge 60, 3) := by decide +kernel
theorem dX8_stepNumber_16 : decode cX8_stepNumber 16 = .ok (.aload_n 0, 1) := by decide +kernel
theorem dX8_stepNumber_17 : decode cX8_stepNumber 17 = .ok (.getfield 9, 3) := by decide +kernel
theorem dX8_stepNumber_20 : decode cX8_stepNumber 20 = .ok (.aload_n 0, 1) := by decide +kernel
theorem dX8_stepNumber_21 : decode cX8_stepNumber 21 = .ok (.getfield 24, 3) := by decide +kernel
theorem dX8_stepNumber_24 : decode cX8_stepNumber 24 = .ok (.iaload, 1) := by decide +kernel
theorem dX8_stepNumber_25 : decode cX8_stepNumber 25 = .ok (.invokestatic 110, 3) := by decide +kernel
theorem dX8_stepNumber_28 : decode cX8_stepNumber 28 = .ok (.ifCond .eq 45, 3) := by decide +kernel
theorem dX8_stepNumber_31 : decode cX8_stepNumber 31 = .ok (.aload_n 0, 1) := by decide +kernel
theorem dX8_stepNumber_32 : decode cX8_stepNumber 32 = .ok (.bipush 100, 2) := by decide +kernel
theorem dX8_stepNumber_34 : decode cX8_stepNumber 34 = .ok (.aload_n 0, 1) := by decide +kernel
theorem dX8_stepNumber_35 : decode cX8_stepNumber 35 = .ok (.getfield 37, 3) := by decide +kernel
theorem dX8_stepNumber_38 : decode cX8_stepNumber 38 = .ok (.bipush 10, 2) := by decide +kernel
theorem dX8_stepNumber_40 : decode cX8_stepNumber 40 = .ok (.imul, 1) := by decide +kernel
theorem dX8_stepNumber_41 : decode cX8_stepNumber 41 = .ok (.aload_n 0, 1) := by decide +kernel
theorem dX8_stepNumber_42 : decode cX8_stepNumber 42 = .ok (.getfield 9, 3) := by decide +kernel
theorem dX8_stepNumber_45 : decode cX8_stepNumber 45 = .ok (.aload_n 0, 1) := by decide +kernel
theorem dX8_stepNumber_46 : decode cX8_stepNumber 46 = .ok (.getfield 24, 3) := by decide +kernel
theorem dX8_stepNumber_49 : decode cX8_stepNumber 49 = .ok (.iaload, 1) := by decide +kernel
theorem dX8_stepNumber_50 : decode cX8_stepNumber 50 = .ok (.iadd, 1) := by decide +kernel
theorem dX8_stepNumber_51 : decode cX8_stepNumber 51 = .ok (.bipush 48, 2) := by decide +kernel
theorem dX8_stepNumber_53 : decode cX8_stepNumber 53 = .ok (.isub, 1) := by decide +kernel
theorem dX8_stepNumber_54 : decode cX8_stepNumber 54 = .ok (.invokestatic 116, 3) := by decide +kernel
theorem dX8_stepNumber_57 : decode cX8_stepNumber 57 = .ok (.putfield 37, 3) := by decide +kernel
theorem dX8_stepNumber_60 : decode cX8_stepNumber 60 = .ok (.aload_n 0, 1) := by decide +kernel
theorem dX8_stepNumber_61 : decode cX8_stepNumber 61 = .ok (.dup, 1) := by decide +kernel
theorem dX8_stepNumber_62 : decode cX8_stepNumber 62 = .ok (.getfield 24, 3) := by decide +kernel
theorem dX8_stepNumber_65 : decode cX8_stepNumber 65 = .ok (.iconst 1, 1) := by decide +kernel
theorem dX8_stepNumber_66 : decode cX8_stepNumber 66 = .ok (.iadd, 1) := by decide +kernel
theorem dX8_stepNumber_67 : decode cX8_stepNumber 67 = .ok (.putfield 24, 3) := by decide +kernel
theorem dX8_stepNumber_70 : decode cX8_stepNumber 70 = .ok (.goto (-65), 3) := by decide +kernel
theorem dX8_stepNumber_73 : decode cX8_stepNumber 73 = .ok (.aload_n 0, 1) := by decide +kernel
theorem dX8_stepNumber_74 : decode cX8_stepNumber 74 = .ok (.getfield 9, 3) := by decide +kernel
theorem dX8_stepNumber_77 : decode cX8_stepNumber 77 = .ok (.aload_n 0, 1) := by decide +kernel
theorem dX8_stepNumber_78 : decode cX8_stepNumber 78 = .ok (.getfield 69, 3) := by decide +kernel
theorem dX8_stepNumber_81 : decode cX8_stepNumber 81 = .ok (.iaload, 1) := by decide +kernel
theorem dX8_stepNumber_82 : decode cX8_stepNumber 82 = .ok (.bipush 48, 2) := by decide +kernel
theorem dX8_stepNumber_84 : decode cX8_stepNumber 84 = .ok (.if_icmp .ne 20, 3) := by decide +kernel
theorem dX8_stepNumber_87 : decode cX8_stepNumber 87 = .ok (.aload_n 0, 1) := by decide +kernel
theorem dX8_stepNumber_88 : decode cX8_stepNumber 88 = .ok (.getfield 24, 3) := by decide +kernel
theorem dX8_stepNumber_91 : decode cX8_stepNumber 91 = .ok (.aload_n 0, 1) := by decide +kernel
theorem dX8_stepNumber_92 : decode cX8_stepNumber 92 = .ok (.getfield 69, 3) := by decide +kernel
theorem dX8_stepNumber_95 : decode cX8_stepNumber 95 = .ok (.isub, 1) := by decide +kernel
theorem dX8_stepNumber_96 : decode cX8_stepNumber 96 = .ok (.iconst 1, 1) := by decide +kernel
theorem dX8_stepNumber_97 : decode cX8_stepNumber 97 = .ok (.if_icmp .le 7, 3) := by decide +kernel
theorem dX8_stepNumber_100 : decode cX8_stepNumber 100 = .ok (.iconst 1, 1) := by decide +kernel
theorem dX8_stepNumber_101 : decode cX8_stepNumber 101 = .ok (.goto 4, 3) := by decide +kernel
theorem dX8_stepNumber_104 : decode cX8_stepNumber 104 = .ok (.iconst 0, 1) := by decide +kernel
theorem dX8_stepNumber_105 : decode cX8_stepNumber 105 = .ok (.istore_n 1, 1) := by decide +kernel
theorem dX8_stepNumber_106 : decode cX8_stepNumber 106 = .ok (.aload_n 0, 1) := by decide +kernel
theorem dX8_stepNumber_107 : decode cX8_stepNumber 107 = .ok (.iload_n 1, 1) := by decide +kernel
theorem dX8_stepNumber_108 : decode cX8_stepNumber 108 = .ok (.ifCond .ne 12, 3) := by decide +kernel
theorem dX8_stepNumber_111 : decode cX8_stepNumber 111 = .ok (.aload_n 0, 1) := by decide +kernel
theorem dX8_stepNumber_112 : decode cX8_stepNumber 112 = .ok (.getfield 37, 3) := by decide +kernel
theorem dX8_stepNumber_115 : decode cX8_stepNumber 115 = .ok (.bipush 99, 2) := by decide +kernel
theorem dX8_stepNumber_117 : decode cX8_stepNumber 117 = .ok (.if_icmp .le 7, 3) := by decide +kernel
theorem dX8_stepNumber_120 : decode cX8_stepNumber 120 = .ok (.iconst 4, 1) := by decide +kernel
theorem dX8_stepNumber_121 : decode cX8_stepNumber 121 = .ok (.goto 4, 3) := by decide +kernel
theorem dX8_stepNumber_124 : decode cX8_stepNumber 124 = .ok (.iconst 2, 1) := by decide +kernel
theorem dX8_stepNumber_125 : decode cX8_stepNumber 125 = .ok (.putfield 34, 3) := by decide +kernel
theorem dX8_stepNumber_128 : decode cX8_stepNumber 128 = .ok (.return_, 1) := by decide +kernel
theorem dX8_isLetter_0 : decode cX8_isLetter 0 = .ok (.iload_n 0, 1) := by decide +kernel
theorem dX8_isLetter_1 : decode cX8_isLetter 1 = .ok (.bipush 97, 2) := by decide +kernel
theorem dX8_isLetter_3 : decode cX8_isLetter 3 = .ok (.if_icmp .lt 13, 3) := by decide +kernel
theorem dX8_isLetter_6 : decode cX8_isLetter 6 = .ok (.iload_n 0, 1) := by decide +kernel
theorem dX8_isLetter_7 : decode cX8_isLetter 7 = .ok (.bipush 122, 2) := by decide +kernel
theorem dX8_isLetter_9 : decode cX8_isLetter 9 = .ok (.if_icmp .gt 7, 3) := by decide +kernel
theorem dX8_isLetter_12 : decode cX8_isLetter 12 = .ok (.iconst 1, 1) := by decide +kernel
theorem dX8_isLetter_13 : decode cX8_isLetter 13 = .ok (.goto 4, 3) := by decide +kernel
theorem dX8_isLetter_16 : decode cX8_isLetter 16 = .ok (.iconst 0, 1) := by decide +kernel
theorem dX8_isLetter_17 : decode cX8_isLetter 17 = .ok (.ireturn, 1) := by decide +kernel
theorem dX8_isDigit_0 : decode cX8_isDigit 0 = .ok (.iload_n 0, 1) := by decide +kernel
theorem dX8_isDigit_1 : decode cX8_isDigit 1 = .ok (.bipush 48, 2) := by decide +kernel
theorem dX8_isDigit_3 : decode cX8_isDigit 3 = .ok (.if_icmp .lt 13, 3) := by decide +kernel
theorem dX8_isDigit_6 : decode cX8_isDigit 6 = .ok (.iload_n 0, 1) := by decide +kernel
theorem dX8_isDigit_7 : decode cX8_isDigit 7 = .ok (.bipush 57, 2) := by decide +kernel
theorem dX8_isDigit_9 : decode cX8_isDigit 9 = .ok (.if_icmp .gt 7, 3) := by decide +kernel
theorem dX8_isDigit_12 : decode cX8_isDigit 12 = .ok (.iconst 1, 1) := by decide +kernel
theorem dX8_isDigit_13 : decode cX8_isDigit 13 = .ok (.goto 4, 3) := by decide +kernel
theorem dX8_isDigit_16 : decode cX8_isDigit 16 = .ok (.iconst 0, 1) := by decide +kernel
theorem dX8_isDigit_17 : decode cX8_isDigit 17 = .ok (.ireturn, 1) := by decide +kernel
theorem dX9_init_0 : decode cX9_init 0 = .ok (.aload_n 0, 1) := by decide +kernel
theorem dX9_init_1 : decode cX9_init 1 = .ok (.invokespecial 1, 3) := by decide +kernel
theorem dX9_init_4 : decode cX9_init 4 = .ok (.aload_n 0, 1) := by decide +kernel
theorem dX9_init_5 : decode cX9_init 5 = .ok (.new 7, 3) := by decide +kernel
theorem dX9_init_8 : decode cX9_init 8 = .ok (.dup, 1) := by decide +kernel
theorem dX9_init_9 : decode cX9_init 9 = .ok (.invokespecial 9, 3) := by decide +kernel
theorem dX9_init_12 : decode cX9_init 12 = .ok (.putfield 10, 3) := by decide +kernel
theorem dX9_init_15 : decode cX9_init 15 = .ok (.aload_n 0, 1) := by decide +kernel
theorem dX9_init_16 : decode cX9_init 16 = .ok (.new 16, 3) := by decide +kernel
theorem dX9_init_19 : decode cX9_init 19 = .ok (.dup, 1) := by decide +kernel
theorem dX9_init_20 : decode cX9_init 20 = .ok (.invokespecial 18, 3) := by decide +kernel
theorem dX9_init_23 : decode cX9_init 23 = .ok (.putfield 19, 3) := by decide +kernel
theorem dX9_init_26 : decode cX9_init 26 = .ok (.aload_n 0, 1) := by decide +kernel
theorem dX9_init_27 : decode cX9_init 27 = .ok (.new 16, 3) := by decide +kernel
theorem dX9_init_30 : decode cX9_init 30 = .ok (.dup, 1) := by decide +kernel
theorem dX9_init_31 : decode cX9_init 31 = .ok (.invokespecial 18, 3) := by decide +kernel
theorem dX9_init_34 : decode cX9_init 34 = .ok (.putfield 23, 3) := by decide +kernel
theorem dX9_init_37 : decode cX9_init 37 = .ok (.aload_n 0, 1) := by decide +kernel
theorem dX9_init_38 : decode cX9_init 38 = .ok (.new 26, 3) := by decide +kernel
theorem dX9_init_41 : decode cX9_init 41 = .ok (.dup, 1) := by decide +kernel
theorem dX9_init_42 : decode cX9_init 42 = .ok (.invokespecial 28, 3) := by decide +kernel
theorem dX9_init_45 : decode cX9_init 45 = .ok (.putfield 29, 3) := by decide +kernel
theorem dX9_init_48 : decode cX9_init 48 = .ok (.aload_n 0, 1) := by decide +kernel
theorem dX9_init_49 : decode cX9_init 49 = .ok (.new 33, 3) := by decide +kernel
theorem dX9_init_52 : decode cX9_init 52 = .ok (.dup, 1) := by decide +kernel
theorem dX9_init_53 : decode cX9_init 53 = .ok (.aload_n 0, 1) := by decide +kernel
theorem dX9_init_54 : decode cX9_init 54 = .ok (.getfield 19, 3) := by decide +kernel
theorem dX9_init_57 : decode cX9_init 57 = .ok (.aload_n 0, 1) := by decide +kernel
theorem dX9_init_58 : decode cX9_init 58 = .ok (.getfield 29, 3) := by decide +kernel
theorem dX9_init_61 : decode cX9_init 61 = .ok (.invokespecial 35, 3) := by decide +kernel
theorem dX9_init_64 : decode cX9_init 64 = .ok (.putfield 38, 3) := by decide +kernel
theorem dX9_init_67 : decode cX9_init 67 = .ok (.aload_n 0, 1) := by decide +kernel
theorem dX9_init_68 : decode cX9_init 68 = .ok (.new 42, 3) := by decide +kernel
theorem dX9_init_71 : decode cX9_init 71 = .ok (.dup, 1) := by decide +kernel
theorem dX9_init_72 : decode cX9_init 72 = .ok (.invokespecial 44, 3) := by decide +kernel
theorem dX9_init_75 : decode cX9_init 75 = .ok (.putfield 45, 3) := by decide +kernel
theorem dX9_init_78 : decode cX9_init 78 = .ok (.aload_n 0, 1) := by decide +kernel
theorem dX9_init_79 : decode cX9_init 79 = .ok (.iconst 2, 1) := by decide +kernel
theorem dX9_init_80 : decode cX9_init 80 = .ok (.anewarray 49, 3) := by decide +kernel
theorem dX9_init_83 : decode cX9_init 83 = .ok (.putfield 51, 3) := by decide +kernel
theorem dX9_init_86 : decode cX9_init 86 = .ok (.aload_n 0, 1) := by decide +kernel
theorem dX9_init_87 : decode cX9_init 87 = .ok (.new 55, 3) := by decide +kernel
theorem dX9_init_90 : decode cX9_init 90 = .ok (.dup, 1) := by decide +kernel
theorem dX9_init_91 : decode cX9_init 91 = .ok (.aload_n 0, 1) := by decide +kernel
theorem dX9_init_92 : decode cX9_init 92 = .ok (.getfield 38, 3) := by decide +kernel
theorem dX9_init_95 : decode cX9_init 95 = .ok (.invokespecial 57, 3) := by decide +kernel
theorem dX9_init_98 : decode cX9_init 98 = .ok (.putfield 60, 3) := by decide +kernel
theorem dX9_init_101 : decode cX9_init 101 = .ok (.aload_n 0, 1) := by decide +kernel
theorem dX9_init_102 : decode cX9_init 102 = .ok (.new 64, 3) := by decide +kernel
theorem dX9_init_105 : decode cX9_init 105 = .ok (.dup, 1) := by decide +kernel
theorem dX9_init_106 : decode cX9_init 106 = .ok (.aload_n 0, 1) := by decide +kernel
theorem dX9_init_107 : decode cX9_init 107 = .ok (.getfield 38, 3) := by decide +kernel
theorem dX9_init_110 : decode cX9_init 110 = .ok (.invokespecial 66, 3) := by decide +kernel
theorem dX9_init_113 : decode cX9_init 113 = .ok (.putfield 67, 3) := by decide +kernel
theorem dX9_init_116 : decode cX9_init 116 = .ok (.aload_n 0, 1) := by decide +kernel
theorem dX9_init_117 : decode cX9_init 117 = .ok (.new 71, 3) := by decide +kernel
theorem dX9_init_120 : decode cX9_init 120 = .ok (.dup, 1) := by decide +kernel
theorem dX9_init_121 : decode cX9_init 121 = .ok (.aload_n 0, 1) := by decide +kernel
theorem dX9_init_122 : decode cX9_init 122 = .ok (.getfield 38, 3) := by decide +kernel
theorem dX9_init_125 : decode cX9_init 125 = .ok (.invokespecial 73, 3) := by decide +kernel
theorem dX9_init_128 : decode cX9_init 128 = .ok (.putfield 74, 3) := by decide +kernel
theorem dX9_init_131 : decode cX9_init 131 = .ok (.iconst 0, 1) := by decide +kernel
theorem dX9_init_132 : decode cX9_init 132 = .ok (.istore_n 1, 1) := by decide +kernel
theorem dX9_init_133 : decode cX9_init 133 = .ok (.iload_n 1, 1) := by decide +kernel
theorem dX9_init_134 : decode cX9_init 134 = .ok (.iconst 2, 1) := by decide +kernel
theorem dX9_init_135 : decode cX9_init 135 = .ok (.if_icmp .ge 22, 3) := by decide +kernel
theorem dX9_init_138 : decode cX9_init 138 = .ok (.aload_n 0, 1) := by decide +kernel
theorem dX9_init_139 : decode cX9_init 139 = .ok (.getfield 51, 3) := by decide +kernel
theorem dX9_init_142 : decode cX9_init 142 = .ok (.iload_n 1, 1) := by decide +kernel
theorem dX9_init_143 : decode cX9_init 143 = .ok (.new 49, 3) := by decide +kernel
theorem dX9_init_146 : decode cX9_init 146 = .ok (.dup, 1) := by decide +kernel
theorem dX9_init_147 : decode cX9_init 147 = .ok (.invokespecial 78, 3) := by decide +kernel
theorem dX9_init_150 : decode cX9_init 150 = .ok (.aastore, 1) := by decide +kernel
theorem dX9_init_151 : decode cX9_init 151 = .ok (.iinc 1 1, 3) := by decide +kernel
theorem dX9_init_154 : decode cX9_init 154 = .ok (.goto (-21), 3) := by decide +kernel
theorem dX9_init_157 : decode cX9_init 157 = .ok (.aload_n 0, 1) := by decide +kernel
theorem dX9_init_158 : decode cX9_init 158 = .ok (.getfield 19, 3) := by decide +kernel
theorem dX9_init_161 : decode cX9_init 161 = .ok (.invokevirtual 79, 3) := by decide +kernel
theorem dX9_init_164 : decode cX9_init 164 = .ok (.aload_n 0, 1) := by decide +kernel
theorem dX9_init_165 : decode cX9_init 165 = .ok (.invokevirtual 82, 3) := by decide +kernel
theorem dX9_init_168 : decode cX9_init 168 = .ok (.return_, 1) := by decide +kernel
theorem dX9_type_0 : decode cX9_type 0 = .ok (.iload_n 1, 1) := by decide +kernel
theorem dX9_type_1 : decode cX9_type 1 = .ok (.ifCond .lt 10, 3) := by decide +kernel
theorem dX9_type_4 : decode cX9_type 4 = .ok (.iload_n 1, 1) := by decide +kernel
theorem dX9_type_5 : decode cX9_type 5 = .ok (.sipush 255, 3) := by decide +kernel
theorem dX9_type_8 : decode cX9_type 8 = .ok (.if_icmp .le 5, 3) := by decide +kernel
theorem dX9_type_11 : decode cX9_type 11 = .ok (.iconst (-1), 1) := by decide +kernel
theorem dX9_type_12 : decode cX9_type 12 = .ok (.ireturn, 1) := by decide +kernel
theorem dX9_type_13 : decode cX9_type 13 = .ok (.aload_n 0, 1) := by decide +kernel
theorem dX9_type_14 : decode cX9_type 14 = .ok (.getfield 10, 3) := by decide +kernel
theorem dX9_type_17 : decode cX9_type 17 = .ok (.iload_n 1, 1) := by decide +kernel
theorem dX9_type_18 : decode cX9_type 18 = .ok (.invokevirtual 85, 3) := by decide +kernel
theorem dX9_type_21 : decode cX9_type 21 = .ok (.ifCond .eq 13, 3) := by decide +kernel
theorem dX9_type_24 : decode cX9_type 24 = .ok (.aload_n 0, 1) := by decide +kernel
theorem dX9_type_25 : decode cX9_type 25 = .ok (.getfield 10, 3) := by decide +kernel
theorem dX9_type_28 : decode cX9_type 28 = .ok (.getfield 89, 3) := by decide +kernel
theorem dX9_type_31 : decode cX9_type 31 = .ok (.goto 5, 3) := by decide +kernel
theorem dX9_type_34 : decode cX9_type 34 = .ok (.bipush (-3), 2) := by decide +kernel
theorem dX9_type_36 : decode cX9_type 36 = .ok (.ireturn, 1) := by decide +kernel
theorem dX9_clear_0 : decode cX9_clear 0 = .ok (.aload_n 0, 1) := by decide +kernel
theorem dX9_clear_1 : decode cX9_clear 1 = .ok (.getfield 10, 3) := by decide +kernel
theorem dX9_clear_4 : decode cX9_clear 4 = .ok (.getfield 89, 3) := by decide +kernel
theorem dX9_clear_7 : decode cX9_clear 7 = .ok (.istore_n 1, 1) := by decide +kernel
theorem dX9_clear_8 : decode cX9_clear 8 = .ok (.aload_n 0, 1) := by decide +kernel
theorem dX9_clear_9 : decode cX9_clear 9 = .ok (.getfield 10, 3) := by decide +kernel
theorem dX9_clear_12 : decode cX9_clear 12 = .ok (.iconst 0, 1) := by decide +kernel
theorem dX9_clear_13 : decode cX9_clear 13 = .ok (.putfield 89, 3) := by decide +kernel
theorem dX9_clear_16 : decode cX9_clear 16 = .ok (.iload_n 1, 1) := by decide +kernel
theorem dX9_clear_17 : decode cX9_clear 17 = .ok (.ireturn, 1) := by decide +kernel
theorem dX9_downs_0 : decode cX9_downs 0 = .ok (.aload_n 0, 1) := by decide +kernel
theorem dX9_downs_1 : decode cX9_downs 1 = .ok (.getfield 10, 3) := by decide +kernel
theorem dX9_downs_4 : decode cX9_downs 4 = .ok (.aload_n 0, 1) := by decide +kernel
theorem dX9_downs_5 : decode cX9_downs 5 = .ok (.getfield 23, 3) := by decide +kernel
theorem dX9_downs_8 : decode cX9_downs 8 = .ok (.invokevirtual 93, 3) := by decide +kernel
theorem dX9_downs_11 : decode cX9_downs 11 = .ok (.istore_n 1, 1) := by decide +kernel
theorem dX9_downs_12 : decode cX9_downs 12 = .ok (.iload_n 1, 1) := by decide +kernel
theorem dX9_downs_13 : decode cX9_downs 13 = .ok (.ifCond .ge 5, 3) := by decide +kernel
theorem dX9_downs_16 : decode cX9_downs 16 = .ok (.iload_n 1, 1) := by decide +kernel
theorem dX9_downs_17 : decode cX9_downs 17 = .ok (.ireturn, 1) := by decide +kernel
theorem dX9_downs_18 : decode cX9_downs 18 = .ok (.aload_n 0, 1) := by decide +kernel
theorem dX9_downs_19 : decode cX9_downs 19 = .ok (.getfield 10, 3) := by decide +kernel
theorem dX9_downs_22 : decode cX9_downs 22 = .ok (.iconst 0, 1) := by decide +kernel
theorem dX9_downs_23 : decode cX9_downs 23 = .ok (.putfield 89, 3) := by decide +kernel
theorem dX9_downs_26 : decode cX9_downs 26 = .ok (.aload_n 0, 1) := by decide +kernel
theorem dX9_downs_27 : decode cX9_downs 27 = .ok (.getfield 19, 3) := by decide +kernel
theorem dX9_downs_30 : decode cX9_downs 30 = .ok (.aload_n 0, 1) := by decide +kernel
theorem dX9_downs_31 : decode cX9_downs 31 = .ok (.getfield 23, 3) := by decide +kernel
theorem dX9_downs_34 : decode cX9_downs 34 = .ok (.invokevirtual 97, 3) := by decide +kernel
theorem dX9_downs_37 : decode cX9_downs 37 = .ok (.aload_n 0, 1) := by decide +kernel
theorem dX9_downs_38 : decode cX9_downs 38 = .ok (.invokevirtual 82, 3) := by decide +kernel
theorem dX9_downs_41 : decode cX9_downs 41 = .ok (.iload_n 1, 1) := by decide +kernel
theorem dX9_downs_42 : decode cX9_downs 42 = .ok (.ireturn, 1) := by decide +kernel
theorem dX9_fence_0 : decode cX9_fence 0 = .ok (.aload_n 0, 1) := by decide +kernel
theorem dX9_fence_1 : decode cX9_fence 1 = .ok (.iload_n 1, 1) := by decide +kernel
theorem dX9_fence_2 : decode cX9_fence 2 = .ok (.invokevirtual 101, 3) := by decide +kernel
theorem dX9_fence_5 : decode cX9_fence 5 = .ok (.ifCond .ne 5, 3) := by decide +kernel
theorem dX9_fence_8 : decode cX9_fence 8 = .ok (.iconst (-1), 1) := by decide +kernel
theorem dX9_fence_9 : decode cX9_fence 9 = .ok (.ireturn, 1) := by decide +kernel
theorem dX9_fence_10 : decode cX9_fence 10 = .ok (.iload_n 2, 1) := by decide +kernel
theorem dX9_fence_11 : decode cX9_fence 11 = .ok (.tableswitch 87 0 4 #[33, 43, 53, 63, 75], 33) := by decide +kernel
theorem dX9_fence_44 : decode cX9_fence 44 = .ok (.aload_n 0, 1) := by decide +kernel
theorem dX9_fence_45 : decode cX9_fence 45 = .ok (.getfield 19, 3) := by decide +kernel
theorem dX9_fence_48 : decode cX9_fence 48 = .ok (.getfield 104, 3) := by decide +kernel
theorem dX9_fence_51 : decode cX9_fence 51 = .ok (.iload_n 1, 1) := by decide +kernel
theorem dX9_fence_52 : decode cX9_fence 52 = .ok (.iaload, 1) := by decide +kernel
theorem dX9_fence_53 : decode cX9_fence 53 = .ok (.ireturn, 1) := by decide +kernel
theorem dX9_fence_54 : decode cX9_fence 54 = .ok (.aload_n 0, 1) := by decide +kernel
theorem dX9_fence_55 : decode cX9_fence 55 = .ok (.getfield 19, 3) := by decide +kernel
theorem dX9_fence_58 : decode cX9_fence 58 = .ok (.getfield 108, 3) := by decide +kernel
theorem dX9_fence_61 : decode cX9_fence 61 = .ok (.iload_n 1, 1) := by decide +kernel
theorem dX9_fence_62 : decode cX9_fence 62 = .ok (.iaload, 1) := by decide +kernel
theorem dX9_fence_63 : decode cX9_fence 63 = .ok (.ireturn, 1) := by decide +kernel
theorem dX9_fence_64 : decode cX9_fence 64 = .ok (.aload_n 0, 1) := by decide +kernel
theorem dX9_fence_65 : decode cX9_fence 65 = .ok (.getfield 29, 3) := by decide +kernel
theorem dX9_fence_68 : decode cX9_fence 68 = .ok (.getfield 111, 3) := by decide +kernel
theorem dX9_fence_71 : decode cX9_fence 71 = .ok (.iload_n 1, 1) := by decide +kernel
theorem dX9_fence_72 : decode cX9_fence 72 = .ok (.iaload, 1) := by decide +kernel
theorem dX9_fence_73 : decode cX9_fence 73 = .ok (.ireturn, 1) := by decide +kernel
theorem dX9_fence_74 : decode cX9_fence 74 = .ok (.aload_n 0, 1) := by decide +kernel
theorem dX9_fence_75 : decode cX9_fence 75 = .ok (.getfield 29, 3) := by decide +kernel
theorem dX9_fence_78 : decode cX9_fence 78 = .ok (.getfield 114, 3) := by decide +kernel
theorem dX9_fence_81 : decode cX9_fence 81 = .ok (.iload_n 1, 1) := by decide +kernel
theorem dX9_fence_82 : decode cX9_fence 82 = .ok (.ishr, 1) := by decide +kernel
theorem dX9_fence_83 : decode cX9_fence 83 = .ok (.iconst 1, 1) := by decide +kernel
theorem dX9_fence_84 : decode cX9_fence 84 = .ok (.iand, 1) := by decide +kernel
theorem dX9_fence_85 : decode cX9_fence 85 = .ok (.ireturn, 1) := by decide +kernel
theorem dX9_fence_86 : decode cX9_fence 86 = .ok (.aload_n 0, 1) := by decide +kernel
theorem dX9_fence_87 : decode cX9_fence 87 = .ok (.getfield 29, 3) := by decide +kernel
theorem dX9_fence_90 : decode cX9_fence 90 = .ok (.getfield 117, 3) := by decide +kernel
theorem dX9_fence_93 : decode cX9_fence 93 = .ok (.iload_n 1, 1) := by decide +kernel
theorem dX9_fence_94 : decode cX9_fence 94 = .ok (.ishr, 1) := by decide +kernel
theorem dX9_fence_95 : decode cX9_fence 95 = .ok (.iconst 1, 1) := by decide +kernel
theorem dX9_fence_96 : decode cX9_fence 96 = .ok (.iand, 1) := by decide +kernel
theorem dX9_fence_97 : decode cX9_fence 97 = .ok (.ireturn, 1) := by decide +kernel
theorem dX9_fence_98 : decode cX9_fence 98 = .ok (.iconst (-1), 1) := by decide +kernel
theorem dX9_fence_99 : decode cX9_fence 99 = .ok (.ireturn, 1) := by decide +kernel
theorem dX9_kind_0 : decode cX9_kind 0 = .ok (.aload_n 0, 1) := by decide +kernel
theorem dX9_kind_1 : decode cX9_kind 1 = .ok (.iload_n 1, 1) := by decide +kernel
theorem dX9_kind_2 : decode cX9_kind 2 = .ok (.invokevirtual 120, 3) := by decide +kernel
theorem dX9_kind_5 : decode cX9_kind 5 = .ok (.ifCond .ne 6, 3) := by decide +kernel
theorem dX9_kind_8 : decode cX9_kind 8 = .ok (.ldc 123, 2) := by decide +kernel
theorem dX9_kind_10 : decode cX9_kind 10 = .ok (.ireturn, 1) := by decide +kernel
theorem dX9_kind_11 : decode cX9_kind 11 = .ok (.iload_n 2, 1) := by decide +kernel
theorem dX9_kind_12 : decode cX9_kind 12 = .ok (.lookupswitch 48 #[(0, 28), (1, 38)], 28) := by decide +kernel
theorem dX9_kind_40 : decode cX9_kind 40 = .ok (.aload_n 0, 1) := by decide +kernel
theorem dX9_kind_41 : decode cX9_kind 41 = .ok (.getfield 19, 3) := by decide +kernel
theorem dX9_kind_44 : decode cX9_kind 44 = .ok (.getfield 124, 3) := by decide +kernel
theorem dX9_kind_47 : decode cX9_kind 47 = .ok (.iload_n 1, 1) := by decide +kernel
theorem dX9_kind_48 : decode cX9_kind 48 = .ok (.iaload, 1) := by decide +kernel
theorem dX9_kind_49 : decode cX9_kind 49 = .ok (.ireturn, 1) := by decide +kernel
theorem dX9_kind_50 : decode cX9_kind 50 = .ok (.aload_n 0, 1) := by decide +kernel
theorem dX9_kind_51 : decode cX9_kind 51 = .ok (.getfield 19, 3) := by decide +kernel
theorem dX9_kind_54 : decode cX9_kind 54 = .ok (.getfield 127, 3) := by decide +kernel
theorem dX9_kind_57 : decode cX9_kind 57 = .ok (.iload_n 1, 1) := by decide +kernel
theorem dX9_kind_58 : decode cX9_kind 58 = .ok (.iaload, 1) := by decide +kernel
theorem dX9_kind_59 : decode cX9_kind 59 = .ok (.ireturn, 1) := by decide +kernel
theorem dX9_kind_60 : decode cX9_kind 60 = .ok (.ldc 123, 2) := by decide +kernel
theorem dX9_kind_62 : decode cX9_kind 62 = .ok (.ireturn, 1) := by decide +kernel
theorem dX9_beast_0 : decode cX9_beast 0 = .ok (.aload_n 0, 1) := by decide +kernel
theorem dX9_beast_1 : decode cX9_beast 1 = .ok (.iload_n 1, 1) := by decide +kernel
theorem dX9_beast_2 : decode cX9_beast 2 = .ok (.invokevirtual 130, 3) := by decide +kernel
theorem dX9_beast_5 : decode cX9_beast 5 = .ok (.ifCond .ne 5, 3) := by decide +kernel
theorem dX9_beast_8 : decode cX9_beast 8 = .ok (.iconst (-1), 1) := by decide +kernel
theorem dX9_beast_9 : decode cX9_beast 9 = .ok (.ireturn, 1) := by decide +kernel
theorem dX9_beast_10 : decode cX9_beast 10 = .ok (.iload_n 2, 1) := by decide +kernel
theorem dX9_beast_11 : decode cX9_beast 11 = .ok (.lookupswitch 45 #[(0, 25), (1, 35)], 25) := by decide +kernel
theorem dX9_beast_36 : decode cX9_beast 36 = .ok (.aload_n 0, 1) := by decide +kernel
theorem dX9_beast_37 : decode cX9_beast 37 = .ok (.getfield 19, 3) := by decide +kernel
theorem dX9_beast_40 : decode cX9_beast 40 = .ok (.getfield 133, 3) := by decide +kernel
theorem dX9_beast_43 : decode cX9_beast 43 = .ok (.iload_n 1, 1) := by decide +kernel
theorem dX9_beast_44 : decode cX9_beast 44 = .ok (.iaload, 1) := by decide +kernel
theorem dX9_beast_45 : decode cX9_beast 45 = .ok (.ireturn, 1) := by decide +kernel
theorem dX9_beast_46 : decode cX9_beast 46 = .ok (.aload_n 0, 1) := by decide +kernel
theorem dX9_beast_47 : decode cX9_beast 47 = .ok (.getfield 29, 3) := by decide +kernel
theorem dX9_beast_50 : decode cX9_beast 50 = .ok (.getfield 136, 3) := by decide +kernel
theorem dX9_beast_53 : decode cX9_beast 53 = .ok (.iload_n 1, 1) := by decide +kernel
theorem dX9_beast_54 : decode cX9_beast 54 = .ok (.iaload, 1) := by decide +kernel
theorem dX9_beast_55 : decode cX9_beast 55 = .ok (.ireturn, 1) := by decide +kernel
theorem dX9_beast_56 : decode cX9_beast 56 = .ok (.iconst (-1), 1) := by decide +kernel
theorem dX9_beast_57 : decode cX9_beast 57 = .ok (.ireturn, 1) := by decide +kernel
theorem dX9_sound_0 : decode cX9_sound 0 = .ok (.aload_n 0, 1) := by decide +kernel
theorem dX9_sound_1 : decode cX9_sound 1 = .ok (.iload_n 1, 1) := by decide +kernel
theorem dX9_sound_2 : decode cX9_sound 2 = .ok (.invokevirtual 120, 3) := by decide +kernel
theorem dX9_sound_5 : decode cX9_sound 5 = .ok (.ifCond .eq 23, 3) := by decide +kernel
theorem dX9_sound_8 : decode cX9_sound 8 = .ok (.aload_n 0, 1) := by decide +kernel
theorem dX9_sound_9 : decode cX9_sound 9 = .ok (.iload_n 2, 1) := by decide +kernel
theorem dX9_sound_10 : decode cX9_sound 10 = .ok (.invokevirtual 101, 3) := by decide +kernel
theorem dX9_sound_13 : decode cX9_sound 13 = .ok (.ifCond .eq 15, 3) := by decide +kernel
theorem dX9_sound_16 : decode cX9_sound 16 = .ok (.aload_n 0, 1) := by decide +kernel
theorem dX9_sound_17 : decode cX9_sound 17 = .ok (.getfield 38, 3) := by decide +kernel
theorem dX9_sound_20 : decode cX9_sound 20 = .ok (.iload_n 1, 1) := by decide +kernel
theorem dX9_sound_21 : decode cX9_sound 21 = .ok (.iload_n 2, 1) := by decide +kernel
theorem dX9_sound_22 : decode cX9_sound 22 = .ok (.invokevirtual 139, 3) := by decide +kernel
theorem dX9_sound_25 : decode cX9_sound 25 = .ok (.goto 4, 3) := by decide +kernel
theorem dX9_sound_28 : decode cX9_sound 28 = .ok (.iconst (-1), 1) := by decide +kernel
theorem dX9_sound_29 : decode cX9_sound 29 = .ok (.ireturn, 1) := by decide +kernel
theorem dX9_goes_0 : decode cX9_goes 0 = .ok (.aload_n 0, 1) := by decide +kernel
theorem dX9_goes_1 : decode cX9_goes 1 = .ok (.iload_n 1, 1) := by decide +kernel
theorem dX9_goes_2 : decode cX9_goes 2 = .ok (.invokevirtual 130, 3) := by decide +kernel
theorem dX9_goes_5 : decode cX9_goes 5 = .ok (.ifCond .eq 11, 3) := by decide +kernel
theorem dX9_goes_8 : decode cX9_goes 8 = .ok (.aload_n 0, 1) := by decide +kernel
theorem dX9_goes_9 : decode cX9_goes 9 = .ok (.iload_n 2, 1) := by decide +kernel
theorem dX9_goes_10 : decode cX9_goes 10 = .ok (.invokevirtual 101, 3) := by decide +kernel
theorem dX9_goes_13 : decode cX9_goes 13 = .ok (.ifCond .ne 5, 3) := by decide +kernel
theorem dX9_goes_16 : decode cX9_goes 16 = .ok (.iconst (-1), 1) := by decide +kernel
theorem dX9_goes_17 : decode cX9_goes 17 = .ok (.ireturn, 1) := by decide +kernel
theorem dX9_goes_18 : decode cX9_goes 18 = .ok (.aload_n 0, 1) := by decide +kernel
theorem dX9_goes_19 : decode cX9_goes 19 = .ok (.getfield 29, 3) := by decide +kernel
theorem dX9_goes_22 : decode cX9_goes 22 = .ok (.getfield 136, 3) := by decide +kernel
theorem dX9_goes_25 : decode cX9_goes 25 = .ok (.iload_n 1, 1) := by decide +kernel
theorem dX9_goes_26 : decode cX9_goes 26 = .ok (.iaload, 1) := by decide +kernel
theorem dX9_goes_27 : decode cX9_goes 27 = .ok (.istore_n 3, 1) := by decide +kernel
theorem dX9_goes_28 : decode cX9_goes 28 = .ok (.aload_n 0, 1) := by decide +kernel
theorem dX9_goes_29 : decode cX9_goes 29 = .ok (.getfield 19, 3) := by decide +kernel
theorem dX9_goes_32 : decode cX9_goes 32 = .ok (.iload_n 2, 1) := by decide +kernel
theorem dX9_goes_33 : decode cX9_goes 33 = .ok (.iload_n 3, 1) := by decide +kernel
theorem dX9_goes_34 : decode cX9_goes 34 = .ok (.invokevirtual 143, 3) := by decide +kernel
theorem dX9_goes_37 : decode cX9_goes 37 = .ok (.ifCond .ne 6, 3) := by decide +kernel
theorem dX9_goes_40 : decode cX9_goes 40 = .ok (.bipush (-2), 2) := by decide +kernel
theorem dX9_goes_42 : decode cX9_goes 42 = .ok (.ireturn, 1) := by decide +kernel
theorem dX9_goes_43 : decode cX9_goes 43 = .ok (.aload_n 0, 1) := by decide +kernel
theorem dX9_goes_44 : decode cX9_goes 44 = .ok (.getfield 38, 3) := by decide +kernel
theorem dX9_goes_47 : decode cX9_goes 47 = .ok (.aload_n 0, 1) := by decide +kernel
theorem dX9_goes_48 : decode cX9_goes 48 = .ok (.getfield 19, 3) := by decide +kernel
theorem dX9_goes_51 : decode cX9_goes 51 = .ok (.getfield 133, 3) := by decide +kernel
theorem dX9_goes_54 : decode cX9_goes 54 = .ok (.iload_n 1, 1) := by decide +kernel
theorem dX9_goes_55 : decode cX9_goes 55 = .ok (.iaload, 1) := by decide +kernel
theorem dX9_goes_56 : decode cX9_goes 56 = .ok (.iload_n 2, 1) := by decide +kernel
theorem dX9_goes_57 : decode cX9_goes 57 = .ok (.invokevirtual 139, 3) := by decide +kernel
theorem dX9_goes_60 : decode cX9_goes 60 = .ok (.istore 4, 2) := by decide +kernel
theorem dX9_goes_62 : decode cX9_goes 62 = .ok (.aload_n 0, 1) := by decide +kernel
theorem dX9_goes_63 : decode cX9_goes 63 = .ok (.getfield 45, 3) := by decide +kernel
theorem dX9_goes_66 : decode cX9_goes 66 = .ok (.aload_n 0, 1) := by decide +kernel
theorem dX9_goes_67 : decode cX9_goes 67 = .ok (.getfield 29, 3) := by decide +kernel
theorem dX9_goes_70 : decode cX9_goes 70 = .ok (.invokevirtual 147, 3) := by decide +kernel
theorem dX9_goes_73 : decode cX9_goes 73 = .ok (.aload_n 0, 1) := by decide +kernel
theorem dX9_goes_74 : decode cX9_goes 74 = .ok (.getfield 29, 3) := by decide +kernel
theorem dX9_goes_77 : decode cX9_goes 77 = .ok (.getfield 136, 3) := by decide +kernel
theorem dX9_goes_80 : decode cX9_goes 80 = .ok (.iload_n 1, 1) := by decide +kernel
theorem dX9_goes_81 : decode cX9_goes 81 = .ok (.aload_n 0, 1) := by decide +kernel
theorem dX9_goes_82 : decode cX9_goes 82 = .ok (.getfield 19, 3) := by decide +kernel
theorem dX9_goes_85 : decode cX9_goes 85 = .ok (.iload_n 2, 1) := by decide +kernel
theorem dX9_goes_86 : decode cX9_goes 86 = .ok (.iload_n 3, 1) := by decide +kernel
theorem dX9_goes_87 : decode cX9_goes 87 = .ok (.invokevirtual 151, 3) := by decide +kernel
theorem dX9_goes_90 : decode cX9_goes 90 = .ok (.iastore, 1) := by decide +kernel
theorem dX9_goes_91 : decode cX9_goes 91 = .ok (.iload 4, 2) := by decide +kernel
theorem dX9_goes_93 : decode cX9_goes 93 = .ok (.ifCond .le 12, 3) := by decide +kernel
theorem dX9_goes_96 : decode cX9_goes 96 = .ok (.aload_n 0, 1) := by decide +kernel
theorem dX9_goes_97 : decode cX9_goes 97 = .ok (.getfield 29, 3) := by decide +kernel
theorem dX9_goes_100 : decode cX9_goes 100 = .ok (.iload 4, 2) := by decide +kernel
theorem dX9_goes_102 : decode cX9_goes 102 = .ok (.invokevirtual 154, 3) := by decide +kernel
theorem dX9_goes_105 : decode cX9_goes 105 = .ok (.iload 4, 2) := by decide +kernel
theorem dX9_goes_107 : decode cX9_goes 107 = .ok (.ireturn, 1) := by decide +kernel
theorem dX9_cuts_0 : decode cX9_cuts 0 = .ok (.aload_n 0, 1) := by decide +kernel
theorem dX9_cuts_1 : decode cX9_cuts 1 = .ok (.iload_n 1, 1) := by decide +kernel
theorem dX9_cuts_2 : decode cX9_cuts 2 = .ok (.invokevirtual 101, 3) := by decide +kernel
theorem dX9_cuts_5 : decode cX9_cuts 5 = .ok (.ifCond .eq 10, 3) := by decide +kernel
theorem dX9_cuts_8 : decode cX9_cuts 8 = .ok (.iload_n 2, 1) := by decide +kernel
theorem dX9_cuts_9 : decode cX9_cuts 9 = .ok (.invokestatic 158, 3) := by decide +kernel
theorem dX9_cuts_12 : decode cX9_cuts 12 = .ok (.ifCond .ne 5, 3) := by decide +kernel
theorem dX9_cuts_15 : decode cX9_cuts 15 = .ok (.iconst (-1), 1) := by decide +kernel
theorem dX9_cuts_16 : decode cX9_cuts 16 = .ok (.ireturn, 1) := by decide +kernel
theorem dX9_cuts_17 : decode cX9_cuts 17 = .ok (.aload_n 0, 1) := by decide +kernel
theorem dX9_cuts_18 : decode cX9_cuts 18 = .ok (.getfield 29, 3) := by decide +kernel
theorem dX9_cuts_21 : decode cX9_cuts 21 = .ok (.getfield 114, 3) := by decide +kernel
theorem dX9_cuts_24 : decode cX9_cuts 24 = .ok (.iload_n 1, 1) := by decide +kernel
theorem dX9_cuts_25 : decode cX9_cuts 25 = .ok (.ishr, 1) := by decide +kernel
theorem dX9_cuts_26 : decode cX9_cuts 26 = .ok (.iconst 1, 1) := by decide +kernel
theorem dX9_cuts_27 : decode cX9_cuts 27 = .ok (.iand, 1) := by decide +kernel
theorem dX9_cuts_28 : decode cX9_cuts 28 = .ok (.iload_n 2, 1) := by decide +kernel
theorem dX9_cuts_29 : decode cX9_cuts 29 = .ok (.if_icmp .ne 6, 3) := by decide +kernel
theorem dX9_cuts_32 : decode cX9_cuts 32 = .ok (.bipush (-2), 2) := by decide +kernel
theorem dX9_cuts_34 : decode cX9_cuts 34 = .ok (.ireturn, 1) := by decide +kernel
theorem dX9_cuts_35 : decode cX9_cuts 35 = .ok (.aload_n 0, 1) := by decide +kernel
theorem dX9_cuts_36 : decode cX9_cuts 36 = .ok (.getfield 45, 3) := by decide +kernel
theorem dX9_cuts_39 : decode cX9_cuts 39 = .ok (.aload_n 0, 1) := by decide +kernel
theorem dX9_cuts_40 : decode cX9_cuts 40 = .ok (.getfield 29, 3) := by decide +kernel
theorem dX9_cuts_43 : decode cX9_cuts 43 = .ok (.invokevirtual 147, 3) := by decide +kernel
theorem dX9_cuts_46 : decode cX9_cuts 46 = .ok (.aload_n 0, 1) := by decide +kernel
theorem dX9_cuts_47 : decode cX9_cuts 47 = .ok (.getfield 29, 3) := by decide +kernel
theorem dX9_cuts_50 : decode cX9_cuts 50 = .ok (.dup, 1) := by decide +kernel
theorem dX9_cuts_51 : decode cX9_cuts 51 = .ok (.getfield 114, 3) := by decide +kernel
theorem dX9_cuts_54 : decode cX9_cuts 54 = .ok (.iconst 1, 1) := by decide +kernel
theorem dX9_cuts_55 : decode cX9_cuts 55 = .ok (.iload_n 1, 1) := by decide +kernel
theorem dX9_cuts_56 : decode cX9_cuts 56 = .ok (.ishl, 1) := by decide +kernel
theorem dX9_cuts_57 : decode cX9_cuts 57 = .ok (.ixor, 1) := by decide +kernel
theorem dX9_cuts_58 : decode cX9_cuts 58 = .ok (.putfield 114, 3) := by decide +kernel
theorem dX9_cuts_61 : decode cX9_cuts 61 = .ok (.aload_n 0, 1) := by decide +kernel
theorem dX9_cuts_62 : decode cX9_cuts 62 = .ok (.getfield 29, 3) := by decide +kernel
theorem dX9_cuts_65 : decode cX9_cuts 65 = .ok (.getfield 114, 3) := by decide +kernel
theorem dX9_cuts_68 : decode cX9_cuts 68 = .ok (.invokestatic 161, 3) := by decide +kernel
theorem dX9_cuts_71 : decode cX9_cuts 71 = .ok (.ireturn, 1) := by decide +kernel
theorem dX9_tunes_0 : decode cX9_tunes 0 = .ok (.aload_n 0, 1) := by decide +kernel
theorem dX9_tunes_1 : decode cX9_tunes 1 = .ok (.iload_n 1, 1) := by decide +kernel
theorem dX9_tunes_2 : decode cX9_tunes 2 = .ok (.invokevirtual 101, 3) := by decide +kernel
theorem dX9_tunes_5 : decode cX9_tunes 5 = .ok (.ifCond .eq 14, 3) := by decide +kernel
theorem dX9_tunes_8 : decode cX9_tunes 8 = .ok (.iload_n 2, 1) := by decide +kernel
theorem dX9_tunes_9 : decode cX9_tunes 9 = .ok (.iconst 1, 1) := by decide +kernel
theorem dX9_tunes_10 : decode cX9_tunes 10 = .ok (.if_icmp .lt 9, 3) := by decide +kernel
theorem dX9_tunes_13 : decode cX9_tunes 13 = .ok (.iload_n 2, 1) := by decide +kernel
theorem dX9_tunes_14 : decode cX9_tunes 14 = .ok (.bipush 40, 2) := by decide +kernel
theorem dX9_tunes_16 : decode cX9_tunes 16 = .ok (.if_icmp .le 5, 3) := by decide +kernel
theorem dX9_tunes_19 : decode cX9_tunes 19 = .ok (.iconst (-1), 1) := by decide +kernel
theorem dX9_tunes_20 : decode cX9_tunes 20 = .ok (.ireturn, 1) := by decide +kernel
theorem dX9_tunes_21 : decode cX9_tunes 21 = .ok (.aload_n 0, 1) := by decide +kernel
theorem dX9_tunes_22 : decode cX9_tunes 22 = .ok (.getfield 29, 3) := by decide +kernel
theorem dX9_tunes_25 : decode cX9_tunes 25 = .ok (.getfield 111, 3) := by decide +kernel
theorem dX9_tunes_28 : decode cX9_tunes 28 = .ok (.iload_n 1, 1) := by decide +kernel
theorem dX9_tunes_29 : decode cX9_tunes 29 = .ok (.iaload, 1) := by decide +kernel
theorem dX9_tunes_30 : decode cX9_tunes 30 = .ok (.istore_n 3, 1) := by decide +kernel
theorem dX9_tunes_31 : decode cX9_tunes 31 = .ok (.iload_n 3, 1) := by decide +kernel
theorem dX9_tunes_32 : decode cX9_tunes 32 = .ok (.ifCond .eq 8, 3) := by decide +kernel
theorem dX9_tunes_35 : decode cX9_tunes 35 = .ok (.iload_n 3, 1) := by decide +kernel
theorem dX9_tunes_36 : decode cX9_tunes 36 = .ok (.iload_n 2, 1) := by decide +kernel
theorem dX9_tunes_37 : decode cX9_tunes 37 = .ok (.if_icmp .ne 6, 3) := by decide +kernel
theorem dX9_tunes_40 : decode cX9_tunes 40 = .ok (.bipush (-2), 2) := by decide +kernel
theorem dX9_tunes_42 : decode cX9_tunes 42 = .ok (.ireturn, 1) := by decide +kernel
theorem dX9_tunes_43 : decode cX9_tunes 43 = .ok (.aload_n 0, 1) := by decide +kernel
theorem dX9_tunes_44 : decode cX9_tunes 44 = .ok (.getfield 45, 3) := by decide +kernel
theorem dX9_tunes_47 : decode cX9_tunes 47 = .ok (.aload_n 0, 1) := by decide +kernel
theorem dX9_tunes_48 : decode cX9_tunes 48 = .ok (.getfield 29, 3) := by decide +kernel
theorem dX9_tunes_51 : decode cX9_tunes 51 = .ok (.invokevirtual 147, 3) := by decide +kernel
theorem dX9_tunes_54 : decode cX9_tunes 54 = .ok (.aload_n 0, 1) := by decide +kernel
theorem dX9_tunes_55 : decode cX9_tunes 55 = .ok (.getfield 29, 3) := by decide +kernel
theorem dX9_tunes_58 : decode cX9_tunes 58 = .ok (.getfield 111, 3) := by decide +kernel
theorem dX9_tunes_61 : decode cX9_tunes 61 = .ok (.iload_n 1, 1) := by decide +kernel
theorem dX9_tunes_62 : decode cX9_tunes 62 = .ok (.iload_n 2, 1) := by decide +kernel
theorem dX9_tunes_63 : decode cX9_tunes 63 = .ok (.iastore, 1) := by decide +kernel
theorem dX9_tunes_64 : decode cX9_tunes 64 = .ok (.iload_n 3, 1) := by decide +kernel
theorem dX9_tunes_65 : decode cX9_tunes 65 = .ok (.ireturn, 1) := by decide +kernel
theorem dX9_lays_0 : decode cX9_lays 0 = .ok (.iload_n 1, 1) := by decide +kernel
theorem dX9_lays_1 : decode cX9_lays 1 = .ok (.invokestatic 158, 3) := by decide +kernel
theorem dX9_lays_4 : decode cX9_lays 4 = .ok (.ifCond .ne 5, 3) := by decide +kernel
theorem dX9_lays_7 : decode cX9_lays 7 = .ok (.iconst (-1), 1) := by decide +kernel
theorem dX9_lays_8 : decode cX9_lays 8 = .ok (.ireturn, 1) := by decide +kernel
theorem dX9_lays_9 : decode cX9_lays 9 = .ok (.aload_n 0, 1) := by decide +kernel
theorem dX9_lays_10 : decode cX9_lays 10 = .ok (.getfield 45, 3) := by decide +kernel
theorem dX9_lays_13 : decode cX9_lays 13 = .ok (.aload_n 0, 1) := by decide +kernel
theorem dX9_lays_14 : decode cX9_lays 14 = .ok (.getfield 29, 3) := by decide +kernel
theorem dX9_lays_17 : decode cX9_lays 17 = .ok (.invokevirtual 147, 3) := by decide +kernel
theorem dX9_lays_20 : decode cX9_lays 20 = .ok (.aload_n 0, 1) := by decide +kernel
theorem dX9_lays_21 : decode cX9_lays 21 = .ok (.getfield 29, 3) := by decide +kernel
theorem dX9_lays_24 : decode cX9_lays 24 = .ok (.getfield 117, 3) := by decide +kernel
theorem dX9_lays_27 : decode cX9_lays 27 = .ok (.istore_n 2, 1) := by decide +kernel
theorem dX9_lays_28 : decode cX9_lays 28 = .ok (.aload_n 0, 1) := by decide +kernel
theorem dX9_lays_29 : decode cX9_lays 29 = .ok (.getfield 29, 3) := by decide +kernel
theorem dX9_lays_32 : decode cX9_lays 32 = .ok (.iload_n 1, 1) := by decide +kernel
theorem dX9_lays_33 : decode cX9_lays 33 = .ok (.iconst 1, 1) := by decide +kernel
theorem dX9_lays_34 : decode cX9_lays 34 = .ok (.if_icmp .ne 17, 3) := by decide +kernel
theorem dX9_lays_37 : decode cX9_lays 37 = .ok (.iconst 1, 1) := by decide +kernel
theorem dX9_lays_38 : decode cX9_lays 38 = .ok (.aload_n 0, 1) := by decide +kernel
theorem dX9_lays_39 : decode cX9_lays 39 = .ok (.getfield 19, 3) := by decide +kernel
theorem dX9_lays_42 : decode cX9_lays 42 = .ok (.getfield 167, 3) := by decide +kernel
theorem dX9_lays_45 : decode cX9_lays 45 = .ok (.ishl, 1) := by decide +kernel
theorem dX9_lays_46 : decode cX9_lays 46 = .ok (.iconst 1, 1) := by decide +kernel
theorem dX9_lays_47 : decode cX9_lays 47 = .ok (.isub, 1) := by decide +kernel
theorem dX9_lays_48 : decode cX9_lays 48 = .ok (.goto 4, 3) := by decide +kernel
theorem dX9_lays_51 : decode cX9_lays 51 = .ok (.iconst 0, 1) := by decide +kernel
theorem dX9_lays_52 : decode cX9_lays 52 = .ok (.putfield 117, 3) := by decide +kernel
theorem dX9_lays_55 : decode cX9_lays 55 = .ok (.iload_n 2, 1) := by decide +kernel
theorem dX9_lays_56 : decode cX9_lays 56 = .ok (.aload_n 0, 1) := by decide +kernel
theorem dX9_lays_57 : decode cX9_lays 57 = .ok (.getfield 29, 3) := by decide +kernel
theorem dX9_lays_60 : decode cX9_lays 60 = .ok (.getfield 117, 3) := by decide +kernel
theorem dX9_lays_63 : decode cX9_lays 63 = .ok (.ixor, 1) := by decide +kernel
theorem dX9_lays_64 : decode cX9_lays 64 = .ok (.invokestatic 161, 3) := by decide +kernel
theorem dX9_lays_67 : decode cX9_lays 67 = .ok (.ireturn, 1) := by decide +kernel
theorem dX9_rains_0 : decode cX9_rains 0 = .ok (.iload_n 1, 1) := by decide +kernel
theorem dX9_rains_1 : decode cX9_rains 1 = .ok (.bipush (-9), 2) := by decide +kernel
theorem dX9_rains_3 : decode cX9_rains 3 = .ok (.if_icmp .lt 13, 3) := by decide +kernel
theorem dX9_rains_6 : decode cX9_rains 6 = .ok (.iload_n 1, 1) := by decide +kernel
theorem dX9_rains_7 : decode cX9_rains 7 = .ok (.bipush 9, 2) := by decide +kernel
theorem dX9_rains_9 : decode cX9_rains 9 = .ok (.if_icmp .gt 7, 3) := by decide +kernel
theorem dX9_rains_12 : decode cX9_rains 12 = .ok (.iload_n 1, 1) := by decide +kernel
theorem dX9_rains_13 : decode cX9_rains 13 = .ok (.ifCond .ne 5, 3) := by decide +kernel
theorem dX9_rains_16 : decode cX9_rains 16 = .ok (.iconst (-1), 1) := by decide +kernel
theorem dX9_rains_17 : decode cX9_rains 17 = .ok (.ireturn, 1) := by decide +kernel
theorem dX9_rains_18 : decode cX9_rains 18 = .ok (.aload_n 0, 1) := by decide +kernel
theorem dX9_rains_19 : decode cX9_rains 19 = .ok (.getfield 29, 3) := by decide +kernel
theorem dX9_rains_22 : decode cX9_rains 22 = .ok (.getfield 170, 3) := by decide +kernel
theorem dX9_rains_25 : decode cX9_rains 25 = .ok (.iload_n 1, 1) := by decide +kernel
theorem dX9_rains_26 : decode cX9_rains 26 = .ok (.iadd, 1) := by decide +kernel
theorem dX9_rains_27 : decode cX9_rains 27 = .ok (.istore_n 2, 1) := by decide +kernel
theorem dX9_rains_28 : decode cX9_rains 28 = .ok (.iload_n 2, 1) := by decide +kernel
theorem dX9_rains_29 : decode cX9_rains 29 = .ok (.ifCond .lt 9, 3) := by decide +kernel
theorem dX9_rains_32 : decode cX9_rains 32 = .ok (.iload_n 2, 1) := by decide +kernel
theorem dX9_rains_33 : decode cX9_rains 33 = .ok (.bipush 9, 2) := by decide +kernel
theorem dX9_rains_35 : decode cX9_rains 35 = .ok (.if_icmp .le 6, 3) := by decide +kernel
theorem dX9_rains_38 : decode cX9_rains 38 = .ok (.bipush (-2), 2) := by decide +kernel
theorem dX9_rains_40 : decode cX9_rains 40 = .ok (.ireturn, 1) := by decide +kernel
theorem dX9_rains_41 : decode cX9_rains 41 = .ok (.aload_n 0, 1) := by decide +kernel
theorem dX9_rains_42 : decode cX9_rains 42 = .ok (.getfield 45, 3) := by decide +kernel
theorem dX9_rains_45 : decode cX9_rains 45 = .ok (.aload_n 0, 1) := by decide +kernel
theorem dX9_rains_46 : decode cX9_rains 46 = .ok (.getfield 29, 3) := by decide +kernel
theorem dX9_rains_49 : decode cX9_rains 49 = .ok (.invokevirtual 147, 3) := by decide +kernel
theorem dX9_rains_52 : decode cX9_rains 52 = .ok (.aload_n 0, 1) := by decide +kernel
theorem dX9_rains_53 : decode cX9_rains 53 = .ok (.getfield 29, 3) := by decide +kernel
theorem dX9_rains_56 : decode cX9_rains 56 = .ok (.iload_n 2, 1) := by decide +kernel
theorem dX9_rains_57 : decode cX9_rains 57 = .ok (.putfield 170, 3) := by decide +kernel
theorem dX9_rains_60 : decode cX9_rains 60 = .ok (.iload_n 2, 1) := by decide +kernel
theorem dX9_rains_61 : decode cX9_rains 61 = .ok (.ireturn, 1) := by decide +kernel
theorem dX9_undo_0 : decode cX9_undo 0 = .ok (.aload_n 0, 1) := by decide +kernel
theorem dX9_undo_1 : decode cX9_undo 1 = .ok (.getfield 45, 3) := by decide +kernel
theorem dX9_undo_4 : decode cX9_undo 4 = .ok (.getfield 173, 3) := by decide +kernel
theorem dX9_undo_7 : decode cX9_undo 7 = .ok (.ifCond .ne 6, 3) := by decide +kernel
theorem dX9_undo_10 : decode cX9_undo 10 = .ok (.bipush (-2), 2) := by decide +kernel
theorem dX9_undo_12 : decode cX9_undo 12 = .ok (.ireturn, 1) := by decide +kernel
theorem dX9_undo_13 : decode cX9_undo 13 = .ok (.aload_n 0, 1) := by decide +kernel
theorem dX9_undo_14 : decode cX9_undo 14 = .ok (.getfield 45, 3) := by decide +kernel
theorem dX9_undo_17 : decode cX9_undo 17 = .ok (.aload_n 0, 1) := by decide +kernel
theorem dX9_undo_18 : decode cX9_undo 18 = .ok (.getfield 29, 3) := by decide +kernel
theorem dX9_undo_21 : decode cX9_undo 21 = .ok (.invokevirtual 176, 3) := by decide +kernel
theorem dX9_undo_24 : decode cX9_undo 24 = .ok (.aload_n 0, 1) := by decide +kernel
theorem dX9_undo_25 : decode cX9_undo 25 = .ok (.getfield 45, 3) := by decide +kernel
theorem dX9_undo_28 : decode cX9_undo 28 = .ok (.getfield 173, 3) := by decide +kernel
theorem dX9_undo_31 : decode cX9_undo 31 = .ok (.ireturn, 1) := by decide +kernel
theorem dX9_now_0 : decode cX9_now 0 = .ok (.iload_n 1, 1) := by decide +kernel
theorem dX9_now_1 : decode cX9_now 1 = .ok (.tableswitch 99 0 6 #[43, 51, 59, 67, 75, 83, 91], 43) := by decide +kernel
theorem dX9_now_44 : decode cX9_now 44 = .ok (.aload_n 0, 1) := by decide +kernel
theorem dX9_now_45 : decode cX9_now 45 = .ok (.getfield 29, 3) := by decide +kernel
theorem dX9_now_48 : decode cX9_now 48 = .ok (.getfield 170, 3) := by decide +kernel
theorem dX9_now_51 : decode cX9_now 51 = .ok (.ireturn, 1) := by decide +kernel
theorem dX9_now_52 : decode cX9_now 52 = .ok (.aload_n 0, 1) := by decide +kernel
theorem dX9_now_53 : decode cX9_now 53 = .ok (.getfield 29, 3) := by decide +kernel
theorem dX9_now_56 : decode cX9_now 56 = .ok (.getfield 114, 3) := by decide +kernel
theorem dX9_now_59 : decode cX9_now 59 = .ok (.ireturn, 1) := by decide +kernel
theorem dX9_now_60 : decode cX9_now 60 = .ok (.aload_n 0, 1) := by decide +kernel
theorem dX9_now_61 : decode cX9_now 61 = .ok (.getfield 29, 3) := by decide +kernel
theorem dX9_now_64 : decode cX9_now 64 = .ok (.getfield 117, 3) := by decide +kernel
theorem dX9_now_67 : decode cX9_now 67 = .ok (.ireturn, 1) := by decide +kernel
theorem dX9_now_68 : decode cX9_now 68 = .ok (.aload_n 0, 1) := by decide +kernel
theorem dX9_now_69 : decode cX9_now 69 = .ok (.getfield 29, 3) := by decide +kernel
theorem dX9_now_72 : decode cX9_now 72 = .ok (.getfield 179, 3) := by decide +kernel
theorem dX9_now_75 : decode cX9_now 75 = .ok (.ireturn, 1) := by decide +kernel
theorem dX9_now_76 : decode cX9_now 76 = .ok (.aload_n 0, 1) := by decide +kernel
theorem dX9_now_77 : decode cX9_now 77 = .ok (.getfield 74, 3) := by decide +kernel
theorem dX9_now_80 : decode cX9_now 80 = .ok (.invokevirtual 182, 3) := by decide +kernel
theorem dX9_now_83 : decode cX9_now 83 = .ok (.ireturn, 1) := by decide +kernel
theorem dX9_now_84 : decode cX9_now 84 = .ok (.aload_n 0, 1) := by decide +kernel
theorem dX9_now_85 : decode cX9_now 85 = .ok (.getfield 74, 3) := by decide +kernel
theorem dX9_now_88 : decode cX9_now 88 = .ok (.invokevirtual 186, 3) := by decide +kernel
theorem dX9_now_91 : decode cX9_now 91 = .ok (.ireturn, 1) := by decide +kernel
theorem dX9_now_92 : decode cX9_now 92 = .ok (.aload_n 0, 1) := by decide +kernel
theorem dX9_now_93 : decode cX9_now 93 = .ok (.getfield 74, 3) := by decide +kernel
theorem dX9_now_96 : decode cX9_now 96 = .ok (.invokevirtual 189, 3) := by decide +kernel
theorem dX9_now_99 : decode cX9_now 99 = .ok (.ireturn, 1) := by decide +kernel
theorem dX9_now_100 : decode cX9_now 100 = .ok (.iconst (-1), 1) := by decide +kernel
theorem dX9_now_101 : decode cX9_now 101 = .ok (.ireturn, 1) := by decide +kernel
theorem dX9_song_0 : decode cX9_song 0 = .ok (.iload_n 1, 1) := by decide +kernel
theorem dX9_song_1 : decode cX9_song 1 = .ok (.ifCond .lt 9, 3) := by decide +kernel
theorem dX9_song_4 : decode cX9_song 4 = .ok (.iload_n 1, 1) := by decide +kernel
theorem dX9_song_5 : decode cX9_song 5 = .ok (.bipush 12, 2) := by decide +kernel
theorem dX9_song_7 : decode cX9_song 7 = .ok (.if_icmp .lt 5, 3) := by decide +kernel
theorem dX9_song_10 : decode cX9_song 10 = .ok (.iconst (-1), 1) := by decide +kernel
theorem dX9_song_11 : decode cX9_song 11 = .ok (.ireturn, 1) := by decide +kernel
theorem dX9_song_12 : decode cX9_song 12 = .ok (.iload_n 1, 1) := by decide +kernel
theorem dX9_song_13 : decode cX9_song 13 = .ok (.aload_n 0, 1) := by decide +kernel
theorem dX9_song_14 : decode cX9_song 14 = .ok (.getfield 29, 3) := by decide +kernel
theorem dX9_song_17 : decode cX9_song 17 = .ok (.getfield 179, 3) := by decide +kernel
theorem dX9_song_20 : decode cX9_song 20 = .ok (.if_icmp .ge 15, 3) := by decide +kernel
theorem dX9_song_23 : decode cX9_song 23 = .ok (.aload_n 0, 1) := by decide +kernel
theorem dX9_song_24 : decode cX9_song 24 = .ok (.getfield 29, 3) := by decide +kernel
theorem dX9_song_27 : decode cX9_song 27 = .ok (.getfield 192, 3) := by decide +kernel
theorem dX9_song_30 : decode cX9_song 30 = .ok (.iload_n 1, 1) := by decide +kernel
theorem dX9_song_31 : decode cX9_song 31 = .ok (.iaload, 1) := by decide +kernel
theorem dX9_song_32 : decode cX9_song 32 = .ok (.goto 5, 3) := by decide +kernel
theorem dX9_song_35 : decode cX9_song 35 = .ok (.bipush (-9), 2) := by decide +kernel
theorem dX9_song_37 : decode cX9_song 37 = .ok (.ireturn, 1) := by decide +kernel
theorem dX9_who_0 : decode cX9_who 0 = .ok (.iload_n 1, 1) := by decide +kernel
theorem dX9_who_1 : decode cX9_who 1 = .ok (.ifCond .lt 9, 3) := by decide +kernel
theorem dX9_who_4 : decode cX9_who 4 = .ok (.iload_n 1, 1) := by decide +kernel
theorem dX9_who_5 : decode cX9_who 5 = .ok (.bipush 43, 2) := by decide +kernel
theorem dX9_who_7 : decode cX9_who 7 = .ok (.if_icmp .le 7, 3) := by decide +kernel
theorem dX9_who_10 : decode cX9_who 10 = .ok (.iconst (-1), 1) := by decide +kernel
theorem dX9_who_11 : decode cX9_who 11 = .ok (.goto 11, 3) := by decide +kernel
theorem dX9_who_14 : decode cX9_who 14 = .ok (.aload_n 0, 1) := by decide +kernel
theorem dX9_who_15 : decode cX9_who 15 = .ok (.getfield 38, 3) := by decide +kernel
theorem dX9_who_18 : decode cX9_who 18 = .ok (.iload_n 1, 1) := by decide +kernel
theorem dX9_who_19 : decode cX9_who 19 = .ok (.invokevirtual 195, 3) := by decide +kernel
theorem dX9_who_22 : decode cX9_who 22 = .ok (.ireturn, 1) := by decide +kernel
theorem dX9_hears_0 : decode cX9_hears 0 = .ok (.iload_n 1, 1) := by decide +kernel
theorem dX9_hears_1 : decode cX9_hears 1 = .ok (.iconst 1, 1) := by decide +kernel
theorem dX9_hears_2 : decode cX9_hears 2 = .ok (.if_icmp .lt 9, 3) := by decide +kernel
theorem dX9_hears_5 : decode cX9_hears 5 = .ok (.iload_n 1, 1) := by decide +kernel
theorem dX9_hears_6 : decode cX9_hears 6 = .ok (.bipush 43, 2) := by decide +kernel
theorem dX9_hears_8 : decode cX9_hears 8 = .ok (.if_icmp .le 5, 3) := by decide +kernel
theorem dX9_hears_11 : decode cX9_hears 11 = .ok (.iconst (-1), 1) := by decide +kernel
theorem dX9_hears_12 : decode cX9_hears 12 = .ok (.ireturn, 1) := by decide +kernel
theorem dX9_hears_13 : decode cX9_hears 13 = .ok (.aload_n 0, 1) := by decide +kernel
theorem dX9_hears_14 : decode cX9_hears 14 = .ok (.getfield 60, 3) := by decide +kernel
theorem dX9_hears_17 : decode cX9_hears 17 = .ok (.iload_n 1, 1) := by decide +kernel
theorem dX9_hears_18 : decode cX9_hears 18 = .ok (.invokevirtual 198, 3) := by decide +kernel
theorem dX9_hears_21 : decode cX9_hears 21 = .ok (.ifCond .eq 13, 3) := by decide +kernel
theorem dX9_hears_24 : decode cX9_hears 24 = .ok (.aload_n 0, 1) := by decide +kernel
theorem dX9_hears_25 : decode cX9_hears 25 = .ok (.getfield 60, 3) := by decide +kernel
theorem dX9_hears_28 : decode cX9_hears 28 = .ok (.getfield 199, 3) := by decide +kernel
theorem dX9_hears_31 : decode cX9_hears 31 = .ok (.goto 5, 3) := by decide +kernel
theorem dX9_hears_34 : decode cX9_hears 34 = .ok (.bipush (-3), 2) := by decide +kernel
theorem dX9_hears_36 : decode cX9_hears 36 = .ok (.ireturn, 1) := by decide +kernel
theorem dX9_forget_0 : decode cX9_forget 0 = .ok (.aload_n 0, 1) := by decide +kernel
theorem dX9_forget_1 : decode cX9_forget 1 = .ok (.getfield 60, 3) := by decide +kernel
theorem dX9_forget_4 : decode cX9_forget 4 = .ok (.getfield 199, 3) := by decide +kernel
theorem dX9_forget_7 : decode cX9_forget 7 = .ok (.istore_n 1, 1) := by decide +kernel
theorem dX9_forget_8 : decode cX9_forget 8 = .ok (.aload_n 0, 1) := by decide +kernel
theorem dX9_forget_9 : decode cX9_forget 9 = .ok (.getfield 60, 3) := by decide +kernel
theorem dX9_forget_12 : decode cX9_forget 12 = .ok (.iconst 0, 1) := by decide +kernel
theorem dX9_forget_13 : decode cX9_forget 13 = .ok (.putfield 199, 3) := by decide +kernel
theorem dX9_forget_16 : decode cX9_forget 16 = .ok (.iload_n 1, 1) := by decide +kernel
theorem dX9_forget_17 : decode cX9_forget 17 = .ok (.ireturn, 1) := by decide +kernel
theorem dX9_ways_0 : decode cX9_ways 0 = .ok (.aload_n 0, 1) := by decide +kernel
theorem dX9_ways_1 : decode cX9_ways 1 = .ok (.iload_n 1, 1) := by decide +kernel
theorem dX9_ways_2 : decode cX9_ways 2 = .ok (.invokevirtual 120, 3) := by decide +kernel
theorem dX9_ways_5 : decode cX9_ways 5 = .ok (.ifCond .eq 23, 3) := by decide +kernel
theorem dX9_ways_8 : decode cX9_ways 8 = .ok (.aload_n 0, 1) := by decide +kernel
theorem dX9_ways_9 : decode cX9_ways 9 = .ok (.iload_n 2, 1) := by decide +kernel
theorem dX9_ways_10 : decode cX9_ways 10 = .ok (.invokevirtual 202, 3) := by decide +kernel
theorem dX9_ways_13 : decode cX9_ways 13 = .ok (.ifCond .eq 15, 3) := by decide +kernel
theorem dX9_ways_16 : decode cX9_ways 16 = .ok (.aload_n 0, 1) := by decide +kernel
theorem dX9_ways_17 : decode cX9_ways 17 = .ok (.getfield 60, 3) := by decide +kernel
theorem dX9_ways_20 : decode cX9_ways 20 = .ok (.iload_n 1, 1) := by decide +kernel
theorem dX9_ways_21 : decode cX9_ways 21 = .ok (.iload_n 2, 1) := by decide +kernel
theorem dX9_ways_22 : decode cX9_ways 22 = .ok (.invokevirtual 205, 3) := by decide +kernel
theorem dX9_ways_25 : decode cX9_ways 25 = .ok (.goto 4, 3) := by decide +kernel
theorem dX9_ways_28 : decode cX9_ways 28 = .ok (.iconst (-1), 1) := by decide +kernel
theorem dX9_ways_29 : decode cX9_ways 29 = .ok (.ireturn, 1) := by decide +kernel
theorem dX9_ends_0 : decode cX9_ends 0 = .ok (.aload_n 0, 1) := by decide +kernel
theorem dX9_ends_1 : decode cX9_ends 1 = .ok (.iload_n 1, 1) := by decide +kernel
theorem dX9_ends_2 : decode cX9_ends 2 = .ok (.invokevirtual 120, 3) := by decide +kernel
theorem dX9_ends_5 : decode cX9_ends 5 = .ok (.ifCond .eq 14, 3) := by decide +kernel
theorem dX9_ends_8 : decode cX9_ends 8 = .ok (.aload_n 0, 1) := by decide +kernel
theorem dX9_ends_9 : decode cX9_ends 9 = .ok (.getfield 60, 3) := by decide +kernel
theorem dX9_ends_12 : decode cX9_ends 12 = .ok (.iload_n 1, 1) := by decide +kernel
theorem dX9_ends_13 : decode cX9_ends 13 = .ok (.invokevirtual 208, 3) := by decide +kernel
theorem dX9_ends_16 : decode cX9_ends 16 = .ok (.goto 4, 3) := by decide +kernel
theorem dX9_ends_19 : decode cX9_ends 19 = .ok (.iconst (-1), 1) := by decide +kernel
theorem dX9_ends_20 : decode cX9_ends 20 = .ok (.ireturn, 1) := by decide +kernel
theorem dX9_can_0 : decode cX9_can 0 = .ok (.aload_n 0, 1) := by decide +kernel
theorem dX9_can_1 : decode cX9_can 1 = .ok (.getfield 60, 3) := by decide +kernel
theorem dX9_can_4 : decode cX9_can 4 = .ok (.invokevirtual 211, 3) := by decide +kernel
theorem dX9_can_7 : decode cX9_can 7 = .ok (.ireturn, 1) := by decide +kernel
theorem dX9_ask_0 : decode cX9_ask 0 = .ok (.aload_n 0, 1) := by decide +kernel
theorem dX9_ask_1 : decode cX9_ask 1 = .ok (.getfield 60, 3) := by decide +kernel
theorem dX9_ask_4 : decode cX9_ask 4 = .ok (.invokevirtual 214, 3) := by decide +kernel
theorem dX9_ask_7 : decode cX9_ask 7 = .ok (.ireturn, 1) := by decide +kernel
theorem dX9_quiet_0 : decode cX9_quiet 0 = .ok (.aload_n 0, 1) := by decide +kernel
theorem dX9_quiet_1 : decode cX9_quiet 1 = .ok (.iload_n 1, 1) := by decide +kernel
theorem dX9_quiet_2 : decode cX9_quiet 2 = .ok (.invokevirtual 120, 3) := by decide +kernel
theorem dX9_quiet_5 : decode cX9_quiet 5 = .ok (.ifCond .eq 19, 3) := by decide +kernel
theorem dX9_quiet_8 : decode cX9_quiet 8 = .ok (.aload_n 0, 1) := by decide +kernel
theorem dX9_quiet_9 : decode cX9_quiet 9 = .ok (.iload_n 2, 1) := by decide +kernel
theorem dX9_quiet_10 : decode cX9_quiet 10 = .ok (.invokevirtual 202, 3) := by decide +kernel
theorem dX9_quiet_13 : decode cX9_quiet 13 = .ok (.ifCond .eq 11, 3) := by decide +kernel
theorem dX9_quiet_16 : decode cX9_quiet 16 = .ok (.aload_n 0, 1) := by decide +kernel
theorem dX9_quiet_17 : decode cX9_quiet 17 = .ok (.iload_n 3, 1) := by decide +kernel
theorem dX9_quiet_18 : decode cX9_quiet 18 = .ok (.invokevirtual 202, 3) := by decide +kernel
theorem dX9_quiet_21 : decode cX9_quiet 21 = .ok (.ifCond .ne 5, 3) := by decide +kernel
theorem dX9_quiet_24 : decode cX9_quiet 24 = .ok (.iconst (-1), 1) := by decide +kernel
theorem dX9_quiet_25 : decode cX9_quiet 25 = .ok (.ireturn, 1) := by decide +kernel
theorem dX9_quiet_26 : decode cX9_quiet 26 = .ok (.iload 4, 2) := by decide +kernel
theorem dX9_quiet_28 : decode cX9_quiet 28 = .ok (.tableswitch 61 0 2 #[28, 39, 50], 28) := by decide +kernel
theorem dX9_quiet_56 : decode cX9_quiet 56 = .ok (.aload_n 0, 1) := by decide +kernel
theorem dX9_quiet_57 : decode cX9_quiet 57 = .ok (.getfield 67, 3) := by decide +kernel
theorem dX9_quiet_60 : decode cX9_quiet 60 = .ok (.iload_n 1, 1) := by decide +kernel
theorem dX9_quiet_61 : decode cX9_quiet 61 = .ok (.iload_n 2, 1) := by decide +kernel
theorem dX9_quiet_62 : decode cX9_quiet 62 = .ok (.iload_n 3, 1) := by decide +kernel
theorem dX9_quiet_63 : decode cX9_quiet 63 = .ok (.invokevirtual 217, 3) := by decide +kernel
theorem dX9_quiet_66 : decode cX9_quiet 66 = .ok (.ireturn, 1) := by decide +kernel
theorem dX9_quiet_67 : decode cX9_quiet 67 = .ok (.aload_n 0, 1) := by decide +kernel
theorem dX9_quiet_68 : decode cX9_quiet 68 = .ok (.getfield 67, 3) := by decide +kernel
theorem dX9_quiet_71 : decode cX9_quiet 71 = .ok (.iload_n 1, 1) := by decide +kernel
theorem dX9_quiet_72 : decode cX9_quiet 72 = .ok (.iload_n 2, 1) := by decide +kernel
theorem dX9_quiet_73 : decode cX9_quiet 73 = .ok (.iload_n 3, 1) := by decide +kernel
theorem dX9_quiet_74 : decode cX9_quiet 74 = .ok (.invokevirtual 221, 3) := by decide +kernel
theorem dX9_quiet_77 : decode cX9_quiet 77 = .ok (.ireturn, 1) := by decide +kernel
theorem dX9_quiet_78 : decode cX9_quiet 78 = .ok (.aload_n 0, 1) := by decide +kernel
theorem dX9_quiet_79 : decode cX9_quiet 79 = .ok (.getfield 67, 3) := by decide +kernel
theorem dX9_quiet_82 : decode cX9_quiet 82 = .ok (.iload_n 1, 1) := by decide +kernel
theorem dX9_quiet_83 : decode cX9_quiet 83 = .ok (.iload_n 2, 1) := by decide +kernel
theorem dX9_quiet_84 : decode cX9_quiet 84 = .ok (.iload_n 3, 1) := by decide +kernel
theorem dX9_quiet_85 : decode cX9_quiet 85 = .ok (.invokevirtual 224, 3) := by decide +kernel
theorem dX9_quiet_88 : decode cX9_quiet 88 = .ok (.ireturn, 1) := by decide +kernel
theorem dX9_quiet_89 : decode cX9_quiet 89 = .ok (.iconst (-1), 1) := by decide +kernel
theorem dX9_quiet_90 : decode cX9_quiet 90 = .ok (.ireturn, 1) := by decide +kernel
theorem dX9_fifths_0 : decode cX9_fifths 0 = .ok (.aload_n 0, 1) := by decide +kernel
theorem dX9_fifths_1 : decode cX9_fifths 1 = .ok (.iload_n 1, 1) := by decide +kernel
theorem dX9_fifths_2 : decode cX9_fifths 2 = .ok (.invokevirtual 202, 3) := by decide +kernel
theorem dX9_fifths_5 : decode cX9_fifths 5 = .ok (.ifCond .eq 14, 3) := by decide +kernel
theorem dX9_fifths_8 : decode cX9_fifths 8 = .ok (.aload_n 0, 1) := by decide +kernel
theorem dX9_fifths_9 : decode cX9_fifths 9 = .ok (.getfield 38, 3) := by decide +kernel
theorem dX9_fifths_12 : decode cX9_fifths 12 = .ok (.iload_n 1, 1) := by decide +kernel
theorem dX9_fifths_13 : decode cX9_fifths 13 = .ok (.invokevirtual 227, 3) := by decide +kernel
theorem dX9_fifths_16 : decode cX9_fifths 16 = .ok (.goto 4, 3) := by decide +kernel
theorem dX9_fifths_19 : decode cX9_fifths 19 = .ok (.iconst (-1), 1) := by decide +kernel
theorem dX9_fifths_20 : decode cX9_fifths 20 = .ok (.ireturn, 1) := by decide +kernel
theorem dX9_herd_0 : decode cX9_herd 0 = .ok (.iload_n 1, 1) := by decide +kernel
theorem dX9_herd_1 : decode cX9_herd 1 = .ok (.iconst (-1), 1) := by decide +kernel
theorem dX9_herd_2 : decode cX9_herd 2 = .ok (.if_icmp .eq 13, 3) := by decide +kernel
theorem dX9_herd_5 : decode cX9_herd 5 = .ok (.aload_n 0, 1) := by decide +kernel
theorem dX9_herd_6 : decode cX9_herd 6 = .ok (.iload_n 1, 1) := by decide +kernel
theorem dX9_herd_7 : decode cX9_herd 7 = .ok (.invokevirtual 130, 3) := by decide +kernel
theorem dX9_herd_10 : decode cX9_herd 10 = .ok (.ifCond .ne 5, 3) := by decide +kernel
theorem dX9_herd_13 : decode cX9_herd 13 = .ok (.iconst (-1), 1) := by decide +kernel
theorem dX9_herd_14 : decode cX9_herd 14 = .ok (.ireturn, 1) := by decide +kernel
theorem dX9_herd_15 : decode cX9_herd 15 = .ok (.aload_n 0, 1) := by decide +kernel
theorem dX9_herd_16 : decode cX9_herd 16 = .ok (.getfield 19, 3) := by decide +kernel
theorem dX9_herd_19 : decode cX9_herd 19 = .ok (.getfield 230, 3) := by decide +kernel
theorem dX9_herd_22 : decode cX9_herd 22 = .ok (.aload_n 0, 1) := by decide +kernel
theorem dX9_herd_23 : decode cX9_herd 23 = .ok (.getfield 19, 3) := by decide +kernel
theorem dX9_herd_26 : decode cX9_herd 26 = .ok (.getfield 233, 3) := by decide +kernel
theorem dX9_herd_29 : decode cX9_herd 29 = .ok (.if_icmp .le 6, 3) := by decide +kernel
theorem dX9_herd_32 : decode cX9_herd 32 = .ok (.bipush (-9), 2) := by decide +kernel
theorem dX9_herd_34 : decode cX9_herd 34 = .ok (.ireturn, 1) := by decide +kernel
theorem dX9_herd_35 : decode cX9_herd 35 = .ok (.iload_n 1, 1) := by decide +kernel
theorem dX9_herd_36 : decode cX9_herd 36 = .ok (.iconst (-1), 1) := by decide +kernel
theorem dX9_herd_37 : decode cX9_herd 37 = .ok (.if_icmp .ne 13, 3) := by decide +kernel
theorem dX9_herd_40 : decode cX9_herd 40 = .ok (.aload_n 0, 1) := by decide +kernel
theorem dX9_herd_41 : decode cX9_herd 41 = .ok (.getfield 74, 3) := by decide +kernel
theorem dX9_herd_44 : decode cX9_herd 44 = .ok (.invokevirtual 236, 3) := by decide +kernel
theorem dX9_herd_47 : decode cX9_herd 47 = .ok (.goto 11, 3) := by decide +kernel
theorem dX9_herd_50 : decode cX9_herd 50 = .ok (.aload_n 0, 1) := by decide +kernel
theorem dX9_herd_51 : decode cX9_herd 51 = .ok (.getfield 74, 3) := by decide +kernel
theorem dX9_herd_54 : decode cX9_herd 54 = .ok (.iload_n 1, 1) := by decide +kernel
theorem dX9_herd_55 : decode cX9_herd 55 = .ok (.invokevirtual 239, 3) := by decide +kernel
theorem dX9_herd_58 : decode cX9_herd 58 = .ok (.ireturn, 1) := by decide +kernel
theorem dX9_frost_0 : decode cX9_frost 0 = .ok (.aload_n 0, 1) := by decide +kernel
theorem dX9_frost_1 : decode cX9_frost 1 = .ok (.iload_n 1, 1) := by decide +kernel
theorem dX9_frost_2 : decode cX9_frost 2 = .ok (.invokevirtual 120, 3) := by decide +kernel
theorem dX9_frost_5 : decode cX9_frost 5 = .ok (.ifCond .eq 27, 3) := by decide +kernel
theorem dX9_frost_8 : decode cX9_frost 8 = .ok (.aload_n 0, 1) := by decide +kernel
theorem dX9_frost_9 : decode cX9_frost 9 = .ok (.iload_n 2, 1) := by decide +kernel
theorem dX9_frost_10 : decode cX9_frost 10 = .ok (.invokevirtual 202, 3) := by decide +kernel
theorem dX9_frost_13 : decode cX9_frost 13 = .ok (.ifCond .eq 19, 3) := by decide +kernel
theorem dX9_frost_16 : decode cX9_frost 16 = .ok (.aload_n 0, 1) := by decide +kernel
theorem dX9_frost_17 : decode cX9_frost 17 = .ok (.iload_n 3, 1) := by decide +kernel
theorem dX9_frost_18 : decode cX9_frost 18 = .ok (.invokevirtual 202, 3) := by decide +kernel
theorem dX9_frost_21 : decode cX9_frost 21 = .ok (.ifCond .eq 11, 3) := by decide +kernel
theorem dX9_frost_24 : decode cX9_frost 24 = .ok (.iload 6, 2) := by decide +kernel
theorem dX9_frost_26 : decode cX9_frost 26 = .ok (.invokestatic 158, 3) := by decide +kernel
theorem dX9_frost_29 : decode cX9_frost 29 = .ok (.ifCond .ne 5, 3) := by decide +kernel
theorem dX9_frost_32 : decode cX9_frost 32 = .ok (.iconst (-1), 1) := by decide +kernel
theorem dX9_frost_33 : decode cX9_frost 33 = .ok (.ireturn, 1) := by decide +kernel
theorem dX9_frost_34 : decode cX9_frost 34 = .ok (.iload 4, 2) := by decide +kernel
theorem dX9_frost_36 : decode cX9_frost 36 = .ok (.ifCond .lt 22, 3) := by decide +kernel
theorem dX9_frost_39 : decode cX9_frost 39 = .ok (.iload 4, 2) := by decide +kernel
theorem dX9_frost_41 : decode cX9_frost 41 = .ok (.bipush 40, 2) := by decide +kernel
theorem dX9_frost_43 : decode cX9_frost 43 = .ok (.if_icmp .gt 15, 3) := by decide +kernel
theorem dX9_frost_46 : decode cX9_frost 46 = .ok (.iload 5, 2) := by decide +kernel
theorem dX9_frost_48 : decode cX9_frost 48 = .ok (.ifCond .lt 10, 3) := by decide +kernel
theorem dX9_frost_51 : decode cX9_frost 51 = .ok (.iload 5, 2) := by decide +kernel
theorem dX9_frost_53 : decode cX9_frost 53 = .ok (.bipush 10, 2) := by decide +kernel
theorem dX9_frost_55 : decode cX9_frost 55 = .ok (.if_icmp .le 5, 3) := by decide +kernel
theorem dX9_frost_58 : decode cX9_frost 58 = .ok (.iconst (-1), 1) := by decide +kernel
theorem dX9_frost_59 : decode cX9_frost 59 = .ok (.ireturn, 1) := by decide +kernel
theorem dX9_frost_60 : decode cX9_frost 60 = .ok (.aload_n 0, 1) := by decide +kernel
theorem dX9_frost_61 : decode cX9_frost 61 = .ok (.getfield 67, 3) := by decide +kernel
theorem dX9_frost_64 : decode cX9_frost 64 = .ok (.iload_n 1, 1) := by decide +kernel
theorem dX9_frost_65 : decode cX9_frost 65 = .ok (.iload 4, 2) := by decide +kernel
theorem dX9_frost_67 : decode cX9_frost 67 = .ok (.invokevirtual 242, 3) := by decide +kernel
theorem dX9_frost_70 : decode cX9_frost 70 = .ok (.istore 7, 2) := by decide +kernel
theorem dX9_frost_72 : decode cX9_frost 72 = .ok (.aload_n 0, 1) := by decide +kernel
theorem dX9_frost_73 : decode cX9_frost 73 = .ok (.getfield 67, 3) := by decide +kernel
theorem dX9_frost_76 : decode cX9_frost 76 = .ok (.iload_n 2, 1) := by decide +kernel
theorem dX9_frost_77 : decode cX9_frost 77 = .ok (.iload_n 3, 1) := by decide +kernel
theorem dX9_frost_78 : decode cX9_frost 78 = .ok (.iload 5, 2) := by decide +kernel
theorem dX9_frost_80 : decode cX9_frost 80 = .ok (.invokevirtual 245, 3) := by decide +kernel
theorem dX9_frost_83 : decode cX9_frost 83 = .ok (.istore 8, 2) := by decide +kernel
theorem dX9_frost_85 : decode cX9_frost 85 = .ok (.iconst 1, 1) := by decide +kernel
theorem dX9_frost_86 : decode cX9_frost 86 = .ok (.iload 8, 2) := by decide +kernel
theorem dX9_frost_88 : decode cX9_frost 88 = .ok (.iload 7, 2) := by decide +kernel
theorem dX9_frost_90 : decode cX9_frost 90 = .ok (.invokestatic 248, 3) := by decide +kernel
theorem dX9_frost_93 : decode cX9_frost 93 = .ok (.invokestatic 251, 3) := by decide +kernel
theorem dX9_frost_96 : decode cX9_frost 96 = .ok (.istore 9, 2) := by decide +kernel
theorem dX9_frost_98 : decode cX9_frost 98 = .ok (.iload 6, 2) := by decide +kernel
theorem dX9_frost_100 : decode cX9_frost 100 = .ok (.ifCond .ne 8, 3) := by decide +kernel
theorem dX9_frost_103 : decode cX9_frost 103 = .ok (.iload 8, 2) := by decide +kernel
theorem dX9_frost_105 : decode cX9_frost 105 = .ok (.goto 5, 3) := by decide +kernel
theorem dX9_frost_108 : decode cX9_frost 108 = .ok (.iload 7, 2) := by decide +kernel
theorem dX9_frost_110 : decode cX9_frost 110 = .ok (.iload 9, 2) := by decide +kernel
theorem dX9_frost_112 : decode cX9_frost 112 = .ok (.idiv, 1) := by decide +kernel
theorem dX9_frost_113 : decode cX9_frost 113 = .ok (.ireturn, 1) := by decide +kernel
theorem dX9_mark_0 : decode cX9_mark 0 = .ok (.aload_n 0, 1) := by decide +kernel
theorem dX9_mark_1 : decode cX9_mark 1 = .ok (.iload_n 2, 1) := by decide +kernel
theorem dX9_mark_2 : decode cX9_mark 2 = .ok (.invokevirtual 101, 3) := by decide +kernel
theorem dX9_mark_5 : decode cX9_mark 5 = .ok (.ifCond .ne 6, 3) := by decide +kernel
theorem dX9_mark_8 : decode cX9_mark 8 = .ok (.ldc 123, 2) := by decide +kernel
theorem dX9_mark_10 : decode cX9_mark 10 = .ok (.ireturn, 1) := by decide +kernel
theorem dX9_mark_11 : decode cX9_mark 11 = .ok (.iload_n 1, 1) := by decide +kernel
theorem dX9_mark_12 : decode cX9_mark 12 = .ok (.tableswitch 76 0 5 #[40, 46, 52, 58, 64, 70], 40) := by decide +kernel
theorem dX9_mark_52 : decode cX9_mark 52 = .ok (.aload_n 0, 1) := by decide +kernel
theorem dX9_mark_53 : decode cX9_mark 53 = .ok (.iload_n 2, 1) := by decide +kernel
theorem dX9_mark_54 : decode cX9_mark 54 = .ok (.invokevirtual 256, 3) := by decide +kernel
theorem dX9_mark_57 : decode cX9_mark 57 = .ok (.ireturn, 1) := by decide +kernel
theorem dX9_mark_58 : decode cX9_mark 58 = .ok (.aload_n 0, 1) := by decide +kernel
theorem dX9_mark_59 : decode cX9_mark 59 = .ok (.iload_n 2, 1) := by decide +kernel
theorem dX9_mark_60 : decode cX9_mark 60 = .ok (.invokevirtual 259, 3) := by decide +kernel
theorem dX9_mark_63 : decode cX9_mark 63 = .ok (.ireturn, 1) := by decide +kernel
theorem dX9_mark_64 : decode cX9_mark 64 = .ok (.aload_n 0, 1) := by decide +kernel
theorem dX9_mark_65 : decode cX9_mark 65 = .ok (.iload_n 2, 1) := by decide +kernel
theorem dX9_mark_66 : decode cX9_mark 66 = .ok (.invokevirtual 262, 3) := by decide +kernel
theorem dX9_mark_69 : decode cX9_mark 69 = .ok (.ireturn, 1) := by decide +kernel
theorem dX9_mark_70 : decode cX9_mark 70 = .ok (.aload_n 0, 1) := by decide +kernel
theorem dX9_mark_71 : decode cX9_mark 71 = .ok (.iload_n 2, 1) := by decide +kernel
theorem dX9_mark_72 : decode cX9_mark 72 = .ok (.invokevirtual 265, 3) := by decide +kernel
theorem dX9_mark_75 : decode cX9_mark 75 = .ok (.ireturn, 1) := by decide +kernel
theorem dX9_mark_76 : decode cX9_mark 76 = .ok (.aload_n 0, 1) := by decide +kernel
theorem dX9_mark_77 : decode cX9_mark 77 = .ok (.iload_n 2, 1) := by decide +kernel
theorem dX9_mark_78 : decode cX9_mark 78 = .ok (.invokevirtual 268, 3) := by decide +kernel
theorem dX9_mark_81 : decode cX9_mark 81 = .ok (.ireturn, 1) := by decide +kernel
theorem dX9_mark_82 : decode cX9_mark 82 = .ok (.aload_n 0, 1) := by decide +kernel
theorem dX9_mark_83 : decode cX9_mark 83 = .ok (.iload_n 2, 1) := by decide +kernel
theorem dX9_mark_84 : decode cX9_mark 84 = .ok (.invokevirtual 271, 3) := by decide +kernel
theorem dX9_mark_87 : decode cX9_mark 87 = .ok (.ireturn, 1) := by decide +kernel
theorem dX9_mark_88 : decode cX9_mark 88 = .ok (.ldc 123, 2) := by decide +kernel
theorem dX9_mark_90 : decode cX9_mark 90 = .ok (.ireturn, 1) := by decide +kernel
theorem dX9_keep_0 : decode cX9_keep 0 = .ok (.iload_n 1, 1) := by decide +kernel
theorem dX9_keep_1 : decode cX9_keep 1 = .ok (.invokestatic 274, 3) := by decide +kernel
theorem dX9_keep_4 : decode cX9_keep 4 = .ok (.ifCond .ne 5, 3) := by decide +kernel
theorem dX9_keep_7 : decode cX9_keep 7 = .ok (.iconst (-1), 1) := by decide +kernel
theorem dX9_keep_8 : decode cX9_keep 8 = .ok (.ireturn, 1) := by decide +kernel
theorem dX9_keep_9 : decode cX9_keep 9 = .ok (.aload_n 0, 1) := by decide +kernel
theorem dX9_keep_10 : decode cX9_keep 10 = .ok (.getfield 51, 3) := by decide +kernel
theorem dX9_keep_13 : decode cX9_keep 13 = .ok (.iload_n 1, 1) := by decide +kernel
theorem dX9_keep_14 : decode cX9_keep 14 = .ok (.aaload, 1) := by decide +kernel
theorem dX9_keep_15 : decode cX9_keep 15 = .ok (.aload_n 0, 1) := by decide +kernel
theorem dX9_keep_16 : decode cX9_keep 16 = .ok (.getfield 29, 3) := by decide +kernel
theorem dX9_keep_19 : decode cX9_keep 19 = .ok (.aload_n 0, 1) := by decide +kernel
theorem dX9_keep_20 : decode cX9_keep 20 = .ok (.getfield 45, 3) := by decide +kernel
theorem dX9_keep_23 : decode cX9_keep 23 = .ok (.invokevirtual 277, 3) := by decide +kernel
theorem dX9_keep_26 : decode cX9_keep 26 = .ok (.aload_n 0, 1) := by decide +kernel
theorem dX9_keep_27 : decode cX9_keep 27 = .ok (.getfield 29, 3) := by decide +kernel
theorem dX9_keep_30 : decode cX9_keep 30 = .ok (.getfield 170, 3) := by decide +kernel
theorem dX9_keep_33 : decode cX9_keep 33 = .ok (.ireturn, 1) := by decide +kernel
theorem dX9_back_0 : decode cX9_back 0 = .ok (.iload_n 1, 1) := by decide +kernel
theorem dX9_back_1 : decode cX9_back 1 = .ok (.invokestatic 274, 3) := by decide +kernel
theorem dX9_back_4 : decode cX9_back 4 = .ok (.ifCond .ne 5, 3) := by decide +kernel
theorem dX9_back_7 : decode cX9_back 7 = .ok (.iconst (-1), 1) := by decide +kernel
theorem dX9_back_8 : decode cX9_back 8 = .ok (.ireturn, 1) := by decide +kernel
theorem dX9_back_9 : decode cX9_back 9 = .ok (.aload_n 0, 1) := by decide +kernel
theorem dX9_back_10 : decode cX9_back 10 = .ok (.getfield 51, 3) := by decide +kernel
theorem dX9_back_13 : decode cX9_back 13 = .ok (.iload_n 1, 1) := by decide +kernel
theorem dX9_back_14 : decode cX9_back 14 = .ok (.aaload, 1) := by decide +kernel
theorem dX9_back_15 : decode cX9_back 15 = .ok (.getfield 281, 3) := by decide +kernel
theorem dX9_back_18 : decode cX9_back 18 = .ok (.ifCond .ne 6, 3) := by decide +kernel
theorem dX9_back_21 : decode cX9_back 21 = .ok (.bipush (-2), 2) := by decide +kernel
theorem dX9_back_23 : decode cX9_back 23 = .ok (.ireturn, 1) := by decide +kernel
theorem dX9_back_24 : decode cX9_back 24 = .ok (.aload_n 0, 1) := by decide +kernel
theorem dX9_back_25 : decode cX9_back 25 = .ok (.getfield 51, 3) := by decide +kernel
theorem dX9_back_28 : decode cX9_back 28 = .ok (.iload_n 1, 1) := by decide +kernel
theorem dX9_back_29 : decode cX9_back 29 = .ok (.aaload, 1) := by decide +kernel
theorem dX9_back_30 : decode cX9_back 30 = .ok (.aload_n 0, 1) := by decide +kernel
theorem dX9_back_31 : decode cX9_back 31 = .ok (.getfield 29, 3) := by decide +kernel
theorem dX9_back_34 : decode cX9_back 34 = .ok (.aload_n 0, 1) := by decide +kernel
theorem dX9_back_35 : decode cX9_back 35 = .ok (.getfield 45, 3) := by decide +kernel
theorem dX9_back_38 : decode cX9_back 38 = .ok (.invokevirtual 285, 3) := by decide +kernel
theorem dX9_back_41 : decode cX9_back 41 = .ok (.aload_n 0, 1) := by decide +kernel
theorem dX9_back_42 : decode cX9_back 42 = .ok (.getfield 29, 3) := by decide +kernel
theorem dX9_back_45 : decode cX9_back 45 = .ok (.getfield 170, 3) := by decide +kernel
theorem dX9_back_48 : decode cX9_back 48 = .ok (.ireturn, 1) := by decide +kernel
theorem dX9_count_0 : decode cX9_count 0 = .ok (.iload_n 1, 1) := by decide +kernel
theorem dX9_count_1 : decode cX9_count 1 = .ok (.tableswitch 99 0 6 #[43, 51, 59, 67, 75, 83, 91], 43) := by decide +kernel
theorem dX9_count_44 : decode cX9_count 44 = .ok (.aload_n 0, 1) := by decide +kernel
theorem dX9_count_45 : decode cX9_count 45 = .ok (.getfield 19, 3) := by decide +kernel
theorem dX9_count_48 : decode cX9_count 48 = .ok (.getfield 233, 3) := by decide +kernel
theorem dX9_count_51 : decode cX9_count 51 = .ok (.ireturn, 1) := by decide +kernel
theorem dX9_count_52 : decode cX9_count 52 = .ok (.aload_n 0, 1) := by decide +kernel
theorem dX9_count_53 : decode cX9_count 53 = .ok (.getfield 19, 3) := by decide +kernel
theorem dX9_count_56 : decode cX9_count 56 = .ok (.getfield 167, 3) := by decide +kernel
theorem dX9_count_59 : decode cX9_count 59 = .ok (.ireturn, 1) := by decide +kernel
theorem dX9_count_60 : decode cX9_count 60 = .ok (.aload_n 0, 1) := by decide +kernel
theorem dX9_count_61 : decode cX9_count 61 = .ok (.getfield 19, 3) := by decide +kernel
theorem dX9_count_64 : decode cX9_count 64 = .ok (.getfield 288, 3) := by decide +kernel
theorem dX9_count_67 : decode cX9_count 67 = .ok (.ireturn, 1) := by decide +kernel
theorem dX9_count_68 : decode cX9_count 68 = .ok (.aload_n 0, 1) := by decide +kernel
theorem dX9_count_69 : decode cX9_count 69 = .ok (.getfield 19, 3) := by decide +kernel
theorem dX9_count_72 : decode cX9_count 72 = .ok (.getfield 230, 3) := by decide +kernel
theorem dX9_count_75 : decode cX9_count 75 = .ok (.ireturn, 1) := by decide +kernel
theorem dX9_count_76 : decode cX9_count 76 = .ok (.aload_n 0, 1) := by decide +kernel
theorem dX9_count_77 : decode cX9_count 77 = .ok (.getfield 60, 3) := by decide +kernel
theorem dX9_count_80 : decode cX9_count 80 = .ok (.getfield 199, 3) := by decide +kernel
theorem dX9_count_83 : decode cX9_count 83 = .ok (.ireturn, 1) := by decide +kernel
theorem dX9_count_84 : decode cX9_count 84 = .ok (.aload_n 0, 1) := by decide +kernel
theorem dX9_count_85 : decode cX9_count 85 = .ok (.getfield 45, 3) := by decide +kernel
theorem dX9_count_88 : decode cX9_count 88 = .ok (.getfield 173, 3) := by decide +kernel
theorem dX9_count_91 : decode cX9_count 91 = .ok (.ireturn, 1) := by decide +kernel
theorem dX9_count_92 : decode cX9_count 92 = .ok (.aload_n 0, 1) := by decide +kernel
theorem dX9_count_93 : decode cX9_count 93 = .ok (.getfield 10, 3) := by decide +kernel
theorem dX9_count_96 : decode cX9_count 96 = .ok (.getfield 89, 3) := by decide +kernel
theorem dX9_count_99 : decode cX9_count 99 = .ok (.ireturn, 1) := by decide +kernel
theorem dX9_count_100 : decode cX9_count 100 = .ok (.iconst (-1), 1) := by decide +kernel
theorem dX9_count_101 : decode cX9_count 101 = .ok (.ireturn, 1) := by decide +kernel
theorem dX9_trace_0 : decode cX9_trace 0 = .ok (.aload_n 0, 1) := by decide +kernel
theorem dX9_trace_1 : decode cX9_trace 1 = .ok (.getfield 291, 3) := by decide +kernel
theorem dX9_trace_4 : decode cX9_trace 4 = .ok (.lreturn, 1) := by decide +kernel
theorem dX9_beginAnew_0 : decode cX9_beginAnew 0 = .ok (.aload_n 0, 1) := by decide +kernel
theorem dX9_beginAnew_1 : decode cX9_beginAnew 1 = .ok (.getfield 29, 3) := by decide +kernel
theorem dX9_beginAnew_4 : decode cX9_beginAnew 4 = .ok (.aload_n 0, 1) := by decide +kernel
theorem dX9_beginAnew_5 : decode cX9_beginAnew 5 = .ok (.getfield 19, 3) := by decide +kernel
theorem dX9_beginAnew_8 : decode cX9_beginAnew 8 = .ok (.invokevirtual 295, 3) := by decide +kernel
theorem dX9_beginAnew_11 : decode cX9_beginAnew 11 = .ok (.aload_n 0, 1) := by decide +kernel
theorem dX9_beginAnew_12 : decode cX9_beginAnew 12 = .ok (.getfield 45, 3) := by decide +kernel
theorem dX9_beginAnew_15 : decode cX9_beginAnew 15 = .ok (.iconst 0, 1) := by decide +kernel
theorem dX9_beginAnew_16 : decode cX9_beginAnew 16 = .ok (.putfield 173, 3) := by decide +kernel
theorem dX9_beginAnew_19 : decode cX9_beginAnew 19 = .ok (.aload_n 0, 1) := by decide +kernel
theorem dX9_beginAnew_20 : decode cX9_beginAnew 20 = .ok (.getfield 60, 3) := by decide +kernel
theorem dX9_beginAnew_23 : decode cX9_beginAnew 23 = .ok (.iconst 0, 1) := by decide +kernel
theorem dX9_beginAnew_24 : decode cX9_beginAnew 24 = .ok (.putfield 199, 3) := by decide +kernel
theorem dX9_beginAnew_27 : decode cX9_beginAnew 27 = .ok (.iconst 0, 1) := by decide +kernel
theorem dX9_beginAnew_28 : decode cX9_beginAnew 28 = .ok (.istore_n 1, 1) := by decide +kernel
theorem dX9_beginAnew_29 : decode cX9_beginAnew 29 = .ok (.iload_n 1, 1) := by decide +kernel
theorem dX9_beginAnew_30 : decode cX9_beginAnew 30 = .ok (.iconst 2, 1) := by decide +kernel
theorem dX9_beginAnew_31 : decode cX9_beginAnew 31 = .ok (.if_icmp .ge 19, 3) := by decide +kernel
theorem dX9_beginAnew_34 : decode cX9_beginAnew 34 = .ok (.aload_n 0, 1) := by decide +kernel
theorem dX9_beginAnew_35 : decode cX9_beginAnew 35 = .ok (.getfield 51, 3) := by decide +kernel
theorem dX9_beginAnew_38 : decode cX9_beginAnew 38 = .ok (.iload_n 1, 1) := by decide +kernel
theorem dX9_beginAnew_39 : decode cX9_beginAnew 39 = .ok (.aaload, 1) := by decide +kernel
theorem dX9_beginAnew_40 : decode cX9_beginAnew 40 = .ok (.iconst 0, 1) := by decide +kernel
theorem dX9_beginAnew_41 : decode cX9_beginAnew 41 = .ok (.putfield 281, 3) := by decide +kernel
theorem dX9_beginAnew_44 : decode cX9_beginAnew 44 = .ok (.iinc 1 1, 3) := by decide +kernel
theorem dX9_beginAnew_47 : decode cX9_beginAnew 47 = .ok (.goto (-18), 3) := by decide +kernel
theorem dX9_beginAnew_50 : decode cX9_beginAnew 50 = .ok (.return_, 1) := by decide +kernel
theorem dX9_isField_0 : decode cX9_isField 0 = .ok (.iload_n 1, 1) := by decide +kernel
theorem dX9_isField_1 : decode cX9_isField 1 = .ok (.ifCond .lt 18, 3) := by decide +kernel
theorem dX9_isField_4 : decode cX9_isField 4 = .ok (.iload_n 1, 1) := by decide +kernel
theorem dX9_isField_5 : decode cX9_isField 5 = .ok (.aload_n 0, 1) := by decide +kernel
theorem dX9_isField_6 : decode cX9_isField 6 = .ok (.getfield 19, 3) := by decide +kernel
theorem dX9_isField_9 : decode cX9_isField 9 = .ok (.getfield 233, 3) := by decide +kernel
theorem dX9_isField_12 : decode cX9_isField 12 = .ok (.if_icmp .ge 7, 3) := by decide +kernel
theorem dX9_isField_15 : decode cX9_isField 15 = .ok (.iconst 1, 1) := by decide +kernel
theorem dX9_isField_16 : decode cX9_isField 16 = .ok (.goto 4, 3) := by decide +kernel
theorem dX9_isField_19 : decode cX9_isField 19 = .ok (.iconst 0, 1) := by decide +kernel
theorem dX9_isField_20 : decode cX9_isField 20 = .ok (.ireturn, 1) := by decide +kernel
theorem dX9_isFence_0 : decode cX9_isFence 0 = .ok (.iload_n 1, 1) := by decide +kernel
theorem dX9_isFence_1 : decode cX9_isFence 1 = .ok (.ifCond .lt 18, 3) := by decide +kernel
theorem dX9_isFence_4 : decode cX9_isFence 4 = .ok (.iload_n 1, 1) := by decide +kernel
theorem dX9_isFence_5 : decode cX9_isFence 5 = .ok (.aload_n 0, 1) := by decide +kernel
theorem dX9_isFence_6 : decode cX9_isFence 6 = .ok (.getfield 19, 3) := by decide +kernel
theorem dX9_isFence_9 : decode cX9_isFence 9 = .ok (.getfield 167, 3) := by decide +kernel
theorem dX9_isFence_12 : decode cX9_isFence 12 = .ok (.if_icmp .ge 7, 3) := by decide +kernel
theorem dX9_isFence_15 : decode cX9_isFence 15 = .ok (.iconst 1, 1) := by decide +kernel
theorem dX9_isFence_16 : decode cX9_isFence 16 = .ok (.goto 4, 3) := by decide +kernel
theorem dX9_isFence_19 : decode cX9_isFence 19 = .ok (.iconst 0, 1) := by decide +kernel
theorem dX9_isFence_20 : decode cX9_isFence 20 = .ok (.ireturn, 1) := by decide +kernel
theorem dX9_isKind_0 : decode cX9_isKind 0 = .ok (.iload_n 1, 1) := by decide +kernel
theorem dX9_isKind_1 : decode cX9_isKind 1 = .ok (.ifCond .lt 18, 3) := by decide +kernel
theorem dX9_isKind_4 : decode cX9_isKind 4 = .ok (.iload_n 1, 1) := by decide +kernel
theorem dX9_isKind_5 : decode cX9_isKind 5 = .ok (.aload_n 0, 1) := by decide +kernel
theorem dX9_isKind_6 : decode cX9_isKind 6 = .ok (.getfield 19, 3) := by decide +kernel
theorem dX9_isKind_9 : decode cX9_isKind 9 = .ok (.getfield 288, 3) := by decide +kernel
theorem dX9_isKind_12 : decode cX9_isKind 12 = .ok (.if_icmp .ge 7, 3) := by decide +kernel
theorem dX9_isKind_15 : decode cX9_isKind 15 = .ok (.iconst 1, 1) := by decide +kernel
theorem dX9_isKind_16 : decode cX9_isKind 16 = .ok (.goto 4, 3) := by decide +kernel
theorem dX9_isKind_19 : decode cX9_isKind 19 = .ok (.iconst 0, 1) := by decide +kernel
theorem dX9_isKind_20 : decode cX9_isKind 20 = .ok (.ireturn, 1) := by decide +kernel
theorem dX9_isBeast_0 : decode cX9_isBeast 0 = .ok (.iload_n 1, 1) := by decide +kernel
theorem dX9_isBeast_1 : decode cX9_isBeast 1 = .ok (.ifCond .lt 18, 3) := by decide +kernel
theorem dX9_isBeast_4 : decode cX9_isBeast 4 = .ok (.iload_n 1, 1) := by decide +kernel
theorem dX9_isBeast_5 : decode cX9_isBeast 5 = .ok (.aload_n 0, 1) := by decide +kernel
theorem dX9_isBeast_6 : decode cX9_isBeast 6 = .ok (.getfield 19, 3) := by decide +kernel
theorem dX9_isBeast_9 : decode cX9_isBeast 9 = .ok (.getfield 230, 3) := by decide +kernel
theorem dX9_isBeast_12 : decode cX9_isBeast 12 = .ok (.if_icmp .ge 7, 3) := by decide +kernel
theorem dX9_isBeast_15 : decode cX9_isBeast 15 = .ok (.iconst 1, 1) := by decide +kernel
theorem dX9_isBeast_16 : decode cX9_isBeast 16 = .ok (.goto 4, 3) := by decide +kernel
theorem dX9_isBeast_19 : decode cX9_isBeast 19 = .ok (.iconst 0, 1) := by decide +kernel
theorem dX9_isBeast_20 : decode cX9_isBeast 20 = .ok (.ireturn, 1) := by decide +kernel
theorem dX9_isImage_0 : decode cX9_isImage 0 = .ok (.iload_n 0, 1) := by decide +kernel
theorem dX9_isImage_1 : decode cX9_isImage 1 = .ok (.ifCond .lt 12, 3) := by decide +kernel
theorem dX9_isImage_4 : decode cX9_isImage 4 = .ok (.iload_n 0, 1) := by decide +kernel
theorem dX9_isImage_5 : decode cX9_isImage 5 = .ok (.iconst 2, 1) := by decide +kernel
theorem dX9_isImage_6 : decode cX9_isImage 6 = .ok (.if_icmp .ge 7, 3) := by decide +kernel
theorem dX9_isImage_9 : decode cX9_isImage 9 = .ok (.iconst 1, 1) := by decide +kernel
theorem dX9_isImage_10 : decode cX9_isImage 10 = .ok (.goto 4, 3) := by decide +kernel
theorem dX9_isImage_13 : decode cX9_isImage 13 = .ok (.iconst 0, 1) := by decide +kernel
theorem dX9_isImage_14 : decode cX9_isImage 14 = .ok (.ireturn, 1) := by decide +kernel
theorem dX9_isFlag_0 : decode cX9_isFlag 0 = .ok (.iload_n 0, 1) := by decide +kernel
theorem dX9_isFlag_1 : decode cX9_isFlag 1 = .ok (.ifCond .eq 8, 3) := by decide +kernel
theorem dX9_isFlag_4 : decode cX9_isFlag 4 = .ok (.iload_n 0, 1) := by decide +kernel
theorem dX9_isFlag_5 : decode cX9_isFlag 5 = .ok (.iconst 1, 1) := by decide +kernel
theorem dX9_isFlag_6 : decode cX9_isFlag 6 = .ok (.if_icmp .ne 7, 3) := by decide +kernel
theorem dX9_isFlag_9 : decode cX9_isFlag 9 = .ok (.iconst 1, 1) := by decide +kernel
theorem dX9_isFlag_10 : decode cX9_isFlag 10 = .ok (.goto 4, 3) := by decide +kernel
theorem dX9_isFlag_13 : decode cX9_isFlag 13 = .ok (.iconst 0, 1) := by decide +kernel
theorem dX9_isFlag_14 : decode cX9_isFlag 14 = .ok (.ireturn, 1) := by decide +kernel
theorem dX9_markString_0 : decode cX9_markString 0 = .ok (.aload_n 0, 1) := by decide +kernel
theorem dX9_markString_1 : decode cX9_markString 1 = .ok (.dup, 1) := by decide +kernel
theorem dX9_markString_2 : decode cX9_markString 2 = .ok (.getfield 291, 3) := by decide +kernel
theorem dX9_markString_5 : decode cX9_markString 5 = .ok (.lconst 1, 1) := by decide +kernel
theorem dX9_markString_6 : decode cX9_markString 6 = .ok (.ladd, 1) := by decide +kernel
theorem dX9_markString_7 : decode cX9_markString 7 = .ok (.putfield 291, 3) := by decide +kernel
theorem dX9_markString_10 : decode cX9_markString 10 = .ok (.aload_n 0, 1) := by decide +kernel
theorem dX9_markString_11 : decode cX9_markString 11 = .ok (.getfield 29, 3) := by decide +kernel
theorem dX9_markString_14 : decode cX9_markString 14 = .ok (.getfield 111, 3) := by decide +kernel
theorem dX9_markString_17 : decode cX9_markString 17 = .ok (.iload_n 1, 1) := by decide +kernel
theorem dX9_markString_18 : decode cX9_markString 18 = .ok (.iaload, 1) := by decide +kernel
theorem dX9_markString_19 : decode cX9_markString 19 = .ok (.ireturn, 1) := by decide +kernel
theorem dX9_markBass_0 : decode cX9_markBass 0 = .ok (.aload_n 0, 1) := by decide +kernel
theorem dX9_markBass_1 : decode cX9_markBass 1 = .ok (.dup, 1) := by decide +kernel
theorem dX9_markBass_2 : decode cX9_markBass 2 = .ok (.getfield 291, 3) := by decide +kernel
theorem dX9_markBass_5 : decode cX9_markBass 5 = .ok (.ldc2_w 297, 3) := by decide +kernel
theorem dX9_markBass_8 : decode cX9_markBass 8 = .ok (.ladd, 1) := by decide +kernel
theorem dX9_markBass_9 : decode cX9_markBass 9 = .ok (.putfield 291, 3) := by decide +kernel
theorem dX9_markBass_12 : decode cX9_markBass 12 = .ok (.aload_n 0, 1) := by decide +kernel
theorem dX9_markBass_13 : decode cX9_markBass 13 = .ok (.iload_n 1, 1) := by decide +kernel
theorem dX9_markBass_14 : decode cX9_markBass 14 = .ok (.invokevirtual 256, 3) := by decide +kernel
theorem dX9_markBass_17 : decode cX9_markBass 17 = .ok (.aload_n 0, 1) := by decide +kernel
theorem dX9_markBass_18 : decode cX9_markBass 18 = .ok (.getfield 29, 3) := by decide +kernel
theorem dX9_markBass_21 : decode cX9_markBass 21 = .ok (.getfield 170, 3) := by decide +kernel
theorem dX9_markBass_24 : decode cX9_markBass 24 = .ok (.iadd, 1) := by decide +kernel
theorem dX9_markBass_25 : decode cX9_markBass 25 = .ok (.ireturn, 1) := by decide +kernel
theorem dX9_markTreble_0 : decode cX9_markTreble 0 = .ok (.aload_n 0, 1) := by decide +kernel
theorem dX9_markTreble_1 : decode cX9_markTreble 1 = .ok (.dup, 1) := by decide +kernel
theorem dX9_markTreble_2 : decode cX9_markTreble 2 = .ok (.getfield 291, 3) := by decide +kernel
theorem dX9_markTreble_5 : decode cX9_markTreble 5 = .ok (.ldc2_w 299, 3) := by decide +kernel
theorem dX9_markTreble_8 : decode cX9_markTreble 8 = .ok (.ladd, 1) := by decide +kernel
theorem dX9_markTreble_9 : decode cX9_markTreble 9 = .ok (.putfield 291, 3) := by decide +kernel
theorem dX9_markTreble_12 : decode cX9_markTreble 12 = .ok (.aload_n 0, 1) := by decide +kernel
theorem dX9_markTreble_13 : decode cX9_markTreble 13 = .ok (.iload_n 1, 1) := by decide +kernel
theorem dX9_markTreble_14 : decode cX9_markTreble 14 = .ok (.invokevirtual 256, 3) := by decide +kernel
theorem dX9_markTreble_17 : decode cX9_markTreble 17 = .ok (.aload_n 0, 1) := by decide +kernel
theorem dX9_markTreble_18 : decode cX9_markTreble 18 = .ok (.getfield 38, 3) := by decide +kernel
theorem dX9_markTreble_21 : decode cX9_markTreble 21 = .ok (.aload_n 0, 1) := by decide +kernel
theorem dX9_markTreble_22 : decode cX9_markTreble 22 = .ok (.getfield 19, 3) := by decide +kernel
theorem dX9_markTreble_25 : decode cX9_markTreble 25 = .ok (.getfield 104, 3) := by decide +kernel
theorem dX9_markTreble_28 : decode cX9_markTreble 28 = .ok (.iload_n 1, 1) := by decide +kernel
theorem dX9_markTreble_29 : decode cX9_markTreble 29 = .ok (.iaload, 1) := by decide +kernel
theorem dX9_markTreble_30 : decode cX9_markTreble 30 = .ok (.invokevirtual 227, 3) := by decide +kernel
theorem dX9_markTreble_33 : decode cX9_markTreble 33 = .ok (.isub, 1) := by decide +kernel
theorem dX9_markTreble_34 : decode cX9_markTreble 34 = .ok (.ireturn, 1) := by decide +kernel
theorem dX9_markBull_0 : decode cX9_markBull 0 = .ok (.aload_n 0, 1) := by decide +kernel
theorem dX9_markBull_1 : decode cX9_markBull 1 = .ok (.dup, 1) := by decide +kernel
theorem dX9_markBull_2 : decode cX9_markBull 2 = .ok (.getfield 291, 3) := by decide +kernel
theorem dX9_markBull_5 : decode cX9_markBull 5 = .ok (.ldc2_w 301, 3) := by decide +kernel
theorem dX9_markBull_8 : decode cX9_markBull 8 = .ok (.ladd, 1) := by decide +kernel
theorem dX9_markBull_9 : decode cX9_markBull 9 = .ok (.putfield 291, 3) := by decide +kernel
theorem dX9_markBull_12 : decode cX9_markBull 12 = .ok (.aload_n 0, 1) := by decide +kernel
theorem dX9_markBull_13 : decode cX9_markBull 13 = .ok (.iload_n 1, 1) := by decide +kernel
theorem dX9_markBull_14 : decode cX9_markBull 14 = .ok (.invokevirtual 259, 3) := by decide +kernel
theorem dX9_markBull_17 : decode cX9_markBull 17 = .ok (.iconst 2, 1) := by decide +kernel
theorem dX9_markBull_18 : decode cX9_markBull 18 = .ok (.imul, 1) := by decide +kernel
theorem dX9_markBull_19 : decode cX9_markBull 19 = .ok (.ireturn, 1) := by decide +kernel
theorem dX9_markLark_0 : decode cX9_markLark 0 = .ok (.aload_n 0, 1) := by decide +kernel
theorem dX9_markLark_1 : decode cX9_markLark 1 = .ok (.dup, 1) := by decide +kernel
theorem dX9_markLark_2 : decode cX9_markLark 2 = .ok (.getfield 291, 3) := by decide +kernel
theorem dX9_markLark_5 : decode cX9_markLark 5 = .ok (.ldc2_w 303, 3) := by decide +kernel
theorem dX9_markLark_8 : decode cX9_markLark 8 = .ok (.ladd, 1) := by decide +kernel
theorem dX9_markLark_9 : decode cX9_markLark 9 = .ok (.putfield 291, 3) := by decide +kernel
theorem dX9_markLark_12 : decode cX9_markLark 12 = .ok (.aload_n 0, 1) := by decide +kernel
theorem dX9_markLark_13 : decode cX9_markLark 13 = .ok (.iload_n 1, 1) := by decide +kernel
theorem dX9_markLark_14 : decode cX9_markLark 14 = .ok (.invokevirtual 262, 3) := by decide +kernel
theorem dX9_markLark_17 : decode cX9_markLark 17 = .ok (.iload_n 1, 1) := by decide +kernel
theorem dX9_markLark_18 : decode cX9_markLark 18 = .ok (.iadd, 1) := by decide +kernel
theorem dX9_markLark_19 : decode cX9_markLark 19 = .ok (.ireturn, 1) := by decide +kernel
theorem dX9_markPedal_0 : decode cX9_markPedal 0 = .ok (.aload_n 0, 1) := by decide +kernel
theorem dX9_markPedal_1 : decode cX9_markPedal 1 = .ok (.dup, 1) := by decide +kernel
theorem dX9_markPedal_2 : decode cX9_markPedal 2 = .ok (.getfield 291, 3) := by decide +kernel
theorem dX9_markPedal_5 : decode cX9_markPedal 5 = .ok (.ldc2_w 305, 3) := by decide +kernel
theorem dX9_markPedal_8 : decode cX9_markPedal 8 = .ok (.ladd, 1) := by decide +kernel
theorem dX9_markPedal_9 : decode cX9_markPedal 9 = .ok (.putfield 291, 3) := by decide +kernel
theorem dX9_markPedal_12 : decode cX9_markPedal 12 = .ok (.aload_n 0, 1) := by decide +kernel
theorem dX9_markPedal_13 : decode cX9_markPedal 13 = .ok (.iload_n 1, 1) := by decide +kernel
theorem dX9_markPedal_14 : decode cX9_markPedal 14 = .ok (.invokevirtual 256, 3) := by decide +kernel
theorem dX9_markPedal_17 : decode cX9_markPedal 17 = .ok (.aload_n 0, 1) := by decide +kernel
theorem dX9_markPedal_18 : decode cX9_markPedal 18 = .ok (.getfield 29, 3) := by decide +kernel
theorem dX9_markPedal_21 : decode cX9_markPedal 21 = .ok (.getfield 179, 3) := by decide +kernel
theorem dX9_markPedal_24 : decode cX9_markPedal 24 = .ok (.iadd, 1) := by decide +kernel
theorem dX9_markPedal_25 : decode cX9_markPedal 25 = .ok (.ireturn, 1) := by decide +kernel
theorem dX10_init_0 : decode cX10_init 0 = .ok (.aload_n 0, 1) := by decide +kernel
theorem dX10_init_1 : decode cX10_init 1 = .ok (.invokespecial 1, 3) := by decide +kernel
theorem dX10_init_4 : decode cX10_init 4 = .ok (.aload_n 0, 1) := by decide +kernel
theorem dX10_init_5 : decode cX10_init 5 = .ok (.sipush 150, 3) := by decide +kernel
theorem dX10_init_8 : decode cX10_init 8 = .ok (.newarray .byte, 2) := by decide +kernel
theorem dX10_init_10 : decode cX10_init 10 = .ok (.putfield 7, 3) := by decide +kernel
theorem dX10_init_13 : decode cX10_init 13 = .ok (.aload_n 0, 1) := by decide +kernel
theorem dX10_init_14 : decode cX10_init 14 = .ok (.iconst 2, 1) := by decide +kernel
theorem dX10_init_15 : decode cX10_init 15 = .ok (.newarray .int, 2) := by decide +kernel
theorem dX10_init_17 : decode cX10_init 17 = .ok (.putfield 13, 3) := by decide +kernel
theorem dX10_init_20 : decode cX10_init 20 = .ok (.aload_n 0, 1) := by decide +kernel
theorem dX10_init_21 : decode cX10_init 21 = .ok (.iconst 2, 1) := by decide +kernel
theorem dX10_init_22 : decode cX10_init 22 = .ok (.newarray .int, 2) := by decide +kernel
theorem dX10_init_24 : decode cX10_init 24 = .ok (.putfield 17, 3) := by decide +kernel
theorem dX10_init_27 : decode cX10_init 27 = .ok (.aload_n 0, 1) := by decide +kernel
theorem dX10_init_28 : decode cX10_init 28 = .ok (.bipush 16, 2) := by decide +kernel
theorem dX10_init_30 : decode cX10_init 30 = .ok (.newarray .int, 2) := by decide +kernel
theorem dX10_init_32 : decode cX10_init 32 = .ok (.putfield 20, 3) := by decide +kernel
theorem dX10_init_35 : decode cX10_init 35 = .ok (.aload_n 0, 1) := by decide +kernel
theorem dX10_init_36 : decode cX10_init 36 = .ok (.bipush 16, 2) := by decide +kernel
theorem dX10_init_38 : decode cX10_init 38 = .ok (.newarray .int, 2) := by decide +kernel
theorem dX10_init_40 : decode cX10_init 40 = .ok (.putfield 23, 3) := by decide +kernel
theorem dX10_init_43 : decode cX10_init 43 = .ok (.aload_n 0, 1) := by decide +kernel
theorem dX10_init_44 : decode cX10_init 44 = .ok (.bipush 16, 2) := by decide +kernel
theorem dX10_init_46 : decode cX10_init 46 = .ok (.newarray .int, 2) := by decide +kernel
theorem dX10_init_48 : decode cX10_init 48 = .ok (.putfield 26, 3) := by decide +kernel
theorem dX10_init_51 : decode cX10_init 51 = .ok (.aload_n 0, 1) := by decide +kernel
theorem dX10_init_52 : decode cX10_init 52 = .ok (.iconst 2, 1) := by decide +kernel
theorem dX10_init_53 : decode cX10_init 53 = .ok (.newarray .int, 2) := by decide +kernel
theorem dX10_init_55 : decode cX10_init 55 = .ok (.putfield 29, 3) := by decide +kernel
theorem dX10_init_58 : decode cX10_init 58 = .ok (.aload_n 0, 1) := by decide +kernel
theorem dX10_init_59 : decode cX10_init 59 = .ok (.bipush 8, 2) := by decide +kernel
theorem dX10_init_61 : decode cX10_init 61 = .ok (.newarray .int, 2) := by decide +kernel
theorem dX10_init_63 : decode cX10_init 63 = .ok (.putfield 32, 3) := by decide +kernel
theorem dX10_init_66 : decode cX10_init 66 = .ok (.aload_n 0, 1) := by decide +kernel
theorem dX10_init_67 : decode cX10_init 67 = .ok (.bipush 8, 2) := by decide +kernel
theorem dX10_init_69 : decode cX10_init 69 = .ok (.newarray .int, 2) := by decide +kernel
theorem dX10_init_71 : decode cX10_init 71 = .ok (.putfield 35, 3) := by decide +kernel
theorem dX10_init_74 : decode cX10_init 74 = .ok (.aload_n 0, 1) := by decide +kernel
theorem dX10_init_75 : decode cX10_init 75 = .ok (.iconst 2, 1) := by decide +kernel
theorem dX10_init_76 : decode cX10_init 76 = .ok (.newarray .int, 2) := by decide +kernel
theorem dX10_init_78 : decode cX10_init 78 = .ok (.putfield 38, 3) := by decide +kernel
theorem dX10_init_81 : decode cX10_init 81 = .ok (.aload_n 0, 1) := by decide +kernel
theorem dX10_init_82 : decode cX10_init 82 = .ok (.bipush 12, 2) := by decide +kernel
theorem dX10_init_84 : decode cX10_init 84 = .ok (.newarray .int, 2) := by decide +kernel
theorem dX10_init_86 : decode cX10_init 86 = .ok (.putfield 41, 3) := by decide +kernel
theorem dX10_init_89 : decode cX10_init 89 = .ok (.aload_n 0, 1) := by decide +kernel
theorem dX10_init_90 : decode cX10_init 90 = .ok (.bipush 12, 2) := by decide +kernel
theorem dX10_init_92 : decode cX10_init 92 = .ok (.newarray .int, 2) := by decide +kernel
theorem dX10_init_94 : decode cX10_init 94 = .ok (.putfield 44, 3) := by decide +kernel
theorem dX10_init_97 : decode cX10_init 97 = .ok (.aload_n 0, 1) := by decide +kernel
theorem dX10_init_98 : decode cX10_init 98 = .ok (.iconst 2, 1) := by decide +kernel
theorem dX10_init_99 : decode cX10_init 99 = .ok (.newarray .int, 2) := by decide +kernel
theorem dX10_init_101 : decode cX10_init 101 = .ok (.putfield 47, 3) := by decide +kernel
theorem dX10_init_104 : decode cX10_init 104 = .ok (.aload_n 0, 1) := by decide +kernel
theorem dX10_init_105 : decode cX10_init 105 = .ok (.bipush 30, 2) := by decide +kernel
theorem dX10_init_107 : decode cX10_init 107 = .ok (.newarray .int, 2) := by decide +kernel
theorem dX10_init_109 : decode cX10_init 109 = .ok (.putfield 50, 3) := by decide +kernel
theorem dX10_init_112 : decode cX10_init 112 = .ok (.aload_n 0, 1) := by decide +kernel
theorem dX10_init_113 : decode cX10_init 113 = .ok (.iconst 3, 1) := by decide +kernel
theorem dX10_init_114 : decode cX10_init 114 = .ok (.newarray .int, 2) := by decide +kernel
theorem dX10_init_116 : decode cX10_init 116 = .ok (.putfield 53, 3) := by decide +kernel
theorem dX10_init_119 : decode cX10_init 119 = .ok (.aload_n 0, 1) := by decide +kernel
theorem dX10_init_120 : decode cX10_init 120 = .ok (.sipush 900, 3) := by decide +kernel
theorem dX10_init_123 : decode cX10_init 123 = .ok (.newarray .int, 2) := by decide +kernel
theorem dX10_init_125 : decode cX10_init 125 = .ok (.putfield 56, 3) := by decide +kernel
theorem dX10_init_128 : decode cX10_init 128 = .ok (.aload_n 0, 1) := by decide +kernel
theorem dX10_init_129 : decode cX10_init 129 = .ok (.bipush 60, 2) := by decide +kernel
theorem dX10_init_131 : decode cX10_init 131 = .ok (.newarray .int, 2) := by decide +kernel
theorem dX10_init_133 : decode cX10_init 133 = .ok (.putfield 59, 3) := by decide +kernel
theorem dX10_init_136 : decode cX10_init 136 = .ok (.aload_n 0, 1) := by decide +kernel
theorem dX10_init_137 : decode cX10_init 137 = .ok (.iconst 2, 1) := by decide +kernel
theorem dX10_init_138 : decode cX10_init 138 = .ok (.newarray .boolean, 2) := by decide +kernel
theorem dX10_init_140 : decode cX10_init 140 = .ok (.putfield 62, 3) := by decide +kernel
theorem dX10_init_143 : decode cX10_init 143 = .ok (.aload_n 0, 1) := by decide +kernel
theorem dX10_init_144 : decode cX10_init 144 = .ok (.bipush 6, 2) := by decide +kernel
theorem dX10_init_146 : decode cX10_init 146 = .ok (.newarray .int, 2) := by decide +kernel
theorem dX10_init_148 : decode cX10_init 148 = .ok (.putfield 66, 3) := by decide +kernel
theorem dX10_init_151 : decode cX10_init 151 = .ok (.aload_n 0, 1) := by decide +kernel
theorem dX10_init_152 : decode cX10_init 152 = .ok (.bipush 8, 2) := by decide +kernel
theorem dX10_init_154 : decode cX10_init 154 = .ok (.newarray .int, 2) := by decide +kernel
theorem dX10_init_156 : decode cX10_init 156 = .ok (.putfield 69, 3) := by decide +kernel
theorem dX10_init_159 : decode cX10_init 159 = .ok (.aload_n 0, 1) := by decide +kernel
theorem dX10_init_160 : decode cX10_init 160 = .ok (.bipush 8, 2) := by decide +kernel
theorem dX10_init_162 : decode cX10_init 162 = .ok (.newarray .int, 2) := by decide +kernel
theorem dX10_init_164 : decode cX10_init 164 = .ok (.putfield 72, 3) := by decide +kernel
theorem dX10_init_167 : decode cX10_init 167 = .ok (.aload_n 0, 1) := by decide +kernel
theorem dX10_init_168 : decode cX10_init 168 = .ok (.bipush 8, 2) := by decide +kernel
theorem dX10_init_170 : decode cX10_init 170 = .ok (.newarray .int, 2) := by decide +kernel
theorem dX10_init_172 : decode cX10_init 172 = .ok (.putfield 75, 3) := by decide +kernel
theorem dX10_init_175 : decode cX10_init 175 = .ok (.aload_n 0, 1) := by decide +kernel
theorem dX10_init_176 : decode cX10_init 176 = .ok (.sipush 1792, 3) := by decide +kernel
theorem dX10_init_179 : decode cX10_init 179 = .ok (.newarray .int, 2) := by decide +kernel
theorem dX10_init_181 : decode cX10_init 181 = .ok (.putfield 78, 3) := by decide +kernel
theorem dX10_init_184 : decode cX10_init 184 = .ok (.aload_n 0, 1) := by decide +kernel
theorem dX10_init_185 : decode cX10_init 185 = .ok (.getfield 13, 3) := by decide +kernel
theorem dX10_init_188 : decode cX10_init 188 = .ok (.iconst 0, 1) := by decide +kernel
theorem dX10_init_189 : decode cX10_init 189 = .ok (.iconst 2, 1) := by decide +kernel
theorem dX10_init_190 : decode cX10_init 190 = .ok (.iastore, 1) := by decide +kernel
theorem dX10_init_191 : decode cX10_init 191 = .ok (.return_, 1) := by decide +kernel
theorem dX10_in_0 : decode cX10_in 0 = .ok (.iload_n 0, 1) := by decide +kernel
theorem dX10_in_1 : decode cX10_in 1 = .ok (.iload_n 1, 1) := by decide +kernel
theorem dX10_in_2 : decode cX10_in 2 = .ok (.if_icmp .lt 12, 3) := by decide +kernel
theorem dX10_in_5 : decode cX10_in 5 = .ok (.iload_n 0, 1) := by decide +kernel
theorem dX10_in_6 : decode cX10_in 6 = .ok (.iload_n 2, 1) := by decide +kernel
theorem dX10_in_7 : decode cX10_in 7 = .ok (.if_icmp .gt 7, 3) := by decide +kernel
theorem dX10_in_10 : decode cX10_in 10 = .ok (.iconst 1, 1) := by decide +kernel
theorem dX10_in_11 : decode cX10_in 11 = .ok (.goto 4, 3) := by decide +kernel
theorem dX10_in_14 : decode cX10_in 14 = .ok (.iconst 0, 1) := by decide +kernel
theorem dX10_in_15 : decode cX10_in 15 = .ok (.ireturn, 1) := by decide +kernel
theorem dX10_has_0 : decode cX10_has 0 = .ok (.iload_n 0, 1) := by decide +kernel
theorem dX10_has_1 : decode cX10_has 1 = .ok (.iload_n 1, 1) := by decide +kernel
theorem dX10_has_2 : decode cX10_has 2 = .ok (.ishr, 1) := by decide +kernel
theorem dX10_has_3 : decode cX10_has 3 = .ok (.iconst 1, 1) := by decide +kernel
theorem dX10_has_4 : decode cX10_has 4 = .ok (.iand, 1) := by decide +kernel
theorem dX10_has_5 : decode cX10_has 5 = .ok (.iconst 1, 1) := by decide +kernel
theorem dX10_has_6 : decode cX10_has 6 = .ok (.if_icmp .ne 7, 3) := by decide +kernel
theorem dX10_has_9 : decode cX10_has 9 = .ok (.iconst 1, 1) := by decide +kernel
theorem dX10_has_10 : decode cX10_has 10 = .ok (.goto 4, 3) := by decide +kernel
theorem dX10_has_13 : decode cX10_has 13 = .ok (.iconst 0, 1) := by decide +kernel
theorem dX10_has_14 : decode cX10_has 14 = .ok (.ireturn, 1) := by decide +kernel
theorem dX10_type_0 : decode cX10_type 0 = .ok (.iload_n 1, 1) := by decide +kernel
theorem dX10_type_1 : decode cX10_type 1 = .ok (.iconst 0, 1) := by decide +kernel
theorem dX10_type_2 : decode cX10_type 2 = .ok (.sipush 255, 3) := by decide +kernel
theorem dX10_type_5 : decode cX10_type 5 = .ok (.invokestatic 81, 3) := by decide +kernel
theorem dX10_type_8 : decode cX10_type 8 = .ok (.ifCond .ne 5, 3) := by decide +kernel
theorem dX10_type_11 : decode cX10_type 11 = .ok (.iconst (-1), 1) := by decide +kernel
theorem dX10_type_12 : decode cX10_type 12 = .ok (.ireturn, 1) := by decide +kernel
theorem dX10_type_13 : decode cX10_type 13 = .ok (.aload_n 0, 1) := by decide +kernel
theorem dX10_type_14 : decode cX10_type 14 = .ok (.getfield 85, 3) := by decide +kernel
theorem dX10_type_17 : decode cX10_type 17 = .ok (.sipush 150, 3) := by decide +kernel
theorem dX10_type_20 : decode cX10_type 20 = .ok (.if_icmp .ne 6, 3) := by decide +kernel
theorem dX10_type_23 : decode cX10_type 23 = .ok (.bipush (-3), 2) := by decide +kernel
theorem dX10_type_25 : decode cX10_type 25 = .ok (.ireturn, 1) := by decide +kernel
theorem dX10_type_26 : decode cX10_type 26 = .ok (.aload_n 0, 1) := by decide +kernel
theorem dX10_type_27 : decode cX10_type 27 = .ok (.getfield 7, 3) := by decide +kernel
theorem dX10_type_30 : decode cX10_type 30 = .ok (.aload_n 0, 1) := by decide +kernel
theorem dX10_type_31 : decode cX10_type 31 = .ok (.getfield 85, 3) := by decide +kernel
theorem dX10_type_34 : decode cX10_type 34 = .ok (.iload_n 1, 1) := by decide +kernel
theorem dX10_type_35 : decode cX10_type 35 = .ok (.i2b, 1) := by decide +kernel
theorem dX10_type_36 : decode cX10_type 36 = .ok (.bastore, 1) := by decide +kernel
theorem dX10_type_37 : decode cX10_type 37 = .ok (.aload_n 0, 1) := by decide +kernel
theorem dX10_type_38 : decode cX10_type 38 = .ok (.dup, 1) := by decide +kernel
theorem dX10_type_39 : decode cX10_type 39 = .ok (.getfield 85, 3) := by decide +kernel
theorem dX10_type_42 : decode cX10_type 42 = .ok (.iconst 1, 1) := by decide +kernel
theorem dX10_type_43 : decode cX10_type 43 = .ok (.iadd, 1) := by decide +kernel
theorem dX10_type_44 : decode cX10_type 44 = .ok (.putfield 85, 3) := by decide +kernel
theorem dX10_type_47 : decode cX10_type 47 = .ok (.aload_n 0, 1) := by decide +kernel
theorem dX10_type_48 : decode cX10_type 48 = .ok (.getfield 85, 3) := by decide +kernel
theorem dX10_type_51 : decode cX10_type 51 = .ok (.ireturn, 1) := by decide +kernel
theorem dX10_clear_0 : decode cX10_clear 0 = .ok (.aload_n 0, 1) := by decide +kernel
theorem dX10_clear_1 : decode cX10_clear 1 = .ok (.getfield 85, 3) := by decide +kernel
theorem dX10_clear_4 : decode cX10_clear 4 = .ok (.istore_n 1, 1) := by decide +kernel
theorem dX10_clear_5 : decode cX10_clear 5 = .ok (.aload_n 0, 1) := by decide +kernel
theorem dX10_clear_6 : decode cX10_clear 6 = .ok (.iconst 0, 1) := by decide +kernel
theorem dX10_clear_7 : decode cX10_clear 7 = .ok (.putfield 85, 3) := by decide +kernel
theorem dX10_clear_10 : decode cX10_clear 10 = .ok (.iload_n 1, 1) := by decide +kernel
theorem dX10_clear_11 : decode cX10_clear 11 = .ok (.ireturn, 1) := by decide +kernel
theorem dX10_here_0 : decode cX10_here 0 = .ok (.aload_n 0, 1) := by decide +kernel
theorem dX10_here_1 : decode cX10_here 1 = .ok (.getfield 89, 3) := by decide +kernel
theorem dX10_here_4 : decode cX10_here 4 = .ok (.aload_n 0, 1) := by decide +kernel
theorem dX10_here_5 : decode cX10_here 5 = .ok (.getfield 85, 3) := by decide +kernel
theorem dX10_here_8 : decode cX10_here 8 = .ok (.if_icmp .ge 19, 3) := by decide +kernel
theorem dX10_here_11 : decode cX10_here 11 = .ok (.aload_n 0, 1) := by decide +kernel
theorem dX10_here_12 : decode cX10_here 12 = .ok (.getfield 7, 3) := by decide +kernel
theorem dX10_here_15 : decode cX10_here 15 = .ok (.aload_n 0, 1) := by decide +kernel
theorem dX10_here_16 : decode cX10_here 16 = .ok (.getfield 89, 3) := by decide +kernel
theorem dX10_here_19 : decode cX10_here 19 = .ok (.baload, 1) := by decide +kernel
theorem dX10_here_20 : decode cX10_here 20 = .ok (.sipush 255, 3) := by decide +kernel
theorem dX10_here_23 : decode cX10_here 23 = .ok (.iand, 1) := by decide +kernel
theorem dX10_here_24 : decode cX10_here 24 = .ok (.goto 5, 3) := by decide +kernel
theorem dX10_here_27 : decode cX10_here 27 = .ok (.bipush (-9), 2) := by decide +kernel
theorem dX10_here_29 : decode cX10_here 29 = .ok (.ireturn, 1) := by decide +kernel
theorem dX10_step_0 : decode cX10_step 0 = .ok (.aload_n 0, 1) := by decide +kernel
theorem dX10_step_1 : decode cX10_step 1 = .ok (.invokevirtual 92, 3) := by decide +kernel
theorem dX10_step_4 : decode cX10_step 4 = .ok (.bipush 32, 2) := by decide +kernel
theorem dX10_step_6 : decode cX10_step 6 = .ok (.if_icmp .ne 16, 3) := by decide +kernel
theorem dX10_step_9 : decode cX10_step 9 = .ok (.aload_n 0, 1) := by decide +kernel
theorem dX10_step_10 : decode cX10_step 10 = .ok (.dup, 1) := by decide +kernel
theorem dX10_step_11 : decode cX10_step 11 = .ok (.getfield 89, 3) := by decide +kernel
theorem dX10_step_14 : decode cX10_step 14 = .ok (.iconst 1, 1) := by decide +kernel
theorem dX10_step_15 : decode cX10_step 15 = .ok (.iadd, 1) := by decide +kernel
theorem dX10_step_16 : decode cX10_step 16 = .ok (.putfield 89, 3) := by decide +kernel
theorem dX10_step_19 : decode cX10_step 19 = .ok (.goto (-19), 3) := by decide +kernel
theorem dX10_step_22 : decode cX10_step 22 = .ok (.aload_n 0, 1) := by decide +kernel
theorem dX10_step_23 : decode cX10_step 23 = .ok (.aload_n 0, 1) := by decide +kernel
theorem dX10_step_24 : decode cX10_step 24 = .ok (.getfield 89, 3) := by decide +kernel
theorem dX10_step_27 : decode cX10_step 27 = .ok (.putfield 96, 3) := by decide +kernel
theorem dX10_step_30 : decode cX10_step 30 = .ok (.aload_n 0, 1) := by decide +kernel
theorem dX10_step_31 : decode cX10_step 31 = .ok (.iconst 0, 1) := by decide +kernel
theorem dX10_step_32 : decode cX10_step 32 = .ok (.putfield 99, 3) := by decide +kernel
theorem dX10_step_35 : decode cX10_step 35 = .ok (.aload_n 0, 1) := by decide +kernel
theorem dX10_step_36 : decode cX10_step 36 = .ok (.invokevirtual 92, 3) := by decide +kernel
theorem dX10_step_39 : decode cX10_step 39 = .ok (.istore_n 1, 1) := by decide +kernel
theorem dX10_step_40 : decode cX10_step 40 = .ok (.iload_n 1, 1) := by decide +kernel
theorem dX10_step_41 : decode cX10_step 41 = .ok (.bipush (-9), 2) := by decide +kernel
theorem dX10_step_43 : decode cX10_step 43 = .ok (.if_icmp .ne 11, 3) := by decide +kernel
theorem dX10_step_46 : decode cX10_step 46 = .ok (.aload_n 0, 1) := by decide +kernel
theorem dX10_step_47 : decode cX10_step 47 = .ok (.iconst 4, 1) := by decide +kernel
theorem dX10_step_48 : decode cX10_step 48 = .ok (.putfield 102, 3) := by decide +kernel
theorem dX10_step_51 : decode cX10_step 51 = .ok (.goto 209, 3) := by decide +kernel
theorem dX10_step_54 : decode cX10_step 54 = .ok (.iload_n 1, 1) := by decide +kernel
theorem dX10_step_55 : decode cX10_step 55 = .ok (.bipush 48, 2) := by decide +kernel
theorem dX10_step_57 : decode cX10_step 57 = .ok (.bipush 57, 2) := by decide +kernel
theorem dX10_step_59 : decode cX10_step 59 = .ok (.invokestatic 81, 3) := by decide +kernel
theorem dX10_step_62 : decode cX10_step 62 = .ok (.ifCond .eq 105, 3) := by decide +kernel
theorem dX10_step_65 : decode cX10_step 65 = .ok (.aload_n 0, 1) := by decide +kernel
theorem dX10_step_66 : decode cX10_step 66 = .ok (.invokevirtual 92, 3) := by decide +kernel
theorem dX10_step_69 : decode cX10_step 69 = .ok (.bipush 48, 2) := by decide +kernel
theorem dX10_step_71 : decode cX10_step 71 = .ok (.bipush 57, 2) := by decide +kernel
theorem dX10_step_73 : decode cX10_step 73 = .ok (.invokestatic 81, 3) := by decide +kernel
theorem dX10_step_76 : decode cX10_step 76 = .ok (.ifCond .eq 51, 3) := by decide +kernel
theorem dX10_step_79 : decode cX10_step 79 = .ok (.aload_n 0, 1) := by decide +kernel
theorem dX10_step_80 : decode cX10_step 80 = .ok (.aload_n 0, 1) := by decide +kernel
theorem dX10_step_81 : decode cX10_step 81 = .ok (.getfield 99, 3) := by decide +kernel
theorem dX10_step_84 : decode cX10_step 84 = .ok (.bipush 99, 2) := by decide +kernel
theorem dX10_step_86 : decode cX10_step 86 = .ok (.if_icmp .le 10, 3) := by decide +kernel
theorem dX10_step_89 : decode cX10_step 89 = .ok (.aload_n 0, 1) := by decide +kernel
theorem dX10_step_90 : decode cX10_step 90 = .ok (.getfield 99, 3) := by decide +kernel
theorem dX10_step_93 : decode cX10_step 93 = .ok (.goto 18, 3) := by decide +kernel
theorem dX10_step_96 : decode cX10_step 96 = .ok (.bipush 10, 2) := by decide +kernel
theorem dX10_step_98 : decode cX10_step 98 = .ok (.aload_n 0, 1) := by decide +kernel
theorem dX10_step_99 : decode cX10_step 99 = .ok (.getfield 99, 3) := by decide +kernel
theorem dX10_step_102 : decode cX10_step 102 = .ok (.imul, 1) := by decide +kernel
theorem dX10_step_103 : decode cX10_step 103 = .ok (.aload_n 0, 1) := by decide +kernel
theorem dX10_step_104 : decode cX10_step 104 = .ok (.invokevirtual 92, 3) := by decide +kernel
theorem dX10_step_107 : decode cX10_step 107 = .ok (.iadd, 1) := by decide +kernel
theorem dX10_step_108 : decode cX10_step 108 = .ok (.bipush 48, 2) := by decide +kernel
theorem dX10_step_110 : decode cX10_step 110 = .ok (.isub, 1) := by decide +kernel
theorem dX10_step_111 : decode cX10_step 111 = .ok (.putfield 99, 3) := by decide +kernel
theorem dX10_step_114 : decode cX10_step 114 = .ok (.aload_n 0, 1) := by decide +kernel
theorem dX10_step_115 : decode cX10_step 115 = .ok (.dup, 1) := by decide +kernel
theorem dX10_step_116 : decode cX10_step 116 = .ok (.getfield 89, 3) := by decide +kernel
theorem dX10_step_119 : decode cX10_step 119 = .ok (.iconst 1, 1) := by decide +kernel
theorem dX10_step_120 : decode cX10_step 120 = .ok (.iadd, 1) := by decide +kernel
theorem dX10_step_121 : decode cX10_step 121 = .ok (.putfield 89, 3) := by decide +kernel
theorem dX10_step_124 : decode cX10_step 124 = .ok (.goto (-59), 3) := by decide +kernel
theorem dX10_step_127 : decode cX10_step 127 = .ok (.aload_n 0, 1) := by decide +kernel
theorem dX10_step_128 : decode cX10_step 128 = .ok (.aload_n 0, 1) := by decide +kernel
theorem dX10_step_129 : decode cX10_step 129 = .ok (.getfield 99, 3) := by decide +kernel
theorem dX10_step_132 : decode cX10_step 132 = .ok (.bipush 99, 2) := by decide +kernel
theorem dX10_step_134 : decode cX10_step 134 = .ok (.if_icmp .gt 22, 3) := by decide +kernel
theorem dX10_step_137 : decode cX10_step 137 = .ok (.iload_n 1, 1) := by decide +kernel
theorem dX10_step_138 : decode cX10_step 138 = .ok (.bipush 48, 2) := by decide +kernel
theorem dX10_step_140 : decode cX10_step 140 = .ok (.if_icmp .ne 20, 3) := by decide +kernel
theorem dX10_step_143 : decode cX10_step 143 = .ok (.aload_n 0, 1) := by decide +kernel
theorem dX10_step_144 : decode cX10_step 144 = .ok (.getfield 89, 3) := by decide +kernel
theorem dX10_step_147 : decode cX10_step 147 = .ok (.aload_n 0, 1) := by decide +kernel
theorem dX10_step_148 : decode cX10_step 148 = .ok (.getfield 96, 3) := by decide +kernel
theorem dX10_step_151 : decode cX10_step 151 = .ok (.isub, 1) := by decide +kernel
theorem dX10_step_152 : decode cX10_step 152 = .ok (.iconst 1, 1) := by decide +kernel
theorem dX10_step_153 : decode cX10_step 153 = .ok (.if_icmp .le 7, 3) := by decide +kernel
theorem dX10_step_156 : decode cX10_step 156 = .ok (.iconst 5, 1) := by decide +kernel
theorem dX10_step_157 : decode cX10_step 157 = .ok (.goto 4, 3) := by decide +kernel
theorem dX10_step_160 : decode cX10_step 160 = .ok (.iconst 2, 1) := by decide +kernel
theorem dX10_step_161 : decode cX10_step 161 = .ok (.putfield 102, 3) := by decide +kernel
theorem dX10_step_164 : decode cX10_step 164 = .ok (.goto 96, 3) := by decide +kernel
theorem dX10_step_167 : decode cX10_step 167 = .ok (.iload_n 1, 1) := by decide +kernel
theorem dX10_step_168 : decode cX10_step 168 = .ok (.bipush 97, 2) := by decide +kernel
theorem dX10_step_170 : decode cX10_step 170 = .ok (.bipush 122, 2) := by decide +kernel
theorem dX10_step_172 : decode cX10_step 172 = .ok (.invokestatic 81, 3) := by decide +kernel
theorem dX10_step_175 : decode cX10_step 175 = .ok (.ifCond .eq 60, 3) := by decide +kernel
theorem dX10_step_178 : decode cX10_step 178 = .ok (.aload_n 0, 1) := by decide +kernel
theorem dX10_step_179 : decode cX10_step 179 = .ok (.invokevirtual 92, 3) := by decide +kernel
theorem dX10_step_182 : decode cX10_step 182 = .ok (.bipush 97, 2) := by decide +kernel
theorem dX10_step_184 : decode cX10_step 184 = .ok (.bipush 122, 2) := by decide +kernel
theorem dX10_step_186 : decode cX10_step 186 = .ok (.invokestatic 81, 3) := by decide +kernel
theorem dX10_step_189 : decode cX10_step 189 = .ok (.ifCond .eq 16, 3) := by decide +kernel
theorem dX10_step_192 : decode cX10_step 192 = .ok (.aload_n 0, 1) := by decide +kernel
theorem dX10_step_193 : decode cX10_step 193 = .ok (.dup, 1) := by decide +kernel
theorem dX10_step_194 : decode cX10_step 194 = .ok (.getfield 89, 3) := by decide +kernel
theorem dX10_step_197 : decode cX10_step 197 = .ok (.iconst 1, 1) := by decide +kernel
theorem dX10_step_198 : decode cX10_step 198 = .ok (.iadd, 1) := by decide +kernel
theorem dX10_step_199 : decode cX10_step 199 = .ok (.putfield 89, 3) := by decide +kernel
theorem dX10_step_202 : decode cX10_step 202 = .ok (.goto (-24), 3) := by decide +kernel
theorem dX10_step_205 : decode cX10_step 205 = .ok (.aload_n 0, 1) := by decide +kernel
theorem dX10_step_206 : decode cX10_step 206 = .ok (.aload_n 0, 1) := by decide +kernel
theorem dX10_step_207 : decode cX10_step 207 = .ok (.getfield 89, 3) := by decide +kernel
theorem dX10_step_210 : decode cX10_step 210 = .ok (.aload_n 0, 1) := by decide +kernel
theorem dX10_step_211 : decode cX10_step 211 = .ok (.getfield 96, 3) := by decide +kernel
theorem dX10_step_214 : decode cX10_step 214 = .ok (.isub, 1) := by decide +kernel
theorem dX10_step_215 : decode cX10_step 215 = .ok (.iconst 1, 1) := by decide +kernel
theorem dX10_step_216 : decode cX10_step 216 = .ok (.if_icmp .ne 7, 3) := by decide +kernel
theorem dX10_step_219 : decode cX10_step 219 = .ok (.iload_n 1, 1) := by decide +kernel
theorem dX10_step_220 : decode cX10_step 220 = .ok (.goto 4, 3) := by decide +kernel
theorem dX10_step_223 : decode cX10_step 223 = .ok (.iconst 0, 1) := by decide +kernel
theorem dX10_step_224 : decode cX10_step 224 = .ok (.putfield 99, 3) := by decide +kernel
theorem dX10_step_227 : decode cX10_step 227 = .ok (.aload_n 0, 1) := by decide +kernel
theorem dX10_step_228 : decode cX10_step 228 = .ok (.iconst 1, 1) := by decide +kernel
theorem dX10_step_229 : decode cX10_step 229 = .ok (.putfield 102, 3) := by decide +kernel
theorem dX10_step_232 : decode cX10_step 232 = .ok (.goto 28, 3) := by decide +kernel
theorem dX10_step_235 : decode cX10_step 235 = .ok (.aload_n 0, 1) := by decide +kernel
theorem dX10_step_236 : decode cX10_step 236 = .ok (.dup, 1) := by decide +kernel
theorem dX10_step_237 : decode cX10_step 237 = .ok (.getfield 89, 3) := by decide +kernel
theorem dX10_step_240 : decode cX10_step 240 = .ok (.iconst 1, 1) := by decide +kernel
theorem dX10_step_241 : decode cX10_step 241 = .ok (.iadd, 1) := by decide +kernel
theorem dX10_step_242 : decode cX10_step 242 = .ok (.putfield 89, 3) := by decide +kernel
theorem dX10_step_245 : decode cX10_step 245 = .ok (.aload_n 0, 1) := by decide +kernel
theorem dX10_step_246 : decode cX10_step 246 = .ok (.iload_n 1, 1) := by decide +kernel
theorem dX10_step_247 : decode cX10_step 247 = .ok (.bipush 59, 2) := by decide +kernel
theorem dX10_step_249 : decode cX10_step 249 = .ok (.if_icmp .ne 7, 3) := by decide +kernel
theorem dX10_step_252 : decode cX10_step 252 = .ok (.iconst 3, 1) := by decide +kernel
theorem dX10_step_253 : decode cX10_step 253 = .ok (.goto 4, 3) := by decide +kernel
theorem dX10_step_256 : decode cX10_step 256 = .ok (.iconst 5, 1) := by decide +kernel
theorem dX10_step_257 : decode cX10_step 257 = .ok (.putfield 102, 3) := by decide +kernel
theorem dX10_step_260 : decode cX10_step 260 = .ok (.return_, 1) := by decide +kernel
theorem dX10_due_0 : decode cX10_due 0 = .ok (.aload_n 0, 1) := by decide +kernel
theorem dX10_due_1 : decode cX10_due 1 = .ok (.getfield 105, 3) := by decide +kernel
theorem dX10_due_4 : decode cX10_due 4 = .ok (.ifCond .eq 4, 3) := by decide +kernel
theorem dX10_due_7 : decode cX10_due 7 = .ok (.return_, 1) := by decide +kernel
theorem dX10_due_8 : decode cX10_due 8 = .ok (.iload_n 1, 1) := by decide +kernel
theorem dX10_due_9 : decode cX10_due 9 = .ok (.ifCond .eq 10, 3) := by decide +kernel
theorem dX10_due_12 : decode cX10_due 12 = .ok (.aload_n 0, 1) := by decide +kernel
theorem dX10_due_13 : decode cX10_due 13 = .ok (.invokevirtual 109, 3) := by decide +kernel
theorem dX10_due_16 : decode cX10_due 16 = .ok (.goto 8, 3) := by decide +kernel
theorem dX10_due_19 : decode cX10_due 19 = .ok (.aload_n 0, 1) := by decide +kernel
theorem dX10_due_20 : decode cX10_due 20 = .ok (.iconst 1, 1) := by decide +kernel
theorem dX10_due_21 : decode cX10_due 21 = .ok (.putfield 105, 3) := by decide +kernel
theorem dX10_due_24 : decode cX10_due 24 = .ok (.return_, 1) := by decide +kernel
theorem dX10_number_0 : decode cX10_number 0 = .ok (.aload_n 0, 1) := by decide +kernel
theorem dX10_number_1 : decode cX10_number 1 = .ok (.getfield 99, 3) := by decide +kernel
theorem dX10_number_4 : decode cX10_number 4 = .ok (.istore_n 3, 1) := by decide +kernel
theorem dX10_number_5 : decode cX10_number 5 = .ok (.aload_n 0, 1) := by decide +kernel
theorem dX10_number_6 : decode cX10_number 6 = .ok (.aload_n 0, 1) := by decide +kernel
theorem dX10_number_7 : decode cX10_number 7 = .ok (.getfield 102, 3) := by decide +kernel
theorem dX10_number_10 : decode cX10_number 10 = .ok (.iconst 2, 1) := by decide +kernel
theorem dX10_number_11 : decode cX10_number 11 = .ok (.if_icmp .ne 16, 3) := by decide +kernel
theorem dX10_number_14 : decode cX10_number 14 = .ok (.iload_n 3, 1) := by decide +kernel
theorem dX10_number_15 : decode cX10_number 15 = .ok (.iload_n 1, 1) := by decide +kernel
theorem dX10_number_16 : decode cX10_number 16 = .ok (.iload_n 2, 1) := by decide +kernel
theorem dX10_number_17 : decode cX10_number 17 = .ok (.invokestatic 81, 3) := by decide +kernel
theorem dX10_number_20 : decode cX10_number 20 = .ok (.ifCond .eq 7, 3) := by decide +kernel
theorem dX10_number_23 : decode cX10_number 23 = .ok (.iconst 1, 1) := by decide +kernel
theorem dX10_number_24 : decode cX10_number 24 = .ok (.goto 4, 3) := by decide +kernel
theorem dX10_number_27 : decode cX10_number 27 = .ok (.iconst 0, 1) := by decide +kernel
theorem dX10_number_28 : decode cX10_number 28 = .ok (.invokevirtual 112, 3) := by decide +kernel
theorem dX10_number_31 : decode cX10_number 31 = .ok (.iload_n 3, 1) := by decide +kernel
theorem dX10_number_32 : decode cX10_number 32 = .ok (.ireturn, 1) := by decide +kernel
theorem dX10_item_0 : decode cX10_item 0 = .ok (.iload_n 1, 1) := by decide +kernel
theorem dX10_item_1 : decode cX10_item 1 = .ok (.lookupswitch 285 #[(98, 218), (102, 59), (107, 163), (110, 43)], 43) := by decide +kernel
theorem dX10_item_44 : decode cX10_item 44 = .ok (.aload_n 0, 1) := by decide +kernel
theorem dX10_item_45 : decode cX10_item 45 = .ok (.getfield 13, 3) := by decide +kernel
theorem dX10_item_48 : decode cX10_item 48 = .ok (.iconst 1, 1) := by decide +kernel
theorem dX10_item_49 : decode cX10_item 49 = .ok (.aload_n 0, 1) := by decide +kernel
theorem dX10_item_50 : decode cX10_item 50 = .ok (.iconst 1, 1) := by decide +kernel
theorem dX10_item_51 : decode cX10_item 51 = .ok (.bipush 8, 2) := by decide +kernel
theorem dX10_item_53 : decode cX10_item 53 = .ok (.invokevirtual 116, 3) := by decide +kernel
theorem dX10_item_56 : decode cX10_item 56 = .ok (.iastore, 1) := by decide +kernel
theorem dX10_item_57 : decode cX10_item 57 = .ok (.goto 242, 3) := by decide +kernel
theorem dX10_item_60 : decode cX10_item 60 = .ok (.bipush 8, 2) := by decide +kernel
theorem dX10_item_62 : decode cX10_item 62 = .ok (.aload_n 0, 1) := by decide +kernel
theorem dX10_item_63 : decode cX10_item 63 = .ok (.getfield 17, 3) := by decide +kernel
theorem dX10_item_66 : decode cX10_item 66 = .ok (.iconst 1, 1) := by decide +kernel
theorem dX10_item_67 : decode cX10_item 67 = .ok (.iaload, 1) := by decide +kernel
theorem dX10_item_68 : decode cX10_item 68 = .ok (.iadd, 1) := by decide +kernel
theorem dX10_item_69 : decode cX10_item 69 = .ok (.istore_n 2, 1) := by decide +kernel
theorem dX10_item_70 : decode cX10_item 70 = .ok (.aload_n 0, 1) := by decide +kernel
theorem dX10_item_71 : decode cX10_item 71 = .ok (.getfield 20, 3) := by decide +kernel
theorem dX10_item_74 : decode cX10_item 74 = .ok (.iload_n 2, 1) := by decide +kernel
theorem dX10_item_75 : decode cX10_item 75 = .ok (.aload_n 0, 1) := by decide +kernel
theorem dX10_item_76 : decode cX10_item 76 = .ok (.iconst 0, 1) := by decide +kernel
theorem dX10_item_77 : decode cX10_item 77 = .ok (.aload_n 0, 1) := by decide +kernel
theorem dX10_item_78 : decode cX10_item 78 = .ok (.getfield 13, 3) := by decide +kernel
theorem dX10_item_81 : decode cX10_item 81 = .ok (.iconst 1, 1) := by decide +kernel
theorem dX10_item_82 : decode cX10_item 82 = .ok (.iaload, 1) := by decide +kernel
theorem dX10_item_83 : decode cX10_item 83 = .ok (.iconst 1, 1) := by decide +kernel
theorem dX10_item_84 : decode cX10_item 84 = .ok (.isub, 1) := by decide +kernel
theorem dX10_item_85 : decode cX10_item 85 = .ok (.invokevirtual 116, 3) := by decide +kernel
theorem dX10_item_88 : decode cX10_item 88 = .ok (.iastore, 1) := by decide +kernel
theorem dX10_item_89 : decode cX10_item 89 = .ok (.aload_n 0, 1) := by decide +kernel
theorem dX10_item_90 : decode cX10_item 90 = .ok (.getfield 99, 3) := by decide +kernel
theorem dX10_item_93 : decode cX10_item 93 = .ok (.istore_n 3, 1) := by decide +kernel
theorem dX10_item_94 : decode cX10_item 94 = .ok (.aload_n 0, 1) := by decide +kernel
theorem dX10_item_95 : decode cX10_item 95 = .ok (.aload_n 0, 1) := by decide +kernel
theorem dX10_item_96 : decode cX10_item 96 = .ok (.getfield 102, 3) := by decide +kernel
theorem dX10_item_99 : decode cX10_item 99 = .ok (.iconst 2, 1) := by decide +kernel
theorem dX10_item_100 : decode cX10_item 100 = .ok (.if_icmp .ne 27, 3) := by decide +kernel
theorem dX10_item_103 : decode cX10_item 103 = .ok (.iload_n 3, 1) := by decide +kernel
theorem dX10_item_104 : decode cX10_item 104 = .ok (.aload_n 0, 1) := by decide +kernel
theorem dX10_item_105 : decode cX10_item 105 = .ok (.getfield 13, 3) := by decide +kernel
theorem dX10_item_108 : decode cX10_item 108 = .ok (.iconst 1, 1) := by decide +kernel
theorem dX10_item_109 : decode cX10_item 109 = .ok (.iaload, 1) := by decide +kernel
theorem dX10_item_110 : decode cX10_item 110 = .ok (.if_icmp .ge 17, 3) := by decide +kernel
theorem dX10_item_113 : decode cX10_item 113 = .ok (.iload_n 3, 1) := by decide +kernel
theorem dX10_item_114 : decode cX10_item 114 = .ok (.aload_n 0, 1) := by decide +kernel
theorem dX10_item_115 : decode cX10_item 115 = .ok (.getfield 20, 3) := by decide +kernel
theorem dX10_item_118 : decode cX10_item 118 = .ok (.iload_n 2, 1) := by decide +kernel
theorem dX10_item_119 : decode cX10_item 119 = .ok (.iaload, 1) := by decide +kernel
theorem dX10_item_120 : decode cX10_item 120 = .ok (.if_icmp .eq 7, 3) := by decide +kernel
theorem dX10_item_123 : decode cX10_item 123 = .ok (.iconst 1, 1) := by decide +kernel
theorem dX10_item_124 : decode cX10_item 124 = .ok (.goto 4, 3) := by decide +kernel
theorem dX10_item_127 : decode cX10_item 127 = .ok (.iconst 0, 1) := by decide +kernel
theorem dX10_item_128 : decode cX10_item 128 = .ok (.invokevirtual 112, 3) := by decide +kernel
theorem dX10_item_131 : decode cX10_item 131 = .ok (.aload_n 0, 1) := by decide +kernel
theorem dX10_item_132 : decode cX10_item 132 = .ok (.getfield 23, 3) := by decide +kernel
theorem dX10_item_135 : decode cX10_item 135 = .ok (.iload_n 2, 1) := by decide +kernel
theorem dX10_item_136 : decode cX10_item 136 = .ok (.iload_n 3, 1) := by decide +kernel
theorem dX10_item_137 : decode cX10_item 137 = .ok (.iastore, 1) := by decide +kernel
theorem dX10_item_138 : decode cX10_item 138 = .ok (.aload_n 0, 1) := by decide +kernel
theorem dX10_item_139 : decode cX10_item 139 = .ok (.getfield 26, 3) := by decide +kernel
theorem dX10_item_142 : decode cX10_item 142 = .ok (.iload_n 2, 1) := by decide +kernel
theorem dX10_item_143 : decode cX10_item 143 = .ok (.aload_n 0, 1) := by decide +kernel
theorem dX10_item_144 : decode cX10_item 144 = .ok (.iconst 0, 1) := by decide +kernel
theorem dX10_item_145 : decode cX10_item 145 = .ok (.bipush 40, 2) := by decide +kernel
theorem dX10_item_147 : decode cX10_item 147 = .ok (.invokevirtual 116, 3) := by decide +kernel
theorem dX10_item_150 : decode cX10_item 150 = .ok (.iastore, 1) := by decide +kernel
theorem dX10_item_151 : decode cX10_item 151 = .ok (.aload_n 0, 1) := by decide +kernel
theorem dX10_item_152 : decode cX10_item 152 = .ok (.getfield 17, 3) := by decide +kernel
theorem dX10_item_155 : decode cX10_item 155 = .ok (.iconst 1, 1) := by decide +kernel
theorem dX10_item_156 : decode cX10_item 156 = .ok (.dup2, 1) := by decide +kernel
theorem dX10_item_157 : decode cX10_item 157 = .ok (.iaload, 1) := by decide +kernel
theorem dX10_item_158 : decode cX10_item 158 = .ok (.iconst 1, 1) := by decide +kernel
theorem dX10_item_159 : decode cX10_item 159 = .ok (.iadd, 1) := by decide +kernel
theorem dX10_item_160 : decode cX10_item 160 = .ok (.iastore, 1) := by decide +kernel
theorem dX10_item_161 : decode cX10_item 161 = .ok (.goto 138, 3) := by decide +kernel
theorem dX10_item_164 : decode cX10_item 164 = .ok (.aload_n 0, 1) := by decide +kernel
theorem dX10_item_165 : decode cX10_item 165 = .ok (.getfield 32, 3) := by decide +kernel
theorem dX10_item_168 : decode cX10_item 168 = .ok (.iconst 4, 1) := by decide +kernel
theorem dX10_item_169 : decode cX10_item 169 = .ok (.aload_n 0, 1) := by decide +kernel
theorem dX10_item_170 : decode cX10_item 170 = .ok (.getfield 29, 3) := by decide +kernel
theorem dX10_item_173 : decode cX10_item 173 = .ok (.iconst 1, 1) := by decide +kernel
theorem dX10_item_174 : decode cX10_item 174 = .ok (.iaload, 1) := by decide +kernel
theorem dX10_item_175 : decode cX10_item 175 = .ok (.iadd, 1) := by decide +kernel
theorem dX10_item_176 : decode cX10_item 176 = .ok (.aload_n 0, 1) := by decide +kernel
theorem dX10_item_177 : decode cX10_item 177 = .ok (.iconst 0, 1) := by decide +kernel
theorem dX10_item_178 : decode cX10_item 178 = .ok (.bipush 6, 2) := by decide +kernel
theorem dX10_item_180 : decode cX10_item 180 = .ok (.invokevirtual 116, 3) := by decide +kernel
theorem dX10_item_183 : decode cX10_item 183 = .ok (.iconst 3, 1) := by decide +kernel
theorem dX10_item_184 : decode cX10_item 184 = .ok (.isub, 1) := by decide +kernel
theorem dX10_item_185 : decode cX10_item 185 = .ok (.iastore, 1) := by decide +kernel
theorem dX10_item_186 : decode cX10_item 186 = .ok (.aload_n 0, 1) := by decide +kernel
theorem dX10_item_187 : decode cX10_item 187 = .ok (.getfield 35, 3) := by decide +kernel
theorem dX10_item_190 : decode cX10_item 190 = .ok (.iconst 4, 1) := by decide +kernel
theorem dX10_item_191 : decode cX10_item 191 = .ok (.aload_n 0, 1) := by decide +kernel
theorem dX10_item_192 : decode cX10_item 192 = .ok (.getfield 29, 3) := by decide +kernel
theorem dX10_item_195 : decode cX10_item 195 = .ok (.iconst 1, 1) := by decide +kernel
theorem dX10_item_196 : decode cX10_item 196 = .ok (.iaload, 1) := by decide +kernel
theorem dX10_item_197 : decode cX10_item 197 = .ok (.iadd, 1) := by decide +kernel
theorem dX10_item_198 : decode cX10_item 198 = .ok (.aload_n 0, 1) := by decide +kernel
theorem dX10_item_199 : decode cX10_item 199 = .ok (.iconst 0, 1) := by decide +kernel
theorem dX10_item_200 : decode cX10_item 200 = .ok (.bipush 9, 2) := by decide +kernel
theorem dX10_item_202 : decode cX10_item 202 = .ok (.invokevirtual 116, 3) := by decide +kernel
theorem dX10_item_205 : decode cX10_item 205 = .ok (.iastore, 1) := by decide +kernel
theorem dX10_item_206 : decode cX10_item 206 = .ok (.aload_n 0, 1) := by decide +kernel
theorem dX10_item_207 : decode cX10_item 207 = .ok (.getfield 29, 3) := by decide +kernel
theorem dX10_item_210 : decode cX10_item 210 = .ok (.iconst 1, 1) := by decide +kernel
theorem dX10_item_211 : decode cX10_item 211 = .ok (.dup2, 1) := by decide +kernel
theorem dX10_item_212 : decode cX10_item 212 = .ok (.iaload, 1) := by decide +kernel
theorem dX10_item_213 : decode cX10_item 213 = .ok (.iconst 1, 1) := by decide +kernel
theorem dX10_item_214 : decode cX10_item 214 = .ok (.iadd, 1) := by decide +kernel
theorem dX10_item_215 : decode cX10_item 215 = .ok (.iastore, 1) := by decide +kernel
theorem dX10_item_216 : decode cX10_item 216 = .ok (.goto 83, 3) := by decide +kernel
theorem dX10_item_219 : decode cX10_item 219 = .ok (.aload_n 0, 1) := by decide +kernel
theorem dX10_item_220 : decode cX10_item 220 = .ok (.getfield 41, 3) := by decide +kernel
theorem dX10_item_223 : decode cX10_item 223 = .ok (.bipush 6, 2) := by decide +kernel
theorem dX10_item_225 : decode cX10_item 225 = .ok (.aload_n 0, 1) := by decide +kernel
theorem dX10_item_226 : decode cX10_item 226 = .ok (.getfield 38, 3) := by decide +kernel
theorem dX10_item_229 : decode cX10_item 229 = .ok (.iconst 1, 1) := by decide +kernel
theorem dX10_item_230 : decode cX10_item 230 = .ok (.iaload, 1) := by decide +kernel
theorem dX10_item_231 : decode cX10_item 231 = .ok (.iadd, 1) := by decide +kernel
theorem dX10_item_232 : decode cX10_item 232 = .ok (.aload_n 0, 1) := by decide +kernel
theorem dX10_item_233 : decode cX10_item 233 = .ok (.iconst 0, 1) := by decide +kernel
theorem dX10_item_234 : decode cX10_item 234 = .ok (.aload_n 0, 1) := by decide +kernel
theorem dX10_item_235 : decode cX10_item 235 = .ok (.getfield 29, 3) := by decide +kernel
theorem dX10_item_238 : decode cX10_item 238 = .ok (.iconst 1, 1) := by decide +kernel
theorem dX10_item_239 : decode cX10_item 239 = .ok (.iaload, 1) := by decide +kernel
theorem dX10_item_240 : decode cX10_item 240 = .ok (.iconst 1, 1) := by decide +kernel
theorem dX10_item_241 : decode cX10_item 241 = .ok (.isub, 1) := by decide +kernel
theorem dX10_item_242 : decode cX10_item 242 = .ok (.invokevirtual 116, 3) := by decide +kernel
theorem dX10_item_245 : decode cX10_item 245 = .ok (.iastore, 1) := by decide +kernel
theorem dX10_item_246 : decode cX10_item 246 = .ok (.aload_n 0, 1) := by decide +kernel
theorem dX10_item_247 : decode cX10_item 247 = .ok (.getfield 44, 3) := by decide +kernel
theorem dX10_item_250 : decode cX10_item 250 = .ok (.bipush 6, 2) := by decide +kernel
theorem dX10_item_252 : decode cX10_item 252 = .ok (.aload_n 0, 1) := by decide +kernel
theorem dX10_item_253 : decode cX10_item 253 = .ok (.getfield 38, 3) := by decide +kernel
theorem dX10_item_256 : decode cX10_item 256 = .ok (.iconst 1, 1) := by decide +kernel
theorem dX10_item_257 : decode cX10_item 257 = .ok (.iaload, 1) := by decide +kernel
theorem dX10_item_258 : decode cX10_item 258 = .ok (.iadd, 1) := by decide +kernel
theorem dX10_item_259 : decode cX10_item 259 = .ok (.aload_n 0, 1) := by decide +kernel
theorem dX10_item_260 : decode cX10_item 260 = .ok (.iconst 0, 1) := by decide +kernel
theorem dX10_item_261 : decode cX10_item 261 = .ok (.aload_n 0, 1) := by decide +kernel
theorem dX10_item_262 : decode cX10_item 262 = .ok (.getfield 13, 3) := by decide +kernel
theorem dX10_item_265 : decode cX10_item 265 = .ok (.iconst 1, 1) := by decide +kernel
theorem dX10_item_266 : decode cX10_item 266 = .ok (.iaload, 1) := by decide +kernel
theorem dX10_item_267 : decode cX10_item 267 = .ok (.iconst 1, 1) := by decide +kernel
theorem dX10_item_268 : decode cX10_item 268 = .ok (.isub, 1) := by decide +kernel
theorem dX10_item_269 : decode cX10_item 269 = .ok (.invokevirtual 116, 3) := by decide +kernel
theorem dX10_item_272 : decode cX10_item 272 = .ok (.iastore, 1) := by decide +kernel
theorem dX10_item_273 : decode cX10_item 273 = .ok (.aload_n 0, 1) := by decide +kernel
theorem dX10_item_274 : decode cX10_item 274 = .ok (.getfield 38, 3) := by decide +kernel
theorem dX10_item_277 : decode cX10_item 277 = .ok (.iconst 1, 1) := by decide +kernel
theorem dX10_item_278 : decode cX10_item 278 = .ok (.dup2, 1) := by decide +kernel
theorem dX10_item_279 : decode cX10_item 279 = .ok (.iaload, 1) := by decide +kernel
theorem dX10_item_280 : decode cX10_item 280 = .ok (.iconst 1, 1) := by decide +kernel
theorem dX10_item_281 : decode cX10_item 281 = .ok (.iadd, 1) := by decide +kernel
theorem dX10_item_282 : decode cX10_item 282 = .ok (.iastore, 1) := by decide +kernel
theorem dX10_item_283 : decode cX10_item 283 = .ok (.goto 16, 3) := by decide +kernel
theorem dX10_item_286 : decode cX10_item 286 = .ok (.aload_n 0, 1) := by decide +kernel
theorem dX10_item_287 : decode cX10_item 287 = .ok (.getfield 47, 3) := by decide +kernel
theorem dX10_item_290 : decode cX10_item 290 = .ok (.iconst 1, 1) := by decide +kernel
theorem dX10_item_291 : decode cX10_item 291 = .ok (.aload_n 0, 1) := by decide +kernel
theorem dX10_item_292 : decode cX10_item 292 = .ok (.iconst 0, 1) := by decide +kernel
theorem dX10_item_293 : decode cX10_item 293 = .ok (.bipush 9, 2) := by decide +kernel
theorem dX10_item_295 : decode cX10_item 295 = .ok (.invokevirtual 116, 3) := by decide +kernel
theorem dX10_item_298 : decode cX10_item 298 = .ok (.iastore, 1) := by decide +kernel
theorem dX10_item_299 : decode cX10_item 299 = .ok (.return_, 1) := by decide +kernel
theorem dX10_may_0 : decode cX10_may 0 = .ok (.iload_n 1, 1) := by decide +kernel
theorem dX10_may_1 : decode cX10_may 1 = .ok (.lookupswitch 106 #[(98, 89), (102, 56), (107, 73), (110, 43)], 43) := by decide +kernel
theorem dX10_may_44 : decode cX10_may 44 = .ok (.aload_n 0, 1) := by decide +kernel
theorem dX10_may_45 : decode cX10_may 45 = .ok (.getfield 120, 3) := by decide +kernel
theorem dX10_may_48 : decode cX10_may 48 = .ok (.ifCond .ne 7, 3) := by decide +kernel
theorem dX10_may_51 : decode cX10_may 51 = .ok (.iconst 1, 1) := by decide +kernel
theorem dX10_may_52 : decode cX10_may 52 = .ok (.goto 4, 3) := by decide +kernel
theorem dX10_may_55 : decode cX10_may 55 = .ok (.iconst 0, 1) := by decide +kernel
theorem dX10_may_56 : decode cX10_may 56 = .ok (.ireturn, 1) := by decide +kernel
theorem dX10_may_57 : decode cX10_may 57 = .ok (.aload_n 0, 1) := by decide +kernel
theorem dX10_may_58 : decode cX10_may 58 = .ok (.getfield 17, 3) := by decide +kernel
theorem dX10_may_61 : decode cX10_may 61 = .ok (.iconst 1, 1) := by decide +kernel
theorem dX10_may_62 : decode cX10_may 62 = .ok (.iaload, 1) := by decide +kernel
theorem dX10_may_63 : decode cX10_may 63 = .ok (.bipush 8, 2) := by decide +kernel
theorem dX10_may_65 : decode cX10_may 65 = .ok (.if_icmp .ge 7, 3) := by decide +kernel
theorem dX10_may_68 : decode cX10_may 68 = .ok (.iconst 1, 1) := by decide +kernel
theorem dX10_may_69 : decode cX10_may 69 = .ok (.goto 4, 3) := by decide +kernel
theorem dX10_may_72 : decode cX10_may 72 = .ok (.iconst 0, 1) := by decide +kernel
theorem dX10_may_73 : decode cX10_may 73 = .ok (.ireturn, 1) := by decide +kernel
theorem dX10_may_74 : decode cX10_may 74 = .ok (.aload_n 0, 1) := by decide +kernel
theorem dX10_may_75 : decode cX10_may 75 = .ok (.getfield 29, 3) := by decide +kernel
theorem dX10_may_78 : decode cX10_may 78 = .ok (.iconst 1, 1) := by decide +kernel
theorem dX10_may_79 : decode cX10_may 79 = .ok (.iaload, 1) := by decide +kernel
theorem dX10_may_80 : decode cX10_may 80 = .ok (.iconst 4, 1) := by decide +kernel
theorem dX10_may_81 : decode cX10_may 81 = .ok (.if_icmp .ge 7, 3) := by decide +kernel
theorem dX10_may_84 : decode cX10_may 84 = .ok (.iconst 1, 1) := by decide +kernel
theorem dX10_may_85 : decode cX10_may 85 = .ok (.goto 4, 3) := by decide +kernel
theorem dX10_may_88 : decode cX10_may 88 = .ok (.iconst 0, 1) := by decide +kernel
theorem dX10_may_89 : decode cX10_may 89 = .ok (.ireturn, 1) := by decide +kernel
theorem dX10_may_90 : decode cX10_may 90 = .ok (.aload_n 0, 1) := by decide +kernel
theorem dX10_may_91 : decode cX10_may 91 = .ok (.getfield 38, 3) := by decide +kernel
theorem dX10_may_94 : decode cX10_may 94 = .ok (.iconst 1, 1) := by decide +kernel
theorem dX10_may_95 : decode cX10_may 95 = .ok (.iaload, 1) := by decide +kernel
theorem dX10_may_96 : decode cX10_may 96 = .ok (.bipush 6, 2) := by decide +kernel
theorem dX10_may_98 : decode cX10_may 98 = .ok (.if_icmp .ge 7, 3) := by decide +kernel
theorem dX10_may_101 : decode cX10_may 101 = .ok (.iconst 1, 1) := by decide +kernel
theorem dX10_may_102 : decode cX10_may 102 = .ok (.goto 4, 3) := by decide +kernel
theorem dX10_may_105 : decode cX10_may 105 = .ok (.iconst 0, 1) := by decide +kernel
theorem dX10_may_106 : decode cX10_may 106 = .ok (.ireturn, 1) := by decide +kernel
theorem dX10_may_107 : decode cX10_may 107 = .ok (.iload_n 1, 1) := by decide +kernel
theorem dX10_may_108 : decode cX10_may 108 = .ok (.bipush 119, 2) := by decide +kernel
theorem dX10_may_110 : decode cX10_may 110 = .ok (.if_icmp .ne 11, 3) := by decide +kernel
theorem dX10_may_113 : decode cX10_may 113 = .ok (.iload_n 2, 1) := by decide +kernel
theorem dX10_may_114 : decode cX10_may 114 = .ok (.ifCond .ne 7, 3) := by decide +kernel
theorem dX10_may_117 : decode cX10_may 117 = .ok (.iconst 1, 1) := by decide +kernel
theorem dX10_may_118 : decode cX10_may 118 = .ok (.goto 4, 3) := by decide +kernel
theorem dX10_may_121 : decode cX10_may 121 = .ok (.iconst 0, 1) := by decide +kernel
theorem dX10_may_122 : decode cX10_may 122 = .ok (.ireturn, 1) := by decide +kernel
theorem dX10_read_0 : decode cX10_read 0 = .ok (.aload_n 0, 1) := by decide +kernel
theorem dX10_read_1 : decode cX10_read 1 = .ok (.iconst 0, 1) := by decide +kernel
theorem dX10_read_2 : decode cX10_read 2 = .ok (.putfield 89, 3) := by decide +kernel
theorem dX10_read_5 : decode cX10_read 5 = .ok (.aload_n 0, 1) := by decide +kernel
theorem dX10_read_6 : decode cX10_read 6 = .ok (.iconst 0, 1) := by decide +kernel
theorem dX10_read_7 : decode cX10_read 7 = .ok (.putfield 105, 3) := by decide +kernel
theorem dX10_read_10 : decode cX10_read 10 = .ok (.aload_n 0, 1) := by decide +kernel
theorem dX10_read_11 : decode cX10_read 11 = .ok (.iconst 0, 1) := by decide +kernel
theorem dX10_read_12 : decode cX10_read 12 = .ok (.putfield 120, 3) := by decide +kernel
theorem dX10_read_15 : decode cX10_read 15 = .ok (.aload_n 0, 1) := by decide +kernel
theorem dX10_read_16 : decode cX10_read 16 = .ok (.getfield 13, 3) := by decide +kernel
theorem dX10_read_19 : decode cX10_read 19 = .ok (.iconst 1, 1) := by decide +kernel
theorem dX10_read_20 : decode cX10_read 20 = .ok (.iconst 2, 1) := by decide +kernel
theorem dX10_read_21 : decode cX10_read 21 = .ok (.iastore, 1) := by decide +kernel
theorem dX10_read_22 : decode cX10_read 22 = .ok (.aload_n 0, 1) := by decide +kernel
theorem dX10_read_23 : decode cX10_read 23 = .ok (.getfield 17, 3) := by decide +kernel
theorem dX10_read_26 : decode cX10_read 26 = .ok (.iconst 1, 1) := by decide +kernel
theorem dX10_read_27 : decode cX10_read 27 = .ok (.iconst 0, 1) := by decide +kernel
theorem dX10_read_28 : decode cX10_read 28 = .ok (.iastore, 1) := by decide +kernel
theorem dX10_read_29 : decode cX10_read 29 = .ok (.aload_n 0, 1) := by decide +kernel
theorem dX10_read_30 : decode cX10_read 30 = .ok (.getfield 29, 3) := by decide +kernel
theorem dX10_read_33 : decode cX10_read 33 = .ok (.iconst 1, 1) := by decide +kernel
theorem dX10_read_34 : decode cX10_read 34 = .ok (.iconst 0, 1) := by decide +kernel
theorem dX10_read_35 : decode cX10_read 35 = .ok (.iastore, 1) := by decide +kernel
theorem dX10_read_36 : decode cX10_read 36 = .ok (.aload_n 0, 1) := by decide +kernel
theorem dX10_read_37 : decode cX10_read 37 = .ok (.getfield 38, 3) := by decide +kernel
theorem dX10_read_40 : decode cX10_read 40 = .ok (.iconst 1, 1) := by decide +kernel
theorem dX10_read_41 : decode cX10_read 41 = .ok (.iconst 0, 1) := by decide +kernel
theorem dX10_read_42 : decode cX10_read 42 = .ok (.iastore, 1) := by decide +kernel
theorem dX10_read_43 : decode cX10_read 43 = .ok (.aload_n 0, 1) := by decide +kernel
theorem dX10_read_44 : decode cX10_read 44 = .ok (.getfield 47, 3) := by decide +kernel
theorem dX10_read_47 : decode cX10_read 47 = .ok (.iconst 1, 1) := by decide +kernel
theorem dX10_read_48 : decode cX10_read 48 = .ok (.iconst 0, 1) := by decide +kernel
theorem dX10_read_49 : decode cX10_read 49 = .ok (.iastore, 1) := by decide +kernel
theorem dX10_read_50 : decode cX10_read 50 = .ok (.iconst 0, 1) := by decide +kernel
theorem dX10_read_51 : decode cX10_read 51 = .ok (.istore_n 1, 1) := by decide +kernel
theorem dX10_read_52 : decode cX10_read 52 = .ok (.aload_n 0, 1) := by decide +kernel
theorem dX10_read_53 : decode cX10_read 53 = .ok (.invokevirtual 109, 3) := by decide +kernel
theorem dX10_read_56 : decode cX10_read 56 = .ok (.aload_n 0, 1) := by decide +kernel
theorem dX10_read_57 : decode cX10_read 57 = .ok (.getfield 102, 3) := by decide +kernel
theorem dX10_read_60 : decode cX10_read 60 = .ok (.iconst 4, 1) := by decide +kernel
theorem dX10_read_61 : decode cX10_read 61 = .ok (.if_icmp .eq 111, 3) := by decide +kernel
theorem dX10_read_64 : decode cX10_read 64 = .ok (.aload_n 0, 1) := by decide +kernel
theorem dX10_read_65 : decode cX10_read 65 = .ok (.getfield 105, 3) := by decide +kernel
theorem dX10_read_68 : decode cX10_read 68 = .ok (.ifCond .ne 104, 3) := by decide +kernel
theorem dX10_read_71 : decode cX10_read 71 = .ok (.aload_n 0, 1) := by decide +kernel
theorem dX10_read_72 : decode cX10_read 72 = .ok (.getfield 102, 3) := by decide +kernel
theorem dX10_read_75 : decode cX10_read 75 = .ok (.iconst 1, 1) := by decide +kernel
theorem dX10_read_76 : decode cX10_read 76 = .ok (.if_icmp .ne 10, 3) := by decide +kernel
theorem dX10_read_79 : decode cX10_read 79 = .ok (.aload_n 0, 1) := by decide +kernel
theorem dX10_read_80 : decode cX10_read 80 = .ok (.getfield 99, 3) := by decide +kernel
theorem dX10_read_83 : decode cX10_read 83 = .ok (.goto 4, 3) := by decide +kernel
theorem dX10_read_86 : decode cX10_read 86 = .ok (.iconst 0, 1) := by decide +kernel
theorem dX10_read_87 : decode cX10_read 87 = .ok (.istore_n 2, 1) := by decide +kernel
theorem dX10_read_88 : decode cX10_read 88 = .ok (.aload_n 0, 1) := by decide +kernel
theorem dX10_read_89 : decode cX10_read 89 = .ok (.aload_n 0, 1) := by decide +kernel
theorem dX10_read_90 : decode cX10_read 90 = .ok (.getfield 102, 3) := by decide +kernel
theorem dX10_read_93 : decode cX10_read 93 = .ok (.iconst 1, 1) := by decide +kernel
theorem dX10_read_94 : decode cX10_read 94 = .ok (.if_icmp .ne 16, 3) := by decide +kernel
theorem dX10_read_97 : decode cX10_read 97 = .ok (.aload_n 0, 1) := by decide +kernel
theorem dX10_read_98 : decode cX10_read 98 = .ok (.iload_n 2, 1) := by decide +kernel
theorem dX10_read_99 : decode cX10_read 99 = .ok (.iload_n 1, 1) := by decide +kernel
theorem dX10_read_100 : decode cX10_read 100 = .ok (.invokevirtual 123, 3) := by decide +kernel
theorem dX10_read_103 : decode cX10_read 103 = .ok (.ifCond .eq 7, 3) := by decide +kernel
theorem dX10_read_106 : decode cX10_read 106 = .ok (.iconst 1, 1) := by decide +kernel
theorem dX10_read_107 : decode cX10_read 107 = .ok (.goto 4, 3) := by decide +kernel
theorem dX10_read_110 : decode cX10_read 110 = .ok (.iconst 0, 1) := by decide +kernel
theorem dX10_read_111 : decode cX10_read 111 = .ok (.invokevirtual 112, 3) := by decide +kernel
theorem dX10_read_114 : decode cX10_read 114 = .ok (.aload_n 0, 1) := by decide +kernel
theorem dX10_read_115 : decode cX10_read 115 = .ok (.getfield 105, 3) := by decide +kernel
theorem dX10_read_118 : decode cX10_read 118 = .ok (.ifCond .ne 51, 3) := by decide +kernel
theorem dX10_read_121 : decode cX10_read 121 = .ok (.iload_n 1, 1) := by decide +kernel
theorem dX10_read_122 : decode cX10_read 122 = .ok (.ifCond .ne 9, 3) := by decide +kernel
theorem dX10_read_125 : decode cX10_read 125 = .ok (.iload_n 2, 1) := by decide +kernel
theorem dX10_read_126 : decode cX10_read 126 = .ok (.bipush 119, 2) := by decide +kernel
theorem dX10_read_128 : decode cX10_read 128 = .ok (.if_icmp .ne 7, 3) := by decide +kernel
theorem dX10_read_131 : decode cX10_read 131 = .ok (.iconst 1, 1) := by decide +kernel
theorem dX10_read_132 : decode cX10_read 132 = .ok (.goto 4, 3) := by decide +kernel
theorem dX10_read_135 : decode cX10_read 135 = .ok (.iconst 0, 1) := by decide +kernel
theorem dX10_read_136 : decode cX10_read 136 = .ok (.istore_n 1, 1) := by decide +kernel
theorem dX10_read_137 : decode cX10_read 137 = .ok (.aload_n 0, 1) := by decide +kernel
theorem dX10_read_138 : decode cX10_read 138 = .ok (.iload_n 2, 1) := by decide +kernel
theorem dX10_read_139 : decode cX10_read 139 = .ok (.invokevirtual 127, 3) := by decide +kernel
theorem dX10_read_142 : decode cX10_read 142 = .ok (.aload_n 0, 1) := by decide +kernel
theorem dX10_read_143 : decode cX10_read 143 = .ok (.aload_n 0, 1) := by decide +kernel
theorem dX10_read_144 : decode cX10_read 144 = .ok (.getfield 102, 3) := by decide +kernel
theorem dX10_read_147 : decode cX10_read 147 = .ok (.iconst 3, 1) := by decide +kernel
theorem dX10_read_148 : decode cX10_read 148 = .ok (.if_icmp .ne 7, 3) := by decide +kernel
theorem dX10_read_151 : decode cX10_read 151 = .ok (.iconst 1, 1) := by decide +kernel
theorem dX10_read_152 : decode cX10_read 152 = .ok (.goto 4, 3) := by decide +kernel
theorem dX10_read_155 : decode cX10_read 155 = .ok (.iconst 0, 1) := by decide +kernel
theorem dX10_read_156 : decode cX10_read 156 = .ok (.invokevirtual 112, 3) := by decide +kernel
theorem dX10_read_159 : decode cX10_read 159 = .ok (.aload_n 0, 1) := by decide +kernel
theorem dX10_read_160 : decode cX10_read 160 = .ok (.dup, 1) := by decide +kernel
theorem dX10_read_161 : decode cX10_read 161 = .ok (.getfield 120, 3) := by decide +kernel
theorem dX10_read_164 : decode cX10_read 164 = .ok (.iconst 1, 1) := by decide +kernel
theorem dX10_read_165 : decode cX10_read 165 = .ok (.iadd, 1) := by decide +kernel
theorem dX10_read_166 : decode cX10_read 166 = .ok (.putfield 120, 3) := by decide +kernel
theorem dX10_read_169 : decode cX10_read 169 = .ok (.goto (-113), 3) := by decide +kernel
theorem dX10_read_172 : decode cX10_read 172 = .ok (.return_, 1) := by decide +kernel
theorem dX10_downs_0 : decode cX10_downs 0 = .ok (.aload_n 0, 1) := by decide +kernel
theorem dX10_downs_1 : decode cX10_downs 1 = .ok (.invokevirtual 131, 3) := by decide +kernel
theorem dX10_downs_4 : decode cX10_downs 4 = .ok (.aload_n 0, 1) := by decide +kernel
theorem dX10_downs_5 : decode cX10_downs 5 = .ok (.getfield 105, 3) := by decide +kernel
theorem dX10_downs_8 : decode cX10_downs 8 = .ok (.ifCond .eq 11, 3) := by decide +kernel
theorem dX10_downs_11 : decode cX10_downs 11 = .ok (.bipush (-10), 2) := by decide +kernel
theorem dX10_downs_13 : decode cX10_downs 13 = .ok (.aload_n 0, 1) := by decide +kernel
theorem dX10_downs_14 : decode cX10_downs 14 = .ok (.getfield 96, 3) := by decide +kernel
theorem dX10_downs_17 : decode cX10_downs 17 = .ok (.isub, 1) := by decide +kernel
theorem dX10_downs_18 : decode cX10_downs 18 = .ok (.ireturn, 1) := by decide +kernel
theorem dX10_downs_19 : decode cX10_downs 19 = .ok (.aload_n 0, 1) := by decide +kernel
theorem dX10_downs_20 : decode cX10_downs 20 = .ok (.getfield 13, 3) := by decide +kernel
theorem dX10_downs_23 : decode cX10_downs 23 = .ok (.iconst 0, 1) := by decide +kernel
theorem dX10_downs_24 : decode cX10_downs 24 = .ok (.aload_n 0, 1) := by decide +kernel
theorem dX10_downs_25 : decode cX10_downs 25 = .ok (.getfield 13, 3) := by decide +kernel
theorem dX10_downs_28 : decode cX10_downs 28 = .ok (.iconst 1, 1) := by decide +kernel
theorem dX10_downs_29 : decode cX10_downs 29 = .ok (.iaload, 1) := by decide +kernel
theorem dX10_downs_30 : decode cX10_downs 30 = .ok (.iastore, 1) := by decide +kernel
theorem dX10_downs_31 : decode cX10_downs 31 = .ok (.aload_n 0, 1) := by decide +kernel
theorem dX10_downs_32 : decode cX10_downs 32 = .ok (.getfield 17, 3) := by decide +kernel
theorem dX10_downs_35 : decode cX10_downs 35 = .ok (.iconst 0, 1) := by decide +kernel
theorem dX10_downs_36 : decode cX10_downs 36 = .ok (.aload_n 0, 1) := by decide +kernel
theorem dX10_downs_37 : decode cX10_downs 37 = .ok (.getfield 17, 3) := by decide +kernel
theorem dX10_downs_40 : decode cX10_downs 40 = .ok (.iconst 1, 1) := by decide +kernel
theorem dX10_downs_41 : decode cX10_downs 41 = .ok (.iaload, 1) := by decide +kernel
theorem dX10_downs_42 : decode cX10_downs 42 = .ok (.iastore, 1) := by decide +kernel
theorem dX10_downs_43 : decode cX10_downs 43 = .ok (.aload_n 0, 1) := by decide +kernel
theorem dX10_downs_44 : decode cX10_downs 44 = .ok (.getfield 29, 3) := by decide +kernel
theorem dX10_downs_47 : decode cX10_downs 47 = .ok (.iconst 0, 1) := by decide +kernel
theorem dX10_downs_48 : decode cX10_downs 48 = .ok (.aload_n 0, 1) := by decide +kernel
theorem dX10_downs_49 : decode cX10_downs 49 = .ok (.getfield 29, 3) := by decide +kernel
theorem dX10_downs_52 : decode cX10_downs 52 = .ok (.iconst 1, 1) := by decide +kernel
theorem dX10_downs_53 : decode cX10_downs 53 = .ok (.iaload, 1) := by decide +kernel
theorem dX10_downs_54 : decode cX10_downs 54 = .ok (.iastore, 1) := by decide +kernel
theorem dX10_downs_55 : decode cX10_downs 55 = .ok (.aload_n 0, 1) := by decide +kernel
theorem dX10_downs_56 : decode cX10_downs 56 = .ok (.getfield 38, 3) := by decide +kernel
theorem dX10_downs_59 : decode cX10_downs 59 = .ok (.iconst 0, 1) := by decide +kernel
theorem dX10_downs_60 : decode cX10_downs 60 = .ok (.aload_n 0, 1) := by decide +kernel
theorem dX10_downs_61 : decode cX10_downs 61 = .ok (.getfield 38, 3) := by decide +kernel
theorem dX10_downs_64 : decode cX10_downs 64 = .ok (.iconst 1, 1) := by decide +kernel
theorem dX10_downs_65 : decode cX10_downs 65 = .ok (.iaload, 1) := by decide +kernel
theorem dX10_downs_66 : decode cX10_downs 66 = .ok (.iastore, 1) := by decide +kernel
theorem dX10_downs_67 : decode cX10_downs 67 = .ok (.iconst 0, 1) := by decide +kernel
theorem dX10_downs_68 : decode cX10_downs 68 = .ok (.istore_n 1, 1) := by decide +kernel
theorem dX10_downs_69 : decode cX10_downs 69 = .ok (.iload_n 1, 1) := by decide +kernel
theorem dX10_downs_70 : decode cX10_downs 70 = .ok (.bipush 30, 2) := by decide +kernel
theorem dX10_downs_72 : decode cX10_downs 72 = .ok (.if_icmp .ge 16, 3) := by decide +kernel
theorem dX10_downs_75 : decode cX10_downs 75 = .ok (.aload_n 0, 1) := by decide +kernel
theorem dX10_downs_76 : decode cX10_downs 76 = .ok (.getfield 50, 3) := by decide +kernel
theorem dX10_downs_79 : decode cX10_downs 79 = .ok (.iload_n 1, 1) := by decide +kernel
theorem dX10_downs_80 : decode cX10_downs 80 = .ok (.iconst 0, 1) := by decide +kernel
theorem dX10_downs_81 : decode cX10_downs 81 = .ok (.iastore, 1) := by decide +kernel
theorem dX10_downs_82 : decode cX10_downs 82 = .ok (.iinc 1 1, 3) := by decide +kernel
theorem dX10_downs_85 : decode cX10_downs 85 = .ok (.goto (-16), 3) := by decide +kernel
theorem dX10_downs_88 : decode cX10_downs 88 = .ok (.iconst 0, 1) := by decide +kernel
theorem dX10_downs_89 : decode cX10_downs 89 = .ok (.istore_n 1, 1) := by decide +kernel
theorem dX10_downs_90 : decode cX10_downs 90 = .ok (.iload_n 1, 1) := by decide +kernel
theorem dX10_downs_91 : decode cX10_downs 91 = .ok (.bipush 8, 2) := by decide +kernel
theorem dX10_downs_93 : decode cX10_downs 93 = .ok (.if_icmp .ge 71, 3) := by decide +kernel
theorem dX10_downs_96 : decode cX10_downs 96 = .ok (.aload_n 0, 1) := by decide +kernel
theorem dX10_downs_97 : decode cX10_downs 97 = .ok (.getfield 20, 3) := by decide +kernel
theorem dX10_downs_100 : decode cX10_downs 100 = .ok (.iload_n 1, 1) := by decide +kernel
theorem dX10_downs_101 : decode cX10_downs 101 = .ok (.aload_n 0, 1) := by decide +kernel
theorem dX10_downs_102 : decode cX10_downs 102 = .ok (.getfield 20, 3) := by decide +kernel
theorem dX10_downs_105 : decode cX10_downs 105 = .ok (.bipush 8, 2) := by decide +kernel
theorem dX10_downs_107 : decode cX10_downs 107 = .ok (.iload_n 1, 1) := by decide +kernel
theorem dX10_downs_108 : decode cX10_downs 108 = .ok (.iadd, 1) := by decide +kernel
theorem dX10_downs_109 : decode cX10_downs 109 = .ok (.iaload, 1) := by decide +kernel
theorem dX10_downs_110 : decode cX10_downs 110 = .ok (.iastore, 1) := by decide +kernel
theorem dX10_downs_111 : decode cX10_downs 111 = .ok (.aload_n 0, 1) := by decide +kernel
theorem dX10_downs_112 : decode cX10_downs 112 = .ok (.getfield 23, 3) := by decide +kernel
theorem dX10_downs_115 : decode cX10_downs 115 = .ok (.iload_n 1, 1) := by decide +kernel
theorem dX10_downs_116 : decode cX10_downs 116 = .ok (.aload_n 0, 1) := by decide +kernel
theorem dX10_downs_117 : decode cX10_downs 117 = .ok (.getfield 23, 3) := by decide +kernel
theorem dX10_downs_120 : decode cX10_downs 120 = .ok (.bipush 8, 2) := by decide +kernel
theorem dX10_downs_122 : decode cX10_downs 122 = .ok (.iload_n 1, 1) := by decide +kernel
theorem dX10_downs_123 : decode cX10_downs 123 = .ok (.iadd, 1) := by decide +kernel
theorem dX10_downs_124 : decode cX10_downs 124 = .ok (.iaload, 1) := by decide +kernel
theorem dX10_downs_125 : decode cX10_downs 125 = .ok (.iastore, 1) := by decide +kernel
theorem dX10_downs_126 : decode cX10_downs 126 = .ok (.aload_n 0, 1) := by decide +kernel
theorem dX10_downs_127 : decode cX10_downs 127 = .ok (.getfield 50, 3) := by decide +kernel
theorem dX10_downs_130 : decode cX10_downs 130 = .ok (.bipush 6, 2) := by decide +kernel
theorem dX10_downs_132 : decode cX10_downs 132 = .ok (.iload_n 1, 1) := by decide +kernel
theorem dX10_downs_133 : decode cX10_downs 133 = .ok (.iadd, 1) := by decide +kernel
theorem dX10_downs_134 : decode cX10_downs 134 = .ok (.iload_n 1, 1) := by decide +kernel
theorem dX10_downs_135 : decode cX10_downs 135 = .ok (.aload_n 0, 1) := by decide +kernel
theorem dX10_downs_136 : decode cX10_downs 136 = .ok (.getfield 17, 3) := by decide +kernel
theorem dX10_downs_139 : decode cX10_downs 139 = .ok (.iconst 0, 1) := by decide +kernel
theorem dX10_downs_140 : decode cX10_downs 140 = .ok (.iaload, 1) := by decide +kernel
theorem dX10_downs_141 : decode cX10_downs 141 = .ok (.if_icmp .ge 15, 3) := by decide +kernel
theorem dX10_downs_144 : decode cX10_downs 144 = .ok (.aload_n 0, 1) := by decide +kernel
theorem dX10_downs_145 : decode cX10_downs 145 = .ok (.getfield 26, 3) := by decide +kernel
theorem dX10_downs_148 : decode cX10_downs 148 = .ok (.bipush 8, 2) := by decide +kernel
theorem dX10_downs_150 : decode cX10_downs 150 = .ok (.iload_n 1, 1) := by decide +kernel
theorem dX10_downs_151 : decode cX10_downs 151 = .ok (.iadd, 1) := by decide +kernel
theorem dX10_downs_152 : decode cX10_downs 152 = .ok (.iaload, 1) := by decide +kernel
theorem dX10_downs_153 : decode cX10_downs 153 = .ok (.goto 4, 3) := by decide +kernel
theorem dX10_downs_156 : decode cX10_downs 156 = .ok (.iconst 0, 1) := by decide +kernel
theorem dX10_downs_157 : decode cX10_downs 157 = .ok (.iastore, 1) := by decide +kernel
theorem dX10_downs_158 : decode cX10_downs 158 = .ok (.iinc 1 1, 3) := by decide +kernel
theorem dX10_downs_161 : decode cX10_downs 161 = .ok (.goto (-71), 3) := by decide +kernel
theorem dX10_downs_164 : decode cX10_downs 164 = .ok (.iconst 0, 1) := by decide +kernel
theorem dX10_downs_165 : decode cX10_downs 165 = .ok (.istore_n 1, 1) := by decide +kernel
theorem dX10_downs_166 : decode cX10_downs 166 = .ok (.iload_n 1, 1) := by decide +kernel
theorem dX10_downs_167 : decode cX10_downs 167 = .ok (.iconst 4, 1) := by decide +kernel
theorem dX10_downs_168 : decode cX10_downs 168 = .ok (.if_icmp .ge 37, 3) := by decide +kernel
theorem dX10_downs_171 : decode cX10_downs 171 = .ok (.aload_n 0, 1) := by decide +kernel
theorem dX10_downs_172 : decode cX10_downs 172 = .ok (.getfield 32, 3) := by decide +kernel
theorem dX10_downs_175 : decode cX10_downs 175 = .ok (.iload_n 1, 1) := by decide +kernel
theorem dX10_downs_176 : decode cX10_downs 176 = .ok (.aload_n 0, 1) := by decide +kernel
theorem dX10_downs_177 : decode cX10_downs 177 = .ok (.getfield 32, 3) := by decide +kernel
theorem dX10_downs_180 : decode cX10_downs 180 = .ok (.iconst 4, 1) := by decide +kernel
theorem dX10_downs_181 : decode cX10_downs 181 = .ok (.iload_n 1, 1) := by decide +kernel
theorem dX10_downs_182 : decode cX10_downs 182 = .ok (.iadd, 1) := by decide +kernel
theorem dX10_downs_183 : decode cX10_downs 183 = .ok (.iaload, 1) := by decide +kernel
theorem dX10_downs_184 : decode cX10_downs 184 = .ok (.iastore, 1) := by decide +kernel
theorem dX10_downs_185 : decode cX10_downs 185 = .ok (.aload_n 0, 1) := by decide +kernel
theorem dX10_downs_186 : decode cX10_downs 186 = .ok (.getfield 35, 3) := by decide +kernel
theorem dX10_downs_189 : decode cX10_downs 189 = .ok (.iload_n 1, 1) := by decide +kernel
theorem dX10_downs_190 : decode cX10_downs 190 = .ok (.aload_n 0, 1) := by decide +kernel
theorem dX10_downs_191 : decode cX10_downs 191 = .ok (.getfield 35, 3) := by decide +kernel
theorem dX10_downs_194 : decode cX10_downs 194 = .ok (.iconst 4, 1) := by decide +kernel
theorem dX10_downs_195 : decode cX10_downs 195 = .ok (.iload_n 1, 1) := by decide +kernel
theorem dX10_downs_196 : decode cX10_downs 196 = .ok (.iadd, 1) := by decide +kernel
theorem dX10_downs_197 : decode cX10_downs 197 = .ok (.iaload, 1) := by decide +kernel
theorem dX10_downs_198 : decode cX10_downs 198 = .ok (.iastore, 1) := by decide +kernel
theorem dX10_downs_199 : decode cX10_downs 199 = .ok (.iinc 1 1, 3) := by decide +kernel
theorem dX10_downs_202 : decode cX10_downs 202 = .ok (.goto (-36), 3) := by decide +kernel
theorem dX10_downs_205 : decode cX10_downs 205 = .ok (.iconst 0, 1) := by decide +kernel
theorem dX10_downs_206 : decode cX10_downs 206 = .ok (.istore_n 1, 1) := by decide +kernel
theorem dX10_downs_207 : decode cX10_downs 207 = .ok (.iload_n 1, 1) := by decide +kernel
theorem dX10_downs_208 : decode cX10_downs 208 = .ok (.bipush 6, 2) := by decide +kernel
theorem dX10_downs_210 : decode cX10_downs 210 = .ok (.if_icmp .ge 55, 3) := by decide +kernel
theorem dX10_downs_213 : decode cX10_downs 213 = .ok (.aload_n 0, 1) := by decide +kernel
theorem dX10_downs_214 : decode cX10_downs 214 = .ok (.getfield 41, 3) := by decide +kernel
theorem dX10_downs_217 : decode cX10_downs 217 = .ok (.iload_n 1, 1) := by decide +kernel
theorem dX10_downs_218 : decode cX10_downs 218 = .ok (.aload_n 0, 1) := by decide +kernel
theorem dX10_downs_219 : decode cX10_downs 219 = .ok (.getfield 41, 3) := by decide +kernel
theorem dX10_downs_222 : decode cX10_downs 222 = .ok (.bipush 6, 2) := by decide +kernel
theorem dX10_downs_224 : decode cX10_downs 224 = .ok (.iload_n 1, 1) := by decide +kernel
theorem dX10_downs_225 : decode cX10_downs 225 = .ok (.iadd, 1) := by decide +kernel
theorem dX10_downs_226 : decode cX10_downs 226 = .ok (.iaload, 1) := by decide +kernel
theorem dX10_downs_227 : decode cX10_downs 227 = .ok (.iastore, 1) := by decide +kernel
theorem dX10_downs_228 : decode cX10_downs 228 = .ok (.aload_n 0, 1) := by decide +kernel
theorem dX10_downs_229 : decode cX10_downs 229 = .ok (.getfield 50, 3) := by decide +kernel
theorem dX10_downs_232 : decode cX10_downs 232 = .ok (.iconst 0, 1) := by decide +kernel
theorem dX10_downs_233 : decode cX10_downs 233 = .ok (.iload_n 1, 1) := by decide +kernel
theorem dX10_downs_234 : decode cX10_downs 234 = .ok (.iadd, 1) := by decide +kernel
theorem dX10_downs_235 : decode cX10_downs 235 = .ok (.iload_n 1, 1) := by decide +kernel
theorem dX10_downs_236 : decode cX10_downs 236 = .ok (.aload_n 0, 1) := by decide +kernel
theorem dX10_downs_237 : decode cX10_downs 237 = .ok (.getfield 38, 3) := by decide +kernel
theorem dX10_downs_240 : decode cX10_downs 240 = .ok (.iconst 0, 1) := by decide +kernel
theorem dX10_downs_241 : decode cX10_downs 241 = .ok (.iaload, 1) := by decide +kernel
theorem dX10_downs_242 : decode cX10_downs 242 = .ok (.if_icmp .ge 15, 3) := by decide +kernel
theorem dX10_downs_245 : decode cX10_downs 245 = .ok (.aload_n 0, 1) := by decide +kernel
theorem dX10_downs_246 : decode cX10_downs 246 = .ok (.getfield 44, 3) := by decide +kernel
theorem dX10_downs_249 : decode cX10_downs 249 = .ok (.bipush 6, 2) := by decide +kernel
theorem dX10_downs_251 : decode cX10_downs 251 = .ok (.iload_n 1, 1) := by decide +kernel
theorem dX10_downs_252 : decode cX10_downs 252 = .ok (.iadd, 1) := by decide +kernel
theorem dX10_downs_253 : decode cX10_downs 253 = .ok (.iaload, 1) := by decide +kernel
theorem dX10_downs_254 : decode cX10_downs 254 = .ok (.goto 4, 3) := by decide +kernel
theorem dX10_downs_257 : decode cX10_downs 257 = .ok (.iconst 0, 1) := by decide +kernel
theorem dX10_downs_258 : decode cX10_downs 258 = .ok (.iastore, 1) := by decide +kernel
theorem dX10_downs_259 : decode cX10_downs 259 = .ok (.iinc 1 1, 3) := by decide +kernel
theorem dX10_downs_262 : decode cX10_downs 262 = .ok (.goto (-55), 3) := by decide +kernel
theorem dX10_downs_265 : decode cX10_downs 265 = .ok (.aload_n 0, 1) := by decide +kernel
theorem dX10_downs_266 : decode cX10_downs 266 = .ok (.getfield 50, 3) := by decide +kernel
theorem dX10_downs_269 : decode cX10_downs 269 = .ok (.bipush 16, 2) := by decide +kernel
theorem dX10_downs_271 : decode cX10_downs 271 = .ok (.aload_n 0, 1) := by decide +kernel
theorem dX10_downs_272 : decode cX10_downs 272 = .ok (.getfield 47, 3) := by decide +kernel
theorem dX10_downs_275 : decode cX10_downs 275 = .ok (.iconst 1, 1) := by decide +kernel
theorem dX10_downs_276 : decode cX10_downs 276 = .ok (.iaload, 1) := by decide +kernel
theorem dX10_downs_277 : decode cX10_downs 277 = .ok (.iastore, 1) := by decide +kernel
theorem dX10_downs_278 : decode cX10_downs 278 = .ok (.aload_n 0, 1) := by decide +kernel
theorem dX10_downs_279 : decode cX10_downs 279 = .ok (.getfield 53, 3) := by decide +kernel
theorem dX10_downs_282 : decode cX10_downs 282 = .ok (.iconst 0, 1) := by decide +kernel
theorem dX10_downs_283 : decode cX10_downs 283 = .ok (.iconst 0, 1) := by decide +kernel
theorem dX10_downs_284 : decode cX10_downs 284 = .ok (.iastore, 1) := by decide +kernel
theorem dX10_downs_285 : decode cX10_downs 285 = .ok (.aload_n 0, 1) := by decide +kernel
theorem dX10_downs_286 : decode cX10_downs 286 = .ok (.getfield 62, 3) := by decide +kernel
theorem dX10_downs_289 : decode cX10_downs 289 = .ok (.iconst 0, 1) := by decide +kernel
theorem dX10_downs_290 : decode cX10_downs 290 = .ok (.iconst 0, 1) := by decide +kernel
theorem dX10_downs_291 : decode cX10_downs 291 = .ok (.bastore, 1) := by decide +kernel
theorem dX10_downs_292 : decode cX10_downs 292 = .ok (.aload_n 0, 1) := by decide +kernel
theorem dX10_downs_293 : decode cX10_downs 293 = .ok (.getfield 62, 3) := by decide +kernel
theorem dX10_downs_296 : decode cX10_downs 296 = .ok (.iconst 1, 1) := by decide +kernel
theorem dX10_downs_297 : decode cX10_downs 297 = .ok (.iconst 0, 1) := by decide +kernel
theorem dX10_downs_298 : decode cX10_downs 298 = .ok (.bastore, 1) := by decide +kernel
theorem dX10_downs_299 : decode cX10_downs 299 = .ok (.aload_n 0, 1) := by decide +kernel
theorem dX10_downs_300 : decode cX10_downs 300 = .ok (.iconst 0, 1) := by decide +kernel
theorem dX10_downs_301 : decode cX10_downs 301 = .ok (.putfield 134, 3) := by decide +kernel
theorem dX10_downs_304 : decode cX10_downs 304 = .ok (.aload_n 0, 1) := by decide +kernel
theorem dX10_downs_305 : decode cX10_downs 305 = .ok (.iconst 0, 1) := by decide +kernel
theorem dX10_downs_306 : decode cX10_downs 306 = .ok (.putfield 85, 3) := by decide +kernel
theorem dX10_downs_309 : decode cX10_downs 309 = .ok (.aload_n 0, 1) := by decide +kernel
theorem dX10_downs_310 : decode cX10_downs 310 = .ok (.getfield 120, 3) := by decide +kernel
theorem dX10_downs_313 : decode cX10_downs 313 = .ok (.ireturn, 1) := by decide +kernel
theorem dX10_isField_0 : decode cX10_isField 0 = .ok (.iload_n 1, 1) := by decide +kernel
theorem dX10_isField_1 : decode cX10_isField 1 = .ok (.iconst 0, 1) := by decide +kernel
theorem dX10_isField_2 : decode cX10_isField 2 = .ok (.aload_n 0, 1) := by decide +kernel
theorem dX10_isField_3 : decode cX10_isField 3 = .ok (.getfield 13, 3) := by decide +kernel
theorem dX10_isField_6 : decode cX10_isField 6 = .ok (.iconst 0, 1) := by decide +kernel
theorem dX10_isField_7 : decode cX10_isField 7 = .ok (.iaload, 1) := by decide +kernel
theorem dX10_isField_8 : decode cX10_isField 8 = .ok (.iconst 1, 1) := by decide +kernel
theorem dX10_isField_9 : decode cX10_isField 9 = .ok (.isub, 1) := by decide +kernel
theorem dX10_isField_10 : decode cX10_isField 10 = .ok (.invokestatic 81, 3) := by decide +kernel
theorem dX10_isField_13 : decode cX10_isField 13 = .ok (.ireturn, 1) := by decide +kernel
theorem dX10_isFence_0 : decode cX10_isFence 0 = .ok (.iload_n 1, 1) := by decide +kernel
theorem dX10_isFence_1 : decode cX10_isFence 1 = .ok (.iconst 0, 1) := by decide +kernel
theorem dX10_isFence_2 : decode cX10_isFence 2 = .ok (.aload_n 0, 1) := by decide +kernel
theorem dX10_isFence_3 : decode cX10_isFence 3 = .ok (.getfield 17, 3) := by decide +kernel
theorem dX10_isFence_6 : decode cX10_isFence 6 = .ok (.iconst 0, 1) := by decide +kernel
theorem dX10_isFence_7 : decode cX10_isFence 7 = .ok (.iaload, 1) := by decide +kernel
theorem dX10_isFence_8 : decode cX10_isFence 8 = .ok (.iconst 1, 1) := by decide +kernel
theorem dX10_isFence_9 : decode cX10_isFence 9 = .ok (.isub, 1) := by decide +kernel
theorem dX10_isFence_10 : decode cX10_isFence 10 = .ok (.invokestatic 81, 3) := by decide +kernel
theorem dX10_isFence_13 : decode cX10_isFence 13 = .ok (.ireturn, 1) := by decide +kernel
theorem dX10_isKind_0 : decode cX10_isKind 0 = .ok (.iload_n 1, 1) := by decide +kernel
theorem dX10_isKind_1 : decode cX10_isKind 1 = .ok (.iconst 0, 1) := by decide +kernel
theorem dX10_isKind_2 : decode cX10_isKind 2 = .ok (.aload_n 0, 1) := by decide +kernel
theorem dX10_isKind_3 : decode cX10_isKind 3 = .ok (.getfield 29, 3) := by decide +kernel
theorem dX10_isKind_6 : decode cX10_isKind 6 = .ok (.iconst 0, 1) := by decide +kernel
theorem dX10_isKind_7 : decode cX10_isKind 7 = .ok (.iaload, 1) := by decide +kernel
theorem dX10_isKind_8 : decode cX10_isKind 8 = .ok (.iconst 1, 1) := by decide +kernel
theorem dX10_isKind_9 : decode cX10_isKind 9 = .ok (.isub, 1) := by decide +kernel
theorem dX10_isKind_10 : decode cX10_isKind 10 = .ok (.invokestatic 81, 3) := by decide +kernel
theorem dX10_isKind_13 : decode cX10_isKind 13 = .ok (.ireturn, 1) := by decide +kernel
theorem dX10_isBeast_0 : decode cX10_isBeast 0 = .ok (.iload_n 1, 1) := by decide +kernel
theorem dX10_isBeast_1 : decode cX10_isBeast 1 = .ok (.iconst 0, 1) := by decide +kernel
theorem dX10_isBeast_2 : decode cX10_isBeast 2 = .ok (.aload_n 0, 1) := by decide +kernel
theorem dX10_isBeast_3 : decode cX10_isBeast 3 = .ok (.getfield 38, 3) := by decide +kernel
theorem dX10_isBeast_6 : decode cX10_isBeast 6 = .ok (.iconst 0, 1) := by decide +kernel
theorem dX10_isBeast_7 : decode cX10_isBeast 7 = .ok (.iaload, 1) := by decide +kernel
theorem dX10_isBeast_8 : decode cX10_isBeast 8 = .ok (.iconst 1, 1) := by decide +kernel
theorem dX10_isBeast_9 : decode cX10_isBeast 9 = .ok (.isub, 1) := by decide +kernel
theorem dX10_isBeast_10 : decode cX10_isBeast 10 = .ok (.invokestatic 81, 3) := by decide +kernel
theorem dX10_isBeast_13 : decode cX10_isBeast 13 = .ok (.ireturn, 1) := by decide +kernel
theorem dX10_soundOf_0 : decode cX10_soundOf 0 = .ok (.aload_n 0, 1) := by decide +kernel
theorem dX10_soundOf_1 : decode cX10_soundOf 1 = .ok (.getfield 50, 3) := by decide +kernel
theorem dX10_soundOf_4 : decode cX10_soundOf 4 = .ok (.bipush 6, 2) := by decide +kernel
theorem dX10_soundOf_6 : decode cX10_soundOf 6 = .ok (.iload_n 2, 1) := by decide +kernel
theorem dX10_soundOf_7 : decode cX10_soundOf 7 = .ok (.iadd, 1) := by decide +kernel
theorem dX10_soundOf_8 : decode cX10_soundOf 8 = .ok (.iaload, 1) := by decide +kernel
theorem dX10_soundOf_9 : decode cX10_soundOf 9 = .ok (.ifCond .eq 31, 3) := by decide +kernel
theorem dX10_soundOf_12 : decode cX10_soundOf 12 = .ok (.aload_n 0, 1) := by decide +kernel
theorem dX10_soundOf_13 : decode cX10_soundOf 13 = .ok (.getfield 50, 3) := by decide +kernel
theorem dX10_soundOf_16 : decode cX10_soundOf 16 = .ok (.bipush 14, 2) := by decide +kernel
theorem dX10_soundOf_18 : decode cX10_soundOf 18 = .ok (.iaload, 1) := by decide +kernel
theorem dX10_soundOf_19 : decode cX10_soundOf 19 = .ok (.iload_n 2, 1) := by decide +kernel
theorem dX10_soundOf_20 : decode cX10_soundOf 20 = .ok (.invokestatic 137, 3) := by decide +kernel
theorem dX10_soundOf_23 : decode cX10_soundOf 23 = .ok (.ifCond .ne 17, 3) := by decide +kernel
theorem dX10_soundOf_26 : decode cX10_soundOf 26 = .ok (.aload_n 0, 1) := by decide +kernel
theorem dX10_soundOf_27 : decode cX10_soundOf 27 = .ok (.getfield 50, 3) := by decide +kernel
theorem dX10_soundOf_30 : decode cX10_soundOf 30 = .ok (.bipush 15, 2) := by decide +kernel
theorem dX10_soundOf_32 : decode cX10_soundOf 32 = .ok (.iaload, 1) := by decide +kernel
theorem dX10_soundOf_33 : decode cX10_soundOf 33 = .ok (.iload_n 2, 1) := by decide +kernel
theorem dX10_soundOf_34 : decode cX10_soundOf 34 = .ok (.invokestatic 137, 3) := by decide +kernel
theorem dX10_soundOf_37 : decode cX10_soundOf 37 = .ok (.ifCond .eq 5, 3) := by decide +kernel
theorem dX10_soundOf_40 : decode cX10_soundOf 40 = .ok (.iconst 0, 1) := by decide +kernel
theorem dX10_soundOf_41 : decode cX10_soundOf 41 = .ok (.ireturn, 1) := by decide +kernel
theorem dX10_soundOf_42 : decode cX10_soundOf 42 = .ok (.aload_n 0, 1) := by decide +kernel
theorem dX10_soundOf_43 : decode cX10_soundOf 43 = .ok (.getfield 50, 3) := by decide +kernel
theorem dX10_soundOf_46 : decode cX10_soundOf 46 = .ok (.bipush 6, 2) := by decide +kernel
theorem dX10_soundOf_48 : decode cX10_soundOf 48 = .ok (.iload_n 2, 1) := by decide +kernel
theorem dX10_soundOf_49 : decode cX10_soundOf 49 = .ok (.iadd, 1) := by decide +kernel
theorem dX10_soundOf_50 : decode cX10_soundOf 50 = .ok (.iaload, 1) := by decide +kernel
theorem dX10_soundOf_51 : decode cX10_soundOf 51 = .ok (.aload_n 0, 1) := by decide +kernel
theorem dX10_soundOf_52 : decode cX10_soundOf 52 = .ok (.getfield 32, 3) := by decide +kernel
theorem dX10_soundOf_55 : decode cX10_soundOf 55 = .ok (.iload_n 1, 1) := by decide +kernel
theorem dX10_soundOf_56 : decode cX10_soundOf 56 = .ok (.iaload, 1) := by decide +kernel
theorem dX10_soundOf_57 : decode cX10_soundOf 57 = .ok (.iadd, 1) := by decide +kernel
theorem dX10_soundOf_58 : decode cX10_soundOf 58 = .ok (.aload_n 0, 1) := by decide +kernel
theorem dX10_soundOf_59 : decode cX10_soundOf 59 = .ok (.getfield 50, 3) := by decide +kernel
theorem dX10_soundOf_62 : decode cX10_soundOf 62 = .ok (.bipush 16, 2) := by decide +kernel
theorem dX10_soundOf_64 : decode cX10_soundOf 64 = .ok (.iaload, 1) := by decide +kernel
theorem dX10_soundOf_65 : decode cX10_soundOf 65 = .ok (.isub, 1) := by decide +kernel
theorem dX10_soundOf_66 : decode cX10_soundOf 66 = .ok (.istore_n 3, 1) := by decide +kernel
theorem dX10_soundOf_67 : decode cX10_soundOf 67 = .ok (.iload_n 3, 1) := by decide +kernel
theorem dX10_soundOf_68 : decode cX10_soundOf 68 = .ok (.ifCond .ge 7, 3) := by decide +kernel
theorem dX10_soundOf_71 : decode cX10_soundOf 71 = .ok (.iconst 0, 1) := by decide +kernel
theorem dX10_soundOf_72 : decode cX10_soundOf 72 = .ok (.goto 4, 3) := by decide +kernel
theorem dX10_soundOf_75 : decode cX10_soundOf 75 = .ok (.iload_n 3, 1) := by decide +kernel
theorem dX10_soundOf_76 : decode cX10_soundOf 76 = .ok (.ireturn, 1) := by decide +kernel
theorem dX10_isAt_0 : decode cX10_isAt 0 = .ok (.aload_n 0, 1) := by decide +kernel
theorem dX10_isAt_1 : decode cX10_isAt 1 = .ok (.getfield 20, 3) := by decide +kernel
theorem dX10_isAt_4 : decode cX10_isAt 4 = .ok (.iload_n 1, 1) := by decide +kernel
theorem dX10_isAt_5 : decode cX10_isAt 5 = .ok (.iaload, 1) := by decide +kernel
theorem dX10_isAt_6 : decode cX10_isAt 6 = .ok (.iload_n 2, 1) := by decide +kernel
theorem dX10_isAt_7 : decode cX10_isAt 7 = .ok (.if_icmp .eq 13, 3) := by decide +kernel
theorem dX10_isAt_10 : decode cX10_isAt 10 = .ok (.aload_n 0, 1) := by decide +kernel
theorem dX10_isAt_11 : decode cX10_isAt 11 = .ok (.getfield 23, 3) := by decide +kernel
theorem dX10_isAt_14 : decode cX10_isAt 14 = .ok (.iload_n 1, 1) := by decide +kernel
theorem dX10_isAt_15 : decode cX10_isAt 15 = .ok (.iaload, 1) := by decide +kernel
theorem dX10_isAt_16 : decode cX10_isAt 16 = .ok (.iload_n 2, 1) := by decide +kernel
theorem dX10_isAt_17 : decode cX10_isAt 17 = .ok (.if_icmp .ne 7, 3) := by decide +kernel
theorem dX10_isAt_20 : decode cX10_isAt 20 = .ok (.iconst 1, 1) := by decide +kernel
theorem dX10_isAt_21 : decode cX10_isAt 21 = .ok (.goto 4, 3) := by decide +kernel
theorem dX10_isAt_24 : decode cX10_isAt 24 = .ok (.iconst 0, 1) := by decide +kernel
theorem dX10_isAt_25 : decode cX10_isAt 25 = .ok (.ireturn, 1) := by decide +kernel
theorem dX10_across_0 : decode cX10_across 0 = .ok (.aload_n 0, 1) := by decide +kernel
theorem dX10_across_1 : decode cX10_across 1 = .ok (.getfield 20, 3) := by decide +kernel
theorem dX10_across_4 : decode cX10_across 4 = .ok (.iload_n 1, 1) := by decide +kernel
theorem dX10_across_5 : decode cX10_across 5 = .ok (.iaload, 1) := by decide +kernel
theorem dX10_across_6 : decode cX10_across 6 = .ok (.iload_n 2, 1) := by decide +kernel
theorem dX10_across_7 : decode cX10_across 7 = .ok (.if_icmp .ne 12, 3) := by decide +kernel
theorem dX10_across_10 : decode cX10_across 10 = .ok (.aload_n 0, 1) := by decide +kernel
theorem dX10_across_11 : decode cX10_across 11 = .ok (.getfield 23, 3) := by decide +kernel
theorem dX10_across_14 : decode cX10_across 14 = .ok (.iload_n 1, 1) := by decide +kernel
theorem dX10_across_15 : decode cX10_across 15 = .ok (.iaload, 1) := by decide +kernel
theorem dX10_across_16 : decode cX10_across 16 = .ok (.goto 9, 3) := by decide +kernel
theorem dX10_across_19 : decode cX10_across 19 = .ok (.aload_n 0, 1) := by decide +kernel
theorem dX10_across_20 : decode cX10_across 20 = .ok (.getfield 20, 3) := by decide +kernel
theorem dX10_across_23 : decode cX10_across 23 = .ok (.iload_n 1, 1) := by decide +kernel
theorem dX10_across_24 : decode cX10_across 24 = .ok (.iaload, 1) := by decide +kernel
theorem dX10_across_25 : decode cX10_across 25 = .ok (.ireturn, 1) := by decide +kernel
theorem dX10_isString_0 : decode cX10_isString 0 = .ok (.aload_n 0, 1) := by decide +kernel
theorem dX10_isString_1 : decode cX10_isString 1 = .ok (.getfield 50, 3) := by decide +kernel
theorem dX10_isString_4 : decode cX10_isString 4 = .ok (.bipush 6, 2) := by decide +kernel
theorem dX10_isString_6 : decode cX10_isString 6 = .ok (.iload_n 1, 1) := by decide +kernel
theorem dX10_isString_7 : decode cX10_isString 7 = .ok (.iadd, 1) := by decide +kernel
theorem dX10_isString_8 : decode cX10_isString 8 = .ok (.iaload, 1) := by decide +kernel
theorem dX10_isString_9 : decode cX10_isString 9 = .ok (.ifCond .eq 21, 3) := by decide +kernel
theorem dX10_isString_12 : decode cX10_isString 12 = .ok (.aload_n 0, 1) := by decide +kernel
theorem dX10_isString_13 : decode cX10_isString 13 = .ok (.getfield 50, 3) := by decide +kernel
theorem dX10_isString_16 : decode cX10_isString 16 = .ok (.bipush 14, 2) := by decide +kernel
theorem dX10_isString_18 : decode cX10_isString 18 = .ok (.iaload, 1) := by decide +kernel
theorem dX10_isString_19 : decode cX10_isString 19 = .ok (.iload_n 1, 1) := by decide +kernel
theorem dX10_isString_20 : decode cX10_isString 20 = .ok (.invokestatic 137, 3) := by decide +kernel
theorem dX10_isString_23 : decode cX10_isString 23 = .ok (.ifCond .ne 7, 3) := by decide +kernel
theorem dX10_isString_26 : decode cX10_isString 26 = .ok (.iconst 1, 1) := by decide +kernel
theorem dX10_isString_27 : decode cX10_isString 27 = .ok (.goto 4, 3) := by decide +kernel
theorem dX10_isString_30 : decode cX10_isString 30 = .ok (.iconst 0, 1) := by decide +kernel
theorem dX10_isString_31 : decode cX10_isString 31 = .ok (.ireturn, 1) := by decide +kernel
theorem dX10_bitsOf_0 : decode cX10_bitsOf 0 = .ok (.iconst 0, 1) := by decide +kernel
theorem dX10_bitsOf_1 : decode cX10_bitsOf 1 = .ok (.istore_n 1, 1) := by decide +kernel
theorem dX10_bitsOf_2 : decode cX10_bitsOf 2 = .ok (.iconst 0, 1) := by decide +kernel
theorem dX10_bitsOf_3 : decode cX10_bitsOf 3 = .ok (.istore_n 2, 1) := by decide +kernel
theorem dX10_bitsOf_4 : decode cX10_bitsOf 4 = .ok (.iload_n 2, 1) := by decide +kernel
theorem dX10_bitsOf_5 : decode cX10_bitsOf 5 = .ok (.bipush 8, 2) := by decide +kernel
theorem dX10_bitsOf_7 : decode cX10_bitsOf 7 = .ok (.if_icmp .ge 17, 3) := by decide +kernel
theorem dX10_bitsOf_10 : decode cX10_bitsOf 10 = .ok (.iload_n 1, 1) := by decide +kernel
theorem dX10_bitsOf_11 : decode cX10_bitsOf 11 = .ok (.iload_n 0, 1) := by decide +kernel
theorem dX10_bitsOf_12 : decode cX10_bitsOf 12 = .ok (.iload_n 2, 1) := by decide +kernel
theorem dX10_bitsOf_13 : decode cX10_bitsOf 13 = .ok (.ishr, 1) := by decide +kernel
theorem dX10_bitsOf_14 : decode cX10_bitsOf 14 = .ok (.iconst 1, 1) := by decide +kernel
theorem dX10_bitsOf_15 : decode cX10_bitsOf 15 = .ok (.iand, 1) := by decide +kernel
theorem dX10_bitsOf_16 : decode cX10_bitsOf 16 = .ok (.iadd, 1) := by decide +kernel
theorem dX10_bitsOf_17 : decode cX10_bitsOf 17 = .ok (.istore_n 1, 1) := by decide +kernel
theorem dX10_bitsOf_18 : decode cX10_bitsOf 18 = .ok (.iinc 2 1, 3) := by decide +kernel
theorem dX10_bitsOf_21 : decode cX10_bitsOf 21 = .ok (.goto (-17), 3) := by decide +kernel
theorem dX10_bitsOf_24 : decode cX10_bitsOf 24 = .ok (.iload_n 1, 1) := by decide +kernel
theorem dX10_bitsOf_25 : decode cX10_bitsOf 25 = .ok (.ireturn, 1) := by decide +kernel
theorem dX10_allOf_0 : decode cX10_allOf 0 = .ok (.iconst 1, 1) := by decide +kernel
theorem dX10_allOf_1 : decode cX10_allOf 1 = .ok (.iload_n 0, 1) := by decide +kernel
theorem dX10_allOf_2 : decode cX10_allOf 2 = .ok (.ishl, 1) := by decide +kernel
theorem dX10_allOf_3 : decode cX10_allOf 3 = .ok (.iconst 1, 1) := by decide +kernel
theorem dX10_allOf_4 : decode cX10_allOf 4 = .ok (.isub, 1) := by decide +kernel
theorem dX10_allOf_5 : decode cX10_allOf 5 = .ok (.ireturn, 1) := by decide +kernel
theorem dX10_fence_0 : decode cX10_fence 0 = .ok (.aload_n 0, 1) := by decide +kernel
theorem dX10_fence_1 : decode cX10_fence 1 = .ok (.iload_n 1, 1) := by decide +kernel
theorem dX10_fence_2 : decode cX10_fence 2 = .ok (.invokevirtual 141, 3) := by decide +kernel
theorem dX10_fence_5 : decode cX10_fence 5 = .ok (.ifCond .ne 5, 3) := by decide +kernel
theorem dX10_fence_8 : decode cX10_fence 8 = .ok (.iconst (-1), 1) := by decide +kernel
theorem dX10_fence_9 : decode cX10_fence 9 = .ok (.ireturn, 1) := by decide +kernel
theorem dX10_fence_10 : decode cX10_fence 10 = .ok (.iload_n 2, 1) := by decide +kernel
theorem dX10_fence_11 : decode cX10_fence 11 = .ok (.tableswitch 97 0 4 #[33, 40, 47, 57, 77], 33) := by decide +kernel
theorem dX10_fence_44 : decode cX10_fence 44 = .ok (.aload_n 0, 1) := by decide +kernel
theorem dX10_fence_45 : decode cX10_fence 45 = .ok (.getfield 20, 3) := by decide +kernel
theorem dX10_fence_48 : decode cX10_fence 48 = .ok (.iload_n 1, 1) := by decide +kernel
theorem dX10_fence_49 : decode cX10_fence 49 = .ok (.iaload, 1) := by decide +kernel
theorem dX10_fence_50 : decode cX10_fence 50 = .ok (.ireturn, 1) := by decide +kernel
theorem dX10_fence_51 : decode cX10_fence 51 = .ok (.aload_n 0, 1) := by decide +kernel
theorem dX10_fence_52 : decode cX10_fence 52 = .ok (.getfield 23, 3) := by decide +kernel
theorem dX10_fence_55 : decode cX10_fence 55 = .ok (.iload_n 1, 1) := by decide +kernel
theorem dX10_fence_56 : decode cX10_fence 56 = .ok (.iaload, 1) := by decide +kernel
theorem dX10_fence_57 : decode cX10_fence 57 = .ok (.ireturn, 1) := by decide +kernel
theorem dX10_fence_58 : decode cX10_fence 58 = .ok (.aload_n 0, 1) := by decide +kernel
theorem dX10_fence_59 : decode cX10_fence 59 = .ok (.getfield 50, 3) := by decide +kernel
theorem dX10_fence_62 : decode cX10_fence 62 = .ok (.bipush 6, 2) := by decide +kernel
theorem dX10_fence_64 : decode cX10_fence 64 = .ok (.iload_n 1, 1) := by decide +kernel
theorem dX10_fence_65 : decode cX10_fence 65 = .ok (.iadd, 1) := by decide +kernel
theorem dX10_fence_66 : decode cX10_fence 66 = .ok (.iaload, 1) := by decide +kernel
theorem dX10_fence_67 : decode cX10_fence 67 = .ok (.ireturn, 1) := by decide +kernel
theorem dX10_fence_68 : decode cX10_fence 68 = .ok (.aload_n 0, 1) := by decide +kernel
theorem dX10_fence_69 : decode cX10_fence 69 = .ok (.getfield 50, 3) := by decide +kernel
theorem dX10_fence_72 : decode cX10_fence 72 = .ok (.bipush 14, 2) := by decide +kernel
theorem dX10_fence_74 : decode cX10_fence 74 = .ok (.iaload, 1) := by decide +kernel
theorem dX10_fence_75 : decode cX10_fence 75 = .ok (.iload_n 1, 1) := by decide +kernel
theorem dX10_fence_76 : decode cX10_fence 76 = .ok (.invokestatic 137, 3) := by decide +kernel
theorem dX10_fence_79 : decode cX10_fence 79 = .ok (.ifCond .eq 7, 3) := by decide +kernel
theorem dX10_fence_82 : decode cX10_fence 82 = .ok (.iconst 1, 1) := by decide +kernel
theorem dX10_fence_83 : decode cX10_fence 83 = .ok (.goto 4, 3) := by decide +kernel
theorem dX10_fence_86 : decode cX10_fence 86 = .ok (.iconst 0, 1) := by decide +kernel
theorem dX10_fence_87 : decode cX10_fence 87 = .ok (.ireturn, 1) := by decide +kernel
theorem dX10_fence_88 : decode cX10_fence 88 = .ok (.aload_n 0, 1) := by decide +kernel
theorem dX10_fence_89 : decode cX10_fence 89 = .ok (.getfield 50, 3) := by decide +kernel
theorem dX10_fence_92 : decode cX10_fence 92 = .ok (.bipush 15, 2) := by decide +kernel
theorem dX10_fence_94 : decode cX10_fence 94 = .ok (.iaload, 1) := by decide +kernel
theorem dX10_fence_95 : decode cX10_fence 95 = .ok (.iload_n 1, 1) := by decide +kernel
theorem dX10_fence_96 : decode cX10_fence 96 = .ok (.invokestatic 137, 3) := by decide +kernel
theorem dX10_fence_99 : decode cX10_fence 99 = .ok (.ifCond .eq 7, 3) := by decide +kernel
theorem dX10_fence_102 : decode cX10_fence 102 = .ok (.iconst 1, 1) := by decide +kernel
theorem dX10_fence_103 : decode cX10_fence 103 = .ok (.goto 4, 3) := by decide +kernel
theorem dX10_fence_106 : decode cX10_fence 106 = .ok (.iconst 0, 1) := by decide +kernel
theorem dX10_fence_107 : decode cX10_fence 107 = .ok (.ireturn, 1) := by decide +kernel
theorem dX10_fence_108 : decode cX10_fence 108 = .ok (.iconst (-1), 1) := by decide +kernel
theorem dX10_fence_109 : decode cX10_fence 109 = .ok (.ireturn, 1) := by decide +kernel
theorem dX10_kind_0 : decode cX10_kind 0 = .ok (.aload_n 0, 1) := by decide +kernel
theorem dX10_kind_1 : decode cX10_kind 1 = .ok (.iload_n 1, 1) := by decide +kernel
theorem dX10_kind_2 : decode cX10_kind 2 = .ok (.invokevirtual 145, 3) := by decide +kernel
theorem dX10_kind_5 : decode cX10_kind 5 = .ok (.ifCond .eq 12, 3) := by decide +kernel
theorem dX10_kind_8 : decode cX10_kind 8 = .ok (.iload_n 2, 1) := by decide +kernel
theorem dX10_kind_9 : decode cX10_kind 9 = .ok (.iconst 0, 1) := by decide +kernel
theorem dX10_kind_10 : decode cX10_kind 10 = .ok (.iconst 1, 1) := by decide +kernel
theorem dX10_kind_11 : decode cX10_kind 11 = .ok (.invokestatic 81, 3) := by decide +kernel
theorem dX10_kind_14 : decode cX10_kind 14 = .ok (.ifCond .ne 6, 3) := by decide +kernel
theorem dX10_kind_17 : decode cX10_kind 17 = .ok (.ldc 148, 2) := by decide +kernel
theorem dX10_kind_19 : decode cX10_kind 19 = .ok (.ireturn, 1) := by decide +kernel
theorem dX10_kind_20 : decode cX10_kind 20 = .ok (.iload_n 2, 1) := by decide +kernel
theorem dX10_kind_21 : decode cX10_kind 21 = .ok (.ifCond .ne 12, 3) := by decide +kernel
theorem dX10_kind_24 : decode cX10_kind 24 = .ok (.aload_n 0, 1) := by decide +kernel
theorem dX10_kind_25 : decode cX10_kind 25 = .ok (.getfield 32, 3) := by decide +kernel
theorem dX10_kind_28 : decode cX10_kind 28 = .ok (.iload_n 1, 1) := by decide +kernel
theorem dX10_kind_29 : decode cX10_kind 29 = .ok (.iaload, 1) := by decide +kernel
theorem dX10_kind_30 : decode cX10_kind 30 = .ok (.goto 9, 3) := by decide +kernel
theorem dX10_kind_33 : decode cX10_kind 33 = .ok (.aload_n 0, 1) := by decide +kernel
theorem dX10_kind_34 : decode cX10_kind 34 = .ok (.getfield 35, 3) := by decide +kernel
theorem dX10_kind_37 : decode cX10_kind 37 = .ok (.iload_n 1, 1) := by decide +kernel
theorem dX10_kind_38 : decode cX10_kind 38 = .ok (.iaload, 1) := by decide +kernel
theorem dX10_kind_39 : decode cX10_kind 39 = .ok (.ireturn, 1) := by decide +kernel
theorem dX10_beast_0 : decode cX10_beast 0 = .ok (.aload_n 0, 1) := by decide +kernel
theorem dX10_beast_1 : decode cX10_beast 1 = .ok (.iload_n 1, 1) := by decide +kernel
theorem dX10_beast_2 : decode cX10_beast 2 = .ok (.invokevirtual 149, 3) := by decide +kernel
theorem dX10_beast_5 : decode cX10_beast 5 = .ok (.ifCond .eq 12, 3) := by decide +kernel
theorem dX10_beast_8 : decode cX10_beast 8 = .ok (.iload_n 2, 1) := by decide +kernel
theorem dX10_beast_9 : decode cX10_beast 9 = .ok (.iconst 0, 1) := by decide +kernel
theorem dX10_beast_10 : decode cX10_beast 10 = .ok (.iconst 1, 1) := by decide +kernel
theorem dX10_beast_11 : decode cX10_beast 11 = .ok (.invokestatic 81, 3) := by decide +kernel
theorem dX10_beast_14 : decode cX10_beast 14 = .ok (.ifCond .ne 5, 3) := by decide +kernel
theorem dX10_beast_17 : decode cX10_beast 17 = .ok (.iconst (-1), 1) := by decide +kernel
theorem dX10_beast_18 : decode cX10_beast 18 = .ok (.ireturn, 1) := by decide +kernel
theorem dX10_beast_19 : decode cX10_beast 19 = .ok (.iload_n 2, 1) := by decide +kernel
theorem dX10_beast_20 : decode cX10_beast 20 = .ok (.ifCond .ne 12, 3) := by decide +kernel
theorem dX10_beast_23 : decode cX10_beast 23 = .ok (.aload_n 0, 1) := by decide +kernel
theorem dX10_beast_24 : decode cX10_beast 24 = .ok (.getfield 41, 3) := by decide +kernel
theorem dX10_beast_27 : decode cX10_beast 27 = .ok (.iload_n 1, 1) := by decide +kernel
theorem dX10_beast_28 : decode cX10_beast 28 = .ok (.iaload, 1) := by decide +kernel
theorem dX10_beast_29 : decode cX10_beast 29 = .ok (.goto 11, 3) := by decide +kernel
theorem dX10_beast_32 : decode cX10_beast 32 = .ok (.aload_n 0, 1) := by decide +kernel
theorem dX10_beast_33 : decode cX10_beast 33 = .ok (.getfield 50, 3) := by decide +kernel
theorem dX10_beast_36 : decode cX10_beast 36 = .ok (.iconst 0, 1) := by decide +kernel
theorem dX10_beast_37 : decode cX10_beast 37 = .ok (.iload_n 1, 1) := by decide +kernel
theorem dX10_beast_38 : decode cX10_beast 38 = .ok (.iadd, 1) := by decide +kernel
theorem dX10_beast_39 : decode cX10_beast 39 = .ok (.iaload, 1) := by decide +kernel
theorem dX10_beast_40 : decode cX10_beast 40 = .ok (.ireturn, 1) := by decide +kernel
theorem dX10_sound_0 : decode cX10_sound 0 = .ok (.aload_n 0, 1) := by decide +kernel
theorem dX10_sound_1 : decode cX10_sound 1 = .ok (.iload_n 1, 1) := by decide +kernel
theorem dX10_sound_2 : decode cX10_sound 2 = .ok (.invokevirtual 145, 3) := by decide +kernel
theorem dX10_sound_5 : decode cX10_sound 5 = .ok (.ifCond .eq 20, 3) := by decide +kernel
theorem dX10_sound_8 : decode cX10_sound 8 = .ok (.aload_n 0, 1) := by decide +kernel
theorem dX10_sound_9 : decode cX10_sound 9 = .ok (.iload_n 2, 1) := by decide +kernel
theorem dX10_sound_10 : decode cX10_sound 10 = .ok (.invokevirtual 141, 3) := by decide +kernel
theorem dX10_sound_13 : decode cX10_sound 13 = .ok (.ifCond .eq 12, 3) := by decide +kernel
theorem dX10_sound_16 : decode cX10_sound 16 = .ok (.aload_n 0, 1) := by decide +kernel
theorem dX10_sound_17 : decode cX10_sound 17 = .ok (.iload_n 1, 1) := by decide +kernel
theorem dX10_sound_18 : decode cX10_sound 18 = .ok (.iload_n 2, 1) := by decide +kernel
theorem dX10_sound_19 : decode cX10_sound 19 = .ok (.invokevirtual 152, 3) := by decide +kernel
theorem dX10_sound_22 : decode cX10_sound 22 = .ok (.goto 4, 3) := by decide +kernel
theorem dX10_sound_25 : decode cX10_sound 25 = .ok (.iconst (-1), 1) := by decide +kernel
theorem dX10_sound_26 : decode cX10_sound 26 = .ok (.ireturn, 1) := by decide +kernel
theorem dX10_know_0 : decode cX10_know 0 = .ok (.aload_n 0, 1) := by decide +kernel
theorem dX10_know_1 : decode cX10_know 1 = .ok (.getfield 53, 3) := by decide +kernel
theorem dX10_know_4 : decode cX10_know 4 = .ok (.iconst 0, 1) := by decide +kernel
theorem dX10_know_5 : decode cX10_know 5 = .ok (.iaload, 1) := by decide +kernel
theorem dX10_know_6 : decode cX10_know 6 = .ok (.bipush 10, 2) := by decide +kernel
theorem dX10_know_8 : decode cX10_know 8 = .ok (.if_icmp .ne 43, 3) := by decide +kernel
theorem dX10_know_11 : decode cX10_know 11 = .ok (.iconst 0, 1) := by decide +kernel
theorem dX10_know_12 : decode cX10_know 12 = .ok (.istore_n 1, 1) := by decide +kernel
theorem dX10_know_13 : decode cX10_know 13 = .ok (.iload_n 1, 1) := by decide +kernel
theorem dX10_know_14 : decode cX10_know 14 = .ok (.sipush 270, 3) := by decide +kernel
theorem dX10_know_17 : decode cX10_know 17 = .ok (.if_icmp .ge 24, 3) := by decide +kernel
theorem dX10_know_20 : decode cX10_know 20 = .ok (.aload_n 0, 1) := by decide +kernel
theorem dX10_know_21 : decode cX10_know 21 = .ok (.getfield 56, 3) := by decide +kernel
theorem dX10_know_24 : decode cX10_know 24 = .ok (.iload_n 1, 1) := by decide +kernel
theorem dX10_know_25 : decode cX10_know 25 = .ok (.aload_n 0, 1) := by decide +kernel
theorem dX10_know_26 : decode cX10_know 26 = .ok (.getfield 56, 3) := by decide +kernel
theorem dX10_know_29 : decode cX10_know 29 = .ok (.bipush 30, 2) := by decide +kernel
theorem dX10_know_31 : decode cX10_know 31 = .ok (.iload_n 1, 1) := by decide +kernel
theorem dX10_know_32 : decode cX10_know 32 = .ok (.iadd, 1) := by decide +kernel
theorem dX10_know_33 : decode cX10_know 33 = .ok (.iaload, 1) := by decide +kernel
theorem dX10_know_34 : decode cX10_know 34 = .ok (.iastore, 1) := by decide +kernel
theorem dX10_know_35 : decode cX10_know 35 = .ok (.iinc 1 1, 3) := by decide +kernel
theorem dX10_know_38 : decode cX10_know 38 = .ok (.goto (-25), 3) := by decide +kernel
theorem dX10_know_41 : decode cX10_know 41 = .ok (.aload_n 0, 1) := by decide +kernel
theorem dX10_know_42 : decode cX10_know 42 = .ok (.getfield 53, 3) := by decide +kernel
theorem dX10_know_45 : decode cX10_know 45 = .ok (.iconst 0, 1) := by decide +kernel
theorem dX10_know_46 : decode cX10_know 46 = .ok (.dup2, 1) := by decide +kernel
theorem dX10_know_47 : decode cX10_know 47 = .ok (.iaload, 1) := by decide +kernel
theorem dX10_know_48 : decode cX10_know 48 = .ok (.iconst 1, 1) := by decide +kernel
theorem dX10_know_49 : decode cX10_know 49 = .ok (.isub, 1) := by decide +kernel
theorem dX10_know_50 : decode cX10_know 50 = .ok (.iastore, 1) := by decide +kernel
theorem dX10_know_51 : decode cX10_know 51 = .ok (.iconst 0, 1) := by decide +kernel
theorem dX10_know_52 : decode cX10_know 52 = .ok (.istore_n 1, 1) := by decide +kernel
theorem dX10_know_53 : decode cX10_know 53 = .ok (.iload_n 1, 1) := by decide +kernel
theorem dX10_know_54 : decode cX10_know 54 = .ok (.bipush 30, 2) := by decide +kernel
theorem dX10_know_56 : decode cX10_know 56 = .ok (.if_icmp .ge 31, 3) := by decide +kernel
theorem dX10_know_59 : decode cX10_know 59 = .ok (.aload_n 0, 1) := by decide +kernel
theorem dX10_know_60 : decode cX10_know 60 = .ok (.getfield 56, 3) := by decide +kernel
theorem dX10_know_63 : decode cX10_know 63 = .ok (.bipush 30, 2) := by decide +kernel
theorem dX10_know_65 : decode cX10_know 65 = .ok (.aload_n 0, 1) := by decide +kernel
theorem dX10_know_66 : decode cX10_know 66 = .ok (.getfield 53, 3) := by decide +kernel
theorem dX10_know_69 : decode cX10_know 69 = .ok (.iconst 0, 1) := by decide +kernel
theorem dX10_know_70 : decode cX10_know 70 = .ok (.iaload, 1) := by decide +kernel
theorem dX10_know_71 : decode cX10_know 71 = .ok (.imul, 1) := by decide +kernel
theorem dX10_know_72 : decode cX10_know 72 = .ok (.iload_n 1, 1) := by decide +kernel
theorem dX10_know_73 : decode cX10_know 73 = .ok (.iadd, 1) := by decide +kernel
theorem dX10_know_74 : decode cX10_know 74 = .ok (.aload_n 0, 1) := by decide +kernel
theorem dX10_know_75 : decode cX10_know 75 = .ok (.getfield 50, 3) := by decide +kernel
theorem dX10_know_78 : decode cX10_know 78 = .ok (.iload_n 1, 1) := by decide +kernel
theorem dX10_know_79 : decode cX10_know 79 = .ok (.iaload, 1) := by decide +kernel
theorem dX10_know_80 : decode cX10_know 80 = .ok (.iastore, 1) := by decide +kernel
theorem dX10_know_81 : decode cX10_know 81 = .ok (.iinc 1 1, 3) := by decide +kernel
theorem dX10_know_84 : decode cX10_know 84 = .ok (.goto (-31), 3) := by decide +kernel
theorem dX10_know_87 : decode cX10_know 87 = .ok (.aload_n 0, 1) := by decide +kernel
theorem dX10_know_88 : decode cX10_know 88 = .ok (.getfield 53, 3) := by decide +kernel
theorem dX10_know_91 : decode cX10_know 91 = .ok (.iconst 0, 1) := by decide +kernel
theorem dX10_know_92 : decode cX10_know 92 = .ok (.dup2, 1) := by decide +kernel
theorem dX10_know_93 : decode cX10_know 93 = .ok (.iaload, 1) := by decide +kernel
theorem dX10_know_94 : decode cX10_know 94 = .ok (.iconst 1, 1) := by decide +kernel
theorem dX10_know_95 : decode cX10_know 95 = .ok (.iadd, 1) := by decide +kernel
theorem dX10_know_96 : decode cX10_know 96 = .ok (.iastore, 1) := by decide +kernel
theorem dX10_know_97 : decode cX10_know 97 = .ok (.return_, 1) := by decide +kernel
theorem dX10_sing_0 : decode cX10_sing 0 = .ok (.aload_n 0, 1) := by decide +kernel
theorem dX10_sing_1 : decode cX10_sing 1 = .ok (.getfield 50, 3) := by decide +kernel
theorem dX10_sing_4 : decode cX10_sing 4 = .ok (.bipush 17, 2) := by decide +kernel
theorem dX10_sing_6 : decode cX10_sing 6 = .ok (.iaload, 1) := by decide +kernel
theorem dX10_sing_7 : decode cX10_sing 7 = .ok (.bipush 12, 2) := by decide +kernel
theorem dX10_sing_9 : decode cX10_sing 9 = .ok (.if_icmp .ne 50, 3) := by decide +kernel
theorem dX10_sing_12 : decode cX10_sing 12 = .ok (.iconst 0, 1) := by decide +kernel
theorem dX10_sing_13 : decode cX10_sing 13 = .ok (.istore_n 2, 1) := by decide +kernel
theorem dX10_sing_14 : decode cX10_sing 14 = .ok (.iload_n 2, 1) := by decide +kernel
theorem dX10_sing_15 : decode cX10_sing 15 = .ok (.iconst 1, 1) := by decide +kernel
theorem dX10_sing_16 : decode cX10_sing 16 = .ok (.iadd, 1) := by decide +kernel
theorem dX10_sing_17 : decode cX10_sing 17 = .ok (.bipush 12, 2) := by decide +kernel
theorem dX10_sing_19 : decode cX10_sing 19 = .ok (.if_icmp .ge 29, 3) := by decide +kernel
theorem dX10_sing_22 : decode cX10_sing 22 = .ok (.aload_n 0, 1) := by decide +kernel
theorem dX10_sing_23 : decode cX10_sing 23 = .ok (.getfield 50, 3) := by decide +kernel
theorem dX10_sing_26 : decode cX10_sing 26 = .ok (.bipush 18, 2) := by decide +kernel
theorem dX10_sing_28 : decode cX10_sing 28 = .ok (.iload_n 2, 1) := by decide +kernel
theorem dX10_sing_29 : decode cX10_sing 29 = .ok (.iadd, 1) := by decide +kernel
theorem dX10_sing_30 : decode cX10_sing 30 = .ok (.aload_n 0, 1) := by decide +kernel
theorem dX10_sing_31 : decode cX10_sing 31 = .ok (.getfield 50, 3) := by decide +kernel
theorem dX10_sing_34 : decode cX10_sing 34 = .ok (.bipush 18, 2) := by decide +kernel
theorem dX10_sing_36 : decode cX10_sing 36 = .ok (.iload_n 2, 1) := by decide +kernel
theorem dX10_sing_37 : decode cX10_sing 37 = .ok (.iadd, 1) := by decide +kernel
theorem dX10_sing_38 : decode cX10_sing 38 = .ok (.iconst 1, 1) := by decide +kernel
theorem dX10_sing_39 : decode cX10_sing 39 = .ok (.iadd, 1) := by decide +kernel
theorem dX10_sing_40 : decode cX10_sing 40 = .ok (.iaload, 1) := by decide +kernel
theorem dX10_sing_41 : decode cX10_sing 41 = .ok (.iastore, 1) := by decide +kernel
theorem dX10_sing_42 : decode cX10_sing 42 = .ok (.iinc 2 1, 3) := by decide +kernel
theorem dX10_sing_45 : decode cX10_sing 45 = .ok (.goto (-31), 3) := by decide +kernel
theorem dX10_sing_48 : decode cX10_sing 48 = .ok (.aload_n 0, 1) := by decide +kernel
theorem dX10_sing_49 : decode cX10_sing 49 = .ok (.getfield 50, 3) := by decide +kernel
theorem dX10_sing_52 : decode cX10_sing 52 = .ok (.bipush 17, 2) := by decide +kernel
theorem dX10_sing_54 : decode cX10_sing 54 = .ok (.dup2, 1) := by decide +kernel
theorem dX10_sing_55 : decode cX10_sing 55 = .ok (.iaload, 1) := by decide +kernel
theorem dX10_sing_56 : decode cX10_sing 56 = .ok (.iconst 1, 1) := by decide +kernel
theorem dX10_sing_57 : decode cX10_sing 57 = .ok (.isub, 1) := by decide +kernel
theorem dX10_sing_58 : decode cX10_sing 58 = .ok (.iastore, 1) := by decide +kernel
theorem dX10_sing_59 : decode cX10_sing 59 = .ok (.aload_n 0, 1) := by decide +kernel
theorem dX10_sing_60 : decode cX10_sing 60 = .ok (.getfield 50, 3) := by decide +kernel
theorem dX10_sing_63 : decode cX10_sing 63 = .ok (.bipush 18, 2) := by decide +kernel
theorem dX10_sing_65 : decode cX10_sing 65 = .ok (.aload_n 0, 1) := by decide +kernel
theorem dX10_sing_66 : decode cX10_sing 66 = .ok (.getfield 50, 3) := by decide +kernel
theorem dX10_sing_69 : decode cX10_sing 69 = .ok (.bipush 17, 2) := by decide +kernel
theorem dX10_sing_71 : decode cX10_sing 71 = .ok (.iaload, 1) := by decide +kernel
theorem dX10_sing_72 : decode cX10_sing 72 = .ok (.iadd, 1) := by decide +kernel
theorem dX10_sing_73 : decode cX10_sing 73 = .ok (.iload_n 1, 1) := by decide +kernel
theorem dX10_sing_74 : decode cX10_sing 74 = .ok (.iastore, 1) := by decide +kernel
theorem dX10_sing_75 : decode cX10_sing 75 = .ok (.aload_n 0, 1) := by decide +kernel
theorem dX10_sing_76 : decode cX10_sing 76 = .ok (.getfield 50, 3) := by decide +kernel
theorem dX10_sing_79 : decode cX10_sing 79 = .ok (.bipush 17, 2) := by decide +kernel
theorem dX10_sing_81 : decode cX10_sing 81 = .ok (.dup2, 1) := by decide +kernel
theorem dX10_sing_82 : decode cX10_sing 82 = .ok (.iaload, 1) := by decide +kernel
theorem dX10_sing_83 : decode cX10_sing 83 = .ok (.iconst 1, 1) := by decide +kernel
theorem dX10_sing_84 : decode cX10_sing 84 = .ok (.iadd, 1) := by decide +kernel
theorem dX10_sing_85 : decode cX10_sing 85 = .ok (.iastore, 1) := by decide +kernel
theorem dX10_sing_86 : decode cX10_sing 86 = .ok (.return_, 1) := by decide +kernel
theorem dX10_goes_0 : decode cX10_goes 0 = .ok (.aload_n 0, 1) := by decide +kernel
theorem dX10_goes_1 : decode cX10_goes 1 = .ok (.iload_n 1, 1) := by decide +kernel
theorem dX10_goes_2 : decode cX10_goes 2 = .ok (.invokevirtual 149, 3) := by decide +kernel
theorem dX10_goes_5 : decode cX10_goes 5 = .ok (.ifCond .eq 11, 3) := by decide +kernel
theorem dX10_goes_8 : decode cX10_goes 8 = .ok (.aload_n 0, 1) := by decide +kernel
theorem dX10_goes_9 : decode cX10_goes 9 = .ok (.iload_n 2, 1) := by decide +kernel
theorem dX10_goes_10 : decode cX10_goes 10 = .ok (.invokevirtual 141, 3) := by decide +kernel
theorem dX10_goes_13 : decode cX10_goes 13 = .ok (.ifCond .ne 5, 3) := by decide +kernel
theorem dX10_goes_16 : decode cX10_goes 16 = .ok (.iconst (-1), 1) := by decide +kernel
theorem dX10_goes_17 : decode cX10_goes 17 = .ok (.ireturn, 1) := by decide +kernel
theorem dX10_goes_18 : decode cX10_goes 18 = .ok (.aload_n 0, 1) := by decide +kernel
theorem dX10_goes_19 : decode cX10_goes 19 = .ok (.iload_n 2, 1) := by decide +kernel
theorem dX10_goes_20 : decode cX10_goes 20 = .ok (.aload_n 0, 1) := by decide +kernel
theorem dX10_goes_21 : decode cX10_goes 21 = .ok (.getfield 50, 3) := by decide +kernel
theorem dX10_goes_24 : decode cX10_goes 24 = .ok (.iconst 0, 1) := by decide +kernel
theorem dX10_goes_25 : decode cX10_goes 25 = .ok (.iload_n 1, 1) := by decide +kernel
theorem dX10_goes_26 : decode cX10_goes 26 = .ok (.iadd, 1) := by decide +kernel
theorem dX10_goes_27 : decode cX10_goes 27 = .ok (.iaload, 1) := by decide +kernel
theorem dX10_goes_28 : decode cX10_goes 28 = .ok (.invokevirtual 155, 3) := by decide +kernel
theorem dX10_goes_31 : decode cX10_goes 31 = .ok (.ifCond .ne 6, 3) := by decide +kernel
theorem dX10_goes_34 : decode cX10_goes 34 = .ok (.bipush (-2), 2) := by decide +kernel
theorem dX10_goes_36 : decode cX10_goes 36 = .ok (.ireturn, 1) := by decide +kernel
theorem dX10_goes_37 : decode cX10_goes 37 = .ok (.aload_n 0, 1) := by decide +kernel
theorem dX10_goes_38 : decode cX10_goes 38 = .ok (.invokevirtual 158, 3) := by decide +kernel
theorem dX10_goes_41 : decode cX10_goes 41 = .ok (.aload_n 0, 1) := by decide +kernel
theorem dX10_goes_42 : decode cX10_goes 42 = .ok (.aload_n 0, 1) := by decide +kernel
theorem dX10_goes_43 : decode cX10_goes 43 = .ok (.getfield 41, 3) := by decide +kernel
theorem dX10_goes_46 : decode cX10_goes 46 = .ok (.iload_n 1, 1) := by decide +kernel
theorem dX10_goes_47 : decode cX10_goes 47 = .ok (.iaload, 1) := by decide +kernel
theorem dX10_goes_48 : decode cX10_goes 48 = .ok (.iload_n 2, 1) := by decide +kernel
theorem dX10_goes_49 : decode cX10_goes 49 = .ok (.invokevirtual 152, 3) := by decide +kernel
theorem dX10_goes_52 : decode cX10_goes 52 = .ok (.istore_n 3, 1) := by decide +kernel
theorem dX10_goes_53 : decode cX10_goes 53 = .ok (.aload_n 0, 1) := by decide +kernel
theorem dX10_goes_54 : decode cX10_goes 54 = .ok (.getfield 50, 3) := by decide +kernel
theorem dX10_goes_57 : decode cX10_goes 57 = .ok (.iconst 0, 1) := by decide +kernel
theorem dX10_goes_58 : decode cX10_goes 58 = .ok (.iload_n 1, 1) := by decide +kernel
theorem dX10_goes_59 : decode cX10_goes 59 = .ok (.iadd, 1) := by decide +kernel
theorem dX10_goes_60 : decode cX10_goes 60 = .ok (.aload_n 0, 1) := by decide +kernel
theorem dX10_goes_61 : decode cX10_goes 61 = .ok (.iload_n 2, 1) := by decide +kernel
theorem dX10_goes_62 : decode cX10_goes 62 = .ok (.aload_n 0, 1) := by decide +kernel
theorem dX10_goes_63 : decode cX10_goes 63 = .ok (.getfield 50, 3) := by decide +kernel
theorem dX10_goes_66 : decode cX10_goes 66 = .ok (.iconst 0, 1) := by decide +kernel
theorem dX10_goes_67 : decode cX10_goes 67 = .ok (.iload_n 1, 1) := by decide +kernel
theorem dX10_goes_68 : decode cX10_goes 68 = .ok (.iadd, 1) := by decide +kernel
theorem dX10_goes_69 : decode cX10_goes 69 = .ok (.iaload, 1) := by decide +kernel
theorem dX10_goes_70 : decode cX10_goes 70 = .ok (.invokevirtual 161, 3) := by decide +kernel
theorem dX10_goes_73 : decode cX10_goes 73 = .ok (.iastore, 1) := by decide +kernel
theorem dX10_goes_74 : decode cX10_goes 74 = .ok (.iload_n 3, 1) := by decide +kernel
theorem dX10_goes_75 : decode cX10_goes 75 = .ok (.ifCond .le 8, 3) := by decide +kernel
theorem dX10_goes_78 : decode cX10_goes 78 = .ok (.aload_n 0, 1) := by decide +kernel
theorem dX10_goes_79 : decode cX10_goes 79 = .ok (.iload_n 3, 1) := by decide +kernel
theorem dX10_goes_80 : decode cX10_goes 80 = .ok (.invokevirtual 164, 3) := by decide +kernel
theorem dX10_goes_83 : decode cX10_goes 83 = .ok (.iload_n 3, 1) := by decide +kernel
theorem dX10_goes_84 : decode cX10_goes 84 = .ok (.ireturn, 1) := by decide +kernel
theorem dX10_cuts_0 : decode cX10_cuts 0 = .ok (.aload_n 0, 1) := by decide +kernel
theorem dX10_cuts_1 : decode cX10_cuts 1 = .ok (.iload_n 1, 1) := by decide +kernel
theorem dX10_cuts_2 : decode cX10_cuts 2 = .ok (.invokevirtual 141, 3) := by decide +kernel
theorem dX10_cuts_5 : decode cX10_cuts 5 = .ok (.ifCond .eq 12, 3) := by decide +kernel
theorem dX10_cuts_8 : decode cX10_cuts 8 = .ok (.iload_n 2, 1) := by decide +kernel
theorem dX10_cuts_9 : decode cX10_cuts 9 = .ok (.iconst 0, 1) := by decide +kernel
theorem dX10_cuts_10 : decode cX10_cuts 10 = .ok (.iconst 1, 1) := by decide +kernel
theorem dX10_cuts_11 : decode cX10_cuts 11 = .ok (.invokestatic 81, 3) := by decide +kernel
theorem dX10_cuts_14 : decode cX10_cuts 14 = .ok (.ifCond .ne 5, 3) := by decide +kernel
theorem dX10_cuts_17 : decode cX10_cuts 17 = .ok (.iconst (-1), 1) := by decide +kernel
theorem dX10_cuts_18 : decode cX10_cuts 18 = .ok (.ireturn, 1) := by decide +kernel
theorem dX10_cuts_19 : decode cX10_cuts 19 = .ok (.aload_n 0, 1) := by decide +kernel
theorem dX10_cuts_20 : decode cX10_cuts 20 = .ok (.getfield 50, 3) := by decide +kernel
theorem dX10_cuts_23 : decode cX10_cuts 23 = .ok (.bipush 14, 2) := by decide +kernel
theorem dX10_cuts_25 : decode cX10_cuts 25 = .ok (.iaload, 1) := by decide +kernel
theorem dX10_cuts_26 : decode cX10_cuts 26 = .ok (.iload_n 1, 1) := by decide +kernel
theorem dX10_cuts_27 : decode cX10_cuts 27 = .ok (.invokestatic 137, 3) := by decide +kernel
theorem dX10_cuts_30 : decode cX10_cuts 30 = .ok (.iload_n 2, 1) := by decide +kernel
theorem dX10_cuts_31 : decode cX10_cuts 31 = .ok (.iconst 1, 1) := by decide +kernel
theorem dX10_cuts_32 : decode cX10_cuts 32 = .ok (.if_icmp .ne 7, 3) := by decide +kernel
theorem dX10_cuts_35 : decode cX10_cuts 35 = .ok (.iconst 1, 1) := by decide +kernel
theorem dX10_cuts_36 : decode cX10_cuts 36 = .ok (.goto 4, 3) := by decide +kernel
theorem dX10_cuts_39 : decode cX10_cuts 39 = .ok (.iconst 0, 1) := by decide +kernel
theorem dX10_cuts_40 : decode cX10_cuts 40 = .ok (.if_icmp .ne 6, 3) := by decide +kernel
theorem dX10_cuts_43 : decode cX10_cuts 43 = .ok (.bipush (-2), 2) := by decide +kernel
theorem dX10_cuts_45 : decode cX10_cuts 45 = .ok (.ireturn, 1) := by decide +kernel
theorem dX10_cuts_46 : decode cX10_cuts 46 = .ok (.aload_n 0, 1) := by decide +kernel
theorem dX10_cuts_47 : decode cX10_cuts 47 = .ok (.invokevirtual 158, 3) := by decide +kernel
theorem dX10_cuts_50 : decode cX10_cuts 50 = .ok (.aload_n 0, 1) := by decide +kernel
theorem dX10_cuts_51 : decode cX10_cuts 51 = .ok (.getfield 50, 3) := by decide +kernel
theorem dX10_cuts_54 : decode cX10_cuts 54 = .ok (.bipush 14, 2) := by decide +kernel
theorem dX10_cuts_56 : decode cX10_cuts 56 = .ok (.dup2, 1) := by decide +kernel
theorem dX10_cuts_57 : decode cX10_cuts 57 = .ok (.iaload, 1) := by decide +kernel
theorem dX10_cuts_58 : decode cX10_cuts 58 = .ok (.iconst 1, 1) := by decide +kernel
theorem dX10_cuts_59 : decode cX10_cuts 59 = .ok (.iload_n 1, 1) := by decide +kernel
theorem dX10_cuts_60 : decode cX10_cuts 60 = .ok (.ishl, 1) := by decide +kernel
theorem dX10_cuts_61 : decode cX10_cuts 61 = .ok (.ixor, 1) := by decide +kernel
theorem dX10_cuts_62 : decode cX10_cuts 62 = .ok (.iastore, 1) := by decide +kernel
theorem dX10_cuts_63 : decode cX10_cuts 63 = .ok (.aload_n 0, 1) := by decide +kernel
theorem dX10_cuts_64 : decode cX10_cuts 64 = .ok (.getfield 50, 3) := by decide +kernel
theorem dX10_cuts_67 : decode cX10_cuts 67 = .ok (.bipush 14, 2) := by decide +kernel
theorem dX10_cuts_69 : decode cX10_cuts 69 = .ok (.iaload, 1) := by decide +kernel
theorem dX10_cuts_70 : decode cX10_cuts 70 = .ok (.invokestatic 167, 3) := by decide +kernel
theorem dX10_cuts_73 : decode cX10_cuts 73 = .ok (.ireturn, 1) := by decide +kernel
theorem dX10_tunes_0 : decode cX10_tunes 0 = .ok (.aload_n 0, 1) := by decide +kernel
theorem dX10_tunes_1 : decode cX10_tunes 1 = .ok (.iload_n 1, 1) := by decide +kernel
theorem dX10_tunes_2 : decode cX10_tunes 2 = .ok (.invokevirtual 141, 3) := by decide +kernel
theorem dX10_tunes_5 : decode cX10_tunes 5 = .ok (.ifCond .eq 13, 3) := by decide +kernel
theorem dX10_tunes_8 : decode cX10_tunes 8 = .ok (.iload_n 2, 1) := by decide +kernel
theorem dX10_tunes_9 : decode cX10_tunes 9 = .ok (.iconst 1, 1) := by decide +kernel
theorem dX10_tunes_10 : decode cX10_tunes 10 = .ok (.bipush 40, 2) := by decide +kernel
theorem dX10_tunes_12 : decode cX10_tunes 12 = .ok (.invokestatic 81, 3) := by decide +kernel
theorem dX10_tunes_15 : decode cX10_tunes 15 = .ok (.ifCond .ne 5, 3) := by decide +kernel
theorem dX10_tunes_18 : decode cX10_tunes 18 = .ok (.iconst (-1), 1) := by decide +kernel
theorem dX10_tunes_19 : decode cX10_tunes 19 = .ok (.ireturn, 1) := by decide +kernel
theorem dX10_tunes_20 : decode cX10_tunes 20 = .ok (.aload_n 0, 1) := by decide +kernel
theorem dX10_tunes_21 : decode cX10_tunes 21 = .ok (.getfield 50, 3) := by decide +kernel
theorem dX10_tunes_24 : decode cX10_tunes 24 = .ok (.bipush 6, 2) := by decide +kernel
theorem dX10_tunes_26 : decode cX10_tunes 26 = .ok (.iload_n 1, 1) := by decide +kernel
theorem dX10_tunes_27 : decode cX10_tunes 27 = .ok (.iadd, 1) := by decide +kernel
theorem dX10_tunes_28 : decode cX10_tunes 28 = .ok (.iaload, 1) := by decide +kernel
theorem dX10_tunes_29 : decode cX10_tunes 29 = .ok (.istore_n 3, 1) := by decide +kernel
theorem dX10_tunes_30 : decode cX10_tunes 30 = .ok (.iload_n 3, 1) := by decide +kernel
theorem dX10_tunes_31 : decode cX10_tunes 31 = .ok (.ifCond .eq 8, 3) := by decide +kernel
theorem dX10_tunes_34 : decode cX10_tunes 34 = .ok (.iload_n 3, 1) := by decide +kernel
theorem dX10_tunes_35 : decode cX10_tunes 35 = .ok (.iload_n 2, 1) := by decide +kernel
theorem dX10_tunes_36 : decode cX10_tunes 36 = .ok (.if_icmp .ne 6, 3) := by decide +kernel
theorem dX10_tunes_39 : decode cX10_tunes 39 = .ok (.bipush (-2), 2) := by decide +kernel
theorem dX10_tunes_41 : decode cX10_tunes 41 = .ok (.ireturn, 1) := by decide +kernel
theorem dX10_tunes_42 : decode cX10_tunes 42 = .ok (.aload_n 0, 1) := by decide +kernel
theorem dX10_tunes_43 : decode cX10_tunes 43 = .ok (.invokevirtual 158, 3) := by decide +kernel
theorem dX10_tunes_46 : decode cX10_tunes 46 = .ok (.aload_n 0, 1) := by decide +kernel
theorem dX10_tunes_47 : decode cX10_tunes 47 = .ok (.getfield 50, 3) := by decide +kernel
theorem dX10_tunes_50 : decode cX10_tunes 50 = .ok (.bipush 6, 2) := by decide +kernel
theorem dX10_tunes_52 : decode cX10_tunes 52 = .ok (.iload_n 1, 1) := by decide +kernel
theorem dX10_tunes_53 : decode cX10_tunes 53 = .ok (.iadd, 1) := by decide +kernel
theorem dX10_tunes_54 : decode cX10_tunes 54 = .ok (.iload_n 2, 1) := by decide +kernel
theorem dX10_tunes_55 : decode cX10_tunes 55 = .ok (.iastore, 1) := by decide +kernel
theorem dX10_tunes_56 : decode cX10_tunes 56 = .ok (.iload_n 3, 1) := by decide +kernel
theorem dX10_tunes_57 : decode cX10_tunes 57 = .ok (.ireturn, 1) := by decide +kernel
theorem dX10_lays_0 : decode cX10_lays 0 = .ok (.iload_n 1, 1) := by decide +kernel
theorem dX10_lays_1 : decode cX10_lays 1 = .ok (.iconst 0, 1) := by decide +kernel
theorem dX10_lays_2 : decode cX10_lays 2 = .ok (.iconst 1, 1) := by decide +kernel
theorem dX10_lays_3 : decode cX10_lays 3 = .ok (.invokestatic 81, 3) := by decide +kernel
theorem dX10_lays_6 : decode cX10_lays 6 = .ok (.ifCond .ne 5, 3) := by decide +kernel
theorem dX10_lays_9 : decode cX10_lays 9 = .ok (.iconst (-1), 1) := by decide +kernel
theorem dX10_lays_10 : decode cX10_lays 10 = .ok (.ireturn, 1) := by decide +kernel
theorem dX10_lays_11 : decode cX10_lays 11 = .ok (.aload_n 0, 1) := by decide +kernel
theorem dX10_lays_12 : decode cX10_lays 12 = .ok (.invokevirtual 158, 3) := by decide +kernel
theorem dX10_lays_15 : decode cX10_lays 15 = .ok (.aload_n 0, 1) := by decide +kernel
theorem dX10_lays_16 : decode cX10_lays 16 = .ok (.getfield 50, 3) := by decide +kernel
theorem dX10_lays_19 : decode cX10_lays 19 = .ok (.bipush 15, 2) := by decide +kernel
theorem dX10_lays_21 : decode cX10_lays 21 = .ok (.iaload, 1) := by decide +kernel
theorem dX10_lays_22 : decode cX10_lays 22 = .ok (.istore_n 2, 1) := by decide +kernel
theorem dX10_lays_23 : decode cX10_lays 23 = .ok (.aload_n 0, 1) := by decide +kernel
theorem dX10_lays_24 : decode cX10_lays 24 = .ok (.getfield 50, 3) := by decide +kernel
theorem dX10_lays_27 : decode cX10_lays 27 = .ok (.bipush 15, 2) := by decide +kernel
theorem dX10_lays_29 : decode cX10_lays 29 = .ok (.iload_n 1, 1) := by decide +kernel
theorem dX10_lays_30 : decode cX10_lays 30 = .ok (.iconst 1, 1) := by decide +kernel
theorem dX10_lays_31 : decode cX10_lays 31 = .ok (.if_icmp .ne 15, 3) := by decide +kernel
theorem dX10_lays_34 : decode cX10_lays 34 = .ok (.aload_n 0, 1) := by decide +kernel
theorem dX10_lays_35 : decode cX10_lays 35 = .ok (.getfield 17, 3) := by decide +kernel
theorem dX10_lays_38 : decode cX10_lays 38 = .ok (.iconst 0, 1) := by decide +kernel
theorem dX10_lays_39 : decode cX10_lays 39 = .ok (.iaload, 1) := by decide +kernel
theorem dX10_lays_40 : decode cX10_lays 40 = .ok (.invokestatic 171, 3) := by decide +kernel
theorem dX10_lays_43 : decode cX10_lays 43 = .ok (.goto 4, 3) := by decide +kernel
theorem dX10_lays_46 : decode cX10_lays 46 = .ok (.iconst 0, 1) := by decide +kernel
theorem dX10_lays_47 : decode cX10_lays 47 = .ok (.iastore, 1) := by decide +kernel
theorem dX10_lays_48 : decode cX10_lays 48 = .ok (.iload_n 2, 1) := by decide +kernel
theorem dX10_lays_49 : decode cX10_lays 49 = .ok (.aload_n 0, 1) := by decide +kernel
theorem dX10_lays_50 : decode cX10_lays 50 = .ok (.getfield 50, 3) := by decide +kernel
theorem dX10_lays_53 : decode cX10_lays 53 = .ok (.bipush 15, 2) := by decide +kernel
theorem dX10_lays_55 : decode cX10_lays 55 = .ok (.iaload, 1) := by decide +kernel
theorem dX10_lays_56 : decode cX10_lays 56 = .ok (.ixor, 1) := by decide +kernel
theorem dX10_lays_57 : decode cX10_lays 57 = .ok (.invokestatic 167, 3) := by decide +kernel
theorem dX10_lays_60 : decode cX10_lays 60 = .ok (.ireturn, 1) := by decide +kernel
theorem dX10_rains_0 : decode cX10_rains 0 = .ok (.iload_n 1, 1) := by decide +kernel
theorem dX10_rains_1 : decode cX10_rains 1 = .ok (.bipush (-9), 2) := by decide +kernel
theorem dX10_rains_3 : decode cX10_rains 3 = .ok (.bipush 9, 2) := by decide +kernel
theorem dX10_rains_5 : decode cX10_rains 5 = .ok (.invokestatic 81, 3) := by decide +kernel
theorem dX10_rains_8 : decode cX10_rains 8 = .ok (.ifCond .eq 7, 3) := by decide +kernel
theorem dX10_rains_11 : decode cX10_rains 11 = .ok (.iload_n 1, 1) := by decide +kernel
theorem dX10_rains_12 : decode cX10_rains 12 = .ok (.ifCond .ne 5, 3) := by decide +kernel
theorem dX10_rains_15 : decode cX10_rains 15 = .ok (.iconst (-1), 1) := by decide +kernel
theorem dX10_rains_16 : decode cX10_rains 16 = .ok (.ireturn, 1) := by decide +kernel
theorem dX10_rains_17 : decode cX10_rains 17 = .ok (.aload_n 0, 1) := by decide +kernel
theorem dX10_rains_18 : decode cX10_rains 18 = .ok (.getfield 50, 3) := by decide +kernel
theorem dX10_rains_21 : decode cX10_rains 21 = .ok (.bipush 16, 2) := by decide +kernel
theorem dX10_rains_23 : decode cX10_rains 23 = .ok (.iaload, 1) := by decide +kernel
theorem dX10_rains_24 : decode cX10_rains 24 = .ok (.iload_n 1, 1) := by decide +kernel
theorem dX10_rains_25 : decode cX10_rains 25 = .ok (.iadd, 1) := by decide +kernel
theorem dX10_rains_26 : decode cX10_rains 26 = .ok (.iconst 0, 1) := by decide +kernel
theorem dX10_rains_27 : decode cX10_rains 27 = .ok (.bipush 9, 2) := by decide +kernel
theorem dX10_rains_29 : decode cX10_rains 29 = .ok (.invokestatic 81, 3) := by decide +kernel
theorem dX10_rains_32 : decode cX10_rains 32 = .ok (.ifCond .ne 6, 3) := by decide +kernel
theorem dX10_rains_35 : decode cX10_rains 35 = .ok (.bipush (-2), 2) := by decide +kernel
theorem dX10_rains_37 : decode cX10_rains 37 = .ok (.ireturn, 1) := by decide +kernel
theorem dX10_rains_38 : decode cX10_rains 38 = .ok (.aload_n 0, 1) := by decide +kernel
theorem dX10_rains_39 : decode cX10_rains 39 = .ok (.invokevirtual 158, 3) := by decide +kernel
theorem dX10_rains_42 : decode cX10_rains 42 = .ok (.aload_n 0, 1) := by decide +kernel
theorem dX10_rains_43 : decode cX10_rains 43 = .ok (.getfield 50, 3) := by decide +kernel
theorem dX10_rains_46 : decode cX10_rains 46 = .ok (.bipush 16, 2) := by decide +kernel
theorem dX10_rains_48 : decode cX10_rains 48 = .ok (.dup2, 1) := by decide +kernel
theorem dX10_rains_49 : decode cX10_rains 49 = .ok (.iaload, 1) := by decide +kernel
theorem dX10_rains_50 : decode cX10_rains 50 = .ok (.iload_n 1, 1) := by decide +kernel
theorem dX10_rains_51 : decode cX10_rains 51 = .ok (.iadd, 1) := by decide +kernel
theorem dX10_rains_52 : decode cX10_rains 52 = .ok (.iastore, 1) := by decide +kernel
theorem dX10_rains_53 : decode cX10_rains 53 = .ok (.aload_n 0, 1) := by decide +kernel
theorem dX10_rains_54 : decode cX10_rains 54 = .ok (.getfield 50, 3) := by decide +kernel
theorem dX10_rains_57 : decode cX10_rains 57 = .ok (.bipush 16, 2) := by decide +kernel
theorem dX10_rains_59 : decode cX10_rains 59 = .ok (.iaload, 1) := by decide +kernel
theorem dX10_rains_60 : decode cX10_rains 60 = .ok (.ireturn, 1) := by decide +kernel
theorem dX10_undo_0 : decode cX10_undo 0 = .ok (.aload_n 0, 1) := by decide +kernel
theorem dX10_undo_1 : decode cX10_undo 1 = .ok (.getfield 53, 3) := by decide +kernel
theorem dX10_undo_4 : decode cX10_undo 4 = .ok (.iconst 0, 1) := by decide +kernel
theorem dX10_undo_5 : decode cX10_undo 5 = .ok (.iaload, 1) := by decide +kernel
theorem dX10_undo_6 : decode cX10_undo 6 = .ok (.ifCond .ne 6, 3) := by decide +kernel
theorem dX10_undo_9 : decode cX10_undo 9 = .ok (.bipush (-2), 2) := by decide +kernel
theorem dX10_undo_11 : decode cX10_undo 11 = .ok (.ireturn, 1) := by decide +kernel
theorem dX10_undo_12 : decode cX10_undo 12 = .ok (.aload_n 0, 1) := by decide +kernel
theorem dX10_undo_13 : decode cX10_undo 13 = .ok (.getfield 53, 3) := by decide +kernel
theorem dX10_undo_16 : decode cX10_undo 16 = .ok (.iconst 0, 1) := by decide +kernel
theorem dX10_undo_17 : decode cX10_undo 17 = .ok (.dup2, 1) := by decide +kernel
theorem dX10_undo_18 : decode cX10_undo 18 = .ok (.iaload, 1) := by decide +kernel
theorem dX10_undo_19 : decode cX10_undo 19 = .ok (.iconst 1, 1) := by decide +kernel
theorem dX10_undo_20 : decode cX10_undo 20 = .ok (.isub, 1) := by decide +kernel
theorem dX10_undo_21 : decode cX10_undo 21 = .ok (.iastore, 1) := by decide +kernel
theorem dX10_undo_22 : decode cX10_undo 22 = .ok (.iconst 0, 1) := by decide +kernel
theorem dX10_undo_23 : decode cX10_undo 23 = .ok (.istore_n 1, 1) := by decide +kernel
theorem dX10_undo_24 : decode cX10_undo 24 = .ok (.iload_n 1, 1) := by decide +kernel
theorem dX10_undo_25 : decode cX10_undo 25 = .ok (.bipush 30, 2) := by decide +kernel
theorem dX10_undo_27 : decode cX10_undo 27 = .ok (.if_icmp .ge 31, 3) := by decide +kernel
theorem dX10_undo_30 : decode cX10_undo 30 = .ok (.aload_n 0, 1) := by decide +kernel
theorem dX10_undo_31 : decode cX10_undo 31 = .ok (.getfield 50, 3) := by decide +kernel
theorem dX10_undo_34 : decode cX10_undo 34 = .ok (.iload_n 1, 1) := by decide +kernel
theorem dX10_undo_35 : decode cX10_undo 35 = .ok (.aload_n 0, 1) := by decide +kernel
theorem dX10_undo_36 : decode cX10_undo 36 = .ok (.getfield 56, 3) := by decide +kernel
theorem dX10_undo_39 : decode cX10_undo 39 = .ok (.bipush 30, 2) := by decide +kernel
theorem dX10_undo_41 : decode cX10_undo 41 = .ok (.aload_n 0, 1) := by decide +kernel
theorem dX10_undo_42 : decode cX10_undo 42 = .ok (.getfield 53, 3) := by decide +kernel
theorem dX10_undo_45 : decode cX10_undo 45 = .ok (.iconst 0, 1) := by decide +kernel
theorem dX10_undo_46 : decode cX10_undo 46 = .ok (.iaload, 1) := by decide +kernel
theorem dX10_undo_47 : decode cX10_undo 47 = .ok (.imul, 1) := by decide +kernel
theorem dX10_undo_48 : decode cX10_undo 48 = .ok (.iload_n 1, 1) := by decide +kernel
theorem dX10_undo_49 : decode cX10_undo 49 = .ok (.iadd, 1) := by decide +kernel
theorem dX10_undo_50 : decode cX10_undo 50 = .ok (.iaload, 1) := by decide +kernel
theorem dX10_undo_51 : decode cX10_undo 51 = .ok (.iastore, 1) := by decide +kernel
theorem dX10_undo_52 : decode cX10_undo 52 = .ok (.iinc 1 1, 3) := by decide +kernel
theorem dX10_undo_55 : decode cX10_undo 55 = .ok (.goto (-31), 3) := by decide +kernel
theorem dX10_undo_58 : decode cX10_undo 58 = .ok (.aload_n 0, 1) := by decide +kernel
theorem dX10_undo_59 : decode cX10_undo 59 = .ok (.getfield 53, 3) := by decide +kernel
theorem dX10_undo_62 : decode cX10_undo 62 = .ok (.iconst 0, 1) := by decide +kernel
theorem dX10_undo_63 : decode cX10_undo 63 = .ok (.iaload, 1) := by decide +kernel
theorem dX10_undo_64 : decode cX10_undo 64 = .ok (.ireturn, 1) := by decide +kernel
theorem dX10_areAlike_0 : decode cX10_areAlike 0 = .ok (.aload_n 0, 1) := by decide +kernel
theorem dX10_areAlike_1 : decode cX10_areAlike 1 = .ok (.iload_n 2, 1) := by decide +kernel
theorem dX10_areAlike_2 : decode cX10_areAlike 2 = .ok (.aload_n 0, 1) := by decide +kernel
theorem dX10_areAlike_3 : decode cX10_areAlike 3 = .ok (.getfield 20, 3) := by decide +kernel
theorem dX10_areAlike_6 : decode cX10_areAlike 6 = .ok (.iload_n 1, 1) := by decide +kernel
theorem dX10_areAlike_7 : decode cX10_areAlike 7 = .ok (.iaload, 1) := by decide +kernel
theorem dX10_areAlike_8 : decode cX10_areAlike 8 = .ok (.invokevirtual 155, 3) := by decide +kernel
theorem dX10_areAlike_11 : decode cX10_areAlike 11 = .ok (.ifCond .ne 17, 3) := by decide +kernel
theorem dX10_areAlike_14 : decode cX10_areAlike 14 = .ok (.aload_n 0, 1) := by decide +kernel
theorem dX10_areAlike_15 : decode cX10_areAlike 15 = .ok (.iload_n 2, 1) := by decide +kernel
theorem dX10_areAlike_16 : decode cX10_areAlike 16 = .ok (.aload_n 0, 1) := by decide +kernel
theorem dX10_areAlike_17 : decode cX10_areAlike 17 = .ok (.getfield 23, 3) := by decide +kernel
theorem dX10_areAlike_20 : decode cX10_areAlike 20 = .ok (.iload_n 1, 1) := by decide +kernel
theorem dX10_areAlike_21 : decode cX10_areAlike 21 = .ok (.iaload, 1) := by decide +kernel
theorem dX10_areAlike_22 : decode cX10_areAlike 22 = .ok (.invokevirtual 155, 3) := by decide +kernel
theorem dX10_areAlike_25 : decode cX10_areAlike 25 = .ok (.ifCond .eq 7, 3) := by decide +kernel
theorem dX10_areAlike_28 : decode cX10_areAlike 28 = .ok (.iconst 1, 1) := by decide +kernel
theorem dX10_areAlike_29 : decode cX10_areAlike 29 = .ok (.goto 4, 3) := by decide +kernel
theorem dX10_areAlike_32 : decode cX10_areAlike 32 = .ok (.iconst 0, 1) := by decide +kernel
theorem dX10_areAlike_33 : decode cX10_areAlike 33 = .ok (.istore_n 3, 1) := by decide +kernel
theorem dX10_areAlike_34 : decode cX10_areAlike 34 = .ok (.iload_n 1, 1) := by decide +kernel
theorem dX10_areAlike_35 : decode cX10_areAlike 35 = .ok (.iload_n 2, 1) := by decide +kernel
theorem dX10_areAlike_36 : decode cX10_areAlike 36 = .ok (.if_icmp .eq 48, 3) := by decide +kernel
theorem dX10_areAlike_39 : decode cX10_areAlike 39 = .ok (.iload_n 3, 1) := by decide +kernel
theorem dX10_areAlike_40 : decode cX10_areAlike 40 = .ok (.ifCond .eq 44, 3) := by decide +kernel
theorem dX10_areAlike_43 : decode cX10_areAlike 43 = .ok (.aload_n 0, 1) := by decide +kernel
theorem dX10_areAlike_44 : decode cX10_areAlike 44 = .ok (.iload_n 1, 1) := by decide +kernel
theorem dX10_areAlike_45 : decode cX10_areAlike 45 = .ok (.invokevirtual 174, 3) := by decide +kernel
theorem dX10_areAlike_48 : decode cX10_areAlike 48 = .ok (.ifCond .eq 36, 3) := by decide +kernel
theorem dX10_areAlike_51 : decode cX10_areAlike 51 = .ok (.aload_n 0, 1) := by decide +kernel
theorem dX10_areAlike_52 : decode cX10_areAlike 52 = .ok (.iload_n 2, 1) := by decide +kernel
theorem dX10_areAlike_53 : decode cX10_areAlike 53 = .ok (.invokevirtual 174, 3) := by decide +kernel
theorem dX10_areAlike_56 : decode cX10_areAlike 56 = .ok (.ifCond .eq 28, 3) := by decide +kernel
theorem dX10_areAlike_59 : decode cX10_areAlike 59 = .ok (.aload_n 0, 1) := by decide +kernel
theorem dX10_areAlike_60 : decode cX10_areAlike 60 = .ok (.getfield 50, 3) := by decide +kernel
theorem dX10_areAlike_63 : decode cX10_areAlike 63 = .ok (.bipush 6, 2) := by decide +kernel
theorem dX10_areAlike_65 : decode cX10_areAlike 65 = .ok (.iload_n 1, 1) := by decide +kernel
theorem dX10_areAlike_66 : decode cX10_areAlike 66 = .ok (.iadd, 1) := by decide +kernel
theorem dX10_areAlike_67 : decode cX10_areAlike 67 = .ok (.iaload, 1) := by decide +kernel
theorem dX10_areAlike_68 : decode cX10_areAlike 68 = .ok (.aload_n 0, 1) := by decide +kernel
theorem dX10_areAlike_69 : decode cX10_areAlike 69 = .ok (.getfield 50, 3) := by decide +kernel
theorem dX10_areAlike_72 : decode cX10_areAlike 72 = .ok (.bipush 6, 2) := by decide +kernel
theorem dX10_areAlike_74 : decode cX10_areAlike 74 = .ok (.iload_n 2, 1) := by decide +kernel
theorem dX10_areAlike_75 : decode cX10_areAlike 75 = .ok (.iadd, 1) := by decide +kernel
theorem dX10_areAlike_76 : decode cX10_areAlike 76 = .ok (.iaload, 1) := by decide +kernel
theorem dX10_areAlike_77 : decode cX10_areAlike 77 = .ok (.if_icmp .ne 7, 3) := by decide +kernel
theorem dX10_areAlike_80 : decode cX10_areAlike 80 = .ok (.iconst 1, 1) := by decide +kernel
theorem dX10_areAlike_81 : decode cX10_areAlike 81 = .ok (.goto 4, 3) := by decide +kernel
theorem dX10_areAlike_84 : decode cX10_areAlike 84 = .ok (.iconst 0, 1) := by decide +kernel
theorem dX10_areAlike_85 : decode cX10_areAlike 85 = .ok (.ireturn, 1) := by decide +kernel
theorem dX10_alike_0 : decode cX10_alike 0 = .ok (.iconst 0, 1) := by decide +kernel
theorem dX10_alike_1 : decode cX10_alike 1 = .ok (.istore_n 1, 1) := by decide +kernel
theorem dX10_alike_2 : decode cX10_alike 2 = .ok (.iconst 0, 1) := by decide +kernel
theorem dX10_alike_3 : decode cX10_alike 3 = .ok (.istore_n 2, 1) := by decide +kernel
theorem dX10_alike_4 : decode cX10_alike 4 = .ok (.iload_n 2, 1) := by decide +kernel
theorem dX10_alike_5 : decode cX10_alike 5 = .ok (.aload_n 0, 1) := by decide +kernel
theorem dX10_alike_6 : decode cX10_alike 6 = .ok (.getfield 17, 3) := by decide +kernel
theorem dX10_alike_9 : decode cX10_alike 9 = .ok (.iconst 0, 1) := by decide +kernel
theorem dX10_alike_10 : decode cX10_alike 10 = .ok (.iaload, 1) := by decide +kernel
theorem dX10_alike_11 : decode cX10_alike 11 = .ok (.if_icmp .ge 46, 3) := by decide +kernel
theorem dX10_alike_14 : decode cX10_alike 14 = .ok (.iload_n 2, 1) := by decide +kernel
theorem dX10_alike_15 : decode cX10_alike 15 = .ok (.iconst 1, 1) := by decide +kernel
theorem dX10_alike_16 : decode cX10_alike 16 = .ok (.iadd, 1) := by decide +kernel
theorem dX10_alike_17 : decode cX10_alike 17 = .ok (.istore_n 3, 1) := by decide +kernel
theorem dX10_alike_18 : decode cX10_alike 18 = .ok (.iload_n 3, 1) := by decide +kernel
theorem dX10_alike_19 : decode cX10_alike 19 = .ok (.aload_n 0, 1) := by decide +kernel
theorem dX10_alike_20 : decode cX10_alike 20 = .ok (.getfield 17, 3) := by decide +kernel
theorem dX10_alike_23 : decode cX10_alike 23 = .ok (.iconst 0, 1) := by decide +kernel
theorem dX10_alike_24 : decode cX10_alike 24 = .ok (.iaload, 1) := by decide +kernel
theorem dX10_alike_25 : decode cX10_alike 25 = .ok (.if_icmp .ge 26, 3) := by decide +kernel
theorem dX10_alike_28 : decode cX10_alike 28 = .ok (.iload_n 1, 1) := by decide +kernel
theorem dX10_alike_29 : decode cX10_alike 29 = .ok (.aload_n 0, 1) := by decide +kernel
theorem dX10_alike_30 : decode cX10_alike 30 = .ok (.iload_n 2, 1) := by decide +kernel
theorem dX10_alike_31 : decode cX10_alike 31 = .ok (.iload_n 3, 1) := by decide +kernel
theorem dX10_alike_32 : decode cX10_alike 32 = .ok (.invokevirtual 177, 3) := by decide +kernel
theorem dX10_alike_35 : decode cX10_alike 35 = .ok (.ifCond .eq 7, 3) := by decide +kernel
theorem dX10_alike_38 : decode cX10_alike 38 = .ok (.iconst 1, 1) := by decide +kernel
theorem dX10_alike_39 : decode cX10_alike 39 = .ok (.goto 4, 3) := by decide +kernel
theorem dX10_alike_42 : decode cX10_alike 42 = .ok (.iconst 0, 1) := by decide +kernel
theorem dX10_alike_43 : decode cX10_alike 43 = .ok (.iadd, 1) := by decide +kernel
theorem dX10_alike_44 : decode cX10_alike 44 = .ok (.istore_n 1, 1) := by decide +kernel
theorem dX10_alike_45 : decode cX10_alike 45 = .ok (.iinc 3 1, 3) := by decide +kernel
theorem dX10_alike_48 : decode cX10_alike 48 = .ok (.goto (-30), 3) := by decide +kernel
theorem dX10_alike_51 : decode cX10_alike 51 = .ok (.iinc 2 1, 3) := by decide +kernel
theorem dX10_alike_54 : decode cX10_alike 54 = .ok (.goto (-50), 3) := by decide +kernel
theorem dX10_alike_57 : decode cX10_alike 57 = .ok (.iload_n 1, 1) := by decide +kernel
theorem dX10_alike_58 : decode cX10_alike 58 = .ok (.ireturn, 1) := by decide +kernel
theorem dX10_areApart_0 : decode cX10_areApart 0 = .ok (.iconst 1, 1) := by decide +kernel
theorem dX10_areApart_1 : decode cX10_areApart 1 = .ok (.istore_n 2, 1) := by decide +kernel
theorem dX10_areApart_2 : decode cX10_areApart 2 = .ok (.iconst 0, 1) := by decide +kernel
theorem dX10_areApart_3 : decode cX10_areApart 3 = .ok (.istore_n 3, 1) := by decide +kernel
theorem dX10_areApart_4 : decode cX10_areApart 4 = .ok (.iload_n 3, 1) := by decide +kernel
theorem dX10_areApart_5 : decode cX10_areApart 5 = .ok (.aload_n 0, 1) := by decide +kernel
theorem dX10_areApart_6 : decode cX10_areApart 6 = .ok (.getfield 17, 3) := by decide +kernel
theorem dX10_areApart_9 : decode cX10_areApart 9 = .ok (.iconst 0, 1) := by decide +kernel
theorem dX10_areApart_10 : decode cX10_areApart 10 = .ok (.iaload, 1) := by decide +kernel
theorem dX10_areApart_11 : decode cX10_areApart 11 = .ok (.if_icmp .ge 68, 3) := by decide +kernel
theorem dX10_areApart_14 : decode cX10_areApart 14 = .ok (.iload_n 3, 1) := by decide +kernel
theorem dX10_areApart_15 : decode cX10_areApart 15 = .ok (.iconst 1, 1) := by decide +kernel
theorem dX10_areApart_16 : decode cX10_areApart 16 = .ok (.iadd, 1) := by decide +kernel
theorem dX10_areApart_17 : decode cX10_areApart 17 = .ok (.istore 4, 2) := by decide +kernel
theorem dX10_areApart_19 : decode cX10_areApart 19 = .ok (.iload 4, 2) := by decide +kernel
theorem dX10_areApart_21 : decode cX10_areApart 21 = .ok (.aload_n 0, 1) := by decide +kernel
theorem dX10_areApart_22 : decode cX10_areApart 22 = .ok (.getfield 17, 3) := by decide +kernel
theorem dX10_areApart_25 : decode cX10_areApart 25 = .ok (.iconst 0, 1) := by decide +kernel
theorem dX10_areApart_26 : decode cX10_areApart 26 = .ok (.iaload, 1) := by decide +kernel
theorem dX10_areApart_27 : decode cX10_areApart 27 = .ok (.if_icmp .ge 46, 3) := by decide +kernel
theorem dX10_areApart_30 : decode cX10_areApart 30 = .ok (.iload_n 2, 1) := by decide +kernel
theorem dX10_areApart_31 : decode cX10_areApart 31 = .ok (.ifCond .eq 34, 3) := by decide +kernel
theorem dX10_areApart_34 : decode cX10_areApart 34 = .ok (.iload_n 1, 1) := by decide +kernel
theorem dX10_areApart_35 : decode cX10_areApart 35 = .ok (.iload_n 3, 1) := by decide +kernel
theorem dX10_areApart_36 : decode cX10_areApart 36 = .ok (.invokestatic 137, 3) := by decide +kernel
theorem dX10_areApart_39 : decode cX10_areApart 39 = .ok (.ifCond .ne 22, 3) := by decide +kernel
theorem dX10_areApart_42 : decode cX10_areApart 42 = .ok (.iload_n 1, 1) := by decide +kernel
theorem dX10_areApart_43 : decode cX10_areApart 43 = .ok (.iload 4, 2) := by decide +kernel
theorem dX10_areApart_45 : decode cX10_areApart 45 = .ok (.invokestatic 137, 3) := by decide +kernel
theorem dX10_areApart_48 : decode cX10_areApart 48 = .ok (.ifCond .ne 13, 3) := by decide +kernel
theorem dX10_areApart_51 : decode cX10_areApart 51 = .ok (.aload_n 0, 1) := by decide +kernel
theorem dX10_areApart_52 : decode cX10_areApart 52 = .ok (.iload_n 3, 1) := by decide +kernel
theorem dX10_areApart_53 : decode cX10_areApart 53 = .ok (.iload 4, 2) := by decide +kernel
theorem dX10_areApart_55 : decode cX10_areApart 55 = .ok (.invokevirtual 177, 3) := by decide +kernel
theorem dX10_areApart_58 : decode cX10_areApart 58 = .ok (.ifCond .ne 7, 3) := by decide +kernel
theorem dX10_areApart_61 : decode cX10_areApart 61 = .ok (.iconst 1, 1) := by decide +kernel
theorem dX10_areApart_62 : decode cX10_areApart 62 = .ok (.goto 4, 3) := by decide +kernel
theorem dX10_areApart_65 : decode cX10_areApart 65 = .ok (.iconst 0, 1) := by decide +kernel
theorem dX10_areApart_66 : decode cX10_areApart 66 = .ok (.istore_n 2, 1) := by decide +kernel
theorem dX10_areApart_67 : decode cX10_areApart 67 = .ok (.iinc 4 1, 3) := by decide +kernel
theorem dX10_areApart_70 : decode cX10_areApart 70 = .ok (.goto (-51), 3) := by decide +kernel
theorem dX10_areApart_73 : decode cX10_areApart 73 = .ok (.iinc 3 1, 3) := by decide +kernel
theorem dX10_areApart_76 : decode cX10_areApart 76 = .ok (.goto (-72), 3) := by decide +kernel
theorem dX10_areApart_79 : decode cX10_areApart 79 = .ok (.iload_n 2, 1) := by decide +kernel
theorem dX10_areApart_80 : decode cX10_areApart 80 = .ok (.ireturn, 1) := by decide +kernel
theorem dX10_areHeard_0 : decode cX10_areHeard 0 = .ok (.iconst 1, 1) := by decide +kernel
theorem dX10_areHeard_1 : decode cX10_areHeard 1 = .ok (.istore_n 2, 1) := by decide +kernel
theorem dX10_areHeard_2 : decode cX10_areHeard 2 = .ok (.iconst 0, 1) := by decide +kernel
theorem dX10_areHeard_3 : decode cX10_areHeard 3 = .ok (.istore_n 3, 1) := by decide +kernel
theorem dX10_areHeard_4 : decode cX10_areHeard 4 = .ok (.iload_n 3, 1) := by decide +kernel
theorem dX10_areHeard_5 : decode cX10_areHeard 5 = .ok (.aload_n 0, 1) := by decide +kernel
theorem dX10_areHeard_6 : decode cX10_areHeard 6 = .ok (.getfield 17, 3) := by decide +kernel
theorem dX10_areHeard_9 : decode cX10_areHeard 9 = .ok (.iconst 0, 1) := by decide +kernel
theorem dX10_areHeard_10 : decode cX10_areHeard 10 = .ok (.iaload, 1) := by decide +kernel
theorem dX10_areHeard_11 : decode cX10_areHeard 11 = .ok (.if_icmp .ge 53, 3) := by decide +kernel
theorem dX10_areHeard_14 : decode cX10_areHeard 14 = .ok (.iload_n 2, 1) := by decide +kernel
theorem dX10_areHeard_15 : decode cX10_areHeard 15 = .ok (.ifCond .eq 41, 3) := by decide +kernel
theorem dX10_areHeard_18 : decode cX10_areHeard 18 = .ok (.aload_n 0, 1) := by decide +kernel
theorem dX10_areHeard_19 : decode cX10_areHeard 19 = .ok (.iload_n 3, 1) := by decide +kernel
theorem dX10_areHeard_20 : decode cX10_areHeard 20 = .ok (.invokevirtual 174, 3) := by decide +kernel
theorem dX10_areHeard_23 : decode cX10_areHeard 23 = .ok (.ifCond .eq 29, 3) := by decide +kernel
theorem dX10_areHeard_26 : decode cX10_areHeard 26 = .ok (.iload_n 1, 1) := by decide +kernel
theorem dX10_areHeard_27 : decode cX10_areHeard 27 = .ok (.aload_n 0, 1) := by decide +kernel
theorem dX10_areHeard_28 : decode cX10_areHeard 28 = .ok (.getfield 20, 3) := by decide +kernel
theorem dX10_areHeard_31 : decode cX10_areHeard 31 = .ok (.iload_n 3, 1) := by decide +kernel
theorem dX10_areHeard_32 : decode cX10_areHeard 32 = .ok (.iaload, 1) := by decide +kernel
theorem dX10_areHeard_33 : decode cX10_areHeard 33 = .ok (.invokestatic 137, 3) := by decide +kernel
theorem dX10_areHeard_36 : decode cX10_areHeard 36 = .ok (.ifCond .ne 16, 3) := by decide +kernel
theorem dX10_areHeard_39 : decode cX10_areHeard 39 = .ok (.iload_n 1, 1) := by decide +kernel
theorem dX10_areHeard_40 : decode cX10_areHeard 40 = .ok (.aload_n 0, 1) := by decide +kernel
theorem dX10_areHeard_41 : decode cX10_areHeard 41 = .ok (.getfield 23, 3) := by decide +kernel
theorem dX10_areHeard_44 : decode cX10_areHeard 44 = .ok (.iload_n 3, 1) := by decide +kernel
theorem dX10_areHeard_45 : decode cX10_areHeard 45 = .ok (.iaload, 1) := by decide +kernel
theorem dX10_areHeard_46 : decode cX10_areHeard 46 = .ok (.invokestatic 137, 3) := by decide +kernel
theorem dX10_areHeard_49 : decode cX10_areHeard 49 = .ok (.ifCond .eq 7, 3) := by decide +kernel
theorem dX10_areHeard_52 : decode cX10_areHeard 52 = .ok (.iconst 1, 1) := by decide +kernel
theorem dX10_areHeard_53 : decode cX10_areHeard 53 = .ok (.goto 4, 3) := by decide +kernel
theorem dX10_areHeard_56 : decode cX10_areHeard 56 = .ok (.iconst 0, 1) := by decide +kernel
theorem dX10_areHeard_57 : decode cX10_areHeard 57 = .ok (.istore_n 2, 1) := by decide +kernel
theorem dX10_areHeard_58 : decode cX10_areHeard 58 = .ok (.iinc 3 1, 3) := by decide +kernel
theorem dX10_areHeard_61 : decode cX10_areHeard 61 = .ok (.goto (-57), 3) := by decide +kernel
theorem dX10_areHeard_64 : decode cX10_areHeard 64 = .ok (.iload_n 2, 1) := by decide +kernel
theorem dX10_areHeard_65 : decode cX10_areHeard 65 = .ok (.ireturn, 1) := by decide +kernel
theorem dX10_fewest_0 : decode cX10_fewest 0 = .ok (.iload_n 1, 1) := by decide +kernel
theorem dX10_fewest_1 : decode cX10_fewest 1 = .ok (.ifCond .ne 12, 3) := by decide +kernel
theorem dX10_fewest_4 : decode cX10_fewest 4 = .ok (.aload_n 0, 1) := by decide +kernel
theorem dX10_fewest_5 : decode cX10_fewest 5 = .ok (.getfield 17, 3) := by decide +kernel
theorem dX10_fewest_8 : decode cX10_fewest 8 = .ok (.iconst 0, 1) := by decide +kernel
theorem dX10_fewest_9 : decode cX10_fewest 9 = .ok (.iaload, 1) := by decide +kernel
theorem dX10_fewest_10 : decode cX10_fewest 10 = .ok (.goto 9, 3) := by decide +kernel
theorem dX10_fewest_13 : decode cX10_fewest 13 = .ok (.aload_n 0, 1) := by decide +kernel
theorem dX10_fewest_14 : decode cX10_fewest 14 = .ok (.getfield 13, 3) := by decide +kernel
theorem dX10_fewest_17 : decode cX10_fewest 17 = .ok (.iconst 0, 1) := by decide +kernel
theorem dX10_fewest_18 : decode cX10_fewest 18 = .ok (.iaload, 1) := by decide +kernel
theorem dX10_fewest_19 : decode cX10_fewest 19 = .ok (.invokestatic 171, 3) := by decide +kernel
theorem dX10_fewest_22 : decode cX10_fewest 22 = .ok (.istore_n 2, 1) := by decide +kernel
theorem dX10_fewest_23 : decode cX10_fewest 23 = .ok (.iload_n 2, 1) := by decide +kernel
theorem dX10_fewest_24 : decode cX10_fewest 24 = .ok (.istore_n 3, 1) := by decide +kernel
theorem dX10_fewest_25 : decode cX10_fewest 25 = .ok (.iload_n 2, 1) := by decide +kernel
theorem dX10_fewest_26 : decode cX10_fewest 26 = .ok (.istore 4, 2) := by decide +kernel
theorem dX10_fewest_28 : decode cX10_fewest 28 = .ok (.iload 4, 2) := by decide +kernel
theorem dX10_fewest_30 : decode cX10_fewest 30 = .ok (.ifCond .lt 65, 3) := by decide +kernel
theorem dX10_fewest_33 : decode cX10_fewest 33 = .ok (.iload 4, 2) := by decide +kernel
theorem dX10_fewest_35 : decode cX10_fewest 35 = .ok (.invokestatic 167, 3) := by decide +kernel
theorem dX10_fewest_38 : decode cX10_fewest 38 = .ok (.iload_n 3, 1) := by decide +kernel
theorem dX10_fewest_39 : decode cX10_fewest 39 = .ok (.invokestatic 167, 3) := by decide +kernel
theorem dX10_fewest_42 : decode cX10_fewest 42 = .ok (.if_icmp .gt 7, 3) := by decide +kernel
theorem dX10_fewest_45 : decode cX10_fewest 45 = .ok (.iconst 1, 1) := by decide +kernel
theorem dX10_fewest_46 : decode cX10_fewest 46 = .ok (.goto 4, 3) := by decide +kernel
theorem dX10_fewest_49 : decode cX10_fewest 49 = .ok (.iconst 0, 1) := by decide +kernel
theorem dX10_fewest_50 : decode cX10_fewest 50 = .ok (.istore 5, 2) := by decide +kernel
theorem dX10_fewest_52 : decode cX10_fewest 52 = .ok (.iload 5, 2) := by decide +kernel
theorem dX10_fewest_54 : decode cX10_fewest 54 = .ok (.ifCond .eq 33, 3) := by decide +kernel
theorem dX10_fewest_57 : decode cX10_fewest 57 = .ok (.iload_n 1, 1) := by decide +kernel
theorem dX10_fewest_58 : decode cX10_fewest 58 = .ok (.ifCond .ne 15, 3) := by decide +kernel
theorem dX10_fewest_61 : decode cX10_fewest 61 = .ok (.aload_n 0, 1) := by decide +kernel
theorem dX10_fewest_62 : decode cX10_fewest 62 = .ok (.iload 4, 2) := by decide +kernel
theorem dX10_fewest_64 : decode cX10_fewest 64 = .ok (.invokevirtual 180, 3) := by decide +kernel
theorem dX10_fewest_67 : decode cX10_fewest 67 = .ok (.ifCond .eq 20, 3) := by decide +kernel
theorem dX10_fewest_70 : decode cX10_fewest 70 = .ok (.goto 12, 3) := by decide +kernel
theorem dX10_fewest_73 : decode cX10_fewest 73 = .ok (.aload_n 0, 1) := by decide +kernel
theorem dX10_fewest_74 : decode cX10_fewest 74 = .ok (.iload 4, 2) := by decide +kernel
theorem dX10_fewest_76 : decode cX10_fewest 76 = .ok (.invokevirtual 183, 3) := by decide +kernel
theorem dX10_fewest_79 : decode cX10_fewest 79 = .ok (.ifCond .eq 8, 3) := by decide +kernel
theorem dX10_fewest_82 : decode cX10_fewest 82 = .ok (.iload 4, 2) := by decide +kernel
theorem dX10_fewest_84 : decode cX10_fewest 84 = .ok (.goto 4, 3) := by decide +kernel
theorem dX10_fewest_87 : decode cX10_fewest 87 = .ok (.iload_n 3, 1) := by decide +kernel
theorem dX10_fewest_88 : decode cX10_fewest 88 = .ok (.istore_n 3, 1) := by decide +kernel
theorem dX10_fewest_89 : decode cX10_fewest 89 = .ok (.iinc 4 (-1), 3) := by decide +kernel
theorem dX10_fewest_92 : decode cX10_fewest 92 = .ok (.goto (-64), 3) := by decide +kernel
theorem dX10_fewest_95 : decode cX10_fewest 95 = .ok (.iload_n 3, 1) := by decide +kernel
theorem dX10_fewest_96 : decode cX10_fewest 96 = .ok (.ireturn, 1) := by decide +kernel
theorem dX10_now_0 : decode cX10_now 0 = .ok (.iload_n 1, 1) := by decide +kernel
theorem dX10_now_1 : decode cX10_now 1 = .ok (.tableswitch 92 0 6 #[43, 51, 59, 67, 75, 80, 86], 43) := by decide +kernel
theorem dX10_now_44 : decode cX10_now 44 = .ok (.aload_n 0, 1) := by decide +kernel
theorem dX10_now_45 : decode cX10_now 45 = .ok (.getfield 50, 3) := by decide +kernel
theorem dX10_now_48 : decode cX10_now 48 = .ok (.bipush 16, 2) := by decide +kernel
theorem dX10_now_50 : decode cX10_now 50 = .ok (.iaload, 1) := by decide +kernel
theorem dX10_now_51 : decode cX10_now 51 = .ok (.ireturn, 1) := by decide +kernel
theorem dX10_now_52 : decode cX10_now 52 = .ok (.aload_n 0, 1) := by decide +kernel
theorem dX10_now_53 : decode cX10_now 53 = .ok (.getfield 50, 3) := by decide +kernel
theorem dX10_now_56 : decode cX10_now 56 = .ok (.bipush 14, 2) := by decide +kernel
theorem dX10_now_58 : decode cX10_now 58 = .ok (.iaload, 1) := by decide +kernel
theorem dX10_now_59 : decode cX10_now 59 = .ok (.ireturn, 1) := by decide +kernel
theorem dX10_now_60 : decode cX10_now 60 = .ok (.aload_n 0, 1) := by decide +kernel
theorem dX10_now_61 : decode cX10_now 61 = .ok (.getfield 50, 3) := by decide +kernel
theorem dX10_now_64 : decode cX10_now 64 = .ok (.bipush 15, 2) := by decide +kernel
theorem dX10_now_66 : decode cX10_now 66 = .ok (.iaload, 1) := by decide +kernel
theorem dX10_now_67 : decode cX10_now 67 = .ok (.ireturn, 1) := by decide +kernel
theorem dX10_now_68 : decode cX10_now 68 = .ok (.aload_n 0, 1) := by decide +kernel
theorem dX10_now_69 : decode cX10_now 69 = .ok (.getfield 50, 3) := by decide +kernel
theorem dX10_now_72 : decode cX10_now 72 = .ok (.bipush 17, 2) := by decide +kernel
theorem dX10_now_74 : decode cX10_now 74 = .ok (.iaload, 1) := by decide +kernel
theorem dX10_now_75 : decode cX10_now 75 = .ok (.ireturn, 1) := by decide +kernel
theorem dX10_now_76 : decode cX10_now 76 = .ok (.aload_n 0, 1) := by decide +kernel
theorem dX10_now_77 : decode cX10_now 77 = .ok (.invokevirtual 186, 3) := by decide +kernel
theorem dX10_now_80 : decode cX10_now 80 = .ok (.ireturn, 1) := by decide +kernel
theorem dX10_now_81 : decode cX10_now 81 = .ok (.aload_n 0, 1) := by decide +kernel
theorem dX10_now_82 : decode cX10_now 82 = .ok (.iconst 0, 1) := by decide +kernel
theorem dX10_now_83 : decode cX10_now 83 = .ok (.invokevirtual 189, 3) := by decide +kernel
theorem dX10_now_86 : decode cX10_now 86 = .ok (.ireturn, 1) := by decide +kernel
theorem dX10_now_87 : decode cX10_now 87 = .ok (.aload_n 0, 1) := by decide +kernel
theorem dX10_now_88 : decode cX10_now 88 = .ok (.iconst 1, 1) := by decide +kernel
theorem dX10_now_89 : decode cX10_now 89 = .ok (.invokevirtual 189, 3) := by decide +kernel
theorem dX10_now_92 : decode cX10_now 92 = .ok (.ireturn, 1) := by decide +kernel
theorem dX10_now_93 : decode cX10_now 93 = .ok (.iconst (-1), 1) := by decide +kernel
theorem dX10_now_94 : decode cX10_now 94 = .ok (.ireturn, 1) := by decide +kernel
theorem dX10_song_0 : decode cX10_song 0 = .ok (.iload_n 1, 1) := by decide +kernel
theorem dX10_song_1 : decode cX10_song 1 = .ok (.iconst 0, 1) := by decide +kernel
theorem dX10_song_2 : decode cX10_song 2 = .ok (.bipush 11, 2) := by decide +kernel
theorem dX10_song_4 : decode cX10_song 4 = .ok (.invokestatic 81, 3) := by decide +kernel
theorem dX10_song_7 : decode cX10_song 7 = .ok (.ifCond .ne 5, 3) := by decide +kernel
theorem dX10_song_10 : decode cX10_song 10 = .ok (.iconst (-1), 1) := by decide +kernel
theorem dX10_song_11 : decode cX10_song 11 = .ok (.ireturn, 1) := by decide +kernel
theorem dX10_song_12 : decode cX10_song 12 = .ok (.iload_n 1, 1) := by decide +kernel
theorem dX10_song_13 : decode cX10_song 13 = .ok (.aload_n 0, 1) := by decide +kernel
theorem dX10_song_14 : decode cX10_song 14 = .ok (.getfield 50, 3) := by decide +kernel
theorem dX10_song_17 : decode cX10_song 17 = .ok (.bipush 17, 2) := by decide +kernel
theorem dX10_song_19 : decode cX10_song 19 = .ok (.iaload, 1) := by decide +kernel
theorem dX10_song_20 : decode cX10_song 20 = .ok (.if_icmp .ge 25, 3) := by decide +kernel
theorem dX10_song_23 : decode cX10_song 23 = .ok (.aload_n 0, 1) := by decide +kernel
theorem dX10_song_24 : decode cX10_song 24 = .ok (.getfield 50, 3) := by decide +kernel
theorem dX10_song_27 : decode cX10_song 27 = .ok (.bipush 18, 2) := by decide +kernel
theorem dX10_song_29 : decode cX10_song 29 = .ok (.aload_n 0, 1) := by decide +kernel
theorem dX10_song_30 : decode cX10_song 30 = .ok (.getfield 50, 3) := by decide +kernel
theorem dX10_song_33 : decode cX10_song 33 = .ok (.bipush 17, 2) := by decide +kernel
theorem dX10_song_35 : decode cX10_song 35 = .ok (.iaload, 1) := by decide +kernel
theorem dX10_song_36 : decode cX10_song 36 = .ok (.iadd, 1) := by decide +kernel
theorem dX10_song_37 : decode cX10_song 37 = .ok (.iconst 1, 1) := by decide +kernel
theorem dX10_song_38 : decode cX10_song 38 = .ok (.isub, 1) := by decide +kernel
theorem dX10_song_39 : decode cX10_song 39 = .ok (.iload_n 1, 1) := by decide +kernel
theorem dX10_song_40 : decode cX10_song 40 = .ok (.isub, 1) := by decide +kernel
theorem dX10_song_41 : decode cX10_song 41 = .ok (.iaload, 1) := by decide +kernel
theorem dX10_song_42 : decode cX10_song 42 = .ok (.goto 5, 3) := by decide +kernel
theorem dX10_song_45 : decode cX10_song 45 = .ok (.bipush (-9), 2) := by decide +kernel
theorem dX10_song_47 : decode cX10_song 47 = .ok (.ireturn, 1) := by decide +kernel
theorem dX10_who_0 : decode cX10_who 0 = .ok (.iload_n 1, 1) := by decide +kernel
theorem dX10_who_1 : decode cX10_who 1 = .ok (.iconst 0, 1) := by decide +kernel
theorem dX10_who_2 : decode cX10_who 2 = .ok (.bipush 43, 2) := by decide +kernel
theorem dX10_who_4 : decode cX10_who 4 = .ok (.invokestatic 81, 3) := by decide +kernel
theorem dX10_who_7 : decode cX10_who 7 = .ok (.ifCond .ne 5, 3) := by decide +kernel
theorem dX10_who_10 : decode cX10_who 10 = .ok (.iconst (-1), 1) := by decide +kernel
theorem dX10_who_11 : decode cX10_who 11 = .ok (.ireturn, 1) := by decide +kernel
theorem dX10_who_12 : decode cX10_who 12 = .ok (.iconst 0, 1) := by decide +kernel
theorem dX10_who_13 : decode cX10_who 13 = .ok (.istore_n 2, 1) := by decide +kernel
theorem dX10_who_14 : decode cX10_who 14 = .ok (.iconst 0, 1) := by decide +kernel
theorem dX10_who_15 : decode cX10_who 15 = .ok (.istore_n 3, 1) := by decide +kernel
theorem dX10_who_16 : decode cX10_who 16 = .ok (.iload_n 3, 1) := by decide +kernel
theorem dX10_who_17 : decode cX10_who 17 = .ok (.aload_n 0, 1) := by decide +kernel
theorem dX10_who_18 : decode cX10_who 18 = .ok (.getfield 38, 3) := by decide +kernel
theorem dX10_who_21 : decode cX10_who 21 = .ok (.iconst 0, 1) := by decide +kernel
theorem dX10_who_22 : decode cX10_who 22 = .ok (.iaload, 1) := by decide +kernel
theorem dX10_who_23 : decode cX10_who 23 = .ok (.if_icmp .ge 84, 3) := by decide +kernel
theorem dX10_who_26 : decode cX10_who 26 = .ok (.iconst 0, 1) := by decide +kernel
theorem dX10_who_27 : decode cX10_who 27 = .ok (.istore 4, 2) := by decide +kernel
theorem dX10_who_29 : decode cX10_who 29 = .ok (.iload 4, 2) := by decide +kernel
theorem dX10_who_31 : decode cX10_who 31 = .ok (.aload_n 0, 1) := by decide +kernel
theorem dX10_who_32 : decode cX10_who 32 = .ok (.getfield 17, 3) := by decide +kernel
theorem dX10_who_35 : decode cX10_who 35 = .ok (.iconst 0, 1) := by decide +kernel
theorem dX10_who_36 : decode cX10_who 36 = .ok (.iaload, 1) := by decide +kernel
theorem dX10_who_37 : decode cX10_who 37 = .ok (.if_icmp .ge 64, 3) := by decide +kernel
theorem dX10_who_40 : decode cX10_who 40 = .ok (.aload_n 0, 1) := by decide +kernel
theorem dX10_who_41 : decode cX10_who 41 = .ok (.iload 4, 2) := by decide +kernel
theorem dX10_who_43 : decode cX10_who 43 = .ok (.aload_n 0, 1) := by decide +kernel
theorem dX10_who_44 : decode cX10_who 44 = .ok (.getfield 50, 3) := by decide +kernel
theorem dX10_who_47 : decode cX10_who 47 = .ok (.iconst 0, 1) := by decide +kernel
theorem dX10_who_48 : decode cX10_who 48 = .ok (.iload_n 3, 1) := by decide +kernel
theorem dX10_who_49 : decode cX10_who 49 = .ok (.iadd, 1) := by decide +kernel
theorem dX10_who_50 : decode cX10_who 50 = .ok (.iaload, 1) := by decide +kernel
theorem dX10_who_51 : decode cX10_who 51 = .ok (.invokevirtual 155, 3) := by decide +kernel
theorem dX10_who_54 : decode cX10_who 54 = .ok (.ifCond .eq 23, 3) := by decide +kernel
theorem dX10_who_57 : decode cX10_who 57 = .ok (.aload_n 0, 1) := by decide +kernel
theorem dX10_who_58 : decode cX10_who 58 = .ok (.aload_n 0, 1) := by decide +kernel
theorem dX10_who_59 : decode cX10_who 59 = .ok (.getfield 41, 3) := by decide +kernel
theorem dX10_who_62 : decode cX10_who 62 = .ok (.iload_n 3, 1) := by decide +kernel
theorem dX10_who_63 : decode cX10_who 63 = .ok (.iaload, 1) := by decide +kernel
theorem dX10_who_64 : decode cX10_who 64 = .ok (.iload 4, 2) := by decide +kernel
theorem dX10_who_66 : decode cX10_who 66 = .ok (.invokevirtual 152, 3) := by decide +kernel
theorem dX10_who_69 : decode cX10_who 69 = .ok (.iload_n 1, 1) := by decide +kernel
theorem dX10_who_70 : decode cX10_who 70 = .ok (.if_icmp .ne 7, 3) := by decide +kernel
theorem dX10_who_73 : decode cX10_who 73 = .ok (.iconst 1, 1) := by decide +kernel
theorem dX10_who_74 : decode cX10_who 74 = .ok (.goto 4, 3) := by decide +kernel
theorem dX10_who_77 : decode cX10_who 77 = .ok (.iconst 0, 1) := by decide +kernel
theorem dX10_who_78 : decode cX10_who 78 = .ok (.istore 5, 2) := by decide +kernel
theorem dX10_who_80 : decode cX10_who 80 = .ok (.iload_n 2, 1) := by decide +kernel
theorem dX10_who_81 : decode cX10_who 81 = .ok (.iload 5, 2) := by decide +kernel
theorem dX10_who_83 : decode cX10_who 83 = .ok (.ifCond .eq 9, 3) := by decide +kernel
theorem dX10_who_86 : decode cX10_who 86 = .ok (.iconst 1, 1) := by decide +kernel
theorem dX10_who_87 : decode cX10_who 87 = .ok (.iload_n 3, 1) := by decide +kernel
theorem dX10_who_88 : decode cX10_who 88 = .ok (.ishl, 1) := by decide +kernel
theorem dX10_who_89 : decode cX10_who 89 = .ok (.goto 4, 3) := by decide +kernel
theorem dX10_who_92 : decode cX10_who 92 = .ok (.iconst 0, 1) := by decide +kernel
theorem dX10_who_93 : decode cX10_who 93 = .ok (.ior, 1) := by decide +kernel
theorem dX10_who_94 : decode cX10_who 94 = .ok (.istore_n 2, 1) := by decide +kernel
theorem dX10_who_95 : decode cX10_who 95 = .ok (.iinc 4 1, 3) := by decide +kernel
theorem dX10_who_98 : decode cX10_who 98 = .ok (.goto (-69), 3) := by decide +kernel
theorem dX10_who_101 : decode cX10_who 101 = .ok (.iinc 3 1, 3) := by decide +kernel
theorem dX10_who_104 : decode cX10_who 104 = .ok (.goto (-88), 3) := by decide +kernel
theorem dX10_who_107 : decode cX10_who 107 = .ok (.iload_n 2, 1) := by decide +kernel
theorem dX10_who_108 : decode cX10_who 108 = .ok (.ireturn, 1) := by decide +kernel
theorem dX10_hears_0 : decode cX10_hears 0 = .ok (.iload_n 1, 1) := by decide +kernel
theorem dX10_hears_1 : decode cX10_hears 1 = .ok (.iconst 1, 1) := by decide +kernel
theorem dX10_hears_2 : decode cX10_hears 2 = .ok (.bipush 43, 2) := by decide +kernel
theorem dX10_hears_4 : decode cX10_hears 4 = .ok (.invokestatic 81, 3) := by decide +kernel
theorem dX10_hears_7 : decode cX10_hears 7 = .ok (.ifCond .ne 5, 3) := by decide +kernel
theorem dX10_hears_10 : decode cX10_hears 10 = .ok (.iconst (-1), 1) := by decide +kernel
theorem dX10_hears_11 : decode cX10_hears 11 = .ok (.ireturn, 1) := by decide +kernel
theorem dX10_hears_12 : decode cX10_hears 12 = .ok (.aload_n 0, 1) := by decide +kernel
theorem dX10_hears_13 : decode cX10_hears 13 = .ok (.getfield 134, 3) := by decide +kernel
theorem dX10_hears_16 : decode cX10_hears 16 = .ok (.bipush 6, 2) := by decide +kernel
theorem dX10_hears_18 : decode cX10_hears 18 = .ok (.if_icmp .ne 6, 3) := by decide +kernel
theorem dX10_hears_21 : decode cX10_hears 21 = .ok (.bipush (-3), 2) := by decide +kernel
theorem dX10_hears_23 : decode cX10_hears 23 = .ok (.ireturn, 1) := by decide +kernel
theorem dX10_hears_24 : decode cX10_hears 24 = .ok (.aload_n 0, 1) := by decide +kernel
theorem dX10_hears_25 : decode cX10_hears 25 = .ok (.getfield 66, 3) := by decide +kernel
theorem dX10_hears_28 : decode cX10_hears 28 = .ok (.aload_n 0, 1) := by decide +kernel
theorem dX10_hears_29 : decode cX10_hears 29 = .ok (.getfield 134, 3) := by decide +kernel
theorem dX10_hears_32 : decode cX10_hears 32 = .ok (.iload_n 1, 1) := by decide +kernel
theorem dX10_hears_33 : decode cX10_hears 33 = .ok (.iastore, 1) := by decide +kernel
theorem dX10_hears_34 : decode cX10_hears 34 = .ok (.aload_n 0, 1) := by decide +kernel
theorem dX10_hears_35 : decode cX10_hears 35 = .ok (.dup, 1) := by decide +kernel
theorem dX10_hears_36 : decode cX10_hears 36 = .ok (.getfield 134, 3) := by decide +kernel
theorem dX10_hears_39 : decode cX10_hears 39 = .ok (.iconst 1, 1) := by decide +kernel
theorem dX10_hears_40 : decode cX10_hears 40 = .ok (.iadd, 1) := by decide +kernel
theorem dX10_hears_41 : decode cX10_hears 41 = .ok (.putfield 134, 3) := by decide +kernel
theorem dX10_hears_44 : decode cX10_hears 44 = .ok (.aload_n 0, 1) := by decide +kernel
theorem dX10_hears_45 : decode cX10_hears 45 = .ok (.getfield 134, 3) := by decide +kernel
theorem dX10_hears_48 : decode cX10_hears 48 = .ok (.ireturn, 1) := by decide +kernel
theorem dX10_forget_0 : decode cX10_forget 0 = .ok (.aload_n 0, 1) := by decide +kernel
theorem dX10_forget_1 : decode cX10_forget 1 = .ok (.getfield 134, 3) := by decide +kernel
theorem dX10_forget_4 : decode cX10_forget 4 = .ok (.istore_n 1, 1) := by decide +kernel
theorem dX10_forget_5 : decode cX10_forget 5 = .ok (.aload_n 0, 1) := by decide +kernel
theorem dX10_forget_6 : decode cX10_forget 6 = .ok (.iconst 0, 1) := by decide +kernel
theorem dX10_forget_7 : decode cX10_forget 7 = .ok (.putfield 134, 3) := by decide +kernel
theorem dX10_forget_10 : decode cX10_forget 10 = .ok (.iload_n 1, 1) := by decide +kernel
theorem dX10_forget_11 : decode cX10_forget 11 = .ok (.ireturn, 1) := by decide +kernel
theorem dX10_ways_0 : decode cX10_ways 0 = .ok (.aload_n 0, 1) := by decide +kernel
theorem dX10_ways_1 : decode cX10_ways 1 = .ok (.iload_n 1, 1) := by decide +kernel
theorem dX10_ways_2 : decode cX10_ways 2 = .ok (.invokevirtual 145, 3) := by decide +kernel
theorem dX10_ways_5 : decode cX10_ways 5 = .ok (.ifCond .eq 11, 3) := by decide +kernel
theorem dX10_ways_8 : decode cX10_ways 8 = .ok (.aload_n 0, 1) := by decide +kernel
theorem dX10_ways_9 : decode cX10_ways 9 = .ok (.iload_n 2, 1) := by decide +kernel
theorem dX10_ways_10 : decode cX10_ways 10 = .ok (.invokevirtual 192, 3) := by decide +kernel
theorem dX10_ways_13 : decode cX10_ways 13 = .ok (.ifCond .ne 5, 3) := by decide +kernel
theorem dX10_ways_16 : decode cX10_ways 16 = .ok (.iconst (-1), 1) := by decide +kernel
theorem dX10_ways_17 : decode cX10_ways 17 = .ok (.ireturn, 1) := by decide +kernel
theorem dX10_ways_18 : decode cX10_ways 18 = .ok (.iconst 0, 1) := by decide +kernel
theorem dX10_ways_19 : decode cX10_ways 19 = .ok (.istore_n 3, 1) := by decide +kernel
theorem dX10_ways_20 : decode cX10_ways 20 = .ok (.iload_n 3, 1) := by decide +kernel
theorem dX10_ways_21 : decode cX10_ways 21 = .ok (.bipush 8, 2) := by decide +kernel
theorem dX10_ways_23 : decode cX10_ways 23 = .ok (.if_icmp .ge 25, 3) := by decide +kernel
theorem dX10_ways_26 : decode cX10_ways 26 = .ok (.aload_n 0, 1) := by decide +kernel
theorem dX10_ways_27 : decode cX10_ways 27 = .ok (.getfield 69, 3) := by decide +kernel
theorem dX10_ways_30 : decode cX10_ways 30 = .ok (.iload_n 3, 1) := by decide +kernel
theorem dX10_ways_31 : decode cX10_ways 31 = .ok (.iload_n 3, 1) := by decide +kernel
theorem dX10_ways_32 : decode cX10_ways 32 = .ok (.iload_n 2, 1) := by decide +kernel
theorem dX10_ways_33 : decode cX10_ways 33 = .ok (.if_icmp .ne 7, 3) := by decide +kernel
theorem dX10_ways_36 : decode cX10_ways 36 = .ok (.iconst 1, 1) := by decide +kernel
theorem dX10_ways_37 : decode cX10_ways 37 = .ok (.goto 4, 3) := by decide +kernel
theorem dX10_ways_40 : decode cX10_ways 40 = .ok (.iconst 0, 1) := by decide +kernel
theorem dX10_ways_41 : decode cX10_ways 41 = .ok (.iastore, 1) := by decide +kernel
theorem dX10_ways_42 : decode cX10_ways 42 = .ok (.iinc 3 1, 3) := by decide +kernel
theorem dX10_ways_45 : decode cX10_ways 45 = .ok (.goto (-25), 3) := by decide +kernel
theorem dX10_ways_48 : decode cX10_ways 48 = .ok (.iconst 0, 1) := by decide +kernel
theorem dX10_ways_49 : decode cX10_ways 49 = .ok (.istore_n 3, 1) := by decide +kernel
theorem dX10_ways_50 : decode cX10_ways 50 = .ok (.iload_n 3, 1) := by decide +kernel
theorem dX10_ways_51 : decode cX10_ways 51 = .ok (.aload_n 0, 1) := by decide +kernel
theorem dX10_ways_52 : decode cX10_ways 52 = .ok (.getfield 134, 3) := by decide +kernel
theorem dX10_ways_55 : decode cX10_ways 55 = .ok (.if_icmp .ge 179, 3) := by decide +kernel
theorem dX10_ways_58 : decode cX10_ways 58 = .ok (.iconst 0, 1) := by decide +kernel
theorem dX10_ways_59 : decode cX10_ways 59 = .ok (.istore 4, 2) := by decide +kernel
theorem dX10_ways_61 : decode cX10_ways 61 = .ok (.iload 4, 2) := by decide +kernel
theorem dX10_ways_63 : decode cX10_ways 63 = .ok (.bipush 8, 2) := by decide +kernel
theorem dX10_ways_65 : decode cX10_ways 65 = .ok (.if_icmp .ge 17, 3) := by decide +kernel
theorem dX10_ways_68 : decode cX10_ways 68 = .ok (.aload_n 0, 1) := by decide +kernel
theorem dX10_ways_69 : decode cX10_ways 69 = .ok (.getfield 72, 3) := by decide +kernel
theorem dX10_ways_72 : decode cX10_ways 72 = .ok (.iload 4, 2) := by decide +kernel
theorem dX10_ways_74 : decode cX10_ways 74 = .ok (.iconst 0, 1) := by decide +kernel
theorem dX10_ways_75 : decode cX10_ways 75 = .ok (.iastore, 1) := by decide +kernel
theorem dX10_ways_76 : decode cX10_ways 76 = .ok (.iinc 4 1, 3) := by decide +kernel
theorem dX10_ways_79 : decode cX10_ways 79 = .ok (.goto (-18), 3) := by decide +kernel
theorem dX10_ways_82 : decode cX10_ways 82 = .ok (.iconst 0, 1) := by decide +kernel
theorem dX10_ways_83 : decode cX10_ways 83 = .ok (.istore 4, 2) := by decide +kernel
theorem dX10_ways_85 : decode cX10_ways 85 = .ok (.iload 4, 2) := by decide +kernel
theorem dX10_ways_87 : decode cX10_ways 87 = .ok (.aload_n 0, 1) := by decide +kernel
theorem dX10_ways_88 : decode cX10_ways 88 = .ok (.getfield 17, 3) := by decide +kernel
theorem dX10_ways_91 : decode cX10_ways 91 = .ok (.iconst 0, 1) := by decide +kernel
theorem dX10_ways_92 : decode cX10_ways 92 = .ok (.iaload, 1) := by decide +kernel
theorem dX10_ways_93 : decode cX10_ways 93 = .ok (.if_icmp .ge 105, 3) := by decide +kernel
theorem dX10_ways_96 : decode cX10_ways 96 = .ok (.aload_n 0, 1) := by decide +kernel
theorem dX10_ways_97 : decode cX10_ways 97 = .ok (.iload_n 1, 1) := by decide +kernel
theorem dX10_ways_98 : decode cX10_ways 98 = .ok (.iload 4, 2) := by decide +kernel
theorem dX10_ways_100 : decode cX10_ways 100 = .ok (.invokevirtual 152, 3) := by decide +kernel
theorem dX10_ways_103 : decode cX10_ways 103 = .ok (.aload_n 0, 1) := by decide +kernel
theorem dX10_ways_104 : decode cX10_ways 104 = .ok (.getfield 66, 3) := by decide +kernel
theorem dX10_ways_107 : decode cX10_ways 107 = .ok (.iload_n 3, 1) := by decide +kernel
theorem dX10_ways_108 : decode cX10_ways 108 = .ok (.iaload, 1) := by decide +kernel
theorem dX10_ways_109 : decode cX10_ways 109 = .ok (.if_icmp .ne 83, 3) := by decide +kernel
theorem dX10_ways_112 : decode cX10_ways 112 = .ok (.aload_n 0, 1) := by decide +kernel
theorem dX10_ways_113 : decode cX10_ways 113 = .ok (.getfield 72, 3) := by decide +kernel
theorem dX10_ways_116 : decode cX10_ways 116 = .ok (.aload_n 0, 1) := by decide +kernel
theorem dX10_ways_117 : decode cX10_ways 117 = .ok (.getfield 23, 3) := by decide +kernel
theorem dX10_ways_120 : decode cX10_ways 120 = .ok (.iload 4, 2) := by decide +kernel
theorem dX10_ways_122 : decode cX10_ways 122 = .ok (.iaload, 1) := by decide +kernel
theorem dX10_ways_123 : decode cX10_ways 123 = .ok (.aload_n 0, 1) := by decide +kernel
theorem dX10_ways_124 : decode cX10_ways 124 = .ok (.getfield 72, 3) := by decide +kernel
theorem dX10_ways_127 : decode cX10_ways 127 = .ok (.aload_n 0, 1) := by decide +kernel
theorem dX10_ways_128 : decode cX10_ways 128 = .ok (.getfield 23, 3) := by decide +kernel
theorem dX10_ways_131 : decode cX10_ways 131 = .ok (.iload 4, 2) := by decide +kernel
theorem dX10_ways_133 : decode cX10_ways 133 = .ok (.iaload, 1) := by decide +kernel
theorem dX10_ways_134 : decode cX10_ways 134 = .ok (.iaload, 1) := by decide +kernel
theorem dX10_ways_135 : decode cX10_ways 135 = .ok (.aload_n 0, 1) := by decide +kernel
theorem dX10_ways_136 : decode cX10_ways 136 = .ok (.getfield 69, 3) := by decide +kernel
theorem dX10_ways_139 : decode cX10_ways 139 = .ok (.aload_n 0, 1) := by decide +kernel
theorem dX10_ways_140 : decode cX10_ways 140 = .ok (.getfield 20, 3) := by decide +kernel
theorem dX10_ways_143 : decode cX10_ways 143 = .ok (.iload 4, 2) := by decide +kernel
theorem dX10_ways_145 : decode cX10_ways 145 = .ok (.iaload, 1) := by decide +kernel
theorem dX10_ways_146 : decode cX10_ways 146 = .ok (.iaload, 1) := by decide +kernel
theorem dX10_ways_147 : decode cX10_ways 147 = .ok (.iadd, 1) := by decide +kernel
theorem dX10_ways_148 : decode cX10_ways 148 = .ok (.ldc 195, 2) := by decide +kernel
theorem dX10_ways_150 : decode cX10_ways 150 = .ok (.irem, 1) := by decide +kernel
theorem dX10_ways_151 : decode cX10_ways 151 = .ok (.iastore, 1) := by decide +kernel
theorem dX10_ways_152 : decode cX10_ways 152 = .ok (.aload_n 0, 1) := by decide +kernel
theorem dX10_ways_153 : decode cX10_ways 153 = .ok (.getfield 72, 3) := by decide +kernel
theorem dX10_ways_156 : decode cX10_ways 156 = .ok (.aload_n 0, 1) := by decide +kernel
theorem dX10_ways_157 : decode cX10_ways 157 = .ok (.getfield 20, 3) := by decide +kernel
theorem dX10_ways_160 : decode cX10_ways 160 = .ok (.iload 4, 2) := by decide +kernel
theorem dX10_ways_162 : decode cX10_ways 162 = .ok (.iaload, 1) := by decide +kernel
theorem dX10_ways_163 : decode cX10_ways 163 = .ok (.aload_n 0, 1) := by decide +kernel
theorem dX10_ways_164 : decode cX10_ways 164 = .ok (.getfield 72, 3) := by decide +kernel
theorem dX10_ways_167 : decode cX10_ways 167 = .ok (.aload_n 0, 1) := by decide +kernel
theorem dX10_ways_168 : decode cX10_ways 168 = .ok (.getfield 20, 3) := by decide +kernel
theorem dX10_ways_171 : decode cX10_ways 171 = .ok (.iload 4, 2) := by decide +kernel
theorem dX10_ways_173 : decode cX10_ways 173 = .ok (.iaload, 1) := by decide +kernel
theorem dX10_ways_174 : decode cX10_ways 174 = .ok (.iaload, 1) := by decide +kernel
theorem dX10_ways_175 : decode cX10_ways 175 = .ok (.aload_n 0, 1) := by decide +kernel
theorem dX10_ways_176 : decode cX10_ways 176 = .ok (.getfield 69, 3) := by decide +kernel
theorem dX10_ways_179 : decode cX10_ways 179 = .ok (.aload_n 0, 1) := by decide +kernel
theorem dX10_ways_180 : decode cX10_ways 180 = .ok (.getfield 23, 3) := by decide +kernel
theorem dX10_ways_183 : decode cX10_ways 183 = .ok (.iload 4, 2) := by decide +kernel
theorem dX10_ways_185 : decode cX10_ways 185 = .ok (.iaload, 1) := by decide +kernel
theorem dX10_ways_186 : decode cX10_ways 186 = .ok (.iaload, 1) := by decide +kernel
theorem dX10_ways_187 : decode cX10_ways 187 = .ok (.iadd, 1) := by decide +kernel
theorem dX10_ways_188 : decode cX10_ways 188 = .ok (.ldc 195, 2) := by decide +kernel
theorem dX10_ways_190 : decode cX10_ways 190 = .ok (.irem, 1) := by decide +kernel
theorem dX10_ways_191 : decode cX10_ways 191 = .ok (.iastore, 1) := by decide +kernel
theorem dX10_ways_192 : decode cX10_ways 192 = .ok (.iinc 4 1, 3) := by decide +kernel
theorem dX10_ways_195 : decode cX10_ways 195 = .ok (.goto (-110), 3) := by decide +kernel
theorem dX10_ways_198 : decode cX10_ways 198 = .ok (.iconst 0, 1) := by decide +kernel
theorem dX10_ways_199 : decode cX10_ways 199 = .ok (.istore 4, 2) := by decide +kernel
theorem dX10_ways_201 : decode cX10_ways 201 = .ok (.iload 4, 2) := by decide +kernel
theorem dX10_ways_203 : decode cX10_ways 203 = .ok (.bipush 8, 2) := by decide +kernel
theorem dX10_ways_205 : decode cX10_ways 205 = .ok (.if_icmp .ge 23, 3) := by decide +kernel
theorem dX10_ways_208 : decode cX10_ways 208 = .ok (.aload_n 0, 1) := by decide +kernel
theorem dX10_ways_209 : decode cX10_ways 209 = .ok (.getfield 69, 3) := by decide +kernel
theorem dX10_ways_212 : decode cX10_ways 212 = .ok (.iload 4, 2) := by decide +kernel
theorem dX10_ways_214 : decode cX10_ways 214 = .ok (.aload_n 0, 1) := by decide +kernel
theorem dX10_ways_215 : decode cX10_ways 215 = .ok (.getfield 72, 3) := by decide +kernel
theorem dX10_ways_218 : decode cX10_ways 218 = .ok (.iload 4, 2) := by decide +kernel
theorem dX10_ways_220 : decode cX10_ways 220 = .ok (.iaload, 1) := by decide +kernel
theorem dX10_ways_221 : decode cX10_ways 221 = .ok (.iastore, 1) := by decide +kernel
theorem dX10_ways_222 : decode cX10_ways 222 = .ok (.iinc 4 1, 3) := by decide +kernel
theorem dX10_ways_225 : decode cX10_ways 225 = .ok (.goto (-24), 3) := by decide +kernel
theorem dX10_ways_228 : decode cX10_ways 228 = .ok (.iinc 3 1, 3) := by decide +kernel
theorem dX10_ways_231 : decode cX10_ways 231 = .ok (.goto (-181), 3) := by decide +kernel
theorem dX10_ways_234 : decode cX10_ways 234 = .ok (.iconst 0, 1) := by decide +kernel
theorem dX10_ways_235 : decode cX10_ways 235 = .ok (.istore_n 3, 1) := by decide +kernel
theorem dX10_ways_236 : decode cX10_ways 236 = .ok (.iconst 0, 1) := by decide +kernel
theorem dX10_ways_237 : decode cX10_ways 237 = .ok (.istore 4, 2) := by decide +kernel
theorem dX10_ways_239 : decode cX10_ways 239 = .ok (.iload 4, 2) := by decide +kernel
theorem dX10_ways_241 : decode cX10_ways 241 = .ok (.bipush 8, 2) := by decide +kernel
theorem dX10_ways_243 : decode cX10_ways 243 = .ok (.if_icmp .ge 22, 3) := by decide +kernel
theorem dX10_ways_246 : decode cX10_ways 246 = .ok (.iload_n 3, 1) := by decide +kernel
theorem dX10_ways_247 : decode cX10_ways 247 = .ok (.aload_n 0, 1) := by decide +kernel
theorem dX10_ways_248 : decode cX10_ways 248 = .ok (.getfield 69, 3) := by decide +kernel
theorem dX10_ways_251 : decode cX10_ways 251 = .ok (.iload 4, 2) := by decide +kernel
theorem dX10_ways_253 : decode cX10_ways 253 = .ok (.iaload, 1) := by decide +kernel
theorem dX10_ways_254 : decode cX10_ways 254 = .ok (.iadd, 1) := by decide +kernel
theorem dX10_ways_255 : decode cX10_ways 255 = .ok (.ldc 195, 2) := by decide +kernel
theorem dX10_ways_257 : decode cX10_ways 257 = .ok (.irem, 1) := by decide +kernel
theorem dX10_ways_258 : decode cX10_ways 258 = .ok (.istore_n 3, 1) := by decide +kernel
theorem dX10_ways_259 : decode cX10_ways 259 = .ok (.iinc 4 1, 3) := by decide +kernel
theorem dX10_ways_262 : decode cX10_ways 262 = .ok (.goto (-23), 3) := by decide +kernel
theorem dX10_ways_265 : decode cX10_ways 265 = .ok (.iload_n 3, 1) := by decide +kernel
theorem dX10_ways_266 : decode cX10_ways 266 = .ok (.ireturn, 1) := by decide +kernel
theorem dX10_endsOf_0 : decode cX10_endsOf 0 = .ok (.aload_n 0, 1) := by decide +kernel
theorem dX10_endsOf_1 : decode cX10_endsOf 1 = .ok (.getfield 13, 3) := by decide +kernel
theorem dX10_endsOf_4 : decode cX10_endsOf 4 = .ok (.iconst 0, 1) := by decide +kernel
theorem dX10_endsOf_5 : decode cX10_endsOf 5 = .ok (.iaload, 1) := by decide +kernel
theorem dX10_endsOf_6 : decode cX10_endsOf 6 = .ok (.invokestatic 171, 3) := by decide +kernel
theorem dX10_endsOf_9 : decode cX10_endsOf 9 = .ok (.istore_n 2, 1) := by decide +kernel
theorem dX10_endsOf_10 : decode cX10_endsOf 10 = .ok (.iconst 0, 1) := by decide +kernel
theorem dX10_endsOf_11 : decode cX10_endsOf 11 = .ok (.istore_n 3, 1) := by decide +kernel
theorem dX10_endsOf_12 : decode cX10_endsOf 12 = .ok (.iload_n 3, 1) := by decide +kernel
theorem dX10_endsOf_13 : decode cX10_endsOf 13 = .ok (.aload_n 0, 1) := by decide +kernel
theorem dX10_endsOf_14 : decode cX10_endsOf 14 = .ok (.getfield 134, 3) := by decide +kernel
theorem dX10_endsOf_17 : decode cX10_endsOf 17 = .ok (.if_icmp .ge 115, 3) := by decide +kernel
theorem dX10_endsOf_20 : decode cX10_endsOf 20 = .ok (.iconst 0, 1) := by decide +kernel
theorem dX10_endsOf_21 : decode cX10_endsOf 21 = .ok (.istore 4, 2) := by decide +kernel
theorem dX10_endsOf_23 : decode cX10_endsOf 23 = .ok (.iconst 0, 1) := by decide +kernel
theorem dX10_endsOf_24 : decode cX10_endsOf 24 = .ok (.istore 5, 2) := by decide +kernel
theorem dX10_endsOf_26 : decode cX10_endsOf 26 = .ok (.iload 5, 2) := by decide +kernel
theorem dX10_endsOf_28 : decode cX10_endsOf 28 = .ok (.aload_n 0, 1) := by decide +kernel
theorem dX10_endsOf_29 : decode cX10_endsOf 29 = .ok (.getfield 17, 3) := by decide +kernel
theorem dX10_endsOf_32 : decode cX10_endsOf 32 = .ok (.iconst 0, 1) := by decide +kernel
theorem dX10_endsOf_33 : decode cX10_endsOf 33 = .ok (.iaload, 1) := by decide +kernel
theorem dX10_endsOf_34 : decode cX10_endsOf 34 = .ok (.if_icmp .ge 89, 3) := by decide +kernel
theorem dX10_endsOf_37 : decode cX10_endsOf 37 = .ok (.aload_n 0, 1) := by decide +kernel
theorem dX10_endsOf_38 : decode cX10_endsOf 38 = .ok (.iload_n 1, 1) := by decide +kernel
theorem dX10_endsOf_39 : decode cX10_endsOf 39 = .ok (.iload 5, 2) := by decide +kernel
theorem dX10_endsOf_41 : decode cX10_endsOf 41 = .ok (.invokevirtual 152, 3) := by decide +kernel
theorem dX10_endsOf_44 : decode cX10_endsOf 44 = .ok (.aload_n 0, 1) := by decide +kernel
theorem dX10_endsOf_45 : decode cX10_endsOf 45 = .ok (.getfield 66, 3) := by decide +kernel
theorem dX10_endsOf_48 : decode cX10_endsOf 48 = .ok (.iload_n 3, 1) := by decide +kernel
theorem dX10_endsOf_49 : decode cX10_endsOf 49 = .ok (.iaload, 1) := by decide +kernel
theorem dX10_endsOf_50 : decode cX10_endsOf 50 = .ok (.if_icmp .ne 67, 3) := by decide +kernel
theorem dX10_endsOf_53 : decode cX10_endsOf 53 = .ok (.iload 4, 2) := by decide +kernel
theorem dX10_endsOf_55 : decode cX10_endsOf 55 = .ok (.iload_n 2, 1) := by decide +kernel
theorem dX10_endsOf_56 : decode cX10_endsOf 56 = .ok (.aload_n 0, 1) := by decide +kernel
theorem dX10_endsOf_57 : decode cX10_endsOf 57 = .ok (.getfield 20, 3) := by decide +kernel
theorem dX10_endsOf_60 : decode cX10_endsOf 60 = .ok (.iload 5, 2) := by decide +kernel
theorem dX10_endsOf_62 : decode cX10_endsOf 62 = .ok (.iaload, 1) := by decide +kernel
theorem dX10_endsOf_63 : decode cX10_endsOf 63 = .ok (.invokestatic 137, 3) := by decide +kernel
theorem dX10_endsOf_66 : decode cX10_endsOf 66 = .ok (.ifCond .eq 15, 3) := by decide +kernel
theorem dX10_endsOf_69 : decode cX10_endsOf 69 = .ok (.iconst 1, 1) := by decide +kernel
theorem dX10_endsOf_70 : decode cX10_endsOf 70 = .ok (.aload_n 0, 1) := by decide +kernel
theorem dX10_endsOf_71 : decode cX10_endsOf 71 = .ok (.getfield 23, 3) := by decide +kernel
theorem dX10_endsOf_74 : decode cX10_endsOf 74 = .ok (.iload 5, 2) := by decide +kernel
theorem dX10_endsOf_76 : decode cX10_endsOf 76 = .ok (.iaload, 1) := by decide +kernel
theorem dX10_endsOf_77 : decode cX10_endsOf 77 = .ok (.ishl, 1) := by decide +kernel
theorem dX10_endsOf_78 : decode cX10_endsOf 78 = .ok (.goto 4, 3) := by decide +kernel
theorem dX10_endsOf_81 : decode cX10_endsOf 81 = .ok (.iconst 0, 1) := by decide +kernel
theorem dX10_endsOf_82 : decode cX10_endsOf 82 = .ok (.ior, 1) := by decide +kernel
theorem dX10_endsOf_83 : decode cX10_endsOf 83 = .ok (.istore 4, 2) := by decide +kernel
theorem dX10_endsOf_85 : decode cX10_endsOf 85 = .ok (.iload 4, 2) := by decide +kernel
theorem dX10_endsOf_87 : decode cX10_endsOf 87 = .ok (.iload_n 2, 1) := by decide +kernel
theorem dX10_endsOf_88 : decode cX10_endsOf 88 = .ok (.aload_n 0, 1) := by decide +kernel
theorem dX10_endsOf_89 : decode cX10_endsOf 89 = .ok (.getfield 23, 3) := by decide +kernel
theorem dX10_endsOf_92 : decode cX10_endsOf 92 = .ok (.iload 5, 2) := by decide +kernel
theorem dX10_endsOf_94 : decode cX10_endsOf 94 = .ok (.iaload, 1) := by decide +kernel
theorem dX10_endsOf_95 : decode cX10_endsOf 95 = .ok (.invokestatic 137, 3) := by decide +kernel
theorem dX10_endsOf_98 : decode cX10_endsOf 98 = .ok (.ifCond .eq 15, 3) := by decide +kernel
theorem dX10_endsOf_101 : decode cX10_endsOf 101 = .ok (.iconst 1, 1) := by decide +kernel
theorem dX10_endsOf_102 : decode cX10_endsOf 102 = .ok (.aload_n 0, 1) := by decide +kernel
theorem dX10_endsOf_103 : decode cX10_endsOf 103 = .ok (.getfield 20, 3) := by decide +kernel
theorem dX10_endsOf_106 : decode cX10_endsOf 106 = .ok (.iload 5, 2) := by decide +kernel
theorem dX10_endsOf_108 : decode cX10_endsOf 108 = .ok (.iaload, 1) := by decide +kernel
theorem dX10_endsOf_109 : decode cX10_endsOf 109 = .ok (.ishl, 1) := by decide +kernel
theorem dX10_endsOf_110 : decode cX10_endsOf 110 = .ok (.goto 4, 3) := by decide +kernel
theorem dX10_endsOf_113 : decode cX10_endsOf 113 = .ok (.iconst 0, 1) := by decide +kernel
theorem dX10_endsOf_114 : decode cX10_endsOf 114 = .ok (.ior, 1) := by decide +kernel
theorem dX10_endsOf_115 : decode cX10_endsOf 115 = .ok (.istore 4, 2) := by decide +kernel
theorem dX10_endsOf_117 : decode cX10_endsOf 117 = .ok (.iinc 5 1, 3) := by decide +kernel
theorem dX10_endsOf_120 : decode cX10_endsOf 120 = .ok (.goto (-94), 3) := by decide +kernel
theorem dX10_endsOf_123 : decode cX10_endsOf 123 = .ok (.iload 4, 2) := by decide +kernel
theorem dX10_endsOf_125 : decode cX10_endsOf 125 = .ok (.istore_n 2, 1) := by decide +kernel
theorem dX10_endsOf_126 : decode cX10_endsOf 126 = .ok (.iinc 3 1, 3) := by decide +kernel
theorem dX10_endsOf_129 : decode cX10_endsOf 129 = .ok (.goto (-117), 3) := by decide +kernel
theorem dX10_endsOf_132 : decode cX10_endsOf 132 = .ok (.iload_n 2, 1) := by decide +kernel
theorem dX10_endsOf_133 : decode cX10_endsOf 133 = .ok (.ireturn, 1) := by decide +kernel
theorem dX10_ends_0 : decode cX10_ends 0 = .ok (.aload_n 0, 1) := by decide +kernel
theorem dX10_ends_1 : decode cX10_ends 1 = .ok (.iload_n 1, 1) := by decide +kernel
theorem dX10_ends_2 : decode cX10_ends 2 = .ok (.invokevirtual 145, 3) := by decide +kernel
theorem dX10_ends_5 : decode cX10_ends 5 = .ok (.ifCond .eq 11, 3) := by decide +kernel
theorem dX10_ends_8 : decode cX10_ends 8 = .ok (.aload_n 0, 1) := by decide +kernel
theorem dX10_ends_9 : decode cX10_ends 9 = .ok (.iload_n 1, 1) := by decide +kernel
theorem dX10_ends_10 : decode cX10_ends 10 = .ok (.invokevirtual 196, 3) := by decide +kernel
theorem dX10_ends_13 : decode cX10_ends 13 = .ok (.goto 4, 3) := by decide +kernel
theorem dX10_ends_16 : decode cX10_ends 16 = .ok (.iconst (-1), 1) := by decide +kernel
theorem dX10_ends_17 : decode cX10_ends 17 = .ok (.ireturn, 1) := by decide +kernel
theorem dX10_can_0 : decode cX10_can 0 = .ok (.iconst 0, 1) := by decide +kernel
theorem dX10_can_1 : decode cX10_can 1 = .ok (.istore_n 1, 1) := by decide +kernel
theorem dX10_can_2 : decode cX10_can 2 = .ok (.iconst 0, 1) := by decide +kernel
theorem dX10_can_3 : decode cX10_can 3 = .ok (.istore_n 2, 1) := by decide +kernel
theorem dX10_can_4 : decode cX10_can 4 = .ok (.iload_n 2, 1) := by decide +kernel
theorem dX10_can_5 : decode cX10_can 5 = .ok (.aload_n 0, 1) := by decide +kernel
theorem dX10_can_6 : decode cX10_can 6 = .ok (.getfield 29, 3) := by decide +kernel
theorem dX10_can_9 : decode cX10_can 9 = .ok (.iconst 0, 1) := by decide +kernel
theorem dX10_can_10 : decode cX10_can 10 = .ok (.iaload, 1) := by decide +kernel
theorem dX10_can_11 : decode cX10_can 11 = .ok (.if_icmp .ge 27, 3) := by decide +kernel
theorem dX10_can_14 : decode cX10_can 14 = .ok (.iload_n 1, 1) := by decide +kernel
theorem dX10_can_15 : decode cX10_can 15 = .ok (.aload_n 0, 1) := by decide +kernel
theorem dX10_can_16 : decode cX10_can 16 = .ok (.iload_n 2, 1) := by decide +kernel
theorem dX10_can_17 : decode cX10_can 17 = .ok (.invokevirtual 196, 3) := by decide +kernel
theorem dX10_can_20 : decode cX10_can 20 = .ok (.ifCond .eq 9, 3) := by decide +kernel
theorem dX10_can_23 : decode cX10_can 23 = .ok (.iconst 1, 1) := by decide +kernel
theorem dX10_can_24 : decode cX10_can 24 = .ok (.iload_n 2, 1) := by decide +kernel
theorem dX10_can_25 : decode cX10_can 25 = .ok (.ishl, 1) := by decide +kernel
theorem dX10_can_26 : decode cX10_can 26 = .ok (.goto 4, 3) := by decide +kernel
theorem dX10_can_29 : decode cX10_can 29 = .ok (.iconst 0, 1) := by decide +kernel
theorem dX10_can_30 : decode cX10_can 30 = .ok (.ior, 1) := by decide +kernel
theorem dX10_can_31 : decode cX10_can 31 = .ok (.istore_n 1, 1) := by decide +kernel
theorem dX10_can_32 : decode cX10_can 32 = .ok (.iinc 2 1, 3) := by decide +kernel
theorem dX10_can_35 : decode cX10_can 35 = .ok (.goto (-31), 3) := by decide +kernel
theorem dX10_can_38 : decode cX10_can 38 = .ok (.iload_n 1, 1) := by decide +kernel
theorem dX10_can_39 : decode cX10_can 39 = .ok (.ireturn, 1) := by decide +kernel
theorem dX10_comesTo_0 : decode cX10_comesTo 0 = .ok (.aload_n 0, 1) := by decide +kernel
theorem dX10_comesTo_1 : decode cX10_comesTo 1 = .ok (.iload_n 1, 1) := by decide +kernel
theorem dX10_comesTo_2 : decode cX10_comesTo 2 = .ok (.invokevirtual 196, 3) := by decide +kernel
theorem dX10_comesTo_5 : decode cX10_comesTo 5 = .ok (.istore_n 3, 1) := by decide +kernel
theorem dX10_comesTo_6 : decode cX10_comesTo 6 = .ok (.iload_n 3, 1) := by decide +kernel
theorem dX10_comesTo_7 : decode cX10_comesTo 7 = .ok (.aload_n 0, 1) := by decide +kernel
theorem dX10_comesTo_8 : decode cX10_comesTo 8 = .ok (.getfield 20, 3) := by decide +kernel
theorem dX10_comesTo_11 : decode cX10_comesTo 11 = .ok (.iload_n 2, 1) := by decide +kernel
theorem dX10_comesTo_12 : decode cX10_comesTo 12 = .ok (.iaload, 1) := by decide +kernel
theorem dX10_comesTo_13 : decode cX10_comesTo 13 = .ok (.invokestatic 137, 3) := by decide +kernel
theorem dX10_comesTo_16 : decode cX10_comesTo 16 = .ok (.ifCond .ne 16, 3) := by decide +kernel
theorem dX10_comesTo_19 : decode cX10_comesTo 19 = .ok (.iload_n 3, 1) := by decide +kernel
theorem dX10_comesTo_20 : decode cX10_comesTo 20 = .ok (.aload_n 0, 1) := by decide +kernel
theorem dX10_comesTo_21 : decode cX10_comesTo 21 = .ok (.getfield 23, 3) := by decide +kernel
theorem dX10_comesTo_24 : decode cX10_comesTo 24 = .ok (.iload_n 2, 1) := by decide +kernel
theorem dX10_comesTo_25 : decode cX10_comesTo 25 = .ok (.iaload, 1) := by decide +kernel
theorem dX10_comesTo_26 : decode cX10_comesTo 26 = .ok (.invokestatic 137, 3) := by decide +kernel
theorem dX10_comesTo_29 : decode cX10_comesTo 29 = .ok (.ifCond .eq 7, 3) := by decide +kernel
theorem dX10_comesTo_32 : decode cX10_comesTo 32 = .ok (.iconst 1, 1) := by decide +kernel
theorem dX10_comesTo_33 : decode cX10_comesTo 33 = .ok (.goto 4, 3) := by decide +kernel
theorem dX10_comesTo_36 : decode cX10_comesTo 36 = .ok (.iconst 0, 1) := by decide +kernel
theorem dX10_comesTo_37 : decode cX10_comesTo 37 = .ok (.ireturn, 1) := by decide +kernel
theorem dX10_ask_0 : decode cX10_ask 0 = .ok (.bipush (-9), 2) := by decide +kernel
theorem dX10_ask_2 : decode cX10_ask 2 = .ok (.istore_n 1, 1) := by decide +kernel
theorem dX10_ask_3 : decode cX10_ask 3 = .ok (.iconst 0, 1) := by decide +kernel
theorem dX10_ask_4 : decode cX10_ask 4 = .ok (.istore_n 2, 1) := by decide +kernel
theorem dX10_ask_5 : decode cX10_ask 5 = .ok (.iconst 0, 1) := by decide +kernel
theorem dX10_ask_6 : decode cX10_ask 6 = .ok (.istore_n 3, 1) := by decide +kernel
theorem dX10_ask_7 : decode cX10_ask 7 = .ok (.iload_n 3, 1) := by decide +kernel
theorem dX10_ask_8 : decode cX10_ask 8 = .ok (.aload_n 0, 1) := by decide +kernel
theorem dX10_ask_9 : decode cX10_ask 9 = .ok (.getfield 17, 3) := by decide +kernel
theorem dX10_ask_12 : decode cX10_ask 12 = .ok (.iconst 0, 1) := by decide +kernel
theorem dX10_ask_13 : decode cX10_ask 13 = .ok (.iaload, 1) := by decide +kernel
theorem dX10_ask_14 : decode cX10_ask 14 = .ok (.if_icmp .ge 140, 3) := by decide +kernel
theorem dX10_ask_17 : decode cX10_ask 17 = .ok (.iconst 0, 1) := by decide +kernel
theorem dX10_ask_18 : decode cX10_ask 18 = .ok (.istore 4, 2) := by decide +kernel
theorem dX10_ask_20 : decode cX10_ask 20 = .ok (.iconst 0, 1) := by decide +kernel
theorem dX10_ask_21 : decode cX10_ask 21 = .ok (.istore 5, 2) := by decide +kernel
theorem dX10_ask_23 : decode cX10_ask 23 = .ok (.iload 5, 2) := by decide +kernel
theorem dX10_ask_25 : decode cX10_ask 25 = .ok (.aload_n 0, 1) := by decide +kernel
theorem dX10_ask_26 : decode cX10_ask 26 = .ok (.getfield 29, 3) := by decide +kernel
theorem dX10_ask_29 : decode cX10_ask 29 = .ok (.iconst 0, 1) := by decide +kernel
theorem dX10_ask_30 : decode cX10_ask 30 = .ok (.iaload, 1) := by decide +kernel
theorem dX10_ask_31 : decode cX10_ask 31 = .ok (.if_icmp .ge 95, 3) := by decide +kernel
theorem dX10_ask_34 : decode cX10_ask 34 = .ok (.iconst 0, 1) := by decide +kernel
theorem dX10_ask_35 : decode cX10_ask 35 = .ok (.istore 6, 2) := by decide +kernel
theorem dX10_ask_37 : decode cX10_ask 37 = .ok (.iconst 0, 1) := by decide +kernel
theorem dX10_ask_38 : decode cX10_ask 38 = .ok (.istore 7, 2) := by decide +kernel
theorem dX10_ask_40 : decode cX10_ask 40 = .ok (.iload 7, 2) := by decide +kernel
theorem dX10_ask_42 : decode cX10_ask 42 = .ok (.aload_n 0, 1) := by decide +kernel
theorem dX10_ask_43 : decode cX10_ask 43 = .ok (.getfield 29, 3) := by decide +kernel
theorem dX10_ask_46 : decode cX10_ask 46 = .ok (.iconst 0, 1) := by decide +kernel
theorem dX10_ask_47 : decode cX10_ask 47 = .ok (.iaload, 1) := by decide +kernel
theorem dX10_ask_48 : decode cX10_ask 48 = .ok (.if_icmp .ge 56, 3) := by decide +kernel
theorem dX10_ask_51 : decode cX10_ask 51 = .ok (.aload_n 0, 1) := by decide +kernel
theorem dX10_ask_52 : decode cX10_ask 52 = .ok (.iload 5, 2) := by decide +kernel
theorem dX10_ask_54 : decode cX10_ask 54 = .ok (.iload_n 3, 1) := by decide +kernel
theorem dX10_ask_55 : decode cX10_ask 55 = .ok (.invokevirtual 199, 3) := by decide +kernel
theorem dX10_ask_58 : decode cX10_ask 58 = .ok (.ifCond .eq 46, 3) := by decide +kernel
theorem dX10_ask_61 : decode cX10_ask 61 = .ok (.iload 6, 2) := by decide +kernel
theorem dX10_ask_63 : decode cX10_ask 63 = .ok (.aload_n 0, 1) := by decide +kernel
theorem dX10_ask_64 : decode cX10_ask 64 = .ok (.iload 7, 2) := by decide +kernel
theorem dX10_ask_66 : decode cX10_ask 66 = .ok (.iload_n 3, 1) := by decide +kernel
theorem dX10_ask_67 : decode cX10_ask 67 = .ok (.invokevirtual 199, 3) := by decide +kernel
theorem dX10_ask_70 : decode cX10_ask 70 = .ok (.ifCond .eq 24, 3) := by decide +kernel
theorem dX10_ask_73 : decode cX10_ask 73 = .ok (.aload_n 0, 1) := by decide +kernel
theorem dX10_ask_74 : decode cX10_ask 74 = .ok (.iload 7, 2) := by decide +kernel
theorem dX10_ask_76 : decode cX10_ask 76 = .ok (.iload_n 3, 1) := by decide +kernel
theorem dX10_ask_77 : decode cX10_ask 77 = .ok (.invokevirtual 152, 3) := by decide +kernel
theorem dX10_ask_80 : decode cX10_ask 80 = .ok (.aload_n 0, 1) := by decide +kernel
theorem dX10_ask_81 : decode cX10_ask 81 = .ok (.iload 5, 2) := by decide +kernel
theorem dX10_ask_83 : decode cX10_ask 83 = .ok (.iload_n 3, 1) := by decide +kernel
theorem dX10_ask_84 : decode cX10_ask 84 = .ok (.invokevirtual 152, 3) := by decide +kernel
theorem dX10_ask_87 : decode cX10_ask 87 = .ok (.if_icmp .ne 7, 3) := by decide +kernel
theorem dX10_ask_90 : decode cX10_ask 90 = .ok (.iconst 1, 1) := by decide +kernel
theorem dX10_ask_91 : decode cX10_ask 91 = .ok (.goto 4, 3) := by decide +kernel
theorem dX10_ask_94 : decode cX10_ask 94 = .ok (.iconst 0, 1) := by decide +kernel
theorem dX10_ask_95 : decode cX10_ask 95 = .ok (.iadd, 1) := by decide +kernel
theorem dX10_ask_96 : decode cX10_ask 96 = .ok (.istore 6, 2) := by decide +kernel
theorem dX10_ask_98 : decode cX10_ask 98 = .ok (.iinc 7 1, 3) := by decide +kernel
theorem dX10_ask_101 : decode cX10_ask 101 = .ok (.goto (-61), 3) := by decide +kernel
theorem dX10_ask_104 : decode cX10_ask 104 = .ok (.iload 6, 2) := by decide +kernel
theorem dX10_ask_106 : decode cX10_ask 106 = .ok (.iload 4, 2) := by decide +kernel
theorem dX10_ask_108 : decode cX10_ask 108 = .ok (.if_icmp .le 8, 3) := by decide +kernel
theorem dX10_ask_111 : decode cX10_ask 111 = .ok (.iload 6, 2) := by decide +kernel
theorem dX10_ask_113 : decode cX10_ask 113 = .ok (.goto 5, 3) := by decide +kernel
theorem dX10_ask_116 : decode cX10_ask 116 = .ok (.iload 4, 2) := by decide +kernel
theorem dX10_ask_118 : decode cX10_ask 118 = .ok (.istore 4, 2) := by decide +kernel
theorem dX10_ask_120 : decode cX10_ask 120 = .ok (.iinc 5 1, 3) := by decide +kernel
theorem dX10_ask_123 : decode cX10_ask 123 = .ok (.goto (-100), 3) := by decide +kernel
theorem dX10_ask_126 : decode cX10_ask 126 = .ok (.iload 4, 2) := by decide +kernel
theorem dX10_ask_128 : decode cX10_ask 128 = .ok (.ifCond .le 20, 3) := by decide +kernel
theorem dX10_ask_131 : decode cX10_ask 131 = .ok (.iload_n 1, 1) := by decide +kernel
theorem dX10_ask_132 : decode cX10_ask 132 = .ok (.bipush (-9), 2) := by decide +kernel
theorem dX10_ask_134 : decode cX10_ask 134 = .ok (.if_icmp .eq 9, 3) := by decide +kernel
theorem dX10_ask_137 : decode cX10_ask 137 = .ok (.iload 4, 2) := by decide +kernel
theorem dX10_ask_139 : decode cX10_ask 139 = .ok (.iload_n 2, 1) := by decide +kernel
theorem dX10_ask_140 : decode cX10_ask 140 = .ok (.if_icmp .ge 8, 3) := by decide +kernel
theorem dX10_ask_143 : decode cX10_ask 143 = .ok (.iload_n 3, 1) := by decide +kernel
theorem dX10_ask_144 : decode cX10_ask 144 = .ok (.istore_n 1, 1) := by decide +kernel
theorem dX10_ask_145 : decode cX10_ask 145 = .ok (.iload 4, 2) := by decide +kernel
theorem dX10_ask_147 : decode cX10_ask 147 = .ok (.istore_n 2, 1) := by decide +kernel
theorem dX10_ask_148 : decode cX10_ask 148 = .ok (.iinc 3 1, 3) := by decide +kernel
theorem dX10_ask_151 : decode cX10_ask 151 = .ok (.goto (-144), 3) := by decide +kernel
theorem dX10_ask_154 : decode cX10_ask 154 = .ok (.iload_n 1, 1) := by decide +kernel
theorem dX10_ask_155 : decode cX10_ask 155 = .ok (.ireturn, 1) := by decide +kernel
theorem dX10_costOf_0 : decode cX10_costOf 0 = .ok (.aload_n 0, 1) := by decide +kernel
theorem dX10_costOf_1 : decode cX10_costOf 1 = .ok (.iload_n 1, 1) := by decide +kernel
theorem dX10_costOf_2 : decode cX10_costOf 2 = .ok (.iload_n 2, 1) := by decide +kernel
theorem dX10_costOf_3 : decode cX10_costOf 3 = .ok (.invokevirtual 152, 3) := by decide +kernel
theorem dX10_costOf_6 : decode cX10_costOf 6 = .ok (.ifCond .le 8, 3) := by decide +kernel
theorem dX10_costOf_9 : decode cX10_costOf 9 = .ok (.bipush 101, 2) := by decide +kernel
theorem dX10_costOf_11 : decode cX10_costOf 11 = .ok (.goto 4, 3) := by decide +kernel
theorem dX10_costOf_14 : decode cX10_costOf 14 = .ok (.iconst 1, 1) := by decide +kernel
theorem dX10_costOf_15 : decode cX10_costOf 15 = .ok (.ireturn, 1) := by decide +kernel
theorem dX10_measure_0 : decode cX10_measure 0 = .ok (.iconst 0, 1) := by decide +kernel
theorem dX10_measure_1 : decode cX10_measure 1 = .ok (.istore_n 3, 1) := by decide +kernel
theorem dX10_measure_2 : decode cX10_measure 2 = .ok (.iload_n 3, 1) := by decide +kernel
theorem dX10_measure_3 : decode cX10_measure 3 = .ok (.bipush 8, 2) := by decide +kernel
theorem dX10_measure_5 : decode cX10_measure 5 = .ok (.if_icmp .ge 26, 3) := by decide +kernel
theorem dX10_measure_8 : decode cX10_measure 8 = .ok (.aload_n 0, 1) := by decide +kernel
theorem dX10_measure_9 : decode cX10_measure 9 = .ok (.getfield 75, 3) := by decide +kernel
theorem dX10_measure_12 : decode cX10_measure 12 = .ok (.iload_n 3, 1) := by decide +kernel
theorem dX10_measure_13 : decode cX10_measure 13 = .ok (.iload_n 3, 1) := by decide +kernel
theorem dX10_measure_14 : decode cX10_measure 14 = .ok (.iload_n 2, 1) := by decide +kernel
theorem dX10_measure_15 : decode cX10_measure 15 = .ok (.if_icmp .ne 7, 3) := by decide +kernel
theorem dX10_measure_18 : decode cX10_measure 18 = .ok (.iconst 0, 1) := by decide +kernel
theorem dX10_measure_19 : decode cX10_measure 19 = .ok (.goto 5, 3) := by decide +kernel
theorem dX10_measure_22 : decode cX10_measure 22 = .ok (.ldc 202, 2) := by decide +kernel
theorem dX10_measure_24 : decode cX10_measure 24 = .ok (.iastore, 1) := by decide +kernel
theorem dX10_measure_25 : decode cX10_measure 25 = .ok (.iinc 3 1, 3) := by decide +kernel
theorem dX10_measure_28 : decode cX10_measure 28 = .ok (.goto (-26), 3) := by decide +kernel
theorem dX10_measure_31 : decode cX10_measure 31 = .ok (.iconst 0, 1) := by decide +kernel
theorem dX10_measure_32 : decode cX10_measure 32 = .ok (.istore_n 3, 1) := by decide +kernel
theorem dX10_measure_33 : decode cX10_measure 33 = .ok (.iload_n 3, 1) := by decide +kernel
theorem dX10_measure_34 : decode cX10_measure 34 = .ok (.bipush 8, 2) := by decide +kernel
theorem dX10_measure_36 : decode cX10_measure 36 = .ok (.if_icmp .ge 165, 3) := by decide +kernel
theorem dX10_measure_39 : decode cX10_measure 39 = .ok (.iconst 0, 1) := by decide +kernel
theorem dX10_measure_40 : decode cX10_measure 40 = .ok (.istore 4, 2) := by decide +kernel
theorem dX10_measure_42 : decode cX10_measure 42 = .ok (.iload 4, 2) := by decide +kernel
theorem dX10_measure_44 : decode cX10_measure 44 = .ok (.aload_n 0, 1) := by decide +kernel
theorem dX10_measure_45 : decode cX10_measure 45 = .ok (.getfield 17, 3) := by decide +kernel
theorem dX10_measure_48 : decode cX10_measure 48 = .ok (.iconst 0, 1) := by decide +kernel
theorem dX10_measure_49 : decode cX10_measure 49 = .ok (.iaload, 1) := by decide +kernel
theorem dX10_measure_50 : decode cX10_measure 50 = .ok (.if_icmp .ge 145, 3) := by decide +kernel
theorem dX10_measure_53 : decode cX10_measure 53 = .ok (.aload_n 0, 1) := by decide +kernel
theorem dX10_measure_54 : decode cX10_measure 54 = .ok (.getfield 75, 3) := by decide +kernel
theorem dX10_measure_57 : decode cX10_measure 57 = .ok (.aload_n 0, 1) := by decide +kernel
theorem dX10_measure_58 : decode cX10_measure 58 = .ok (.getfield 23, 3) := by decide +kernel
theorem dX10_measure_61 : decode cX10_measure 61 = .ok (.iload 4, 2) := by decide +kernel
theorem dX10_measure_63 : decode cX10_measure 63 = .ok (.iaload, 1) := by decide +kernel
theorem dX10_measure_64 : decode cX10_measure 64 = .ok (.iaload, 1) := by decide +kernel
theorem dX10_measure_65 : decode cX10_measure 65 = .ok (.aload_n 0, 1) := by decide +kernel
theorem dX10_measure_66 : decode cX10_measure 66 = .ok (.iload_n 1, 1) := by decide +kernel
theorem dX10_measure_67 : decode cX10_measure 67 = .ok (.iload 4, 2) := by decide +kernel
theorem dX10_measure_69 : decode cX10_measure 69 = .ok (.invokevirtual 203, 3) := by decide +kernel
theorem dX10_measure_72 : decode cX10_measure 72 = .ok (.iadd, 1) := by decide +kernel
theorem dX10_measure_73 : decode cX10_measure 73 = .ok (.istore 5, 2) := by decide +kernel
theorem dX10_measure_75 : decode cX10_measure 75 = .ok (.aload_n 0, 1) := by decide +kernel
theorem dX10_measure_76 : decode cX10_measure 76 = .ok (.getfield 75, 3) := by decide +kernel
theorem dX10_measure_79 : decode cX10_measure 79 = .ok (.aload_n 0, 1) := by decide +kernel
theorem dX10_measure_80 : decode cX10_measure 80 = .ok (.getfield 20, 3) := by decide +kernel
theorem dX10_measure_83 : decode cX10_measure 83 = .ok (.iload 4, 2) := by decide +kernel
theorem dX10_measure_85 : decode cX10_measure 85 = .ok (.iaload, 1) := by decide +kernel
theorem dX10_measure_86 : decode cX10_measure 86 = .ok (.iaload, 1) := by decide +kernel
theorem dX10_measure_87 : decode cX10_measure 87 = .ok (.aload_n 0, 1) := by decide +kernel
theorem dX10_measure_88 : decode cX10_measure 88 = .ok (.iload_n 1, 1) := by decide +kernel
theorem dX10_measure_89 : decode cX10_measure 89 = .ok (.iload 4, 2) := by decide +kernel
theorem dX10_measure_91 : decode cX10_measure 91 = .ok (.invokevirtual 203, 3) := by decide +kernel
theorem dX10_measure_94 : decode cX10_measure 94 = .ok (.iadd, 1) := by decide +kernel
theorem dX10_measure_95 : decode cX10_measure 95 = .ok (.istore 6, 2) := by decide +kernel
theorem dX10_measure_97 : decode cX10_measure 97 = .ok (.aload_n 0, 1) := by decide +kernel
theorem dX10_measure_98 : decode cX10_measure 98 = .ok (.getfield 75, 3) := by decide +kernel
theorem dX10_measure_101 : decode cX10_measure 101 = .ok (.aload_n 0, 1) := by decide +kernel
theorem dX10_measure_102 : decode cX10_measure 102 = .ok (.getfield 20, 3) := by decide +kernel
theorem dX10_measure_105 : decode cX10_measure 105 = .ok (.iload 4, 2) := by decide +kernel
theorem dX10_measure_107 : decode cX10_measure 107 = .ok (.iaload, 1) := by decide +kernel
theorem dX10_measure_108 : decode cX10_measure 108 = .ok (.iload 5, 2) := by decide +kernel
theorem dX10_measure_110 : decode cX10_measure 110 = .ok (.aload_n 0, 1) := by decide +kernel
theorem dX10_measure_111 : decode cX10_measure 111 = .ok (.getfield 75, 3) := by decide +kernel
theorem dX10_measure_114 : decode cX10_measure 114 = .ok (.aload_n 0, 1) := by decide +kernel
theorem dX10_measure_115 : decode cX10_measure 115 = .ok (.getfield 20, 3) := by decide +kernel
theorem dX10_measure_118 : decode cX10_measure 118 = .ok (.iload 4, 2) := by decide +kernel
theorem dX10_measure_120 : decode cX10_measure 120 = .ok (.iaload, 1) := by decide +kernel
theorem dX10_measure_121 : decode cX10_measure 121 = .ok (.iaload, 1) := by decide +kernel
theorem dX10_measure_122 : decode cX10_measure 122 = .ok (.if_icmp .ge 8, 3) := by decide +kernel
theorem dX10_measure_125 : decode cX10_measure 125 = .ok (.iload 5, 2) := by decide +kernel
theorem dX10_measure_127 : decode cX10_measure 127 = .ok (.goto 15, 3) := by decide +kernel
theorem dX10_measure_130 : decode cX10_measure 130 = .ok (.aload_n 0, 1) := by decide +kernel
theorem dX10_measure_131 : decode cX10_measure 131 = .ok (.getfield 75, 3) := by decide +kernel
theorem dX10_measure_134 : decode cX10_measure 134 = .ok (.aload_n 0, 1) := by decide +kernel
theorem dX10_measure_135 : decode cX10_measure 135 = .ok (.getfield 20, 3) := by decide +kernel
theorem dX10_measure_138 : decode cX10_measure 138 = .ok (.iload 4, 2) := by decide +kernel
theorem dX10_measure_140 : decode cX10_measure 140 = .ok (.iaload, 1) := by decide +kernel
theorem dX10_measure_141 : decode cX10_measure 141 = .ok (.iaload, 1) := by decide +kernel
theorem dX10_measure_142 : decode cX10_measure 142 = .ok (.iastore, 1) := by decide +kernel
theorem dX10_measure_143 : decode cX10_measure 143 = .ok (.aload_n 0, 1) := by decide +kernel
theorem dX10_measure_144 : decode cX10_measure 144 = .ok (.getfield 75, 3) := by decide +kernel
theorem dX10_measure_147 : decode cX10_measure 147 = .ok (.aload_n 0, 1) := by decide +kernel
theorem dX10_measure_148 : decode cX10_measure 148 = .ok (.getfield 23, 3) := by decide +kernel
theorem dX10_measure_151 : decode cX10_measure 151 = .ok (.iload 4, 2) := by decide +kernel
theorem dX10_measure_153 : decode cX10_measure 153 = .ok (.iaload, 1) := by decide +kernel
theorem dX10_measure_154 : decode cX10_measure 154 = .ok (.iload 6, 2) := by decide +kernel
theorem dX10_measure_156 : decode cX10_measure 156 = .ok (.aload_n 0, 1) := by decide +kernel
theorem dX10_measure_157 : decode cX10_measure 157 = .ok (.getfield 75, 3) := by decide +kernel
theorem dX10_measure_160 : decode cX10_measure 160 = .ok (.aload_n 0, 1) := by decide +kernel
theorem dX10_measure_161 : decode cX10_measure 161 = .ok (.getfield 23, 3) := by decide +kernel
theorem dX10_measure_164 : decode cX10_measure 164 = .ok (.iload 4, 2) := by decide +kernel
theorem dX10_measure_166 : decode cX10_measure 166 = .ok (.iaload, 1) := by decide +kernel
theorem dX10_measure_167 : decode cX10_measure 167 = .ok (.iaload, 1) := by decide +kernel
theorem dX10_measure_168 : decode cX10_measure 168 = .ok (.if_icmp .ge 8, 3) := by decide +kernel
theorem dX10_measure_171 : decode cX10_measure 171 = .ok (.iload 6, 2) := by decide +kernel
theorem dX10_measure_173 : decode cX10_measure 173 = .ok (.goto 15, 3) := by decide +kernel
theorem dX10_measure_176 : decode cX10_measure 176 = .ok (.aload_n 0, 1) := by decide +kernel
theorem dX10_measure_177 : decode cX10_measure 177 = .ok (.getfield 75, 3) := by decide +kernel
theorem dX10_measure_180 : decode cX10_measure 180 = .ok (.aload_n 0, 1) := by decide +kernel
theorem dX10_measure_181 : decode cX10_measure 181 = .ok (.getfield 23, 3) := by decide +kernel
theorem dX10_measure_184 : decode cX10_measure 184 = .ok (.iload 4, 2) := by decide +kernel
theorem dX10_measure_186 : decode cX10_measure 186 = .ok (.iaload, 1) := by decide +kernel
theorem dX10_measure_187 : decode cX10_measure 187 = .ok (.iaload, 1) := by decide +kernel
theorem dX10_measure_188 : decode cX10_measure 188 = .ok (.iastore, 1) := by decide +kernel
theorem dX10_measure_189 : decode cX10_measure 189 = .ok (.iinc 4 1, 3) := by decide +kernel
theorem dX10_measure_192 : decode cX10_measure 192 = .ok (.goto (-150), 3) := by decide +kernel
theorem dX10_measure_195 : decode cX10_measure 195 = .ok (.iinc 3 1, 3) := by decide +kernel
theorem dX10_measure_198 : decode cX10_measure 198 = .ok (.goto (-165), 3) := by decide +kernel
theorem dX10_measure_201 : decode cX10_measure 201 = .ok (.return_, 1) := by decide +kernel
theorem dX10_quiet_0 : decode cX10_quiet 0 = .ok (.aload_n 0, 1) := by decide +kernel
theorem dX10_quiet_1 : decode cX10_quiet 1 = .ok (.iload_n 1, 1) := by decide +kernel
theorem dX10_quiet_2 : decode cX10_quiet 2 = .ok (.invokevirtual 145, 3) := by decide +kernel
theorem dX10_quiet_5 : decode cX10_quiet 5 = .ok (.ifCond .eq 29, 3) := by decide +kernel
theorem dX10_quiet_8 : decode cX10_quiet 8 = .ok (.aload_n 0, 1) := by decide +kernel
theorem dX10_quiet_9 : decode cX10_quiet 9 = .ok (.iload_n 2, 1) := by decide +kernel
theorem dX10_quiet_10 : decode cX10_quiet 10 = .ok (.invokevirtual 192, 3) := by decide +kernel
theorem dX10_quiet_13 : decode cX10_quiet 13 = .ok (.ifCond .eq 21, 3) := by decide +kernel
theorem dX10_quiet_16 : decode cX10_quiet 16 = .ok (.aload_n 0, 1) := by decide +kernel
theorem dX10_quiet_17 : decode cX10_quiet 17 = .ok (.iload_n 3, 1) := by decide +kernel
theorem dX10_quiet_18 : decode cX10_quiet 18 = .ok (.invokevirtual 192, 3) := by decide +kernel
theorem dX10_quiet_21 : decode cX10_quiet 21 = .ok (.ifCond .eq 13, 3) := by decide +kernel
theorem dX10_quiet_24 : decode cX10_quiet 24 = .ok (.iload 4, 2) := by decide +kernel
theorem dX10_quiet_26 : decode cX10_quiet 26 = .ok (.iconst 0, 1) := by decide +kernel
theorem dX10_quiet_27 : decode cX10_quiet 27 = .ok (.iconst 2, 1) := by decide +kernel
theorem dX10_quiet_28 : decode cX10_quiet 28 = .ok (.invokestatic 81, 3) := by decide +kernel
theorem dX10_quiet_31 : decode cX10_quiet 31 = .ok (.ifCond .ne 5, 3) := by decide +kernel
theorem dX10_quiet_34 : decode cX10_quiet 34 = .ok (.iconst (-1), 1) := by decide +kernel
theorem dX10_quiet_35 : decode cX10_quiet 35 = .ok (.ireturn, 1) := by decide +kernel
theorem dX10_quiet_36 : decode cX10_quiet 36 = .ok (.aload_n 0, 1) := by decide +kernel
theorem dX10_quiet_37 : decode cX10_quiet 37 = .ok (.iload_n 1, 1) := by decide +kernel
theorem dX10_quiet_38 : decode cX10_quiet 38 = .ok (.iload_n 3, 1) := by decide +kernel
theorem dX10_quiet_39 : decode cX10_quiet 39 = .ok (.invokevirtual 206, 3) := by decide +kernel
theorem dX10_quiet_42 : decode cX10_quiet 42 = .ok (.aload_n 0, 1) := by decide +kernel
theorem dX10_quiet_43 : decode cX10_quiet 43 = .ok (.getfield 75, 3) := by decide +kernel
theorem dX10_quiet_46 : decode cX10_quiet 46 = .ok (.iload_n 2, 1) := by decide +kernel
theorem dX10_quiet_47 : decode cX10_quiet 47 = .ok (.iaload, 1) := by decide +kernel
theorem dX10_quiet_48 : decode cX10_quiet 48 = .ok (.ldc 202, 2) := by decide +kernel
theorem dX10_quiet_50 : decode cX10_quiet 50 = .ok (.if_icmp .lt 6, 3) := by decide +kernel
theorem dX10_quiet_53 : decode cX10_quiet 53 = .ok (.bipush (-9), 2) := by decide +kernel
theorem dX10_quiet_55 : decode cX10_quiet 55 = .ok (.ireturn, 1) := by decide +kernel
theorem dX10_quiet_56 : decode cX10_quiet 56 = .ok (.iload 4, 2) := by decide +kernel
theorem dX10_quiet_58 : decode cX10_quiet 58 = .ok (.iconst 2, 1) := by decide +kernel
theorem dX10_quiet_59 : decode cX10_quiet 59 = .ok (.if_icmp .ge 30, 3) := by decide +kernel
theorem dX10_quiet_62 : decode cX10_quiet 62 = .ok (.iload 4, 2) := by decide +kernel
theorem dX10_quiet_64 : decode cX10_quiet 64 = .ok (.ifCond .ne 15, 3) := by decide +kernel
theorem dX10_quiet_67 : decode cX10_quiet 67 = .ok (.aload_n 0, 1) := by decide +kernel
theorem dX10_quiet_68 : decode cX10_quiet 68 = .ok (.getfield 75, 3) := by decide +kernel
theorem dX10_quiet_71 : decode cX10_quiet 71 = .ok (.iload_n 2, 1) := by decide +kernel
theorem dX10_quiet_72 : decode cX10_quiet 72 = .ok (.iaload, 1) := by decide +kernel
theorem dX10_quiet_73 : decode cX10_quiet 73 = .ok (.bipush 100, 2) := by decide +kernel
theorem dX10_quiet_75 : decode cX10_quiet 75 = .ok (.idiv, 1) := by decide +kernel
theorem dX10_quiet_76 : decode cX10_quiet 76 = .ok (.goto 12, 3) := by decide +kernel
theorem dX10_quiet_79 : decode cX10_quiet 79 = .ok (.aload_n 0, 1) := by decide +kernel
theorem dX10_quiet_80 : decode cX10_quiet 80 = .ok (.getfield 75, 3) := by decide +kernel
theorem dX10_quiet_83 : decode cX10_quiet 83 = .ok (.iload_n 2, 1) := by decide +kernel
theorem dX10_quiet_84 : decode cX10_quiet 84 = .ok (.iaload, 1) := by decide +kernel
theorem dX10_quiet_85 : decode cX10_quiet 85 = .ok (.bipush 100, 2) := by decide +kernel
theorem dX10_quiet_87 : decode cX10_quiet 87 = .ok (.irem, 1) := by decide +kernel
theorem dX10_quiet_88 : decode cX10_quiet 88 = .ok (.ireturn, 1) := by decide +kernel
theorem dX10_quiet_89 : decode cX10_quiet 89 = .ok (.bipush (-9), 2) := by decide +kernel
theorem dX10_quiet_91 : decode cX10_quiet 91 = .ok (.istore 5, 2) := by decide +kernel
theorem dX10_quiet_93 : decode cX10_quiet 93 = .ok (.aload_n 0, 1) := by decide +kernel
theorem dX10_quiet_94 : decode cX10_quiet 94 = .ok (.getfield 17, 3) := by decide +kernel
theorem dX10_quiet_97 : decode cX10_quiet 97 = .ok (.iconst 0, 1) := by decide +kernel
theorem dX10_quiet_98 : decode cX10_quiet 98 = .ok (.iaload, 1) := by decide +kernel
theorem dX10_quiet_99 : decode cX10_quiet 99 = .ok (.iconst 1, 1) := by decide +kernel
theorem dX10_quiet_100 : decode cX10_quiet 100 = .ok (.isub, 1) := by decide +kernel
theorem dX10_quiet_101 : decode cX10_quiet 101 = .ok (.istore 6, 2) := by decide +kernel
theorem dX10_quiet_103 : decode cX10_quiet 103 = .ok (.iload 6, 2) := by decide +kernel
theorem dX10_quiet_105 : decode cX10_quiet 105 = .ok (.ifCond .lt 74, 3) := by decide +kernel
theorem dX10_quiet_108 : decode cX10_quiet 108 = .ok (.iload_n 2, 1) := by decide +kernel
theorem dX10_quiet_109 : decode cX10_quiet 109 = .ok (.iload_n 3, 1) := by decide +kernel
theorem dX10_quiet_110 : decode cX10_quiet 110 = .ok (.if_icmp .eq 46, 3) := by decide +kernel
theorem dX10_quiet_113 : decode cX10_quiet 113 = .ok (.aload_n 0, 1) := by decide +kernel
theorem dX10_quiet_114 : decode cX10_quiet 114 = .ok (.iload 6, 2) := by decide +kernel
theorem dX10_quiet_116 : decode cX10_quiet 116 = .ok (.iload_n 2, 1) := by decide +kernel
theorem dX10_quiet_117 : decode cX10_quiet 117 = .ok (.invokevirtual 155, 3) := by decide +kernel
theorem dX10_quiet_120 : decode cX10_quiet 120 = .ok (.ifCond .eq 36, 3) := by decide +kernel
theorem dX10_quiet_123 : decode cX10_quiet 123 = .ok (.aload_n 0, 1) := by decide +kernel
theorem dX10_quiet_124 : decode cX10_quiet 124 = .ok (.iload_n 1, 1) := by decide +kernel
theorem dX10_quiet_125 : decode cX10_quiet 125 = .ok (.iload 6, 2) := by decide +kernel
theorem dX10_quiet_127 : decode cX10_quiet 127 = .ok (.invokevirtual 203, 3) := by decide +kernel
theorem dX10_quiet_130 : decode cX10_quiet 130 = .ok (.aload_n 0, 1) := by decide +kernel
theorem dX10_quiet_131 : decode cX10_quiet 131 = .ok (.getfield 75, 3) := by decide +kernel
theorem dX10_quiet_134 : decode cX10_quiet 134 = .ok (.aload_n 0, 1) := by decide +kernel
theorem dX10_quiet_135 : decode cX10_quiet 135 = .ok (.iload 6, 2) := by decide +kernel
theorem dX10_quiet_137 : decode cX10_quiet 137 = .ok (.iload_n 2, 1) := by decide +kernel
theorem dX10_quiet_138 : decode cX10_quiet 138 = .ok (.invokevirtual 161, 3) := by decide +kernel
theorem dX10_quiet_141 : decode cX10_quiet 141 = .ok (.iaload, 1) := by decide +kernel
theorem dX10_quiet_142 : decode cX10_quiet 142 = .ok (.iadd, 1) := by decide +kernel
theorem dX10_quiet_143 : decode cX10_quiet 143 = .ok (.aload_n 0, 1) := by decide +kernel
theorem dX10_quiet_144 : decode cX10_quiet 144 = .ok (.getfield 75, 3) := by decide +kernel
theorem dX10_quiet_147 : decode cX10_quiet 147 = .ok (.iload_n 2, 1) := by decide +kernel
theorem dX10_quiet_148 : decode cX10_quiet 148 = .ok (.iaload, 1) := by decide +kernel
theorem dX10_quiet_149 : decode cX10_quiet 149 = .ok (.if_icmp .ne 7, 3) := by decide +kernel
theorem dX10_quiet_152 : decode cX10_quiet 152 = .ok (.iconst 1, 1) := by decide +kernel
theorem dX10_quiet_153 : decode cX10_quiet 153 = .ok (.goto 4, 3) := by decide +kernel
theorem dX10_quiet_156 : decode cX10_quiet 156 = .ok (.iconst 0, 1) := by decide +kernel
theorem dX10_quiet_157 : decode cX10_quiet 157 = .ok (.istore 7, 2) := by decide +kernel
theorem dX10_quiet_159 : decode cX10_quiet 159 = .ok (.iload 7, 2) := by decide +kernel
theorem dX10_quiet_161 : decode cX10_quiet 161 = .ok (.ifCond .eq 8, 3) := by decide +kernel
theorem dX10_quiet_164 : decode cX10_quiet 164 = .ok (.iload 6, 2) := by decide +kernel
theorem dX10_quiet_166 : decode cX10_quiet 166 = .ok (.goto 5, 3) := by decide +kernel
theorem dX10_quiet_169 : decode cX10_quiet 169 = .ok (.iload 5, 2) := by decide +kernel
theorem dX10_quiet_171 : decode cX10_quiet 171 = .ok (.istore 5, 2) := by decide +kernel
theorem dX10_quiet_173 : decode cX10_quiet 173 = .ok (.iinc 6 (-1), 3) := by decide +kernel
theorem dX10_quiet_176 : decode cX10_quiet 176 = .ok (.goto (-73), 3) := by decide +kernel
theorem dX10_quiet_179 : decode cX10_quiet 179 = .ok (.iload 5, 2) := by decide +kernel
theorem dX10_quiet_181 : decode cX10_quiet 181 = .ok (.ireturn, 1) := by decide +kernel
theorem dX10_fifthsOf_0 : decode cX10_fifthsOf 0 = .ok (.iconst 0, 1) := by decide +kernel
theorem dX10_fifthsOf_1 : decode cX10_fifthsOf 1 = .ok (.istore_n 2, 1) := by decide +kernel
theorem dX10_fifthsOf_2 : decode cX10_fifthsOf 2 = .ok (.iconst 0, 1) := by decide +kernel
theorem dX10_fifthsOf_3 : decode cX10_fifthsOf 3 = .ok (.istore_n 3, 1) := by decide +kernel
theorem dX10_fifthsOf_4 : decode cX10_fifthsOf 4 = .ok (.iload_n 3, 1) := by decide +kernel
theorem dX10_fifthsOf_5 : decode cX10_fifthsOf 5 = .ok (.aload_n 0, 1) := by decide +kernel
theorem dX10_fifthsOf_6 : decode cX10_fifthsOf 6 = .ok (.getfield 17, 3) := by decide +kernel
theorem dX10_fifthsOf_9 : decode cX10_fifthsOf 9 = .ok (.iconst 0, 1) := by decide +kernel
theorem dX10_fifthsOf_10 : decode cX10_fifthsOf 10 = .ok (.iaload, 1) := by decide +kernel
theorem dX10_fifthsOf_11 : decode cX10_fifthsOf 11 = .ok (.if_icmp .ge 123, 3) := by decide +kernel
theorem dX10_fifthsOf_14 : decode cX10_fifthsOf 14 = .ok (.iload_n 3, 1) := by decide +kernel
theorem dX10_fifthsOf_15 : decode cX10_fifthsOf 15 = .ok (.iconst 1, 1) := by decide +kernel
theorem dX10_fifthsOf_16 : decode cX10_fifthsOf 16 = .ok (.iadd, 1) := by decide +kernel
theorem dX10_fifthsOf_17 : decode cX10_fifthsOf 17 = .ok (.istore 4, 2) := by decide +kernel
theorem dX10_fifthsOf_19 : decode cX10_fifthsOf 19 = .ok (.iload 4, 2) := by decide +kernel
theorem dX10_fifthsOf_21 : decode cX10_fifthsOf 21 = .ok (.aload_n 0, 1) := by decide +kernel
theorem dX10_fifthsOf_22 : decode cX10_fifthsOf 22 = .ok (.getfield 17, 3) := by decide +kernel
theorem dX10_fifthsOf_25 : decode cX10_fifthsOf 25 = .ok (.iconst 0, 1) := by decide +kernel
theorem dX10_fifthsOf_26 : decode cX10_fifthsOf 26 = .ok (.iaload, 1) := by decide +kernel
theorem dX10_fifthsOf_27 : decode cX10_fifthsOf 27 = .ok (.if_icmp .ge 101, 3) := by decide +kernel
theorem dX10_fifthsOf_30 : decode cX10_fifthsOf 30 = .ok (.aload_n 0, 1) := by decide +kernel
theorem dX10_fifthsOf_31 : decode cX10_fifthsOf 31 = .ok (.getfield 50, 3) := by decide +kernel
theorem dX10_fifthsOf_34 : decode cX10_fifthsOf 34 = .ok (.bipush 6, 2) := by decide +kernel
theorem dX10_fifthsOf_36 : decode cX10_fifthsOf 36 = .ok (.iload_n 3, 1) := by decide +kernel
theorem dX10_fifthsOf_37 : decode cX10_fifthsOf 37 = .ok (.iadd, 1) := by decide +kernel
theorem dX10_fifthsOf_38 : decode cX10_fifthsOf 38 = .ok (.iaload, 1) := by decide +kernel
theorem dX10_fifthsOf_39 : decode cX10_fifthsOf 39 = .ok (.aload_n 0, 1) := by decide +kernel
theorem dX10_fifthsOf_40 : decode cX10_fifthsOf 40 = .ok (.getfield 50, 3) := by decide +kernel
theorem dX10_fifthsOf_43 : decode cX10_fifthsOf 43 = .ok (.bipush 6, 2) := by decide +kernel
theorem dX10_fifthsOf_45 : decode cX10_fifthsOf 45 = .ok (.iload 4, 2) := by decide +kernel
theorem dX10_fifthsOf_47 : decode cX10_fifthsOf 47 = .ok (.iadd, 1) := by decide +kernel
theorem dX10_fifthsOf_48 : decode cX10_fifthsOf 48 = .ok (.iaload, 1) := by decide +kernel
theorem dX10_fifthsOf_49 : decode cX10_fifthsOf 49 = .ok (.isub, 1) := by decide +kernel
theorem dX10_fifthsOf_50 : decode cX10_fifthsOf 50 = .ok (.istore 5, 2) := by decide +kernel
theorem dX10_fifthsOf_52 : decode cX10_fifthsOf 52 = .ok (.aload_n 0, 1) := by decide +kernel
theorem dX10_fifthsOf_53 : decode cX10_fifthsOf 53 = .ok (.iload_n 3, 1) := by decide +kernel
theorem dX10_fifthsOf_54 : decode cX10_fifthsOf 54 = .ok (.iload_n 1, 1) := by decide +kernel
theorem dX10_fifthsOf_55 : decode cX10_fifthsOf 55 = .ok (.invokevirtual 155, 3) := by decide +kernel
theorem dX10_fifthsOf_58 : decode cX10_fifthsOf 58 = .ok (.ifCond .eq 34, 3) := by decide +kernel
theorem dX10_fifthsOf_61 : decode cX10_fifthsOf 61 = .ok (.aload_n 0, 1) := by decide +kernel
theorem dX10_fifthsOf_62 : decode cX10_fifthsOf 62 = .ok (.iload 4, 2) := by decide +kernel
theorem dX10_fifthsOf_64 : decode cX10_fifthsOf 64 = .ok (.iload_n 1, 1) := by decide +kernel
theorem dX10_fifthsOf_65 : decode cX10_fifthsOf 65 = .ok (.invokevirtual 155, 3) := by decide +kernel
theorem dX10_fifthsOf_68 : decode cX10_fifthsOf 68 = .ok (.ifCond .eq 24, 3) := by decide +kernel
theorem dX10_fifthsOf_71 : decode cX10_fifthsOf 71 = .ok (.aload_n 0, 1) := by decide +kernel
theorem dX10_fifthsOf_72 : decode cX10_fifthsOf 72 = .ok (.iload_n 3, 1) := by decide +kernel
theorem dX10_fifthsOf_73 : decode cX10_fifthsOf 73 = .ok (.invokevirtual 174, 3) := by decide +kernel
theorem dX10_fifthsOf_76 : decode cX10_fifthsOf 76 = .ok (.ifCond .eq 16, 3) := by decide +kernel
theorem dX10_fifthsOf_79 : decode cX10_fifthsOf 79 = .ok (.aload_n 0, 1) := by decide +kernel
theorem dX10_fifthsOf_80 : decode cX10_fifthsOf 80 = .ok (.iload 4, 2) := by decide +kernel
theorem dX10_fifthsOf_82 : decode cX10_fifthsOf 82 = .ok (.invokevirtual 174, 3) := by decide +kernel
theorem dX10_fifthsOf_85 : decode cX10_fifthsOf 85 = .ok (.ifCond .eq 7, 3) := by decide +kernel
theorem dX10_fifthsOf_88 : decode cX10_fifthsOf 88 = .ok (.iconst 1, 1) := by decide +kernel
theorem dX10_fifthsOf_89 : decode cX10_fifthsOf 89 = .ok (.goto 4, 3) := by decide +kernel
theorem dX10_fifthsOf_92 : decode cX10_fifthsOf 92 = .ok (.iconst 0, 1) := by decide +kernel
theorem dX10_fifthsOf_93 : decode cX10_fifthsOf 93 = .ok (.istore 6, 2) := by decide +kernel
theorem dX10_fifthsOf_95 : decode cX10_fifthsOf 95 = .ok (.iload_n 2, 1) := by decide +kernel
theorem dX10_fifthsOf_96 : decode cX10_fifthsOf 96 = .ok (.iload 6, 2) := by decide +kernel
theorem dX10_fifthsOf_98 : decode cX10_fifthsOf 98 = .ok (.ifCond .eq 21, 3) := by decide +kernel
theorem dX10_fifthsOf_101 : decode cX10_fifthsOf 101 = .ok (.iload 5, 2) := by decide +kernel
theorem dX10_fifthsOf_103 : decode cX10_fifthsOf 103 = .ok (.bipush 7, 2) := by decide +kernel
theorem dX10_fifthsOf_105 : decode cX10_fifthsOf 105 = .ok (.if_icmp .eq 10, 3) := by decide +kernel
theorem dX10_fifthsOf_108 : decode cX10_fifthsOf 108 = .ok (.iload 5, 2) := by decide +kernel
theorem dX10_fifthsOf_110 : decode cX10_fifthsOf 110 = .ok (.bipush (-7), 2) := by decide +kernel
theorem dX10_fifthsOf_112 : decode cX10_fifthsOf 112 = .ok (.if_icmp .ne 7, 3) := by decide +kernel
theorem dX10_fifthsOf_115 : decode cX10_fifthsOf 115 = .ok (.iconst 1, 1) := by decide +kernel
theorem dX10_fifthsOf_116 : decode cX10_fifthsOf 116 = .ok (.goto 4, 3) := by decide +kernel
theorem dX10_fifthsOf_119 : decode cX10_fifthsOf 119 = .ok (.iconst 0, 1) := by decide +kernel
theorem dX10_fifthsOf_120 : decode cX10_fifthsOf 120 = .ok (.iadd, 1) := by decide +kernel
theorem dX10_fifthsOf_121 : decode cX10_fifthsOf 121 = .ok (.istore_n 2, 1) := by decide +kernel
theorem dX10_fifthsOf_122 : decode cX10_fifthsOf 122 = .ok (.iinc 4 1, 3) := by decide +kernel
theorem dX10_fifthsOf_125 : decode cX10_fifthsOf 125 = .ok (.goto (-106), 3) := by decide +kernel
theorem dX10_fifthsOf_128 : decode cX10_fifthsOf 128 = .ok (.iinc 3 1, 3) := by decide +kernel
theorem dX10_fifthsOf_131 : decode cX10_fifthsOf 131 = .ok (.goto (-127), 3) := by decide +kernel
theorem dX10_fifthsOf_134 : decode cX10_fifthsOf 134 = .ok (.iload_n 2, 1) := by decide +kernel
theorem dX10_fifthsOf_135 : decode cX10_fifthsOf 135 = .ok (.ireturn, 1) := by decide +kernel
theorem dX10_fifths_0 : decode cX10_fifths 0 = .ok (.aload_n 0, 1) := by decide +kernel
theorem dX10_fifths_1 : decode cX10_fifths 1 = .ok (.iload_n 1, 1) := by decide +kernel
theorem dX10_fifths_2 : decode cX10_fifths 2 = .ok (.invokevirtual 192, 3) := by decide +kernel
theorem dX10_fifths_5 : decode cX10_fifths 5 = .ok (.ifCond .eq 11, 3) := by decide +kernel
theorem dX10_fifths_8 : decode cX10_fifths 8 = .ok (.aload_n 0, 1) := by decide +kernel
theorem dX10_fifths_9 : decode cX10_fifths 9 = .ok (.iload_n 1, 1) := by decide +kernel
theorem dX10_fifths_10 : decode cX10_fifths 10 = .ok (.invokevirtual 210, 3) := by decide +kernel
theorem dX10_fifths_13 : decode cX10_fifths 13 = .ok (.goto 4, 3) := by decide +kernel
theorem dX10_fifths_16 : decode cX10_fifths 16 = .ok (.iconst (-1), 1) := by decide +kernel
theorem dX10_fifths_17 : decode cX10_fifths 17 = .ok (.ireturn, 1) := by decide +kernel
theorem dX10_milkBy_0 : decode cX10_milkBy 0 = .ok (.iload_n 3, 1) := by decide +kernel
theorem dX10_milkBy_1 : decode cX10_milkBy 1 = .ok (.iload_n 2, 1) := by decide +kernel
theorem dX10_milkBy_2 : decode cX10_milkBy 2 = .ok (.invokestatic 137, 3) := by decide +kernel
theorem dX10_milkBy_5 : decode cX10_milkBy 5 = .ok (.ifCond .eq 8, 3) := by decide +kernel
theorem dX10_milkBy_8 : decode cX10_milkBy 8 = .ok (.bipush (-9), 2) := by decide +kernel
theorem dX10_milkBy_10 : decode cX10_milkBy 10 = .ok (.goto 21, 3) := by decide +kernel
theorem dX10_milkBy_13 : decode cX10_milkBy 13 = .ok (.aload_n 0, 1) := by decide +kernel
theorem dX10_milkBy_14 : decode cX10_milkBy 14 = .ok (.getfield 78, 3) := by decide +kernel
theorem dX10_milkBy_17 : decode cX10_milkBy 17 = .ok (.sipush 256, 3) := by decide +kernel
theorem dX10_milkBy_20 : decode cX10_milkBy 20 = .ok (.iload_n 1, 1) := by decide +kernel
theorem dX10_milkBy_21 : decode cX10_milkBy 21 = .ok (.iconst 1, 1) := by decide +kernel
theorem dX10_milkBy_22 : decode cX10_milkBy 22 = .ok (.iadd, 1) := by decide +kernel
theorem dX10_milkBy_23 : decode cX10_milkBy 23 = .ok (.imul, 1) := by decide +kernel
theorem dX10_milkBy_24 : decode cX10_milkBy 24 = .ok (.iload_n 3, 1) := by decide +kernel
theorem dX10_milkBy_25 : decode cX10_milkBy 25 = .ok (.iconst 1, 1) := by decide +kernel
theorem dX10_milkBy_26 : decode cX10_milkBy 26 = .ok (.iload_n 2, 1) := by decide +kernel
theorem dX10_milkBy_27 : decode cX10_milkBy 27 = .ok (.ishl, 1) := by decide +kernel
theorem dX10_milkBy_28 : decode cX10_milkBy 28 = .ok (.ior, 1) := by decide +kernel
theorem dX10_milkBy_29 : decode cX10_milkBy 29 = .ok (.iadd, 1) := by decide +kernel
theorem dX10_milkBy_30 : decode cX10_milkBy 30 = .ok (.iaload, 1) := by decide +kernel
theorem dX10_milkBy_31 : decode cX10_milkBy 31 = .ok (.istore 4, 2) := by decide +kernel
theorem dX10_milkBy_33 : decode cX10_milkBy 33 = .ok (.iload 4, 2) := by decide +kernel
theorem dX10_milkBy_35 : decode cX10_milkBy 35 = .ok (.bipush (-9), 2) := by decide +kernel
theorem dX10_milkBy_37 : decode cX10_milkBy 37 = .ok (.if_icmp .ne 8, 3) := by decide +kernel
theorem dX10_milkBy_40 : decode cX10_milkBy 40 = .ok (.bipush (-9), 2) := by decide +kernel
theorem dX10_milkBy_42 : decode cX10_milkBy 42 = .ok (.goto 23, 3) := by decide +kernel
theorem dX10_milkBy_45 : decode cX10_milkBy 45 = .ok (.iload 4, 2) := by decide +kernel
theorem dX10_milkBy_47 : decode cX10_milkBy 47 = .ok (.aload_n 0, 1) := by decide +kernel
theorem dX10_milkBy_48 : decode cX10_milkBy 48 = .ok (.getfield 35, 3) := by decide +kernel
theorem dX10_milkBy_51 : decode cX10_milkBy 51 = .ok (.aload_n 0, 1) := by decide +kernel
theorem dX10_milkBy_52 : decode cX10_milkBy 52 = .ok (.getfield 41, 3) := by decide +kernel
theorem dX10_milkBy_55 : decode cX10_milkBy 55 = .ok (.iload_n 1, 1) := by decide +kernel
theorem dX10_milkBy_56 : decode cX10_milkBy 56 = .ok (.iaload, 1) := by decide +kernel
theorem dX10_milkBy_57 : decode cX10_milkBy 57 = .ok (.iaload, 1) := by decide +kernel
theorem dX10_milkBy_58 : decode cX10_milkBy 58 = .ok (.aload_n 0, 1) := by decide +kernel
theorem dX10_milkBy_59 : decode cX10_milkBy 59 = .ok (.iload_n 2, 1) := by decide +kernel
theorem dX10_milkBy_60 : decode cX10_milkBy 60 = .ok (.invokevirtual 210, 3) := by decide +kernel
theorem dX10_milkBy_63 : decode cX10_milkBy 63 = .ok (.imul, 1) := by decide +kernel
theorem dX10_milkBy_64 : decode cX10_milkBy 64 = .ok (.iadd, 1) := by decide +kernel
theorem dX10_milkBy_65 : decode cX10_milkBy 65 = .ok (.ireturn, 1) := by decide +kernel
theorem dX10_herd_0 : decode cX10_herd 0 = .ok (.iload_n 1, 1) := by decide +kernel
theorem dX10_herd_1 : decode cX10_herd 1 = .ok (.iconst (-1), 1) := by decide +kernel
theorem dX10_herd_2 : decode cX10_herd 2 = .ok (.if_icmp .eq 13, 3) := by decide +kernel
theorem dX10_herd_5 : decode cX10_herd 5 = .ok (.aload_n 0, 1) := by decide +kernel
theorem dX10_herd_6 : decode cX10_herd 6 = .ok (.iload_n 1, 1) := by decide +kernel
theorem dX10_herd_7 : decode cX10_herd 7 = .ok (.invokevirtual 149, 3) := by decide +kernel
theorem dX10_herd_10 : decode cX10_herd 10 = .ok (.ifCond .ne 5, 3) := by decide +kernel
theorem dX10_herd_13 : decode cX10_herd 13 = .ok (.iconst (-1), 1) := by decide +kernel
theorem dX10_herd_14 : decode cX10_herd 14 = .ok (.ireturn, 1) := by decide +kernel
theorem dX10_herd_15 : decode cX10_herd 15 = .ok (.iconst 0, 1) := by decide +kernel
theorem dX10_herd_16 : decode cX10_herd 16 = .ok (.istore_n 2, 1) := by decide +kernel
theorem dX10_herd_17 : decode cX10_herd 17 = .ok (.iload_n 2, 1) := by decide +kernel
theorem dX10_herd_18 : decode cX10_herd 18 = .ok (.aload_n 0, 1) := by decide +kernel
theorem dX10_herd_19 : decode cX10_herd 19 = .ok (.getfield 13, 3) := by decide +kernel
theorem dX10_herd_22 : decode cX10_herd 22 = .ok (.iconst 0, 1) := by decide +kernel
theorem dX10_herd_23 : decode cX10_herd 23 = .ok (.iaload, 1) := by decide +kernel
theorem dX10_herd_24 : decode cX10_herd 24 = .ok (.invokestatic 171, 3) := by decide +kernel
theorem dX10_herd_27 : decode cX10_herd 27 = .ok (.if_icmp .gt 27, 3) := by decide +kernel
theorem dX10_herd_30 : decode cX10_herd 30 = .ok (.aload_n 0, 1) := by decide +kernel
theorem dX10_herd_31 : decode cX10_herd 31 = .ok (.getfield 78, 3) := by decide +kernel
theorem dX10_herd_34 : decode cX10_herd 34 = .ok (.sipush 256, 3) := by decide +kernel
theorem dX10_herd_37 : decode cX10_herd 37 = .ok (.aload_n 0, 1) := by decide +kernel
theorem dX10_herd_38 : decode cX10_herd 38 = .ok (.getfield 38, 3) := by decide +kernel
theorem dX10_herd_41 : decode cX10_herd 41 = .ok (.iconst 0, 1) := by decide +kernel
theorem dX10_herd_42 : decode cX10_herd 42 = .ok (.iaload, 1) := by decide +kernel
theorem dX10_herd_43 : decode cX10_herd 43 = .ok (.imul, 1) := by decide +kernel
theorem dX10_herd_44 : decode cX10_herd 44 = .ok (.iload_n 2, 1) := by decide +kernel
theorem dX10_herd_45 : decode cX10_herd 45 = .ok (.iadd, 1) := by decide +kernel
theorem dX10_herd_46 : decode cX10_herd 46 = .ok (.iconst 0, 1) := by decide +kernel
theorem dX10_herd_47 : decode cX10_herd 47 = .ok (.iastore, 1) := by decide +kernel
theorem dX10_herd_48 : decode cX10_herd 48 = .ok (.iinc 2 1, 3) := by decide +kernel
theorem dX10_herd_51 : decode cX10_herd 51 = .ok (.goto (-34), 3) := by decide +kernel
theorem dX10_herd_54 : decode cX10_herd 54 = .ok (.aload_n 0, 1) := by decide +kernel
theorem dX10_herd_55 : decode cX10_herd 55 = .ok (.getfield 38, 3) := by decide +kernel
theorem dX10_herd_58 : decode cX10_herd 58 = .ok (.iconst 0, 1) := by decide +kernel
theorem dX10_herd_59 : decode cX10_herd 59 = .ok (.iaload, 1) := by decide +kernel
theorem dX10_herd_60 : decode cX10_herd 60 = .ok (.iconst 1, 1) := by decide +kernel
theorem dX10_herd_61 : decode cX10_herd 61 = .ok (.isub, 1) := by decide +kernel
theorem dX10_herd_62 : decode cX10_herd 62 = .ok (.istore_n 2, 1) := by decide +kernel
theorem dX10_herd_63 : decode cX10_herd 63 = .ok (.iload_n 2, 1) := by decide +kernel
theorem dX10_herd_64 : decode cX10_herd 64 = .ok (.ifCond .lt 94, 3) := by decide +kernel
theorem dX10_herd_67 : decode cX10_herd 67 = .ok (.iconst 0, 1) := by decide +kernel
theorem dX10_herd_68 : decode cX10_herd 68 = .ok (.istore_n 3, 1) := by decide +kernel
theorem dX10_herd_69 : decode cX10_herd 69 = .ok (.iload_n 3, 1) := by decide +kernel
theorem dX10_herd_70 : decode cX10_herd 70 = .ok (.aload_n 0, 1) := by decide +kernel
theorem dX10_herd_71 : decode cX10_herd 71 = .ok (.getfield 13, 3) := by decide +kernel
theorem dX10_herd_74 : decode cX10_herd 74 = .ok (.iconst 0, 1) := by decide +kernel
theorem dX10_herd_75 : decode cX10_herd 75 = .ok (.iaload, 1) := by decide +kernel
theorem dX10_herd_76 : decode cX10_herd 76 = .ok (.invokestatic 171, 3) := by decide +kernel
theorem dX10_herd_79 : decode cX10_herd 79 = .ok (.if_icmp .gt 73, 3) := by decide +kernel
theorem dX10_herd_82 : decode cX10_herd 82 = .ok (.bipush (-9), 2) := by decide +kernel
theorem dX10_herd_84 : decode cX10_herd 84 = .ok (.istore 4, 2) := by decide +kernel
theorem dX10_herd_86 : decode cX10_herd 86 = .ok (.iconst 0, 1) := by decide +kernel
theorem dX10_herd_87 : decode cX10_herd 87 = .ok (.istore 5, 2) := by decide +kernel
theorem dX10_herd_89 : decode cX10_herd 89 = .ok (.iload 5, 2) := by decide +kernel
theorem dX10_herd_91 : decode cX10_herd 91 = .ok (.aload_n 0, 1) := by decide +kernel
theorem dX10_herd_92 : decode cX10_herd 92 = .ok (.getfield 13, 3) := by decide +kernel
theorem dX10_herd_95 : decode cX10_herd 95 = .ok (.iconst 0, 1) := by decide +kernel
theorem dX10_herd_96 : decode cX10_herd 96 = .ok (.iaload, 1) := by decide +kernel
theorem dX10_herd_97 : decode cX10_herd 97 = .ok (.if_icmp .ge 35, 3) := by decide +kernel
theorem dX10_herd_100 : decode cX10_herd 100 = .ok (.aload_n 0, 1) := by decide +kernel
theorem dX10_herd_101 : decode cX10_herd 101 = .ok (.iload_n 2, 1) := by decide +kernel
theorem dX10_herd_102 : decode cX10_herd 102 = .ok (.iload 5, 2) := by decide +kernel
theorem dX10_herd_104 : decode cX10_herd 104 = .ok (.iload_n 3, 1) := by decide +kernel
theorem dX10_herd_105 : decode cX10_herd 105 = .ok (.invokevirtual 213, 3) := by decide +kernel
theorem dX10_herd_108 : decode cX10_herd 108 = .ok (.istore 6, 2) := by decide +kernel
theorem dX10_herd_110 : decode cX10_herd 110 = .ok (.iload 6, 2) := by decide +kernel
theorem dX10_herd_112 : decode cX10_herd 112 = .ok (.iload 4, 2) := by decide +kernel
theorem dX10_herd_114 : decode cX10_herd 114 = .ok (.if_icmp .le 8, 3) := by decide +kernel
theorem dX10_herd_117 : decode cX10_herd 117 = .ok (.iload 6, 2) := by decide +kernel
theorem dX10_herd_119 : decode cX10_herd 119 = .ok (.goto 5, 3) := by decide +kernel
theorem dX10_herd_122 : decode cX10_herd 122 = .ok (.iload 4, 2) := by decide +kernel
theorem dX10_herd_124 : decode cX10_herd 124 = .ok (.istore 4, 2) := by decide +kernel
theorem dX10_herd_126 : decode cX10_herd 126 = .ok (.iinc 5 1, 3) := by decide +kernel
theorem dX10_herd_129 : decode cX10_herd 129 = .ok (.goto (-40), 3) := by decide +kernel
theorem dX10_herd_132 : decode cX10_herd 132 = .ok (.aload_n 0, 1) := by decide +kernel
theorem dX10_herd_133 : decode cX10_herd 133 = .ok (.getfield 78, 3) := by decide +kernel
theorem dX10_herd_136 : decode cX10_herd 136 = .ok (.sipush 256, 3) := by decide +kernel
theorem dX10_herd_139 : decode cX10_herd 139 = .ok (.iload_n 2, 1) := by decide +kernel
theorem dX10_herd_140 : decode cX10_herd 140 = .ok (.imul, 1) := by decide +kernel
theorem dX10_herd_141 : decode cX10_herd 141 = .ok (.iload_n 3, 1) := by decide +kernel
theorem dX10_herd_142 : decode cX10_herd 142 = .ok (.iadd, 1) := by decide +kernel
theorem dX10_herd_143 : decode cX10_herd 143 = .ok (.iload 4, 2) := by decide +kernel
theorem dX10_herd_145 : decode cX10_herd 145 = .ok (.iastore, 1) := by decide +kernel
theorem dX10_herd_146 : decode cX10_herd 146 = .ok (.iinc 3 1, 3) := by decide +kernel
theorem dX10_herd_149 : decode cX10_herd 149 = .ok (.goto (-80), 3) := by decide +kernel
theorem dX10_herd_152 : decode cX10_herd 152 = .ok (.iinc 2 (-1), 3) := by decide +kernel
theorem dX10_herd_155 : decode cX10_herd 155 = .ok (.goto (-92), 3) := by decide +kernel
theorem dX10_herd_158 : decode cX10_herd 158 = .ok (.iload_n 1, 1) := by decide +kernel
theorem dX10_herd_159 : decode cX10_herd 159 = .ok (.iconst (-1), 1) := by decide +kernel
theorem dX10_herd_160 : decode cX10_herd 160 = .ok (.if_icmp .eq 14, 3) := by decide +kernel
theorem dX10_herd_163 : decode cX10_herd 163 = .ok (.aload_n 0, 1) := by decide +kernel
theorem dX10_herd_164 : decode cX10_herd 164 = .ok (.getfield 78, 3) := by decide +kernel
theorem dX10_herd_167 : decode cX10_herd 167 = .ok (.iconst 0, 1) := by decide +kernel
theorem dX10_herd_168 : decode cX10_herd 168 = .ok (.iaload, 1) := by decide +kernel
theorem dX10_herd_169 : decode cX10_herd 169 = .ok (.bipush (-9), 2) := by decide +kernel
theorem dX10_herd_171 : decode cX10_herd 171 = .ok (.if_icmp .ne 10, 3) := by decide +kernel
theorem dX10_herd_174 : decode cX10_herd 174 = .ok (.aload_n 0, 1) := by decide +kernel
theorem dX10_herd_175 : decode cX10_herd 175 = .ok (.getfield 78, 3) := by decide +kernel
theorem dX10_herd_178 : decode cX10_herd 178 = .ok (.iconst 0, 1) := by decide +kernel
theorem dX10_herd_179 : decode cX10_herd 179 = .ok (.iaload, 1) := by decide +kernel
theorem dX10_herd_180 : decode cX10_herd 180 = .ok (.ireturn, 1) := by decide +kernel
theorem dX10_herd_181 : decode cX10_herd 181 = .ok (.iconst 0, 1) := by decide +kernel
theorem dX10_herd_182 : decode cX10_herd 182 = .ok (.istore_n 2, 1) := by decide +kernel
theorem dX10_herd_183 : decode cX10_herd 183 = .ok (.bipush (-9), 2) := by decide +kernel
theorem dX10_herd_185 : decode cX10_herd 185 = .ok (.istore_n 3, 1) := by decide +kernel
theorem dX10_herd_186 : decode cX10_herd 186 = .ok (.iconst 0, 1) := by decide +kernel
theorem dX10_herd_187 : decode cX10_herd 187 = .ok (.istore 4, 2) := by decide +kernel
theorem dX10_herd_189 : decode cX10_herd 189 = .ok (.iload 4, 2) := by decide +kernel
theorem dX10_herd_191 : decode cX10_herd 191 = .ok (.iload_n 1, 1) := by decide +kernel
theorem dX10_herd_192 : decode cX10_herd 192 = .ok (.if_icmp .gt 47, 3) := by decide +kernel
theorem dX10_herd_195 : decode cX10_herd 195 = .ok (.iconst 0, 1) := by decide +kernel
theorem dX10_herd_196 : decode cX10_herd 196 = .ok (.istore_n 3, 1) := by decide +kernel
theorem dX10_herd_197 : decode cX10_herd 197 = .ok (.aload_n 0, 1) := by decide +kernel
theorem dX10_herd_198 : decode cX10_herd 198 = .ok (.iload 4, 2) := by decide +kernel
theorem dX10_herd_200 : decode cX10_herd 200 = .ok (.iload_n 3, 1) := by decide +kernel
theorem dX10_herd_201 : decode cX10_herd 201 = .ok (.iload_n 2, 1) := by decide +kernel
theorem dX10_herd_202 : decode cX10_herd 202 = .ok (.invokevirtual 213, 3) := by decide +kernel
theorem dX10_herd_205 : decode cX10_herd 205 = .ok (.aload_n 0, 1) := by decide +kernel
theorem dX10_herd_206 : decode cX10_herd 206 = .ok (.getfield 78, 3) := by decide +kernel
theorem dX10_herd_209 : decode cX10_herd 209 = .ok (.sipush 256, 3) := by decide +kernel
theorem dX10_herd_212 : decode cX10_herd 212 = .ok (.iload 4, 2) := by decide +kernel
theorem dX10_herd_214 : decode cX10_herd 214 = .ok (.imul, 1) := by decide +kernel
theorem dX10_herd_215 : decode cX10_herd 215 = .ok (.iload_n 2, 1) := by decide +kernel
theorem dX10_herd_216 : decode cX10_herd 216 = .ok (.iadd, 1) := by decide +kernel
theorem dX10_herd_217 : decode cX10_herd 217 = .ok (.iaload, 1) := by decide +kernel
theorem dX10_herd_218 : decode cX10_herd 218 = .ok (.if_icmp .eq 9, 3) := by decide +kernel
theorem dX10_herd_221 : decode cX10_herd 221 = .ok (.iinc 3 1, 3) := by decide +kernel
theorem dX10_herd_224 : decode cX10_herd 224 = .ok (.goto (-27), 3) := by decide +kernel
theorem dX10_herd_227 : decode cX10_herd 227 = .ok (.iload_n 2, 1) := by decide +kernel
theorem dX10_herd_228 : decode cX10_herd 228 = .ok (.iconst 1, 1) := by decide +kernel
theorem dX10_herd_229 : decode cX10_herd 229 = .ok (.iload_n 3, 1) := by decide +kernel
theorem dX10_herd_230 : decode cX10_herd 230 = .ok (.ishl, 1) := by decide +kernel
theorem dX10_herd_231 : decode cX10_herd 231 = .ok (.ior, 1) := by decide +kernel
theorem dX10_herd_232 : decode cX10_herd 232 = .ok (.istore_n 2, 1) := by decide +kernel
theorem dX10_herd_233 : decode cX10_herd 233 = .ok (.iinc 4 1, 3) := by decide +kernel
theorem dX10_herd_236 : decode cX10_herd 236 = .ok (.goto (-47), 3) := by decide +kernel
theorem dX10_herd_239 : decode cX10_herd 239 = .ok (.iload_n 3, 1) := by decide +kernel
theorem dX10_herd_240 : decode cX10_herd 240 = .ok (.ireturn, 1) := by decide +kernel
theorem dX10_isUnheard_0 : decode cX10_isUnheard 0 = .ok (.iconst 1, 1) := by decide +kernel
theorem dX10_isUnheard_1 : decode cX10_isUnheard 1 = .ok (.iload_n 2, 1) := by decide +kernel
theorem dX10_isUnheard_2 : decode cX10_isUnheard 2 = .ok (.ishl, 1) := by decide +kernel
theorem dX10_isUnheard_3 : decode cX10_isUnheard 3 = .ok (.istore 5, 2) := by decide +kernel
theorem dX10_isUnheard_5 : decode cX10_isUnheard 5 = .ok (.iconst 0, 1) := by decide +kernel
theorem dX10_isUnheard_6 : decode cX10_isUnheard 6 = .ok (.istore 6, 2) := by decide +kernel
theorem dX10_isUnheard_8 : decode cX10_isUnheard 8 = .ok (.iload 6, 2) := by decide +kernel
theorem dX10_isUnheard_10 : decode cX10_isUnheard 10 = .ok (.bipush 8, 2) := by decide +kernel
theorem dX10_isUnheard_12 : decode cX10_isUnheard 12 = .ok (.if_icmp .ge 131, 3) := by decide +kernel
theorem dX10_isUnheard_15 : decode cX10_isUnheard 15 = .ok (.iconst 0, 1) := by decide +kernel
theorem dX10_isUnheard_16 : decode cX10_isUnheard 16 = .ok (.istore 7, 2) := by decide +kernel
theorem dX10_isUnheard_18 : decode cX10_isUnheard 18 = .ok (.iload 7, 2) := by decide +kernel
theorem dX10_isUnheard_20 : decode cX10_isUnheard 20 = .ok (.aload_n 0, 1) := by decide +kernel
theorem dX10_isUnheard_21 : decode cX10_isUnheard 21 = .ok (.getfield 17, 3) := by decide +kernel
theorem dX10_isUnheard_24 : decode cX10_isUnheard 24 = .ok (.iconst 0, 1) := by decide +kernel
theorem dX10_isUnheard_25 : decode cX10_isUnheard 25 = .ok (.iaload, 1) := by decide +kernel
theorem dX10_isUnheard_26 : decode cX10_isUnheard 26 = .ok (.if_icmp .ge 111, 3) := by decide +kernel
theorem dX10_isUnheard_29 : decode cX10_isUnheard 29 = .ok (.iload 4, 2) := by decide +kernel
theorem dX10_isUnheard_31 : decode cX10_isUnheard 31 = .ok (.iload 7, 2) := by decide +kernel
theorem dX10_isUnheard_33 : decode cX10_isUnheard 33 = .ok (.invokestatic 137, 3) := by decide +kernel
theorem dX10_isUnheard_36 : decode cX10_isUnheard 36 = .ok (.ifCond .ne 13, 3) := by decide +kernel
theorem dX10_isUnheard_39 : decode cX10_isUnheard 39 = .ok (.aload_n 0, 1) := by decide +kernel
theorem dX10_isUnheard_40 : decode cX10_isUnheard 40 = .ok (.iload_n 1, 1) := by decide +kernel
theorem dX10_isUnheard_41 : decode cX10_isUnheard 41 = .ok (.iload 7, 2) := by decide +kernel
theorem dX10_isUnheard_43 : decode cX10_isUnheard 43 = .ok (.invokevirtual 152, 3) := by decide +kernel
theorem dX10_isUnheard_46 : decode cX10_isUnheard 46 = .ok (.ifCond .ne 7, 3) := by decide +kernel
theorem dX10_isUnheard_49 : decode cX10_isUnheard 49 = .ok (.iconst 1, 1) := by decide +kernel
theorem dX10_isUnheard_50 : decode cX10_isUnheard 50 = .ok (.goto 4, 3) := by decide +kernel
theorem dX10_isUnheard_53 : decode cX10_isUnheard 53 = .ok (.iconst 0, 1) := by decide +kernel
theorem dX10_isUnheard_54 : decode cX10_isUnheard 54 = .ok (.istore 8, 2) := by decide +kernel
theorem dX10_isUnheard_56 : decode cX10_isUnheard 56 = .ok (.iload 5, 2) := by decide +kernel
theorem dX10_isUnheard_58 : decode cX10_isUnheard 58 = .ok (.aload_n 0, 1) := by decide +kernel
theorem dX10_isUnheard_59 : decode cX10_isUnheard 59 = .ok (.getfield 20, 3) := by decide +kernel
theorem dX10_isUnheard_62 : decode cX10_isUnheard 62 = .ok (.iload 7, 2) := by decide +kernel
theorem dX10_isUnheard_64 : decode cX10_isUnheard 64 = .ok (.iaload, 1) := by decide +kernel
theorem dX10_isUnheard_65 : decode cX10_isUnheard 65 = .ok (.invokestatic 137, 3) := by decide +kernel
theorem dX10_isUnheard_68 : decode cX10_isUnheard 68 = .ok (.ifCond .ne 18, 3) := by decide +kernel
theorem dX10_isUnheard_71 : decode cX10_isUnheard 71 = .ok (.iload 5, 2) := by decide +kernel
theorem dX10_isUnheard_73 : decode cX10_isUnheard 73 = .ok (.aload_n 0, 1) := by decide +kernel
theorem dX10_isUnheard_74 : decode cX10_isUnheard 74 = .ok (.getfield 23, 3) := by decide +kernel
theorem dX10_isUnheard_77 : decode cX10_isUnheard 77 = .ok (.iload 7, 2) := by decide +kernel
theorem dX10_isUnheard_79 : decode cX10_isUnheard 79 = .ok (.iaload, 1) := by decide +kernel
theorem dX10_isUnheard_80 : decode cX10_isUnheard 80 = .ok (.invokestatic 137, 3) := by decide +kernel
theorem dX10_isUnheard_83 : decode cX10_isUnheard 83 = .ok (.ifCond .eq 7, 3) := by decide +kernel
theorem dX10_isUnheard_86 : decode cX10_isUnheard 86 = .ok (.iconst 1, 1) := by decide +kernel
theorem dX10_isUnheard_87 : decode cX10_isUnheard 87 = .ok (.goto 4, 3) := by decide +kernel
theorem dX10_isUnheard_90 : decode cX10_isUnheard 90 = .ok (.iconst 0, 1) := by decide +kernel
theorem dX10_isUnheard_91 : decode cX10_isUnheard 91 = .ok (.istore 9, 2) := by decide +kernel
theorem dX10_isUnheard_93 : decode cX10_isUnheard 93 = .ok (.iload 5, 2) := by decide +kernel
theorem dX10_isUnheard_95 : decode cX10_isUnheard 95 = .ok (.iload 8, 2) := by decide +kernel
theorem dX10_isUnheard_97 : decode cX10_isUnheard 97 = .ok (.ifCond .eq 30, 3) := by decide +kernel
theorem dX10_isUnheard_100 : decode cX10_isUnheard 100 = .ok (.iload 9, 2) := by decide +kernel
theorem dX10_isUnheard_102 : decode cX10_isUnheard 102 = .ok (.ifCond .eq 25, 3) := by decide +kernel
theorem dX10_isUnheard_105 : decode cX10_isUnheard 105 = .ok (.iconst 1, 1) := by decide +kernel
theorem dX10_isUnheard_106 : decode cX10_isUnheard 106 = .ok (.aload_n 0, 1) := by decide +kernel
theorem dX10_isUnheard_107 : decode cX10_isUnheard 107 = .ok (.getfield 20, 3) := by decide +kernel
theorem dX10_isUnheard_110 : decode cX10_isUnheard 110 = .ok (.iload 7, 2) := by decide +kernel
theorem dX10_isUnheard_112 : decode cX10_isUnheard 112 = .ok (.iaload, 1) := by decide +kernel
theorem dX10_isUnheard_113 : decode cX10_isUnheard 113 = .ok (.ishl, 1) := by decide +kernel
theorem dX10_isUnheard_114 : decode cX10_isUnheard 114 = .ok (.iconst 1, 1) := by decide +kernel
theorem dX10_isUnheard_115 : decode cX10_isUnheard 115 = .ok (.aload_n 0, 1) := by decide +kernel
theorem dX10_isUnheard_116 : decode cX10_isUnheard 116 = .ok (.getfield 23, 3) := by decide +kernel
theorem dX10_isUnheard_119 : decode cX10_isUnheard 119 = .ok (.iload 7, 2) := by decide +kernel
theorem dX10_isUnheard_121 : decode cX10_isUnheard 121 = .ok (.iaload, 1) := by decide +kernel
theorem dX10_isUnheard_122 : decode cX10_isUnheard 122 = .ok (.ishl, 1) := by decide +kernel
theorem dX10_isUnheard_123 : decode cX10_isUnheard 123 = .ok (.ior, 1) := by decide +kernel
theorem dX10_isUnheard_124 : decode cX10_isUnheard 124 = .ok (.goto 4, 3) := by decide +kernel
theorem dX10_isUnheard_127 : decode cX10_isUnheard 127 = .ok (.iconst 0, 1) := by decide +kernel
theorem dX10_isUnheard_128 : decode cX10_isUnheard 128 = .ok (.ior, 1) := by decide +kernel
theorem dX10_isUnheard_129 : decode cX10_isUnheard 129 = .ok (.istore 5, 2) := by decide +kernel
theorem dX10_isUnheard_131 : decode cX10_isUnheard 131 = .ok (.iinc 7 1, 3) := by decide +kernel
theorem dX10_isUnheard_134 : decode cX10_isUnheard 134 = .ok (.goto (-116), 3) := by decide +kernel
theorem dX10_isUnheard_137 : decode cX10_isUnheard 137 = .ok (.iinc 6 1, 3) := by decide +kernel
theorem dX10_isUnheard_140 : decode cX10_isUnheard 140 = .ok (.goto (-132), 3) := by decide +kernel
theorem dX10_isUnheard_143 : decode cX10_isUnheard 143 = .ok (.iload 5, 2) := by decide +kernel
theorem dX10_isUnheard_145 : decode cX10_isUnheard 145 = .ok (.iload_n 3, 1) := by decide +kernel
theorem dX10_isUnheard_146 : decode cX10_isUnheard 146 = .ok (.invokestatic 137, 3) := by decide +kernel
theorem dX10_isUnheard_149 : decode cX10_isUnheard 149 = .ok (.ireturn, 1) := by decide +kernel
theorem dX10_frost_0 : decode cX10_frost 0 = .ok (.aload_n 0, 1) := by decide +kernel
theorem dX10_frost_1 : decode cX10_frost 1 = .ok (.iload_n 1, 1) := by decide +kernel
theorem dX10_frost_2 : decode cX10_frost 2 = .ok (.invokevirtual 145, 3) := by decide +kernel
theorem dX10_frost_5 : decode cX10_frost 5 = .ok (.ifCond .eq 51, 3) := by decide +kernel
theorem dX10_frost_8 : decode cX10_frost 8 = .ok (.aload_n 0, 1) := by decide +kernel
theorem dX10_frost_9 : decode cX10_frost 9 = .ok (.iload_n 2, 1) := by decide +kernel
theorem dX10_frost_10 : decode cX10_frost 10 = .ok (.invokevirtual 192, 3) := by decide +kernel
theorem dX10_frost_13 : decode cX10_frost 13 = .ok (.ifCond .eq 43, 3) := by decide +kernel
theorem dX10_frost_16 : decode cX10_frost 16 = .ok (.aload_n 0, 1) := by decide +kernel
theorem dX10_frost_17 : decode cX10_frost 17 = .ok (.iload_n 3, 1) := by decide +kernel
theorem dX10_frost_18 : decode cX10_frost 18 = .ok (.invokevirtual 192, 3) := by decide +kernel
theorem dX10_frost_21 : decode cX10_frost 21 = .ok (.ifCond .eq 35, 3) := by decide +kernel
theorem dX10_frost_24 : decode cX10_frost 24 = .ok (.iload 4, 2) := by decide +kernel
theorem dX10_frost_26 : decode cX10_frost 26 = .ok (.iconst 0, 1) := by decide +kernel
theorem dX10_frost_27 : decode cX10_frost 27 = .ok (.bipush 40, 2) := by decide +kernel
theorem dX10_frost_29 : decode cX10_frost 29 = .ok (.invokestatic 81, 3) := by decide +kernel
theorem dX10_frost_32 : decode cX10_frost 32 = .ok (.ifCond .eq 24, 3) := by decide +kernel
theorem dX10_frost_35 : decode cX10_frost 35 = .ok (.iload 5, 2) := by decide +kernel
theorem dX10_frost_37 : decode cX10_frost 37 = .ok (.iconst 0, 1) := by decide +kernel
theorem dX10_frost_38 : decode cX10_frost 38 = .ok (.bipush 10, 2) := by decide +kernel
theorem dX10_frost_40 : decode cX10_frost 40 = .ok (.invokestatic 81, 3) := by decide +kernel
theorem dX10_frost_43 : decode cX10_frost 43 = .ok (.ifCond .eq 13, 3) := by decide +kernel
theorem dX10_frost_46 : decode cX10_frost 46 = .ok (.iload 6, 2) := by decide +kernel
theorem dX10_frost_48 : decode cX10_frost 48 = .ok (.iconst 0, 1) := by decide +kernel
theorem dX10_frost_49 : decode cX10_frost 49 = .ok (.iconst 1, 1) := by decide +kernel
theorem dX10_frost_50 : decode cX10_frost 50 = .ok (.invokestatic 81, 3) := by decide +kernel
theorem dX10_frost_53 : decode cX10_frost 53 = .ok (.ifCond .ne 5, 3) := by decide +kernel
theorem dX10_frost_56 : decode cX10_frost 56 = .ok (.iconst (-1), 1) := by decide +kernel
theorem dX10_frost_57 : decode cX10_frost 57 = .ok (.ireturn, 1) := by decide +kernel
theorem dX10_frost_58 : decode cX10_frost 58 = .ok (.iconst 0, 1) := by decide +kernel
theorem dX10_frost_59 : decode cX10_frost 59 = .ok (.istore 7, 2) := by decide +kernel
theorem dX10_frost_61 : decode cX10_frost 61 = .ok (.iconst 1, 1) := by decide +kernel
theorem dX10_frost_62 : decode cX10_frost 62 = .ok (.istore 8, 2) := by decide +kernel
theorem dX10_frost_64 : decode cX10_frost 64 = .ok (.iconst 0, 1) := by decide +kernel
theorem dX10_frost_65 : decode cX10_frost 65 = .ok (.istore 9, 2) := by decide +kernel
theorem dX10_frost_67 : decode cX10_frost 67 = .ok (.iload 9, 2) := by decide +kernel
theorem dX10_frost_69 : decode cX10_frost 69 = .ok (.aload_n 0, 1) := by decide +kernel
theorem dX10_frost_70 : decode cX10_frost 70 = .ok (.getfield 17, 3) := by decide +kernel
theorem dX10_frost_73 : decode cX10_frost 73 = .ok (.iconst 0, 1) := by decide +kernel
theorem dX10_frost_74 : decode cX10_frost 74 = .ok (.iaload, 1) := by decide +kernel
theorem dX10_frost_75 : decode cX10_frost 75 = .ok (.if_icmp .ge 74, 3) := by decide +kernel
theorem dX10_frost_78 : decode cX10_frost 78 = .ok (.aload_n 0, 1) := by decide +kernel
theorem dX10_frost_79 : decode cX10_frost 79 = .ok (.iload 9, 2) := by decide +kernel
theorem dX10_frost_81 : decode cX10_frost 81 = .ok (.invokevirtual 174, 3) := by decide +kernel
theorem dX10_frost_84 : decode cX10_frost 84 = .ok (.ifCond .eq 22, 3) := by decide +kernel
theorem dX10_frost_87 : decode cX10_frost 87 = .ok (.aload_n 0, 1) := by decide +kernel
theorem dX10_frost_88 : decode cX10_frost 88 = .ok (.getfield 50, 3) := by decide +kernel
theorem dX10_frost_91 : decode cX10_frost 91 = .ok (.bipush 6, 2) := by decide +kernel
theorem dX10_frost_93 : decode cX10_frost 93 = .ok (.iload 9, 2) := by decide +kernel
theorem dX10_frost_95 : decode cX10_frost 95 = .ok (.iadd, 1) := by decide +kernel
theorem dX10_frost_96 : decode cX10_frost 96 = .ok (.iaload, 1) := by decide +kernel
theorem dX10_frost_97 : decode cX10_frost 97 = .ok (.iload 4, 2) := by decide +kernel
theorem dX10_frost_99 : decode cX10_frost 99 = .ok (.if_icmp .lt 7, 3) := by decide +kernel
theorem dX10_frost_102 : decode cX10_frost 102 = .ok (.iconst 1, 1) := by decide +kernel
theorem dX10_frost_103 : decode cX10_frost 103 = .ok (.goto 4, 3) := by decide +kernel
theorem dX10_frost_106 : decode cX10_frost 106 = .ok (.iconst 0, 1) := by decide +kernel
theorem dX10_frost_107 : decode cX10_frost 107 = .ok (.istore 10, 2) := by decide +kernel
theorem dX10_frost_109 : decode cX10_frost 109 = .ok (.iload 7, 2) := by decide +kernel
theorem dX10_frost_111 : decode cX10_frost 111 = .ok (.iload 10, 2) := by decide +kernel
theorem dX10_frost_113 : decode cX10_frost 113 = .ok (.ifCond .eq 10, 3) := by decide +kernel
theorem dX10_frost_116 : decode cX10_frost 116 = .ok (.iconst 1, 1) := by decide +kernel
theorem dX10_frost_117 : decode cX10_frost 117 = .ok (.iload 9, 2) := by decide +kernel
theorem dX10_frost_119 : decode cX10_frost 119 = .ok (.ishl, 1) := by decide +kernel
theorem dX10_frost_120 : decode cX10_frost 120 = .ok (.goto 4, 3) := by decide +kernel
theorem dX10_frost_123 : decode cX10_frost 123 = .ok (.iconst 0, 1) := by decide +kernel
theorem dX10_frost_124 : decode cX10_frost 124 = .ok (.ior, 1) := by decide +kernel
theorem dX10_frost_125 : decode cX10_frost 125 = .ok (.istore 7, 2) := by decide +kernel
theorem dX10_frost_127 : decode cX10_frost 127 = .ok (.iload 8, 2) := by decide +kernel
theorem dX10_frost_129 : decode cX10_frost 129 = .ok (.iload 10, 2) := by decide +kernel
theorem dX10_frost_131 : decode cX10_frost 131 = .ok (.ifCond .eq 8, 3) := by decide +kernel
theorem dX10_frost_134 : decode cX10_frost 134 = .ok (.bipush 10, 2) := by decide +kernel
theorem dX10_frost_136 : decode cX10_frost 136 = .ok (.goto 4, 3) := by decide +kernel
theorem dX10_frost_139 : decode cX10_frost 139 = .ok (.iconst 1, 1) := by decide +kernel
theorem dX10_frost_140 : decode cX10_frost 140 = .ok (.imul, 1) := by decide +kernel
theorem dX10_frost_141 : decode cX10_frost 141 = .ok (.istore 8, 2) := by decide +kernel
theorem dX10_frost_143 : decode cX10_frost 143 = .ok (.iinc 9 1, 3) := by decide +kernel
theorem dX10_frost_146 : decode cX10_frost 146 = .ok (.goto (-79), 3) := by decide +kernel
theorem dX10_frost_149 : decode cX10_frost 149 = .ok (.iconst 0, 1) := by decide +kernel
theorem dX10_frost_150 : decode cX10_frost 150 = .ok (.istore 9, 2) := by decide +kernel
theorem dX10_frost_152 : decode cX10_frost 152 = .ok (.iconst 0, 1) := by decide +kernel
theorem dX10_frost_153 : decode cX10_frost 153 = .ok (.istore 10, 2) := by decide +kernel
theorem dX10_frost_155 : decode cX10_frost 155 = .ok (.iload 10, 2) := by decide +kernel
theorem dX10_frost_157 : decode cX10_frost 157 = .ok (.iload 7, 2) := by decide +kernel
theorem dX10_frost_159 : decode cX10_frost 159 = .ok (.if_icmp .gt 100, 3) := by decide +kernel
theorem dX10_frost_162 : decode cX10_frost 162 = .ok (.iload 10, 2) := by decide +kernel
theorem dX10_frost_164 : decode cX10_frost 164 = .ok (.iload 7, 2) := by decide +kernel
theorem dX10_frost_166 : decode cX10_frost 166 = .ok (.iconst (-1), 1) := by decide +kernel
theorem dX10_frost_167 : decode cX10_frost 167 = .ok (.ixor, 1) := by decide +kernel
theorem dX10_frost_168 : decode cX10_frost 168 = .ok (.iand, 1) := by decide +kernel
theorem dX10_frost_169 : decode cX10_frost 169 = .ok (.ifCond .ne 84, 3) := by decide +kernel
theorem dX10_frost_172 : decode cX10_frost 172 = .ok (.aload_n 0, 1) := by decide +kernel
theorem dX10_frost_173 : decode cX10_frost 173 = .ok (.iload_n 1, 1) := by decide +kernel
theorem dX10_frost_174 : decode cX10_frost 174 = .ok (.iload_n 2, 1) := by decide +kernel
theorem dX10_frost_175 : decode cX10_frost 175 = .ok (.iload_n 3, 1) := by decide +kernel
theorem dX10_frost_176 : decode cX10_frost 176 = .ok (.iload 10, 2) := by decide +kernel
theorem dX10_frost_178 : decode cX10_frost 178 = .ok (.invokevirtual 217, 3) := by decide +kernel
theorem dX10_frost_181 : decode cX10_frost 181 = .ok (.ifCond .eq 72, 3) := by decide +kernel
theorem dX10_frost_184 : decode cX10_frost 184 = .ok (.iconst 1, 1) := by decide +kernel
theorem dX10_frost_185 : decode cX10_frost 185 = .ok (.istore 11, 2) := by decide +kernel
theorem dX10_frost_187 : decode cX10_frost 187 = .ok (.iconst 0, 1) := by decide +kernel
theorem dX10_frost_188 : decode cX10_frost 188 = .ok (.istore 12, 2) := by decide +kernel
theorem dX10_frost_190 : decode cX10_frost 190 = .ok (.iload 12, 2) := by decide +kernel
theorem dX10_frost_192 : decode cX10_frost 192 = .ok (.aload_n 0, 1) := by decide +kernel
theorem dX10_frost_193 : decode cX10_frost 193 = .ok (.getfield 17, 3) := by decide +kernel
theorem dX10_frost_196 : decode cX10_frost 196 = .ok (.iconst 0, 1) := by decide +kernel
theorem dX10_frost_197 : decode cX10_frost 197 = .ok (.iaload, 1) := by decide +kernel
theorem dX10_frost_198 : decode cX10_frost 198 = .ok (.if_icmp .ge 48, 3) := by decide +kernel
theorem dX10_frost_201 : decode cX10_frost 201 = .ok (.iload 11, 2) := by decide +kernel
theorem dX10_frost_203 : decode cX10_frost 203 = .ok (.iload 7, 2) := by decide +kernel
theorem dX10_frost_205 : decode cX10_frost 205 = .ok (.iload 12, 2) := by decide +kernel
theorem dX10_frost_207 : decode cX10_frost 207 = .ok (.invokestatic 137, 3) := by decide +kernel
theorem dX10_frost_210 : decode cX10_frost 210 = .ok (.ifCond .ne 7, 3) := by decide +kernel
theorem dX10_frost_213 : decode cX10_frost 213 = .ok (.iconst 1, 1) := by decide +kernel
theorem dX10_frost_214 : decode cX10_frost 214 = .ok (.goto 23, 3) := by decide +kernel
theorem dX10_frost_217 : decode cX10_frost 217 = .ok (.iload 10, 2) := by decide +kernel
theorem dX10_frost_219 : decode cX10_frost 219 = .ok (.iload 12, 2) := by decide +kernel
theorem dX10_frost_221 : decode cX10_frost 221 = .ok (.invokestatic 137, 3) := by decide +kernel
theorem dX10_frost_224 : decode cX10_frost 224 = .ok (.ifCond .eq 8, 3) := by decide +kernel
theorem dX10_frost_227 : decode cX10_frost 227 = .ok (.iload 5, 2) := by decide +kernel
theorem dX10_frost_229 : decode cX10_frost 229 = .ok (.goto 8, 3) := by decide +kernel
theorem dX10_frost_232 : decode cX10_frost 232 = .ok (.bipush 10, 2) := by decide +kernel
theorem dX10_frost_234 : decode cX10_frost 234 = .ok (.iload 5, 2) := by decide +kernel
theorem dX10_frost_236 : decode cX10_frost 236 = .ok (.isub, 1) := by decide +kernel
theorem dX10_frost_237 : decode cX10_frost 237 = .ok (.imul, 1) := by decide +kernel
theorem dX10_frost_238 : decode cX10_frost 238 = .ok (.istore 11, 2) := by decide +kernel
theorem dX10_frost_240 : decode cX10_frost 240 = .ok (.iinc 12 1, 3) := by decide +kernel
theorem dX10_frost_243 : decode cX10_frost 243 = .ok (.goto (-53), 3) := by decide +kernel
theorem dX10_frost_246 : decode cX10_frost 246 = .ok (.iload 9, 2) := by decide +kernel
theorem dX10_frost_248 : decode cX10_frost 248 = .ok (.iload 11, 2) := by decide +kernel
theorem dX10_frost_250 : decode cX10_frost 250 = .ok (.iadd, 1) := by decide +kernel
theorem dX10_frost_251 : decode cX10_frost 251 = .ok (.istore 9, 2) := by decide +kernel
theorem dX10_frost_253 : decode cX10_frost 253 = .ok (.iinc 10 1, 3) := by decide +kernel
theorem dX10_frost_256 : decode cX10_frost 256 = .ok (.goto (-101), 3) := by decide +kernel
theorem dX10_frost_259 : decode cX10_frost 259 = .ok (.iload 9, 2) := by decide +kernel
theorem dX10_frost_261 : decode cX10_frost 261 = .ok (.istore 10, 2) := by decide +kernel
theorem dX10_frost_263 : decode cX10_frost 263 = .ok (.iload 8, 2) := by decide +kernel
theorem dX10_frost_265 : decode cX10_frost 265 = .ok (.istore 11, 2) := by decide +kernel
theorem dX10_frost_267 : decode cX10_frost 267 = .ok (.iload 11, 2) := by decide +kernel
theorem dX10_frost_269 : decode cX10_frost 269 = .ok (.ifCond .eq 21, 3) := by decide +kernel
theorem dX10_frost_272 : decode cX10_frost 272 = .ok (.iload 10, 2) := by decide +kernel
theorem dX10_frost_274 : decode cX10_frost 274 = .ok (.iload 11, 2) := by decide +kernel
theorem dX10_frost_276 : decode cX10_frost 276 = .ok (.irem, 1) := by decide +kernel
theorem dX10_frost_277 : decode cX10_frost 277 = .ok (.istore 12, 2) := by decide +kernel
theorem dX10_frost_279 : decode cX10_frost 279 = .ok (.iload 11, 2) := by decide +kernel
theorem dX10_frost_281 : decode cX10_frost 281 = .ok (.istore 10, 2) := by decide +kernel
theorem dX10_frost_283 : decode cX10_frost 283 = .ok (.iload 12, 2) := by decide +kernel
theorem dX10_frost_285 : decode cX10_frost 285 = .ok (.istore 11, 2) := by decide +kernel
theorem dX10_frost_287 : decode cX10_frost 287 = .ok (.goto (-20), 3) := by decide +kernel
theorem dX10_frost_290 : decode cX10_frost 290 = .ok (.iload 6, 2) := by decide +kernel
theorem dX10_frost_292 : decode cX10_frost 292 = .ok (.ifCond .ne 11, 3) := by decide +kernel
theorem dX10_frost_295 : decode cX10_frost 295 = .ok (.iload 9, 2) := by decide +kernel
theorem dX10_frost_297 : decode cX10_frost 297 = .ok (.iload 10, 2) := by decide +kernel
theorem dX10_frost_299 : decode cX10_frost 299 = .ok (.idiv, 1) := by decide +kernel
theorem dX10_frost_300 : decode cX10_frost 300 = .ok (.goto 8, 3) := by decide +kernel
theorem dX10_frost_303 : decode cX10_frost 303 = .ok (.iload 8, 2) := by decide +kernel
theorem dX10_frost_305 : decode cX10_frost 305 = .ok (.iload 10, 2) := by decide +kernel
theorem dX10_frost_307 : decode cX10_frost 307 = .ok (.idiv, 1) := by decide +kernel
theorem dX10_frost_308 : decode cX10_frost 308 = .ok (.ireturn, 1) := by decide +kernel
theorem dX10_bodiesOf_0 : decode cX10_bodiesOf 0 = .ok (.iload_n 0, 1) := by decide +kernel
theorem dX10_bodiesOf_1 : decode cX10_bodiesOf 1 = .ok (.tableswitch 47 0 4 #[35, 37, 39, 41, 44], 35) := by decide +kernel
theorem dX10_bodiesOf_36 : decode cX10_bodiesOf 36 = .ok (.iconst 1, 1) := by decide +kernel
theorem dX10_bodiesOf_37 : decode cX10_bodiesOf 37 = .ok (.ireturn, 1) := by decide +kernel
theorem dX10_bodiesOf_38 : decode cX10_bodiesOf 38 = .ok (.iconst 3, 1) := by decide +kernel
theorem dX10_bodiesOf_39 : decode cX10_bodiesOf 39 = .ok (.ireturn, 1) := by decide +kernel
theorem dX10_bodiesOf_40 : decode cX10_bodiesOf 40 = .ok (.iconst 5, 1) := by decide +kernel
theorem dX10_bodiesOf_41 : decode cX10_bodiesOf 41 = .ok (.ireturn, 1) := by decide +kernel
theorem dX10_bodiesOf_42 : decode cX10_bodiesOf 42 = .ok (.bipush 11, 2) := by decide +kernel
theorem dX10_bodiesOf_44 : decode cX10_bodiesOf 44 = .ok (.ireturn, 1) := by decide +kernel
theorem dX10_bodiesOf_45 : decode cX10_bodiesOf 45 = .ok (.bipush 21, 2) := by decide +kernel
theorem dX10_bodiesOf_47 : decode cX10_bodiesOf 47 = .ok (.ireturn, 1) := by decide +kernel
theorem dX10_bodiesOf_48 : decode cX10_bodiesOf 48 = .ok (.bipush 33, 2) := by decide +kernel
theorem dX10_bodiesOf_50 : decode cX10_bodiesOf 50 = .ok (.ireturn, 1) := by decide +kernel
theorem dX10_mark_0 : decode cX10_mark 0 = .ok (.iload_n 1, 1) := by decide +kernel
theorem dX10_mark_1 : decode cX10_mark 1 = .ok (.iconst 0, 1) := by decide +kernel
theorem dX10_mark_2 : decode cX10_mark 2 = .ok (.iconst 5, 1) := by decide +kernel
theorem dX10_mark_3 : decode cX10_mark 3 = .ok (.invokestatic 81, 3) := by decide +kernel
theorem dX10_mark_6 : decode cX10_mark 6 = .ok (.ifCond .eq 11, 3) := by decide +kernel
theorem dX10_mark_9 : decode cX10_mark 9 = .ok (.aload_n 0, 1) := by decide +kernel
theorem dX10_mark_10 : decode cX10_mark 10 = .ok (.iload_n 2, 1) := by decide +kernel
theorem dX10_mark_11 : decode cX10_mark 11 = .ok (.invokevirtual 141, 3) := by decide +kernel
theorem dX10_mark_14 : decode cX10_mark 14 = .ok (.ifCond .ne 6, 3) := by decide +kernel
theorem dX10_mark_17 : decode cX10_mark 17 = .ok (.ldc 148, 2) := by decide +kernel
theorem dX10_mark_19 : decode cX10_mark 19 = .ok (.ireturn, 1) := by decide +kernel
theorem dX10_mark_20 : decode cX10_mark 20 = .ok (.iload_n 1, 1) := by decide +kernel
theorem dX10_mark_21 : decode cX10_mark 21 = .ok (.invokestatic 221, 3) := by decide +kernel
theorem dX10_mark_24 : decode cX10_mark 24 = .ok (.istore_n 3, 1) := by decide +kernel
theorem dX10_mark_25 : decode cX10_mark 25 = .ok (.lconst 1, 1) := by decide +kernel
theorem dX10_mark_26 : decode cX10_mark 26 = .ok (.lstore 4, 2) := by decide +kernel
theorem dX10_mark_28 : decode cX10_mark 28 = .ok (.iconst 0, 1) := by decide +kernel
theorem dX10_mark_29 : decode cX10_mark 29 = .ok (.istore 6, 2) := by decide +kernel
theorem dX10_mark_31 : decode cX10_mark 31 = .ok (.iload 6, 2) := by decide +kernel
theorem dX10_mark_33 : decode cX10_mark 33 = .ok (.bipush 6, 2) := by decide +kernel
theorem dX10_mark_35 : decode cX10_mark 35 = .ok (.if_icmp .ge 41, 3) := by decide +kernel
theorem dX10_mark_38 : decode cX10_mark 38 = .ok (.aload_n 0, 1) := by decide +kernel
theorem dX10_mark_39 : decode cX10_mark 39 = .ok (.dup, 1) := by decide +kernel
theorem dX10_mark_40 : decode cX10_mark 40 = .ok (.getfield 224, 3) := by decide +kernel
theorem dX10_mark_43 : decode cX10_mark 43 = .ok (.iload_n 3, 1) := by decide +kernel
theorem dX10_mark_44 : decode cX10_mark 44 = .ok (.iload 6, 2) := by decide +kernel
theorem dX10_mark_46 : decode cX10_mark 46 = .ok (.invokestatic 137, 3) := by decide +kernel
theorem dX10_mark_49 : decode cX10_mark 49 = .ok (.ifCond .eq 8, 3) := by decide +kernel
theorem dX10_mark_52 : decode cX10_mark 52 = .ok (.lload 4, 2) := by decide +kernel
theorem dX10_mark_54 : decode cX10_mark 54 = .ok (.goto 4, 3) := by decide +kernel
theorem dX10_mark_57 : decode cX10_mark 57 = .ok (.lconst 0, 1) := by decide +kernel
theorem dX10_mark_58 : decode cX10_mark 58 = .ok (.ladd, 1) := by decide +kernel
theorem dX10_mark_59 : decode cX10_mark 59 = .ok (.putfield 224, 3) := by decide +kernel
theorem dX10_mark_62 : decode cX10_mark 62 = .ok (.lload 4, 2) := by decide +kernel
theorem dX10_mark_64 : decode cX10_mark 64 = .ok (.ldc2_w 228, 3) := by decide +kernel
theorem dX10_mark_67 : decode cX10_mark 67 = .ok (.lmul, 1) := by decide +kernel
theorem dX10_mark_68 : decode cX10_mark 68 = .ok (.lstore 4, 2) := by decide +kernel
theorem dX10_mark_70 : decode cX10_mark 70 = .ok (.iinc 6 1, 3) := by decide +kernel
theorem dX10_mark_73 : decode cX10_mark 73 = .ok (.goto (-42), 3) := by decide +kernel
theorem dX10_mark_76 : decode cX10_mark 76 = .ok (.aload_n 0, 1) := by decide +kernel
theorem dX10_mark_77 : decode cX10_mark 77 = .ok (.getfield 50, 3) := by decide +kernel
theorem dX10_mark_80 : decode cX10_mark 80 = .ok (.bipush 6, 2) := by decide +kernel
theorem dX10_mark_82 : decode cX10_mark 82 = .ok (.iload_n 2, 1) := by decide +kernel
theorem dX10_mark_83 : decode cX10_mark 83 = .ok (.iadd, 1) := by decide +kernel
theorem dX10_mark_84 : decode cX10_mark 84 = .ok (.iaload, 1) := by decide +kernel
theorem dX10_mark_85 : decode cX10_mark 85 = .ok (.istore 6, 2) := by decide +kernel
theorem dX10_mark_87 : decode cX10_mark 87 = .ok (.iload 6, 2) := by decide +kernel
theorem dX10_mark_89 : decode cX10_mark 89 = .ok (.iload_n 3, 1) := by decide +kernel
theorem dX10_mark_90 : decode cX10_mark 90 = .ok (.iconst 1, 1) := by decide +kernel
theorem dX10_mark_91 : decode cX10_mark 91 = .ok (.invokestatic 137, 3) := by decide +kernel
theorem dX10_mark_94 : decode cX10_mark 94 = .ok (.ifCond .eq 13, 3) := by decide +kernel
theorem dX10_mark_97 : decode cX10_mark 97 = .ok (.aload_n 0, 1) := by decide +kernel
theorem dX10_mark_98 : decode cX10_mark 98 = .ok (.getfield 50, 3) := by decide +kernel
theorem dX10_mark_101 : decode cX10_mark 101 = .ok (.bipush 16, 2) := by decide +kernel
theorem dX10_mark_103 : decode cX10_mark 103 = .ok (.iaload, 1) := by decide +kernel
theorem dX10_mark_104 : decode cX10_mark 104 = .ok (.goto 4, 3) := by decide +kernel
theorem dX10_mark_107 : decode cX10_mark 107 = .ok (.iconst 0, 1) := by decide +kernel
theorem dX10_mark_108 : decode cX10_mark 108 = .ok (.iadd, 1) := by decide +kernel
theorem dX10_mark_109 : decode cX10_mark 109 = .ok (.istore 6, 2) := by decide +kernel
theorem dX10_mark_111 : decode cX10_mark 111 = .ok (.iload 6, 2) := by decide +kernel
theorem dX10_mark_113 : decode cX10_mark 113 = .ok (.iload_n 3, 1) := by decide +kernel
theorem dX10_mark_114 : decode cX10_mark 114 = .ok (.iconst 2, 1) := by decide +kernel
theorem dX10_mark_115 : decode cX10_mark 115 = .ok (.invokestatic 137, 3) := by decide +kernel
theorem dX10_mark_118 : decode cX10_mark 118 = .ok (.ifCond .eq 16, 3) := by decide +kernel
theorem dX10_mark_121 : decode cX10_mark 121 = .ok (.aload_n 0, 1) := by decide +kernel
theorem dX10_mark_122 : decode cX10_mark 122 = .ok (.aload_n 0, 1) := by decide +kernel
theorem dX10_mark_123 : decode cX10_mark 123 = .ok (.getfield 20, 3) := by decide +kernel
theorem dX10_mark_126 : decode cX10_mark 126 = .ok (.iload_n 2, 1) := by decide +kernel
theorem dX10_mark_127 : decode cX10_mark 127 = .ok (.iaload, 1) := by decide +kernel
theorem dX10_mark_128 : decode cX10_mark 128 = .ok (.invokevirtual 210, 3) := by decide +kernel
theorem dX10_mark_131 : decode cX10_mark 131 = .ok (.goto 4, 3) := by decide +kernel
theorem dX10_mark_134 : decode cX10_mark 134 = .ok (.iconst 0, 1) := by decide +kernel
theorem dX10_mark_135 : decode cX10_mark 135 = .ok (.isub, 1) := by decide +kernel
theorem dX10_mark_136 : decode cX10_mark 136 = .ok (.istore 6, 2) := by decide +kernel
theorem dX10_mark_138 : decode cX10_mark 138 = .ok (.iload_n 3, 1) := by decide +kernel
theorem dX10_mark_139 : decode cX10_mark 139 = .ok (.iconst 3, 1) := by decide +kernel
theorem dX10_mark_140 : decode cX10_mark 140 = .ok (.invokestatic 137, 3) := by decide +kernel
theorem dX10_mark_143 : decode cX10_mark 143 = .ok (.ifCond .eq 10, 3) := by decide +kernel
theorem dX10_mark_146 : decode cX10_mark 146 = .ok (.iconst 2, 1) := by decide +kernel
theorem dX10_mark_147 : decode cX10_mark 147 = .ok (.iload 6, 2) := by decide +kernel
theorem dX10_mark_149 : decode cX10_mark 149 = .ok (.imul, 1) := by decide +kernel
theorem dX10_mark_150 : decode cX10_mark 150 = .ok (.goto 5, 3) := by decide +kernel
theorem dX10_mark_153 : decode cX10_mark 153 = .ok (.iload 6, 2) := by decide +kernel
theorem dX10_mark_155 : decode cX10_mark 155 = .ok (.istore 6, 2) := by decide +kernel
theorem dX10_mark_157 : decode cX10_mark 157 = .ok (.iload 6, 2) := by decide +kernel
theorem dX10_mark_159 : decode cX10_mark 159 = .ok (.iload_n 3, 1) := by decide +kernel
theorem dX10_mark_160 : decode cX10_mark 160 = .ok (.iconst 4, 1) := by decide +kernel
theorem dX10_mark_161 : decode cX10_mark 161 = .ok (.invokestatic 137, 3) := by decide +kernel
theorem dX10_mark_164 : decode cX10_mark 164 = .ok (.ifCond .eq 7, 3) := by decide +kernel
theorem dX10_mark_167 : decode cX10_mark 167 = .ok (.iload_n 2, 1) := by decide +kernel
theorem dX10_mark_168 : decode cX10_mark 168 = .ok (.goto 4, 3) := by decide +kernel
theorem dX10_mark_171 : decode cX10_mark 171 = .ok (.iconst 0, 1) := by decide +kernel
theorem dX10_mark_172 : decode cX10_mark 172 = .ok (.iadd, 1) := by decide +kernel
theorem dX10_mark_173 : decode cX10_mark 173 = .ok (.istore 6, 2) := by decide +kernel
theorem dX10_mark_175 : decode cX10_mark 175 = .ok (.iload 6, 2) := by decide +kernel
theorem dX10_mark_177 : decode cX10_mark 177 = .ok (.iload_n 3, 1) := by decide +kernel
theorem dX10_mark_178 : decode cX10_mark 178 = .ok (.iconst 5, 1) := by decide +kernel
theorem dX10_mark_179 : decode cX10_mark 179 = .ok (.invokestatic 137, 3) := by decide +kernel
theorem dX10_mark_182 : decode cX10_mark 182 = .ok (.ifCond .eq 13, 3) := by decide +kernel
theorem dX10_mark_185 : decode cX10_mark 185 = .ok (.aload_n 0, 1) := by decide +kernel
theorem dX10_mark_186 : decode cX10_mark 186 = .ok (.getfield 50, 3) := by decide +kernel
theorem dX10_mark_189 : decode cX10_mark 189 = .ok (.bipush 17, 2) := by decide +kernel
theorem dX10_mark_191 : decode cX10_mark 191 = .ok (.iaload, 1) := by decide +kernel
theorem dX10_mark_192 : decode cX10_mark 192 = .ok (.goto 4, 3) := by decide +kernel
theorem dX10_mark_195 : decode cX10_mark 195 = .ok (.iconst 0, 1) := by decide +kernel
theorem dX10_mark_196 : decode cX10_mark 196 = .ok (.iadd, 1) := by decide +kernel
theorem dX10_mark_197 : decode cX10_mark 197 = .ok (.istore 6, 2) := by decide +kernel
theorem dX10_mark_199 : decode cX10_mark 199 = .ok (.iload 6, 2) := by decide +kernel
theorem dX10_mark_201 : decode cX10_mark 201 = .ok (.ireturn, 1) := by decide +kernel
theorem dX10_trace_0 : decode cX10_trace 0 = .ok (.aload_n 0, 1) := by decide +kernel
theorem dX10_trace_1 : decode cX10_trace 1 = .ok (.getfield 224, 3) := by decide +kernel
theorem dX10_trace_4 : decode cX10_trace 4 = .ok (.lreturn, 1) := by decide +kernel
theorem dX10_keep_0 : decode cX10_keep 0 = .ok (.iload_n 1, 1) := by decide +kernel
theorem dX10_keep_1 : decode cX10_keep 1 = .ok (.iconst 0, 1) := by decide +kernel
theorem dX10_keep_2 : decode cX10_keep 2 = .ok (.iconst 1, 1) := by decide +kernel
theorem dX10_keep_3 : decode cX10_keep 3 = .ok (.invokestatic 81, 3) := by decide +kernel
theorem dX10_keep_6 : decode cX10_keep 6 = .ok (.ifCond .ne 5, 3) := by decide +kernel
theorem dX10_keep_9 : decode cX10_keep 9 = .ok (.iconst (-1), 1) := by decide +kernel
theorem dX10_keep_10 : decode cX10_keep 10 = .ok (.ireturn, 1) := by decide +kernel
theorem dX10_keep_11 : decode cX10_keep 11 = .ok (.iconst 0, 1) := by decide +kernel
theorem dX10_keep_12 : decode cX10_keep 12 = .ok (.istore_n 2, 1) := by decide +kernel
theorem dX10_keep_13 : decode cX10_keep 13 = .ok (.iload_n 2, 1) := by decide +kernel
theorem dX10_keep_14 : decode cX10_keep 14 = .ok (.bipush 30, 2) := by decide +kernel
theorem dX10_keep_16 : decode cX10_keep 16 = .ok (.if_icmp .ge 26, 3) := by decide +kernel
theorem dX10_keep_19 : decode cX10_keep 19 = .ok (.aload_n 0, 1) := by decide +kernel
theorem dX10_keep_20 : decode cX10_keep 20 = .ok (.getfield 59, 3) := by decide +kernel
theorem dX10_keep_23 : decode cX10_keep 23 = .ok (.bipush 30, 2) := by decide +kernel
theorem dX10_keep_25 : decode cX10_keep 25 = .ok (.iload_n 1, 1) := by decide +kernel
theorem dX10_keep_26 : decode cX10_keep 26 = .ok (.imul, 1) := by decide +kernel
theorem dX10_keep_27 : decode cX10_keep 27 = .ok (.iload_n 2, 1) := by decide +kernel
theorem dX10_keep_28 : decode cX10_keep 28 = .ok (.iadd, 1) := by decide +kernel
theorem dX10_keep_29 : decode cX10_keep 29 = .ok (.aload_n 0, 1) := by decide +kernel
theorem dX10_keep_30 : decode cX10_keep 30 = .ok (.getfield 50, 3) := by decide +kernel
theorem dX10_keep_33 : decode cX10_keep 33 = .ok (.iload_n 2, 1) := by decide +kernel
theorem dX10_keep_34 : decode cX10_keep 34 = .ok (.iaload, 1) := by decide +kernel
theorem dX10_keep_35 : decode cX10_keep 35 = .ok (.iastore, 1) := by decide +kernel
theorem dX10_keep_36 : decode cX10_keep 36 = .ok (.iinc 2 1, 3) := by decide +kernel
theorem dX10_keep_39 : decode cX10_keep 39 = .ok (.goto (-26), 3) := by decide +kernel
theorem dX10_keep_42 : decode cX10_keep 42 = .ok (.iconst 0, 1) := by decide +kernel
theorem dX10_keep_43 : decode cX10_keep 43 = .ok (.istore_n 2, 1) := by decide +kernel
theorem dX10_keep_44 : decode cX10_keep 44 = .ok (.iload_n 2, 1) := by decide +kernel
theorem dX10_keep_45 : decode cX10_keep 45 = .ok (.sipush 300, 3) := by decide +kernel
theorem dX10_keep_48 : decode cX10_keep 48 = .ok (.if_icmp .ge 29, 3) := by decide +kernel
theorem dX10_keep_51 : decode cX10_keep 51 = .ok (.aload_n 0, 1) := by decide +kernel
theorem dX10_keep_52 : decode cX10_keep 52 = .ok (.getfield 56, 3) := by decide +kernel
theorem dX10_keep_55 : decode cX10_keep 55 = .ok (.sipush 300, 3) := by decide +kernel
theorem dX10_keep_58 : decode cX10_keep 58 = .ok (.iconst 1, 1) := by decide +kernel
theorem dX10_keep_59 : decode cX10_keep 59 = .ok (.iload_n 1, 1) := by decide +kernel
theorem dX10_keep_60 : decode cX10_keep 60 = .ok (.iadd, 1) := by decide +kernel
theorem dX10_keep_61 : decode cX10_keep 61 = .ok (.imul, 1) := by decide +kernel
theorem dX10_keep_62 : decode cX10_keep 62 = .ok (.iload_n 2, 1) := by decide +kernel
theorem dX10_keep_63 : decode cX10_keep 63 = .ok (.iadd, 1) := by decide +kernel
theorem dX10_keep_64 : decode cX10_keep 64 = .ok (.aload_n 0, 1) := by decide +kernel
theorem dX10_keep_65 : decode cX10_keep 65 = .ok (.getfield 56, 3) := by decide +kernel
theorem dX10_keep_68 : decode cX10_keep 68 = .ok (.iload_n 2, 1) := by decide +kernel
theorem dX10_keep_69 : decode cX10_keep 69 = .ok (.iaload, 1) := by decide +kernel
theorem dX10_keep_70 : decode cX10_keep 70 = .ok (.iastore, 1) := by decide +kernel
theorem dX10_keep_71 : decode cX10_keep 71 = .ok (.iinc 2 1, 3) := by decide +kernel
theorem dX10_keep_74 : decode cX10_keep 74 = .ok (.goto (-30), 3) := by decide +kernel
theorem dX10_keep_77 : decode cX10_keep 77 = .ok (.aload_n 0, 1) := by decide +kernel
theorem dX10_keep_78 : decode cX10_keep 78 = .ok (.getfield 53, 3) := by decide +kernel
theorem dX10_keep_81 : decode cX10_keep 81 = .ok (.iconst 1, 1) := by decide +kernel
theorem dX10_keep_82 : decode cX10_keep 82 = .ok (.iload_n 1, 1) := by decide +kernel
theorem dX10_keep_83 : decode cX10_keep 83 = .ok (.iadd, 1) := by decide +kernel
theorem dX10_keep_84 : decode cX10_keep 84 = .ok (.aload_n 0, 1) := by decide +kernel
theorem dX10_keep_85 : decode cX10_keep 85 = .ok (.getfield 53, 3) := by decide +kernel
theorem dX10_keep_88 : decode cX10_keep 88 = .ok (.iconst 0, 1) := by decide +kernel
theorem dX10_keep_89 : decode cX10_keep 89 = .ok (.iaload, 1) := by decide +kernel
theorem dX10_keep_90 : decode cX10_keep 90 = .ok (.iastore, 1) := by decide +kernel
theorem dX10_keep_91 : decode cX10_keep 91 = .ok (.aload_n 0, 1) := by decide +kernel
theorem dX10_keep_92 : decode cX10_keep 92 = .ok (.getfield 62, 3) := by decide +kernel
theorem dX10_keep_95 : decode cX10_keep 95 = .ok (.iload_n 1, 1) := by decide +kernel
theorem dX10_keep_96 : decode cX10_keep 96 = .ok (.iconst 1, 1) := by decide +kernel
theorem dX10_keep_97 : decode cX10_keep 97 = .ok (.bastore, 1) := by decide +kernel
theorem dX10_keep_98 : decode cX10_keep 98 = .ok (.aload_n 0, 1) := by decide +kernel
theorem dX10_keep_99 : decode cX10_keep 99 = .ok (.getfield 50, 3) := by decide +kernel
theorem dX10_keep_102 : decode cX10_keep 102 = .ok (.bipush 16, 2) := by decide +kernel
theorem dX10_keep_104 : decode cX10_keep 104 = .ok (.iaload, 1) := by decide +kernel
theorem dX10_keep_105 : decode cX10_keep 105 = .ok (.ireturn, 1) := by decide +kernel
theorem dX10_back_0 : decode cX10_back 0 = .ok (.iload_n 1, 1) := by decide +kernel
theorem dX10_back_1 : decode cX10_back 1 = .ok (.iconst 0, 1) := by decide +kernel
theorem dX10_back_2 : decode cX10_back 2 = .ok (.iconst 1, 1) := by decide +kernel
theorem dX10_back_3 : decode cX10_back 3 = .ok (.invokestatic 81, 3) := by decide +kernel
theorem dX10_back_6 : decode cX10_back 6 = .ok (.ifCond .ne 5, 3) := by decide +kernel
theorem dX10_back_9 : decode cX10_back 9 = .ok (.iconst (-1), 1) := by decide +kernel
theorem dX10_back_10 : decode cX10_back 10 = .ok (.ireturn, 1) := by decide +kernel
theorem dX10_back_11 : decode cX10_back 11 = .ok (.aload_n 0, 1) := by decide +kernel
theorem dX10_back_12 : decode cX10_back 12 = .ok (.getfield 62, 3) := by decide +kernel
theorem dX10_back_15 : decode cX10_back 15 = .ok (.iload_n 1, 1) := by decide +kernel
theorem dX10_back_16 : decode cX10_back 16 = .ok (.baload, 1) := by decide +kernel
theorem dX10_back_17 : decode cX10_back 17 = .ok (.ifCond .ne 6, 3) := by decide +kernel
theorem dX10_back_20 : decode cX10_back 20 = .ok (.bipush (-2), 2) := by decide +kernel
theorem dX10_back_22 : decode cX10_back 22 = .ok (.ireturn, 1) := by decide +kernel
theorem dX10_back_23 : decode cX10_back 23 = .ok (.iconst 0, 1) := by decide +kernel
theorem dX10_back_24 : decode cX10_back 24 = .ok (.istore_n 2, 1) := by decide +kernel
theorem dX10_back_25 : decode cX10_back 25 = .ok (.iload_n 2, 1) := by decide +kernel
theorem dX10_back_26 : decode cX10_back 26 = .ok (.bipush 30, 2) := by decide +kernel
theorem dX10_back_28 : decode cX10_back 28 = .ok (.if_icmp .ge 26, 3) := by decide +kernel
theorem dX10_back_31 : decode cX10_back 31 = .ok (.aload_n 0, 1) := by decide +kernel
theorem dX10_back_32 : decode cX10_back 32 = .ok (.getfield 50, 3) := by decide +kernel
theorem dX10_back_35 : decode cX10_back 35 = .ok (.iload_n 2, 1) := by decide +kernel
theorem dX10_back_36 : decode cX10_back 36 = .ok (.aload_n 0, 1) := by decide +kernel
theorem dX10_back_37 : decode cX10_back 37 = .ok (.getfield 59, 3) := by decide +kernel
theorem dX10_back_40 : decode cX10_back 40 = .ok (.bipush 30, 2) := by decide +kernel
theorem dX10_back_42 : decode cX10_back 42 = .ok (.iload_n 1, 1) := by decide +kernel
theorem dX10_back_43 : decode cX10_back 43 = .ok (.imul, 1) := by decide +kernel
theorem dX10_back_44 : decode cX10_back 44 = .ok (.iload_n 2, 1) := by decide +kernel
theorem dX10_back_45 : decode cX10_back 45 = .ok (.iadd, 1) := by decide +kernel
theorem dX10_back_46 : decode cX10_back 46 = .ok (.iaload, 1) := by decide +kernel
theorem dX10_back_47 : decode cX10_back 47 = .ok (.iastore, 1) := by decide +kernel
theorem dX10_back_48 : decode cX10_back 48 = .ok (.iinc 2 1, 3) := by decide +kernel
theorem dX10_back_51 : decode cX10_back 51 = .ok (.goto (-26), 3) := by decide +kernel
theorem dX10_back_54 : decode cX10_back 54 = .ok (.iconst 0, 1) := by decide +kernel
theorem dX10_back_55 : decode cX10_back 55 = .ok (.istore_n 2, 1) := by decide +kernel
theorem dX10_back_56 : decode cX10_back 56 = .ok (.iload_n 2, 1) := by decide +kernel
theorem dX10_back_57 : decode cX10_back 57 = .ok (.sipush 300, 3) := by decide +kernel
theorem dX10_back_60 : decode cX10_back 60 = .ok (.if_icmp .ge 29, 3) := by decide +kernel
theorem dX10_back_63 : decode cX10_back 63 = .ok (.aload_n 0, 1) := by decide +kernel
theorem dX10_back_64 : decode cX10_back 64 = .ok (.getfield 56, 3) := by decide +kernel
theorem dX10_back_67 : decode cX10_back 67 = .ok (.iload_n 2, 1) := by decide +kernel
theorem dX10_back_68 : decode cX10_back 68 = .ok (.aload_n 0, 1) := by decide +kernel
theorem dX10_back_69 : decode cX10_back 69 = .ok (.getfield 56, 3) := by decide +kernel
theorem dX10_back_72 : decode cX10_back 72 = .ok (.sipush 300, 3) := by decide +kernel
theorem dX10_back_75 : decode cX10_back 75 = .ok (.iconst 1, 1) := by decide +kernel
theorem dX10_back_76 : decode cX10_back 76 = .ok (.iload_n 1, 1) := by decide +kernel
theorem dX10_back_77 : decode cX10_back 77 = .ok (.iadd, 1) := by decide +kernel
theorem dX10_back_78 : decode cX10_back 78 = .ok (.imul, 1) := by decide +kernel
theorem dX10_back_79 : decode cX10_back 79 = .ok (.iload_n 2, 1) := by decide +kernel
theorem dX10_back_80 : decode cX10_back 80 = .ok (.iadd, 1) := by decide +kernel
theorem dX10_back_81 : decode cX10_back 81 = .ok (.iaload, 1) := by decide +kernel
theorem dX10_back_82 : decode cX10_back 82 = .ok (.iastore, 1) := by decide +kernel
theorem dX10_back_83 : decode cX10_back 83 = .ok (.iinc 2 1, 3) := by decide +kernel
theorem dX10_back_86 : decode cX10_back 86 = .ok (.goto (-30), 3) := by decide +kernel
theorem dX10_back_89 : decode cX10_back 89 = .ok (.aload_n 0, 1) := by decide +kernel
theorem dX10_back_90 : decode cX10_back 90 = .ok (.getfield 53, 3) := by decide +kernel
theorem dX10_back_93 : decode cX10_back 93 = .ok (.iconst 0, 1) := by decide +kernel
theorem dX10_back_94 : decode cX10_back 94 = .ok (.aload_n 0, 1) := by decide +kernel
theorem dX10_back_95 : decode cX10_back 95 = .ok (.getfield 53, 3) := by decide +kernel
theorem dX10_back_98 : decode cX10_back 98 = .ok (.iconst 1, 1) := by decide +kernel
theorem dX10_back_99 : decode cX10_back 99 = .ok (.iload_n 1, 1) := by decide +kernel
theorem dX10_back_100 : decode cX10_back 100 = .ok (.iadd, 1) := by decide +kernel
theorem dX10_back_101 : decode cX10_back 101 = .ok (.iaload, 1) := by decide +kernel
theorem dX10_back_102 : decode cX10_back 102 = .ok (.iastore, 1) := by decide +kernel
theorem dX10_back_103 : decode cX10_back 103 = .ok (.aload_n 0, 1) := by decide +kernel
theorem dX10_back_104 : decode cX10_back 104 = .ok (.getfield 50, 3) := by decide +kernel
theorem dX10_back_107 : decode cX10_back 107 = .ok (.bipush 16, 2) := by decide +kernel
theorem dX10_back_109 : decode cX10_back 109 = .ok (.iaload, 1) := by decide +kernel
theorem dX10_back_110 : decode cX10_back 110 = .ok (.ireturn, 1) := by decide +kernel
theorem dX10_count_0 : decode cX10_count 0 = .ok (.iload_n 1, 1) := by decide +kernel
theorem dX10_count_1 : decode cX10_count 1 = .ok (.tableswitch 88 0 6 #[43, 50, 57, 64, 71, 76, 83], 43) := by decide +kernel
theorem dX10_count_44 : decode cX10_count 44 = .ok (.aload_n 0, 1) := by decide +kernel
theorem dX10_count_45 : decode cX10_count 45 = .ok (.getfield 13, 3) := by decide +kernel
theorem dX10_count_48 : decode cX10_count 48 = .ok (.iconst 0, 1) := by decide +kernel
theorem dX10_count_49 : decode cX10_count 49 = .ok (.iaload, 1) := by decide +kernel
theorem dX10_count_50 : decode cX10_count 50 = .ok (.ireturn, 1) := by decide +kernel
theorem dX10_count_51 : decode cX10_count 51 = .ok (.aload_n 0, 1) := by decide +kernel
theorem dX10_count_52 : decode cX10_count 52 = .ok (.getfield 17, 3) := by decide +kernel
theorem dX10_count_55 : decode cX10_count 55 = .ok (.iconst 0, 1) := by decide +kernel
theorem dX10_count_56 : decode cX10_count 56 = .ok (.iaload, 1) := by decide +kernel
theorem dX10_count_57 : decode cX10_count 57 = .ok (.ireturn, 1) := by decide +kernel
theorem dX10_count_58 : decode cX10_count 58 = .ok (.aload_n 0, 1) := by decide +kernel
theorem dX10_count_59 : decode cX10_count 59 = .ok (.getfield 29, 3) := by decide +kernel
theorem dX10_count_62 : decode cX10_count 62 = .ok (.iconst 0, 1) := by decide +kernel
theorem dX10_count_63 : decode cX10_count 63 = .ok (.iaload, 1) := by decide +kernel
theorem dX10_count_64 : decode cX10_count 64 = .ok (.ireturn, 1) := by decide +kernel
theorem dX10_count_65 : decode cX10_count 65 = .ok (.aload_n 0, 1) := by decide +kernel
theorem dX10_count_66 : decode cX10_count 66 = .ok (.getfield 38, 3) := by decide +kernel
theorem dX10_count_69 : decode cX10_count 69 = .ok (.iconst 0, 1) := by decide +kernel
theorem dX10_count_70 : decode cX10_count 70 = .ok (.iaload, 1) := by decide +kernel
theorem dX10_count_71 : decode cX10_count 71 = .ok (.ireturn, 1) := by decide +kernel
theorem dX10_count_72 : decode cX10_count 72 = .ok (.aload_n 0, 1) := by decide +kernel
theorem dX10_count_73 : decode cX10_count 73 = .ok (.getfield 134, 3) := by decide +kernel
theorem dX10_count_76 : decode cX10_count 76 = .ok (.ireturn, 1) := by decide +kernel
theorem dX10_count_77 : decode cX10_count 77 = .ok (.aload_n 0, 1) := by decide +kernel
theorem dX10_count_78 : decode cX10_count 78 = .ok (.getfield 53, 3) := by decide +kernel
theorem dX10_count_81 : decode cX10_count 81 = .ok (.iconst 0, 1) := by decide +kernel
theorem dX10_count_82 : decode cX10_count 82 = .ok (.iaload, 1) := by decide +kernel
theorem dX10_count_83 : decode cX10_count 83 = .ok (.ireturn, 1) := by decide +kernel
theorem dX10_count_84 : decode cX10_count 84 = .ok (.aload_n 0, 1) := by decide +kernel
theorem dX10_count_85 : decode cX10_count 85 = .ok (.getfield 85, 3) := by decide +kernel
theorem dX10_count_88 : decode cX10_count 88 = .ok (.ireturn, 1) := by decide +kernel
theorem dX10_count_89 : decode cX10_count 89 = .ok (.iconst (-1), 1) := by decide +kernel
theorem dX10_count_90 : decode cX10_count 90 = .ok (.ireturn, 1) := by decide +kernel
theorem dJ6_bitCount_0f7a4_0 : decode cJ6_bitCount_0f7a4 0 = .ok (.iload_n 0, 1) := by decide +kernel
theorem dJ6_bitCount_0f7a4_1 : decode cJ6_bitCount_0f7a4 1 = .ok (.iload_n 0, 1) := by decide +kernel
theorem dJ6_bitCount_0f7a4_2 : decode cJ6_bitCount_0f7a4 2 = .ok (.iconst 1, 1) := by decide +kernel
theorem dJ6_bitCount_0f7a4_3 : decode cJ6_bitCount_0f7a4 3 = .ok (.iushr, 1) := by decide +kernel
theorem dJ6_bitCount_0f7a4_4 : decode cJ6_bitCount_0f7a4 4 = .ok (.ldc_w 265, 3) := by decide +kernel
theorem dJ6_bitCount_0f7a4_7 : decode cJ6_bitCount_0f7a4 7 = .ok (.iand, 1) := by decide +kernel
theorem dJ6_bitCount_0f7a4_8 : decode cJ6_bitCount_0f7a4 8 = .ok (.isub, 1) := by decide +kernel
theorem dJ6_bitCount_0f7a4_9 : decode cJ6_bitCount_0f7a4 9 = .ok (.istore_n 0, 1) := by decide +kernel
theorem dJ6_bitCount_0f7a4_10 : decode cJ6_bitCount_0f7a4 10 = .ok (.iload_n 0, 1) := by decide +kernel
theorem dJ6_bitCount_0f7a4_11 : decode cJ6_bitCount_0f7a4 11 = .ok (.ldc_w 266, 3) := by decide +kernel
theorem dJ6_bitCount_0f7a4_14 : decode cJ6_bitCount_0f7a4 14 = .ok (.iand, 1) := by decide +kernel
theorem dJ6_bitCount_0f7a4_15 : decode cJ6_bitCount_0f7a4 15 = .ok (.iload_n 0, 1) := by decide +kernel
theorem dJ6_bitCount_0f7a4_16 : decode cJ6_bitCount_0f7a4 16 = .ok (.iconst 2, 1) := by decide +kernel
theorem dJ6_bitCount_0f7a4_17 : decode cJ6_bitCount_0f7a4 17 = .ok (.iushr, 1) := by decide +kernel
theorem dJ6_bitCount_0f7a4_18 : decode cJ6_bitCount_0f7a4 18 = .ok (.ldc_w 266, 3) := by decide +kernel
theorem dJ6_bitCount_0f7a4_21 : decode cJ6_bitCount_0f7a4 21 = .ok (.iand, 1) := by decide +kernel
theorem dJ6_bitCount_0f7a4_22 : decode cJ6_bitCount_0f7a4 22 = .ok (.iadd, 1) := by decide +kernel
theorem dJ6_bitCount_0f7a4_23 : decode cJ6_bitCount_0f7a4 23 = .ok (.istore_n 0, 1) := by decide +kernel
theorem dJ6_bitCount_0f7a4_24 : decode cJ6_bitCount_0f7a4 24 = .ok (.iload_n 0, 1) := by decide +kernel
theorem dJ6_bitCount_0f7a4_25 : decode cJ6_bitCount_0f7a4 25 = .ok (.iload_n 0, 1) := by decide +kernel
theorem dJ6_bitCount_0f7a4_26 : decode cJ6_bitCount_0f7a4 26 = .ok (.iconst 4, 1) := by decide +kernel
theorem dJ6_bitCount_0f7a4_27 : decode cJ6_bitCount_0f7a4 27 = .ok (.iushr, 1) := by decide +kernel
theorem dJ6_bitCount_0f7a4_28 : decode cJ6_bitCount_0f7a4 28 = .ok (.iadd, 1) := by decide +kernel
theorem dJ6_bitCount_0f7a4_29 : decode cJ6_bitCount_0f7a4 29 = .ok (.ldc_w 267, 3) := by decide +kernel
theorem dJ6_bitCount_0f7a4_32 : decode cJ6_bitCount_0f7a4 32 = .ok (.iand, 1) := by decide +kernel
theorem dJ6_bitCount_0f7a4_33 : decode cJ6_bitCount_0f7a4 33 = .ok (.istore_n 0, 1) := by decide +kernel
theorem dJ6_bitCount_0f7a4_34 : decode cJ6_bitCount_0f7a4 34 = .ok (.iload_n 0, 1) := by decide +kernel
theorem dJ6_bitCount_0f7a4_35 : decode cJ6_bitCount_0f7a4 35 = .ok (.iload_n 0, 1) := by decide +kernel
theorem dJ6_bitCount_0f7a4_36 : decode cJ6_bitCount_0f7a4 36 = .ok (.bipush 8, 2) := by decide +kernel
theorem dJ6_bitCount_0f7a4_38 : decode cJ6_bitCount_0f7a4 38 = .ok (.iushr, 1) := by decide +kernel
theorem dJ6_bitCount_0f7a4_39 : decode cJ6_bitCount_0f7a4 39 = .ok (.iadd, 1) := by decide +kernel
theorem dJ6_bitCount_0f7a4_40 : decode cJ6_bitCount_0f7a4 40 = .ok (.istore_n 0, 1) := by decide +kernel
theorem dJ6_bitCount_0f7a4_41 : decode cJ6_bitCount_0f7a4 41 = .ok (.iload_n 0, 1) := by decide +kernel
theorem dJ6_bitCount_0f7a4_42 : decode cJ6_bitCount_0f7a4 42 = .ok (.iload_n 0, 1) := by decide +kernel
theorem dJ6_bitCount_0f7a4_43 : decode cJ6_bitCount_0f7a4 43 = .ok (.bipush 16, 2) := by decide +kernel
theorem dJ6_bitCount_0f7a4_45 : decode cJ6_bitCount_0f7a4 45 = .ok (.iushr, 1) := by decide +kernel
theorem dJ6_bitCount_0f7a4_46 : decode cJ6_bitCount_0f7a4 46 = .ok (.iadd, 1) := by decide +kernel
theorem dJ6_bitCount_0f7a4_47 : decode cJ6_bitCount_0f7a4 47 = .ok (.istore_n 0, 1) := by decide +kernel
theorem dJ6_bitCount_0f7a4_48 : decode cJ6_bitCount_0f7a4 48 = .ok (.iload_n 0, 1) := by decide +kernel
theorem dJ6_bitCount_0f7a4_49 : decode cJ6_bitCount_0f7a4 49 = .ok (.bipush 63, 2) := by decide +kernel
theorem dJ6_bitCount_0f7a4_51 : decode cJ6_bitCount_0f7a4 51 = .ok (.iand, 1) := by decide +kernel
theorem dJ6_bitCount_0f7a4_52 : decode cJ6_bitCount_0f7a4 52 = .ok (.ireturn, 1) := by decide +kernel
theorem dL_law_0 : decode cL_law 0 = .ok (.new 7, 3) := by decide +kernel
theorem dL_law_3 : decode cL_law 3 = .ok (.dup, 1) := by decide +kernel
theorem dL_law_4 : decode cL_law 4 = .ok (.invokespecial 9, 3) := by decide +kernel
theorem dL_law_7 : decode cL_law 7 = .ok (.astore_n 1, 1) := by decide +kernel
theorem dL_law_8 : decode cL_law 8 = .ok (.new 10, 3) := by decide +kernel
theorem dL_law_11 : decode cL_law 11 = .ok (.dup, 1) := by decide +kernel
theorem dL_law_12 : decode cL_law 12 = .ok (.invokespecial 12, 3) := by decide +kernel
theorem dL_law_15 : decode cL_law 15 = .ok (.astore_n 2, 1) := by decide +kernel
theorem dL_law_16 : decode cL_law 16 = .ok (.iconst 0, 1) := by decide +kernel
theorem dL_law_17 : decode cL_law 17 = .ok (.istore_n 3, 1) := by decide +kernel
theorem dL_law_18 : decode cL_law 18 = .ok (.iload_n 3, 1) := by decide +kernel
theorem dL_law_19 : decode cL_law 19 = .ok (.aload_n 0, 1) := by decide +kernel
theorem dL_law_20 : decode cL_law 20 = .ok (.arraylength, 1) := by decide +kernel
theorem dL_law_21 : decode cL_law 21 = .ok (.bipush 7, 2) := by decide +kernel
theorem dL_law_23 : decode cL_law 23 = .ok (.isub, 1) := by decide +kernel
theorem dL_law_24 : decode cL_law 24 = .ok (.if_icmp .gt 970, 3) := by decide +kernel
theorem dL_law_27 : decode cL_law 27 = .ok (.aload_n 0, 1) := by decide +kernel
theorem dL_law_28 : decode cL_law 28 = .ok (.iload_n 3, 1) := by decide +kernel
theorem dL_law_29 : decode cL_law 29 = .ok (.iaload, 1) := by decide +kernel
theorem dL_law_30 : decode cL_law 30 = .ok (.bipush 31, 2) := by decide +kernel
theorem dL_law_32 : decode cL_law 32 = .ok (.iand, 1) := by decide +kernel
theorem dL_law_33 : decode cL_law 33 = .ok (.tableswitch 955 0 30 #[139, 162, 175, 188, 221, 254, 287, 320, 353, 386, 419, 442, 465, 478, 501, 524, 547, 570, 583, 616, 639, 652, 665, 718, 741, 764, 839, 872, 895, 918, 941], 139) := by decide +kernel
theorem dL_law_172 : decode cL_law 172 = .ok (.aload_n 1, 1) := by decide +kernel
theorem dL_law_173 : decode cL_law 173 = .ok (.aload_n 0, 1) := by decide +kernel
theorem dL_law_174 : decode cL_law 174 = .ok (.iload_n 3, 1) := by decide +kernel
theorem dL_law_175 : decode cL_law 175 = .ok (.iconst 1, 1) := by decide +kernel
theorem dL_law_176 : decode cL_law 176 = .ok (.iadd, 1) := by decide +kernel
theorem dL_law_177 : decode cL_law 177 = .ok (.iaload, 1) := by decide +kernel
theorem dL_law_178 : decode cL_law 178 = .ok (.invokevirtual 13, 3) := by decide +kernel
theorem dL_law_181 : decode cL_law 181 = .ok (.aload_n 2, 1) := by decide +kernel
theorem dL_law_182 : decode cL_law 182 = .ok (.aload_n 0, 1) := by decide +kernel
theorem dL_law_183 : decode cL_law 183 = .ok (.iload_n 3, 1) := by decide +kernel
theorem dL_law_184 : decode cL_law 184 = .ok (.iconst 1, 1) := by decide +kernel
theorem dL_law_185 : decode cL_law 185 = .ok (.iadd, 1) := by decide +kernel
theorem dL_law_186 : decode cL_law 186 = .ok (.iaload, 1) := by decide +kernel
theorem dL_law_187 : decode cL_law 187 = .ok (.invokevirtual 17, 3) := by decide +kernel
theorem dL_law_190 : decode cL_law 190 = .ok (.if_icmp .eq 798, 3) := by decide +kernel
theorem dL_law_193 : decode cL_law 193 = .ok (.iconst 0, 1) := by decide +kernel
theorem dL_law_194 : decode cL_law 194 = .ok (.ireturn, 1) := by decide +kernel
theorem dL_law_195 : decode cL_law 195 = .ok (.aload_n 1, 1) := by decide +kernel
theorem dL_law_196 : decode cL_law 196 = .ok (.invokevirtual 18, 3) := by decide +kernel
theorem dL_law_199 : decode cL_law 199 = .ok (.aload_n 2, 1) := by decide +kernel
theorem dL_law_200 : decode cL_law 200 = .ok (.invokevirtual 22, 3) := by decide +kernel
theorem dL_law_203 : decode cL_law 203 = .ok (.if_icmp .eq 785, 3) := by decide +kernel
theorem dL_law_206 : decode cL_law 206 = .ok (.iconst 0, 1) := by decide +kernel
theorem dL_law_207 : decode cL_law 207 = .ok (.ireturn, 1) := by decide +kernel
theorem dL_law_208 : decode cL_law 208 = .ok (.aload_n 1, 1) := by decide +kernel
theorem dL_law_209 : decode cL_law 209 = .ok (.invokevirtual 23, 3) := by decide +kernel
theorem dL_law_212 : decode cL_law 212 = .ok (.aload_n 2, 1) := by decide +kernel
theorem dL_law_213 : decode cL_law 213 = .ok (.invokevirtual 26, 3) := by decide +kernel
theorem dL_law_216 : decode cL_law 216 = .ok (.if_icmp .eq 772, 3) := by decide +kernel
theorem dL_law_219 : decode cL_law 219 = .ok (.iconst 0, 1) := by decide +kernel
theorem dL_law_220 : decode cL_law 220 = .ok (.ireturn, 1) := by decide +kernel
theorem dL_law_221 : decode cL_law 221 = .ok (.aload_n 1, 1) := by decide +kernel
theorem dL_law_222 : decode cL_law 222 = .ok (.aload_n 0, 1) := by decide +kernel
theorem dL_law_223 : decode cL_law 223 = .ok (.iload_n 3, 1) := by decide +kernel
theorem dL_law_224 : decode cL_law 224 = .ok (.iconst 1, 1) := by decide +kernel
theorem dL_law_225 : decode cL_law 225 = .ok (.iadd, 1) := by decide +kernel
theorem dL_law_226 : decode cL_law 226 = .ok (.iaload, 1) := by decide +kernel
theorem dL_law_227 : decode cL_law 227 = .ok (.aload_n 0, 1) := by decide +kernel
theorem dL_law_228 : decode cL_law 228 = .ok (.iload_n 3, 1) := by decide +kernel
theorem dL_law_229 : decode cL_law 229 = .ok (.iconst 2, 1) := by decide +kernel
theorem dL_law_230 : decode cL_law 230 = .ok (.iadd, 1) := by decide +kernel
theorem dL_law_231 : decode cL_law 231 = .ok (.iaload, 1) := by decide +kernel
theorem dL_law_232 : decode cL_law 232 = .ok (.invokevirtual 27, 3) := by decide +kernel
theorem dL_law_235 : decode cL_law 235 = .ok (.aload_n 2, 1) := by decide +kernel
theorem dL_law_236 : decode cL_law 236 = .ok (.aload_n 0, 1) := by decide +kernel
theorem dL_law_237 : decode cL_law 237 = .ok (.iload_n 3, 1) := by decide +kernel
theorem dL_law_238 : decode cL_law 238 = .ok (.iconst 1, 1) := by decide +kernel
theorem dL_law_239 : decode cL_law 239 = .ok (.iadd, 1) := by decide +kernel
theorem dL_law_240 : decode cL_law 240 = .ok (.iaload, 1) := by decide +kernel
theorem dL_law_241 : decode cL_law 241 = .ok (.aload_n 0, 1) := by decide +kernel
theorem dL_law_242 : decode cL_law 242 = .ok (.iload_n 3, 1) := by decide +kernel
theorem dL_law_243 : decode cL_law 243 = .ok (.iconst 2, 1) := by decide +kernel
theorem dL_law_244 : decode cL_law 244 = .ok (.iadd, 1) := by decide +kernel
theorem dL_law_245 : decode cL_law 245 = .ok (.iaload, 1) := by decide +kernel
theorem dL_law_246 : decode cL_law 246 = .ok (.invokevirtual 31, 3) := by decide +kernel
theorem dL_law_249 : decode cL_law 249 = .ok (.if_icmp .eq 739, 3) := by decide +kernel
theorem dL_law_252 : decode cL_law 252 = .ok (.iconst 0, 1) := by decide +kernel
theorem dL_law_253 : decode cL_law 253 = .ok (.ireturn, 1) := by decide +kernel
theorem dL_law_254 : decode cL_law 254 = .ok (.aload_n 1, 1) := by decide +kernel
theorem dL_law_255 : decode cL_law 255 = .ok (.aload_n 0, 1) := by decide +kernel
theorem dL_law_256 : decode cL_law 256 = .ok (.iload_n 3, 1) := by decide +kernel
theorem dL_law_257 : decode cL_law 257 = .ok (.iconst 1, 1) := by decide +kernel
theorem dL_law_258 : decode cL_law 258 = .ok (.iadd, 1) := by decide +kernel
theorem dL_law_259 : decode cL_law 259 = .ok (.iaload, 1) := by decide +kernel
theorem dL_law_260 : decode cL_law 260 = .ok (.aload_n 0, 1) := by decide +kernel
theorem dL_law_261 : decode cL_law 261 = .ok (.iload_n 3, 1) := by decide +kernel
theorem dL_law_262 : decode cL_law 262 = .ok (.iconst 2, 1) := by decide +kernel
theorem dL_law_263 : decode cL_law 263 = .ok (.iadd, 1) := by decide +kernel
theorem dL_law_264 : decode cL_law 264 = .ok (.iaload, 1) := by decide +kernel
theorem dL_law_265 : decode cL_law 265 = .ok (.invokevirtual 32, 3) := by decide +kernel
theorem dL_law_268 : decode cL_law 268 = .ok (.aload_n 2, 1) := by decide +kernel
theorem dL_law_269 : decode cL_law 269 = .ok (.aload_n 0, 1) := by decide +kernel
theorem dL_law_270 : decode cL_law 270 = .ok (.iload_n 3, 1) := by decide +kernel
theorem dL_law_271 : decode cL_law 271 = .ok (.iconst 1, 1) := by decide +kernel
theorem dL_law_272 : decode cL_law 272 = .ok (.iadd, 1) := by decide +kernel
theorem dL_law_273 : decode cL_law 273 = .ok (.iaload, 1) := by decide +kernel
theorem dL_law_274 : decode cL_law 274 = .ok (.aload_n 0, 1) := by decide +kernel
theorem dL_law_275 : decode cL_law 275 = .ok (.iload_n 3, 1) := by decide +kernel
theorem dL_law_276 : decode cL_law 276 = .ok (.iconst 2, 1) := by decide +kernel
theorem dL_law_277 : decode cL_law 277 = .ok (.iadd, 1) := by decide +kernel
theorem dL_law_278 : decode cL_law 278 = .ok (.iaload, 1) := by decide +kernel
theorem dL_law_279 : decode cL_law 279 = .ok (.invokevirtual 35, 3) := by decide +kernel
theorem dL_law_282 : decode cL_law 282 = .ok (.if_icmp .eq 706, 3) := by decide +kernel
theorem dL_law_285 : decode cL_law 285 = .ok (.iconst 0, 1) := by decide +kernel
theorem dL_law_286 : decode cL_law 286 = .ok (.ireturn, 1) := by decide +kernel
theorem dL_law_287 : decode cL_law 287 = .ok (.aload_n 1, 1) := by decide +kernel
theorem dL_law_288 : decode cL_law 288 = .ok (.aload_n 0, 1) := by decide +kernel
theorem dL_law_289 : decode cL_law 289 = .ok (.iload_n 3, 1) := by decide +kernel
theorem dL_law_290 : decode cL_law 290 = .ok (.iconst 1, 1) := by decide +kernel
theorem dL_law_291 : decode cL_law 291 = .ok (.iadd, 1) := by decide +kernel
theorem dL_law_292 : decode cL_law 292 = .ok (.iaload, 1) := by decide +kernel
theorem dL_law_293 : decode cL_law 293 = .ok (.aload_n 0, 1) := by decide +kernel
theorem dL_law_294 : decode cL_law 294 = .ok (.iload_n 3, 1) := by decide +kernel
theorem dL_law_295 : decode cL_law 295 = .ok (.iconst 2, 1) := by decide +kernel
theorem dL_law_296 : decode cL_law 296 = .ok (.iadd, 1) := by decide +kernel
theorem dL_law_297 : decode cL_law 297 = .ok (.iaload, 1) := by decide +kernel
theorem dL_law_298 : decode cL_law 298 = .ok (.invokevirtual 36, 3) := by decide +kernel
theorem dL_law_301 : decode cL_law 301 = .ok (.aload_n 2, 1) := by decide +kernel
theorem dL_law_302 : decode cL_law 302 = .ok (.aload_n 0, 1) := by decide +kernel
theorem dL_law_303 : decode cL_law 303 = .ok (.iload_n 3, 1) := by decide +kernel
theorem dL_law_304 : decode cL_law 304 = .ok (.iconst 1, 1) := by decide +kernel
theorem dL_law_305 : decode cL_law 305 = .ok (.iadd, 1) := by decide +kernel
theorem dL_law_306 : decode cL_law 306 = .ok (.iaload, 1) := by decide +kernel
theorem dL_law_307 : decode cL_law 307 = .ok (.aload_n 0, 1) := by decide +kernel
theorem dL_law_308 : decode cL_law 308 = .ok (.iload_n 3, 1) := by decide +kernel
theorem dL_law_309 : decode cL_law 309 = .ok (.iconst 2, 1) := by decide +kernel
theorem dL_law_310 : decode cL_law 310 = .ok (.iadd, 1) := by decide +kernel
theorem dL_law_311 : decode cL_law 311 = .ok (.iaload, 1) := by decide +kernel
theorem dL_law_312 : decode cL_law 312 = .ok (.invokevirtual 39, 3) := by decide +kernel
theorem dL_law_315 : decode cL_law 315 = .ok (.if_icmp .eq 673, 3) := by decide +kernel
theorem dL_law_318 : decode cL_law 318 = .ok (.iconst 0, 1) := by decide +kernel
theorem dL_law_319 : decode cL_law 319 = .ok (.ireturn, 1) := by decide +kernel
theorem dL_law_320 : decode cL_law 320 = .ok (.aload_n 1, 1) := by decide +kernel
theorem dL_law_321 : decode cL_law 321 = .ok (.aload_n 0, 1) := by decide +kernel
theorem dL_law_322 : decode cL_law 322 = .ok (.iload_n 3, 1) := by decide +kernel
theorem dL_law_323 : decode cL_law 323 = .ok (.iconst 1, 1) := by decide +kernel
theorem dL_law_324 : decode cL_law 324 = .ok (.iadd, 1) := by decide +kernel
theorem dL_law_325 : decode cL_law 325 = .ok (.iaload, 1) := by decide +kernel
theorem dL_law_326 : decode cL_law 326 = .ok (.aload_n 0, 1) := by decide +kernel
theorem dL_law_327 : decode cL_law 327 = .ok (.iload_n 3, 1) := by decide +kernel
theorem dL_law_328 : decode cL_law 328 = .ok (.iconst 2, 1) := by decide +kernel
theorem dL_law_329 : decode cL_law 329 = .ok (.iadd, 1) := by decide +kernel
theorem dL_law_330 : decode cL_law 330 = .ok (.iaload, 1) := by decide +kernel
theorem dL_law_331 : decode cL_law 331 = .ok (.invokevirtual 40, 3) := by decide +kernel
theorem dL_law_334 : decode cL_law 334 = .ok (.aload_n 2, 1) := by decide +kernel
theorem dL_law_335 : decode cL_law 335 = .ok (.aload_n 0, 1) := by decide +kernel
theorem dL_law_336 : decode cL_law 336 = .ok (.iload_n 3, 1) := by decide +kernel
theorem dL_law_337 : decode cL_law 337 = .ok (.iconst 1, 1) := by decide +kernel
theorem dL_law_338 : decode cL_law 338 = .ok (.iadd, 1) := by decide +kernel
theorem dL_law_339 : decode cL_law 339 = .ok (.iaload, 1) := by decide +kernel
theorem dL_law_340 : decode cL_law 340 = .ok (.aload_n 0, 1) := by decide +kernel
theorem dL_law_341 : decode cL_law 341 = .ok (.iload_n 3, 1) := by decide +kernel
theorem dL_law_342 : decode cL_law 342 = .ok (.iconst 2, 1) := by decide +kernel
theorem dL_law_343 : decode cL_law 343 = .ok (.iadd, 1) := by decide +kernel
theorem dL_law_344 : decode cL_law 344 = .ok (.iaload, 1) := by decide +kernel
theorem dL_law_345 : decode cL_law 345 = .ok (.invokevirtual 43, 3) := by decide +kernel
theorem dL_law_348 : decode cL_law 348 = .ok (.if_icmp .eq 640, 3) := by decide +kernel
theorem dL_law_351 : decode cL_law 351 = .ok (.iconst 0, 1) := by decide +kernel
theorem dL_law_352 : decode cL_law 352 = .ok (.ireturn, 1) := by decide +kernel
theorem dL_law_353 : decode cL_law 353 = .ok (.aload_n 1, 1) := by decide +kernel
theorem dL_law_354 : decode cL_law 354 = .ok (.aload_n 0, 1) := by decide +kernel
theorem dL_law_355 : decode cL_law 355 = .ok (.iload_n 3, 1) := by decide +kernel
theorem dL_law_356 : decode cL_law 356 = .ok (.iconst 1, 1) := by decide +kernel
theorem dL_law_357 : decode cL_law 357 = .ok (.iadd, 1) := by decide +kernel
theorem dL_law_358 : decode cL_law 358 = .ok (.iaload, 1) := by decide +kernel
theorem dL_law_359 : decode cL_law 359 = .ok (.aload_n 0, 1) := by decide +kernel
theorem dL_law_360 : decode cL_law 360 = .ok (.iload_n 3, 1) := by decide +kernel
theorem dL_law_361 : decode cL_law 361 = .ok (.iconst 2, 1) := by decide +kernel
theorem dL_law_362 : decode cL_law 362 = .ok (.iadd, 1) := by decide +kernel
theorem dL_law_363 : decode cL_law 363 = .ok (.iaload, 1) := by decide +kernel
theorem dL_law_364 : decode cL_law 364 = .ok (.invokevirtual 44, 3) := by decide +kernel
theorem dL_law_367 : decode cL_law 367 = .ok (.aload_n 2, 1) := by decide +kernel
theorem dL_law_368 : decode cL_law 368 = .ok (.aload_n 0, 1) := by decide +kernel
theorem dL_law_369 : decode cL_law 369 = .ok (.iload_n 3, 1) := by decide +kernel
theorem dL_law_370 : decode cL_law 370 = .ok (.iconst 1, 1) := by decide +kernel
theorem dL_law_371 : decode cL_law 371 = .ok (.iadd, 1) := by decide +kernel
theorem dL_law_372 : decode cL_law 372 = .ok (.iaload, 1) := by decide +kernel
theorem dL_law_373 : decode cL_law 373 = .ok (.aload_n 0, 1) := by decide +kernel
theorem dL_law_374 : decode cL_law 374 = .ok (.iload_n 3, 1) := by decide +kernel
theorem dL_law_375 : decode cL_law 375 = .ok (.iconst 2, 1) := by decide +kernel
theorem dL_law_376 : decode cL_law 376 = .ok (.iadd, 1) := by decide +kernel
theorem dL_law_377 : decode cL_law 377 = .ok (.iaload, 1) := by decide +kernel
theorem dL_law_378 : decode cL_law 378 = .ok (.invokevirtual 47, 3) := by decide +kernel
theorem dL_law_381 : decode cL_law 381 = .ok (.if_icmp .eq 607, 3) := by decide +kernel
theorem dL_law_384 : decode cL_law 384 = .ok (.iconst 0, 1) := by decide +kernel
theorem dL_law_385 : decode cL_law 385 = .ok (.ireturn, 1) := by decide +kernel
theorem dL_law_386 : decode cL_law 386 = .ok (.aload_n 1, 1) := by decide +kernel
theorem dL_law_387 : decode cL_law 387 = .ok (.aload_n 0, 1) := by decide +kernel
theorem dL_law_388 : decode cL_law 388 = .ok (.iload_n 3, 1) := by decide +kernel
theorem dL_law_389 : decode cL_law 389 = .ok (.iconst 1, 1) := by decide +kernel
theorem dL_law_390 : decode cL_law 390 = .ok (.iadd, 1) := by decide +kernel
theorem dL_law_391 : decode cL_law 391 = .ok (.iaload, 1) := by decide +kernel
theorem dL_law_392 : decode cL_law 392 = .ok (.aload_n 0, 1) := by decide +kernel
theorem dL_law_393 : decode cL_law 393 = .ok (.iload_n 3, 1) := by decide +kernel
theorem dL_law_394 : decode cL_law 394 = .ok (.iconst 2, 1) := by decide +kernel
theorem dL_law_395 : decode cL_law 395 = .ok (.iadd, 1) := by decide +kernel
theorem dL_law_396 : decode cL_law 396 = .ok (.iaload, 1) := by decide +kernel
theorem dL_law_397 : decode cL_law 397 = .ok (.invokevirtual 48, 3) := by decide +kernel
theorem dL_law_400 : decode cL_law 400 = .ok (.aload_n 2, 1) := by decide +kernel
theorem dL_law_401 : decode cL_law 401 = .ok (.aload_n 0, 1) := by decide +kernel
theorem dL_law_402 : decode cL_law 402 = .ok (.iload_n 3, 1) := by decide +kernel
theorem dL_law_403 : decode cL_law 403 = .ok (.iconst 1, 1) := by decide +kernel
theorem dL_law_404 : decode cL_law 404 = .ok (.iadd, 1) := by decide +kernel
theorem dL_law_405 : decode cL_law 405 = .ok (.iaload, 1) := by decide +kernel
theorem dL_law_406 : decode cL_law 406 = .ok (.aload_n 0, 1) := by decide +kernel
theorem dL_law_407 : decode cL_law 407 = .ok (.iload_n 3, 1) := by decide +kernel
theorem dL_law_408 : decode cL_law 408 = .ok (.iconst 2, 1) := by decide +kernel
theorem dL_law_409 : decode cL_law 409 = .ok (.iadd, 1) := by decide +kernel
theorem dL_law_410 : decode cL_law 410 = .ok (.iaload, 1) := by decide +kernel
theorem dL_law_411 : decode cL_law 411 = .ok (.invokevirtual 51, 3) := by decide +kernel
theorem dL_law_414 : decode cL_law 414 = .ok (.if_icmp .eq 574, 3) := by decide +kernel
theorem dL_law_417 : decode cL_law 417 = .ok (.iconst 0, 1) := by decide +kernel
theorem dL_law_418 : decode cL_law 418 = .ok (.ireturn, 1) := by decide +kernel
theorem dL_law_419 : decode cL_law 419 = .ok (.aload_n 1, 1) := by decide +kernel
theorem dL_law_420 : decode cL_law 420 = .ok (.aload_n 0, 1) := by decide +kernel
theorem dL_law_421 : decode cL_law 421 = .ok (.iload_n 3, 1) := by decide +kernel
theorem dL_law_422 : decode cL_law 422 = .ok (.iconst 1, 1) := by decide +kernel
theorem dL_law_423 : decode cL_law 423 = .ok (.iadd, 1) := by decide +kernel
theorem dL_law_424 : decode cL_law 424 = .ok (.iaload, 1) := by decide +kernel
theorem dL_law_425 : decode cL_law 425 = .ok (.aload_n 0, 1) := by decide +kernel
theorem dL_law_426 : decode cL_law 426 = .ok (.iload_n 3, 1) := by decide +kernel
theorem dL_law_427 : decode cL_law 427 = .ok (.iconst 2, 1) := by decide +kernel
theorem dL_law_428 : decode cL_law 428 = .ok (.iadd, 1) := by decide +kernel
theorem dL_law_429 : decode cL_law 429 = .ok (.iaload, 1) := by decide +kernel
theorem dL_law_430 : decode cL_law 430 = .ok (.invokevirtual 52, 3) := by decide +kernel
theorem dL_law_433 : decode cL_law 433 = .ok (.aload_n 2, 1) := by decide +kernel
theorem dL_law_434 : decode cL_law 434 = .ok (.aload_n 0, 1) := by decide +kernel
theorem dL_law_435 : decode cL_law 435 = .ok (.iload_n 3, 1) := by decide +kernel
theorem dL_law_436 : decode cL_law 436 = .ok (.iconst 1, 1) := by decide +kernel
theorem dL_law_437 : decode cL_law 437 = .ok (.iadd, 1) := by decide +kernel
theorem dL_law_438 : decode cL_law 438 = .ok (.iaload, 1) := by decide +kernel
theorem dL_law_439 : decode cL_law 439 = .ok (.aload_n 0, 1) := by decide +kernel
theorem dL_law_440 : decode cL_law 440 = .ok (.iload_n 3, 1) := by decide +kernel
theorem dL_law_441 : decode cL_law 441 = .ok (.iconst 2, 1) := by decide +kernel
theorem dL_law_442 : decode cL_law 442 = .ok (.iadd, 1) := by decide +kernel
theorem dL_law_443 : decode cL_law 443 = .ok (.iaload, 1) := by decide +kernel
theorem dL_law_444 : decode cL_law 444 = .ok (.invokevirtual 55, 3) := by decide +kernel
theorem dL_law_447 : decode cL_law 447 = .ok (.if_icmp .eq 541, 3) := by decide +kernel
theorem dL_law_450 : decode cL_law 450 = .ok (.iconst 0, 1) := by decide +kernel
theorem dL_law_451 : decode cL_law 451 = .ok (.ireturn, 1) := by decide +kernel
theorem dL_law_452 : decode cL_law 452 = .ok (.aload_n 1, 1) := by decide +kernel
theorem dL_law_453 : decode cL_law 453 = .ok (.aload_n 0, 1) := by decide +kernel
theorem dL_law_454 : decode cL_law 454 = .ok (.iload_n 3, 1) := by decide +kernel
theorem dL_law_455 : decode cL_law 455 = .ok (.iconst 1, 1) := by decide +kernel
theorem dL_law_456 : decode cL_law 456 = .ok (.iadd, 1) := by decide +kernel
theorem dL_law_457 : decode cL_law 457 = .ok (.iaload, 1) := by decide +kernel
theorem dL_law_458 : decode cL_law 458 = .ok (.invokevirtual 56, 3) := by decide +kernel
theorem dL_law_461 : decode cL_law 461 = .ok (.aload_n 2, 1) := by decide +kernel
theorem dL_law_462 : decode cL_law 462 = .ok (.aload_n 0, 1) := by decide +kernel
theorem dL_law_463 : decode cL_law 463 = .ok (.iload_n 3, 1) := by decide +kernel
theorem dL_law_464 : decode cL_law 464 = .ok (.iconst 1, 1) := by decide +kernel
theorem dL_law_465 : decode cL_law 465 = .ok (.iadd, 1) := by decide +kernel
theorem dL_law_466 : decode cL_law 466 = .ok (.iaload, 1) := by decide +kernel
theorem dL_law_467 : decode cL_law 467 = .ok (.invokevirtual 59, 3) := by decide +kernel
theorem dL_law_470 : decode cL_law 470 = .ok (.if_icmp .eq 518, 3) := by decide +kernel
theorem dL_law_473 : decode cL_law 473 = .ok (.iconst 0, 1) := by decide +kernel
theorem dL_law_474 : decode cL_law 474 = .ok (.ireturn, 1) := by decide +kernel
theorem dL_law_475 : decode cL_law 475 = .ok (.aload_n 1, 1) := by decide +kernel
theorem dL_law_476 : decode cL_law 476 = .ok (.aload_n 0, 1) := by decide +kernel
theorem dL_law_477 : decode cL_law 477 = .ok (.iload_n 3, 1) := by decide +kernel
theorem dL_law_478 : decode cL_law 478 = .ok (.iconst 1, 1) := by decide +kernel
theorem dL_law_479 : decode cL_law 479 = .ok (.iadd, 1) := by decide +kernel
theorem dL_law_480 : decode cL_law 480 = .ok (.iaload, 1) := by decide +kernel
theorem dL_law_481 : decode cL_law 481 = .ok (.invokevirtual 60, 3) := by decide +kernel
theorem dL_law_484 : decode cL_law 484 = .ok (.aload_n 2, 1) := by decide +kernel
theorem dL_law_485 : decode cL_law 485 = .ok (.aload_n 0, 1) := by decide +kernel
theorem dL_law_486 : decode cL_law 486 = .ok (.iload_n 3, 1) := by decide +kernel
theorem dL_law_487 : decode cL_law 487 = .ok (.iconst 1, 1) := by decide +kernel
theorem dL_law_488 : decode cL_law 488 = .ok (.iadd, 1) := by decide +kernel
theorem dL_law_489 : decode cL_law 489 = .ok (.iaload, 1) := by decide +kernel
theorem dL_law_490 : decode cL_law 490 = .ok (.invokevirtual 63, 3) := by decide +kernel
theorem dL_law_493 : decode cL_law 493 = .ok (.if_icmp .eq 495, 3) := by decide +kernel
theorem dL_law_496 : decode cL_law 496 = .ok (.iconst 0, 1) := by decide +kernel
theorem dL_law_497 : decode cL_law 497 = .ok (.ireturn, 1) := by decide +kernel
theorem dL_law_498 : decode cL_law 498 = .ok (.aload_n 1, 1) := by decide +kernel
theorem dL_law_499 : decode cL_law 499 = .ok (.invokevirtual 64, 3) := by decide +kernel
theorem dL_law_502 : decode cL_law 502 = .ok (.aload_n 2, 1) := by decide +kernel
theorem dL_law_503 : decode cL_law 503 = .ok (.invokevirtual 67, 3) := by decide +kernel
theorem dL_law_506 : decode cL_law 506 = .ok (.if_icmp .eq 482, 3) := by decide +kernel
theorem dL_law_509 : decode cL_law 509 = .ok (.iconst 0, 1) := by decide +kernel
theorem dL_law_510 : decode cL_law 510 = .ok (.ireturn, 1) := by decide +kernel
theorem dL_law_511 : decode cL_law 511 = .ok (.aload_n 1, 1) := by decide +kernel
theorem dL_law_512 : decode cL_law 512 = .ok (.aload_n 0, 1) := by decide +kernel
theorem dL_law_513 : decode cL_law 513 = .ok (.iload_n 3, 1) := by decide +kernel
theorem dL_law_514 : decode cL_law 514 = .ok (.iconst 1, 1) := by decide +kernel
theorem dL_law_515 : decode cL_law 515 = .ok (.iadd, 1) := by decide +kernel
theorem dL_law_516 : decode cL_law 516 = .ok (.iaload, 1) := by decide +kernel
theorem dL_law_517 : decode cL_law 517 = .ok (.invokevirtual 68, 3) := by decide +kernel
theorem dL_law_520 : decode cL_law 520 = .ok (.aload_n 2, 1) := by decide +kernel
theorem dL_law_521 : decode cL_law 521 = .ok (.aload_n 0, 1) := by decide +kernel
theorem dL_law_522 : decode cL_law 522 = .ok (.iload_n 3, 1) := by decide +kernel
theorem dL_law_523 : decode cL_law 523 = .ok (.iconst 1, 1) := by decide +kernel
theorem dL_law_524 : decode cL_law 524 = .ok (.iadd, 1) := by decide +kernel
theorem dL_law_525 : decode cL_law 525 = .ok (.iaload, 1) := by decide +kernel
theorem dL_law_526 : decode cL_law 526 = .ok (.invokevirtual 71, 3) := by decide +kernel
theorem dL_law_529 : decode cL_law 529 = .ok (.if_icmp .eq 459, 3) := by decide +kernel
theorem dL_law_532 : decode cL_law 532 = .ok (.iconst 0, 1) := by decide +kernel
theorem dL_law_533 : decode cL_law 533 = .ok (.ireturn, 1) := by decide +kernel
theorem dL_law_534 : decode cL_law 534 = .ok (.aload_n 1, 1) := by decide +kernel
theorem dL_law_535 : decode cL_law 535 = .ok (.aload_n 0, 1) := by decide +kernel
theorem dL_law_536 : decode cL_law 536 = .ok (.iload_n 3, 1) := by decide +kernel
theorem dL_law_537 : decode cL_law 537 = .ok (.iconst 1, 1) := by decide +kernel
theorem dL_law_538 : decode cL_law 538 = .ok (.iadd, 1) := by decide +kernel
theorem dL_law_539 : decode cL_law 539 = .ok (.iaload, 1) := by decide +kernel
theorem dL_law_540 : decode cL_law 540 = .ok (.invokevirtual 72, 3) := by decide +kernel
theorem dL_law_543 : decode cL_law 543 = .ok (.aload_n 2, 1) := by decide +kernel
theorem dL_law_544 : decode cL_law 544 = .ok (.aload_n 0, 1) := by decide +kernel
theorem dL_law_545 : decode cL_law 545 = .ok (.iload_n 3, 1) := by decide +kernel
theorem dL_law_546 : decode cL_law 546 = .ok (.iconst 1, 1) := by decide +kernel
theorem dL_law_547 : decode cL_law 547 = .ok (.iadd, 1) := by decide +kernel
theorem dL_law_548 : decode cL_law 548 = .ok (.iaload, 1) := by decide +kernel
theorem dL_law_549 : decode cL_law 549 = .ok (.invokevirtual 75, 3) := by decide +kernel
theorem dL_law_552 : decode cL_law 552 = .ok (.if_icmp .eq 436, 3) := by decide +kernel
theorem dL_law_555 : decode cL_law 555 = .ok (.iconst 0, 1) := by decide +kernel
theorem dL_law_556 : decode cL_law 556 = .ok (.ireturn, 1) := by decide +kernel
theorem dL_law_557 : decode cL_law 557 = .ok (.aload_n 1, 1) := by decide +kernel
theorem dL_law_558 : decode cL_law 558 = .ok (.aload_n 0, 1) := by decide +kernel
theorem dL_law_559 : decode cL_law 559 = .ok (.iload_n 3, 1) := by decide +kernel
theorem dL_law_560 : decode cL_law 560 = .ok (.iconst 1, 1) := by decide +kernel
theorem dL_law_561 : decode cL_law 561 = .ok (.iadd, 1) := by decide +kernel
theorem dL_law_562 : decode cL_law 562 = .ok (.iaload, 1) := by decide +kernel
theorem dL_law_563 : decode cL_law 563 = .ok (.invokevirtual 76, 3) := by decide +kernel
theorem dL_law_566 : decode cL_law 566 = .ok (.aload_n 2, 1) := by decide +kernel
theorem dL_law_567 : decode cL_law 567 = .ok (.aload_n 0, 1) := by decide +kernel
theorem dL_law_568 : decode cL_law 568 = .ok (.iload_n 3, 1) := by decide +kernel
theorem dL_law_569 : decode cL_law 569 = .ok (.iconst 1, 1) := by decide +kernel
theorem dL_law_570 : decode cL_law 570 = .ok (.iadd, 1) := by decide +kernel
theorem dL_law_571 : decode cL_law 571 = .ok (.iaload, 1) := by decide +kernel
theorem dL_law_572 : decode cL_law 572 = .ok (.invokevirtual 79, 3) := by decide +kernel
theorem dL_law_575 : decode cL_law 575 = .ok (.if_icmp .eq 413, 3) := by decide +kernel
theorem dL_law_578 : decode cL_law 578 = .ok (.iconst 0, 1) := by decide +kernel
theorem dL_law_579 : decode cL_law 579 = .ok (.ireturn, 1) := by decide +kernel
theorem dL_law_580 : decode cL_law 580 = .ok (.aload_n 1, 1) := by decide +kernel
theorem dL_law_581 : decode cL_law 581 = .ok (.aload_n 0, 1) := by decide +kernel
theorem dL_law_582 : decode cL_law 582 = .ok (.iload_n 3, 1) := by decide +kernel
theorem dL_law_583 : decode cL_law 583 = .ok (.iconst 1, 1) := by decide +kernel
theorem dL_law_584 : decode cL_law 584 = .ok (.iadd, 1) := by decide +kernel
theorem dL_law_585 : decode cL_law 585 = .ok (.iaload, 1) := by decide +kernel
theorem dL_law_586 : decode cL_law 586 = .ok (.invokevirtual 80, 3) := by decide +kernel
theorem dL_law_589 : decode cL_law 589 = .ok (.aload_n 2, 1) := by decide +kernel
theorem dL_law_590 : decode cL_law 590 = .ok (.aload_n 0, 1) := by decide +kernel
theorem dL_law_591 : decode cL_law 591 = .ok (.iload_n 3, 1) := by decide +kernel
theorem dL_law_592 : decode cL_law 592 = .ok (.iconst 1, 1) := by decide +kernel
theorem dL_law_593 : decode cL_law 593 = .ok (.iadd, 1) := by decide +kernel
theorem dL_law_594 : decode cL_law 594 = .ok (.iaload, 1) := by decide +kernel
theorem dL_law_595 : decode cL_law 595 = .ok (.invokevirtual 83, 3) := by decide +kernel
theorem dL_law_598 : decode cL_law 598 = .ok (.if_icmp .eq 390, 3) := by decide +kernel
theorem dL_law_601 : decode cL_law 601 = .ok (.iconst 0, 1) := by decide +kernel
theorem dL_law_602 : decode cL_law 602 = .ok (.ireturn, 1) := by decide +kernel
theorem dL_law_603 : decode cL_law 603 = .ok (.aload_n 1, 1) := by decide +kernel
theorem dL_law_604 : decode cL_law 604 = .ok (.invokevirtual 84, 3) := by decide +kernel
theorem dL_law_607 : decode cL_law 607 = .ok (.aload_n 2, 1) := by decide +kernel
theorem dL_law_608 : decode cL_law 608 = .ok (.invokevirtual 87, 3) := by decide +kernel
theorem dL_law_611 : decode cL_law 611 = .ok (.if_icmp .eq 377, 3) := by decide +kernel
theorem dL_law_614 : decode cL_law 614 = .ok (.iconst 0, 1) := by decide +kernel
theorem dL_law_615 : decode cL_law 615 = .ok (.ireturn, 1) := by decide +kernel
theorem dL_law_616 : decode cL_law 616 = .ok (.aload_n 1, 1) := by decide +kernel
theorem dL_law_617 : decode cL_law 617 = .ok (.aload_n 0, 1) := by decide +kernel
theorem dL_law_618 : decode cL_law 618 = .ok (.iload_n 3, 1) := by decide +kernel
theorem dL_law_619 : decode cL_law 619 = .ok (.iconst 1, 1) := by decide +kernel
theorem dL_law_620 : decode cL_law 620 = .ok (.iadd, 1) := by decide +kernel
theorem dL_law_621 : decode cL_law 621 = .ok (.iaload, 1) := by decide +kernel
theorem dL_law_622 : decode cL_law 622 = .ok (.aload_n 0, 1) := by decide +kernel
theorem dL_law_623 : decode cL_law 623 = .ok (.iload_n 3, 1) := by decide +kernel
theorem dL_law_624 : decode cL_law 624 = .ok (.iconst 2, 1) := by decide +kernel
theorem dL_law_625 : decode cL_law 625 = .ok (.iadd, 1) := by decide +kernel
theorem dL_law_626 : decode cL_law 626 = .ok (.iaload, 1) := by decide +kernel
theorem dL_law_627 : decode cL_law 627 = .ok (.invokevirtual 88, 3) := by decide +kernel
theorem dL_law_630 : decode cL_law 630 = .ok (.aload_n 2, 1) := by decide +kernel
theorem dL_law_631 : decode cL_law 631 = .ok (.aload_n 0, 1) := by decide +kernel
theorem dL_law_632 : decode cL_law 632 = .ok (.iload_n 3, 1) := by decide +kernel
theorem dL_law_633 : decode cL_law 633 = .ok (.iconst 1, 1) := by decide +kernel
theorem dL_law_634 : decode cL_law 634 = .ok (.iadd, 1) := by decide +kernel
theorem dL_law_635 : decode cL_law 635 = .ok (.iaload, 1) := by decide +kernel
theorem dL_law_636 : decode cL_law 636 = .ok (.aload_n 0, 1) := by decide +kernel
theorem dL_law_637 : decode cL_law 637 = .ok (.iload_n 3, 1) := by decide +kernel
theorem dL_law_638 : decode cL_law 638 = .ok (.iconst 2, 1) := by decide +kernel
theorem dL_law_639 : decode cL_law 639 = .ok (.iadd, 1) := by decide +kernel
theorem dL_law_640 : decode cL_law 640 = .ok (.iaload, 1) := by decide +kernel
theorem dL_law_641 : decode cL_law 641 = .ok (.invokevirtual 91, 3) := by decide +kernel
theorem dL_law_644 : decode cL_law 644 = .ok (.if_icmp .eq 344, 3) := by decide +kernel
theorem dL_law_647 : decode cL_law 647 = .ok (.iconst 0, 1) := by decide +kernel
theorem dL_law_648 : decode cL_law 648 = .ok (.ireturn, 1) := by decide +kernel
theorem dL_law_649 : decode cL_law 649 = .ok (.aload_n 1, 1) := by decide +kernel
theorem dL_law_650 : decode cL_law 650 = .ok (.aload_n 0, 1) := by decide +kernel
theorem dL_law_651 : decode cL_law 651 = .ok (.iload_n 3, 1) := by decide +kernel
theorem dL_law_652 : decode cL_law 652 = .ok (.iconst 1, 1) := by decide +kernel
theorem dL_law_653 : decode cL_law 653 = .ok (.iadd, 1) := by decide +kernel
theorem dL_law_654 : decode cL_law 654 = .ok (.iaload, 1) := by decide +kernel
theorem dL_law_655 : decode cL_law 655 = .ok (.invokevirtual 92, 3) := by decide +kernel
theorem dL_law_658 : decode cL_law 658 = .ok (.aload_n 2, 1) := by decide +kernel
theorem dL_law_659 : decode cL_law 659 = .ok (.aload_n 0, 1) := by decide +kernel
theorem dL_law_660 : decode cL_law 660 = .ok (.iload_n 3, 1) := by decide +kernel
theorem dL_law_661 : decode cL_law 661 = .ok (.iconst 1, 1) := by decide +kernel
theorem dL_law_662 : decode cL_law 662 = .ok (.iadd, 1) := by decide +kernel
theorem dL_law_663 : decode cL_law 663 = .ok (.iaload, 1) := by decide +kernel
theorem dL_law_664 : decode cL_law 664 = .ok (.invokevirtual 95, 3) := by decide +kernel
theorem dL_law_667 : decode cL_law 667 = .ok (.if_icmp .eq 321, 3) := by decide +kernel
theorem dL_law_670 : decode cL_law 670 = .ok (.iconst 0, 1) := by decide +kernel
theorem dL_law_671 : decode cL_law 671 = .ok (.ireturn, 1) := by decide +kernel
theorem dL_law_672 : decode cL_law 672 = .ok (.aload_n 1, 1) := by decide +kernel
theorem dL_law_673 : decode cL_law 673 = .ok (.invokevirtual 96, 3) := by decide +kernel
theorem dL_law_676 : decode cL_law 676 = .ok (.aload_n 2, 1) := by decide +kernel
theorem dL_law_677 : decode cL_law 677 = .ok (.invokevirtual 99, 3) := by decide +kernel
theorem dL_law_680 : decode cL_law 680 = .ok (.if_icmp .eq 308, 3) := by decide +kernel
theorem dL_law_683 : decode cL_law 683 = .ok (.iconst 0, 1) := by decide +kernel
theorem dL_law_684 : decode cL_law 684 = .ok (.ireturn, 1) := by decide +kernel
theorem dL_law_685 : decode cL_law 685 = .ok (.aload_n 1, 1) := by decide +kernel
theorem dL_law_686 : decode cL_law 686 = .ok (.invokevirtual 100, 3) := by decide +kernel
theorem dL_law_689 : decode cL_law 689 = .ok (.aload_n 2, 1) := by decide +kernel
theorem dL_law_690 : decode cL_law 690 = .ok (.invokevirtual 103, 3) := by decide +kernel
theorem dL_law_693 : decode cL_law 693 = .ok (.if_icmp .eq 295, 3) := by decide +kernel
theorem dL_law_696 : decode cL_law 696 = .ok (.iconst 0, 1) := by decide +kernel
theorem dL_law_697 : decode cL_law 697 = .ok (.ireturn, 1) := by decide +kernel
theorem dL_law_698 : decode cL_law 698 = .ok (.aload_n 1, 1) := by decide +kernel
theorem dL_law_699 : decode cL_law 699 = .ok (.aload_n 0, 1) := by decide +kernel
theorem dL_law_700 : decode cL_law 700 = .ok (.iload_n 3, 1) := by decide +kernel
theorem dL_law_701 : decode cL_law 701 = .ok (.iconst 1, 1) := by decide +kernel
theorem dL_law_702 : decode cL_law 702 = .ok (.iadd, 1) := by decide +kernel
theorem dL_law_703 : decode cL_law 703 = .ok (.iaload, 1) := by decide +kernel
theorem dL_law_704 : decode cL_law 704 = .ok (.aload_n 0, 1) := by decide +kernel
theorem dL_law_705 : decode cL_law 705 = .ok (.iload_n 3, 1) := by decide +kernel
theorem dL_law_706 : decode cL_law 706 = .ok (.iconst 2, 1) := by decide +kernel
theorem dL_law_707 : decode cL_law 707 = .ok (.iadd, 1) := by decide +kernel
theorem dL_law_708 : decode cL_law 708 = .ok (.iaload, 1) := by decide +kernel
theorem dL_law_709 : decode cL_law 709 = .ok (.aload_n 0, 1) := by decide +kernel
theorem dL_law_710 : decode cL_law 710 = .ok (.iload_n 3, 1) := by decide +kernel
theorem dL_law_711 : decode cL_law 711 = .ok (.iconst 3, 1) := by decide +kernel
theorem dL_law_712 : decode cL_law 712 = .ok (.iadd, 1) := by decide +kernel
theorem dL_law_713 : decode cL_law 713 = .ok (.iaload, 1) := by decide +kernel
theorem dL_law_714 : decode cL_law 714 = .ok (.aload_n 0, 1) := by decide +kernel
theorem dL_law_715 : decode cL_law 715 = .ok (.iload_n 3, 1) := by decide +kernel
theorem dL_law_716 : decode cL_law 716 = .ok (.iconst 4, 1) := by decide +kernel
theorem dL_law_717 : decode cL_law 717 = .ok (.iadd, 1) := by decide +kernel
theorem dL_law_718 : decode cL_law 718 = .ok (.iaload, 1) := by decide +kernel
theorem dL_law_719 : decode cL_law 719 = .ok (.invokevirtual 104, 3) := by decide +kernel
theorem dL_law_722 : decode cL_law 722 = .ok (.aload_n 2, 1) := by decide +kernel
theorem dL_law_723 : decode cL_law 723 = .ok (.aload_n 0, 1) := by decide +kernel
theorem dL_law_724 : decode cL_law 724 = .ok (.iload_n 3, 1) := by decide +kernel
theorem dL_law_725 : decode cL_law 725 = .ok (.iconst 1, 1) := by decide +kernel
theorem dL_law_726 : decode cL_law 726 = .ok (.iadd, 1) := by decide +kernel
theorem dL_law_727 : decode cL_law 727 = .ok (.iaload, 1) := by decide +kernel
theorem dL_law_728 : decode cL_law 728 = .ok (.aload_n 0, 1) := by decide +kernel
theorem dL_law_729 : decode cL_law 729 = .ok (.iload_n 3, 1) := by decide +kernel
theorem dL_law_730 : decode cL_law 730 = .ok (.iconst 2, 1) := by decide +kernel
theorem dL_law_731 : decode cL_law 731 = .ok (.iadd, 1) := by decide +kernel
theorem dL_law_732 : decode cL_law 732 = .ok (.iaload, 1) := by decide +kernel
theorem dL_law_733 : decode cL_law 733 = .ok (.aload_n 0, 1) := by decide +kernel
theorem dL_law_734 : decode cL_law 734 = .ok (.iload_n 3, 1) := by decide +kernel
theorem dL_law_735 : decode cL_law 735 = .ok (.iconst 3, 1) := by decide +kernel
theorem dL_law_736 : decode cL_law 736 = .ok (.iadd, 1) := by decide +kernel
theorem dL_law_737 : decode cL_law 737 = .ok (.iaload, 1) := by decide +kernel
theorem dL_law_738 : decode cL_law 738 = .ok (.aload_n 0, 1) := by decide +kernel
theorem dL_law_739 : decode cL_law 739 = .ok (.iload_n 3, 1) := by decide +kernel
theorem dL_law_740 : decode cL_law 740 = .ok (.iconst 4, 1) := by decide +kernel
theorem dL_law_741 : decode cL_law 741 = .ok (.iadd, 1) := by decide +kernel
theorem dL_law_742 : decode cL_law 742 = .ok (.iaload, 1) := by decide +kernel
theorem dL_law_743 : decode cL_law 743 = .ok (.invokevirtual 108, 3) := by decide +kernel
theorem dL_law_746 : decode cL_law 746 = .ok (.if_icmp .eq 242, 3) := by decide +kernel
theorem dL_law_749 : decode cL_law 749 = .ok (.iconst 0, 1) := by decide +kernel
theorem dL_law_750 : decode cL_law 750 = .ok (.ireturn, 1) := by decide +kernel
theorem dL_law_751 : decode cL_law 751 = .ok (.aload_n 1, 1) := by decide +kernel
theorem dL_law_752 : decode cL_law 752 = .ok (.aload_n 0, 1) := by decide +kernel
theorem dL_law_753 : decode cL_law 753 = .ok (.iload_n 3, 1) := by decide +kernel
theorem dL_law_754 : decode cL_law 754 = .ok (.iconst 1, 1) := by decide +kernel
theorem dL_law_755 : decode cL_law 755 = .ok (.iadd, 1) := by decide +kernel
theorem dL_law_756 : decode cL_law 756 = .ok (.iaload, 1) := by decide +kernel
theorem dL_law_757 : decode cL_law 757 = .ok (.invokevirtual 109, 3) := by decide +kernel
theorem dL_law_760 : decode cL_law 760 = .ok (.aload_n 2, 1) := by decide +kernel
theorem dL_law_761 : decode cL_law 761 = .ok (.aload_n 0, 1) := by decide +kernel
theorem dL_law_762 : decode cL_law 762 = .ok (.iload_n 3, 1) := by decide +kernel
theorem dL_law_763 : decode cL_law 763 = .ok (.iconst 1, 1) := by decide +kernel
theorem dL_law_764 : decode cL_law 764 = .ok (.iadd, 1) := by decide +kernel
theorem dL_law_765 : decode cL_law 765 = .ok (.iaload, 1) := by decide +kernel
theorem dL_law_766 : decode cL_law 766 = .ok (.invokevirtual 112, 3) := by decide +kernel
theorem dL_law_769 : decode cL_law 769 = .ok (.if_icmp .eq 219, 3) := by decide +kernel
theorem dL_law_772 : decode cL_law 772 = .ok (.iconst 0, 1) := by decide +kernel
theorem dL_law_773 : decode cL_law 773 = .ok (.ireturn, 1) := by decide +kernel
theorem dL_law_774 : decode cL_law 774 = .ok (.aload_n 1, 1) := by decide +kernel
theorem dL_law_775 : decode cL_law 775 = .ok (.aload_n 0, 1) := by decide +kernel
theorem dL_law_776 : decode cL_law 776 = .ok (.iload_n 3, 1) := by decide +kernel
theorem dL_law_777 : decode cL_law 777 = .ok (.iconst 1, 1) := by decide +kernel
theorem dL_law_778 : decode cL_law 778 = .ok (.iadd, 1) := by decide +kernel
theorem dL_law_779 : decode cL_law 779 = .ok (.iaload, 1) := by decide +kernel
theorem dL_law_780 : decode cL_law 780 = .ok (.invokevirtual 113, 3) := by decide +kernel
theorem dL_law_783 : decode cL_law 783 = .ok (.aload_n 2, 1) := by decide +kernel
theorem dL_law_784 : decode cL_law 784 = .ok (.aload_n 0, 1) := by decide +kernel
theorem dL_law_785 : decode cL_law 785 = .ok (.iload_n 3, 1) := by decide +kernel
theorem dL_law_786 : decode cL_law 786 = .ok (.iconst 1, 1) := by decide +kernel
theorem dL_law_787 : decode cL_law 787 = .ok (.iadd, 1) := by decide +kernel
theorem dL_law_788 : decode cL_law 788 = .ok (.iaload, 1) := by decide +kernel
theorem dL_law_789 : decode cL_law 789 = .ok (.invokevirtual 116, 3) := by decide +kernel
theorem dL_law_792 : decode cL_law 792 = .ok (.if_icmp .eq 196, 3) := by decide +kernel
theorem dL_law_795 : decode cL_law 795 = .ok (.iconst 0, 1) := by decide +kernel
theorem dL_law_796 : decode cL_law 796 = .ok (.ireturn, 1) := by decide +kernel
theorem dL_law_797 : decode cL_law 797 = .ok (.aload_n 1, 1) := by decide +kernel
theorem dL_law_798 : decode cL_law 798 = .ok (.aload_n 0, 1) := by decide +kernel
theorem dL_law_799 : decode cL_law 799 = .ok (.iload_n 3, 1) := by decide +kernel
theorem dL_law_800 : decode cL_law 800 = .ok (.iconst 1, 1) := by decide +kernel
theorem dL_law_801 : decode cL_law 801 = .ok (.iadd, 1) := by decide +kernel
theorem dL_law_802 : decode cL_law 802 = .ok (.iaload, 1) := by decide +kernel
theorem dL_law_803 : decode cL_law 803 = .ok (.aload_n 0, 1) := by decide +kernel
theorem dL_law_804 : decode cL_law 804 = .ok (.iload_n 3, 1) := by decide +kernel
theorem dL_law_805 : decode cL_law 805 = .ok (.iconst 2, 1) := by decide +kernel
theorem dL_law_806 : decode cL_law 806 = .ok (.iadd, 1) := by decide +kernel
theorem dL_law_807 : decode cL_law 807 = .ok (.iaload, 1) := by decide +kernel
theorem dL_law_808 : decode cL_law 808 = .ok (.aload_n 0, 1) := by decide +kernel
theorem dL_law_809 : decode cL_law 809 = .ok (.iload_n 3, 1) := by decide +kernel
theorem dL_law_810 : decode cL_law 810 = .ok (.iconst 3, 1) := by decide +kernel
theorem dL_law_811 : decode cL_law 811 = .ok (.iadd, 1) := by decide +kernel
theorem dL_law_812 : decode cL_law 812 = .ok (.iaload, 1) := by decide +kernel
theorem dL_law_813 : decode cL_law 813 = .ok (.aload_n 0, 1) := by decide +kernel
theorem dL_law_814 : decode cL_law 814 = .ok (.iload_n 3, 1) := by decide +kernel
theorem dL_law_815 : decode cL_law 815 = .ok (.iconst 4, 1) := by decide +kernel
theorem dL_law_816 : decode cL_law 816 = .ok (.iadd, 1) := by decide +kernel
theorem dL_law_817 : decode cL_law 817 = .ok (.iaload, 1) := by decide +kernel
theorem dL_law_818 : decode cL_law 818 = .ok (.aload_n 0, 1) := by decide +kernel
theorem dL_law_819 : decode cL_law 819 = .ok (.iload_n 3, 1) := by decide +kernel
theorem dL_law_820 : decode cL_law 820 = .ok (.iconst 5, 1) := by decide +kernel
theorem dL_law_821 : decode cL_law 821 = .ok (.iadd, 1) := by decide +kernel
theorem dL_law_822 : decode cL_law 822 = .ok (.iaload, 1) := by decide +kernel
theorem dL_law_823 : decode cL_law 823 = .ok (.aload_n 0, 1) := by decide +kernel
theorem dL_law_824 : decode cL_law 824 = .ok (.iload_n 3, 1) := by decide +kernel
theorem dL_law_825 : decode cL_law 825 = .ok (.bipush 6, 2) := by decide +kernel
theorem dL_law_827 : decode cL_law 827 = .ok (.iadd, 1) := by decide +kernel
theorem dL_law_828 : decode cL_law 828 = .ok (.iaload, 1) := by decide +kernel
theorem dL_law_829 : decode cL_law 829 = .ok (.invokevirtual 117, 3) := by decide +kernel
theorem dL_law_832 : decode cL_law 832 = .ok (.aload_n 2, 1) := by decide +kernel
theorem dL_law_833 : decode cL_law 833 = .ok (.aload_n 0, 1) := by decide +kernel
theorem dL_law_834 : decode cL_law 834 = .ok (.iload_n 3, 1) := by decide +kernel
theorem dL_law_835 : decode cL_law 835 = .ok (.iconst 1, 1) := by decide +kernel
theorem dL_law_836 : decode cL_law 836 = .ok (.iadd, 1) := by decide +kernel
theorem dL_law_837 : decode cL_law 837 = .ok (.iaload, 1) := by decide +kernel
theorem dL_law_838 : decode cL_law 838 = .ok (.aload_n 0, 1) := by decide +kernel
theorem dL_law_839 : decode cL_law 839 = .ok (.iload_n 3, 1) := by decide +kernel
theorem dL_law_840 : decode cL_law 840 = .ok (.iconst 2, 1) := by decide +kernel
theorem dL_law_841 : decode cL_law 841 = .ok (.iadd, 1) := by decide +kernel
theorem dL_law_842 : decode cL_law 842 = .ok (.iaload, 1) := by decide +kernel
theorem dL_law_843 : decode cL_law 843 = .ok (.aload_n 0, 1) := by decide +kernel
theorem dL_law_844 : decode cL_law 844 = .ok (.iload_n 3, 1) := by decide +kernel
theorem dL_law_845 : decode cL_law 845 = .ok (.iconst 3, 1) := by decide +kernel
theorem dL_law_846 : decode cL_law 846 = .ok (.iadd, 1) := by decide +kernel
theorem dL_law_847 : decode cL_law 847 = .ok (.iaload, 1) := by decide +kernel
theorem dL_law_848 : decode cL_law 848 = .ok (.aload_n 0, 1) := by decide +kernel
theorem dL_law_849 : decode cL_law 849 = .ok (.iload_n 3, 1) := by decide +kernel
theorem dL_law_850 : decode cL_law 850 = .ok (.iconst 4, 1) := by decide +kernel
theorem dL_law_851 : decode cL_law 851 = .ok (.iadd, 1) := by decide +kernel
theorem dL_law_852 : decode cL_law 852 = .ok (.iaload, 1) := by decide +kernel
theorem dL_law_853 : decode cL_law 853 = .ok (.aload_n 0, 1) := by decide +kernel
theorem dL_law_854 : decode cL_law 854 = .ok (.iload_n 3, 1) := by decide +kernel
theorem dL_law_855 : decode cL_law 855 = .ok (.iconst 5, 1) := by decide +kernel
theorem dL_law_856 : decode cL_law 856 = .ok (.iadd, 1) := by decide +kernel
theorem dL_law_857 : decode cL_law 857 = .ok (.iaload, 1) := by decide +kernel
theorem dL_law_858 : decode cL_law 858 = .ok (.aload_n 0, 1) := by decide +kernel
theorem dL_law_859 : decode cL_law 859 = .ok (.iload_n 3, 1) := by decide +kernel
theorem dL_law_860 : decode cL_law 860 = .ok (.bipush 6, 2) := by decide +kernel
theorem dL_law_862 : decode cL_law 862 = .ok (.iadd, 1) := by decide +kernel
theorem dL_law_863 : decode cL_law 863 = .ok (.iaload, 1) := by decide +kernel
theorem dL_law_864 : decode cL_law 864 = .ok (.invokevirtual 121, 3) := by decide +kernel
theorem dL_law_867 : decode cL_law 867 = .ok (.if_icmp .eq 121, 3) := by decide +kernel
theorem dL_law_870 : decode cL_law 870 = .ok (.iconst 0, 1) := by decide +kernel
theorem dL_law_871 : decode cL_law 871 = .ok (.ireturn, 1) := by decide +kernel
theorem dL_law_872 : decode cL_law 872 = .ok (.aload_n 1, 1) := by decide +kernel
theorem dL_law_873 : decode cL_law 873 = .ok (.aload_n 0, 1) := by decide +kernel
theorem dL_law_874 : decode cL_law 874 = .ok (.iload_n 3, 1) := by decide +kernel
theorem dL_law_875 : decode cL_law 875 = .ok (.iconst 1, 1) := by decide +kernel
theorem dL_law_876 : decode cL_law 876 = .ok (.iadd, 1) := by decide +kernel
theorem dL_law_877 : decode cL_law 877 = .ok (.iaload, 1) := by decide +kernel
theorem dL_law_878 : decode cL_law 878 = .ok (.aload_n 0, 1) := by decide +kernel
theorem dL_law_879 : decode cL_law 879 = .ok (.iload_n 3, 1) := by decide +kernel
theorem dL_law_880 : decode cL_law 880 = .ok (.iconst 2, 1) := by decide +kernel
theorem dL_law_881 : decode cL_law 881 = .ok (.iadd, 1) := by decide +kernel
theorem dL_law_882 : decode cL_law 882 = .ok (.iaload, 1) := by decide +kernel
theorem dL_law_883 : decode cL_law 883 = .ok (.invokevirtual 122, 3) := by decide +kernel
theorem dL_law_886 : decode cL_law 886 = .ok (.aload_n 2, 1) := by decide +kernel
theorem dL_law_887 : decode cL_law 887 = .ok (.aload_n 0, 1) := by decide +kernel
theorem dL_law_888 : decode cL_law 888 = .ok (.iload_n 3, 1) := by decide +kernel
theorem dL_law_889 : decode cL_law 889 = .ok (.iconst 1, 1) := by decide +kernel
theorem dL_law_890 : decode cL_law 890 = .ok (.iadd, 1) := by decide +kernel
theorem dL_law_891 : decode cL_law 891 = .ok (.iaload, 1) := by decide +kernel
theorem dL_law_892 : decode cL_law 892 = .ok (.aload_n 0, 1) := by decide +kernel
theorem dL_law_893 : decode cL_law 893 = .ok (.iload_n 3, 1) := by decide +kernel
theorem dL_law_894 : decode cL_law 894 = .ok (.iconst 2, 1) := by decide +kernel
theorem dL_law_895 : decode cL_law 895 = .ok (.iadd, 1) := by decide +kernel
theorem dL_law_896 : decode cL_law 896 = .ok (.iaload, 1) := by decide +kernel
theorem dL_law_897 : decode cL_law 897 = .ok (.invokevirtual 125, 3) := by decide +kernel
theorem dL_law_900 : decode cL_law 900 = .ok (.if_icmp .eq 88, 3) := by decide +kernel
theorem dL_law_903 : decode cL_law 903 = .ok (.iconst 0, 1) := by decide +kernel
theorem dL_law_904 : decode cL_law 904 = .ok (.ireturn, 1) := by decide +kernel
theorem dL_law_905 : decode cL_law 905 = .ok (.aload_n 1, 1) := by decide +kernel
theorem dL_law_906 : decode cL_law 906 = .ok (.aload_n 0, 1) := by decide +kernel
theorem dL_law_907 : decode cL_law 907 = .ok (.iload_n 3, 1) := by decide +kernel
theorem dL_law_908 : decode cL_law 908 = .ok (.iconst 1, 1) := by decide +kernel
theorem dL_law_909 : decode cL_law 909 = .ok (.iadd, 1) := by decide +kernel
theorem dL_law_910 : decode cL_law 910 = .ok (.iaload, 1) := by decide +kernel
theorem dL_law_911 : decode cL_law 911 = .ok (.invokevirtual 126, 3) := by decide +kernel
theorem dL_law_914 : decode cL_law 914 = .ok (.aload_n 2, 1) := by decide +kernel
theorem dL_law_915 : decode cL_law 915 = .ok (.aload_n 0, 1) := by decide +kernel
theorem dL_law_916 : decode cL_law 916 = .ok (.iload_n 3, 1) := by decide +kernel
theorem dL_law_917 : decode cL_law 917 = .ok (.iconst 1, 1) := by decide +kernel
theorem dL_law_918 : decode cL_law 918 = .ok (.iadd, 1) := by decide +kernel
theorem dL_law_919 : decode cL_law 919 = .ok (.iaload, 1) := by decide +kernel
theorem dL_law_920 : decode cL_law 920 = .ok (.invokevirtual 129, 3) := by decide +kernel
theorem dL_law_923 : decode cL_law 923 = .ok (.if_icmp .eq 65, 3) := by decide +kernel
theorem dL_law_926 : decode cL_law 926 = .ok (.iconst 0, 1) := by decide +kernel
theorem dL_law_927 : decode cL_law 927 = .ok (.ireturn, 1) := by decide +kernel
theorem dL_law_928 : decode cL_law 928 = .ok (.aload_n 1, 1) := by decide +kernel
theorem dL_law_929 : decode cL_law 929 = .ok (.aload_n 0, 1) := by decide +kernel
theorem dL_law_930 : decode cL_law 930 = .ok (.iload_n 3, 1) := by decide +kernel
theorem dL_law_931 : decode cL_law 931 = .ok (.iconst 1, 1) := by decide +kernel
theorem dL_law_932 : decode cL_law 932 = .ok (.iadd, 1) := by decide +kernel
theorem dL_law_933 : decode cL_law 933 = .ok (.iaload, 1) := by decide +kernel
theorem dL_law_934 : decode cL_law 934 = .ok (.invokevirtual 130, 3) := by decide +kernel
theorem dL_law_937 : decode cL_law 937 = .ok (.aload_n 2, 1) := by decide +kernel
theorem dL_law_938 : decode cL_law 938 = .ok (.aload_n 0, 1) := by decide +kernel
theorem dL_law_939 : decode cL_law 939 = .ok (.iload_n 3, 1) := by decide +kernel
theorem dL_law_940 : decode cL_law 940 = .ok (.iconst 1, 1) := by decide +kernel
theorem dL_law_941 : decode cL_law 941 = .ok (.iadd, 1) := by decide +kernel
theorem dL_law_942 : decode cL_law 942 = .ok (.iaload, 1) := by decide +kernel
theorem dL_law_943 : decode cL_law 943 = .ok (.invokevirtual 133, 3) := by decide +kernel
theorem dL_law_946 : decode cL_law 946 = .ok (.if_icmp .eq 42, 3) := by decide +kernel
theorem dL_law_949 : decode cL_law 949 = .ok (.iconst 0, 1) := by decide +kernel
theorem dL_law_950 : decode cL_law 950 = .ok (.ireturn, 1) := by decide +kernel
theorem dL_law_951 : decode cL_law 951 = .ok (.aload_n 1, 1) := by decide +kernel
theorem dL_law_952 : decode cL_law 952 = .ok (.aload_n 0, 1) := by decide +kernel
theorem dL_law_953 : decode cL_law 953 = .ok (.iload_n 3, 1) := by decide +kernel
theorem dL_law_954 : decode cL_law 954 = .ok (.iconst 1, 1) := by decide +kernel
theorem dL_law_955 : decode cL_law 955 = .ok (.iadd, 1) := by decide +kernel
theorem dL_law_956 : decode cL_law 956 = .ok (.iaload, 1) := by decide +kernel
theorem dL_law_957 : decode cL_law 957 = .ok (.invokevirtual 134, 3) := by decide +kernel
theorem dL_law_960 : decode cL_law 960 = .ok (.aload_n 2, 1) := by decide +kernel
theorem dL_law_961 : decode cL_law 961 = .ok (.aload_n 0, 1) := by decide +kernel
theorem dL_law_962 : decode cL_law 962 = .ok (.iload_n 3, 1) := by decide +kernel
theorem dL_law_963 : decode cL_law 963 = .ok (.iconst 1, 1) := by decide +kernel
theorem dL_law_964 : decode cL_law 964 = .ok (.iadd, 1) := by decide +kernel
theorem dL_law_965 : decode cL_law 965 = .ok (.iaload, 1) := by decide +kernel
theorem dL_law_966 : decode cL_law 966 = .ok (.invokevirtual 137, 3) := by decide +kernel
theorem dL_law_969 : decode cL_law 969 = .ok (.if_icmp .eq 19, 3) := by decide +kernel
theorem dL_law_972 : decode cL_law 972 = .ok (.iconst 0, 1) := by decide +kernel
theorem dL_law_973 : decode cL_law 973 = .ok (.ireturn, 1) := by decide +kernel
theorem dL_law_974 : decode cL_law 974 = .ok (.aload_n 1, 1) := by decide +kernel
theorem dL_law_975 : decode cL_law 975 = .ok (.invokevirtual 138, 3) := by decide +kernel
theorem dL_law_978 : decode cL_law 978 = .ok (.aload_n 2, 1) := by decide +kernel
theorem dL_law_979 : decode cL_law 979 = .ok (.invokevirtual 142, 3) := by decide +kernel
theorem dL_law_982 : decode cL_law 982 = .ok (.lcmp, 1) := by decide +kernel
theorem dL_law_983 : decode cL_law 983 = .ok (.ifCond .eq 5, 3) := by decide +kernel
theorem dL_law_986 : decode cL_law 986 = .ok (.iconst 0, 1) := by decide +kernel
theorem dL_law_987 : decode cL_law 987 = .ok (.ireturn, 1) := by decide +kernel
theorem dL_law_988 : decode cL_law 988 = .ok (.iinc 3 7, 3) := by decide +kernel
theorem dL_law_991 : decode cL_law 991 = .ok (.goto (-973), 3) := by decide +kernel
theorem dL_law_994 : decode cL_law 994 = .ok (.iconst 1, 1) := by decide +kernel
theorem dL_law_995 : decode cL_law 995 = .ok (.ireturn, 1) := by decide +kernel
