theorem dX7_init_0 : decode cX7_init 0 = .ok (.aload_n 0, 1) := by decide +kernel
theorem dX7_init_1 : decode cX7_init 1 = .ok (.invokespecial 1, 3) := by decide +kernel
theorem dX7_init_4 : decode cX7_init 4 = .ok (.aload_n 0, 1) := by decide +kernel
theorem dX7_init_5 : decode cX7_init 5 = .ok (.new 7, 3) := by decide +kernel
theorem dX7_init_8 : decode cX7_init 8 = .ok (.dup, 1) := by decide +kernel
theorem dX7_init_9 : decode cX7_init 9 = .ok (.invokespecial 9, 3) := by decide +kernel
theorem dX7_init_12 : decode cX7_init 12 = .ok (.putfield 10, 3) := by decide +kernel
theorem dX7_init_15 : decode cX7_init 15 = .ok (.aload_n 0, 1) := by decide +kernel
theorem dX7_init_16 : decode cX7_init 16 = .ok (.new 16, 3) := by decide +kernel
theorem dX7_init_19 : decode cX7_init 19 = .ok (.dup, 1) := by decide +kernel
theorem dX7_init_20 : decode cX7_init 20 = .ok (.aload_n 0, 1) := by decide +kernel
theorem dX7_init_21 : decode cX7_init 21 = .ok (.getfield 10, 3) := by decide +kernel
theorem dX7_init_24 : decode cX7_init 24 = .ok (.invokespecial 18, 3) := by decide +kernel
theorem dX7_init_27 : decode cX7_init 27 = .ok (.putfield 21, 3) := by decide +kernel
theorem dX7_init_30 : decode cX7_init 30 = .ok (.aload_n 0, 1) := by decide +kernel
theorem dX7_init_31 : decode cX7_init 31 = .ok (.new 25, 3) := by decide +kernel
theorem dX7_init_34 : decode cX7_init 34 = .ok (.dup, 1) := by decide +kernel
theorem dX7_init_35 : decode cX7_init 35 = .ok (.aload_n 0, 1) := by decide +kernel
theorem dX7_init_36 : decode cX7_init 36 = .ok (.getfield 10, 3) := by decide +kernel
theorem dX7_init_39 : decode cX7_init 39 = .ok (.aload_n 0, 1) := by decide +kernel
theorem dX7_init_40 : decode cX7_init 40 = .ok (.getfield 21, 3) := by decide +kernel
theorem dX7_init_43 : decode cX7_init 43 = .ok (.invokespecial 27, 3) := by decide +kernel
theorem dX7_init_46 : decode cX7_init 46 = .ok (.putfield 30, 3) := by decide +kernel
theorem dX7_init_49 : decode cX7_init 49 = .ok (.aload_n 0, 1) := by decide +kernel
theorem dX7_init_50 : decode cX7_init 50 = .ok (.new 34, 3) := by decide +kernel
theorem dX7_init_53 : decode cX7_init 53 = .ok (.dup, 1) := by decide +kernel
theorem dX7_init_54 : decode cX7_init 54 = .ok (.aload_n 0, 1) := by decide +kernel
theorem dX7_init_55 : decode cX7_init 55 = .ok (.getfield 10, 3) := by decide +kernel
theorem dX7_init_58 : decode cX7_init 58 = .ok (.aload_n 0, 1) := by decide +kernel
theorem dX7_init_59 : decode cX7_init 59 = .ok (.getfield 30, 3) := by decide +kernel
theorem dX7_init_62 : decode cX7_init 62 = .ok (.invokespecial 36, 3) := by decide +kernel
theorem dX7_init_65 : decode cX7_init 65 = .ok (.putfield 39, 3) := by decide +kernel
theorem dX7_init_68 : decode cX7_init 68 = .ok (.aload_n 0, 1) := by decide +kernel
theorem dX7_init_69 : decode cX7_init 69 = .ok (.new 43, 3) := by decide +kernel
theorem dX7_init_72 : decode cX7_init 72 = .ok (.dup, 1) := by decide +kernel
theorem dX7_init_73 : decode cX7_init 73 = .ok (.aload_n 0, 1) := by decide +kernel
theorem dX7_init_74 : decode cX7_init 74 = .ok (.getfield 30, 3) := by decide +kernel
theorem dX7_init_77 : decode cX7_init 77 = .ok (.invokespecial 45, 3) := by decide +kernel
theorem dX7_init_80 : decode cX7_init 80 = .ok (.putfield 48, 3) := by decide +kernel
theorem dX7_init_83 : decode cX7_init 83 = .ok (.aload_n 0, 1) := by decide +kernel
theorem dX7_init_84 : decode cX7_init 84 = .ok (.new 52, 3) := by decide +kernel
theorem dX7_init_87 : decode cX7_init 87 = .ok (.dup, 1) := by decide +kernel
theorem dX7_init_88 : decode cX7_init 88 = .ok (.aload_n 0, 1) := by decide +kernel
theorem dX7_init_89 : decode cX7_init 89 = .ok (.getfield 10, 3) := by decide +kernel
theorem dX7_init_92 : decode cX7_init 92 = .ok (.aload_n 0, 1) := by decide +kernel
theorem dX7_init_93 : decode cX7_init 93 = .ok (.getfield 30, 3) := by decide +kernel
theorem dX7_init_96 : decode cX7_init 96 = .ok (.invokespecial 54, 3) := by decide +kernel
theorem dX7_init_99 : decode cX7_init 99 = .ok (.putfield 55, 3) := by decide +kernel
theorem dX7_init_102 : decode cX7_init 102 = .ok (.aload_n 0, 1) := by decide +kernel
theorem dX7_init_103 : decode cX7_init 103 = .ok (.new 59, 3) := by decide +kernel
theorem dX7_init_106 : decode cX7_init 106 = .ok (.dup, 1) := by decide +kernel
theorem dX7_init_107 : decode cX7_init 107 = .ok (.invokespecial 61, 3) := by decide +kernel
theorem dX7_init_110 : decode cX7_init 110 = .ok (.putfield 62, 3) := by decide +kernel
theorem dX7_init_113 : decode cX7_init 113 = .ok (.aload_n 0, 1) := by decide +kernel
theorem dX7_init_114 : decode cX7_init 114 = .ok (.sipush 1023, 3) := by decide +kernel
theorem dX7_init_117 : decode cX7_init 117 = .ok (.putfield 66, 3) := by decide +kernel
theorem dX7_init_120 : decode cX7_init 120 = .ok (.aload_n 0, 1) := by decide +kernel
theorem dX7_init_121 : decode cX7_init 121 = .ok (.bipush 20, 2) := by decide +kernel
theorem dX7_init_123 : decode cX7_init 123 = .ok (.putfield 70, 3) := by decide +kernel
theorem dX7_init_126 : decode cX7_init 126 = .ok (.aload_n 0, 1) := by decide +kernel
theorem dX7_init_127 : decode cX7_init 127 = .ok (.iconst 0, 1) := by decide +kernel
theorem dX7_init_128 : decode cX7_init 128 = .ok (.putfield 73, 3) := by decide +kernel
theorem dX7_init_131 : decode cX7_init 131 = .ok (.return_, 1) := by decide +kernel
theorem dX7_record_0 : decode cX7_record 0 = .ok (.iload_n 1, 1) := by decide +kernel
theorem dX7_record_1 : decode cX7_record 1 = .ok (.invokestatic 77, 3) := by decide +kernel
theorem dX7_record_4 : decode cX7_record 4 = .ok (.ifCond .eq 20, 3) := by decide +kernel
theorem dX7_record_7 : decode cX7_record 7 = .ok (.iload_n 2, 1) := by decide +kernel
theorem dX7_record_8 : decode cX7_record 8 = .ok (.invokestatic 81, 3) := by decide +kernel
theorem dX7_record_11 : decode cX7_record 11 = .ok (.ifCond .eq 13, 3) := by decide +kernel
theorem dX7_record_14 : decode cX7_record 14 = .ok (.aload_n 0, 1) := by decide +kernel
theorem dX7_record_15 : decode cX7_record 15 = .ok (.getfield 10, 3) := by decide +kernel
theorem dX7_record_18 : decode cX7_record 18 = .ok (.invokevirtual 84, 3) := by decide +kernel
theorem dX7_record_21 : decode cX7_record 21 = .ok (.ifCond .eq 5, 3) := by decide +kernel
theorem dX7_record_24 : decode cX7_record 24 = .ok (.iconst (-1), 1) := by decide +kernel
theorem dX7_record_25 : decode cX7_record 25 = .ok (.ireturn, 1) := by decide +kernel
theorem dX7_record_26 : decode cX7_record 26 = .ok (.aload_n 0, 1) := by decide +kernel
theorem dX7_record_27 : decode cX7_record 27 = .ok (.getfield 10, 3) := by decide +kernel
theorem dX7_record_30 : decode cX7_record 30 = .ok (.iload_n 1, 1) := by decide +kernel
theorem dX7_record_31 : decode cX7_record 31 = .ok (.iload_n 2, 1) := by decide +kernel
theorem dX7_record_32 : decode cX7_record 32 = .ok (.invokevirtual 88, 3) := by decide +kernel
theorem dX7_record_35 : decode cX7_record 35 = .ok (.ireturn, 1) := by decide +kernel
theorem dX7_tone_0 : decode cX7_tone 0 = .ok (.aload_n 0, 1) := by decide +kernel
theorem dX7_tone_1 : decode cX7_tone 1 = .ok (.getfield 10, 3) := by decide +kernel
theorem dX7_tone_4 : decode cX7_tone 4 = .ok (.iload_n 1, 1) := by decide +kernel
theorem dX7_tone_5 : decode cX7_tone 5 = .ok (.invokevirtual 92, 3) := by decide +kernel
theorem dX7_tone_8 : decode cX7_tone 8 = .ok (.ifCond .eq 21, 3) := by decide +kernel
theorem dX7_tone_11 : decode cX7_tone 11 = .ok (.iload_n 2, 1) := by decide +kernel
theorem dX7_tone_12 : decode cX7_tone 12 = .ok (.invokestatic 95, 3) := by decide +kernel
theorem dX7_tone_15 : decode cX7_tone 15 = .ok (.ifCond .eq 14, 3) := by decide +kernel
theorem dX7_tone_18 : decode cX7_tone 18 = .ok (.iload_n 3, 1) := by decide +kernel
theorem dX7_tone_19 : decode cX7_tone 19 = .ok (.iconst (-1), 1) := by decide +kernel
theorem dX7_tone_20 : decode cX7_tone 20 = .ok (.if_icmp .lt 9, 3) := by decide +kernel
theorem dX7_tone_23 : decode cX7_tone 23 = .ok (.iload_n 3, 1) := by decide +kernel
theorem dX7_tone_24 : decode cX7_tone 24 = .ok (.bipush 99, 2) := by decide +kernel
theorem dX7_tone_26 : decode cX7_tone 26 = .ok (.if_icmp .le 5, 3) := by decide +kernel
theorem dX7_tone_29 : decode cX7_tone 29 = .ok (.iconst 0, 1) := by decide +kernel
theorem dX7_tone_30 : decode cX7_tone 30 = .ok (.ireturn, 1) := by decide +kernel
theorem dX7_tone_31 : decode cX7_tone 31 = .ok (.aload_n 0, 1) := by decide +kernel
theorem dX7_tone_32 : decode cX7_tone 32 = .ok (.getfield 10, 3) := by decide +kernel
theorem dX7_tone_35 : decode cX7_tone 35 = .ok (.iload_n 1, 1) := by decide +kernel
theorem dX7_tone_36 : decode cX7_tone 36 = .ok (.iload_n 2, 1) := by decide +kernel
theorem dX7_tone_37 : decode cX7_tone 37 = .ok (.iload_n 3, 1) := by decide +kernel
theorem dX7_tone_38 : decode cX7_tone 38 = .ok (.invokevirtual 98, 3) := by decide +kernel
theorem dX7_tone_41 : decode cX7_tone 41 = .ok (.aload_n 0, 1) := by decide +kernel
theorem dX7_tone_42 : decode cX7_tone 42 = .ok (.getfield 21, 3) := by decide +kernel
theorem dX7_tone_45 : decode cX7_tone 45 = .ok (.iload_n 2, 1) := by decide +kernel
theorem dX7_tone_46 : decode cX7_tone 46 = .ok (.invokevirtual 102, 3) := by decide +kernel
theorem dX7_tone_49 : decode cX7_tone 49 = .ok (.aload_n 0, 1) := by decide +kernel
theorem dX7_tone_50 : decode cX7_tone 50 = .ok (.iconst 1, 1) := by decide +kernel
theorem dX7_tone_51 : decode cX7_tone 51 = .ok (.putfield 73, 3) := by decide +kernel
theorem dX7_tone_54 : decode cX7_tone 54 = .ok (.iconst 1, 1) := by decide +kernel
theorem dX7_tone_55 : decode cX7_tone 55 = .ok (.ireturn, 1) := by decide +kernel
theorem dX7_know_0 : decode cX7_know 0 = .ok (.aload_n 0, 1) := by decide +kernel
theorem dX7_know_1 : decode cX7_know 1 = .ok (.getfield 10, 3) := by decide +kernel
theorem dX7_know_4 : decode cX7_know 4 = .ok (.iload_n 1, 1) := by decide +kernel
theorem dX7_know_5 : decode cX7_know 5 = .ok (.invokevirtual 92, 3) := by decide +kernel
theorem dX7_know_8 : decode cX7_know 8 = .ok (.ifCond .eq 10, 3) := by decide +kernel
theorem dX7_know_11 : decode cX7_know 11 = .ok (.iload_n 2, 1) := by decide +kernel
theorem dX7_know_12 : decode cX7_know 12 = .ok (.invokestatic 81, 3) := by decide +kernel
theorem dX7_know_15 : decode cX7_know 15 = .ok (.ifCond .ne 5, 3) := by decide +kernel
theorem dX7_know_18 : decode cX7_know 18 = .ok (.iconst 0, 1) := by decide +kernel
theorem dX7_know_19 : decode cX7_know 19 = .ok (.ireturn, 1) := by decide +kernel
theorem dX7_know_20 : decode cX7_know 20 = .ok (.aload_n 0, 1) := by decide +kernel
theorem dX7_know_21 : decode cX7_know 21 = .ok (.getfield 10, 3) := by decide +kernel
theorem dX7_know_24 : decode cX7_know 24 = .ok (.iload_n 1, 1) := by decide +kernel
theorem dX7_know_25 : decode cX7_know 25 = .ok (.iload_n 2, 1) := by decide +kernel
theorem dX7_know_26 : decode cX7_know 26 = .ok (.invokevirtual 106, 3) := by decide +kernel
theorem dX7_know_29 : decode cX7_know 29 = .ok (.aload_n 0, 1) := by decide +kernel
theorem dX7_know_30 : decode cX7_know 30 = .ok (.getfield 21, 3) := by decide +kernel
theorem dX7_know_33 : decode cX7_know 33 = .ok (.invokevirtual 110, 3) := by decide +kernel
theorem dX7_know_36 : decode cX7_know 36 = .ok (.aload_n 0, 1) := by decide +kernel
theorem dX7_know_37 : decode cX7_know 37 = .ok (.iconst 1, 1) := by decide +kernel
theorem dX7_know_38 : decode cX7_know 38 = .ok (.putfield 73, 3) := by decide +kernel
theorem dX7_know_41 : decode cX7_know 41 = .ok (.iconst 1, 1) := by decide +kernel
theorem dX7_know_42 : decode cX7_know 42 = .ok (.ireturn, 1) := by decide +kernel
theorem dX7_set_0 : decode cX7_set 0 = .ok (.iload_n 1, 1) := by decide +kernel
theorem dX7_set_1 : decode cX7_set 1 = .ok (.ifCond .lt 10, 3) := by decide +kernel
theorem dX7_set_4 : decode cX7_set 4 = .ok (.iload_n 1, 1) := by decide +kernel
theorem dX7_set_5 : decode cX7_set 5 = .ok (.sipush 1023, 3) := by decide +kernel
theorem dX7_set_8 : decode cX7_set 8 = .ok (.if_icmp .le 5, 3) := by decide +kernel
theorem dX7_set_11 : decode cX7_set 11 = .ok (.iconst 0, 1) := by decide +kernel
theorem dX7_set_12 : decode cX7_set 12 = .ok (.ireturn, 1) := by decide +kernel
theorem dX7_set_13 : decode cX7_set 13 = .ok (.aload_n 0, 1) := by decide +kernel
theorem dX7_set_14 : decode cX7_set 14 = .ok (.iload_n 1, 1) := by decide +kernel
theorem dX7_set_15 : decode cX7_set 15 = .ok (.putfield 66, 3) := by decide +kernel
theorem dX7_set_18 : decode cX7_set 18 = .ok (.aload_n 0, 1) := by decide +kernel
theorem dX7_set_19 : decode cX7_set 19 = .ok (.iconst 1, 1) := by decide +kernel
theorem dX7_set_20 : decode cX7_set 20 = .ok (.putfield 73, 3) := by decide +kernel
theorem dX7_set_23 : decode cX7_set 23 = .ok (.iconst 1, 1) := by decide +kernel
theorem dX7_set_24 : decode cX7_set 24 = .ok (.ireturn, 1) := by decide +kernel
theorem dX7_limit_0 : decode cX7_limit 0 = .ok (.iload_n 1, 1) := by decide +kernel
theorem dX7_limit_1 : decode cX7_limit 1 = .ok (.ifCond .lt 10, 3) := by decide +kernel
theorem dX7_limit_4 : decode cX7_limit 4 = .ok (.iload_n 1, 1) := by decide +kernel
theorem dX7_limit_5 : decode cX7_limit 5 = .ok (.sipush 200, 3) := by decide +kernel
theorem dX7_limit_8 : decode cX7_limit 8 = .ok (.if_icmp .le 5, 3) := by decide +kernel
theorem dX7_limit_11 : decode cX7_limit 11 = .ok (.iconst 0, 1) := by decide +kernel
theorem dX7_limit_12 : decode cX7_limit 12 = .ok (.ireturn, 1) := by decide +kernel
theorem dX7_limit_13 : decode cX7_limit 13 = .ok (.aload_n 0, 1) := by decide +kernel
theorem dX7_limit_14 : decode cX7_limit 14 = .ok (.iload_n 1, 1) := by decide +kernel
theorem dX7_limit_15 : decode cX7_limit 15 = .ok (.putfield 70, 3) := by decide +kernel
theorem dX7_limit_18 : decode cX7_limit 18 = .ok (.iconst 1, 1) := by decide +kernel
theorem dX7_limit_19 : decode cX7_limit 19 = .ok (.ireturn, 1) := by decide +kernel
theorem dX7_shift_0 : decode cX7_shift 0 = .ok (.iload_n 1, 1) := by decide +kernel
theorem dX7_shift_1 : decode cX7_shift 1 = .ok (.invokestatic 77, 3) := by decide +kernel
theorem dX7_shift_4 : decode cX7_shift 4 = .ok (.ifCond .eq 10, 3) := by decide +kernel
theorem dX7_shift_7 : decode cX7_shift 7 = .ok (.iload_n 2, 1) := by decide +kernel
theorem dX7_shift_8 : decode cX7_shift 8 = .ok (.invokestatic 95, 3) := by decide +kernel
theorem dX7_shift_11 : decode cX7_shift 11 = .ok (.ifCond .ne 6, 3) := by decide +kernel
theorem dX7_shift_14 : decode cX7_shift 14 = .ok (.ldc 113, 2) := by decide +kernel
theorem dX7_shift_16 : decode cX7_shift 16 = .ok (.ireturn, 1) := by decide +kernel
theorem dX7_shift_17 : decode cX7_shift 17 = .ok (.aload_n 0, 1) := by decide +kernel
theorem dX7_shift_18 : decode cX7_shift 18 = .ok (.getfield 21, 3) := by decide +kernel
theorem dX7_shift_21 : decode cX7_shift 21 = .ok (.iload_n 1, 1) := by decide +kernel
theorem dX7_shift_22 : decode cX7_shift 22 = .ok (.iload_n 2, 1) := by decide +kernel
theorem dX7_shift_23 : decode cX7_shift 23 = .ok (.invokevirtual 114, 3) := by decide +kernel
theorem dX7_shift_26 : decode cX7_shift 26 = .ok (.ireturn, 1) := by decide +kernel
theorem dX7_hidden_0 : decode cX7_hidden 0 = .ok (.iload_n 1, 1) := by decide +kernel
theorem dX7_hidden_1 : decode cX7_hidden 1 = .ok (.invokestatic 77, 3) := by decide +kernel
theorem dX7_hidden_4 : decode cX7_hidden 4 = .ok (.ifCond .eq 10, 3) := by decide +kernel
theorem dX7_hidden_7 : decode cX7_hidden 7 = .ok (.iload_n 2, 1) := by decide +kernel
theorem dX7_hidden_8 : decode cX7_hidden 8 = .ok (.invokestatic 95, 3) := by decide +kernel
theorem dX7_hidden_11 : decode cX7_hidden 11 = .ok (.ifCond .ne 5, 3) := by decide +kernel
theorem dX7_hidden_14 : decode cX7_hidden 14 = .ok (.iconst 0, 1) := by decide +kernel
theorem dX7_hidden_15 : decode cX7_hidden 15 = .ok (.ireturn, 1) := by decide +kernel
theorem dX7_hidden_16 : decode cX7_hidden 16 = .ok (.aload_n 0, 1) := by decide +kernel
theorem dX7_hidden_17 : decode cX7_hidden 17 = .ok (.getfield 21, 3) := by decide +kernel
theorem dX7_hidden_20 : decode cX7_hidden 20 = .ok (.iload_n 1, 1) := by decide +kernel
theorem dX7_hidden_21 : decode cX7_hidden 21 = .ok (.iload_n 2, 1) := by decide +kernel
theorem dX7_hidden_22 : decode cX7_hidden 22 = .ok (.invokevirtual 117, 3) := by decide +kernel
theorem dX7_hidden_25 : decode cX7_hidden 25 = .ok (.ireturn, 1) := by decide +kernel
theorem dX7_score_0 : decode cX7_score 0 = .ok (.aload_n 0, 1) := by decide +kernel
theorem dX7_score_1 : decode cX7_score 1 = .ok (.iload_n 1, 1) := by decide +kernel
theorem dX7_score_2 : decode cX7_score 2 = .ok (.iload_n 2, 1) := by decide +kernel
theorem dX7_score_3 : decode cX7_score 3 = .ok (.invokevirtual 121, 3) := by decide +kernel
theorem dX7_score_6 : decode cX7_score 6 = .ok (.ifCond .ne 5, 3) := by decide +kernel
theorem dX7_score_9 : decode cX7_score 9 = .ok (.iconst (-1), 1) := by decide +kernel
theorem dX7_score_10 : decode cX7_score 10 = .ok (.ireturn, 1) := by decide +kernel
theorem dX7_score_11 : decode cX7_score 11 = .ok (.aload_n 0, 1) := by decide +kernel
theorem dX7_score_12 : decode cX7_score 12 = .ok (.getfield 30, 3) := by decide +kernel
theorem dX7_score_15 : decode cX7_score 15 = .ok (.iload_n 1, 1) := by decide +kernel
theorem dX7_score_16 : decode cX7_score 16 = .ok (.iload_n 2, 1) := by decide +kernel
theorem dX7_score_17 : decode cX7_score 17 = .ok (.invokevirtual 124, 3) := by decide +kernel
theorem dX7_score_20 : decode cX7_score 20 = .ok (.ireturn, 1) := by decide +kernel
theorem dX7_band_0 : decode cX7_band 0 = .ok (.iload_n 1, 1) := by decide +kernel
theorem dX7_band_1 : decode cX7_band 1 = .ok (.invokestatic 127, 3) := by decide +kernel
theorem dX7_band_4 : decode cX7_band 4 = .ok (.ifCond .ne 5, 3) := by decide +kernel
theorem dX7_band_7 : decode cX7_band 7 = .ok (.iconst (-1), 1) := by decide +kernel
theorem dX7_band_8 : decode cX7_band 8 = .ok (.ireturn, 1) := by decide +kernel
theorem dX7_band_9 : decode cX7_band 9 = .ok (.iload_n 2, 1) := by decide +kernel
theorem dX7_band_10 : decode cX7_band 10 = .ok (.lookupswitch 44 #[(0, 26), (1, 35)], 26) := by decide +kernel
theorem dX7_band_36 : decode cX7_band 36 = .ok (.aload_n 0, 1) := by decide +kernel
theorem dX7_band_37 : decode cX7_band 37 = .ok (.invokevirtual 130, 3) := by decide +kernel
theorem dX7_band_40 : decode cX7_band 40 = .ok (.iload_n 1, 1) := by decide +kernel
theorem dX7_band_41 : decode cX7_band 41 = .ok (.invokevirtual 134, 3) := by decide +kernel
theorem dX7_band_44 : decode cX7_band 44 = .ok (.ireturn, 1) := by decide +kernel
theorem dX7_band_45 : decode cX7_band 45 = .ok (.aload_n 0, 1) := by decide +kernel
theorem dX7_band_46 : decode cX7_band 46 = .ok (.invokevirtual 130, 3) := by decide +kernel
theorem dX7_band_49 : decode cX7_band 49 = .ok (.iload_n 1, 1) := by decide +kernel
theorem dX7_band_50 : decode cX7_band 50 = .ok (.invokevirtual 138, 3) := by decide +kernel
theorem dX7_band_53 : decode cX7_band 53 = .ok (.ireturn, 1) := by decide +kernel
theorem dX7_band_54 : decode cX7_band 54 = .ok (.iconst (-1), 1) := by decide +kernel
theorem dX7_band_55 : decode cX7_band 55 = .ok (.ireturn, 1) := by decide +kernel
theorem dX7_block_0 : decode cX7_block 0 = .ok (.iload_n 1, 1) := by decide +kernel
theorem dX7_block_1 : decode cX7_block 1 = .ok (.invokestatic 127, 3) := by decide +kernel
theorem dX7_block_4 : decode cX7_block 4 = .ok (.ifCond .ne 5, 3) := by decide +kernel
theorem dX7_block_7 : decode cX7_block 7 = .ok (.iconst (-1), 1) := by decide +kernel
theorem dX7_block_8 : decode cX7_block 8 = .ok (.ireturn, 1) := by decide +kernel
theorem dX7_block_9 : decode cX7_block 9 = .ok (.aload_n 0, 1) := by decide +kernel
theorem dX7_block_10 : decode cX7_block 10 = .ok (.invokevirtual 130, 3) := by decide +kernel
theorem dX7_block_13 : decode cX7_block 13 = .ok (.astore_n 3, 1) := by decide +kernel
theorem dX7_block_14 : decode cX7_block 14 = .ok (.aload_n 3, 1) := by decide +kernel
theorem dX7_block_15 : decode cX7_block 15 = .ok (.iload_n 1, 1) := by decide +kernel
theorem dX7_block_16 : decode cX7_block 16 = .ok (.invokevirtual 141, 3) := by decide +kernel
theorem dX7_block_19 : decode cX7_block 19 = .ok (.istore 4, 2) := by decide +kernel
theorem dX7_block_21 : decode cX7_block 21 = .ok (.iload 4, 2) := by decide +kernel
theorem dX7_block_23 : decode cX7_block 23 = .ok (.iconst (-1), 1) := by decide +kernel
theorem dX7_block_24 : decode cX7_block 24 = .ok (.if_icmp .ne 5, 3) := by decide +kernel
theorem dX7_block_27 : decode cX7_block 27 = .ok (.iconst (-1), 1) := by decide +kernel
theorem dX7_block_28 : decode cX7_block 28 = .ok (.ireturn, 1) := by decide +kernel
theorem dX7_block_29 : decode cX7_block 29 = .ok (.iload_n 2, 1) := by decide +kernel
theorem dX7_block_30 : decode cX7_block 30 = .ok (.lookupswitch 40 #[(0, 26), (1, 33)], 26) := by decide +kernel
theorem dX7_block_56 : decode cX7_block 56 = .ok (.aload_n 3, 1) := by decide +kernel
theorem dX7_block_57 : decode cX7_block 57 = .ok (.iload 4, 2) := by decide +kernel
theorem dX7_block_59 : decode cX7_block 59 = .ok (.invokevirtual 144, 3) := by decide +kernel
theorem dX7_block_62 : decode cX7_block 62 = .ok (.ireturn, 1) := by decide +kernel
theorem dX7_block_63 : decode cX7_block 63 = .ok (.aload_n 3, 1) := by decide +kernel
theorem dX7_block_64 : decode cX7_block 64 = .ok (.iload 4, 2) := by decide +kernel
theorem dX7_block_66 : decode cX7_block 66 = .ok (.invokevirtual 147, 3) := by decide +kernel
theorem dX7_block_69 : decode cX7_block 69 = .ok (.ireturn, 1) := by decide +kernel
theorem dX7_block_70 : decode cX7_block 70 = .ok (.iconst (-1), 1) := by decide +kernel
theorem dX7_block_71 : decode cX7_block 71 = .ok (.ireturn, 1) := by decide +kernel
theorem dX7_odds_0 : decode cX7_odds 0 = .ok (.iload_n 1, 1) := by decide +kernel
theorem dX7_odds_1 : decode cX7_odds 1 = .ok (.ifCond .ge 5, 3) := by decide +kernel
theorem dX7_odds_4 : decode cX7_odds 4 = .ok (.iconst (-1), 1) := by decide +kernel
theorem dX7_odds_5 : decode cX7_odds 5 = .ok (.ireturn, 1) := by decide +kernel
theorem dX7_odds_6 : decode cX7_odds 6 = .ok (.aload_n 0, 1) := by decide +kernel
theorem dX7_odds_7 : decode cX7_odds 7 = .ok (.invokevirtual 130, 3) := by decide +kernel
theorem dX7_odds_10 : decode cX7_odds 10 = .ok (.astore_n 3, 1) := by decide +kernel
theorem dX7_odds_11 : decode cX7_odds 11 = .ok (.aload_n 3, 1) := by decide +kernel
theorem dX7_odds_12 : decode cX7_odds 12 = .ok (.iload_n 1, 1) := by decide +kernel
theorem dX7_odds_13 : decode cX7_odds 13 = .ok (.invokestatic 150, 3) := by decide +kernel
theorem dX7_odds_16 : decode cX7_odds 16 = .ok (.invokevirtual 141, 3) := by decide +kernel
theorem dX7_odds_19 : decode cX7_odds 19 = .ok (.istore 4, 2) := by decide +kernel
theorem dX7_odds_21 : decode cX7_odds 21 = .ok (.iload 4, 2) := by decide +kernel
theorem dX7_odds_23 : decode cX7_odds 23 = .ok (.iconst (-1), 1) := by decide +kernel
theorem dX7_odds_24 : decode cX7_odds 24 = .ok (.if_icmp .ne 5, 3) := by decide +kernel
theorem dX7_odds_27 : decode cX7_odds 27 = .ok (.iconst (-1), 1) := by decide +kernel
theorem dX7_odds_28 : decode cX7_odds 28 = .ok (.ireturn, 1) := by decide +kernel
theorem dX7_odds_29 : decode cX7_odds 29 = .ok (.iload_n 2, 1) := by decide +kernel
theorem dX7_odds_30 : decode cX7_odds 30 = .ok (.tableswitch 73 0 4 #[34, 41, 46, 53, 58], 34) := by decide +kernel
theorem dX7_odds_64 : decode cX7_odds 64 = .ok (.aload_n 3, 1) := by decide +kernel
theorem dX7_odds_65 : decode cX7_odds 65 = .ok (.iload 4, 2) := by decide +kernel
theorem dX7_odds_67 : decode cX7_odds 67 = .ok (.invokevirtual 153, 3) := by decide +kernel
theorem dX7_odds_70 : decode cX7_odds 70 = .ok (.ireturn, 1) := by decide +kernel
theorem dX7_odds_71 : decode cX7_odds 71 = .ok (.aload_n 3, 1) := by decide +kernel
theorem dX7_odds_72 : decode cX7_odds 72 = .ok (.invokevirtual 156, 3) := by decide +kernel
theorem dX7_odds_75 : decode cX7_odds 75 = .ok (.ireturn, 1) := by decide +kernel
theorem dX7_odds_76 : decode cX7_odds 76 = .ok (.aload_n 3, 1) := by decide +kernel
theorem dX7_odds_77 : decode cX7_odds 77 = .ok (.iload 4, 2) := by decide +kernel
theorem dX7_odds_79 : decode cX7_odds 79 = .ok (.invokevirtual 160, 3) := by decide +kernel
theorem dX7_odds_82 : decode cX7_odds 82 = .ok (.ireturn, 1) := by decide +kernel
theorem dX7_odds_83 : decode cX7_odds 83 = .ok (.aload_n 3, 1) := by decide +kernel
theorem dX7_odds_84 : decode cX7_odds 84 = .ok (.invokevirtual 163, 3) := by decide +kernel
theorem dX7_odds_87 : decode cX7_odds 87 = .ok (.ireturn, 1) := by decide +kernel
theorem dX7_odds_88 : decode cX7_odds 88 = .ok (.aload_n 3, 1) := by decide +kernel
theorem dX7_odds_89 : decode cX7_odds 89 = .ok (.iload 4, 2) := by decide +kernel
theorem dX7_odds_91 : decode cX7_odds 91 = .ok (.invokevirtual 166, 3) := by decide +kernel
theorem dX7_odds_94 : decode cX7_odds 94 = .ok (.ifCond .eq 7, 3) := by decide +kernel
theorem dX7_odds_97 : decode cX7_odds 97 = .ok (.iconst 1, 1) := by decide +kernel
theorem dX7_odds_98 : decode cX7_odds 98 = .ok (.goto 4, 3) := by decide +kernel
theorem dX7_odds_101 : decode cX7_odds 101 = .ok (.iconst 0, 1) := by decide +kernel
theorem dX7_odds_102 : decode cX7_odds 102 = .ok (.ireturn, 1) := by decide +kernel
theorem dX7_odds_103 : decode cX7_odds 103 = .ok (.iconst (-1), 1) := by decide +kernel
theorem dX7_odds_104 : decode cX7_odds 104 = .ok (.ireturn, 1) := by decide +kernel
theorem dX7_segment_0 : decode cX7_segment 0 = .ok (.aload_n 0, 1) := by decide +kernel
theorem dX7_segment_1 : decode cX7_segment 1 = .ok (.getfield 10, 3) := by decide +kernel
theorem dX7_segment_4 : decode cX7_segment 4 = .ok (.iload_n 1, 1) := by decide +kernel
theorem dX7_segment_5 : decode cX7_segment 5 = .ok (.invokevirtual 92, 3) := by decide +kernel
theorem dX7_segment_8 : decode cX7_segment 8 = .ok (.ifCond .eq 24, 3) := by decide +kernel
theorem dX7_segment_11 : decode cX7_segment 11 = .ok (.aload_n 0, 1) := by decide +kernel
theorem dX7_segment_12 : decode cX7_segment 12 = .ok (.getfield 48, 3) := by decide +kernel
theorem dX7_segment_15 : decode cX7_segment 15 = .ok (.invokevirtual 169, 3) := by decide +kernel
theorem dX7_segment_18 : decode cX7_segment 18 = .ok (.ifCond .ne 14, 3) := by decide +kernel
theorem dX7_segment_21 : decode cX7_segment 21 = .ok (.aload_n 0, 1) := by decide +kernel
theorem dX7_segment_22 : decode cX7_segment 22 = .ok (.getfield 48, 3) := by decide +kernel
theorem dX7_segment_25 : decode cX7_segment 25 = .ok (.iload_n 1, 1) := by decide +kernel
theorem dX7_segment_26 : decode cX7_segment 26 = .ok (.invokevirtual 170, 3) := by decide +kernel
theorem dX7_segment_29 : decode cX7_segment 29 = .ok (.ifCond .eq 5, 3) := by decide +kernel
theorem dX7_segment_32 : decode cX7_segment 32 = .ok (.iconst (-1), 1) := by decide +kernel
theorem dX7_segment_33 : decode cX7_segment 33 = .ok (.ireturn, 1) := by decide +kernel
theorem dX7_segment_34 : decode cX7_segment 34 = .ok (.aload_n 0, 1) := by decide +kernel
theorem dX7_segment_35 : decode cX7_segment 35 = .ok (.getfield 48, 3) := by decide +kernel
theorem dX7_segment_38 : decode cX7_segment 38 = .ok (.iload_n 1, 1) := by decide +kernel
theorem dX7_segment_39 : decode cX7_segment 39 = .ok (.invokevirtual 173, 3) := by decide +kernel
theorem dX7_segment_42 : decode cX7_segment 42 = .ok (.aload_n 0, 1) := by decide +kernel
theorem dX7_segment_43 : decode cX7_segment 43 = .ok (.getfield 48, 3) := by decide +kernel
theorem dX7_segment_46 : decode cX7_segment 46 = .ok (.invokevirtual 175, 3) := by decide +kernel
theorem dX7_segment_49 : decode cX7_segment 49 = .ok (.ireturn, 1) := by decide +kernel
theorem dX7_clear_0 : decode cX7_clear 0 = .ok (.aload_n 0, 1) := by decide +kernel
theorem dX7_clear_1 : decode cX7_clear 1 = .ok (.getfield 48, 3) := by decide +kernel
theorem dX7_clear_4 : decode cX7_clear 4 = .ok (.invokevirtual 178, 3) := by decide +kernel
theorem dX7_clear_7 : decode cX7_clear 7 = .ok (.ireturn, 1) := by decide +kernel
theorem dX7_voice_0 : decode cX7_voice 0 = .ok (.iload_n 1, 1) := by decide +kernel
theorem dX7_voice_1 : decode cX7_voice 1 = .ok (.ifCond .lt 14, 3) := by decide +kernel
theorem dX7_voice_4 : decode cX7_voice 4 = .ok (.iload_n 1, 1) := by decide +kernel
theorem dX7_voice_5 : decode cX7_voice 5 = .ok (.aload_n 0, 1) := by decide +kernel
theorem dX7_voice_6 : decode cX7_voice 6 = .ok (.getfield 48, 3) := by decide +kernel
theorem dX7_voice_9 : decode cX7_voice 9 = .ok (.invokevirtual 175, 3) := by decide +kernel
theorem dX7_voice_12 : decode cX7_voice 12 = .ok (.if_icmp .lt 5, 3) := by decide +kernel
theorem dX7_voice_15 : decode cX7_voice 15 = .ok (.iconst (-1), 1) := by decide +kernel
theorem dX7_voice_16 : decode cX7_voice 16 = .ok (.ireturn, 1) := by decide +kernel
theorem dX7_voice_17 : decode cX7_voice 17 = .ok (.aload_n 0, 1) := by decide +kernel
theorem dX7_voice_18 : decode cX7_voice 18 = .ok (.getfield 48, 3) := by decide +kernel
theorem dX7_voice_21 : decode cX7_voice 21 = .ok (.aload_n 0, 1) := by decide +kernel
theorem dX7_voice_22 : decode cX7_voice 22 = .ok (.getfield 70, 3) := by decide +kernel
theorem dX7_voice_25 : decode cX7_voice 25 = .ok (.invokevirtual 181, 3) := by decide +kernel
theorem dX7_voice_28 : decode cX7_voice 28 = .ok (.aload_n 0, 1) := by decide +kernel
theorem dX7_voice_29 : decode cX7_voice 29 = .ok (.getfield 48, 3) := by decide +kernel
theorem dX7_voice_32 : decode cX7_voice 32 = .ok (.iload_n 1, 1) := by decide +kernel
theorem dX7_voice_33 : decode cX7_voice 33 = .ok (.invokevirtual 184, 3) := by decide +kernel
theorem dX7_voice_36 : decode cX7_voice 36 = .ok (.ireturn, 1) := by decide +kernel
theorem dX7_voices_0 : decode cX7_voices 0 = .ok (.aload_n 0, 1) := by decide +kernel
theorem dX7_voices_1 : decode cX7_voices 1 = .ok (.getfield 48, 3) := by decide +kernel
theorem dX7_voices_4 : decode cX7_voices 4 = .ok (.aload_n 0, 1) := by decide +kernel
theorem dX7_voices_5 : decode cX7_voices 5 = .ok (.getfield 70, 3) := by decide +kernel
theorem dX7_voices_8 : decode cX7_voices 8 = .ok (.invokevirtual 181, 3) := by decide +kernel
theorem dX7_voices_11 : decode cX7_voices 11 = .ok (.aload_n 0, 1) := by decide +kernel
theorem dX7_voices_12 : decode cX7_voices 12 = .ok (.getfield 48, 3) := by decide +kernel
theorem dX7_voices_15 : decode cX7_voices 15 = .ok (.invokevirtual 187, 3) := by decide +kernel
theorem dX7_voices_18 : decode cX7_voices 18 = .ok (.ireturn, 1) := by decide +kernel
theorem dX7_spare_0 : decode cX7_spare 0 = .ok (.aload_n 0, 1) := by decide +kernel
theorem dX7_spare_1 : decode cX7_spare 1 = .ok (.getfield 48, 3) := by decide +kernel
theorem dX7_spare_4 : decode cX7_spare 4 = .ok (.aload_n 0, 1) := by decide +kernel
theorem dX7_spare_5 : decode cX7_spare 5 = .ok (.getfield 70, 3) := by decide +kernel
theorem dX7_spare_8 : decode cX7_spare 8 = .ok (.invokevirtual 190, 3) := by decide +kernel
theorem dX7_spare_11 : decode cX7_spare 11 = .ok (.ireturn, 1) := by decide +kernel
theorem dX7_lined_0 : decode cX7_lined 0 = .ok (.aload_n 0, 1) := by decide +kernel
theorem dX7_lined_1 : decode cX7_lined 1 = .ok (.getfield 10, 3) := by decide +kernel
theorem dX7_lined_4 : decode cX7_lined 4 = .ok (.iload_n 1, 1) := by decide +kernel
theorem dX7_lined_5 : decode cX7_lined 5 = .ok (.invokevirtual 92, 3) := by decide +kernel
theorem dX7_lined_8 : decode cX7_lined 8 = .ok (.ifCond .ne 5, 3) := by decide +kernel
theorem dX7_lined_11 : decode cX7_lined 11 = .ok (.iconst (-1), 1) := by decide +kernel
theorem dX7_lined_12 : decode cX7_lined 12 = .ok (.ireturn, 1) := by decide +kernel
theorem dX7_lined_13 : decode cX7_lined 13 = .ok (.aload_n 0, 1) := by decide +kernel
theorem dX7_lined_14 : decode cX7_lined 14 = .ok (.getfield 55, 3) := by decide +kernel
theorem dX7_lined_17 : decode cX7_lined 17 = .ok (.iload_n 1, 1) := by decide +kernel
theorem dX7_lined_18 : decode cX7_lined 18 = .ok (.aload_n 0, 1) := by decide +kernel
theorem dX7_lined_19 : decode cX7_lined 19 = .ok (.getfield 66, 3) := by decide +kernel
theorem dX7_lined_22 : decode cX7_lined 22 = .ok (.invokevirtual 193, 3) := by decide +kernel
theorem dX7_lined_25 : decode cX7_lined 25 = .ok (.aload_n 0, 1) := by decide +kernel
theorem dX7_lined_26 : decode cX7_lined 26 = .ok (.getfield 55, 3) := by decide +kernel
theorem dX7_lined_29 : decode cX7_lined 29 = .ok (.iload_n 2, 1) := by decide +kernel
theorem dX7_lined_30 : decode cX7_lined 30 = .ok (.invokevirtual 196, 3) := by decide +kernel
theorem dX7_lined_33 : decode cX7_lined 33 = .ok (.ireturn, 1) := by decide +kernel
theorem dX7_rank_0 : decode cX7_rank 0 = .ok (.aload_n 0, 1) := by decide +kernel
theorem dX7_rank_1 : decode cX7_rank 1 = .ok (.getfield 10, 3) := by decide +kernel
theorem dX7_rank_4 : decode cX7_rank 4 = .ok (.iload_n 1, 1) := by decide +kernel
theorem dX7_rank_5 : decode cX7_rank 5 = .ok (.invokevirtual 92, 3) := by decide +kernel
theorem dX7_rank_8 : decode cX7_rank 8 = .ok (.ifCond .eq 10, 3) := by decide +kernel
theorem dX7_rank_11 : decode cX7_rank 11 = .ok (.iload_n 2, 1) := by decide +kernel
theorem dX7_rank_12 : decode cX7_rank 12 = .ok (.invokestatic 198, 3) := by decide +kernel
theorem dX7_rank_15 : decode cX7_rank 15 = .ok (.ifCond .ne 5, 3) := by decide +kernel
theorem dX7_rank_18 : decode cX7_rank 18 = .ok (.iconst (-1), 1) := by decide +kernel
theorem dX7_rank_19 : decode cX7_rank 19 = .ok (.ireturn, 1) := by decide +kernel
theorem dX7_rank_20 : decode cX7_rank 20 = .ok (.aload_n 0, 1) := by decide +kernel
theorem dX7_rank_21 : decode cX7_rank 21 = .ok (.getfield 55, 3) := by decide +kernel
theorem dX7_rank_24 : decode cX7_rank 24 = .ok (.iload_n 1, 1) := by decide +kernel
theorem dX7_rank_25 : decode cX7_rank 25 = .ok (.aload_n 0, 1) := by decide +kernel
theorem dX7_rank_26 : decode cX7_rank 26 = .ok (.getfield 66, 3) := by decide +kernel
theorem dX7_rank_29 : decode cX7_rank 29 = .ok (.invokevirtual 193, 3) := by decide +kernel
theorem dX7_rank_32 : decode cX7_rank 32 = .ok (.aload_n 0, 1) := by decide +kernel
theorem dX7_rank_33 : decode cX7_rank 33 = .ok (.getfield 55, 3) := by decide +kernel
theorem dX7_rank_36 : decode cX7_rank 36 = .ok (.iload_n 2, 1) := by decide +kernel
theorem dX7_rank_37 : decode cX7_rank 37 = .ok (.invokevirtual 201, 3) := by decide +kernel
theorem dX7_rank_40 : decode cX7_rank 40 = .ok (.ireturn, 1) := by decide +kernel
theorem dX7_test_0 : decode cX7_test 0 = .ok (.aload_n 0, 1) := by decide +kernel
theorem dX7_test_1 : decode cX7_test 1 = .ok (.iload_n 1, 1) := by decide +kernel
theorem dX7_test_2 : decode cX7_test 2 = .ok (.iload_n 2, 1) := by decide +kernel
theorem dX7_test_3 : decode cX7_test 3 = .ok (.invokevirtual 121, 3) := by decide +kernel
theorem dX7_test_6 : decode cX7_test 6 = .ok (.ifCond .eq 35, 3) := by decide +kernel
theorem dX7_test_9 : decode cX7_test 9 = .ok (.aload_n 0, 1) := by decide +kernel
theorem dX7_test_10 : decode cX7_test 10 = .ok (.getfield 10, 3) := by decide +kernel
theorem dX7_test_13 : decode cX7_test 13 = .ok (.iload_n 1, 1) := by decide +kernel
theorem dX7_test_14 : decode cX7_test 14 = .ok (.invokevirtual 204, 3) := by decide +kernel
theorem dX7_test_17 : decode cX7_test 17 = .ok (.ifCond .eq 24, 3) := by decide +kernel
theorem dX7_test_20 : decode cX7_test 20 = .ok (.aload_n 0, 1) := by decide +kernel
theorem dX7_test_21 : decode cX7_test 21 = .ok (.getfield 10, 3) := by decide +kernel
theorem dX7_test_24 : decode cX7_test 24 = .ok (.iload_n 2, 1) := by decide +kernel
theorem dX7_test_25 : decode cX7_test 25 = .ok (.invokevirtual 204, 3) := by decide +kernel
theorem dX7_test_28 : decode cX7_test 28 = .ok (.ifCond .eq 13, 3) := by decide +kernel
theorem dX7_test_31 : decode cX7_test 31 = .ok (.aload_n 0, 1) := by decide +kernel
theorem dX7_test_32 : decode cX7_test 32 = .ok (.getfield 62, 3) := by decide +kernel
theorem dX7_test_35 : decode cX7_test 35 = .ok (.invokevirtual 207, 3) := by decide +kernel
theorem dX7_test_38 : decode cX7_test 38 = .ok (.ifCond .eq 5, 3) := by decide +kernel
theorem dX7_test_41 : decode cX7_test 41 = .ok (.iconst (-1), 1) := by decide +kernel
theorem dX7_test_42 : decode cX7_test 42 = .ok (.ireturn, 1) := by decide +kernel
theorem dX7_test_43 : decode cX7_test 43 = .ok (.aload_n 0, 1) := by decide +kernel
theorem dX7_test_44 : decode cX7_test 44 = .ok (.getfield 10, 3) := by decide +kernel
theorem dX7_test_47 : decode cX7_test 47 = .ok (.iload_n 1, 1) := by decide +kernel
theorem dX7_test_48 : decode cX7_test 48 = .ok (.invokevirtual 210, 3) := by decide +kernel
theorem dX7_test_51 : decode cX7_test 51 = .ok (.aload_n 0, 1) := by decide +kernel
theorem dX7_test_52 : decode cX7_test 52 = .ok (.getfield 10, 3) := by decide +kernel
theorem dX7_test_55 : decode cX7_test 55 = .ok (.iload_n 2, 1) := by decide +kernel
theorem dX7_test_56 : decode cX7_test 56 = .ok (.invokevirtual 210, 3) := by decide +kernel
theorem dX7_test_59 : decode cX7_test 59 = .ok (.if_icmp .ne 7, 3) := by decide +kernel
theorem dX7_test_62 : decode cX7_test 62 = .ok (.iconst 1, 1) := by decide +kernel
theorem dX7_test_63 : decode cX7_test 63 = .ok (.goto 4, 3) := by decide +kernel
theorem dX7_test_66 : decode cX7_test 66 = .ok (.iconst 0, 1) := by decide +kernel
theorem dX7_test_67 : decode cX7_test 67 = .ok (.istore_n 3, 1) := by decide +kernel
theorem dX7_test_68 : decode cX7_test 68 = .ok (.aload_n 0, 1) := by decide +kernel
theorem dX7_test_69 : decode cX7_test 69 = .ok (.getfield 62, 3) := by decide +kernel
theorem dX7_test_72 : decode cX7_test 72 = .ok (.aload_n 0, 1) := by decide +kernel
theorem dX7_test_73 : decode cX7_test 73 = .ok (.getfield 30, 3) := by decide +kernel
theorem dX7_test_76 : decode cX7_test 76 = .ok (.iload_n 1, 1) := by decide +kernel
theorem dX7_test_77 : decode cX7_test 77 = .ok (.iload_n 2, 1) := by decide +kernel
theorem dX7_test_78 : decode cX7_test 78 = .ok (.invokevirtual 124, 3) := by decide +kernel
theorem dX7_test_81 : decode cX7_test 81 = .ok (.aload_n 0, 1) := by decide +kernel
theorem dX7_test_82 : decode cX7_test 82 = .ok (.getfield 70, 3) := by decide +kernel
theorem dX7_test_85 : decode cX7_test 85 = .ok (.iload_n 3, 1) := by decide +kernel
theorem dX7_test_86 : decode cX7_test 86 = .ok (.invokevirtual 213, 3) := by decide +kernel
theorem dX7_test_89 : decode cX7_test 89 = .ok (.ireturn, 1) := by decide +kernel
theorem dX7_right_0 : decode cX7_right 0 = .ok (.iload_n 1, 1) := by decide +kernel
theorem dX7_right_1 : decode cX7_right 1 = .ok (.ifCond .lt 8, 3) := by decide +kernel
theorem dX7_right_4 : decode cX7_right 4 = .ok (.iload_n 1, 1) := by decide +kernel
theorem dX7_right_5 : decode cX7_right 5 = .ok (.iconst 5, 1) := by decide +kernel
theorem dX7_right_6 : decode cX7_right 6 = .ok (.if_icmp .lt 5, 3) := by decide +kernel
theorem dX7_right_9 : decode cX7_right 9 = .ok (.iconst (-1), 1) := by decide +kernel
theorem dX7_right_10 : decode cX7_right 10 = .ok (.ireturn, 1) := by decide +kernel
theorem dX7_right_11 : decode cX7_right 11 = .ok (.aload_n 0, 1) := by decide +kernel
theorem dX7_right_12 : decode cX7_right 12 = .ok (.getfield 62, 3) := by decide +kernel
theorem dX7_right_15 : decode cX7_right 15 = .ok (.iload_n 1, 1) := by decide +kernel
theorem dX7_right_16 : decode cX7_right 16 = .ok (.invokevirtual 217, 3) := by decide +kernel
theorem dX7_right_19 : decode cX7_right 19 = .ok (.ireturn, 1) := by decide +kernel
theorem dX7_told_0 : decode cX7_told 0 = .ok (.aload_n 0, 1) := by decide +kernel
theorem dX7_told_1 : decode cX7_told 1 = .ok (.getfield 10, 3) := by decide +kernel
theorem dX7_told_4 : decode cX7_told 4 = .ok (.iload_n 1, 1) := by decide +kernel
theorem dX7_told_5 : decode cX7_told 5 = .ok (.invokevirtual 92, 3) := by decide +kernel
theorem dX7_told_8 : decode cX7_told 8 = .ok (.ifCond .ne 5, 3) := by decide +kernel
theorem dX7_told_11 : decode cX7_told 11 = .ok (.iconst (-1), 1) := by decide +kernel
theorem dX7_told_12 : decode cX7_told 12 = .ok (.ireturn, 1) := by decide +kernel
theorem dX7_told_13 : decode cX7_told 13 = .ok (.iload_n 2, 1) := by decide +kernel
theorem dX7_told_14 : decode cX7_told 14 = .ok (.tableswitch 53 0 2 #[26, 35, 44], 26) := by decide +kernel
theorem dX7_told_40 : decode cX7_told 40 = .ok (.aload_n 0, 1) := by decide +kernel
theorem dX7_told_41 : decode cX7_told 41 = .ok (.getfield 10, 3) := by decide +kernel
theorem dX7_told_44 : decode cX7_told 44 = .ok (.iload_n 1, 1) := by decide +kernel
theorem dX7_told_45 : decode cX7_told 45 = .ok (.invokevirtual 220, 3) := by decide +kernel
theorem dX7_told_48 : decode cX7_told 48 = .ok (.ireturn, 1) := by decide +kernel
theorem dX7_told_49 : decode cX7_told 49 = .ok (.aload_n 0, 1) := by decide +kernel
theorem dX7_told_50 : decode cX7_told 50 = .ok (.getfield 10, 3) := by decide +kernel
theorem dX7_told_53 : decode cX7_told 53 = .ok (.iload_n 1, 1) := by decide +kernel
theorem dX7_told_54 : decode cX7_told 54 = .ok (.invokevirtual 210, 3) := by decide +kernel
theorem dX7_told_57 : decode cX7_told 57 = .ok (.ireturn, 1) := by decide +kernel
theorem dX7_told_58 : decode cX7_told 58 = .ok (.aload_n 0, 1) := by decide +kernel
theorem dX7_told_59 : decode cX7_told 59 = .ok (.getfield 10, 3) := by decide +kernel
theorem dX7_told_62 : decode cX7_told 62 = .ok (.iload_n 1, 1) := by decide +kernel
theorem dX7_told_63 : decode cX7_told 63 = .ok (.invokevirtual 223, 3) := by decide +kernel
theorem dX7_told_66 : decode cX7_told 66 = .ok (.ireturn, 1) := by decide +kernel
theorem dX7_told_67 : decode cX7_told 67 = .ok (.aload_n 0, 1) := by decide +kernel
theorem dX7_told_68 : decode cX7_told 68 = .ok (.iload_n 1, 1) := by decide +kernel
theorem dX7_told_69 : decode cX7_told 69 = .ok (.iload_n 2, 1) := by decide +kernel
theorem dX7_told_70 : decode cX7_told 70 = .ok (.invokevirtual 226, 3) := by decide +kernel
theorem dX7_told_73 : decode cX7_told 73 = .ok (.ireturn, 1) := by decide +kernel
theorem dX7_count_0 : decode cX7_count 0 = .ok (.iload_n 1, 1) := by decide +kernel
theorem dX7_count_1 : decode cX7_count 1 = .ok (.tableswitch 93 0 6 #[43, 51, 59, 67, 75, 83, 88], 43) := by decide +kernel
theorem dX7_count_44 : decode cX7_count 44 = .ok (.aload_n 0, 1) := by decide +kernel
theorem dX7_count_45 : decode cX7_count 45 = .ok (.getfield 10, 3) := by decide +kernel
theorem dX7_count_48 : decode cX7_count 48 = .ok (.invokevirtual 229, 3) := by decide +kernel
theorem dX7_count_51 : decode cX7_count 51 = .ok (.ireturn, 1) := by decide +kernel
theorem dX7_count_52 : decode cX7_count 52 = .ok (.aload_n 0, 1) := by decide +kernel
theorem dX7_count_53 : decode cX7_count 53 = .ok (.invokevirtual 130, 3) := by decide +kernel
theorem dX7_count_56 : decode cX7_count 56 = .ok (.invokevirtual 156, 3) := by decide +kernel
theorem dX7_count_59 : decode cX7_count 59 = .ok (.ireturn, 1) := by decide +kernel
theorem dX7_count_60 : decode cX7_count 60 = .ok (.aload_n 0, 1) := by decide +kernel
theorem dX7_count_61 : decode cX7_count 61 = .ok (.invokevirtual 130, 3) := by decide +kernel
theorem dX7_count_64 : decode cX7_count 64 = .ok (.invokevirtual 163, 3) := by decide +kernel
theorem dX7_count_67 : decode cX7_count 67 = .ok (.ireturn, 1) := by decide +kernel
theorem dX7_count_68 : decode cX7_count 68 = .ok (.aload_n 0, 1) := by decide +kernel
theorem dX7_count_69 : decode cX7_count 69 = .ok (.invokevirtual 130, 3) := by decide +kernel
theorem dX7_count_72 : decode cX7_count 72 = .ok (.invokevirtual 230, 3) := by decide +kernel
theorem dX7_count_75 : decode cX7_count 75 = .ok (.ireturn, 1) := by decide +kernel
theorem dX7_count_76 : decode cX7_count 76 = .ok (.aload_n 0, 1) := by decide +kernel
theorem dX7_count_77 : decode cX7_count 77 = .ok (.getfield 48, 3) := by decide +kernel
theorem dX7_count_80 : decode cX7_count 80 = .ok (.invokevirtual 175, 3) := by decide +kernel
theorem dX7_count_83 : decode cX7_count 83 = .ok (.ireturn, 1) := by decide +kernel
theorem dX7_count_84 : decode cX7_count 84 = .ok (.aload_n 0, 1) := by decide +kernel
theorem dX7_count_85 : decode cX7_count 85 = .ok (.getfield 70, 3) := by decide +kernel
theorem dX7_count_88 : decode cX7_count 88 = .ok (.ireturn, 1) := by decide +kernel
theorem dX7_count_89 : decode cX7_count 89 = .ok (.aload_n 0, 1) := by decide +kernel
theorem dX7_count_90 : decode cX7_count 90 = .ok (.getfield 66, 3) := by decide +kernel
theorem dX7_count_93 : decode cX7_count 93 = .ok (.ireturn, 1) := by decide +kernel
theorem dX7_count_94 : decode cX7_count 94 = .ok (.iconst (-1), 1) := by decide +kernel
theorem dX7_count_95 : decode cX7_count 95 = .ok (.ireturn, 1) := by decide +kernel
theorem dX7_toneTold_0 : decode cX7_toneTold 0 = .ok (.iload_n 2, 1) := by decide +kernel
theorem dX7_toneTold_1 : decode cX7_toneTold 1 = .ok (.bipush 10, 2) := by decide +kernel
theorem dX7_toneTold_3 : decode cX7_toneTold 3 = .ok (.if_icmp .lt 9, 3) := by decide +kernel
theorem dX7_toneTold_6 : decode cX7_toneTold 6 = .ok (.iload_n 2, 1) := by decide +kernel
theorem dX7_toneTold_7 : decode cX7_toneTold 7 = .ok (.bipush 16, 2) := by decide +kernel
theorem dX7_toneTold_9 : decode cX7_toneTold 9 = .ok (.if_icmp .lt 5, 3) := by decide +kernel
theorem dX7_toneTold_12 : decode cX7_toneTold 12 = .ok (.iconst (-1), 1) := by decide +kernel
theorem dX7_toneTold_13 : decode cX7_toneTold 13 = .ok (.ireturn, 1) := by decide +kernel
theorem dX7_toneTold_14 : decode cX7_toneTold 14 = .ok (.aload_n 0, 1) := by decide +kernel
theorem dX7_toneTold_15 : decode cX7_toneTold 15 = .ok (.getfield 10, 3) := by decide +kernel
theorem dX7_toneTold_18 : decode cX7_toneTold 18 = .ok (.iload_n 1, 1) := by decide +kernel
theorem dX7_toneTold_19 : decode cX7_toneTold 19 = .ok (.iload_n 2, 1) := by decide +kernel
theorem dX7_toneTold_20 : decode cX7_toneTold 20 = .ok (.bipush 10, 2) := by decide +kernel
theorem dX7_toneTold_22 : decode cX7_toneTold 22 = .ok (.isub, 1) := by decide +kernel
theorem dX7_toneTold_23 : decode cX7_toneTold 23 = .ok (.invokevirtual 233, 3) := by decide +kernel
theorem dX7_toneTold_26 : decode cX7_toneTold 26 = .ok (.ireturn, 1) := by decide +kernel
theorem dX7_freshPairs_0 : decode cX7_freshPairs 0 = .ok (.aload_n 0, 1) := by decide +kernel
theorem dX7_freshPairs_1 : decode cX7_freshPairs 1 = .ok (.getfield 73, 3) := by decide +kernel
theorem dX7_freshPairs_4 : decode cX7_freshPairs 4 = .ok (.ifCond .eq 19, 3) := by decide +kernel
theorem dX7_freshPairs_7 : decode cX7_freshPairs 7 = .ok (.aload_n 0, 1) := by decide +kernel
theorem dX7_freshPairs_8 : decode cX7_freshPairs 8 = .ok (.getfield 39, 3) := by decide +kernel
theorem dX7_freshPairs_11 : decode cX7_freshPairs 11 = .ok (.aload_n 0, 1) := by decide +kernel
theorem dX7_freshPairs_12 : decode cX7_freshPairs 12 = .ok (.getfield 66, 3) := by decide +kernel
theorem dX7_freshPairs_15 : decode cX7_freshPairs 15 = .ok (.invokevirtual 236, 3) := by decide +kernel
theorem dX7_freshPairs_18 : decode cX7_freshPairs 18 = .ok (.aload_n 0, 1) := by decide +kernel
theorem dX7_freshPairs_19 : decode cX7_freshPairs 19 = .ok (.iconst 0, 1) := by decide +kernel
theorem dX7_freshPairs_20 : decode cX7_freshPairs 20 = .ok (.putfield 73, 3) := by decide +kernel
theorem dX7_freshPairs_23 : decode cX7_freshPairs 23 = .ok (.aload_n 0, 1) := by decide +kernel
theorem dX7_freshPairs_24 : decode cX7_freshPairs 24 = .ok (.getfield 39, 3) := by decide +kernel
theorem dX7_freshPairs_27 : decode cX7_freshPairs 27 = .ok (.areturn, 1) := by decide +kernel
theorem dX7_areTwo_0 : decode cX7_areTwo 0 = .ok (.iload_n 1, 1) := by decide +kernel
theorem dX7_areTwo_1 : decode cX7_areTwo 1 = .ok (.iload_n 2, 1) := by decide +kernel
theorem dX7_areTwo_2 : decode cX7_areTwo 2 = .ok (.if_icmp .eq 29, 3) := by decide +kernel
theorem dX7_areTwo_5 : decode cX7_areTwo 5 = .ok (.aload_n 0, 1) := by decide +kernel
theorem dX7_areTwo_6 : decode cX7_areTwo 6 = .ok (.getfield 10, 3) := by decide +kernel
theorem dX7_areTwo_9 : decode cX7_areTwo 9 = .ok (.iload_n 1, 1) := by decide +kernel
theorem dX7_areTwo_10 : decode cX7_areTwo 10 = .ok (.invokevirtual 92, 3) := by decide +kernel
theorem dX7_areTwo_13 : decode cX7_areTwo 13 = .ok (.ifCond .eq 18, 3) := by decide +kernel
theorem dX7_areTwo_16 : decode cX7_areTwo 16 = .ok (.aload_n 0, 1) := by decide +kernel
theorem dX7_areTwo_17 : decode cX7_areTwo 17 = .ok (.getfield 10, 3) := by decide +kernel
theorem dX7_areTwo_20 : decode cX7_areTwo 20 = .ok (.iload_n 2, 1) := by decide +kernel
theorem dX7_areTwo_21 : decode cX7_areTwo 21 = .ok (.invokevirtual 92, 3) := by decide +kernel
theorem dX7_areTwo_24 : decode cX7_areTwo 24 = .ok (.ifCond .eq 7, 3) := by decide +kernel
theorem dX7_areTwo_27 : decode cX7_areTwo 27 = .ok (.iconst 1, 1) := by decide +kernel
theorem dX7_areTwo_28 : decode cX7_areTwo 28 = .ok (.goto 4, 3) := by decide +kernel
theorem dX7_areTwo_31 : decode cX7_areTwo 31 = .ok (.iconst 0, 1) := by decide +kernel
theorem dX7_areTwo_32 : decode cX7_areTwo 32 = .ok (.ireturn, 1) := by decide +kernel
theorem dX7_isChannel_0 : decode cX7_isChannel 0 = .ok (.iload_n 0, 1) := by decide +kernel
theorem dX7_isChannel_1 : decode cX7_isChannel 1 = .ok (.ifCond .lt 12, 3) := by decide +kernel
theorem dX7_isChannel_4 : decode cX7_isChannel 4 = .ok (.iload_n 0, 1) := by decide +kernel
theorem dX7_isChannel_5 : decode cX7_isChannel 5 = .ok (.iconst 4, 1) := by decide +kernel
theorem dX7_isChannel_6 : decode cX7_isChannel 6 = .ok (.if_icmp .ge 7, 3) := by decide +kernel
theorem dX7_isChannel_9 : decode cX7_isChannel 9 = .ok (.iconst 1, 1) := by decide +kernel
theorem dX7_isChannel_10 : decode cX7_isChannel 10 = .ok (.goto 4, 3) := by decide +kernel
theorem dX7_isChannel_13 : decode cX7_isChannel 13 = .ok (.iconst 0, 1) := by decide +kernel
theorem dX7_isChannel_14 : decode cX7_isChannel 14 = .ok (.ireturn, 1) := by decide +kernel
theorem dX7_isPlace_0 : decode cX7_isPlace 0 = .ok (.iload_n 0, 1) := by decide +kernel
theorem dX7_isPlace_1 : decode cX7_isPlace 1 = .ok (.ifCond .lt 13, 3) := by decide +kernel
theorem dX7_isPlace_4 : decode cX7_isPlace 4 = .ok (.iload_n 0, 1) := by decide +kernel
theorem dX7_isPlace_5 : decode cX7_isPlace 5 = .ok (.bipush 6, 2) := by decide +kernel
theorem dX7_isPlace_7 : decode cX7_isPlace 7 = .ok (.if_icmp .ge 7, 3) := by decide +kernel
theorem dX7_isPlace_10 : decode cX7_isPlace 10 = .ok (.iconst 1, 1) := by decide +kernel
theorem dX7_isPlace_11 : decode cX7_isPlace 11 = .ok (.goto 4, 3) := by decide +kernel
theorem dX7_isPlace_14 : decode cX7_isPlace 14 = .ok (.iconst 0, 1) := by decide +kernel
theorem dX7_isPlace_15 : decode cX7_isPlace 15 = .ok (.ireturn, 1) := by decide +kernel
theorem dX7_isSpeaker_0 : decode cX7_isSpeaker 0 = .ok (.iload_n 0, 1) := by decide +kernel
theorem dX7_isSpeaker_1 : decode cX7_isSpeaker 1 = .ok (.ifCond .lt 13, 3) := by decide +kernel
theorem dX7_isSpeaker_4 : decode cX7_isSpeaker 4 = .ok (.iload_n 0, 1) := by decide +kernel
theorem dX7_isSpeaker_5 : decode cX7_isSpeaker 5 = .ok (.bipush 10, 2) := by decide +kernel
theorem dX7_isSpeaker_7 : decode cX7_isSpeaker 7 = .ok (.if_icmp .ge 7, 3) := by decide +kernel
theorem dX7_isSpeaker_10 : decode cX7_isSpeaker 10 = .ok (.iconst 1, 1) := by decide +kernel
theorem dX7_isSpeaker_11 : decode cX7_isSpeaker 11 = .ok (.goto 4, 3) := by decide +kernel
theorem dX7_isSpeaker_14 : decode cX7_isSpeaker 14 = .ok (.iconst 0, 1) := by decide +kernel
theorem dX7_isSpeaker_15 : decode cX7_isSpeaker 15 = .ok (.ireturn, 1) := by decide +kernel
theorem dX7_isSpeakerOrNobody_0 : decode cX7_isSpeakerOrNobody 0 = .ok (.iload_n 0, 1) := by decide +kernel
theorem dX7_isSpeakerOrNobody_1 : decode cX7_isSpeakerOrNobody 1 = .ok (.iconst (-1), 1) := by decide +kernel
theorem dX7_isSpeakerOrNobody_2 : decode cX7_isSpeakerOrNobody 2 = .ok (.if_icmp .eq 10, 3) := by decide +kernel
theorem dX7_isSpeakerOrNobody_5 : decode cX7_isSpeakerOrNobody 5 = .ok (.iload_n 0, 1) := by decide +kernel
theorem dX7_isSpeakerOrNobody_6 : decode cX7_isSpeakerOrNobody 6 = .ok (.invokestatic 198, 3) := by decide +kernel
theorem dX7_isSpeakerOrNobody_9 : decode cX7_isSpeakerOrNobody 9 = .ok (.ifCond .eq 7, 3) := by decide +kernel
theorem dX7_isSpeakerOrNobody_12 : decode cX7_isSpeakerOrNobody 12 = .ok (.iconst 1, 1) := by decide +kernel
theorem dX7_isSpeakerOrNobody_13 : decode cX7_isSpeakerOrNobody 13 = .ok (.goto 4, 3) := by decide +kernel
theorem dX7_isSpeakerOrNobody_16 : decode cX7_isSpeakerOrNobody 16 = .ok (.iconst 0, 1) := by decide +kernel
theorem dX7_isSpeakerOrNobody_17 : decode cX7_isSpeakerOrNobody 17 = .ok (.ireturn, 1) := by decide +kernel
theorem dX7_isBand_0 : decode cX7_isBand 0 = .ok (.iload_n 0, 1) := by decide +kernel
theorem dX7_isBand_1 : decode cX7_isBand 1 = .ok (.ifCond .lt 13, 3) := by decide +kernel
theorem dX7_isBand_4 : decode cX7_isBand 4 = .ok (.iload_n 0, 1) := by decide +kernel
theorem dX7_isBand_5 : decode cX7_isBand 5 = .ok (.bipush 10, 2) := by decide +kernel
theorem dX7_isBand_7 : decode cX7_isBand 7 = .ok (.if_icmp .ge 7, 3) := by decide +kernel
theorem dX7_isBand_10 : decode cX7_isBand 10 = .ok (.iconst 1, 1) := by decide +kernel
theorem dX7_isBand_11 : decode cX7_isBand 11 = .ok (.goto 4, 3) := by decide +kernel
theorem dX7_isBand_14 : decode cX7_isBand 14 = .ok (.iconst 0, 1) := by decide +kernel
theorem dX7_isBand_15 : decode cX7_isBand 15 = .ok (.ireturn, 1) := by decide +kernel
theorem dX7_bandOf_0 : decode cX7_bandOf 0 = .ok (.iload_n 0, 1) := by decide +kernel
theorem dX7_bandOf_1 : decode cX7_bandOf 1 = .ok (.bipush 10, 2) := by decide +kernel
theorem dX7_bandOf_3 : decode cX7_bandOf 3 = .ok (.idiv, 1) := by decide +kernel
theorem dX7_bandOf_4 : decode cX7_bandOf 4 = .ok (.bipush 9, 2) := by decide +kernel
theorem dX7_bandOf_6 : decode cX7_bandOf 6 = .ok (.invokestatic 239, 3) := by decide +kernel
theorem dX7_bandOf_9 : decode cX7_bandOf 9 = .ok (.ireturn, 1) := by decide +kernel
