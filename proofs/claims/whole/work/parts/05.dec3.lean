theorem dX8_init_0 : decode cX8_init 0 = .ok (.aload_n 0, 1) := by decide +kernel
theorem dX8_init_1 : decode cX8_init 1 = .ok (.invokespecial 1, 3) := by decide +kernel
theorem dX8_init_4 : decode cX8_init 4 = .ok (.aload_n 0, 1) := by decide +kernel
theorem dX8_init_5 : decode cX8_init 5 = .ok (.sipush 180, 3) := by decide +kernel
theorem dX8_init_8 : decode cX8_init 8 = .ok (.newarray .int, 2) := by decide +kernel
theorem dX8_init_10 : decode cX8_init 10 = .ok (.putfield 9, 3) := by decide +kernel
theorem dX8_init_13 : decode cX8_init 13 = .ok (.aload_n 0, 1) := by decide +kernel
theorem dX8_init_14 : decode cX8_init 14 = .ok (.bipush 30, 2) := by decide +kernel
theorem dX8_init_16 : decode cX8_init 16 = .ok (.newarray .int, 2) := by decide +kernel
theorem dX8_init_18 : decode cX8_init 18 = .ok (.putfield 13, 3) := by decide +kernel
theorem dX8_init_21 : decode cX8_init 21 = .ok (.aload_n 0, 1) := by decide +kernel
theorem dX8_init_22 : decode cX8_init 22 = .ok (.bipush 30, 2) := by decide +kernel
theorem dX8_init_24 : decode cX8_init 24 = .ok (.newarray .int, 2) := by decide +kernel
theorem dX8_init_26 : decode cX8_init 26 = .ok (.putfield 16, 3) := by decide +kernel
theorem dX8_init_29 : decode cX8_init 29 = .ok (.aload_n 0, 1) := by decide +kernel
theorem dX8_init_30 : decode cX8_init 30 = .ok (.sipush 1023, 3) := by decide +kernel
theorem dX8_init_33 : decode cX8_init 33 = .ok (.putfield 19, 3) := by decide +kernel
theorem dX8_init_36 : decode cX8_init 36 = .ok (.aload_n 0, 1) := by decide +kernel
theorem dX8_init_37 : decode cX8_init 37 = .ok (.bipush 20, 2) := by decide +kernel
theorem dX8_init_39 : decode cX8_init 39 = .ok (.putfield 23, 3) := by decide +kernel
theorem dX8_init_42 : decode cX8_init 42 = .ok (.aload_n 0, 1) := by decide +kernel
theorem dX8_init_43 : decode cX8_init 43 = .ok (.bipush 8, 2) := by decide +kernel
theorem dX8_init_45 : decode cX8_init 45 = .ok (.newarray .int, 2) := by decide +kernel
theorem dX8_init_47 : decode cX8_init 47 = .ok (.putfield 26, 3) := by decide +kernel
theorem dX8_init_50 : decode cX8_init 50 = .ok (.aload_n 0, 1) := by decide +kernel
theorem dX8_init_51 : decode cX8_init 51 = .ok (.iconst 5, 1) := by decide +kernel
theorem dX8_init_52 : decode cX8_init 52 = .ok (.newarray .int, 2) := by decide +kernel
theorem dX8_init_54 : decode cX8_init 54 = .ok (.putfield 29, 3) := by decide +kernel
theorem dX8_init_57 : decode cX8_init 57 = .ok (.aload_n 0, 1) := by decide +kernel
theorem dX8_init_58 : decode cX8_init 58 = .ok (.bipush 24, 2) := by decide +kernel
theorem dX8_init_60 : decode cX8_init 60 = .ok (.newarray .int, 2) := by decide +kernel
theorem dX8_init_62 : decode cX8_init 62 = .ok (.putfield 32, 3) := by decide +kernel
theorem dX8_init_65 : decode cX8_init 65 = .ok (.aload_n 0, 1) := by decide +kernel
theorem dX8_init_66 : decode cX8_init 66 = .ok (.bipush 10, 2) := by decide +kernel
theorem dX8_init_68 : decode cX8_init 68 = .ok (.newarray .int, 2) := by decide +kernel
theorem dX8_init_70 : decode cX8_init 70 = .ok (.putfield 35, 3) := by decide +kernel
theorem dX8_init_73 : decode cX8_init 73 = .ok (.aload_n 0, 1) := by decide +kernel
theorem dX8_init_74 : decode cX8_init 74 = .ok (.bipush 10, 2) := by decide +kernel
theorem dX8_init_76 : decode cX8_init 76 = .ok (.newarray .int, 2) := by decide +kernel
theorem dX8_init_78 : decode cX8_init 78 = .ok (.putfield 38, 3) := by decide +kernel
theorem dX8_init_81 : decode cX8_init 81 = .ok (.aload_n 0, 1) := by decide +kernel
theorem dX8_init_82 : decode cX8_init 82 = .ok (.bipush 10, 2) := by decide +kernel
theorem dX8_init_84 : decode cX8_init 84 = .ok (.newarray .int, 2) := by decide +kernel
theorem dX8_init_86 : decode cX8_init 86 = .ok (.putfield 41, 3) := by decide +kernel
theorem dX8_init_89 : decode cX8_init 89 = .ok (.aload_n 0, 1) := by decide +kernel
theorem dX8_init_90 : decode cX8_init 90 = .ok (.bipush 64, 2) := by decide +kernel
theorem dX8_init_92 : decode cX8_init 92 = .ok (.newarray .int, 2) := by decide +kernel
theorem dX8_init_94 : decode cX8_init 94 = .ok (.putfield 44, 3) := by decide +kernel
theorem dX8_init_97 : decode cX8_init 97 = .ok (.aload_n 0, 1) := by decide +kernel
theorem dX8_init_98 : decode cX8_init 98 = .ok (.bipush 8, 2) := by decide +kernel
theorem dX8_init_100 : decode cX8_init 100 = .ok (.newarray .int, 2) := by decide +kernel
theorem dX8_init_102 : decode cX8_init 102 = .ok (.putfield 47, 3) := by decide +kernel
theorem dX8_init_105 : decode cX8_init 105 = .ok (.aload_n 0, 1) := by decide +kernel
theorem dX8_init_106 : decode cX8_init 106 = .ok (.sipush 256, 3) := by decide +kernel
theorem dX8_init_109 : decode cX8_init 109 = .ok (.newarray .int, 2) := by decide +kernel
theorem dX8_init_111 : decode cX8_init 111 = .ok (.putfield 50, 3) := by decide +kernel
theorem dX8_init_114 : decode cX8_init 114 = .ok (.aload_n 0, 1) := by decide +kernel
theorem dX8_init_115 : decode cX8_init 115 = .ok (.bipush 30, 2) := by decide +kernel
theorem dX8_init_117 : decode cX8_init 117 = .ok (.newarray .int, 2) := by decide +kernel
theorem dX8_init_119 : decode cX8_init 119 = .ok (.putfield 53, 3) := by decide +kernel
theorem dX8_init_122 : decode cX8_init 122 = .ok (.return_, 1) := by decide +kernel
theorem dX8_in_0 : decode cX8_in 0 = .ok (.iload_n 0, 1) := by decide +kernel
theorem dX8_in_1 : decode cX8_in 1 = .ok (.iload_n 1, 1) := by decide +kernel
theorem dX8_in_2 : decode cX8_in 2 = .ok (.if_icmp .lt 12, 3) := by decide +kernel
theorem dX8_in_5 : decode cX8_in 5 = .ok (.iload_n 0, 1) := by decide +kernel
theorem dX8_in_6 : decode cX8_in 6 = .ok (.iload_n 2, 1) := by decide +kernel
theorem dX8_in_7 : decode cX8_in 7 = .ok (.if_icmp .gt 7, 3) := by decide +kernel
theorem dX8_in_10 : decode cX8_in 10 = .ok (.iconst 1, 1) := by decide +kernel
theorem dX8_in_11 : decode cX8_in 11 = .ok (.goto 4, 3) := by decide +kernel
theorem dX8_in_14 : decode cX8_in 14 = .ok (.iconst 0, 1) := by decide +kernel
theorem dX8_in_15 : decode cX8_in 15 = .ok (.ireturn, 1) := by decide +kernel
theorem dX8_isRecording_0 : decode cX8_isRecording 0 = .ok (.iload_n 1, 1) := by decide +kernel
theorem dX8_isRecording_1 : decode cX8_isRecording 1 = .ok (.iconst 0, 1) := by decide +kernel
theorem dX8_isRecording_2 : decode cX8_isRecording 2 = .ok (.aload_n 0, 1) := by decide +kernel
theorem dX8_isRecording_3 : decode cX8_isRecording 3 = .ok (.getfield 56, 3) := by decide +kernel
theorem dX8_isRecording_6 : decode cX8_isRecording 6 = .ok (.iconst 1, 1) := by decide +kernel
theorem dX8_isRecording_7 : decode cX8_isRecording 7 = .ok (.isub, 1) := by decide +kernel
theorem dX8_isRecording_8 : decode cX8_isRecording 8 = .ok (.invokestatic 59, 3) := by decide +kernel
theorem dX8_isRecording_11 : decode cX8_isRecording 11 = .ok (.ireturn, 1) := by decide +kernel
theorem dX8_record_0 : decode cX8_record 0 = .ok (.iload_n 1, 1) := by decide +kernel
theorem dX8_record_1 : decode cX8_record 1 = .ok (.iconst 0, 1) := by decide +kernel
theorem dX8_record_2 : decode cX8_record 2 = .ok (.iconst 3, 1) := by decide +kernel
theorem dX8_record_3 : decode cX8_record 3 = .ok (.invokestatic 59, 3) := by decide +kernel
theorem dX8_record_6 : decode cX8_record 6 = .ok (.ifCond .eq 22, 3) := by decide +kernel
theorem dX8_record_9 : decode cX8_record 9 = .ok (.iload_n 2, 1) := by decide +kernel
theorem dX8_record_10 : decode cX8_record 10 = .ok (.iconst (-1), 1) := by decide +kernel
theorem dX8_record_11 : decode cX8_record 11 = .ok (.bipush 9, 2) := by decide +kernel
theorem dX8_record_13 : decode cX8_record 13 = .ok (.invokestatic 59, 3) := by decide +kernel
theorem dX8_record_16 : decode cX8_record 16 = .ok (.ifCond .eq 12, 3) := by decide +kernel
theorem dX8_record_19 : decode cX8_record 19 = .ok (.aload_n 0, 1) := by decide +kernel
theorem dX8_record_20 : decode cX8_record 20 = .ok (.getfield 56, 3) := by decide +kernel
theorem dX8_record_23 : decode cX8_record 23 = .ok (.bipush 30, 2) := by decide +kernel
theorem dX8_record_25 : decode cX8_record 25 = .ok (.if_icmp .ne 5, 3) := by decide +kernel
theorem dX8_record_28 : decode cX8_record 28 = .ok (.iconst (-1), 1) := by decide +kernel
theorem dX8_record_29 : decode cX8_record 29 = .ok (.ireturn, 1) := by decide +kernel
theorem dX8_record_30 : decode cX8_record 30 = .ok (.aload_n 0, 1) := by decide +kernel
theorem dX8_record_31 : decode cX8_record 31 = .ok (.getfield 13, 3) := by decide +kernel
theorem dX8_record_34 : decode cX8_record 34 = .ok (.aload_n 0, 1) := by decide +kernel
theorem dX8_record_35 : decode cX8_record 35 = .ok (.getfield 56, 3) := by decide +kernel
theorem dX8_record_38 : decode cX8_record 38 = .ok (.iload_n 1, 1) := by decide +kernel
theorem dX8_record_39 : decode cX8_record 39 = .ok (.iastore, 1) := by decide +kernel
theorem dX8_record_40 : decode cX8_record 40 = .ok (.aload_n 0, 1) := by decide +kernel
theorem dX8_record_41 : decode cX8_record 41 = .ok (.getfield 16, 3) := by decide +kernel
theorem dX8_record_44 : decode cX8_record 44 = .ok (.aload_n 0, 1) := by decide +kernel
theorem dX8_record_45 : decode cX8_record 45 = .ok (.getfield 56, 3) := by decide +kernel
theorem dX8_record_48 : decode cX8_record 48 = .ok (.iload_n 2, 1) := by decide +kernel
theorem dX8_record_49 : decode cX8_record 49 = .ok (.iastore, 1) := by decide +kernel
theorem dX8_record_50 : decode cX8_record 50 = .ok (.iconst 0, 1) := by decide +kernel
theorem dX8_record_51 : decode cX8_record 51 = .ok (.istore_n 3, 1) := by decide +kernel
theorem dX8_record_52 : decode cX8_record 52 = .ok (.iload_n 3, 1) := by decide +kernel
theorem dX8_record_53 : decode cX8_record 53 = .ok (.bipush 6, 2) := by decide +kernel
theorem dX8_record_55 : decode cX8_record 55 = .ok (.if_icmp .ge 24, 3) := by decide +kernel
theorem dX8_record_58 : decode cX8_record 58 = .ok (.aload_n 0, 1) := by decide +kernel
theorem dX8_record_59 : decode cX8_record 59 = .ok (.getfield 9, 3) := by decide +kernel
theorem dX8_record_62 : decode cX8_record 62 = .ok (.bipush 6, 2) := by decide +kernel
theorem dX8_record_64 : decode cX8_record 64 = .ok (.aload_n 0, 1) := by decide +kernel
theorem dX8_record_65 : decode cX8_record 65 = .ok (.getfield 56, 3) := by decide +kernel
theorem dX8_record_68 : decode cX8_record 68 = .ok (.imul, 1) := by decide +kernel
theorem dX8_record_69 : decode cX8_record 69 = .ok (.iload_n 3, 1) := by decide +kernel
theorem dX8_record_70 : decode cX8_record 70 = .ok (.iadd, 1) := by decide +kernel
theorem dX8_record_71 : decode cX8_record 71 = .ok (.iconst (-1), 1) := by decide +kernel
theorem dX8_record_72 : decode cX8_record 72 = .ok (.iastore, 1) := by decide +kernel
theorem dX8_record_73 : decode cX8_record 73 = .ok (.iinc 3 1, 3) := by decide +kernel
theorem dX8_record_76 : decode cX8_record 76 = .ok (.goto (-24), 3) := by decide +kernel
theorem dX8_record_79 : decode cX8_record 79 = .ok (.aload_n 0, 1) := by decide +kernel
theorem dX8_record_80 : decode cX8_record 80 = .ok (.dup, 1) := by decide +kernel
theorem dX8_record_81 : decode cX8_record 81 = .ok (.getfield 56, 3) := by decide +kernel
theorem dX8_record_84 : decode cX8_record 84 = .ok (.iconst 1, 1) := by decide +kernel
theorem dX8_record_85 : decode cX8_record 85 = .ok (.iadd, 1) := by decide +kernel
theorem dX8_record_86 : decode cX8_record 86 = .ok (.putfield 56, 3) := by decide +kernel
theorem dX8_record_89 : decode cX8_record 89 = .ok (.aload_n 0, 1) := by decide +kernel
theorem dX8_record_90 : decode cX8_record 90 = .ok (.getfield 56, 3) := by decide +kernel
theorem dX8_record_93 : decode cX8_record 93 = .ok (.iconst 1, 1) := by decide +kernel
theorem dX8_record_94 : decode cX8_record 94 = .ok (.isub, 1) := by decide +kernel
theorem dX8_record_95 : decode cX8_record 95 = .ok (.ireturn, 1) := by decide +kernel
theorem dX8_tone_0 : decode cX8_tone 0 = .ok (.aload_n 0, 1) := by decide +kernel
theorem dX8_tone_1 : decode cX8_tone 1 = .ok (.iload_n 1, 1) := by decide +kernel
theorem dX8_tone_2 : decode cX8_tone 2 = .ok (.invokevirtual 63, 3) := by decide +kernel
theorem dX8_tone_5 : decode cX8_tone 5 = .ok (.ifCond .eq 22, 3) := by decide +kernel
theorem dX8_tone_8 : decode cX8_tone 8 = .ok (.iload_n 2, 1) := by decide +kernel
theorem dX8_tone_9 : decode cX8_tone 9 = .ok (.iconst 0, 1) := by decide +kernel
theorem dX8_tone_10 : decode cX8_tone 10 = .ok (.iconst 5, 1) := by decide +kernel
theorem dX8_tone_11 : decode cX8_tone 11 = .ok (.invokestatic 59, 3) := by decide +kernel
theorem dX8_tone_14 : decode cX8_tone 14 = .ok (.ifCond .eq 13, 3) := by decide +kernel
theorem dX8_tone_17 : decode cX8_tone 17 = .ok (.iload_n 3, 1) := by decide +kernel
theorem dX8_tone_18 : decode cX8_tone 18 = .ok (.iconst (-1), 1) := by decide +kernel
theorem dX8_tone_19 : decode cX8_tone 19 = .ok (.bipush 99, 2) := by decide +kernel
theorem dX8_tone_21 : decode cX8_tone 21 = .ok (.invokestatic 59, 3) := by decide +kernel
theorem dX8_tone_24 : decode cX8_tone 24 = .ok (.ifCond .ne 5, 3) := by decide +kernel
theorem dX8_tone_27 : decode cX8_tone 27 = .ok (.iconst 0, 1) := by decide +kernel
theorem dX8_tone_28 : decode cX8_tone 28 = .ok (.ireturn, 1) := by decide +kernel
theorem dX8_tone_29 : decode cX8_tone 29 = .ok (.aload_n 0, 1) := by decide +kernel
theorem dX8_tone_30 : decode cX8_tone 30 = .ok (.getfield 9, 3) := by decide +kernel
theorem dX8_tone_33 : decode cX8_tone 33 = .ok (.bipush 6, 2) := by decide +kernel
theorem dX8_tone_35 : decode cX8_tone 35 = .ok (.iload_n 1, 1) := by decide +kernel
theorem dX8_tone_36 : decode cX8_tone 36 = .ok (.imul, 1) := by decide +kernel
theorem dX8_tone_37 : decode cX8_tone 37 = .ok (.iload_n 2, 1) := by decide +kernel
theorem dX8_tone_38 : decode cX8_tone 38 = .ok (.iadd, 1) := by decide +kernel
theorem dX8_tone_39 : decode cX8_tone 39 = .ok (.iload_n 3, 1) := by decide +kernel
theorem dX8_tone_40 : decode cX8_tone 40 = .ok (.iastore, 1) := by decide +kernel
theorem dX8_tone_41 : decode cX8_tone 41 = .ok (.iconst 1, 1) := by decide +kernel
theorem dX8_tone_42 : decode cX8_tone 42 = .ok (.ireturn, 1) := by decide +kernel
theorem dX8_know_0 : decode cX8_know 0 = .ok (.aload_n 0, 1) := by decide +kernel
theorem dX8_know_1 : decode cX8_know 1 = .ok (.iload_n 1, 1) := by decide +kernel
theorem dX8_know_2 : decode cX8_know 2 = .ok (.invokevirtual 63, 3) := by decide +kernel
theorem dX8_know_5 : decode cX8_know 5 = .ok (.ifCond .eq 13, 3) := by decide +kernel
theorem dX8_know_8 : decode cX8_know 8 = .ok (.iload_n 2, 1) := by decide +kernel
theorem dX8_know_9 : decode cX8_know 9 = .ok (.iconst (-1), 1) := by decide +kernel
theorem dX8_know_10 : decode cX8_know 10 = .ok (.bipush 9, 2) := by decide +kernel
theorem dX8_know_12 : decode cX8_know 12 = .ok (.invokestatic 59, 3) := by decide +kernel
theorem dX8_know_15 : decode cX8_know 15 = .ok (.ifCond .ne 5, 3) := by decide +kernel
theorem dX8_know_18 : decode cX8_know 18 = .ok (.iconst 0, 1) := by decide +kernel
theorem dX8_know_19 : decode cX8_know 19 = .ok (.ireturn, 1) := by decide +kernel
theorem dX8_know_20 : decode cX8_know 20 = .ok (.aload_n 0, 1) := by decide +kernel
theorem dX8_know_21 : decode cX8_know 21 = .ok (.getfield 16, 3) := by decide +kernel
theorem dX8_know_24 : decode cX8_know 24 = .ok (.iload_n 1, 1) := by decide +kernel
theorem dX8_know_25 : decode cX8_know 25 = .ok (.iload_n 2, 1) := by decide +kernel
theorem dX8_know_26 : decode cX8_know 26 = .ok (.iastore, 1) := by decide +kernel
theorem dX8_know_27 : decode cX8_know 27 = .ok (.iconst 1, 1) := by decide +kernel
theorem dX8_know_28 : decode cX8_know 28 = .ok (.ireturn, 1) := by decide +kernel
theorem dX8_set_0 : decode cX8_set 0 = .ok (.iload_n 1, 1) := by decide +kernel
theorem dX8_set_1 : decode cX8_set 1 = .ok (.iconst 0, 1) := by decide +kernel
theorem dX8_set_2 : decode cX8_set 2 = .ok (.sipush 1023, 3) := by decide +kernel
theorem dX8_set_5 : decode cX8_set 5 = .ok (.invokestatic 59, 3) := by decide +kernel
theorem dX8_set_8 : decode cX8_set 8 = .ok (.ifCond .ne 5, 3) := by decide +kernel
theorem dX8_set_11 : decode cX8_set 11 = .ok (.iconst 0, 1) := by decide +kernel
theorem dX8_set_12 : decode cX8_set 12 = .ok (.ireturn, 1) := by decide +kernel
theorem dX8_set_13 : decode cX8_set 13 = .ok (.aload_n 0, 1) := by decide +kernel
theorem dX8_set_14 : decode cX8_set 14 = .ok (.iload_n 1, 1) := by decide +kernel
theorem dX8_set_15 : decode cX8_set 15 = .ok (.putfield 19, 3) := by decide +kernel
theorem dX8_set_18 : decode cX8_set 18 = .ok (.iconst 1, 1) := by decide +kernel
theorem dX8_set_19 : decode cX8_set 19 = .ok (.ireturn, 1) := by decide +kernel
theorem dX8_limit_0 : decode cX8_limit 0 = .ok (.iload_n 1, 1) := by decide +kernel
theorem dX8_limit_1 : decode cX8_limit 1 = .ok (.iconst 0, 1) := by decide +kernel
theorem dX8_limit_2 : decode cX8_limit 2 = .ok (.sipush 200, 3) := by decide +kernel
theorem dX8_limit_5 : decode cX8_limit 5 = .ok (.invokestatic 59, 3) := by decide +kernel
theorem dX8_limit_8 : decode cX8_limit 8 = .ok (.ifCond .ne 5, 3) := by decide +kernel
theorem dX8_limit_11 : decode cX8_limit 11 = .ok (.iconst 0, 1) := by decide +kernel
theorem dX8_limit_12 : decode cX8_limit 12 = .ok (.ireturn, 1) := by decide +kernel
theorem dX8_limit_13 : decode cX8_limit 13 = .ok (.aload_n 0, 1) := by decide +kernel
theorem dX8_limit_14 : decode cX8_limit 14 = .ok (.iload_n 1, 1) := by decide +kernel
theorem dX8_limit_15 : decode cX8_limit 15 = .ok (.putfield 23, 3) := by decide +kernel
theorem dX8_limit_18 : decode cX8_limit 18 = .ok (.iconst 1, 1) := by decide +kernel
theorem dX8_limit_19 : decode cX8_limit 19 = .ok (.ireturn, 1) := by decide +kernel
theorem dX8_shiftPairs_0 : decode cX8_shiftPairs 0 = .ok (.iconst 0, 1) := by decide +kernel
theorem dX8_shiftPairs_1 : decode cX8_shiftPairs 1 = .ok (.istore_n 3, 1) := by decide +kernel
theorem dX8_shiftPairs_2 : decode cX8_shiftPairs 2 = .ok (.aload_n 0, 1) := by decide +kernel
theorem dX8_shiftPairs_3 : decode cX8_shiftPairs 3 = .ok (.iconst 0, 1) := by decide +kernel
theorem dX8_shiftPairs_4 : decode cX8_shiftPairs 4 = .ok (.putfield 67, 3) := by decide +kernel
theorem dX8_shiftPairs_7 : decode cX8_shiftPairs 7 = .ok (.iconst 0, 1) := by decide +kernel
theorem dX8_shiftPairs_8 : decode cX8_shiftPairs 8 = .ok (.istore 4, 2) := by decide +kernel
theorem dX8_shiftPairs_10 : decode cX8_shiftPairs 10 = .ok (.iload 4, 2) := by decide +kernel
theorem dX8_shiftPairs_12 : decode cX8_shiftPairs 12 = .ok (.aload_n 0, 1) := by decide +kernel
theorem dX8_shiftPairs_13 : decode cX8_shiftPairs 13 = .ok (.getfield 56, 3) := by decide +kernel
theorem dX8_shiftPairs_16 : decode cX8_shiftPairs 16 = .ok (.if_icmp .ge 143, 3) := by decide +kernel
theorem dX8_shiftPairs_19 : decode cX8_shiftPairs 19 = .ok (.iload_n 1, 1) := by decide +kernel
theorem dX8_shiftPairs_20 : decode cX8_shiftPairs 20 = .ok (.ifCond .le 139, 3) := by decide +kernel
theorem dX8_shiftPairs_23 : decode cX8_shiftPairs 23 = .ok (.aload_n 0, 1) := by decide +kernel
theorem dX8_shiftPairs_24 : decode cX8_shiftPairs 24 = .ok (.getfield 9, 3) := by decide +kernel
theorem dX8_shiftPairs_27 : decode cX8_shiftPairs 27 = .ok (.bipush 6, 2) := by decide +kernel
theorem dX8_shiftPairs_29 : decode cX8_shiftPairs 29 = .ok (.iload 4, 2) := by decide +kernel
theorem dX8_shiftPairs_31 : decode cX8_shiftPairs 31 = .ok (.imul, 1) := by decide +kernel
theorem dX8_shiftPairs_32 : decode cX8_shiftPairs 32 = .ok (.iload_n 2, 1) := by decide +kernel
theorem dX8_shiftPairs_33 : decode cX8_shiftPairs 33 = .ok (.iadd, 1) := by decide +kernel
theorem dX8_shiftPairs_34 : decode cX8_shiftPairs 34 = .ok (.iaload, 1) := by decide +kernel
theorem dX8_shiftPairs_35 : decode cX8_shiftPairs 35 = .ok (.istore 5, 2) := by decide +kernel
theorem dX8_shiftPairs_37 : decode cX8_shiftPairs 37 = .ok (.aload_n 0, 1) := by decide +kernel
theorem dX8_shiftPairs_38 : decode cX8_shiftPairs 38 = .ok (.getfield 13, 3) := by decide +kernel
theorem dX8_shiftPairs_41 : decode cX8_shiftPairs 41 = .ok (.iload 4, 2) := by decide +kernel
theorem dX8_shiftPairs_43 : decode cX8_shiftPairs 43 = .ok (.iaload, 1) := by decide +kernel
theorem dX8_shiftPairs_44 : decode cX8_shiftPairs 44 = .ok (.iload_n 1, 1) := by decide +kernel
theorem dX8_shiftPairs_45 : decode cX8_shiftPairs 45 = .ok (.if_icmp .ne 108, 3) := by decide +kernel
theorem dX8_shiftPairs_48 : decode cX8_shiftPairs 48 = .ok (.aload_n 0, 1) := by decide +kernel
theorem dX8_shiftPairs_49 : decode cX8_shiftPairs 49 = .ok (.getfield 16, 3) := by decide +kernel
theorem dX8_shiftPairs_52 : decode cX8_shiftPairs 52 = .ok (.iload 4, 2) := by decide +kernel
theorem dX8_shiftPairs_54 : decode cX8_shiftPairs 54 = .ok (.iaload, 1) := by decide +kernel
theorem dX8_shiftPairs_55 : decode cX8_shiftPairs 55 = .ok (.iconst (-1), 1) := by decide +kernel
theorem dX8_shiftPairs_56 : decode cX8_shiftPairs 56 = .ok (.if_icmp .eq 97, 3) := by decide +kernel
theorem dX8_shiftPairs_59 : decode cX8_shiftPairs 59 = .ok (.iload 5, 2) := by decide +kernel
theorem dX8_shiftPairs_61 : decode cX8_shiftPairs 61 = .ok (.iconst (-1), 1) := by decide +kernel
theorem dX8_shiftPairs_62 : decode cX8_shiftPairs 62 = .ok (.if_icmp .ne 6, 3) := by decide +kernel
theorem dX8_shiftPairs_65 : decode cX8_shiftPairs 65 = .ok (.goto 88, 3) := by decide +kernel
theorem dX8_shiftPairs_68 : decode cX8_shiftPairs 68 = .ok (.iconst 0, 1) := by decide +kernel
theorem dX8_shiftPairs_69 : decode cX8_shiftPairs 69 = .ok (.istore 6, 2) := by decide +kernel
theorem dX8_shiftPairs_71 : decode cX8_shiftPairs 71 = .ok (.iload 6, 2) := by decide +kernel
theorem dX8_shiftPairs_73 : decode cX8_shiftPairs 73 = .ok (.aload_n 0, 1) := by decide +kernel
theorem dX8_shiftPairs_74 : decode cX8_shiftPairs 74 = .ok (.getfield 56, 3) := by decide +kernel
theorem dX8_shiftPairs_77 : decode cX8_shiftPairs 77 = .ok (.if_icmp .ge 76, 3) := by decide +kernel
theorem dX8_shiftPairs_80 : decode cX8_shiftPairs 80 = .ok (.aload_n 0, 1) := by decide +kernel
theorem dX8_shiftPairs_81 : decode cX8_shiftPairs 81 = .ok (.getfield 9, 3) := by decide +kernel
theorem dX8_shiftPairs_84 : decode cX8_shiftPairs 84 = .ok (.bipush 6, 2) := by decide +kernel
theorem dX8_shiftPairs_86 : decode cX8_shiftPairs 86 = .ok (.iload 6, 2) := by decide +kernel
theorem dX8_shiftPairs_88 : decode cX8_shiftPairs 88 = .ok (.imul, 1) := by decide +kernel
theorem dX8_shiftPairs_89 : decode cX8_shiftPairs 89 = .ok (.iload_n 2, 1) := by decide +kernel
theorem dX8_shiftPairs_90 : decode cX8_shiftPairs 90 = .ok (.iadd, 1) := by decide +kernel
theorem dX8_shiftPairs_91 : decode cX8_shiftPairs 91 = .ok (.iaload, 1) := by decide +kernel
theorem dX8_shiftPairs_92 : decode cX8_shiftPairs 92 = .ok (.istore 7, 2) := by decide +kernel
theorem dX8_shiftPairs_94 : decode cX8_shiftPairs 94 = .ok (.aload_n 0, 1) := by decide +kernel
theorem dX8_shiftPairs_95 : decode cX8_shiftPairs 95 = .ok (.getfield 13, 3) := by decide +kernel
theorem dX8_shiftPairs_98 : decode cX8_shiftPairs 98 = .ok (.iload 6, 2) := by decide +kernel
theorem dX8_shiftPairs_100 : decode cX8_shiftPairs 100 = .ok (.iaload, 1) := by decide +kernel
theorem dX8_shiftPairs_101 : decode cX8_shiftPairs 101 = .ok (.ifCond .ne 46, 3) := by decide +kernel
theorem dX8_shiftPairs_104 : decode cX8_shiftPairs 104 = .ok (.aload_n 0, 1) := by decide +kernel
theorem dX8_shiftPairs_105 : decode cX8_shiftPairs 105 = .ok (.getfield 16, 3) := by decide +kernel
theorem dX8_shiftPairs_108 : decode cX8_shiftPairs 108 = .ok (.iload 6, 2) := by decide +kernel
theorem dX8_shiftPairs_110 : decode cX8_shiftPairs 110 = .ok (.iaload, 1) := by decide +kernel
theorem dX8_shiftPairs_111 : decode cX8_shiftPairs 111 = .ok (.aload_n 0, 1) := by decide +kernel
theorem dX8_shiftPairs_112 : decode cX8_shiftPairs 112 = .ok (.getfield 16, 3) := by decide +kernel
theorem dX8_shiftPairs_115 : decode cX8_shiftPairs 115 = .ok (.iload 4, 2) := by decide +kernel
theorem dX8_shiftPairs_117 : decode cX8_shiftPairs 117 = .ok (.iaload, 1) := by decide +kernel
theorem dX8_shiftPairs_118 : decode cX8_shiftPairs 118 = .ok (.if_icmp .ne 29, 3) := by decide +kernel
theorem dX8_shiftPairs_121 : decode cX8_shiftPairs 121 = .ok (.iload 7, 2) := by decide +kernel
theorem dX8_shiftPairs_123 : decode cX8_shiftPairs 123 = .ok (.iconst (-1), 1) := by decide +kernel
theorem dX8_shiftPairs_124 : decode cX8_shiftPairs 124 = .ok (.if_icmp .ne 6, 3) := by decide +kernel
theorem dX8_shiftPairs_127 : decode cX8_shiftPairs 127 = .ok (.goto 20, 3) := by decide +kernel
theorem dX8_shiftPairs_130 : decode cX8_shiftPairs 130 = .ok (.iinc 3 1, 3) := by decide +kernel
theorem dX8_shiftPairs_133 : decode cX8_shiftPairs 133 = .ok (.aload_n 0, 1) := by decide +kernel
theorem dX8_shiftPairs_134 : decode cX8_shiftPairs 134 = .ok (.dup, 1) := by decide +kernel
theorem dX8_shiftPairs_135 : decode cX8_shiftPairs 135 = .ok (.getfield 67, 3) := by decide +kernel
theorem dX8_shiftPairs_138 : decode cX8_shiftPairs 138 = .ok (.iload 5, 2) := by decide +kernel
theorem dX8_shiftPairs_140 : decode cX8_shiftPairs 140 = .ok (.iload 7, 2) := by decide +kernel
theorem dX8_shiftPairs_142 : decode cX8_shiftPairs 142 = .ok (.isub, 1) := by decide +kernel
theorem dX8_shiftPairs_143 : decode cX8_shiftPairs 143 = .ok (.iadd, 1) := by decide +kernel
theorem dX8_shiftPairs_144 : decode cX8_shiftPairs 144 = .ok (.putfield 67, 3) := by decide +kernel
theorem dX8_shiftPairs_147 : decode cX8_shiftPairs 147 = .ok (.iinc 6 1, 3) := by decide +kernel
theorem dX8_shiftPairs_150 : decode cX8_shiftPairs 150 = .ok (.goto (-79), 3) := by decide +kernel
theorem dX8_shiftPairs_153 : decode cX8_shiftPairs 153 = .ok (.iinc 4 1, 3) := by decide +kernel
theorem dX8_shiftPairs_156 : decode cX8_shiftPairs 156 = .ok (.goto (-146), 3) := by decide +kernel
theorem dX8_shiftPairs_159 : decode cX8_shiftPairs 159 = .ok (.iload_n 3, 1) := by decide +kernel
theorem dX8_shiftPairs_160 : decode cX8_shiftPairs 160 = .ok (.ireturn, 1) := by decide +kernel
theorem dX8_shiftOf_0 : decode cX8_shiftOf 0 = .ok (.aload_n 0, 1) := by decide +kernel
theorem dX8_shiftOf_1 : decode cX8_shiftOf 1 = .ok (.iload_n 1, 1) := by decide +kernel
theorem dX8_shiftOf_2 : decode cX8_shiftOf 2 = .ok (.iload_n 2, 1) := by decide +kernel
theorem dX8_shiftOf_3 : decode cX8_shiftOf 3 = .ok (.invokevirtual 70, 3) := by decide +kernel
theorem dX8_shiftOf_6 : decode cX8_shiftOf 6 = .ok (.istore_n 3, 1) := by decide +kernel
theorem dX8_shiftOf_7 : decode cX8_shiftOf 7 = .ok (.iload_n 3, 1) := by decide +kernel
theorem dX8_shiftOf_8 : decode cX8_shiftOf 8 = .ok (.ifCond .ne 5, 3) := by decide +kernel
theorem dX8_shiftOf_11 : decode cX8_shiftOf 11 = .ok (.iconst 0, 1) := by decide +kernel
theorem dX8_shiftOf_12 : decode cX8_shiftOf 12 = .ok (.ireturn, 1) := by decide +kernel
theorem dX8_shiftOf_13 : decode cX8_shiftOf 13 = .ok (.aload_n 0, 1) := by decide +kernel
theorem dX8_shiftOf_14 : decode cX8_shiftOf 14 = .ok (.getfield 67, 3) := by decide +kernel
theorem dX8_shiftOf_17 : decode cX8_shiftOf 17 = .ok (.ifCond .lt 12, 3) := by decide +kernel
theorem dX8_shiftOf_20 : decode cX8_shiftOf 20 = .ok (.aload_n 0, 1) := by decide +kernel
theorem dX8_shiftOf_21 : decode cX8_shiftOf 21 = .ok (.getfield 67, 3) := by decide +kernel
theorem dX8_shiftOf_24 : decode cX8_shiftOf 24 = .ok (.iload_n 3, 1) := by decide +kernel
theorem dX8_shiftOf_25 : decode cX8_shiftOf 25 = .ok (.idiv, 1) := by decide +kernel
theorem dX8_shiftOf_26 : decode cX8_shiftOf 26 = .ok (.goto 14, 3) := by decide +kernel
theorem dX8_shiftOf_29 : decode cX8_shiftOf 29 = .ok (.iload_n 3, 1) := by decide +kernel
theorem dX8_shiftOf_30 : decode cX8_shiftOf 30 = .ok (.iconst 1, 1) := by decide +kernel
theorem dX8_shiftOf_31 : decode cX8_shiftOf 31 = .ok (.isub, 1) := by decide +kernel
theorem dX8_shiftOf_32 : decode cX8_shiftOf 32 = .ok (.aload_n 0, 1) := by decide +kernel
theorem dX8_shiftOf_33 : decode cX8_shiftOf 33 = .ok (.getfield 67, 3) := by decide +kernel
theorem dX8_shiftOf_36 : decode cX8_shiftOf 36 = .ok (.isub, 1) := by decide +kernel
theorem dX8_shiftOf_37 : decode cX8_shiftOf 37 = .ok (.iload_n 3, 1) := by decide +kernel
theorem dX8_shiftOf_38 : decode cX8_shiftOf 38 = .ok (.idiv, 1) := by decide +kernel
theorem dX8_shiftOf_39 : decode cX8_shiftOf 39 = .ok (.ineg, 1) := by decide +kernel
theorem dX8_shiftOf_40 : decode cX8_shiftOf 40 = .ok (.ireturn, 1) := by decide +kernel
theorem dX8_shift_0 : decode cX8_shift 0 = .ok (.iload_n 1, 1) := by decide +kernel
theorem dX8_shift_1 : decode cX8_shift 1 = .ok (.iconst 0, 1) := by decide +kernel
theorem dX8_shift_2 : decode cX8_shift 2 = .ok (.iconst 3, 1) := by decide +kernel
theorem dX8_shift_3 : decode cX8_shift 3 = .ok (.invokestatic 59, 3) := by decide +kernel
theorem dX8_shift_6 : decode cX8_shift 6 = .ok (.ifCond .eq 21, 3) := by decide +kernel
theorem dX8_shift_9 : decode cX8_shift 9 = .ok (.iload_n 2, 1) := by decide +kernel
theorem dX8_shift_10 : decode cX8_shift 10 = .ok (.iconst 0, 1) := by decide +kernel
theorem dX8_shift_11 : decode cX8_shift 11 = .ok (.iconst 5, 1) := by decide +kernel
theorem dX8_shift_12 : decode cX8_shift 12 = .ok (.invokestatic 59, 3) := by decide +kernel
theorem dX8_shift_15 : decode cX8_shift 15 = .ok (.ifCond .eq 12, 3) := by decide +kernel
theorem dX8_shift_18 : decode cX8_shift 18 = .ok (.aload_n 0, 1) := by decide +kernel
theorem dX8_shift_19 : decode cX8_shift 19 = .ok (.iload_n 1, 1) := by decide +kernel
theorem dX8_shift_20 : decode cX8_shift 20 = .ok (.iload_n 2, 1) := by decide +kernel
theorem dX8_shift_21 : decode cX8_shift 21 = .ok (.invokevirtual 74, 3) := by decide +kernel
theorem dX8_shift_24 : decode cX8_shift 24 = .ok (.goto 5, 3) := by decide +kernel
theorem dX8_shift_27 : decode cX8_shift 27 = .ok (.ldc 77, 2) := by decide +kernel
theorem dX8_shift_29 : decode cX8_shift 29 = .ok (.ireturn, 1) := by decide +kernel
theorem dX8_hidden_0 : decode cX8_hidden 0 = .ok (.iload_n 1, 1) := by decide +kernel
theorem dX8_hidden_1 : decode cX8_hidden 1 = .ok (.iconst 1, 1) := by decide +kernel
theorem dX8_hidden_2 : decode cX8_hidden 2 = .ok (.iconst 3, 1) := by decide +kernel
theorem dX8_hidden_3 : decode cX8_hidden 3 = .ok (.invokestatic 59, 3) := by decide +kernel
theorem dX8_hidden_6 : decode cX8_hidden 6 = .ok (.ifCond .eq 25, 3) := by decide +kernel
theorem dX8_hidden_9 : decode cX8_hidden 9 = .ok (.iload_n 2, 1) := by decide +kernel
theorem dX8_hidden_10 : decode cX8_hidden 10 = .ok (.iconst 0, 1) := by decide +kernel
theorem dX8_hidden_11 : decode cX8_hidden 11 = .ok (.iconst 5, 1) := by decide +kernel
theorem dX8_hidden_12 : decode cX8_hidden 12 = .ok (.invokestatic 59, 3) := by decide +kernel
theorem dX8_hidden_15 : decode cX8_hidden 15 = .ok (.ifCond .eq 16, 3) := by decide +kernel
theorem dX8_hidden_18 : decode cX8_hidden 18 = .ok (.aload_n 0, 1) := by decide +kernel
theorem dX8_hidden_19 : decode cX8_hidden 19 = .ok (.iload_n 1, 1) := by decide +kernel
theorem dX8_hidden_20 : decode cX8_hidden 20 = .ok (.iload_n 2, 1) := by decide +kernel
theorem dX8_hidden_21 : decode cX8_hidden 21 = .ok (.invokevirtual 70, 3) := by decide +kernel
theorem dX8_hidden_24 : decode cX8_hidden 24 = .ok (.ifCond .ne 7, 3) := by decide +kernel
theorem dX8_hidden_27 : decode cX8_hidden 27 = .ok (.iconst 1, 1) := by decide +kernel
theorem dX8_hidden_28 : decode cX8_hidden 28 = .ok (.goto 4, 3) := by decide +kernel
theorem dX8_hidden_31 : decode cX8_hidden 31 = .ok (.iconst 0, 1) := by decide +kernel
theorem dX8_hidden_32 : decode cX8_hidden 32 = .ok (.ireturn, 1) := by decide +kernel
theorem dX8_reckons_0 : decode cX8_reckons 0 = .ok (.iconst 0, 1) := by decide +kernel
theorem dX8_reckons_1 : decode cX8_reckons 1 = .ok (.istore_n 1, 1) := by decide +kernel
theorem dX8_reckons_2 : decode cX8_reckons 2 = .ok (.iload_n 1, 1) := by decide +kernel
theorem dX8_reckons_3 : decode cX8_reckons 3 = .ok (.iconst 4, 1) := by decide +kernel
theorem dX8_reckons_4 : decode cX8_reckons 4 = .ok (.if_icmp .ge 40, 3) := by decide +kernel
theorem dX8_reckons_7 : decode cX8_reckons 7 = .ok (.iconst 0, 1) := by decide +kernel
theorem dX8_reckons_8 : decode cX8_reckons 8 = .ok (.istore_n 2, 1) := by decide +kernel
theorem dX8_reckons_9 : decode cX8_reckons 9 = .ok (.iload_n 2, 1) := by decide +kernel
theorem dX8_reckons_10 : decode cX8_reckons 10 = .ok (.bipush 6, 2) := by decide +kernel
theorem dX8_reckons_12 : decode cX8_reckons 12 = .ok (.if_icmp .ge 26, 3) := by decide +kernel
theorem dX8_reckons_15 : decode cX8_reckons 15 = .ok (.aload_n 0, 1) := by decide +kernel
theorem dX8_reckons_16 : decode cX8_reckons 16 = .ok (.getfield 32, 3) := by decide +kernel
theorem dX8_reckons_19 : decode cX8_reckons 19 = .ok (.bipush 6, 2) := by decide +kernel
theorem dX8_reckons_21 : decode cX8_reckons 21 = .ok (.iload_n 1, 1) := by decide +kernel
theorem dX8_reckons_22 : decode cX8_reckons 22 = .ok (.imul, 1) := by decide +kernel
theorem dX8_reckons_23 : decode cX8_reckons 23 = .ok (.iload_n 2, 1) := by decide +kernel
theorem dX8_reckons_24 : decode cX8_reckons 24 = .ok (.iadd, 1) := by decide +kernel
theorem dX8_reckons_25 : decode cX8_reckons 25 = .ok (.aload_n 0, 1) := by decide +kernel
theorem dX8_reckons_26 : decode cX8_reckons 26 = .ok (.iload_n 1, 1) := by decide +kernel
theorem dX8_reckons_27 : decode cX8_reckons 27 = .ok (.iload_n 2, 1) := by decide +kernel
theorem dX8_reckons_28 : decode cX8_reckons 28 = .ok (.invokevirtual 74, 3) := by decide +kernel
theorem dX8_reckons_31 : decode cX8_reckons 31 = .ok (.iastore, 1) := by decide +kernel
theorem dX8_reckons_32 : decode cX8_reckons 32 = .ok (.iinc 2 1, 3) := by decide +kernel
theorem dX8_reckons_35 : decode cX8_reckons 35 = .ok (.goto (-26), 3) := by decide +kernel
theorem dX8_reckons_38 : decode cX8_reckons 38 = .ok (.iinc 1 1, 3) := by decide +kernel
theorem dX8_reckons_41 : decode cX8_reckons 41 = .ok (.goto (-39), 3) := by decide +kernel
theorem dX8_reckons_44 : decode cX8_reckons 44 = .ok (.return_, 1) := by decide +kernel
theorem dX8_scoreOf_0 : decode cX8_scoreOf 0 = .ok (.iconst 0, 1) := by decide +kernel
theorem dX8_scoreOf_1 : decode cX8_scoreOf 1 = .ok (.istore_n 3, 1) := by decide +kernel
theorem dX8_scoreOf_2 : decode cX8_scoreOf 2 = .ok (.iconst 0, 1) := by decide +kernel
theorem dX8_scoreOf_3 : decode cX8_scoreOf 3 = .ok (.istore 4, 2) := by decide +kernel
theorem dX8_scoreOf_5 : decode cX8_scoreOf 5 = .ok (.iconst 0, 1) := by decide +kernel
theorem dX8_scoreOf_6 : decode cX8_scoreOf 6 = .ok (.istore 5, 2) := by decide +kernel
theorem dX8_scoreOf_8 : decode cX8_scoreOf 8 = .ok (.iload 5, 2) := by decide +kernel
theorem dX8_scoreOf_10 : decode cX8_scoreOf 10 = .ok (.bipush 6, 2) := by decide +kernel
theorem dX8_scoreOf_12 : decode cX8_scoreOf 12 = .ok (.if_icmp .ge 116, 3) := by decide +kernel
theorem dX8_scoreOf_15 : decode cX8_scoreOf 15 = .ok (.aload_n 0, 1) := by decide +kernel
theorem dX8_scoreOf_16 : decode cX8_scoreOf 16 = .ok (.getfield 9, 3) := by decide +kernel
theorem dX8_scoreOf_19 : decode cX8_scoreOf 19 = .ok (.bipush 6, 2) := by decide +kernel
theorem dX8_scoreOf_21 : decode cX8_scoreOf 21 = .ok (.iload_n 1, 1) := by decide +kernel
theorem dX8_scoreOf_22 : decode cX8_scoreOf 22 = .ok (.imul, 1) := by decide +kernel
theorem dX8_scoreOf_23 : decode cX8_scoreOf 23 = .ok (.iload 5, 2) := by decide +kernel
theorem dX8_scoreOf_25 : decode cX8_scoreOf 25 = .ok (.iadd, 1) := by decide +kernel
theorem dX8_scoreOf_26 : decode cX8_scoreOf 26 = .ok (.iaload, 1) := by decide +kernel
theorem dX8_scoreOf_27 : decode cX8_scoreOf 27 = .ok (.istore 6, 2) := by decide +kernel
theorem dX8_scoreOf_29 : decode cX8_scoreOf 29 = .ok (.aload_n 0, 1) := by decide +kernel
theorem dX8_scoreOf_30 : decode cX8_scoreOf 30 = .ok (.getfield 9, 3) := by decide +kernel
theorem dX8_scoreOf_33 : decode cX8_scoreOf 33 = .ok (.bipush 6, 2) := by decide +kernel
theorem dX8_scoreOf_35 : decode cX8_scoreOf 35 = .ok (.iload_n 2, 1) := by decide +kernel
theorem dX8_scoreOf_36 : decode cX8_scoreOf 36 = .ok (.imul, 1) := by decide +kernel
theorem dX8_scoreOf_37 : decode cX8_scoreOf 37 = .ok (.iload 5, 2) := by decide +kernel
theorem dX8_scoreOf_39 : decode cX8_scoreOf 39 = .ok (.iadd, 1) := by decide +kernel
theorem dX8_scoreOf_40 : decode cX8_scoreOf 40 = .ok (.iaload, 1) := by decide +kernel
theorem dX8_scoreOf_41 : decode cX8_scoreOf 41 = .ok (.istore 7, 2) := by decide +kernel
theorem dX8_scoreOf_43 : decode cX8_scoreOf 43 = .ok (.iload 6, 2) := by decide +kernel
theorem dX8_scoreOf_45 : decode cX8_scoreOf 45 = .ok (.iconst (-1), 1) := by decide +kernel
theorem dX8_scoreOf_46 : decode cX8_scoreOf 46 = .ok (.if_icmp .eq 76, 3) := by decide +kernel
theorem dX8_scoreOf_49 : decode cX8_scoreOf 49 = .ok (.iload 7, 2) := by decide +kernel
theorem dX8_scoreOf_51 : decode cX8_scoreOf 51 = .ok (.iconst (-1), 1) := by decide +kernel
theorem dX8_scoreOf_52 : decode cX8_scoreOf 52 = .ok (.if_icmp .ne 6, 3) := by decide +kernel
theorem dX8_scoreOf_55 : decode cX8_scoreOf 55 = .ok (.goto 67, 3) := by decide +kernel
theorem dX8_scoreOf_58 : decode cX8_scoreOf 58 = .ok (.iload 6, 2) := by decide +kernel
theorem dX8_scoreOf_60 : decode cX8_scoreOf 60 = .ok (.aload_n 0, 1) := by decide +kernel
theorem dX8_scoreOf_61 : decode cX8_scoreOf 61 = .ok (.getfield 32, 3) := by decide +kernel
theorem dX8_scoreOf_64 : decode cX8_scoreOf 64 = .ok (.bipush 6, 2) := by decide +kernel
theorem dX8_scoreOf_66 : decode cX8_scoreOf 66 = .ok (.aload_n 0, 1) := by decide +kernel
theorem dX8_scoreOf_67 : decode cX8_scoreOf 67 = .ok (.getfield 13, 3) := by decide +kernel
theorem dX8_scoreOf_70 : decode cX8_scoreOf 70 = .ok (.iload_n 1, 1) := by decide +kernel
theorem dX8_scoreOf_71 : decode cX8_scoreOf 71 = .ok (.iaload, 1) := by decide +kernel
theorem dX8_scoreOf_72 : decode cX8_scoreOf 72 = .ok (.imul, 1) := by decide +kernel
theorem dX8_scoreOf_73 : decode cX8_scoreOf 73 = .ok (.iload 5, 2) := by decide +kernel
theorem dX8_scoreOf_75 : decode cX8_scoreOf 75 = .ok (.iadd, 1) := by decide +kernel
theorem dX8_scoreOf_76 : decode cX8_scoreOf 76 = .ok (.iaload, 1) := by decide +kernel
theorem dX8_scoreOf_77 : decode cX8_scoreOf 77 = .ok (.isub, 1) := by decide +kernel
theorem dX8_scoreOf_78 : decode cX8_scoreOf 78 = .ok (.iload 7, 2) := by decide +kernel
theorem dX8_scoreOf_80 : decode cX8_scoreOf 80 = .ok (.isub, 1) := by decide +kernel
theorem dX8_scoreOf_81 : decode cX8_scoreOf 81 = .ok (.aload_n 0, 1) := by decide +kernel
theorem dX8_scoreOf_82 : decode cX8_scoreOf 82 = .ok (.getfield 32, 3) := by decide +kernel
theorem dX8_scoreOf_85 : decode cX8_scoreOf 85 = .ok (.bipush 6, 2) := by decide +kernel
theorem dX8_scoreOf_87 : decode cX8_scoreOf 87 = .ok (.aload_n 0, 1) := by decide +kernel
theorem dX8_scoreOf_88 : decode cX8_scoreOf 88 = .ok (.getfield 13, 3) := by decide +kernel
theorem dX8_scoreOf_91 : decode cX8_scoreOf 91 = .ok (.iload_n 2, 1) := by decide +kernel
theorem dX8_scoreOf_92 : decode cX8_scoreOf 92 = .ok (.iaload, 1) := by decide +kernel
theorem dX8_scoreOf_93 : decode cX8_scoreOf 93 = .ok (.imul, 1) := by decide +kernel
theorem dX8_scoreOf_94 : decode cX8_scoreOf 94 = .ok (.iload 5, 2) := by decide +kernel
theorem dX8_scoreOf_96 : decode cX8_scoreOf 96 = .ok (.iadd, 1) := by decide +kernel
theorem dX8_scoreOf_97 : decode cX8_scoreOf 97 = .ok (.iaload, 1) := by decide +kernel
theorem dX8_scoreOf_98 : decode cX8_scoreOf 98 = .ok (.iadd, 1) := by decide +kernel
theorem dX8_scoreOf_99 : decode cX8_scoreOf 99 = .ok (.istore 8, 2) := by decide +kernel
theorem dX8_scoreOf_101 : decode cX8_scoreOf 101 = .ok (.iinc 3 1, 3) := by decide +kernel
theorem dX8_scoreOf_104 : decode cX8_scoreOf 104 = .ok (.iload 4, 2) := by decide +kernel
theorem dX8_scoreOf_106 : decode cX8_scoreOf 106 = .ok (.iload 8, 2) := by decide +kernel
theorem dX8_scoreOf_108 : decode cX8_scoreOf 108 = .ok (.ifCond .ge 9, 3) := by decide +kernel
theorem dX8_scoreOf_111 : decode cX8_scoreOf 111 = .ok (.iload 8, 2) := by decide +kernel
theorem dX8_scoreOf_113 : decode cX8_scoreOf 113 = .ok (.ineg, 1) := by decide +kernel
theorem dX8_scoreOf_114 : decode cX8_scoreOf 114 = .ok (.goto 5, 3) := by decide +kernel
theorem dX8_scoreOf_117 : decode cX8_scoreOf 117 = .ok (.iload 8, 2) := by decide +kernel
theorem dX8_scoreOf_119 : decode cX8_scoreOf 119 = .ok (.iadd, 1) := by decide +kernel
theorem dX8_scoreOf_120 : decode cX8_scoreOf 120 = .ok (.istore 4, 2) := by decide +kernel
theorem dX8_scoreOf_122 : decode cX8_scoreOf 122 = .ok (.iinc 5 1, 3) := by decide +kernel
theorem dX8_scoreOf_125 : decode cX8_scoreOf 125 = .ok (.goto (-117), 3) := by decide +kernel
theorem dX8_scoreOf_128 : decode cX8_scoreOf 128 = .ok (.iload_n 3, 1) := by decide +kernel
theorem dX8_scoreOf_129 : decode cX8_scoreOf 129 = .ok (.iconst 3, 1) := by decide +kernel
theorem dX8_scoreOf_130 : decode cX8_scoreOf 130 = .ok (.if_icmp .ge 7, 3) := by decide +kernel
theorem dX8_scoreOf_133 : decode cX8_scoreOf 133 = .ok (.iconst (-1), 1) := by decide +kernel
theorem dX8_scoreOf_134 : decode cX8_scoreOf 134 = .ok (.goto 10, 3) := by decide +kernel
theorem dX8_scoreOf_137 : decode cX8_scoreOf 137 = .ok (.bipush 6, 2) := by decide +kernel
theorem dX8_scoreOf_139 : decode cX8_scoreOf 139 = .ok (.iload 4, 2) := by decide +kernel
theorem dX8_scoreOf_141 : decode cX8_scoreOf 141 = .ok (.imul, 1) := by decide +kernel
theorem dX8_scoreOf_142 : decode cX8_scoreOf 142 = .ok (.iload_n 3, 1) := by decide +kernel
theorem dX8_scoreOf_143 : decode cX8_scoreOf 143 = .ok (.idiv, 1) := by decide +kernel
theorem dX8_scoreOf_144 : decode cX8_scoreOf 144 = .ok (.ireturn, 1) := by decide +kernel
theorem dX8_score_0 : decode cX8_score 0 = .ok (.aload_n 0, 1) := by decide +kernel
theorem dX8_score_1 : decode cX8_score 1 = .ok (.iload_n 1, 1) := by decide +kernel
theorem dX8_score_2 : decode cX8_score 2 = .ok (.invokevirtual 63, 3) := by decide +kernel
theorem dX8_score_5 : decode cX8_score 5 = .ok (.ifCond .eq 16, 3) := by decide +kernel
theorem dX8_score_8 : decode cX8_score 8 = .ok (.aload_n 0, 1) := by decide +kernel
theorem dX8_score_9 : decode cX8_score 9 = .ok (.iload_n 2, 1) := by decide +kernel
theorem dX8_score_10 : decode cX8_score 10 = .ok (.invokevirtual 63, 3) := by decide +kernel
theorem dX8_score_13 : decode cX8_score 13 = .ok (.ifCond .eq 8, 3) := by decide +kernel
theorem dX8_score_16 : decode cX8_score 16 = .ok (.iload_n 1, 1) := by decide +kernel
theorem dX8_score_17 : decode cX8_score 17 = .ok (.iload_n 2, 1) := by decide +kernel
theorem dX8_score_18 : decode cX8_score 18 = .ok (.if_icmp .ne 5, 3) := by decide +kernel
theorem dX8_score_21 : decode cX8_score 21 = .ok (.iconst (-1), 1) := by decide +kernel
theorem dX8_score_22 : decode cX8_score 22 = .ok (.ireturn, 1) := by decide +kernel
theorem dX8_score_23 : decode cX8_score 23 = .ok (.aload_n 0, 1) := by decide +kernel
theorem dX8_score_24 : decode cX8_score 24 = .ok (.invokevirtual 78, 3) := by decide +kernel
theorem dX8_score_27 : decode cX8_score 27 = .ok (.aload_n 0, 1) := by decide +kernel
theorem dX8_score_28 : decode cX8_score 28 = .ok (.iload_n 1, 1) := by decide +kernel
theorem dX8_score_29 : decode cX8_score 29 = .ok (.iload_n 2, 1) := by decide +kernel
theorem dX8_score_30 : decode cX8_score 30 = .ok (.invokevirtual 81, 3) := by decide +kernel
theorem dX8_score_33 : decode cX8_score 33 = .ok (.ireturn, 1) := by decide +kernel
theorem dX8_isOf_0 : decode cX8_isOf 0 = .ok (.aload_n 0, 1) := by decide +kernel
theorem dX8_isOf_1 : decode cX8_isOf 1 = .ok (.getfield 16, 3) := by decide +kernel
theorem dX8_isOf_4 : decode cX8_isOf 4 = .ok (.iload_n 1, 1) := by decide +kernel
theorem dX8_isOf_5 : decode cX8_isOf 5 = .ok (.iaload, 1) := by decide +kernel
theorem dX8_isOf_6 : decode cX8_isOf 6 = .ok (.iconst (-1), 1) := by decide +kernel
theorem dX8_isOf_7 : decode cX8_isOf 7 = .ok (.if_icmp .eq 24, 3) := by decide +kernel
theorem dX8_isOf_10 : decode cX8_isOf 10 = .ok (.aload_n 0, 1) := by decide +kernel
theorem dX8_isOf_11 : decode cX8_isOf 11 = .ok (.getfield 19, 3) := by decide +kernel
theorem dX8_isOf_14 : decode cX8_isOf 14 = .ok (.aload_n 0, 1) := by decide +kernel
theorem dX8_isOf_15 : decode cX8_isOf 15 = .ok (.getfield 16, 3) := by decide +kernel
theorem dX8_isOf_18 : decode cX8_isOf 18 = .ok (.iload_n 1, 1) := by decide +kernel
theorem dX8_isOf_19 : decode cX8_isOf 19 = .ok (.iaload, 1) := by decide +kernel
theorem dX8_isOf_20 : decode cX8_isOf 20 = .ok (.ishr, 1) := by decide +kernel
theorem dX8_isOf_21 : decode cX8_isOf 21 = .ok (.iconst 1, 1) := by decide +kernel
theorem dX8_isOf_22 : decode cX8_isOf 22 = .ok (.iand, 1) := by decide +kernel
theorem dX8_isOf_23 : decode cX8_isOf 23 = .ok (.iconst 1, 1) := by decide +kernel
theorem dX8_isOf_24 : decode cX8_isOf 24 = .ok (.if_icmp .ne 7, 3) := by decide +kernel
theorem dX8_isOf_27 : decode cX8_isOf 27 = .ok (.iconst 1, 1) := by decide +kernel
theorem dX8_isOf_28 : decode cX8_isOf 28 = .ok (.goto 4, 3) := by decide +kernel
theorem dX8_isOf_31 : decode cX8_isOf 31 = .ok (.iconst 0, 1) := by decide +kernel
theorem dX8_isOf_32 : decode cX8_isOf 32 = .ok (.ireturn, 1) := by decide +kernel
theorem dX8_bandOf_0 : decode cX8_bandOf 0 = .ok (.iload_n 0, 1) := by decide +kernel
theorem dX8_bandOf_1 : decode cX8_bandOf 1 = .ok (.bipush 10, 2) := by decide +kernel
theorem dX8_bandOf_3 : decode cX8_bandOf 3 = .ok (.idiv, 1) := by decide +kernel
theorem dX8_bandOf_4 : decode cX8_bandOf 4 = .ok (.bipush 9, 2) := by decide +kernel
theorem dX8_bandOf_6 : decode cX8_bandOf 6 = .ok (.if_icmp .le 8, 3) := by decide +kernel
theorem dX8_bandOf_9 : decode cX8_bandOf 9 = .ok (.bipush 9, 2) := by decide +kernel
theorem dX8_bandOf_11 : decode cX8_bandOf 11 = .ok (.goto 7, 3) := by decide +kernel
theorem dX8_bandOf_14 : decode cX8_bandOf 14 = .ok (.iload_n 0, 1) := by decide +kernel
theorem dX8_bandOf_15 : decode cX8_bandOf 15 = .ok (.bipush 10, 2) := by decide +kernel
theorem dX8_bandOf_17 : decode cX8_bandOf 17 = .ok (.idiv, 1) := by decide +kernel
theorem dX8_bandOf_18 : decode cX8_bandOf 18 = .ok (.ireturn, 1) := by decide +kernel
theorem dX8_counts_0 : decode cX8_counts 0 = .ok (.aload_n 0, 1) := by decide +kernel
theorem dX8_counts_1 : decode cX8_counts 1 = .ok (.invokevirtual 78, 3) := by decide +kernel
theorem dX8_counts_4 : decode cX8_counts 4 = .ok (.iconst 0, 1) := by decide +kernel
theorem dX8_counts_5 : decode cX8_counts 5 = .ok (.istore_n 1, 1) := by decide +kernel
theorem dX8_counts_6 : decode cX8_counts 6 = .ok (.iload_n 1, 1) := by decide +kernel
theorem dX8_counts_7 : decode cX8_counts 7 = .ok (.bipush 10, 2) := by decide +kernel
theorem dX8_counts_9 : decode cX8_counts 9 = .ok (.if_icmp .ge 23, 3) := by decide +kernel
theorem dX8_counts_12 : decode cX8_counts 12 = .ok (.aload_n 0, 1) := by decide +kernel
theorem dX8_counts_13 : decode cX8_counts 13 = .ok (.getfield 35, 3) := by decide +kernel
theorem dX8_counts_16 : decode cX8_counts 16 = .ok (.iload_n 1, 1) := by decide +kernel
theorem dX8_counts_17 : decode cX8_counts 17 = .ok (.iconst 0, 1) := by decide +kernel
theorem dX8_counts_18 : decode cX8_counts 18 = .ok (.iastore, 1) := by decide +kernel
theorem dX8_counts_19 : decode cX8_counts 19 = .ok (.aload_n 0, 1) := by decide +kernel
theorem dX8_counts_20 : decode cX8_counts 20 = .ok (.getfield 38, 3) := by decide +kernel
theorem dX8_counts_23 : decode cX8_counts 23 = .ok (.iload_n 1, 1) := by decide +kernel
theorem dX8_counts_24 : decode cX8_counts 24 = .ok (.iconst 0, 1) := by decide +kernel
theorem dX8_counts_25 : decode cX8_counts 25 = .ok (.iastore, 1) := by decide +kernel
theorem dX8_counts_26 : decode cX8_counts 26 = .ok (.iinc 1 1, 3) := by decide +kernel
theorem dX8_counts_29 : decode cX8_counts 29 = .ok (.goto (-23), 3) := by decide +kernel
theorem dX8_counts_32 : decode cX8_counts 32 = .ok (.iconst 0, 1) := by decide +kernel
theorem dX8_counts_33 : decode cX8_counts 33 = .ok (.istore_n 1, 1) := by decide +kernel
theorem dX8_counts_34 : decode cX8_counts 34 = .ok (.iload_n 1, 1) := by decide +kernel
theorem dX8_counts_35 : decode cX8_counts 35 = .ok (.aload_n 0, 1) := by decide +kernel
theorem dX8_counts_36 : decode cX8_counts 36 = .ok (.getfield 56, 3) := by decide +kernel
theorem dX8_counts_39 : decode cX8_counts 39 = .ok (.if_icmp .ge 101, 3) := by decide +kernel
theorem dX8_counts_42 : decode cX8_counts 42 = .ok (.iconst 0, 1) := by decide +kernel
theorem dX8_counts_43 : decode cX8_counts 43 = .ok (.istore_n 2, 1) := by decide +kernel
theorem dX8_counts_44 : decode cX8_counts 44 = .ok (.iload_n 2, 1) := by decide +kernel
theorem dX8_counts_45 : decode cX8_counts 45 = .ok (.iload_n 1, 1) := by decide +kernel
theorem dX8_counts_46 : decode cX8_counts 46 = .ok (.if_icmp .ge 88, 3) := by decide +kernel
theorem dX8_counts_49 : decode cX8_counts 49 = .ok (.aload_n 0, 1) := by decide +kernel
theorem dX8_counts_50 : decode cX8_counts 50 = .ok (.iload_n 1, 1) := by decide +kernel
theorem dX8_counts_51 : decode cX8_counts 51 = .ok (.invokevirtual 84, 3) := by decide +kernel
theorem dX8_counts_54 : decode cX8_counts 54 = .ok (.ifCond .eq 20, 3) := by decide +kernel
theorem dX8_counts_57 : decode cX8_counts 57 = .ok (.aload_n 0, 1) := by decide +kernel
theorem dX8_counts_58 : decode cX8_counts 58 = .ok (.iload_n 2, 1) := by decide +kernel
theorem dX8_counts_59 : decode cX8_counts 59 = .ok (.invokevirtual 84, 3) := by decide +kernel
theorem dX8_counts_62 : decode cX8_counts 62 = .ok (.ifCond .eq 12, 3) := by decide +kernel
theorem dX8_counts_65 : decode cX8_counts 65 = .ok (.aload_n 0, 1) := by decide +kernel
theorem dX8_counts_66 : decode cX8_counts 66 = .ok (.iload_n 1, 1) := by decide +kernel
theorem dX8_counts_67 : decode cX8_counts 67 = .ok (.iload_n 2, 1) := by decide +kernel
theorem dX8_counts_68 : decode cX8_counts 68 = .ok (.invokevirtual 81, 3) := by decide +kernel
theorem dX8_counts_71 : decode cX8_counts 71 = .ok (.goto 4, 3) := by decide +kernel
theorem dX8_counts_74 : decode cX8_counts 74 = .ok (.iconst (-1), 1) := by decide +kernel
theorem dX8_counts_75 : decode cX8_counts 75 = .ok (.istore_n 3, 1) := by decide +kernel
theorem dX8_counts_76 : decode cX8_counts 76 = .ok (.iload_n 3, 1) := by decide +kernel
theorem dX8_counts_77 : decode cX8_counts 77 = .ok (.iconst (-1), 1) := by decide +kernel
theorem dX8_counts_78 : decode cX8_counts 78 = .ok (.if_icmp .ne 6, 3) := by decide +kernel
theorem dX8_counts_81 : decode cX8_counts 81 = .ok (.goto 47, 3) := by decide +kernel
theorem dX8_counts_84 : decode cX8_counts 84 = .ok (.aload_n 0, 1) := by decide +kernel
theorem dX8_counts_85 : decode cX8_counts 85 = .ok (.getfield 16, 3) := by decide +kernel
theorem dX8_counts_88 : decode cX8_counts 88 = .ok (.iload_n 1, 1) := by decide +kernel
theorem dX8_counts_89 : decode cX8_counts 89 = .ok (.iaload, 1) := by decide +kernel
theorem dX8_counts_90 : decode cX8_counts 90 = .ok (.aload_n 0, 1) := by decide +kernel
theorem dX8_counts_91 : decode cX8_counts 91 = .ok (.getfield 16, 3) := by decide +kernel
theorem dX8_counts_94 : decode cX8_counts 94 = .ok (.iload_n 2, 1) := by decide +kernel
theorem dX8_counts_95 : decode cX8_counts 95 = .ok (.iaload, 1) := by decide +kernel
theorem dX8_counts_96 : decode cX8_counts 96 = .ok (.if_icmp .ne 19, 3) := by decide +kernel
theorem dX8_counts_99 : decode cX8_counts 99 = .ok (.aload_n 0, 1) := by decide +kernel
theorem dX8_counts_100 : decode cX8_counts 100 = .ok (.getfield 35, 3) := by decide +kernel
theorem dX8_counts_103 : decode cX8_counts 103 = .ok (.iload_n 3, 1) := by decide +kernel
theorem dX8_counts_104 : decode cX8_counts 104 = .ok (.invokestatic 87, 3) := by decide +kernel
theorem dX8_counts_107 : decode cX8_counts 107 = .ok (.dup2, 1) := by decide +kernel
theorem dX8_counts_108 : decode cX8_counts 108 = .ok (.iaload, 1) := by decide +kernel
theorem dX8_counts_109 : decode cX8_counts 109 = .ok (.iconst 1, 1) := by decide +kernel
theorem dX8_counts_110 : decode cX8_counts 110 = .ok (.iadd, 1) := by decide +kernel
theorem dX8_counts_111 : decode cX8_counts 111 = .ok (.iastore, 1) := by decide +kernel
theorem dX8_counts_112 : decode cX8_counts 112 = .ok (.goto 16, 3) := by decide +kernel
theorem dX8_counts_115 : decode cX8_counts 115 = .ok (.aload_n 0, 1) := by decide +kernel
theorem dX8_counts_116 : decode cX8_counts 116 = .ok (.getfield 38, 3) := by decide +kernel
theorem dX8_counts_119 : decode cX8_counts 119 = .ok (.iload_n 3, 1) := by decide +kernel
theorem dX8_counts_120 : decode cX8_counts 120 = .ok (.invokestatic 87, 3) := by decide +kernel
theorem dX8_counts_123 : decode cX8_counts 123 = .ok (.dup2, 1) := by decide +kernel
theorem dX8_counts_124 : decode cX8_counts 124 = .ok (.iaload, 1) := by decide +kernel
theorem dX8_counts_125 : decode cX8_counts 125 = .ok (.iconst 1, 1) := by decide +kernel
theorem dX8_counts_126 : decode cX8_counts 126 = .ok (.iadd, 1) := by decide +kernel
theorem dX8_counts_127 : decode cX8_counts 127 = .ok (.iastore, 1) := by decide +kernel
theorem dX8_counts_128 : decode cX8_counts 128 = .ok (.iinc 2 1, 3) := by decide +kernel
theorem dX8_counts_131 : decode cX8_counts 131 = .ok (.goto (-87), 3) := by decide +kernel
theorem dX8_counts_134 : decode cX8_counts 134 = .ok (.iinc 1 1, 3) := by decide +kernel
theorem dX8_counts_137 : decode cX8_counts 137 = .ok (.goto (-103), 3) := by decide +kernel
theorem dX8_counts_140 : decode cX8_counts 140 = .ok (.return_, 1) := by decide +kernel
theorem dX8_sumOf_0 : decode cX8_sumOf 0 = .ok (.iconst 0, 1) := by decide +kernel
theorem dX8_sumOf_1 : decode cX8_sumOf 1 = .ok (.istore_n 3, 1) := by decide +kernel
theorem dX8_sumOf_2 : decode cX8_sumOf 2 = .ok (.iconst 0, 1) := by decide +kernel
theorem dX8_sumOf_3 : decode cX8_sumOf 3 = .ok (.istore 4, 2) := by decide +kernel
theorem dX8_sumOf_5 : decode cX8_sumOf 5 = .ok (.iload 4, 2) := by decide +kernel
theorem dX8_sumOf_7 : decode cX8_sumOf 7 = .ok (.bipush 10, 2) := by decide +kernel
theorem dX8_sumOf_9 : decode cX8_sumOf 9 = .ok (.if_icmp .ge 44, 3) := by decide +kernel
theorem dX8_sumOf_12 : decode cX8_sumOf 12 = .ok (.aload_n 0, 1) := by decide +kernel
theorem dX8_sumOf_13 : decode cX8_sumOf 13 = .ok (.getfield 41, 3) := by decide +kernel
theorem dX8_sumOf_16 : decode cX8_sumOf 16 = .ok (.iload 4, 2) := by decide +kernel
theorem dX8_sumOf_18 : decode cX8_sumOf 18 = .ok (.iaload, 1) := by decide +kernel
theorem dX8_sumOf_19 : decode cX8_sumOf 19 = .ok (.iload_n 1, 1) := by decide +kernel
theorem dX8_sumOf_20 : decode cX8_sumOf 20 = .ok (.if_icmp .ne 27, 3) := by decide +kernel
theorem dX8_sumOf_23 : decode cX8_sumOf 23 = .ok (.iload_n 3, 1) := by decide +kernel
theorem dX8_sumOf_24 : decode cX8_sumOf 24 = .ok (.iload_n 2, 1) := by decide +kernel
theorem dX8_sumOf_25 : decode cX8_sumOf 25 = .ok (.ifCond .eq 13, 3) := by decide +kernel
theorem dX8_sumOf_28 : decode cX8_sumOf 28 = .ok (.aload_n 0, 1) := by decide +kernel
theorem dX8_sumOf_29 : decode cX8_sumOf 29 = .ok (.getfield 35, 3) := by decide +kernel
theorem dX8_sumOf_32 : decode cX8_sumOf 32 = .ok (.iload 4, 2) := by decide +kernel
theorem dX8_sumOf_34 : decode cX8_sumOf 34 = .ok (.iaload, 1) := by decide +kernel
theorem dX8_sumOf_35 : decode cX8_sumOf 35 = .ok (.goto 10, 3) := by decide +kernel
theorem dX8_sumOf_38 : decode cX8_sumOf 38 = .ok (.aload_n 0, 1) := by decide +kernel
theorem dX8_sumOf_39 : decode cX8_sumOf 39 = .ok (.getfield 38, 3) := by decide +kernel
theorem dX8_sumOf_42 : decode cX8_sumOf 42 = .ok (.iload 4, 2) := by decide +kernel
theorem dX8_sumOf_44 : decode cX8_sumOf 44 = .ok (.iaload, 1) := by decide +kernel
theorem dX8_sumOf_45 : decode cX8_sumOf 45 = .ok (.iadd, 1) := by decide +kernel
theorem dX8_sumOf_46 : decode cX8_sumOf 46 = .ok (.istore_n 3, 1) := by decide +kernel
theorem dX8_sumOf_47 : decode cX8_sumOf 47 = .ok (.iinc 4 1, 3) := by decide +kernel
theorem dX8_sumOf_50 : decode cX8_sumOf 50 = .ok (.goto (-45), 3) := by decide +kernel
theorem dX8_sumOf_53 : decode cX8_sumOf 53 = .ok (.iload_n 3, 1) := by decide +kernel
theorem dX8_sumOf_54 : decode cX8_sumOf 54 = .ok (.ireturn, 1) := by decide +kernel
theorem dX8_nextBlock_0 : decode cX8_nextBlock 0 = .ok (.iload_n 1, 1) := by decide +kernel
theorem dX8_nextBlock_1 : decode cX8_nextBlock 1 = .ok (.iconst 1, 1) := by decide +kernel
theorem dX8_nextBlock_2 : decode cX8_nextBlock 2 = .ok (.iadd, 1) := by decide +kernel
theorem dX8_nextBlock_3 : decode cX8_nextBlock 3 = .ok (.istore_n 2, 1) := by decide +kernel
theorem dX8_nextBlock_4 : decode cX8_nextBlock 4 = .ok (.iload_n 2, 1) := by decide +kernel
theorem dX8_nextBlock_5 : decode cX8_nextBlock 5 = .ok (.bipush 10, 2) := by decide +kernel
theorem dX8_nextBlock_7 : decode cX8_nextBlock 7 = .ok (.if_icmp .ge 21, 3) := by decide +kernel
theorem dX8_nextBlock_10 : decode cX8_nextBlock 10 = .ok (.aload_n 0, 1) := by decide +kernel
theorem dX8_nextBlock_11 : decode cX8_nextBlock 11 = .ok (.getfield 41, 3) := by decide +kernel
theorem dX8_nextBlock_14 : decode cX8_nextBlock 14 = .ok (.iload_n 2, 1) := by decide +kernel
theorem dX8_nextBlock_15 : decode cX8_nextBlock 15 = .ok (.iaload, 1) := by decide +kernel
theorem dX8_nextBlock_16 : decode cX8_nextBlock 16 = .ok (.iload_n 2, 1) := by decide +kernel
theorem dX8_nextBlock_17 : decode cX8_nextBlock 17 = .ok (.if_icmp .ne 5, 3) := by decide +kernel
theorem dX8_nextBlock_20 : decode cX8_nextBlock 20 = .ok (.iload_n 2, 1) := by decide +kernel
theorem dX8_nextBlock_21 : decode cX8_nextBlock 21 = .ok (.ireturn, 1) := by decide +kernel
theorem dX8_nextBlock_22 : decode cX8_nextBlock 22 = .ok (.iinc 2 1, 3) := by decide +kernel
theorem dX8_nextBlock_25 : decode cX8_nextBlock 25 = .ok (.goto (-21), 3) := by decide +kernel
theorem dX8_nextBlock_28 : decode cX8_nextBlock 28 = .ok (.iconst (-1), 1) := by decide +kernel
theorem dX8_nextBlock_29 : decode cX8_nextBlock 29 = .ok (.ireturn, 1) := by decide +kernel
theorem dX8_isOut_0 : decode cX8_isOut 0 = .ok (.aload_n 0, 1) := by decide +kernel
theorem dX8_isOut_1 : decode cX8_isOut 1 = .ok (.iload_n 1, 1) := by decide +kernel
theorem dX8_isOut_2 : decode cX8_isOut 2 = .ok (.iconst 1, 1) := by decide +kernel
theorem dX8_isOut_3 : decode cX8_isOut 3 = .ok (.invokevirtual 91, 3) := by decide +kernel
theorem dX8_isOut_6 : decode cX8_isOut 6 = .ok (.istore_n 3, 1) := by decide +kernel
theorem dX8_isOut_7 : decode cX8_isOut 7 = .ok (.aload_n 0, 1) := by decide +kernel
theorem dX8_isOut_8 : decode cX8_isOut 8 = .ok (.iload_n 2, 1) := by decide +kernel
theorem dX8_isOut_9 : decode cX8_isOut 9 = .ok (.iconst 1, 1) := by decide +kernel
theorem dX8_isOut_10 : decode cX8_isOut 10 = .ok (.invokevirtual 91, 3) := by decide +kernel
theorem dX8_isOut_13 : decode cX8_isOut 13 = .ok (.istore 4, 2) := by decide +kernel
theorem dX8_isOut_15 : decode cX8_isOut 15 = .ok (.iload 4, 2) := by decide +kernel
theorem dX8_isOut_17 : decode cX8_isOut 17 = .ok (.iload_n 3, 1) := by decide +kernel
theorem dX8_isOut_18 : decode cX8_isOut 18 = .ok (.aload_n 0, 1) := by decide +kernel
theorem dX8_isOut_19 : decode cX8_isOut 19 = .ok (.iload_n 1, 1) := by decide +kernel
theorem dX8_isOut_20 : decode cX8_isOut 20 = .ok (.iconst 0, 1) := by decide +kernel
theorem dX8_isOut_21 : decode cX8_isOut 21 = .ok (.invokevirtual 91, 3) := by decide +kernel
theorem dX8_isOut_24 : decode cX8_isOut 24 = .ok (.iadd, 1) := by decide +kernel
theorem dX8_isOut_25 : decode cX8_isOut 25 = .ok (.imul, 1) := by decide +kernel
theorem dX8_isOut_26 : decode cX8_isOut 26 = .ok (.iload_n 3, 1) := by decide +kernel
theorem dX8_isOut_27 : decode cX8_isOut 27 = .ok (.iload 4, 2) := by decide +kernel
theorem dX8_isOut_29 : decode cX8_isOut 29 = .ok (.aload_n 0, 1) := by decide +kernel
theorem dX8_isOut_30 : decode cX8_isOut 30 = .ok (.iload_n 2, 1) := by decide +kernel
theorem dX8_isOut_31 : decode cX8_isOut 31 = .ok (.iconst 0, 1) := by decide +kernel
theorem dX8_isOut_32 : decode cX8_isOut 32 = .ok (.invokevirtual 91, 3) := by decide +kernel
theorem dX8_isOut_35 : decode cX8_isOut 35 = .ok (.iadd, 1) := by decide +kernel
theorem dX8_isOut_36 : decode cX8_isOut 36 = .ok (.imul, 1) := by decide +kernel
theorem dX8_isOut_37 : decode cX8_isOut 37 = .ok (.if_icmp .lt 7, 3) := by decide +kernel
theorem dX8_isOut_40 : decode cX8_isOut 40 = .ok (.iconst 1, 1) := by decide +kernel
theorem dX8_isOut_41 : decode cX8_isOut 41 = .ok (.goto 4, 3) := by decide +kernel
theorem dX8_isOut_44 : decode cX8_isOut 44 = .ok (.iconst 0, 1) := by decide +kernel
theorem dX8_isOut_45 : decode cX8_isOut 45 = .ok (.ireturn, 1) := by decide +kernel
theorem dX8_blocks_0 : decode cX8_blocks 0 = .ok (.aload_n 0, 1) := by decide +kernel
theorem dX8_blocks_1 : decode cX8_blocks 1 = .ok (.invokevirtual 95, 3) := by decide +kernel
theorem dX8_blocks_4 : decode cX8_blocks 4 = .ok (.iconst 0, 1) := by decide +kernel
theorem dX8_blocks_5 : decode cX8_blocks 5 = .ok (.istore_n 1, 1) := by decide +kernel
theorem dX8_blocks_6 : decode cX8_blocks 6 = .ok (.iload_n 1, 1) := by decide +kernel
theorem dX8_blocks_7 : decode cX8_blocks 7 = .ok (.bipush 10, 2) := by decide +kernel
theorem dX8_blocks_9 : decode cX8_blocks 9 = .ok (.if_icmp .ge 36, 3) := by decide +kernel
theorem dX8_blocks_12 : decode cX8_blocks 12 = .ok (.aload_n 0, 1) := by decide +kernel
theorem dX8_blocks_13 : decode cX8_blocks 13 = .ok (.getfield 41, 3) := by decide +kernel
theorem dX8_blocks_16 : decode cX8_blocks 16 = .ok (.iload_n 1, 1) := by decide +kernel
theorem dX8_blocks_17 : decode cX8_blocks 17 = .ok (.aload_n 0, 1) := by decide +kernel
theorem dX8_blocks_18 : decode cX8_blocks 18 = .ok (.getfield 35, 3) := by decide +kernel
theorem dX8_blocks_21 : decode cX8_blocks 21 = .ok (.iload_n 1, 1) := by decide +kernel
theorem dX8_blocks_22 : decode cX8_blocks 22 = .ok (.iaload, 1) := by decide +kernel
theorem dX8_blocks_23 : decode cX8_blocks 23 = .ok (.aload_n 0, 1) := by decide +kernel
theorem dX8_blocks_24 : decode cX8_blocks 24 = .ok (.getfield 38, 3) := by decide +kernel
theorem dX8_blocks_27 : decode cX8_blocks 27 = .ok (.iload_n 1, 1) := by decide +kernel
theorem dX8_blocks_28 : decode cX8_blocks 28 = .ok (.iaload, 1) := by decide +kernel
theorem dX8_blocks_29 : decode cX8_blocks 29 = .ok (.iadd, 1) := by decide +kernel
theorem dX8_blocks_30 : decode cX8_blocks 30 = .ok (.ifCond .le 7, 3) := by decide +kernel
theorem dX8_blocks_33 : decode cX8_blocks 33 = .ok (.iload_n 1, 1) := by decide +kernel
theorem dX8_blocks_34 : decode cX8_blocks 34 = .ok (.goto 4, 3) := by decide +kernel
theorem dX8_blocks_37 : decode cX8_blocks 37 = .ok (.iconst (-1), 1) := by decide +kernel
theorem dX8_blocks_38 : decode cX8_blocks 38 = .ok (.iastore, 1) := by decide +kernel
theorem dX8_blocks_39 : decode cX8_blocks 39 = .ok (.iinc 1 1, 3) := by decide +kernel
theorem dX8_blocks_42 : decode cX8_blocks 42 = .ok (.goto (-36), 3) := by decide +kernel
theorem dX8_blocks_45 : decode cX8_blocks 45 = .ok (.iconst 1, 1) := by decide +kernel
theorem dX8_blocks_46 : decode cX8_blocks 46 = .ok (.istore_n 1, 1) := by decide +kernel
theorem dX8_blocks_47 : decode cX8_blocks 47 = .ok (.iload_n 1, 1) := by decide +kernel
theorem dX8_blocks_48 : decode cX8_blocks 48 = .ok (.ifCond .eq 100, 3) := by decide +kernel
theorem dX8_blocks_51 : decode cX8_blocks 51 = .ok (.iconst 0, 1) := by decide +kernel
theorem dX8_blocks_52 : decode cX8_blocks 52 = .ok (.istore_n 1, 1) := by decide +kernel
theorem dX8_blocks_53 : decode cX8_blocks 53 = .ok (.iconst 0, 1) := by decide +kernel
theorem dX8_blocks_54 : decode cX8_blocks 54 = .ok (.istore_n 2, 1) := by decide +kernel
theorem dX8_blocks_55 : decode cX8_blocks 55 = .ok (.iload_n 2, 1) := by decide +kernel
theorem dX8_blocks_56 : decode cX8_blocks 56 = .ok (.bipush 10, 2) := by decide +kernel
theorem dX8_blocks_58 : decode cX8_blocks 58 = .ok (.if_icmp .ge 87, 3) := by decide +kernel
theorem dX8_blocks_61 : decode cX8_blocks 61 = .ok (.iload_n 1, 1) := by decide +kernel
theorem dX8_blocks_62 : decode cX8_blocks 62 = .ok (.ifCond .ne 83, 3) := by decide +kernel
theorem dX8_blocks_65 : decode cX8_blocks 65 = .ok (.aload_n 0, 1) := by decide +kernel
theorem dX8_blocks_66 : decode cX8_blocks 66 = .ok (.getfield 41, 3) := by decide +kernel
theorem dX8_blocks_69 : decode cX8_blocks 69 = .ok (.iload_n 2, 1) := by decide +kernel
theorem dX8_blocks_70 : decode cX8_blocks 70 = .ok (.iaload, 1) := by decide +kernel
theorem dX8_blocks_71 : decode cX8_blocks 71 = .ok (.iload_n 2, 1) := by decide +kernel
theorem dX8_blocks_72 : decode cX8_blocks 72 = .ok (.if_icmp .ne 11, 3) := by decide +kernel
theorem dX8_blocks_75 : decode cX8_blocks 75 = .ok (.aload_n 0, 1) := by decide +kernel
theorem dX8_blocks_76 : decode cX8_blocks 76 = .ok (.iload_n 2, 1) := by decide +kernel
theorem dX8_blocks_77 : decode cX8_blocks 77 = .ok (.invokevirtual 98, 3) := by decide +kernel
theorem dX8_blocks_80 : decode cX8_blocks 80 = .ok (.goto 4, 3) := by decide +kernel
theorem dX8_blocks_83 : decode cX8_blocks 83 = .ok (.iconst (-1), 1) := by decide +kernel
theorem dX8_blocks_84 : decode cX8_blocks 84 = .ok (.istore_n 3, 1) := by decide +kernel
theorem dX8_blocks_85 : decode cX8_blocks 85 = .ok (.iload_n 3, 1) := by decide +kernel
theorem dX8_blocks_86 : decode cX8_blocks 86 = .ok (.iconst (-1), 1) := by decide +kernel
theorem dX8_blocks_87 : decode cX8_blocks 87 = .ok (.if_icmp .eq 52, 3) := by decide +kernel
theorem dX8_blocks_90 : decode cX8_blocks 90 = .ok (.aload_n 0, 1) := by decide +kernel
theorem dX8_blocks_91 : decode cX8_blocks 91 = .ok (.iload_n 2, 1) := by decide +kernel
theorem dX8_blocks_92 : decode cX8_blocks 92 = .ok (.iload_n 3, 1) := by decide +kernel
theorem dX8_blocks_93 : decode cX8_blocks 93 = .ok (.invokevirtual 101, 3) := by decide +kernel
theorem dX8_blocks_96 : decode cX8_blocks 96 = .ok (.ifCond .ne 6, 3) := by decide +kernel
theorem dX8_blocks_99 : decode cX8_blocks 99 = .ok (.goto 40, 3) := by decide +kernel
theorem dX8_blocks_102 : decode cX8_blocks 102 = .ok (.iconst 0, 1) := by decide +kernel
theorem dX8_blocks_103 : decode cX8_blocks 103 = .ok (.istore 4, 2) := by decide +kernel
theorem dX8_blocks_105 : decode cX8_blocks 105 = .ok (.iload 4, 2) := by decide +kernel
theorem dX8_blocks_107 : decode cX8_blocks 107 = .ok (.bipush 10, 2) := by decide +kernel
theorem dX8_blocks_109 : decode cX8_blocks 109 = .ok (.if_icmp .ge 28, 3) := by decide +kernel
theorem dX8_blocks_112 : decode cX8_blocks 112 = .ok (.aload_n 0, 1) := by decide +kernel
theorem dX8_blocks_113 : decode cX8_blocks 113 = .ok (.getfield 41, 3) := by decide +kernel
theorem dX8_blocks_116 : decode cX8_blocks 116 = .ok (.iload 4, 2) := by decide +kernel
theorem dX8_blocks_118 : decode cX8_blocks 118 = .ok (.iaload, 1) := by decide +kernel
theorem dX8_blocks_119 : decode cX8_blocks 119 = .ok (.iload_n 3, 1) := by decide +kernel
theorem dX8_blocks_120 : decode cX8_blocks 120 = .ok (.if_icmp .ne 11, 3) := by decide +kernel
theorem dX8_blocks_123 : decode cX8_blocks 123 = .ok (.aload_n 0, 1) := by decide +kernel
theorem dX8_blocks_124 : decode cX8_blocks 124 = .ok (.getfield 41, 3) := by decide +kernel
theorem dX8_blocks_127 : decode cX8_blocks 127 = .ok (.iload 4, 2) := by decide +kernel
theorem dX8_blocks_129 : decode cX8_blocks 129 = .ok (.iload_n 2, 1) := by decide +kernel
theorem dX8_blocks_130 : decode cX8_blocks 130 = .ok (.iastore, 1) := by decide +kernel
theorem dX8_blocks_131 : decode cX8_blocks 131 = .ok (.iinc 4 1, 3) := by decide +kernel
theorem dX8_blocks_134 : decode cX8_blocks 134 = .ok (.goto (-29), 3) := by decide +kernel
theorem dX8_blocks_137 : decode cX8_blocks 137 = .ok (.iconst 1, 1) := by decide +kernel
theorem dX8_blocks_138 : decode cX8_blocks 138 = .ok (.istore_n 1, 1) := by decide +kernel
theorem dX8_blocks_139 : decode cX8_blocks 139 = .ok (.iinc 2 1, 3) := by decide +kernel
theorem dX8_blocks_142 : decode cX8_blocks 142 = .ok (.goto (-87), 3) := by decide +kernel
theorem dX8_blocks_145 : decode cX8_blocks 145 = .ok (.goto (-98), 3) := by decide +kernel
theorem dX8_blocks_148 : decode cX8_blocks 148 = .ok (.return_, 1) := by decide +kernel
theorem dX8_band_0 : decode cX8_band 0 = .ok (.iload_n 1, 1) := by decide +kernel
theorem dX8_band_1 : decode cX8_band 1 = .ok (.iconst 0, 1) := by decide +kernel
theorem dX8_band_2 : decode cX8_band 2 = .ok (.bipush 9, 2) := by decide +kernel
theorem dX8_band_4 : decode cX8_band 4 = .ok (.invokestatic 59, 3) := by decide +kernel
theorem dX8_band_7 : decode cX8_band 7 = .ok (.ifCond .eq 12, 3) := by decide +kernel
theorem dX8_band_10 : decode cX8_band 10 = .ok (.iload_n 2, 1) := by decide +kernel
theorem dX8_band_11 : decode cX8_band 11 = .ok (.iconst 0, 1) := by decide +kernel
theorem dX8_band_12 : decode cX8_band 12 = .ok (.iconst 1, 1) := by decide +kernel
theorem dX8_band_13 : decode cX8_band 13 = .ok (.invokestatic 59, 3) := by decide +kernel
theorem dX8_band_16 : decode cX8_band 16 = .ok (.ifCond .ne 5, 3) := by decide +kernel
theorem dX8_band_19 : decode cX8_band 19 = .ok (.iconst (-1), 1) := by decide +kernel
theorem dX8_band_20 : decode cX8_band 20 = .ok (.ireturn, 1) := by decide +kernel
theorem dX8_band_21 : decode cX8_band 21 = .ok (.aload_n 0, 1) := by decide +kernel
theorem dX8_band_22 : decode cX8_band 22 = .ok (.invokevirtual 95, 3) := by decide +kernel
theorem dX8_band_25 : decode cX8_band 25 = .ok (.iload_n 2, 1) := by decide +kernel
theorem dX8_band_26 : decode cX8_band 26 = .ok (.ifCond .ne 12, 3) := by decide +kernel
theorem dX8_band_29 : decode cX8_band 29 = .ok (.aload_n 0, 1) := by decide +kernel
theorem dX8_band_30 : decode cX8_band 30 = .ok (.getfield 35, 3) := by decide +kernel
theorem dX8_band_33 : decode cX8_band 33 = .ok (.iload_n 1, 1) := by decide +kernel
theorem dX8_band_34 : decode cX8_band 34 = .ok (.iaload, 1) := by decide +kernel
theorem dX8_band_35 : decode cX8_band 35 = .ok (.goto 9, 3) := by decide +kernel
theorem dX8_band_38 : decode cX8_band 38 = .ok (.aload_n 0, 1) := by decide +kernel
theorem dX8_band_39 : decode cX8_band 39 = .ok (.getfield 38, 3) := by decide +kernel
theorem dX8_band_42 : decode cX8_band 42 = .ok (.iload_n 1, 1) := by decide +kernel
theorem dX8_band_43 : decode cX8_band 43 = .ok (.iaload, 1) := by decide +kernel
theorem dX8_band_44 : decode cX8_band 44 = .ok (.ireturn, 1) := by decide +kernel
theorem dX8_block_0 : decode cX8_block 0 = .ok (.iload_n 1, 1) := by decide +kernel
theorem dX8_block_1 : decode cX8_block 1 = .ok (.iconst 0, 1) := by decide +kernel
theorem dX8_block_2 : decode cX8_block 2 = .ok (.bipush 9, 2) := by decide +kernel
theorem dX8_block_4 : decode cX8_block 4 = .ok (.invokestatic 59, 3) := by decide +kernel
theorem dX8_block_7 : decode cX8_block 7 = .ok (.ifCond .eq 12, 3) := by decide +kernel
theorem dX8_block_10 : decode cX8_block 10 = .ok (.iload_n 2, 1) := by decide +kernel
theorem dX8_block_11 : decode cX8_block 11 = .ok (.iconst 0, 1) := by decide +kernel
theorem dX8_block_12 : decode cX8_block 12 = .ok (.iconst 1, 1) := by decide +kernel
theorem dX8_block_13 : decode cX8_block 13 = .ok (.invokestatic 59, 3) := by decide +kernel
theorem dX8_block_16 : decode cX8_block 16 = .ok (.ifCond .ne 5, 3) := by decide +kernel
theorem dX8_block_19 : decode cX8_block 19 = .ok (.iconst (-1), 1) := by decide +kernel
theorem dX8_block_20 : decode cX8_block 20 = .ok (.ireturn, 1) := by decide +kernel
theorem dX8_block_21 : decode cX8_block 21 = .ok (.aload_n 0, 1) := by decide +kernel
theorem dX8_block_22 : decode cX8_block 22 = .ok (.invokevirtual 105, 3) := by decide +kernel
theorem dX8_block_25 : decode cX8_block 25 = .ok (.iload_n 2, 1) := by decide +kernel
theorem dX8_block_26 : decode cX8_block 26 = .ok (.ifCond .eq 13, 3) := by decide +kernel
theorem dX8_block_29 : decode cX8_block 29 = .ok (.aload_n 0, 1) := by decide +kernel
theorem dX8_block_30 : decode cX8_block 30 = .ok (.getfield 41, 3) := by decide +kernel
theorem dX8_block_33 : decode cX8_block 33 = .ok (.iload_n 1, 1) := by decide +kernel
theorem dX8_block_34 : decode cX8_block 34 = .ok (.iaload, 1) := by decide +kernel
theorem dX8_block_35 : decode cX8_block 35 = .ok (.iconst (-1), 1) := by decide +kernel
theorem dX8_block_36 : decode cX8_block 36 = .ok (.if_icmp .ne 10, 3) := by decide +kernel
theorem dX8_block_39 : decode cX8_block 39 = .ok (.aload_n 0, 1) := by decide +kernel
theorem dX8_block_40 : decode cX8_block 40 = .ok (.getfield 41, 3) := by decide +kernel
theorem dX8_block_43 : decode cX8_block 43 = .ok (.iload_n 1, 1) := by decide +kernel
theorem dX8_block_44 : decode cX8_block 44 = .ok (.iaload, 1) := by decide +kernel
theorem dX8_block_45 : decode cX8_block 45 = .ok (.ireturn, 1) := by decide +kernel
theorem dX8_block_46 : decode cX8_block 46 = .ok (.iload_n 1, 1) := by decide +kernel
theorem dX8_block_47 : decode cX8_block 47 = .ok (.istore_n 3, 1) := by decide +kernel
theorem dX8_block_48 : decode cX8_block 48 = .ok (.iload_n 1, 1) := by decide +kernel
theorem dX8_block_49 : decode cX8_block 49 = .ok (.istore 4, 2) := by decide +kernel
theorem dX8_block_51 : decode cX8_block 51 = .ok (.iload 4, 2) := by decide +kernel
theorem dX8_block_53 : decode cX8_block 53 = .ok (.bipush 10, 2) := by decide +kernel
theorem dX8_block_55 : decode cX8_block 55 = .ok (.if_icmp .ge 28, 3) := by decide +kernel
theorem dX8_block_58 : decode cX8_block 58 = .ok (.aload_n 0, 1) := by decide +kernel
theorem dX8_block_59 : decode cX8_block 59 = .ok (.getfield 41, 3) := by decide +kernel
theorem dX8_block_62 : decode cX8_block 62 = .ok (.iload 4, 2) := by decide +kernel
theorem dX8_block_64 : decode cX8_block 64 = .ok (.iaload, 1) := by decide +kernel
theorem dX8_block_65 : decode cX8_block 65 = .ok (.aload_n 0, 1) := by decide +kernel
theorem dX8_block_66 : decode cX8_block 66 = .ok (.getfield 41, 3) := by decide +kernel
theorem dX8_block_69 : decode cX8_block 69 = .ok (.iload_n 1, 1) := by decide +kernel
theorem dX8_block_70 : decode cX8_block 70 = .ok (.iaload, 1) := by decide +kernel
theorem dX8_block_71 : decode cX8_block 71 = .ok (.if_icmp .ne 6, 3) := by decide +kernel
theorem dX8_block_74 : decode cX8_block 74 = .ok (.iload 4, 2) := by decide +kernel
theorem dX8_block_76 : decode cX8_block 76 = .ok (.istore_n 3, 1) := by decide +kernel
theorem dX8_block_77 : decode cX8_block 77 = .ok (.iinc 4 1, 3) := by decide +kernel
theorem dX8_block_80 : decode cX8_block 80 = .ok (.goto (-29), 3) := by decide +kernel
theorem dX8_block_83 : decode cX8_block 83 = .ok (.iload_n 3, 1) := by decide +kernel
theorem dX8_block_84 : decode cX8_block 84 = .ok (.ireturn, 1) := by decide +kernel
theorem dX8_all_0 : decode cX8_all 0 = .ok (.iconst 0, 1) := by decide +kernel
theorem dX8_all_1 : decode cX8_all 1 = .ok (.istore_n 1, 1) := by decide +kernel
theorem dX8_all_2 : decode cX8_all 2 = .ok (.iconst 0, 1) := by decide +kernel
theorem dX8_all_3 : decode cX8_all 3 = .ok (.istore_n 2, 1) := by decide +kernel
theorem dX8_all_4 : decode cX8_all 4 = .ok (.iload_n 2, 1) := by decide +kernel
theorem dX8_all_5 : decode cX8_all 5 = .ok (.bipush 10, 2) := by decide +kernel
theorem dX8_all_7 : decode cX8_all 7 = .ok (.if_icmp .ge 15, 3) := by decide +kernel
theorem dX8_all_10 : decode cX8_all 10 = .ok (.iload_n 1, 1) := by decide +kernel
theorem dX8_all_11 : decode cX8_all 11 = .ok (.aload_n 0, 1) := by decide +kernel
theorem dX8_all_12 : decode cX8_all 12 = .ok (.iload_n 2, 1) := by decide +kernel
theorem dX8_all_13 : decode cX8_all 13 = .ok (.iaload, 1) := by decide +kernel
theorem dX8_all_14 : decode cX8_all 14 = .ok (.iadd, 1) := by decide +kernel
theorem dX8_all_15 : decode cX8_all 15 = .ok (.istore_n 1, 1) := by decide +kernel
theorem dX8_all_16 : decode cX8_all 16 = .ok (.iinc 2 1, 3) := by decide +kernel
theorem dX8_all_19 : decode cX8_all 19 = .ok (.goto (-15), 3) := by decide +kernel
theorem dX8_all_22 : decode cX8_all 22 = .ok (.iload_n 1, 1) := by decide +kernel
theorem dX8_all_23 : decode cX8_all 23 = .ok (.ireturn, 1) := by decide +kernel
theorem dX8_odds_0 : decode cX8_odds 0 = .ok (.iload_n 1, 1) := by decide +kernel
theorem dX8_odds_1 : decode cX8_odds 1 = .ok (.ifCond .ge 5, 3) := by decide +kernel
theorem dX8_odds_4 : decode cX8_odds 4 = .ok (.iconst (-1), 1) := by decide +kernel
theorem dX8_odds_5 : decode cX8_odds 5 = .ok (.ireturn, 1) := by decide +kernel
theorem dX8_odds_6 : decode cX8_odds 6 = .ok (.aload_n 0, 1) := by decide +kernel
theorem dX8_odds_7 : decode cX8_odds 7 = .ok (.invokevirtual 105, 3) := by decide +kernel
theorem dX8_odds_10 : decode cX8_odds 10 = .ok (.aload_n 0, 1) := by decide +kernel
theorem dX8_odds_11 : decode cX8_odds 11 = .ok (.getfield 41, 3) := by decide +kernel
theorem dX8_odds_14 : decode cX8_odds 14 = .ok (.iload_n 1, 1) := by decide +kernel
theorem dX8_odds_15 : decode cX8_odds 15 = .ok (.invokestatic 87, 3) := by decide +kernel
theorem dX8_odds_18 : decode cX8_odds 18 = .ok (.iaload, 1) := by decide +kernel
theorem dX8_odds_19 : decode cX8_odds 19 = .ok (.istore_n 3, 1) := by decide +kernel
theorem dX8_odds_20 : decode cX8_odds 20 = .ok (.iload_n 3, 1) := by decide +kernel
theorem dX8_odds_21 : decode cX8_odds 21 = .ok (.iconst (-1), 1) := by decide +kernel
theorem dX8_odds_22 : decode cX8_odds 22 = .ok (.if_icmp .ne 5, 3) := by decide +kernel
theorem dX8_odds_25 : decode cX8_odds 25 = .ok (.iconst (-1), 1) := by decide +kernel
theorem dX8_odds_26 : decode cX8_odds 26 = .ok (.ireturn, 1) := by decide +kernel
theorem dX8_odds_27 : decode cX8_odds 27 = .ok (.iload_n 2, 1) := by decide +kernel
theorem dX8_odds_28 : decode cX8_odds 28 = .ok (.tableswitch 90 0 4 #[36, 43, 51, 58, 66], 36) := by decide +kernel
theorem dX8_odds_64 : decode cX8_odds 64 = .ok (.aload_n 0, 1) := by decide +kernel
theorem dX8_odds_65 : decode cX8_odds 65 = .ok (.iload_n 3, 1) := by decide +kernel
theorem dX8_odds_66 : decode cX8_odds 66 = .ok (.iconst 1, 1) := by decide +kernel
theorem dX8_odds_67 : decode cX8_odds 67 = .ok (.invokevirtual 91, 3) := by decide +kernel
theorem dX8_odds_70 : decode cX8_odds 70 = .ok (.ireturn, 1) := by decide +kernel
theorem dX8_odds_71 : decode cX8_odds 71 = .ok (.aload_n 0, 1) := by decide +kernel
theorem dX8_odds_72 : decode cX8_odds 72 = .ok (.getfield 35, 3) := by decide +kernel
theorem dX8_odds_75 : decode cX8_odds 75 = .ok (.invokestatic 108, 3) := by decide +kernel
theorem dX8_odds_78 : decode cX8_odds 78 = .ok (.ireturn, 1) := by decide +kernel
theorem dX8_odds_79 : decode cX8_odds 79 = .ok (.aload_n 0, 1) := by decide +kernel
theorem dX8_odds_80 : decode cX8_odds 80 = .ok (.iload_n 3, 1) := by decide +kernel
theorem dX8_odds_81 : decode cX8_odds 81 = .ok (.iconst 0, 1) := by decide +kernel
theorem dX8_odds_82 : decode cX8_odds 82 = .ok (.invokevirtual 91, 3) := by decide +kernel
theorem dX8_odds_85 : decode cX8_odds 85 = .ok (.ireturn, 1) := by decide +kernel
theorem dX8_odds_86 : decode cX8_odds 86 = .ok (.aload_n 0, 1) := by decide +kernel
theorem dX8_odds_87 : decode cX8_odds 87 = .ok (.getfield 38, 3) := by decide +kernel
theorem dX8_odds_90 : decode cX8_odds 90 = .ok (.invokestatic 108, 3) := by decide +kernel
theorem dX8_odds_93 : decode cX8_odds 93 = .ok (.ireturn, 1) := by decide +kernel
theorem dX8_odds_94 : decode cX8_odds 94 = .ok (.aload_n 0, 1) := by decide +kernel
theorem dX8_odds_95 : decode cX8_odds 95 = .ok (.iload_n 3, 1) := by decide +kernel
theorem dX8_odds_96 : decode cX8_odds 96 = .ok (.iconst 1, 1) := by decide +kernel
theorem dX8_odds_97 : decode cX8_odds 97 = .ok (.invokevirtual 91, 3) := by decide +kernel
theorem dX8_odds_100 : decode cX8_odds 100 = .ok (.ifCond .le 16, 3) := by decide +kernel
theorem dX8_odds_103 : decode cX8_odds 103 = .ok (.aload_n 0, 1) := by decide +kernel
theorem dX8_odds_104 : decode cX8_odds 104 = .ok (.iload_n 3, 1) := by decide +kernel
theorem dX8_odds_105 : decode cX8_odds 105 = .ok (.iconst 0, 1) := by decide +kernel
theorem dX8_odds_106 : decode cX8_odds 106 = .ok (.invokevirtual 91, 3) := by decide +kernel
theorem dX8_odds_109 : decode cX8_odds 109 = .ok (.ifCond .le 7, 3) := by decide +kernel
theorem dX8_odds_112 : decode cX8_odds 112 = .ok (.iconst 1, 1) := by decide +kernel
theorem dX8_odds_113 : decode cX8_odds 113 = .ok (.goto 4, 3) := by decide +kernel
theorem dX8_odds_116 : decode cX8_odds 116 = .ok (.iconst 0, 1) := by decide +kernel
theorem dX8_odds_117 : decode cX8_odds 117 = .ok (.ireturn, 1) := by decide +kernel
theorem dX8_odds_118 : decode cX8_odds 118 = .ok (.iconst (-1), 1) := by decide +kernel
theorem dX8_odds_119 : decode cX8_odds 119 = .ok (.ireturn, 1) := by decide +kernel
theorem dX8_segment_0 : decode cX8_segment 0 = .ok (.aload_n 0, 1) := by decide +kernel
theorem dX8_segment_1 : decode cX8_segment 1 = .ok (.iload_n 1, 1) := by decide +kernel
theorem dX8_segment_2 : decode cX8_segment 2 = .ok (.invokevirtual 63, 3) := by decide +kernel
theorem dX8_segment_5 : decode cX8_segment 5 = .ok (.ifCond .eq 12, 3) := by decide +kernel
theorem dX8_segment_8 : decode cX8_segment 8 = .ok (.aload_n 0, 1) := by decide +kernel
theorem dX8_segment_9 : decode cX8_segment 9 = .ok (.getfield 112, 3) := by decide +kernel
theorem dX8_segment_12 : decode cX8_segment 12 = .ok (.bipush 8, 2) := by decide +kernel
theorem dX8_segment_14 : decode cX8_segment 14 = .ok (.if_icmp .ne 5, 3) := by decide +kernel
theorem dX8_segment_17 : decode cX8_segment 17 = .ok (.iconst (-1), 1) := by decide +kernel
theorem dX8_segment_18 : decode cX8_segment 18 = .ok (.ireturn, 1) := by decide +kernel
theorem dX8_segment_19 : decode cX8_segment 19 = .ok (.iconst 0, 1) := by decide +kernel
theorem dX8_segment_20 : decode cX8_segment 20 = .ok (.istore_n 2, 1) := by decide +kernel
theorem dX8_segment_21 : decode cX8_segment 21 = .ok (.iload_n 2, 1) := by decide +kernel
theorem dX8_segment_22 : decode cX8_segment 22 = .ok (.aload_n 0, 1) := by decide +kernel
theorem dX8_segment_23 : decode cX8_segment 23 = .ok (.getfield 112, 3) := by decide +kernel
theorem dX8_segment_26 : decode cX8_segment 26 = .ok (.if_icmp .ge 21, 3) := by decide +kernel
theorem dX8_segment_29 : decode cX8_segment 29 = .ok (.aload_n 0, 1) := by decide +kernel
theorem dX8_segment_30 : decode cX8_segment 30 = .ok (.getfield 26, 3) := by decide +kernel
theorem dX8_segment_33 : decode cX8_segment 33 = .ok (.iload_n 2, 1) := by decide +kernel
theorem dX8_segment_34 : decode cX8_segment 34 = .ok (.iaload, 1) := by decide +kernel
theorem dX8_segment_35 : decode cX8_segment 35 = .ok (.iload_n 1, 1) := by decide +kernel
theorem dX8_segment_36 : decode cX8_segment 36 = .ok (.if_icmp .ne 5, 3) := by decide +kernel
theorem dX8_segment_39 : decode cX8_segment 39 = .ok (.iconst (-1), 1) := by decide +kernel
theorem dX8_segment_40 : decode cX8_segment 40 = .ok (.ireturn, 1) := by decide +kernel
theorem dX8_segment_41 : decode cX8_segment 41 = .ok (.iinc 2 1, 3) := by decide +kernel
theorem dX8_segment_44 : decode cX8_segment 44 = .ok (.goto (-23), 3) := by decide +kernel
theorem dX8_segment_47 : decode cX8_segment 47 = .ok (.aload_n 0, 1) := by decide +kernel
theorem dX8_segment_48 : decode cX8_segment 48 = .ok (.getfield 26, 3) := by decide +kernel
theorem dX8_segment_51 : decode cX8_segment 51 = .ok (.aload_n 0, 1) := by decide +kernel
theorem dX8_segment_52 : decode cX8_segment 52 = .ok (.getfield 112, 3) := by decide +kernel
theorem dX8_segment_55 : decode cX8_segment 55 = .ok (.iload_n 1, 1) := by decide +kernel
theorem dX8_segment_56 : decode cX8_segment 56 = .ok (.iastore, 1) := by decide +kernel
theorem dX8_segment_57 : decode cX8_segment 57 = .ok (.aload_n 0, 1) := by decide +kernel
theorem dX8_segment_58 : decode cX8_segment 58 = .ok (.dup, 1) := by decide +kernel
theorem dX8_segment_59 : decode cX8_segment 59 = .ok (.getfield 112, 3) := by decide +kernel
theorem dX8_segment_62 : decode cX8_segment 62 = .ok (.iconst 1, 1) := by decide +kernel
theorem dX8_segment_63 : decode cX8_segment 63 = .ok (.iadd, 1) := by decide +kernel
theorem dX8_segment_64 : decode cX8_segment 64 = .ok (.putfield 112, 3) := by decide +kernel
theorem dX8_segment_67 : decode cX8_segment 67 = .ok (.aload_n 0, 1) := by decide +kernel
theorem dX8_segment_68 : decode cX8_segment 68 = .ok (.getfield 112, 3) := by decide +kernel
theorem dX8_segment_71 : decode cX8_segment 71 = .ok (.ireturn, 1) := by decide +kernel
theorem dX8_clear_0 : decode cX8_clear 0 = .ok (.aload_n 0, 1) := by decide +kernel
theorem dX8_clear_1 : decode cX8_clear 1 = .ok (.getfield 112, 3) := by decide +kernel
theorem dX8_clear_4 : decode cX8_clear 4 = .ok (.istore_n 1, 1) := by decide +kernel
theorem dX8_clear_5 : decode cX8_clear 5 = .ok (.aload_n 0, 1) := by decide +kernel
theorem dX8_clear_6 : decode cX8_clear 6 = .ok (.iconst 0, 1) := by decide +kernel
theorem dX8_clear_7 : decode cX8_clear 7 = .ok (.putfield 112, 3) := by decide +kernel
theorem dX8_clear_10 : decode cX8_clear 10 = .ok (.iload_n 1, 1) := by decide +kernel
theorem dX8_clear_11 : decode cX8_clear 11 = .ok (.ireturn, 1) := by decide +kernel
theorem dX8_scoresAll_0 : decode cX8_scoresAll 0 = .ok (.aload_n 0, 1) := by decide +kernel
theorem dX8_scoresAll_1 : decode cX8_scoresAll 1 = .ok (.invokevirtual 78, 3) := by decide +kernel
theorem dX8_scoresAll_4 : decode cX8_scoresAll 4 = .ok (.iconst 0, 1) := by decide +kernel
theorem dX8_scoresAll_5 : decode cX8_scoresAll 5 = .ok (.istore_n 1, 1) := by decide +kernel
theorem dX8_scoresAll_6 : decode cX8_scoresAll 6 = .ok (.iload_n 1, 1) := by decide +kernel
theorem dX8_scoresAll_7 : decode cX8_scoresAll 7 = .ok (.aload_n 0, 1) := by decide +kernel
theorem dX8_scoresAll_8 : decode cX8_scoresAll 8 = .ok (.getfield 112, 3) := by decide +kernel
theorem dX8_scoresAll_11 : decode cX8_scoresAll 11 = .ok (.if_icmp .ge 61, 3) := by decide +kernel
theorem dX8_scoresAll_14 : decode cX8_scoresAll 14 = .ok (.iconst 0, 1) := by decide +kernel
theorem dX8_scoresAll_15 : decode cX8_scoresAll 15 = .ok (.istore_n 2, 1) := by decide +kernel
theorem dX8_scoresAll_16 : decode cX8_scoresAll 16 = .ok (.iload_n 2, 1) := by decide +kernel
theorem dX8_scoresAll_17 : decode cX8_scoresAll 17 = .ok (.aload_n 0, 1) := by decide +kernel
theorem dX8_scoresAll_18 : decode cX8_scoresAll 18 = .ok (.getfield 112, 3) := by decide +kernel
theorem dX8_scoresAll_21 : decode cX8_scoresAll 21 = .ok (.if_icmp .ge 45, 3) := by decide +kernel
theorem dX8_scoresAll_24 : decode cX8_scoresAll 24 = .ok (.aload_n 0, 1) := by decide +kernel
theorem dX8_scoresAll_25 : decode cX8_scoresAll 25 = .ok (.getfield 44, 3) := by decide +kernel
theorem dX8_scoresAll_28 : decode cX8_scoresAll 28 = .ok (.bipush 8, 2) := by decide +kernel
theorem dX8_scoresAll_30 : decode cX8_scoresAll 30 = .ok (.iload_n 1, 1) := by decide +kernel
theorem dX8_scoresAll_31 : decode cX8_scoresAll 31 = .ok (.imul, 1) := by decide +kernel
theorem dX8_scoresAll_32 : decode cX8_scoresAll 32 = .ok (.iload_n 2, 1) := by decide +kernel
theorem dX8_scoresAll_33 : decode cX8_scoresAll 33 = .ok (.iadd, 1) := by decide +kernel
theorem dX8_scoresAll_34 : decode cX8_scoresAll 34 = .ok (.iload_n 1, 1) := by decide +kernel
theorem dX8_scoresAll_35 : decode cX8_scoresAll 35 = .ok (.iload_n 2, 1) := by decide +kernel
theorem dX8_scoresAll_36 : decode cX8_scoresAll 36 = .ok (.if_icmp .ne 7, 3) := by decide +kernel
theorem dX8_scoresAll_39 : decode cX8_scoresAll 39 = .ok (.iconst (-1), 1) := by decide +kernel
theorem dX8_scoresAll_40 : decode cX8_scoresAll 40 = .ok (.goto 19, 3) := by decide +kernel
theorem dX8_scoresAll_43 : decode cX8_scoresAll 43 = .ok (.aload_n 0, 1) := by decide +kernel
theorem dX8_scoresAll_44 : decode cX8_scoresAll 44 = .ok (.aload_n 0, 1) := by decide +kernel
theorem dX8_scoresAll_45 : decode cX8_scoresAll 45 = .ok (.getfield 26, 3) := by decide +kernel
theorem dX8_scoresAll_48 : decode cX8_scoresAll 48 = .ok (.iload_n 1, 1) := by decide +kernel
theorem dX8_scoresAll_49 : decode cX8_scoresAll 49 = .ok (.iaload, 1) := by decide +kernel
theorem dX8_scoresAll_50 : decode cX8_scoresAll 50 = .ok (.aload_n 0, 1) := by decide +kernel
theorem dX8_scoresAll_51 : decode cX8_scoresAll 51 = .ok (.getfield 26, 3) := by decide +kernel
theorem dX8_scoresAll_54 : decode cX8_scoresAll 54 = .ok (.iload_n 2, 1) := by decide +kernel
theorem dX8_scoresAll_55 : decode cX8_scoresAll 55 = .ok (.iaload, 1) := by decide +kernel
theorem dX8_scoresAll_56 : decode cX8_scoresAll 56 = .ok (.invokevirtual 81, 3) := by decide +kernel
theorem dX8_scoresAll_59 : decode cX8_scoresAll 59 = .ok (.iastore, 1) := by decide +kernel
theorem dX8_scoresAll_60 : decode cX8_scoresAll 60 = .ok (.iinc 2 1, 3) := by decide +kernel
theorem dX8_scoresAll_63 : decode cX8_scoresAll 63 = .ok (.goto (-47), 3) := by decide +kernel
theorem dX8_scoresAll_66 : decode cX8_scoresAll 66 = .ok (.iinc 1 1, 3) := by decide +kernel
theorem dX8_scoresAll_69 : decode cX8_scoresAll 69 = .ok (.goto (-63), 3) := by decide +kernel
theorem dX8_scoresAll_72 : decode cX8_scoresAll 72 = .ok (.return_, 1) := by decide +kernel
theorem dX8_between_0 : decode cX8_between 0 = .ok (.iconst 0, 1) := by decide +kernel
theorem dX8_between_1 : decode cX8_between 1 = .ok (.istore_n 3, 1) := by decide +kernel
theorem dX8_between_2 : decode cX8_between 2 = .ok (.aload_n 0, 1) := by decide +kernel
theorem dX8_between_3 : decode cX8_between 3 = .ok (.iconst 0, 1) := by decide +kernel
theorem dX8_between_4 : decode cX8_between 4 = .ok (.putfield 115, 3) := by decide +kernel
theorem dX8_between_7 : decode cX8_between 7 = .ok (.iconst 0, 1) := by decide +kernel
theorem dX8_between_8 : decode cX8_between 8 = .ok (.istore 4, 2) := by decide +kernel
theorem dX8_between_10 : decode cX8_between 10 = .ok (.iload 4, 2) := by decide +kernel
theorem dX8_between_12 : decode cX8_between 12 = .ok (.aload_n 0, 1) := by decide +kernel
theorem dX8_between_13 : decode cX8_between 13 = .ok (.getfield 112, 3) := by decide +kernel
theorem dX8_between_16 : decode cX8_between 16 = .ok (.if_icmp .ge 97, 3) := by decide +kernel
theorem dX8_between_19 : decode cX8_between 19 = .ok (.iconst 0, 1) := by decide +kernel
theorem dX8_between_20 : decode cX8_between 20 = .ok (.istore 5, 2) := by decide +kernel
theorem dX8_between_22 : decode cX8_between 22 = .ok (.iload 5, 2) := by decide +kernel
theorem dX8_between_24 : decode cX8_between 24 = .ok (.aload_n 0, 1) := by decide +kernel
theorem dX8_between_25 : decode cX8_between 25 = .ok (.getfield 112, 3) := by decide +kernel
theorem dX8_between_28 : decode cX8_between 28 = .ok (.if_icmp .ge 79, 3) := by decide +kernel
theorem dX8_between_31 : decode cX8_between 31 = .ok (.aload_n 0, 1) := by decide +kernel
theorem dX8_between_32 : decode cX8_between 32 = .ok (.getfield 47, 3) := by decide +kernel
theorem dX8_between_35 : decode cX8_between 35 = .ok (.iload 4, 2) := by decide +kernel
theorem dX8_between_37 : decode cX8_between 37 = .ok (.iaload, 1) := by decide +kernel
theorem dX8_between_38 : decode cX8_between 38 = .ok (.iload_n 1, 1) := by decide +kernel
theorem dX8_between_39 : decode cX8_between 39 = .ok (.if_icmp .ne 62, 3) := by decide +kernel
theorem dX8_between_42 : decode cX8_between 42 = .ok (.aload_n 0, 1) := by decide +kernel
theorem dX8_between_43 : decode cX8_between 43 = .ok (.getfield 47, 3) := by decide +kernel
theorem dX8_between_46 : decode cX8_between 46 = .ok (.iload 5, 2) := by decide +kernel
theorem dX8_between_48 : decode cX8_between 48 = .ok (.iaload, 1) := by decide +kernel
theorem dX8_between_49 : decode cX8_between 49 = .ok (.iload_n 2, 1) := by decide +kernel
theorem dX8_between_50 : decode cX8_between 50 = .ok (.if_icmp .eq 6, 3) := by decide +kernel
theorem dX8_between_53 : decode cX8_between 53 = .ok (.goto 48, 3) := by decide +kernel
theorem dX8_between_56 : decode cX8_between 56 = .ok (.aload_n 0, 1) := by decide +kernel
theorem dX8_between_57 : decode cX8_between 57 = .ok (.getfield 44, 3) := by decide +kernel
theorem dX8_between_60 : decode cX8_between 60 = .ok (.bipush 8, 2) := by decide +kernel
theorem dX8_between_62 : decode cX8_between 62 = .ok (.iload 4, 2) := by decide +kernel
theorem dX8_between_64 : decode cX8_between 64 = .ok (.imul, 1) := by decide +kernel
theorem dX8_between_65 : decode cX8_between 65 = .ok (.iload 5, 2) := by decide +kernel
theorem dX8_between_67 : decode cX8_between 67 = .ok (.iadd, 1) := by decide +kernel
theorem dX8_between_68 : decode cX8_between 68 = .ok (.iaload, 1) := by decide +kernel
theorem dX8_between_69 : decode cX8_between 69 = .ok (.iconst (-1), 1) := by decide +kernel
theorem dX8_between_70 : decode cX8_between 70 = .ok (.if_icmp .ne 5, 3) := by decide +kernel
theorem dX8_between_73 : decode cX8_between 73 = .ok (.iconst (-1), 1) := by decide +kernel
theorem dX8_between_74 : decode cX8_between 74 = .ok (.ireturn, 1) := by decide +kernel
theorem dX8_between_75 : decode cX8_between 75 = .ok (.iload_n 3, 1) := by decide +kernel
theorem dX8_between_76 : decode cX8_between 76 = .ok (.aload_n 0, 1) := by decide +kernel
theorem dX8_between_77 : decode cX8_between 77 = .ok (.getfield 44, 3) := by decide +kernel
theorem dX8_between_80 : decode cX8_between 80 = .ok (.bipush 8, 2) := by decide +kernel
theorem dX8_between_82 : decode cX8_between 82 = .ok (.iload 4, 2) := by decide +kernel
theorem dX8_between_84 : decode cX8_between 84 = .ok (.imul, 1) := by decide +kernel
theorem dX8_between_85 : decode cX8_between 85 = .ok (.iload 5, 2) := by decide +kernel
theorem dX8_between_87 : decode cX8_between 87 = .ok (.iadd, 1) := by decide +kernel
theorem dX8_between_88 : decode cX8_between 88 = .ok (.iaload, 1) := by decide +kernel
theorem dX8_between_89 : decode cX8_between 89 = .ok (.iadd, 1) := by decide +kernel
theorem dX8_between_90 : decode cX8_between 90 = .ok (.istore_n 3, 1) := by decide +kernel
theorem dX8_between_91 : decode cX8_between 91 = .ok (.aload_n 0, 1) := by decide +kernel
theorem dX8_between_92 : decode cX8_between 92 = .ok (.dup, 1) := by decide +kernel
theorem dX8_between_93 : decode cX8_between 93 = .ok (.getfield 115, 3) := by decide +kernel
theorem dX8_between_96 : decode cX8_between 96 = .ok (.iconst 1, 1) := by decide +kernel
theorem dX8_between_97 : decode cX8_between 97 = .ok (.iadd, 1) := by decide +kernel
theorem dX8_between_98 : decode cX8_between 98 = .ok (.putfield 115, 3) := by decide +kernel
theorem dX8_between_101 : decode cX8_between 101 = .ok (.iinc 5 1, 3) := by decide +kernel
theorem dX8_between_104 : decode cX8_between 104 = .ok (.goto (-82), 3) := by decide +kernel
theorem dX8_between_107 : decode cX8_between 107 = .ok (.iinc 4 1, 3) := by decide +kernel
theorem dX8_between_110 : decode cX8_between 110 = .ok (.goto (-100), 3) := by decide +kernel
theorem dX8_between_113 : decode cX8_between 113 = .ok (.iload_n 3, 1) := by decide +kernel
theorem dX8_between_114 : decode cX8_between 114 = .ok (.ireturn, 1) := by decide +kernel
theorem dX8_joins_0 : decode cX8_joins 0 = .ok (.aload_n 0, 1) := by decide +kernel
theorem dX8_joins_1 : decode cX8_joins 1 = .ok (.invokevirtual 118, 3) := by decide +kernel
theorem dX8_joins_4 : decode cX8_joins 4 = .ok (.iconst 0, 1) := by decide +kernel
theorem dX8_joins_5 : decode cX8_joins 5 = .ok (.istore_n 1, 1) := by decide +kernel
theorem dX8_joins_6 : decode cX8_joins 6 = .ok (.iload_n 1, 1) := by decide +kernel
theorem dX8_joins_7 : decode cX8_joins 7 = .ok (.aload_n 0, 1) := by decide +kernel
theorem dX8_joins_8 : decode cX8_joins 8 = .ok (.getfield 112, 3) := by decide +kernel
theorem dX8_joins_11 : decode cX8_joins 11 = .ok (.if_icmp .ge 16, 3) := by decide +kernel
theorem dX8_joins_14 : decode cX8_joins 14 = .ok (.aload_n 0, 1) := by decide +kernel
theorem dX8_joins_15 : decode cX8_joins 15 = .ok (.getfield 47, 3) := by decide +kernel
theorem dX8_joins_18 : decode cX8_joins 18 = .ok (.iload_n 1, 1) := by decide +kernel
theorem dX8_joins_19 : decode cX8_joins 19 = .ok (.iload_n 1, 1) := by decide +kernel
theorem dX8_joins_20 : decode cX8_joins 20 = .ok (.iastore, 1) := by decide +kernel
theorem dX8_joins_21 : decode cX8_joins 21 = .ok (.iinc 1 1, 3) := by decide +kernel
theorem dX8_joins_24 : decode cX8_joins 24 = .ok (.goto (-18), 3) := by decide +kernel
theorem dX8_joins_27 : decode cX8_joins 27 = .ok (.iconst 1, 1) := by decide +kernel
theorem dX8_joins_28 : decode cX8_joins 28 = .ok (.istore_n 1, 1) := by decide +kernel
theorem dX8_joins_29 : decode cX8_joins 29 = .ok (.iload_n 1, 1) := by decide +kernel
theorem dX8_joins_30 : decode cX8_joins 30 = .ok (.ifCond .eq 207, 3) := by decide +kernel
theorem dX8_joins_33 : decode cX8_joins 33 = .ok (.iconst (-1), 1) := by decide +kernel
theorem dX8_joins_34 : decode cX8_joins 34 = .ok (.istore_n 2, 1) := by decide +kernel
theorem dX8_joins_35 : decode cX8_joins 35 = .ok (.iconst 0, 1) := by decide +kernel
theorem dX8_joins_36 : decode cX8_joins 36 = .ok (.istore_n 3, 1) := by decide +kernel
theorem dX8_joins_37 : decode cX8_joins 37 = .ok (.iconst 0, 1) := by decide +kernel
theorem dX8_joins_38 : decode cX8_joins 38 = .ok (.istore 4, 2) := by decide +kernel
theorem dX8_joins_40 : decode cX8_joins 40 = .ok (.iconst 1, 1) := by decide +kernel
theorem dX8_joins_41 : decode cX8_joins 41 = .ok (.istore 5, 2) := by decide +kernel
theorem dX8_joins_43 : decode cX8_joins 43 = .ok (.iconst 0, 1) := by decide +kernel
theorem dX8_joins_44 : decode cX8_joins 44 = .ok (.istore 6, 2) := by decide +kernel
theorem dX8_joins_46 : decode cX8_joins 46 = .ok (.iload 6, 2) := by decide +kernel
theorem dX8_joins_48 : decode cX8_joins 48 = .ok (.aload_n 0, 1) := by decide +kernel
theorem dX8_joins_49 : decode cX8_joins 49 = .ok (.getfield 112, 3) := by decide +kernel
theorem dX8_joins_52 : decode cX8_joins 52 = .ok (.if_icmp .ge 130, 3) := by decide +kernel
theorem dX8_joins_55 : decode cX8_joins 55 = .ok (.iload 6, 2) := by decide +kernel
theorem dX8_joins_57 : decode cX8_joins 57 = .ok (.iconst 1, 1) := by decide +kernel
theorem dX8_joins_58 : decode cX8_joins 58 = .ok (.iadd, 1) := by decide +kernel
theorem dX8_joins_59 : decode cX8_joins 59 = .ok (.istore 7, 2) := by decide +kernel
theorem dX8_joins_61 : decode cX8_joins 61 = .ok (.iload 7, 2) := by decide +kernel
theorem dX8_joins_63 : decode cX8_joins 63 = .ok (.aload_n 0, 1) := by decide +kernel
theorem dX8_joins_64 : decode cX8_joins 64 = .ok (.getfield 112, 3) := by decide +kernel
theorem dX8_joins_67 : decode cX8_joins 67 = .ok (.if_icmp .ge 109, 3) := by decide +kernel
theorem dX8_joins_70 : decode cX8_joins 70 = .ok (.aload_n 0, 1) := by decide +kernel
theorem dX8_joins_71 : decode cX8_joins 71 = .ok (.getfield 47, 3) := by decide +kernel
theorem dX8_joins_74 : decode cX8_joins 74 = .ok (.iload 6, 2) := by decide +kernel
theorem dX8_joins_76 : decode cX8_joins 76 = .ok (.iaload, 1) := by decide +kernel
theorem dX8_joins_77 : decode cX8_joins 77 = .ok (.iload 6, 2) := by decide +kernel
theorem dX8_joins_79 : decode cX8_joins 79 = .ok (.if_icmp .ne 26, 3) := by decide +kernel
theorem dX8_joins_82 : decode cX8_joins 82 = .ok (.aload_n 0, 1) := by decide +kernel
theorem dX8_joins_83 : decode cX8_joins 83 = .ok (.getfield 47, 3) := by decide +kernel
theorem dX8_joins_86 : decode cX8_joins 86 = .ok (.iload 7, 2) := by decide +kernel
theorem dX8_joins_88 : decode cX8_joins 88 = .ok (.iaload, 1) := by decide +kernel
theorem dX8_joins_89 : decode cX8_joins 89 = .ok (.iload 7, 2) := by decide +kernel
theorem dX8_joins_91 : decode cX8_joins 91 = .ok (.if_icmp .ne 14, 3) := by decide +kernel
theorem dX8_joins_94 : decode cX8_joins 94 = .ok (.aload_n 0, 1) := by decide +kernel
theorem dX8_joins_95 : decode cX8_joins 95 = .ok (.iload 6, 2) := by decide +kernel
theorem dX8_joins_97 : decode cX8_joins 97 = .ok (.iload 7, 2) := by decide +kernel
theorem dX8_joins_99 : decode cX8_joins 99 = .ok (.invokevirtual 121, 3) := by decide +kernel
theorem dX8_joins_102 : decode cX8_joins 102 = .ok (.goto 4, 3) := by decide +kernel
theorem dX8_joins_105 : decode cX8_joins 105 = .ok (.iconst (-1), 1) := by decide +kernel
theorem dX8_joins_106 : decode cX8_joins 106 = .ok (.istore 8, 2) := by decide +kernel
theorem dX8_joins_108 : decode cX8_joins 108 = .ok (.iload 8, 2) := by decide +kernel
theorem dX8_joins_110 : decode cX8_joins 110 = .ok (.iconst (-1), 1) := by decide +kernel
theorem dX8_joins_111 : decode cX8_joins 111 = .ok (.if_icmp .eq 59, 3) := by decide +kernel
theorem dX8_joins_114 : decode cX8_joins 114 = .ok (.iload 8, 2) := by decide +kernel
theorem dX8_joins_116 : decode cX8_joins 116 = .ok (.aload_n 0, 1) := by decide +kernel
theorem dX8_joins_117 : decode cX8_joins 117 = .ok (.getfield 23, 3) := by decide +kernel
theorem dX8_joins_120 : decode cX8_joins 120 = .ok (.aload_n 0, 1) := by decide +kernel
theorem dX8_joins_121 : decode cX8_joins 121 = .ok (.getfield 115, 3) := by decide +kernel
theorem dX8_joins_124 : decode cX8_joins 124 = .ok (.imul, 1) := by decide +kernel
theorem dX8_joins_125 : decode cX8_joins 125 = .ok (.if_icmp .le 6, 3) := by decide +kernel
theorem dX8_joins_128 : decode cX8_joins 128 = .ok (.goto 42, 3) := by decide +kernel
theorem dX8_joins_131 : decode cX8_joins 131 = .ok (.iload_n 2, 1) := by decide +kernel
theorem dX8_joins_132 : decode cX8_joins 132 = .ok (.iconst (-1), 1) := by decide +kernel
theorem dX8_joins_133 : decode cX8_joins 133 = .ok (.if_icmp .eq 21, 3) := by decide +kernel
theorem dX8_joins_136 : decode cX8_joins 136 = .ok (.iload 8, 2) := by decide +kernel
theorem dX8_joins_138 : decode cX8_joins 138 = .ok (.iload 5, 2) := by decide +kernel
theorem dX8_joins_140 : decode cX8_joins 140 = .ok (.imul, 1) := by decide +kernel
theorem dX8_joins_141 : decode cX8_joins 141 = .ok (.iload 4, 2) := by decide +kernel
theorem dX8_joins_143 : decode cX8_joins 143 = .ok (.aload_n 0, 1) := by decide +kernel
theorem dX8_joins_144 : decode cX8_joins 144 = .ok (.getfield 115, 3) := by decide +kernel
theorem dX8_joins_147 : decode cX8_joins 147 = .ok (.imul, 1) := by decide +kernel
theorem dX8_joins_148 : decode cX8_joins 148 = .ok (.if_icmp .lt 6, 3) := by decide +kernel
theorem dX8_joins_151 : decode cX8_joins 151 = .ok (.goto 19, 3) := by decide +kernel
theorem dX8_joins_154 : decode cX8_joins 154 = .ok (.iload 6, 2) := by decide +kernel
theorem dX8_joins_156 : decode cX8_joins 156 = .ok (.istore_n 2, 1) := by decide +kernel
theorem dX8_joins_157 : decode cX8_joins 157 = .ok (.iload 7, 2) := by decide +kernel
theorem dX8_joins_159 : decode cX8_joins 159 = .ok (.istore_n 3, 1) := by decide +kernel
theorem dX8_joins_160 : decode cX8_joins 160 = .ok (.iload 8, 2) := by decide +kernel
theorem dX8_joins_162 : decode cX8_joins 162 = .ok (.istore 4, 2) := by decide +kernel
theorem dX8_joins_164 : decode cX8_joins 164 = .ok (.aload_n 0, 1) := by decide +kernel
theorem dX8_joins_165 : decode cX8_joins 165 = .ok (.getfield 115, 3) := by decide +kernel
theorem dX8_joins_168 : decode cX8_joins 168 = .ok (.istore 5, 2) := by decide +kernel
theorem dX8_joins_170 : decode cX8_joins 170 = .ok (.iinc 7 1, 3) := by decide +kernel
theorem dX8_joins_173 : decode cX8_joins 173 = .ok (.goto (-112), 3) := by decide +kernel
theorem dX8_joins_176 : decode cX8_joins 176 = .ok (.iinc 6 1, 3) := by decide +kernel
theorem dX8_joins_179 : decode cX8_joins 179 = .ok (.goto (-133), 3) := by decide +kernel
theorem dX8_joins_182 : decode cX8_joins 182 = .ok (.iload_n 2, 1) := by decide +kernel
theorem dX8_joins_183 : decode cX8_joins 183 = .ok (.iconst (-1), 1) := by decide +kernel
theorem dX8_joins_184 : decode cX8_joins 184 = .ok (.if_icmp .eq 7, 3) := by decide +kernel
theorem dX8_joins_187 : decode cX8_joins 187 = .ok (.iconst 1, 1) := by decide +kernel
theorem dX8_joins_188 : decode cX8_joins 188 = .ok (.goto 4, 3) := by decide +kernel
theorem dX8_joins_191 : decode cX8_joins 191 = .ok (.iconst 0, 1) := by decide +kernel
theorem dX8_joins_192 : decode cX8_joins 192 = .ok (.istore_n 1, 1) := by decide +kernel
theorem dX8_joins_193 : decode cX8_joins 193 = .ok (.iconst 0, 1) := by decide +kernel
theorem dX8_joins_194 : decode cX8_joins 194 = .ok (.istore 6, 2) := by decide +kernel
theorem dX8_joins_196 : decode cX8_joins 196 = .ok (.iload 6, 2) := by decide +kernel
theorem dX8_joins_198 : decode cX8_joins 198 = .ok (.aload_n 0, 1) := by decide +kernel
theorem dX8_joins_199 : decode cX8_joins 199 = .ok (.getfield 112, 3) := by decide +kernel
theorem dX8_joins_202 : decode cX8_joins 202 = .ok (.if_icmp .ge 32, 3) := by decide +kernel
theorem dX8_joins_205 : decode cX8_joins 205 = .ok (.iload_n 1, 1) := by decide +kernel
theorem dX8_joins_206 : decode cX8_joins 206 = .ok (.ifCond .eq 28, 3) := by decide +kernel
theorem dX8_joins_209 : decode cX8_joins 209 = .ok (.aload_n 0, 1) := by decide +kernel
theorem dX8_joins_210 : decode cX8_joins 210 = .ok (.getfield 47, 3) := by decide +kernel
theorem dX8_joins_213 : decode cX8_joins 213 = .ok (.iload 6, 2) := by decide +kernel
theorem dX8_joins_215 : decode cX8_joins 215 = .ok (.iaload, 1) := by decide +kernel
theorem dX8_joins_216 : decode cX8_joins 216 = .ok (.iload_n 3, 1) := by decide +kernel
theorem dX8_joins_217 : decode cX8_joins 217 = .ok (.if_icmp .ne 11, 3) := by decide +kernel
theorem dX8_joins_220 : decode cX8_joins 220 = .ok (.aload_n 0, 1) := by decide +kernel
theorem dX8_joins_221 : decode cX8_joins 221 = .ok (.getfield 47, 3) := by decide +kernel
theorem dX8_joins_224 : decode cX8_joins 224 = .ok (.iload 6, 2) := by decide +kernel
theorem dX8_joins_226 : decode cX8_joins 226 = .ok (.iload_n 2, 1) := by decide +kernel
theorem dX8_joins_227 : decode cX8_joins 227 = .ok (.iastore, 1) := by decide +kernel
theorem dX8_joins_228 : decode cX8_joins 228 = .ok (.iinc 6 1, 3) := by decide +kernel
theorem dX8_joins_231 : decode cX8_joins 231 = .ok (.goto (-35), 3) := by decide +kernel
theorem dX8_joins_234 : decode cX8_joins 234 = .ok (.goto (-205), 3) := by decide +kernel
theorem dX8_joins_237 : decode cX8_joins 237 = .ok (.return_, 1) := by decide +kernel
theorem dX8_voice_0 : decode cX8_voice 0 = .ok (.iload_n 1, 1) := by decide +kernel
theorem dX8_voice_1 : decode cX8_voice 1 = .ok (.iconst 0, 1) := by decide +kernel
theorem dX8_voice_2 : decode cX8_voice 2 = .ok (.aload_n 0, 1) := by decide +kernel
theorem dX8_voice_3 : decode cX8_voice 3 = .ok (.getfield 112, 3) := by decide +kernel
theorem dX8_voice_6 : decode cX8_voice 6 = .ok (.iconst 1, 1) := by decide +kernel
theorem dX8_voice_7 : decode cX8_voice 7 = .ok (.isub, 1) := by decide +kernel
theorem dX8_voice_8 : decode cX8_voice 8 = .ok (.invokestatic 59, 3) := by decide +kernel
theorem dX8_voice_11 : decode cX8_voice 11 = .ok (.ifCond .ne 5, 3) := by decide +kernel
theorem dX8_voice_14 : decode cX8_voice 14 = .ok (.iconst (-1), 1) := by decide +kernel
theorem dX8_voice_15 : decode cX8_voice 15 = .ok (.ireturn, 1) := by decide +kernel
theorem dX8_voice_16 : decode cX8_voice 16 = .ok (.aload_n 0, 1) := by decide +kernel
theorem dX8_voice_17 : decode cX8_voice 17 = .ok (.invokevirtual 124, 3) := by decide +kernel
theorem dX8_voice_20 : decode cX8_voice 20 = .ok (.aload_n 0, 1) := by decide +kernel
theorem dX8_voice_21 : decode cX8_voice 21 = .ok (.getfield 47, 3) := by decide +kernel
theorem dX8_voice_24 : decode cX8_voice 24 = .ok (.iload_n 1, 1) := by decide +kernel
theorem dX8_voice_25 : decode cX8_voice 25 = .ok (.iaload, 1) := by decide +kernel
theorem dX8_voice_26 : decode cX8_voice 26 = .ok (.ireturn, 1) := by decide +kernel
theorem dX8_voices_0 : decode cX8_voices 0 = .ok (.aload_n 0, 1) := by decide +kernel
theorem dX8_voices_1 : decode cX8_voices 1 = .ok (.invokevirtual 124, 3) := by decide +kernel
theorem dX8_voices_4 : decode cX8_voices 4 = .ok (.iconst 0, 1) := by decide +kernel
theorem dX8_voices_5 : decode cX8_voices 5 = .ok (.istore_n 1, 1) := by decide +kernel
theorem dX8_voices_6 : decode cX8_voices 6 = .ok (.iconst 0, 1) := by decide +kernel
theorem dX8_voices_7 : decode cX8_voices 7 = .ok (.istore_n 2, 1) := by decide +kernel
theorem dX8_voices_8 : decode cX8_voices 8 = .ok (.iload_n 2, 1) := by decide +kernel
theorem dX8_voices_9 : decode cX8_voices 9 = .ok (.aload_n 0, 1) := by decide +kernel
theorem dX8_voices_10 : decode cX8_voices 10 = .ok (.getfield 112, 3) := by decide +kernel
theorem dX8_voices_13 : decode cX8_voices 13 = .ok (.if_icmp .ge 27, 3) := by decide +kernel
theorem dX8_voices_16 : decode cX8_voices 16 = .ok (.iload_n 1, 1) := by decide +kernel
theorem dX8_voices_17 : decode cX8_voices 17 = .ok (.aload_n 0, 1) := by decide +kernel
theorem dX8_voices_18 : decode cX8_voices 18 = .ok (.getfield 47, 3) := by decide +kernel
theorem dX8_voices_21 : decode cX8_voices 21 = .ok (.iload_n 2, 1) := by decide +kernel
theorem dX8_voices_22 : decode cX8_voices 22 = .ok (.iaload, 1) := by decide +kernel
theorem dX8_voices_23 : decode cX8_voices 23 = .ok (.iload_n 2, 1) := by decide +kernel
theorem dX8_voices_24 : decode cX8_voices 24 = .ok (.if_icmp .ne 7, 3) := by decide +kernel
theorem dX8_voices_27 : decode cX8_voices 27 = .ok (.iconst 1, 1) := by decide +kernel
theorem dX8_voices_28 : decode cX8_voices 28 = .ok (.goto 4, 3) := by decide +kernel
theorem dX8_voices_31 : decode cX8_voices 31 = .ok (.iconst 0, 1) := by decide +kernel
theorem dX8_voices_32 : decode cX8_voices 32 = .ok (.iadd, 1) := by decide +kernel
theorem dX8_voices_33 : decode cX8_voices 33 = .ok (.istore_n 1, 1) := by decide +kernel
theorem dX8_voices_34 : decode cX8_voices 34 = .ok (.iinc 2 1, 3) := by decide +kernel
theorem dX8_voices_37 : decode cX8_voices 37 = .ok (.goto (-29), 3) := by decide +kernel
theorem dX8_voices_40 : decode cX8_voices 40 = .ok (.iload_n 1, 1) := by decide +kernel
theorem dX8_voices_41 : decode cX8_voices 41 = .ok (.ireturn, 1) := by decide +kernel
theorem dX8_costOf_0 : decode cX8_costOf 0 = .ok (.aload_n 0, 1) := by decide +kernel
theorem dX8_costOf_1 : decode cX8_costOf 1 = .ok (.getfield 23, 3) := by decide +kernel
theorem dX8_costOf_4 : decode cX8_costOf 4 = .ok (.istore_n 2, 1) := by decide +kernel
theorem dX8_costOf_5 : decode cX8_costOf 5 = .ok (.iconst 0, 1) := by decide +kernel
theorem dX8_costOf_6 : decode cX8_costOf 6 = .ok (.istore_n 3, 1) := by decide +kernel
theorem dX8_costOf_7 : decode cX8_costOf 7 = .ok (.iload_n 3, 1) := by decide +kernel
theorem dX8_costOf_8 : decode cX8_costOf 8 = .ok (.aload_n 0, 1) := by decide +kernel
theorem dX8_costOf_9 : decode cX8_costOf 9 = .ok (.getfield 112, 3) := by decide +kernel
theorem dX8_costOf_12 : decode cX8_costOf 12 = .ok (.if_icmp .ge 77, 3) := by decide +kernel
theorem dX8_costOf_15 : decode cX8_costOf 15 = .ok (.iconst 0, 1) := by decide +kernel
theorem dX8_costOf_16 : decode cX8_costOf 16 = .ok (.istore 4, 2) := by decide +kernel
theorem dX8_costOf_18 : decode cX8_costOf 18 = .ok (.iload 4, 2) := by decide +kernel
theorem dX8_costOf_20 : decode cX8_costOf 20 = .ok (.iload_n 3, 1) := by decide +kernel
theorem dX8_costOf_21 : decode cX8_costOf 21 = .ok (.if_icmp .ge 62, 3) := by decide +kernel
theorem dX8_costOf_24 : decode cX8_costOf 24 = .ok (.iload_n 1, 1) := by decide +kernel
theorem dX8_costOf_25 : decode cX8_costOf 25 = .ok (.iload_n 3, 1) := by decide +kernel
theorem dX8_costOf_26 : decode cX8_costOf 26 = .ok (.ishr, 1) := by decide +kernel
theorem dX8_costOf_27 : decode cX8_costOf 27 = .ok (.iconst 1, 1) := by decide +kernel
theorem dX8_costOf_28 : decode cX8_costOf 28 = .ok (.iand, 1) := by decide +kernel
theorem dX8_costOf_29 : decode cX8_costOf 29 = .ok (.ifCond .eq 48, 3) := by decide +kernel
theorem dX8_costOf_32 : decode cX8_costOf 32 = .ok (.iload_n 1, 1) := by decide +kernel
theorem dX8_costOf_33 : decode cX8_costOf 33 = .ok (.iload 4, 2) := by decide +kernel
theorem dX8_costOf_35 : decode cX8_costOf 35 = .ok (.ishr, 1) := by decide +kernel
theorem dX8_costOf_36 : decode cX8_costOf 36 = .ok (.iconst 1, 1) := by decide +kernel
theorem dX8_costOf_37 : decode cX8_costOf 37 = .ok (.iand, 1) := by decide +kernel
theorem dX8_costOf_38 : decode cX8_costOf 38 = .ok (.ifCond .ne 6, 3) := by decide +kernel
theorem dX8_costOf_41 : decode cX8_costOf 41 = .ok (.goto 36, 3) := by decide +kernel
theorem dX8_costOf_44 : decode cX8_costOf 44 = .ok (.aload_n 0, 1) := by decide +kernel
theorem dX8_costOf_45 : decode cX8_costOf 45 = .ok (.getfield 44, 3) := by decide +kernel
theorem dX8_costOf_48 : decode cX8_costOf 48 = .ok (.bipush 8, 2) := by decide +kernel
theorem dX8_costOf_50 : decode cX8_costOf 50 = .ok (.iload_n 3, 1) := by decide +kernel
theorem dX8_costOf_51 : decode cX8_costOf 51 = .ok (.imul, 1) := by decide +kernel
theorem dX8_costOf_52 : decode cX8_costOf 52 = .ok (.iload 4, 2) := by decide +kernel
theorem dX8_costOf_54 : decode cX8_costOf 54 = .ok (.iadd, 1) := by decide +kernel
theorem dX8_costOf_55 : decode cX8_costOf 55 = .ok (.iaload, 1) := by decide +kernel
theorem dX8_costOf_56 : decode cX8_costOf 56 = .ok (.iconst (-1), 1) := by decide +kernel
theorem dX8_costOf_57 : decode cX8_costOf 57 = .ok (.if_icmp .ne 5, 3) := by decide +kernel
theorem dX8_costOf_60 : decode cX8_costOf 60 = .ok (.iconst (-1), 1) := by decide +kernel
theorem dX8_costOf_61 : decode cX8_costOf 61 = .ok (.ireturn, 1) := by decide +kernel
theorem dX8_costOf_62 : decode cX8_costOf 62 = .ok (.iload_n 2, 1) := by decide +kernel
theorem dX8_costOf_63 : decode cX8_costOf 63 = .ok (.aload_n 0, 1) := by decide +kernel
theorem dX8_costOf_64 : decode cX8_costOf 64 = .ok (.getfield 44, 3) := by decide +kernel
theorem dX8_costOf_67 : decode cX8_costOf 67 = .ok (.bipush 8, 2) := by decide +kernel
theorem dX8_costOf_69 : decode cX8_costOf 69 = .ok (.iload_n 3, 1) := by decide +kernel
theorem dX8_costOf_70 : decode cX8_costOf 70 = .ok (.imul, 1) := by decide +kernel
theorem dX8_costOf_71 : decode cX8_costOf 71 = .ok (.iload 4, 2) := by decide +kernel
theorem dX8_costOf_73 : decode cX8_costOf 73 = .ok (.iadd, 1) := by decide +kernel
theorem dX8_costOf_74 : decode cX8_costOf 74 = .ok (.iaload, 1) := by decide +kernel
theorem dX8_costOf_75 : decode cX8_costOf 75 = .ok (.iadd, 1) := by decide +kernel
theorem dX8_costOf_76 : decode cX8_costOf 76 = .ok (.istore_n 2, 1) := by decide +kernel
theorem dX8_costOf_77 : decode cX8_costOf 77 = .ok (.iinc 4 1, 3) := by decide +kernel
theorem dX8_costOf_80 : decode cX8_costOf 80 = .ok (.goto (-62), 3) := by decide +kernel
theorem dX8_costOf_83 : decode cX8_costOf 83 = .ok (.iinc 3 1, 3) := by decide +kernel
theorem dX8_costOf_86 : decode cX8_costOf 86 = .ok (.goto (-79), 3) := by decide +kernel
theorem dX8_costOf_89 : decode cX8_costOf 89 = .ok (.iload_n 2, 1) := by decide +kernel
theorem dX8_costOf_90 : decode cX8_costOf 90 = .ok (.ireturn, 1) := by decide +kernel
theorem dX8_spare_0 : decode cX8_spare 0 = .ok (.aload_n 0, 1) := by decide +kernel
theorem dX8_spare_1 : decode cX8_spare 1 = .ok (.invokevirtual 118, 3) := by decide +kernel
theorem dX8_spare_4 : decode cX8_spare 4 = .ok (.aload_n 0, 1) := by decide +kernel
theorem dX8_spare_5 : decode cX8_spare 5 = .ok (.getfield 50, 3) := by decide +kernel
theorem dX8_spare_8 : decode cX8_spare 8 = .ok (.iconst 0, 1) := by decide +kernel
theorem dX8_spare_9 : decode cX8_spare 9 = .ok (.iconst 0, 1) := by decide +kernel
theorem dX8_spare_10 : decode cX8_spare 10 = .ok (.iastore, 1) := by decide +kernel
theorem dX8_spare_11 : decode cX8_spare 11 = .ok (.iconst 1, 1) := by decide +kernel
theorem dX8_spare_12 : decode cX8_spare 12 = .ok (.istore_n 1, 1) := by decide +kernel
theorem dX8_spare_13 : decode cX8_spare 13 = .ok (.iload_n 1, 1) := by decide +kernel
theorem dX8_spare_14 : decode cX8_spare 14 = .ok (.iconst 1, 1) := by decide +kernel
theorem dX8_spare_15 : decode cX8_spare 15 = .ok (.aload_n 0, 1) := by decide +kernel
theorem dX8_spare_16 : decode cX8_spare 16 = .ok (.getfield 112, 3) := by decide +kernel
theorem dX8_spare_19 : decode cX8_spare 19 = .ok (.ishl, 1) := by decide +kernel
theorem dX8_spare_20 : decode cX8_spare 20 = .ok (.if_icmp .ge 99, 3) := by decide +kernel
theorem dX8_spare_23 : decode cX8_spare 23 = .ok (.aload_n 0, 1) := by decide +kernel
theorem dX8_spare_24 : decode cX8_spare 24 = .ok (.getfield 50, 3) := by decide +kernel
theorem dX8_spare_27 : decode cX8_spare 27 = .ok (.iload_n 1, 1) := by decide +kernel
theorem dX8_spare_28 : decode cX8_spare 28 = .ok (.iconst (-1), 1) := by decide +kernel
theorem dX8_spare_29 : decode cX8_spare 29 = .ok (.iastore, 1) := by decide +kernel
theorem dX8_spare_30 : decode cX8_spare 30 = .ok (.iload_n 1, 1) := by decide +kernel
theorem dX8_spare_31 : decode cX8_spare 31 = .ok (.istore_n 2, 1) := by decide +kernel
theorem dX8_spare_32 : decode cX8_spare 32 = .ok (.iload_n 2, 1) := by decide +kernel
theorem dX8_spare_33 : decode cX8_spare 33 = .ok (.ifCond .le 80, 3) := by decide +kernel
theorem dX8_spare_36 : decode cX8_spare 36 = .ok (.iconst 2, 1) := by decide +kernel
theorem dX8_spare_37 : decode cX8_spare 37 = .ok (.iload_n 2, 1) := by decide +kernel
theorem dX8_spare_38 : decode cX8_spare 38 = .ok (.imul, 1) := by decide +kernel
theorem dX8_spare_39 : decode cX8_spare 39 = .ok (.iload_n 1, 1) := by decide +kernel
theorem dX8_spare_40 : decode cX8_spare 40 = .ok (.if_icmp .le 11, 3) := by decide +kernel
theorem dX8_spare_43 : decode cX8_spare 43 = .ok (.aload_n 0, 1) := by decide +kernel
theorem dX8_spare_44 : decode cX8_spare 44 = .ok (.iload_n 2, 1) := by decide +kernel
theorem dX8_spare_45 : decode cX8_spare 45 = .ok (.invokevirtual 127, 3) := by decide +kernel
theorem dX8_spare_48 : decode cX8_spare 48 = .ok (.goto 4, 3) := by decide +kernel
theorem dX8_spare_51 : decode cX8_spare 51 = .ok (.iconst (-1), 1) := by decide +kernel
theorem dX8_spare_52 : decode cX8_spare 52 = .ok (.istore_n 3, 1) := by decide +kernel
theorem dX8_spare_53 : decode cX8_spare 53 = .ok (.iload_n 3, 1) := by decide +kernel
theorem dX8_spare_54 : decode cX8_spare 54 = .ok (.iconst (-1), 1) := by decide +kernel
theorem dX8_spare_55 : decode cX8_spare 55 = .ok (.if_icmp .ne 6, 3) := by decide +kernel
theorem dX8_spare_58 : decode cX8_spare 58 = .ok (.goto 46, 3) := by decide +kernel
theorem dX8_spare_61 : decode cX8_spare 61 = .ok (.iload_n 3, 1) := by decide +kernel
theorem dX8_spare_62 : decode cX8_spare 62 = .ok (.aload_n 0, 1) := by decide +kernel
theorem dX8_spare_63 : decode cX8_spare 63 = .ok (.getfield 50, 3) := by decide +kernel
theorem dX8_spare_66 : decode cX8_spare 66 = .ok (.iload_n 1, 1) := by decide +kernel
theorem dX8_spare_67 : decode cX8_spare 67 = .ok (.iload_n 2, 1) := by decide +kernel
theorem dX8_spare_68 : decode cX8_spare 68 = .ok (.iconst (-1), 1) := by decide +kernel
theorem dX8_spare_69 : decode cX8_spare 69 = .ok (.ixor, 1) := by decide +kernel
theorem dX8_spare_70 : decode cX8_spare 70 = .ok (.iand, 1) := by decide +kernel
theorem dX8_spare_71 : decode cX8_spare 71 = .ok (.iaload, 1) := by decide +kernel
theorem dX8_spare_72 : decode cX8_spare 72 = .ok (.iadd, 1) := by decide +kernel
theorem dX8_spare_73 : decode cX8_spare 73 = .ok (.istore 4, 2) := by decide +kernel
theorem dX8_spare_75 : decode cX8_spare 75 = .ok (.aload_n 0, 1) := by decide +kernel
theorem dX8_spare_76 : decode cX8_spare 76 = .ok (.getfield 50, 3) := by decide +kernel
theorem dX8_spare_79 : decode cX8_spare 79 = .ok (.iload_n 1, 1) := by decide +kernel
theorem dX8_spare_80 : decode cX8_spare 80 = .ok (.iaload, 1) := by decide +kernel
theorem dX8_spare_81 : decode cX8_spare 81 = .ok (.iconst (-1), 1) := by decide +kernel
theorem dX8_spare_82 : decode cX8_spare 82 = .ok (.if_icmp .eq 14, 3) := by decide +kernel
theorem dX8_spare_85 : decode cX8_spare 85 = .ok (.iload 4, 2) := by decide +kernel
theorem dX8_spare_87 : decode cX8_spare 87 = .ok (.aload_n 0, 1) := by decide +kernel
theorem dX8_spare_88 : decode cX8_spare 88 = .ok (.getfield 50, 3) := by decide +kernel
theorem dX8_spare_91 : decode cX8_spare 91 = .ok (.iload_n 1, 1) := by decide +kernel
theorem dX8_spare_92 : decode cX8_spare 92 = .ok (.iaload, 1) := by decide +kernel
theorem dX8_spare_93 : decode cX8_spare 93 = .ok (.if_icmp .ge 11, 3) := by decide +kernel
theorem dX8_spare_96 : decode cX8_spare 96 = .ok (.aload_n 0, 1) := by decide +kernel
theorem dX8_spare_97 : decode cX8_spare 97 = .ok (.getfield 50, 3) := by decide +kernel
theorem dX8_spare_100 : decode cX8_spare 100 = .ok (.iload_n 1, 1) := by decide +kernel
theorem dX8_spare_101 : decode cX8_spare 101 = .ok (.iload 4, 2) := by decide +kernel
theorem dX8_spare_103 : decode cX8_spare 103 = .ok (.iastore, 1) := by decide +kernel
theorem dX8_spare_104 : decode cX8_spare 104 = .ok (.iload_n 2, 1) := by decide +kernel
theorem dX8_spare_105 : decode cX8_spare 105 = .ok (.iconst 1, 1) := by decide +kernel
theorem dX8_spare_106 : decode cX8_spare 106 = .ok (.isub, 1) := by decide +kernel
theorem dX8_spare_107 : decode cX8_spare 107 = .ok (.iload_n 1, 1) := by decide +kernel
theorem dX8_spare_108 : decode cX8_spare 108 = .ok (.iand, 1) := by decide +kernel
theorem dX8_spare_109 : decode cX8_spare 109 = .ok (.istore_n 2, 1) := by decide +kernel
theorem dX8_spare_110 : decode cX8_spare 110 = .ok (.goto (-78), 3) := by decide +kernel
theorem dX8_spare_113 : decode cX8_spare 113 = .ok (.iinc 1 1, 3) := by decide +kernel
theorem dX8_spare_116 : decode cX8_spare 116 = .ok (.goto (-103), 3) := by decide +kernel
theorem dX8_spare_119 : decode cX8_spare 119 = .ok (.aload_n 0, 1) := by decide +kernel
theorem dX8_spare_120 : decode cX8_spare 120 = .ok (.getfield 50, 3) := by decide +kernel
theorem dX8_spare_123 : decode cX8_spare 123 = .ok (.iconst 1, 1) := by decide +kernel
theorem dX8_spare_124 : decode cX8_spare 124 = .ok (.aload_n 0, 1) := by decide +kernel
theorem dX8_spare_125 : decode cX8_spare 125 = .ok (.getfield 112, 3) := by decide +kernel
theorem dX8_spare_128 : decode cX8_spare 128 = .ok (.ishl, 1) := by decide +kernel
theorem dX8_spare_129 : decode cX8_spare 129 = .ok (.iconst 1, 1) := by decide +kernel
theorem dX8_spare_130 : decode cX8_spare 130 = .ok (.isub, 1) := by decide +kernel
theorem dX8_spare_131 : decode cX8_spare 131 = .ok (.iaload, 1) := by decide +kernel
theorem dX8_spare_132 : decode cX8_spare 132 = .ok (.ireturn, 1) := by decide +kernel
theorem dX8_lines_0 : decode cX8_lines 0 = .ok (.aload_n 0, 1) := by decide +kernel
theorem dX8_lines_1 : decode cX8_lines 1 = .ok (.invokevirtual 78, 3) := by decide +kernel
theorem dX8_lines_4 : decode cX8_lines 4 = .ok (.iconst 0, 1) := by decide +kernel
theorem dX8_lines_5 : decode cX8_lines 5 = .ok (.istore_n 2, 1) := by decide +kernel
theorem dX8_lines_6 : decode cX8_lines 6 = .ok (.iconst 0, 1) := by decide +kernel
theorem dX8_lines_7 : decode cX8_lines 7 = .ok (.istore_n 3, 1) := by decide +kernel
theorem dX8_lines_8 : decode cX8_lines 8 = .ok (.iload_n 3, 1) := by decide +kernel
theorem dX8_lines_9 : decode cX8_lines 9 = .ok (.aload_n 0, 1) := by decide +kernel
theorem dX8_lines_10 : decode cX8_lines 10 = .ok (.getfield 56, 3) := by decide +kernel
theorem dX8_lines_13 : decode cX8_lines 13 = .ok (.if_icmp .ge 103, 3) := by decide +kernel
theorem dX8_lines_16 : decode cX8_lines 16 = .ok (.iload_n 3, 1) := by decide +kernel
theorem dX8_lines_17 : decode cX8_lines 17 = .ok (.iload_n 1, 1) := by decide +kernel
theorem dX8_lines_18 : decode cX8_lines 18 = .ok (.if_icmp .eq 20, 3) := by decide +kernel
theorem dX8_lines_21 : decode cX8_lines 21 = .ok (.aload_n 0, 1) := by decide +kernel
theorem dX8_lines_22 : decode cX8_lines 22 = .ok (.iload_n 3, 1) := by decide +kernel
theorem dX8_lines_23 : decode cX8_lines 23 = .ok (.invokevirtual 84, 3) := by decide +kernel
theorem dX8_lines_26 : decode cX8_lines 26 = .ok (.ifCond .eq 12, 3) := by decide +kernel
theorem dX8_lines_29 : decode cX8_lines 29 = .ok (.aload_n 0, 1) := by decide +kernel
theorem dX8_lines_30 : decode cX8_lines 30 = .ok (.iload_n 1, 1) := by decide +kernel
theorem dX8_lines_31 : decode cX8_lines 31 = .ok (.iload_n 3, 1) := by decide +kernel
theorem dX8_lines_32 : decode cX8_lines 32 = .ok (.invokevirtual 81, 3) := by decide +kernel
theorem dX8_lines_35 : decode cX8_lines 35 = .ok (.goto 4, 3) := by decide +kernel
theorem dX8_lines_38 : decode cX8_lines 38 = .ok (.iconst (-1), 1) := by decide +kernel
theorem dX8_lines_39 : decode cX8_lines 39 = .ok (.istore 4, 2) := by decide +kernel
theorem dX8_lines_41 : decode cX8_lines 41 = .ok (.iload 4, 2) := by decide +kernel
theorem dX8_lines_43 : decode cX8_lines 43 = .ok (.iconst (-1), 1) := by decide +kernel
theorem dX8_lines_44 : decode cX8_lines 44 = .ok (.if_icmp .ne 6, 3) := by decide +kernel
theorem dX8_lines_47 : decode cX8_lines 47 = .ok (.goto 63, 3) := by decide +kernel
theorem dX8_lines_50 : decode cX8_lines 50 = .ok (.iload_n 2, 1) := by decide +kernel
theorem dX8_lines_51 : decode cX8_lines 51 = .ok (.istore 5, 2) := by decide +kernel
theorem dX8_lines_53 : decode cX8_lines 53 = .ok (.iload 5, 2) := by decide +kernel
theorem dX8_lines_55 : decode cX8_lines 55 = .ok (.ifCond .le 44, 3) := by decide +kernel
theorem dX8_lines_58 : decode cX8_lines 58 = .ok (.aload_n 0, 1) := by decide +kernel
theorem dX8_lines_59 : decode cX8_lines 59 = .ok (.iload_n 1, 1) := by decide +kernel
theorem dX8_lines_60 : decode cX8_lines 60 = .ok (.aload_n 0, 1) := by decide +kernel
theorem dX8_lines_61 : decode cX8_lines 61 = .ok (.getfield 53, 3) := by decide +kernel
theorem dX8_lines_64 : decode cX8_lines 64 = .ok (.iload 5, 2) := by decide +kernel
theorem dX8_lines_66 : decode cX8_lines 66 = .ok (.iconst 1, 1) := by decide +kernel
theorem dX8_lines_67 : decode cX8_lines 67 = .ok (.isub, 1) := by decide +kernel
theorem dX8_lines_68 : decode cX8_lines 68 = .ok (.iaload, 1) := by decide +kernel
theorem dX8_lines_69 : decode cX8_lines 69 = .ok (.invokevirtual 81, 3) := by decide +kernel
theorem dX8_lines_72 : decode cX8_lines 72 = .ok (.iload 4, 2) := by decide +kernel
theorem dX8_lines_74 : decode cX8_lines 74 = .ok (.if_icmp .le 25, 3) := by decide +kernel
theorem dX8_lines_77 : decode cX8_lines 77 = .ok (.aload_n 0, 1) := by decide +kernel
theorem dX8_lines_78 : decode cX8_lines 78 = .ok (.getfield 53, 3) := by decide +kernel
theorem dX8_lines_81 : decode cX8_lines 81 = .ok (.iload 5, 2) := by decide +kernel
theorem dX8_lines_83 : decode cX8_lines 83 = .ok (.aload_n 0, 1) := by decide +kernel
theorem dX8_lines_84 : decode cX8_lines 84 = .ok (.getfield 53, 3) := by decide +kernel
theorem dX8_lines_87 : decode cX8_lines 87 = .ok (.iload 5, 2) := by decide +kernel
theorem dX8_lines_89 : decode cX8_lines 89 = .ok (.iconst 1, 1) := by decide +kernel
theorem dX8_lines_90 : decode cX8_lines 90 = .ok (.isub, 1) := by decide +kernel
theorem dX8_lines_91 : decode cX8_lines 91 = .ok (.iaload, 1) := by decide +kernel
theorem dX8_lines_92 : decode cX8_lines 92 = .ok (.iastore, 1) := by decide +kernel
theorem dX8_lines_93 : decode cX8_lines 93 = .ok (.iinc 5 (-1), 3) := by decide +kernel
theorem dX8_lines_96 : decode cX8_lines 96 = .ok (.goto (-43), 3) := by decide +kernel
theorem dX8_lines_99 : decode cX8_lines 99 = .ok (.aload_n 0, 1) := by decide +kernel
theorem dX8_lines_100 : decode cX8_lines 100 = .ok (.getfield 53, 3) := by decide +kernel
theorem dX8_lines_103 : decode cX8_lines 103 = .ok (.iload 5, 2) := by decide +kernel
theorem dX8_lines_105 : decode cX8_lines 105 = .ok (.iload_n 3, 1) := by decide +kernel
theorem dX8_lines_106 : decode cX8_lines 106 = .ok (.iastore, 1) := by decide +kernel
theorem dX8_lines_107 : decode cX8_lines 107 = .ok (.iinc 2 1, 3) := by decide +kernel
theorem dX8_lines_110 : decode cX8_lines 110 = .ok (.iinc 3 1, 3) := by decide +kernel
theorem dX8_lines_113 : decode cX8_lines 113 = .ok (.goto (-105), 3) := by decide +kernel
theorem dX8_lines_116 : decode cX8_lines 116 = .ok (.iload_n 2, 1) := by decide +kernel
theorem dX8_lines_117 : decode cX8_lines 117 = .ok (.ireturn, 1) := by decide +kernel
theorem dX8_lined_0 : decode cX8_lined 0 = .ok (.aload_n 0, 1) := by decide +kernel
theorem dX8_lined_1 : decode cX8_lined 1 = .ok (.iload_n 1, 1) := by decide +kernel
theorem dX8_lined_2 : decode cX8_lined 2 = .ok (.invokevirtual 63, 3) := by decide +kernel
theorem dX8_lined_5 : decode cX8_lined 5 = .ok (.ifCond .eq 27, 3) := by decide +kernel
theorem dX8_lined_8 : decode cX8_lined 8 = .ok (.iload_n 2, 1) := by decide +kernel
theorem dX8_lined_9 : decode cX8_lined 9 = .ok (.iconst 0, 1) := by decide +kernel
theorem dX8_lined_10 : decode cX8_lined 10 = .ok (.aload_n 0, 1) := by decide +kernel
theorem dX8_lined_11 : decode cX8_lined 11 = .ok (.iload_n 1, 1) := by decide +kernel
theorem dX8_lined_12 : decode cX8_lined 12 = .ok (.invokevirtual 130, 3) := by decide +kernel
theorem dX8_lined_15 : decode cX8_lined 15 = .ok (.iconst 1, 1) := by decide +kernel
theorem dX8_lined_16 : decode cX8_lined 16 = .ok (.isub, 1) := by decide +kernel
theorem dX8_lined_17 : decode cX8_lined 17 = .ok (.invokestatic 59, 3) := by decide +kernel
theorem dX8_lined_20 : decode cX8_lined 20 = .ok (.ifCond .eq 12, 3) := by decide +kernel
theorem dX8_lined_23 : decode cX8_lined 23 = .ok (.aload_n 0, 1) := by decide +kernel
theorem dX8_lined_24 : decode cX8_lined 24 = .ok (.getfield 53, 3) := by decide +kernel
theorem dX8_lined_27 : decode cX8_lined 27 = .ok (.iload_n 2, 1) := by decide +kernel
theorem dX8_lined_28 : decode cX8_lined 28 = .ok (.iaload, 1) := by decide +kernel
theorem dX8_lined_29 : decode cX8_lined 29 = .ok (.goto 4, 3) := by decide +kernel
theorem dX8_lined_32 : decode cX8_lined 32 = .ok (.iconst (-1), 1) := by decide +kernel
theorem dX8_lined_33 : decode cX8_lined 33 = .ok (.ireturn, 1) := by decide +kernel
theorem dX8_rank_0 : decode cX8_rank 0 = .ok (.aload_n 0, 1) := by decide +kernel
theorem dX8_rank_1 : decode cX8_rank 1 = .ok (.iload_n 1, 1) := by decide +kernel
theorem dX8_rank_2 : decode cX8_rank 2 = .ok (.invokevirtual 63, 3) := by decide +kernel
theorem dX8_rank_5 : decode cX8_rank 5 = .ok (.ifCond .eq 13, 3) := by decide +kernel
theorem dX8_rank_8 : decode cX8_rank 8 = .ok (.iload_n 2, 1) := by decide +kernel
theorem dX8_rank_9 : decode cX8_rank 9 = .ok (.iconst 0, 1) := by decide +kernel
theorem dX8_rank_10 : decode cX8_rank 10 = .ok (.bipush 9, 2) := by decide +kernel
theorem dX8_rank_12 : decode cX8_rank 12 = .ok (.invokestatic 59, 3) := by decide +kernel
theorem dX8_rank_15 : decode cX8_rank 15 = .ok (.ifCond .ne 5, 3) := by decide +kernel
theorem dX8_rank_18 : decode cX8_rank 18 = .ok (.iconst (-1), 1) := by decide +kernel
theorem dX8_rank_19 : decode cX8_rank 19 = .ok (.ireturn, 1) := by decide +kernel
theorem dX8_rank_20 : decode cX8_rank 20 = .ok (.aload_n 0, 1) := by decide +kernel
theorem dX8_rank_21 : decode cX8_rank 21 = .ok (.iload_n 1, 1) := by decide +kernel
theorem dX8_rank_22 : decode cX8_rank 22 = .ok (.invokevirtual 130, 3) := by decide +kernel
theorem dX8_rank_25 : decode cX8_rank 25 = .ok (.istore_n 3, 1) := by decide +kernel
theorem dX8_rank_26 : decode cX8_rank 26 = .ok (.iconst 0, 1) := by decide +kernel
theorem dX8_rank_27 : decode cX8_rank 27 = .ok (.istore 4, 2) := by decide +kernel
theorem dX8_rank_29 : decode cX8_rank 29 = .ok (.iconst 0, 1) := by decide +kernel
theorem dX8_rank_30 : decode cX8_rank 30 = .ok (.istore 5, 2) := by decide +kernel
theorem dX8_rank_32 : decode cX8_rank 32 = .ok (.iconst 0, 1) := by decide +kernel
theorem dX8_rank_33 : decode cX8_rank 33 = .ok (.istore 6, 2) := by decide +kernel
theorem dX8_rank_35 : decode cX8_rank 35 = .ok (.iload 6, 2) := by decide +kernel
theorem dX8_rank_37 : decode cX8_rank 37 = .ok (.iload_n 3, 1) := by decide +kernel
theorem dX8_rank_38 : decode cX8_rank 38 = .ok (.if_icmp .ge 61, 3) := by decide +kernel
theorem dX8_rank_41 : decode cX8_rank 41 = .ok (.aload_n 0, 1) := by decide +kernel
theorem dX8_rank_42 : decode cX8_rank 42 = .ok (.getfield 16, 3) := by decide +kernel
theorem dX8_rank_45 : decode cX8_rank 45 = .ok (.aload_n 0, 1) := by decide +kernel
theorem dX8_rank_46 : decode cX8_rank 46 = .ok (.getfield 53, 3) := by decide +kernel
theorem dX8_rank_49 : decode cX8_rank 49 = .ok (.iload 6, 2) := by decide +kernel
theorem dX8_rank_51 : decode cX8_rank 51 = .ok (.iaload, 1) := by decide +kernel
theorem dX8_rank_52 : decode cX8_rank 52 = .ok (.iaload, 1) := by decide +kernel
theorem dX8_rank_53 : decode cX8_rank 53 = .ok (.istore 7, 2) := by decide +kernel
theorem dX8_rank_55 : decode cX8_rank 55 = .ok (.iload 7, 2) := by decide +kernel
theorem dX8_rank_57 : decode cX8_rank 57 = .ok (.iload_n 2, 1) := by decide +kernel
theorem dX8_rank_58 : decode cX8_rank 58 = .ok (.if_icmp .ne 6, 3) := by decide +kernel
theorem dX8_rank_61 : decode cX8_rank 61 = .ok (.iload 5, 2) := by decide +kernel
theorem dX8_rank_63 : decode cX8_rank 63 = .ok (.ireturn, 1) := by decide +kernel
theorem dX8_rank_64 : decode cX8_rank 64 = .ok (.iload 5, 2) := by decide +kernel
theorem dX8_rank_66 : decode cX8_rank 66 = .ok (.iload 4, 2) := by decide +kernel
theorem dX8_rank_68 : decode cX8_rank 68 = .ok (.iload 7, 2) := by decide +kernel
theorem dX8_rank_70 : decode cX8_rank 70 = .ok (.ishr, 1) := by decide +kernel
theorem dX8_rank_71 : decode cX8_rank 71 = .ok (.iconst 1, 1) := by decide +kernel
theorem dX8_rank_72 : decode cX8_rank 72 = .ok (.iand, 1) := by decide +kernel
theorem dX8_rank_73 : decode cX8_rank 73 = .ok (.ifCond .ne 7, 3) := by decide +kernel
theorem dX8_rank_76 : decode cX8_rank 76 = .ok (.iconst 1, 1) := by decide +kernel
theorem dX8_rank_77 : decode cX8_rank 77 = .ok (.goto 4, 3) := by decide +kernel
theorem dX8_rank_80 : decode cX8_rank 80 = .ok (.iconst 0, 1) := by decide +kernel
theorem dX8_rank_81 : decode cX8_rank 81 = .ok (.iadd, 1) := by decide +kernel
theorem dX8_rank_82 : decode cX8_rank 82 = .ok (.istore 5, 2) := by decide +kernel
theorem dX8_rank_84 : decode cX8_rank 84 = .ok (.iload 4, 2) := by decide +kernel
theorem dX8_rank_86 : decode cX8_rank 86 = .ok (.iconst 1, 1) := by decide +kernel
theorem dX8_rank_87 : decode cX8_rank 87 = .ok (.iload 7, 2) := by decide +kernel
theorem dX8_rank_89 : decode cX8_rank 89 = .ok (.ishl, 1) := by decide +kernel
theorem dX8_rank_90 : decode cX8_rank 90 = .ok (.ior, 1) := by decide +kernel
theorem dX8_rank_91 : decode cX8_rank 91 = .ok (.istore 4, 2) := by decide +kernel
theorem dX8_rank_93 : decode cX8_rank 93 = .ok (.iinc 6 1, 3) := by decide +kernel
theorem dX8_rank_96 : decode cX8_rank 96 = .ok (.goto (-61), 3) := by decide +kernel
theorem dX8_rank_99 : decode cX8_rank 99 = .ok (.iconst (-1), 1) := by decide +kernel
theorem dX8_rank_100 : decode cX8_rank 100 = .ok (.ireturn, 1) := by decide +kernel
theorem dX8_test_0 : decode cX8_test 0 = .ok (.aload_n 0, 1) := by decide +kernel
theorem dX8_test_1 : decode cX8_test 1 = .ok (.iload_n 1, 1) := by decide +kernel
theorem dX8_test_2 : decode cX8_test 2 = .ok (.invokevirtual 63, 3) := by decide +kernel
theorem dX8_test_5 : decode cX8_test 5 = .ok (.ifCond .eq 45, 3) := by decide +kernel
theorem dX8_test_8 : decode cX8_test 8 = .ok (.aload_n 0, 1) := by decide +kernel
theorem dX8_test_9 : decode cX8_test 9 = .ok (.iload_n 2, 1) := by decide +kernel
theorem dX8_test_10 : decode cX8_test 10 = .ok (.invokevirtual 63, 3) := by decide +kernel
theorem dX8_test_13 : decode cX8_test 13 = .ok (.ifCond .eq 37, 3) := by decide +kernel
theorem dX8_test_16 : decode cX8_test 16 = .ok (.iload_n 1, 1) := by decide +kernel
theorem dX8_test_17 : decode cX8_test 17 = .ok (.iload_n 2, 1) := by decide +kernel
theorem dX8_test_18 : decode cX8_test 18 = .ok (.if_icmp .eq 32, 3) := by decide +kernel
theorem dX8_test_21 : decode cX8_test 21 = .ok (.aload_n 0, 1) := by decide +kernel
theorem dX8_test_22 : decode cX8_test 22 = .ok (.getfield 16, 3) := by decide +kernel
theorem dX8_test_25 : decode cX8_test 25 = .ok (.iload_n 1, 1) := by decide +kernel
theorem dX8_test_26 : decode cX8_test 26 = .ok (.iaload, 1) := by decide +kernel
theorem dX8_test_27 : decode cX8_test 27 = .ok (.iconst (-1), 1) := by decide +kernel
theorem dX8_test_28 : decode cX8_test 28 = .ok (.if_icmp .eq 22, 3) := by decide +kernel
theorem dX8_test_31 : decode cX8_test 31 = .ok (.aload_n 0, 1) := by decide +kernel
theorem dX8_test_32 : decode cX8_test 32 = .ok (.getfield 16, 3) := by decide +kernel
theorem dX8_test_35 : decode cX8_test 35 = .ok (.iload_n 2, 1) := by decide +kernel
theorem dX8_test_36 : decode cX8_test 36 = .ok (.iaload, 1) := by decide +kernel
theorem dX8_test_37 : decode cX8_test 37 = .ok (.iconst (-1), 1) := by decide +kernel
theorem dX8_test_38 : decode cX8_test 38 = .ok (.if_icmp .eq 12, 3) := by decide +kernel
theorem dX8_test_41 : decode cX8_test 41 = .ok (.aload_n 0, 1) := by decide +kernel
theorem dX8_test_42 : decode cX8_test 42 = .ok (.getfield 133, 3) := by decide +kernel
theorem dX8_test_45 : decode cX8_test 45 = .ok (.bipush 60, 2) := by decide +kernel
theorem dX8_test_47 : decode cX8_test 47 = .ok (.if_icmp .ne 5, 3) := by decide +kernel
theorem dX8_test_50 : decode cX8_test 50 = .ok (.iconst (-1), 1) := by decide +kernel
theorem dX8_test_51 : decode cX8_test 51 = .ok (.ireturn, 1) := by decide +kernel
theorem dX8_test_52 : decode cX8_test 52 = .ok (.aload_n 0, 1) := by decide +kernel
theorem dX8_test_53 : decode cX8_test 53 = .ok (.iload_n 1, 1) := by decide +kernel
theorem dX8_test_54 : decode cX8_test 54 = .ok (.iload_n 2, 1) := by decide +kernel
theorem dX8_test_55 : decode cX8_test 55 = .ok (.invokevirtual 136, 3) := by decide +kernel
theorem dX8_test_58 : decode cX8_test 58 = .ok (.istore_n 3, 1) := by decide +kernel
theorem dX8_test_59 : decode cX8_test 59 = .ok (.iload_n 3, 1) := by decide +kernel
theorem dX8_test_60 : decode cX8_test 60 = .ok (.iconst (-1), 1) := by decide +kernel
theorem dX8_test_61 : decode cX8_test 61 = .ok (.if_icmp .ne 7, 3) := by decide +kernel
theorem dX8_test_64 : decode cX8_test 64 = .ok (.iconst 2, 1) := by decide +kernel
theorem dX8_test_65 : decode cX8_test 65 = .ok (.goto 16, 3) := by decide +kernel
theorem dX8_test_68 : decode cX8_test 68 = .ok (.iload_n 3, 1) := by decide +kernel
theorem dX8_test_69 : decode cX8_test 69 = .ok (.aload_n 0, 1) := by decide +kernel
theorem dX8_test_70 : decode cX8_test 70 = .ok (.getfield 23, 3) := by decide +kernel
theorem dX8_test_73 : decode cX8_test 73 = .ok (.if_icmp .gt 7, 3) := by decide +kernel
theorem dX8_test_76 : decode cX8_test 76 = .ok (.iconst 1, 1) := by decide +kernel
theorem dX8_test_77 : decode cX8_test 77 = .ok (.goto 4, 3) := by decide +kernel
theorem dX8_test_80 : decode cX8_test 80 = .ok (.iconst 0, 1) := by decide +kernel
theorem dX8_test_81 : decode cX8_test 81 = .ok (.istore 4, 2) := by decide +kernel
theorem dX8_test_83 : decode cX8_test 83 = .ok (.aload_n 0, 1) := by decide +kernel
theorem dX8_test_84 : decode cX8_test 84 = .ok (.getfield 16, 3) := by decide +kernel
theorem dX8_test_87 : decode cX8_test 87 = .ok (.iload_n 1, 1) := by decide +kernel
theorem dX8_test_88 : decode cX8_test 88 = .ok (.iaload, 1) := by decide +kernel
theorem dX8_test_89 : decode cX8_test 89 = .ok (.aload_n 0, 1) := by decide +kernel
theorem dX8_test_90 : decode cX8_test 90 = .ok (.getfield 16, 3) := by decide +kernel
theorem dX8_test_93 : decode cX8_test 93 = .ok (.iload_n 2, 1) := by decide +kernel
theorem dX8_test_94 : decode cX8_test 94 = .ok (.iaload, 1) := by decide +kernel
theorem dX8_test_95 : decode cX8_test 95 = .ok (.if_icmp .ne 7, 3) := by decide +kernel
theorem dX8_test_98 : decode cX8_test 98 = .ok (.iconst 1, 1) := by decide +kernel
theorem dX8_test_99 : decode cX8_test 99 = .ok (.goto 4, 3) := by decide +kernel
theorem dX8_test_102 : decode cX8_test 102 = .ok (.iconst 0, 1) := by decide +kernel
theorem dX8_test_103 : decode cX8_test 103 = .ok (.istore 5, 2) := by decide +kernel
theorem dX8_test_105 : decode cX8_test 105 = .ok (.aload_n 0, 1) := by decide +kernel
theorem dX8_test_106 : decode cX8_test 106 = .ok (.dup, 1) := by decide +kernel
theorem dX8_test_107 : decode cX8_test 107 = .ok (.getfield 133, 3) := by decide +kernel
theorem dX8_test_110 : decode cX8_test 110 = .ok (.iconst 1, 1) := by decide +kernel
theorem dX8_test_111 : decode cX8_test 111 = .ok (.iadd, 1) := by decide +kernel
theorem dX8_test_112 : decode cX8_test 112 = .ok (.putfield 133, 3) := by decide +kernel
theorem dX8_test_115 : decode cX8_test 115 = .ok (.aload_n 0, 1) := by decide +kernel
theorem dX8_test_116 : decode cX8_test 116 = .ok (.getfield 29, 3) := by decide +kernel
theorem dX8_test_119 : decode cX8_test 119 = .ok (.iload 4, 2) := by decide +kernel
theorem dX8_test_121 : decode cX8_test 121 = .ok (.iconst 2, 1) := by decide +kernel
theorem dX8_test_122 : decode cX8_test 122 = .ok (.if_icmp .ne 7, 3) := by decide +kernel
theorem dX8_test_125 : decode cX8_test 125 = .ok (.iconst 4, 1) := by decide +kernel
theorem dX8_test_126 : decode cX8_test 126 = .ok (.goto 32, 3) := by decide +kernel
theorem dX8_test_129 : decode cX8_test 129 = .ok (.iload 4, 2) := by decide +kernel
theorem dX8_test_131 : decode cX8_test 131 = .ok (.iconst 1, 1) := by decide +kernel
theorem dX8_test_132 : decode cX8_test 132 = .ok (.if_icmp .ne 16, 3) := by decide +kernel
theorem dX8_test_135 : decode cX8_test 135 = .ok (.iload 5, 2) := by decide +kernel
theorem dX8_test_137 : decode cX8_test 137 = .ok (.ifCond .eq 7, 3) := by decide +kernel
theorem dX8_test_140 : decode cX8_test 140 = .ok (.iconst 0, 1) := by decide +kernel
theorem dX8_test_141 : decode cX8_test 141 = .ok (.goto 17, 3) := by decide +kernel
theorem dX8_test_144 : decode cX8_test 144 = .ok (.iconst 1, 1) := by decide +kernel
theorem dX8_test_145 : decode cX8_test 145 = .ok (.goto 13, 3) := by decide +kernel
theorem dX8_test_148 : decode cX8_test 148 = .ok (.iload 5, 2) := by decide +kernel
theorem dX8_test_150 : decode cX8_test 150 = .ok (.ifCond .eq 7, 3) := by decide +kernel
theorem dX8_test_153 : decode cX8_test 153 = .ok (.iconst 3, 1) := by decide +kernel
theorem dX8_test_154 : decode cX8_test 154 = .ok (.goto 4, 3) := by decide +kernel
theorem dX8_test_157 : decode cX8_test 157 = .ok (.iconst 2, 1) := by decide +kernel
theorem dX8_test_158 : decode cX8_test 158 = .ok (.dup2, 1) := by decide +kernel
theorem dX8_test_159 : decode cX8_test 159 = .ok (.iaload, 1) := by decide +kernel
theorem dX8_test_160 : decode cX8_test 160 = .ok (.iconst 1, 1) := by decide +kernel
theorem dX8_test_161 : decode cX8_test 161 = .ok (.iadd, 1) := by decide +kernel
theorem dX8_test_162 : decode cX8_test 162 = .ok (.iastore, 1) := by decide +kernel
theorem dX8_test_163 : decode cX8_test 163 = .ok (.iload 4, 2) := by decide +kernel
theorem dX8_test_165 : decode cX8_test 165 = .ok (.ireturn, 1) := by decide +kernel
theorem dX8_right_0 : decode cX8_right 0 = .ok (.iload_n 1, 1) := by decide +kernel
theorem dX8_right_1 : decode cX8_right 1 = .ok (.iconst 0, 1) := by decide +kernel
theorem dX8_right_2 : decode cX8_right 2 = .ok (.iconst 4, 1) := by decide +kernel
theorem dX8_right_3 : decode cX8_right 3 = .ok (.invokestatic 59, 3) := by decide +kernel
theorem dX8_right_6 : decode cX8_right 6 = .ok (.ifCond .eq 12, 3) := by decide +kernel
theorem dX8_right_9 : decode cX8_right 9 = .ok (.aload_n 0, 1) := by decide +kernel
theorem dX8_right_10 : decode cX8_right 10 = .ok (.getfield 29, 3) := by decide +kernel
theorem dX8_right_13 : decode cX8_right 13 = .ok (.iload_n 1, 1) := by decide +kernel
theorem dX8_right_14 : decode cX8_right 14 = .ok (.iaload, 1) := by decide +kernel
theorem dX8_right_15 : decode cX8_right 15 = .ok (.goto 4, 3) := by decide +kernel
theorem dX8_right_18 : decode cX8_right 18 = .ok (.iconst (-1), 1) := by decide +kernel
theorem dX8_right_19 : decode cX8_right 19 = .ok (.ireturn, 1) := by decide +kernel
theorem dX8_told_0 : decode cX8_told 0 = .ok (.aload_n 0, 1) := by decide +kernel
theorem dX8_told_1 : decode cX8_told 1 = .ok (.iload_n 1, 1) := by decide +kernel
theorem dX8_told_2 : decode cX8_told 2 = .ok (.invokevirtual 63, 3) := by decide +kernel
theorem dX8_told_5 : decode cX8_told 5 = .ok (.ifCond .ne 5, 3) := by decide +kernel
theorem dX8_told_8 : decode cX8_told 8 = .ok (.iconst (-1), 1) := by decide +kernel
theorem dX8_told_9 : decode cX8_told 9 = .ok (.ireturn, 1) := by decide +kernel
theorem dX8_told_10 : decode cX8_told 10 = .ok (.iload_n 2, 1) := by decide +kernel
theorem dX8_told_11 : decode cX8_told 11 = .ok (.bipush 10, 2) := by decide +kernel
theorem dX8_told_13 : decode cX8_told 13 = .ok (.bipush 15, 2) := by decide +kernel
theorem dX8_told_15 : decode cX8_told 15 = .ok (.invokestatic 59, 3) := by decide +kernel
theorem dX8_told_18 : decode cX8_told 18 = .ok (.ifCond .eq 18, 3) := by decide +kernel
theorem dX8_told_21 : decode cX8_told 21 = .ok (.aload_n 0, 1) := by decide +kernel
theorem dX8_told_22 : decode cX8_told 22 = .ok (.getfield 9, 3) := by decide +kernel
theorem dX8_told_25 : decode cX8_told 25 = .ok (.bipush 6, 2) := by decide +kernel
theorem dX8_told_27 : decode cX8_told 27 = .ok (.iload_n 1, 1) := by decide +kernel
theorem dX8_told_28 : decode cX8_told 28 = .ok (.imul, 1) := by decide +kernel
theorem dX8_told_29 : decode cX8_told 29 = .ok (.iload_n 2, 1) := by decide +kernel
theorem dX8_told_30 : decode cX8_told 30 = .ok (.iadd, 1) := by decide +kernel
theorem dX8_told_31 : decode cX8_told 31 = .ok (.bipush 10, 2) := by decide +kernel
theorem dX8_told_33 : decode cX8_told 33 = .ok (.isub, 1) := by decide +kernel
theorem dX8_told_34 : decode cX8_told 34 = .ok (.iaload, 1) := by decide +kernel
theorem dX8_told_35 : decode cX8_told 35 = .ok (.ireturn, 1) := by decide +kernel
theorem dX8_told_36 : decode cX8_told 36 = .ok (.iconst 0, 1) := by decide +kernel
theorem dX8_told_37 : decode cX8_told 37 = .ok (.istore_n 3, 1) := by decide +kernel
theorem dX8_told_38 : decode cX8_told 38 = .ok (.iload_n 2, 1) := by decide +kernel
theorem dX8_told_39 : decode cX8_told 39 = .ok (.tableswitch 81 0 2 #[25, 32, 39], 25) := by decide +kernel
theorem dX8_told_64 : decode cX8_told 64 = .ok (.aload_n 0, 1) := by decide +kernel
theorem dX8_told_65 : decode cX8_told 65 = .ok (.getfield 13, 3) := by decide +kernel
theorem dX8_told_68 : decode cX8_told 68 = .ok (.iload_n 1, 1) := by decide +kernel
theorem dX8_told_69 : decode cX8_told 69 = .ok (.iaload, 1) := by decide +kernel
theorem dX8_told_70 : decode cX8_told 70 = .ok (.ireturn, 1) := by decide +kernel
theorem dX8_told_71 : decode cX8_told 71 = .ok (.aload_n 0, 1) := by decide +kernel
theorem dX8_told_72 : decode cX8_told 72 = .ok (.getfield 16, 3) := by decide +kernel
theorem dX8_told_75 : decode cX8_told 75 = .ok (.iload_n 1, 1) := by decide +kernel
theorem dX8_told_76 : decode cX8_told 76 = .ok (.iaload, 1) := by decide +kernel
theorem dX8_told_77 : decode cX8_told 77 = .ok (.ireturn, 1) := by decide +kernel
theorem dX8_told_78 : decode cX8_told 78 = .ok (.iconst 0, 1) := by decide +kernel
theorem dX8_told_79 : decode cX8_told 79 = .ok (.istore 4, 2) := by decide +kernel
theorem dX8_told_81 : decode cX8_told 81 = .ok (.iload 4, 2) := by decide +kernel
theorem dX8_told_83 : decode cX8_told 83 = .ok (.bipush 6, 2) := by decide +kernel
theorem dX8_told_85 : decode cX8_told 85 = .ok (.if_icmp .ge 33, 3) := by decide +kernel
theorem dX8_told_88 : decode cX8_told 88 = .ok (.iload_n 3, 1) := by decide +kernel
theorem dX8_told_89 : decode cX8_told 89 = .ok (.aload_n 0, 1) := by decide +kernel
theorem dX8_told_90 : decode cX8_told 90 = .ok (.getfield 9, 3) := by decide +kernel
theorem dX8_told_93 : decode cX8_told 93 = .ok (.bipush 6, 2) := by decide +kernel
theorem dX8_told_95 : decode cX8_told 95 = .ok (.iload_n 1, 1) := by decide +kernel
theorem dX8_told_96 : decode cX8_told 96 = .ok (.imul, 1) := by decide +kernel
theorem dX8_told_97 : decode cX8_told 97 = .ok (.iload 4, 2) := by decide +kernel
theorem dX8_told_99 : decode cX8_told 99 = .ok (.iadd, 1) := by decide +kernel
theorem dX8_told_100 : decode cX8_told 100 = .ok (.iaload, 1) := by decide +kernel
theorem dX8_told_101 : decode cX8_told 101 = .ok (.iconst (-1), 1) := by decide +kernel
theorem dX8_told_102 : decode cX8_told 102 = .ok (.if_icmp .eq 7, 3) := by decide +kernel
theorem dX8_told_105 : decode cX8_told 105 = .ok (.iconst 1, 1) := by decide +kernel
theorem dX8_told_106 : decode cX8_told 106 = .ok (.goto 4, 3) := by decide +kernel
theorem dX8_told_109 : decode cX8_told 109 = .ok (.iconst 0, 1) := by decide +kernel
theorem dX8_told_110 : decode cX8_told 110 = .ok (.iadd, 1) := by decide +kernel
theorem dX8_told_111 : decode cX8_told 111 = .ok (.istore_n 3, 1) := by decide +kernel
theorem dX8_told_112 : decode cX8_told 112 = .ok (.iinc 4 1, 3) := by decide +kernel
theorem dX8_told_115 : decode cX8_told 115 = .ok (.goto (-34), 3) := by decide +kernel
theorem dX8_told_118 : decode cX8_told 118 = .ok (.iload_n 3, 1) := by decide +kernel
theorem dX8_told_119 : decode cX8_told 119 = .ok (.ireturn, 1) := by decide +kernel
theorem dX8_told_120 : decode cX8_told 120 = .ok (.iconst (-1), 1) := by decide +kernel
theorem dX8_told_121 : decode cX8_told 121 = .ok (.ireturn, 1) := by decide +kernel
theorem dX8_count_0 : decode cX8_count 0 = .ok (.iconst 0, 1) := by decide +kernel
theorem dX8_count_1 : decode cX8_count 1 = .ok (.istore_n 2, 1) := by decide +kernel
theorem dX8_count_2 : decode cX8_count 2 = .ok (.iload_n 1, 1) := by decide +kernel
theorem dX8_count_3 : decode cX8_count 3 = .ok (.tableswitch 123 0 6 #[41, 46, 58, 70, 108, 113, 118], 41) := by decide +kernel
theorem dX8_count_44 : decode cX8_count 44 = .ok (.aload_n 0, 1) := by decide +kernel
theorem dX8_count_45 : decode cX8_count 45 = .ok (.getfield 56, 3) := by decide +kernel
theorem dX8_count_48 : decode cX8_count 48 = .ok (.ireturn, 1) := by decide +kernel
theorem dX8_count_49 : decode cX8_count 49 = .ok (.aload_n 0, 1) := by decide +kernel
theorem dX8_count_50 : decode cX8_count 50 = .ok (.invokevirtual 95, 3) := by decide +kernel
theorem dX8_count_53 : decode cX8_count 53 = .ok (.aload_n 0, 1) := by decide +kernel
theorem dX8_count_54 : decode cX8_count 54 = .ok (.getfield 35, 3) := by decide +kernel
theorem dX8_count_57 : decode cX8_count 57 = .ok (.invokestatic 108, 3) := by decide +kernel
theorem dX8_count_60 : decode cX8_count 60 = .ok (.ireturn, 1) := by decide +kernel
theorem dX8_count_61 : decode cX8_count 61 = .ok (.aload_n 0, 1) := by decide +kernel
theorem dX8_count_62 : decode cX8_count 62 = .ok (.invokevirtual 95, 3) := by decide +kernel
theorem dX8_count_65 : decode cX8_count 65 = .ok (.aload_n 0, 1) := by decide +kernel
theorem dX8_count_66 : decode cX8_count 66 = .ok (.getfield 38, 3) := by decide +kernel
theorem dX8_count_69 : decode cX8_count 69 = .ok (.invokestatic 108, 3) := by decide +kernel
theorem dX8_count_72 : decode cX8_count 72 = .ok (.ireturn, 1) := by decide +kernel
theorem dX8_count_73 : decode cX8_count 73 = .ok (.aload_n 0, 1) := by decide +kernel
theorem dX8_count_74 : decode cX8_count 74 = .ok (.invokevirtual 105, 3) := by decide +kernel
theorem dX8_count_77 : decode cX8_count 77 = .ok (.iconst 0, 1) := by decide +kernel
theorem dX8_count_78 : decode cX8_count 78 = .ok (.istore_n 3, 1) := by decide +kernel
theorem dX8_count_79 : decode cX8_count 79 = .ok (.iload_n 3, 1) := by decide +kernel
theorem dX8_count_80 : decode cX8_count 80 = .ok (.bipush 10, 2) := by decide +kernel
theorem dX8_count_82 : decode cX8_count 82 = .ok (.if_icmp .ge 27, 3) := by decide +kernel
theorem dX8_count_85 : decode cX8_count 85 = .ok (.iload_n 2, 1) := by decide +kernel
theorem dX8_count_86 : decode cX8_count 86 = .ok (.aload_n 0, 1) := by decide +kernel
theorem dX8_count_87 : decode cX8_count 87 = .ok (.getfield 41, 3) := by decide +kernel
theorem dX8_count_90 : decode cX8_count 90 = .ok (.iload_n 3, 1) := by decide +kernel
theorem dX8_count_91 : decode cX8_count 91 = .ok (.iaload, 1) := by decide +kernel
theorem dX8_count_92 : decode cX8_count 92 = .ok (.iload_n 3, 1) := by decide +kernel
theorem dX8_count_93 : decode cX8_count 93 = .ok (.if_icmp .ne 7, 3) := by decide +kernel
theorem dX8_count_96 : decode cX8_count 96 = .ok (.iconst 1, 1) := by decide +kernel
theorem dX8_count_97 : decode cX8_count 97 = .ok (.goto 4, 3) := by decide +kernel
theorem dX8_count_100 : decode cX8_count 100 = .ok (.iconst 0, 1) := by decide +kernel
theorem dX8_count_101 : decode cX8_count 101 = .ok (.iadd, 1) := by decide +kernel
theorem dX8_count_102 : decode cX8_count 102 = .ok (.istore_n 2, 1) := by decide +kernel
theorem dX8_count_103 : decode cX8_count 103 = .ok (.iinc 3 1, 3) := by decide +kernel
theorem dX8_count_106 : decode cX8_count 106 = .ok (.goto (-27), 3) := by decide +kernel
theorem dX8_count_109 : decode cX8_count 109 = .ok (.iload_n 2, 1) := by decide +kernel
theorem dX8_count_110 : decode cX8_count 110 = .ok (.ireturn, 1) := by decide +kernel
theorem dX8_count_111 : decode cX8_count 111 = .ok (.aload_n 0, 1) := by decide +kernel
theorem dX8_count_112 : decode cX8_count 112 = .ok (.getfield 112, 3) := by decide +kernel
theorem dX8_count_115 : decode cX8_count 115 = .ok (.ireturn, 1) := by decide +kernel
theorem dX8_count_116 : decode cX8_count 116 = .ok (.aload_n 0, 1) := by decide +kernel
theorem dX8_count_117 : decode cX8_count 117 = .ok (.getfield 23, 3) := by decide +kernel
theorem dX8_count_120 : decode cX8_count 120 = .ok (.ireturn, 1) := by decide +kernel
theorem dX8_count_121 : decode cX8_count 121 = .ok (.aload_n 0, 1) := by decide +kernel
theorem dX8_count_122 : decode cX8_count 122 = .ok (.getfield 19, 3) := by decide +kernel
theorem dX8_count_125 : decode cX8_count 125 = .ok (.ireturn, 1) := by decide +kernel
theorem dX8_count_126 : decode cX8_count 126 = .ok (.iconst (-1), 1) := by decide +kernel
theorem dX8_count_127 : decode cX8_count 127 = .ok (.ireturn, 1) := by decide +kernel
