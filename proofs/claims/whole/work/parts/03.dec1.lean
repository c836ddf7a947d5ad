theorem dX0_init_0 : decode cX0_init 0 = .ok (.aload_n 0, 1) := by decide +kernel
theorem dX0_init_1 : decode cX0_init 1 = .ok (.invokespecial 3, 3) := by decide +kernel
theorem dX0_init_4 : decode cX0_init 4 = .ok (.aload_n 0, 1) := by decide +kernel
theorem dX0_init_5 : decode cX0_init 5 = .ok (.bipush 30, 2) := by decide +kernel
theorem dX0_init_7 : decode cX0_init 7 = .ok (.newarray .int, 2) := by decide +kernel
theorem dX0_init_9 : decode cX0_init 9 = .ok (.putfield 9, 3) := by decide +kernel
theorem dX0_init_12 : decode cX0_init 12 = .ok (.aload_n 0, 1) := by decide +kernel
theorem dX0_init_13 : decode cX0_init 13 = .ok (.bipush 30, 2) := by decide +kernel
theorem dX0_init_15 : decode cX0_init 15 = .ok (.newarray .int, 2) := by decide +kernel
theorem dX0_init_17 : decode cX0_init 17 = .ok (.putfield 15, 3) := by decide +kernel
theorem dX0_init_20 : decode cX0_init 20 = .ok (.aload_n 0, 1) := by decide +kernel
theorem dX0_init_21 : decode cX0_init 21 = .ok (.sipush 180, 3) := by decide +kernel
theorem dX0_init_24 : decode cX0_init 24 = .ok (.newarray .int, 2) := by decide +kernel
theorem dX0_init_26 : decode cX0_init 26 = .ok (.putfield 18, 3) := by decide +kernel
theorem dX0_init_29 : decode cX0_init 29 = .ok (.aload_n 0, 1) := by decide +kernel
theorem dX0_init_30 : decode cX0_init 30 = .ok (.getfield 18, 3) := by decide +kernel
theorem dX0_init_33 : decode cX0_init 33 = .ok (.iconst (-1), 1) := by decide +kernel
theorem dX0_init_34 : decode cX0_init 34 = .ok (.invokestatic 21, 3) := by decide +kernel
theorem dX0_init_37 : decode cX0_init 37 = .ok (.aload_n 0, 1) := by decide +kernel
theorem dX0_init_38 : decode cX0_init 38 = .ok (.iconst 0, 1) := by decide +kernel
theorem dX0_init_39 : decode cX0_init 39 = .ok (.putfield 27, 3) := by decide +kernel
theorem dX0_init_42 : decode cX0_init 42 = .ok (.return_, 1) := by decide +kernel
theorem dX0_size_0 : decode cX0_size 0 = .ok (.aload_n 0, 1) := by decide +kernel
theorem dX0_size_1 : decode cX0_size 1 = .ok (.getfield 27, 3) := by decide +kernel
theorem dX0_size_4 : decode cX0_size 4 = .ok (.ireturn, 1) := by decide +kernel
theorem dX0_isFull_0 : decode cX0_isFull 0 = .ok (.aload_n 0, 1) := by decide +kernel
theorem dX0_isFull_1 : decode cX0_isFull 1 = .ok (.getfield 27, 3) := by decide +kernel
theorem dX0_isFull_4 : decode cX0_isFull 4 = .ok (.bipush 30, 2) := by decide +kernel
theorem dX0_isFull_6 : decode cX0_isFull 6 = .ok (.if_icmp .lt 7, 3) := by decide +kernel
theorem dX0_isFull_9 : decode cX0_isFull 9 = .ok (.iconst 1, 1) := by decide +kernel
theorem dX0_isFull_10 : decode cX0_isFull 10 = .ok (.goto 4, 3) := by decide +kernel
theorem dX0_isFull_13 : decode cX0_isFull 13 = .ok (.iconst 0, 1) := by decide +kernel
theorem dX0_isFull_14 : decode cX0_isFull 14 = .ok (.ireturn, 1) := by decide +kernel
theorem dX0_has_0 : decode cX0_has 0 = .ok (.iload_n 1, 1) := by decide +kernel
theorem dX0_has_1 : decode cX0_has 1 = .ok (.ifCond .lt 15, 3) := by decide +kernel
theorem dX0_has_4 : decode cX0_has 4 = .ok (.iload_n 1, 1) := by decide +kernel
theorem dX0_has_5 : decode cX0_has 5 = .ok (.aload_n 0, 1) := by decide +kernel
theorem dX0_has_6 : decode cX0_has 6 = .ok (.getfield 27, 3) := by decide +kernel
theorem dX0_has_9 : decode cX0_has 9 = .ok (.if_icmp .ge 7, 3) := by decide +kernel
theorem dX0_has_12 : decode cX0_has 12 = .ok (.iconst 1, 1) := by decide +kernel
theorem dX0_has_13 : decode cX0_has 13 = .ok (.goto 4, 3) := by decide +kernel
theorem dX0_has_16 : decode cX0_has 16 = .ok (.iconst 0, 1) := by decide +kernel
theorem dX0_has_17 : decode cX0_has 17 = .ok (.ireturn, 1) := by decide +kernel
theorem dX0_add_0 : decode cX0_add 0 = .ok (.aload_n 0, 1) := by decide +kernel
theorem dX0_add_1 : decode cX0_add 1 = .ok (.getfield 27, 3) := by decide +kernel
theorem dX0_add_4 : decode cX0_add 4 = .ok (.istore_n 3, 1) := by decide +kernel
theorem dX0_add_5 : decode cX0_add 5 = .ok (.aload_n 0, 1) := by decide +kernel
theorem dX0_add_6 : decode cX0_add 6 = .ok (.getfield 9, 3) := by decide +kernel
theorem dX0_add_9 : decode cX0_add 9 = .ok (.iload_n 3, 1) := by decide +kernel
theorem dX0_add_10 : decode cX0_add 10 = .ok (.iload_n 1, 1) := by decide +kernel
theorem dX0_add_11 : decode cX0_add 11 = .ok (.iastore, 1) := by decide +kernel
theorem dX0_add_12 : decode cX0_add 12 = .ok (.aload_n 0, 1) := by decide +kernel
theorem dX0_add_13 : decode cX0_add 13 = .ok (.getfield 15, 3) := by decide +kernel
theorem dX0_add_16 : decode cX0_add 16 = .ok (.iload_n 3, 1) := by decide +kernel
theorem dX0_add_17 : decode cX0_add 17 = .ok (.iload_n 2, 1) := by decide +kernel
theorem dX0_add_18 : decode cX0_add 18 = .ok (.iastore, 1) := by decide +kernel
theorem dX0_add_19 : decode cX0_add 19 = .ok (.aload_n 0, 1) := by decide +kernel
theorem dX0_add_20 : decode cX0_add 20 = .ok (.dup, 1) := by decide +kernel
theorem dX0_add_21 : decode cX0_add 21 = .ok (.getfield 27, 3) := by decide +kernel
theorem dX0_add_24 : decode cX0_add 24 = .ok (.iconst 1, 1) := by decide +kernel
theorem dX0_add_25 : decode cX0_add 25 = .ok (.iadd, 1) := by decide +kernel
theorem dX0_add_26 : decode cX0_add 26 = .ok (.putfield 27, 3) := by decide +kernel
theorem dX0_add_29 : decode cX0_add 29 = .ok (.iload_n 3, 1) := by decide +kernel
theorem dX0_add_30 : decode cX0_add 30 = .ok (.ireturn, 1) := by decide +kernel
theorem dX0_putTone_0 : decode cX0_putTone 0 = .ok (.aload_n 0, 1) := by decide +kernel
theorem dX0_putTone_1 : decode cX0_putTone 1 = .ok (.getfield 18, 3) := by decide +kernel
theorem dX0_putTone_4 : decode cX0_putTone 4 = .ok (.iload_n 1, 1) := by decide +kernel
theorem dX0_putTone_5 : decode cX0_putTone 5 = .ok (.bipush 6, 2) := by decide +kernel
theorem dX0_putTone_7 : decode cX0_putTone 7 = .ok (.imul, 1) := by decide +kernel
theorem dX0_putTone_8 : decode cX0_putTone 8 = .ok (.iload_n 2, 1) := by decide +kernel
theorem dX0_putTone_9 : decode cX0_putTone 9 = .ok (.iadd, 1) := by decide +kernel
theorem dX0_putTone_10 : decode cX0_putTone 10 = .ok (.iload_n 3, 1) := by decide +kernel
theorem dX0_putTone_11 : decode cX0_putTone 11 = .ok (.iastore, 1) := by decide +kernel
theorem dX0_putTone_12 : decode cX0_putTone 12 = .ok (.return_, 1) := by decide +kernel
theorem dX0_putSpeaker_0 : decode cX0_putSpeaker 0 = .ok (.aload_n 0, 1) := by decide +kernel
theorem dX0_putSpeaker_1 : decode cX0_putSpeaker 1 = .ok (.getfield 15, 3) := by decide +kernel
theorem dX0_putSpeaker_4 : decode cX0_putSpeaker 4 = .ok (.iload_n 1, 1) := by decide +kernel
theorem dX0_putSpeaker_5 : decode cX0_putSpeaker 5 = .ok (.iload_n 2, 1) := by decide +kernel
theorem dX0_putSpeaker_6 : decode cX0_putSpeaker 6 = .ok (.iastore, 1) := by decide +kernel
theorem dX0_putSpeaker_7 : decode cX0_putSpeaker 7 = .ok (.return_, 1) := by decide +kernel
theorem dX0_channelOf_0 : decode cX0_channelOf 0 = .ok (.aload_n 0, 1) := by decide +kernel
theorem dX0_channelOf_1 : decode cX0_channelOf 1 = .ok (.getfield 9, 3) := by decide +kernel
theorem dX0_channelOf_4 : decode cX0_channelOf 4 = .ok (.iload_n 1, 1) := by decide +kernel
theorem dX0_channelOf_5 : decode cX0_channelOf 5 = .ok (.iaload, 1) := by decide +kernel
theorem dX0_channelOf_6 : decode cX0_channelOf 6 = .ok (.ireturn, 1) := by decide +kernel
theorem dX0_speakerOf_0 : decode cX0_speakerOf 0 = .ok (.aload_n 0, 1) := by decide +kernel
theorem dX0_speakerOf_1 : decode cX0_speakerOf 1 = .ok (.getfield 15, 3) := by decide +kernel
theorem dX0_speakerOf_4 : decode cX0_speakerOf 4 = .ok (.iload_n 1, 1) := by decide +kernel
theorem dX0_speakerOf_5 : decode cX0_speakerOf 5 = .ok (.iaload, 1) := by decide +kernel
theorem dX0_speakerOf_6 : decode cX0_speakerOf 6 = .ok (.ireturn, 1) := by decide +kernel
theorem dX0_isKnown_0 : decode cX0_isKnown 0 = .ok (.aload_n 0, 1) := by decide +kernel
theorem dX0_isKnown_1 : decode cX0_isKnown 1 = .ok (.getfield 15, 3) := by decide +kernel
theorem dX0_isKnown_4 : decode cX0_isKnown 4 = .ok (.iload_n 1, 1) := by decide +kernel
theorem dX0_isKnown_5 : decode cX0_isKnown 5 = .ok (.iaload, 1) := by decide +kernel
theorem dX0_isKnown_6 : decode cX0_isKnown 6 = .ok (.iconst (-1), 1) := by decide +kernel
theorem dX0_isKnown_7 : decode cX0_isKnown 7 = .ok (.if_icmp .eq 7, 3) := by decide +kernel
theorem dX0_isKnown_10 : decode cX0_isKnown 10 = .ok (.iconst 1, 1) := by decide +kernel
theorem dX0_isKnown_11 : decode cX0_isKnown 11 = .ok (.goto 4, 3) := by decide +kernel
theorem dX0_isKnown_14 : decode cX0_isKnown 14 = .ok (.iconst 0, 1) := by decide +kernel
theorem dX0_isKnown_15 : decode cX0_isKnown 15 = .ok (.ireturn, 1) := by decide +kernel
theorem dX0_isOfSet_0 : decode cX0_isOfSet 0 = .ok (.aload_n 0, 1) := by decide +kernel
theorem dX0_isOfSet_1 : decode cX0_isOfSet 1 = .ok (.iload_n 1, 1) := by decide +kernel
theorem dX0_isOfSet_2 : decode cX0_isOfSet 2 = .ok (.invokevirtual 31, 3) := by decide +kernel
theorem dX0_isOfSet_5 : decode cX0_isOfSet 5 = .ok (.ifCond .eq 21, 3) := by decide +kernel
theorem dX0_isOfSet_8 : decode cX0_isOfSet 8 = .ok (.iload_n 2, 1) := by decide +kernel
theorem dX0_isOfSet_9 : decode cX0_isOfSet 9 = .ok (.aload_n 0, 1) := by decide +kernel
theorem dX0_isOfSet_10 : decode cX0_isOfSet 10 = .ok (.getfield 15, 3) := by decide +kernel
theorem dX0_isOfSet_13 : decode cX0_isOfSet 13 = .ok (.iload_n 1, 1) := by decide +kernel
theorem dX0_isOfSet_14 : decode cX0_isOfSet 14 = .ok (.iaload, 1) := by decide +kernel
theorem dX0_isOfSet_15 : decode cX0_isOfSet 15 = .ok (.ishr, 1) := by decide +kernel
theorem dX0_isOfSet_16 : decode cX0_isOfSet 16 = .ok (.iconst 1, 1) := by decide +kernel
theorem dX0_isOfSet_17 : decode cX0_isOfSet 17 = .ok (.iand, 1) := by decide +kernel
theorem dX0_isOfSet_18 : decode cX0_isOfSet 18 = .ok (.iconst 1, 1) := by decide +kernel
theorem dX0_isOfSet_19 : decode cX0_isOfSet 19 = .ok (.if_icmp .ne 7, 3) := by decide +kernel
theorem dX0_isOfSet_22 : decode cX0_isOfSet 22 = .ok (.iconst 1, 1) := by decide +kernel
theorem dX0_isOfSet_23 : decode cX0_isOfSet 23 = .ok (.goto 4, 3) := by decide +kernel
theorem dX0_isOfSet_26 : decode cX0_isOfSet 26 = .ok (.iconst 0, 1) := by decide +kernel
theorem dX0_isOfSet_27 : decode cX0_isOfSet 27 = .ok (.ireturn, 1) := by decide +kernel
theorem dX0_toneAt_0 : decode cX0_toneAt 0 = .ok (.aload_n 0, 1) := by decide +kernel
theorem dX0_toneAt_1 : decode cX0_toneAt 1 = .ok (.getfield 18, 3) := by decide +kernel
theorem dX0_toneAt_4 : decode cX0_toneAt 4 = .ok (.iload_n 1, 1) := by decide +kernel
theorem dX0_toneAt_5 : decode cX0_toneAt 5 = .ok (.bipush 6, 2) := by decide +kernel
theorem dX0_toneAt_7 : decode cX0_toneAt 7 = .ok (.imul, 1) := by decide +kernel
theorem dX0_toneAt_8 : decode cX0_toneAt 8 = .ok (.iload_n 2, 1) := by decide +kernel
theorem dX0_toneAt_9 : decode cX0_toneAt 9 = .ok (.iadd, 1) := by decide +kernel
theorem dX0_toneAt_10 : decode cX0_toneAt 10 = .ok (.iaload, 1) := by decide +kernel
theorem dX0_toneAt_11 : decode cX0_toneAt 11 = .ok (.ireturn, 1) := by decide +kernel
theorem dX0_countTones_0 : decode cX0_countTones 0 = .ok (.iconst 0, 1) := by decide +kernel
theorem dX0_countTones_1 : decode cX0_countTones 1 = .ok (.istore_n 2, 1) := by decide +kernel
theorem dX0_countTones_2 : decode cX0_countTones 2 = .ok (.iconst 0, 1) := by decide +kernel
theorem dX0_countTones_3 : decode cX0_countTones 3 = .ok (.istore_n 3, 1) := by decide +kernel
theorem dX0_countTones_4 : decode cX0_countTones 4 = .ok (.iload_n 3, 1) := by decide +kernel
theorem dX0_countTones_5 : decode cX0_countTones 5 = .ok (.bipush 6, 2) := by decide +kernel
theorem dX0_countTones_7 : decode cX0_countTones 7 = .ok (.if_icmp .ge 22, 3) := by decide +kernel
theorem dX0_countTones_10 : decode cX0_countTones 10 = .ok (.aload_n 0, 1) := by decide +kernel
theorem dX0_countTones_11 : decode cX0_countTones 11 = .ok (.iload_n 1, 1) := by decide +kernel
theorem dX0_countTones_12 : decode cX0_countTones 12 = .ok (.iload_n 3, 1) := by decide +kernel
theorem dX0_countTones_13 : decode cX0_countTones 13 = .ok (.invokevirtual 35, 3) := by decide +kernel
theorem dX0_countTones_16 : decode cX0_countTones 16 = .ok (.iconst (-1), 1) := by decide +kernel
theorem dX0_countTones_17 : decode cX0_countTones 17 = .ok (.if_icmp .eq 6, 3) := by decide +kernel
theorem dX0_countTones_20 : decode cX0_countTones 20 = .ok (.iinc 2 1, 3) := by decide +kernel
theorem dX0_countTones_23 : decode cX0_countTones 23 = .ok (.iinc 3 1, 3) := by decide +kernel
theorem dX0_countTones_26 : decode cX0_countTones 26 = .ok (.goto (-22), 3) := by decide +kernel
theorem dX0_countTones_29 : decode cX0_countTones 29 = .ok (.iload_n 2, 1) := by decide +kernel
theorem dX0_countTones_30 : decode cX0_countTones 30 = .ok (.ireturn, 1) := by decide +kernel
theorem dX1_init_0 : decode cX1_init 0 = .ok (.aload_n 0, 1) := by decide +kernel
theorem dX1_init_1 : decode cX1_init 1 = .ok (.invokespecial 3, 3) := by decide +kernel
theorem dX1_init_4 : decode cX1_init 4 = .ok (.aload_n 0, 1) := by decide +kernel
theorem dX1_init_5 : decode cX1_init 5 = .ok (.iconst 5, 1) := by decide +kernel
theorem dX1_init_6 : decode cX1_init 6 = .ok (.newarray .int, 2) := by decide +kernel
theorem dX1_init_8 : decode cX1_init 8 = .ok (.putfield 9, 3) := by decide +kernel
theorem dX1_init_11 : decode cX1_init 11 = .ok (.aload_n 0, 1) := by decide +kernel
theorem dX1_init_12 : decode cX1_init 12 = .ok (.iconst 0, 1) := by decide +kernel
theorem dX1_init_13 : decode cX1_init 13 = .ok (.putfield 15, 3) := by decide +kernel
theorem dX1_init_16 : decode cX1_init 16 = .ok (.return_, 1) := by decide +kernel
theorem dX1_areOver_0 : decode cX1_areOver 0 = .ok (.aload_n 0, 1) := by decide +kernel
theorem dX1_areOver_1 : decode cX1_areOver 1 = .ok (.getfield 15, 3) := by decide +kernel
theorem dX1_areOver_4 : decode cX1_areOver 4 = .ok (.bipush 60, 2) := by decide +kernel
theorem dX1_areOver_6 : decode cX1_areOver 6 = .ok (.if_icmp .lt 7, 3) := by decide +kernel
theorem dX1_areOver_9 : decode cX1_areOver 9 = .ok (.iconst 1, 1) := by decide +kernel
theorem dX1_areOver_10 : decode cX1_areOver 10 = .ok (.goto 4, 3) := by decide +kernel
theorem dX1_areOver_13 : decode cX1_areOver 13 = .ok (.iconst 0, 1) := by decide +kernel
theorem dX1_areOver_14 : decode cX1_areOver 14 = .ok (.ireturn, 1) := by decide +kernel
theorem dX1_put_0 : decode cX1_put 0 = .ok (.aload_n 0, 1) := by decide +kernel
theorem dX1_put_1 : decode cX1_put 1 = .ok (.dup, 1) := by decide +kernel
theorem dX1_put_2 : decode cX1_put 2 = .ok (.getfield 15, 3) := by decide +kernel
theorem dX1_put_5 : decode cX1_put 5 = .ok (.iconst 1, 1) := by decide +kernel
theorem dX1_put_6 : decode cX1_put 6 = .ok (.iadd, 1) := by decide +kernel
theorem dX1_put_7 : decode cX1_put 7 = .ok (.putfield 15, 3) := by decide +kernel
theorem dX1_put_10 : decode cX1_put 10 = .ok (.iload_n 1, 1) := by decide +kernel
theorem dX1_put_11 : decode cX1_put 11 = .ok (.iconst (-1), 1) := by decide +kernel
theorem dX1_put_12 : decode cX1_put 12 = .ok (.if_icmp .ne 15, 3) := by decide +kernel
theorem dX1_put_15 : decode cX1_put 15 = .ok (.aload_n 0, 1) := by decide +kernel
theorem dX1_put_16 : decode cX1_put 16 = .ok (.getfield 9, 3) := by decide +kernel
theorem dX1_put_19 : decode cX1_put 19 = .ok (.iconst 4, 1) := by decide +kernel
theorem dX1_put_20 : decode cX1_put 20 = .ok (.dup2, 1) := by decide +kernel
theorem dX1_put_21 : decode cX1_put 21 = .ok (.iaload, 1) := by decide +kernel
theorem dX1_put_22 : decode cX1_put 22 = .ok (.iconst 1, 1) := by decide +kernel
theorem dX1_put_23 : decode cX1_put 23 = .ok (.iadd, 1) := by decide +kernel
theorem dX1_put_24 : decode cX1_put 24 = .ok (.iastore, 1) := by decide +kernel
theorem dX1_put_25 : decode cX1_put 25 = .ok (.iconst 2, 1) := by decide +kernel
theorem dX1_put_26 : decode cX1_put 26 = .ok (.ireturn, 1) := by decide +kernel
theorem dX1_put_27 : decode cX1_put 27 = .ok (.iload_n 1, 1) := by decide +kernel
theorem dX1_put_28 : decode cX1_put 28 = .ok (.iload_n 2, 1) := by decide +kernel
theorem dX1_put_29 : decode cX1_put 29 = .ok (.if_icmp .gt 23, 3) := by decide +kernel
theorem dX1_put_32 : decode cX1_put 32 = .ok (.aload_n 0, 1) := by decide +kernel
theorem dX1_put_33 : decode cX1_put 33 = .ok (.getfield 9, 3) := by decide +kernel
theorem dX1_put_36 : decode cX1_put 36 = .ok (.iload_n 3, 1) := by decide +kernel
theorem dX1_put_37 : decode cX1_put 37 = .ok (.ifCond .eq 7, 3) := by decide +kernel
theorem dX1_put_40 : decode cX1_put 40 = .ok (.iconst 0, 1) := by decide +kernel
theorem dX1_put_41 : decode cX1_put 41 = .ok (.goto 4, 3) := by decide +kernel
theorem dX1_put_44 : decode cX1_put 44 = .ok (.iconst 1, 1) := by decide +kernel
theorem dX1_put_45 : decode cX1_put 45 = .ok (.dup2, 1) := by decide +kernel
theorem dX1_put_46 : decode cX1_put 46 = .ok (.iaload, 1) := by decide +kernel
theorem dX1_put_47 : decode cX1_put 47 = .ok (.iconst 1, 1) := by decide +kernel
theorem dX1_put_48 : decode cX1_put 48 = .ok (.iadd, 1) := by decide +kernel
theorem dX1_put_49 : decode cX1_put 49 = .ok (.iastore, 1) := by decide +kernel
theorem dX1_put_50 : decode cX1_put 50 = .ok (.iconst 1, 1) := by decide +kernel
theorem dX1_put_51 : decode cX1_put 51 = .ok (.ireturn, 1) := by decide +kernel
theorem dX1_put_52 : decode cX1_put 52 = .ok (.aload_n 0, 1) := by decide +kernel
theorem dX1_put_53 : decode cX1_put 53 = .ok (.getfield 9, 3) := by decide +kernel
theorem dX1_put_56 : decode cX1_put 56 = .ok (.iload_n 3, 1) := by decide +kernel
theorem dX1_put_57 : decode cX1_put 57 = .ok (.ifCond .eq 7, 3) := by decide +kernel
theorem dX1_put_60 : decode cX1_put 60 = .ok (.iconst 3, 1) := by decide +kernel
theorem dX1_put_61 : decode cX1_put 61 = .ok (.goto 4, 3) := by decide +kernel
theorem dX1_put_64 : decode cX1_put 64 = .ok (.iconst 2, 1) := by decide +kernel
theorem dX1_put_65 : decode cX1_put 65 = .ok (.dup2, 1) := by decide +kernel
theorem dX1_put_66 : decode cX1_put 66 = .ok (.iaload, 1) := by decide +kernel
theorem dX1_put_67 : decode cX1_put 67 = .ok (.iconst 1, 1) := by decide +kernel
theorem dX1_put_68 : decode cX1_put 68 = .ok (.iadd, 1) := by decide +kernel
theorem dX1_put_69 : decode cX1_put 69 = .ok (.iastore, 1) := by decide +kernel
theorem dX1_put_70 : decode cX1_put 70 = .ok (.iconst 0, 1) := by decide +kernel
theorem dX1_put_71 : decode cX1_put 71 = .ok (.ireturn, 1) := by decide +kernel
theorem dX1_outcome_0 : decode cX1_outcome 0 = .ok (.aload_n 0, 1) := by decide +kernel
theorem dX1_outcome_1 : decode cX1_outcome 1 = .ok (.getfield 9, 3) := by decide +kernel
theorem dX1_outcome_4 : decode cX1_outcome 4 = .ok (.iload_n 1, 1) := by decide +kernel
theorem dX1_outcome_5 : decode cX1_outcome 5 = .ok (.iaload, 1) := by decide +kernel
theorem dX1_outcome_6 : decode cX1_outcome 6 = .ok (.ireturn, 1) := by decide +kernel
theorem dX2_init_0 : decode cX2_init 0 = .ok (.aload_n 0, 1) := by decide +kernel
theorem dX2_init_1 : decode cX2_init 1 = .ok (.invokespecial 3, 3) := by decide +kernel
theorem dX2_init_4 : decode cX2_init 4 = .ok (.aload_n 0, 1) := by decide +kernel
theorem dX2_init_5 : decode cX2_init 5 = .ok (.aload_n 1, 1) := by decide +kernel
theorem dX2_init_6 : decode cX2_init 6 = .ok (.putfield 9, 3) := by decide +kernel
theorem dX2_init_9 : decode cX2_init 9 = .ok (.aload_n 0, 1) := by decide +kernel
theorem dX2_init_10 : decode cX2_init 10 = .ok (.aload_n 2, 1) := by decide +kernel
theorem dX2_init_11 : decode cX2_init 11 = .ok (.putfield 15, 3) := by decide +kernel
theorem dX2_init_14 : decode cX2_init 14 = .ok (.aload_n 0, 1) := by decide +kernel
theorem dX2_init_15 : decode cX2_init 15 = .ok (.bipush 30, 2) := by decide +kernel
theorem dX2_init_17 : decode cX2_init 17 = .ok (.newarray .int, 2) := by decide +kernel
theorem dX2_init_19 : decode cX2_init 19 = .ok (.putfield 19, 3) := by decide +kernel
theorem dX2_init_22 : decode cX2_init 22 = .ok (.aload_n 0, 1) := by decide +kernel
theorem dX2_init_23 : decode cX2_init 23 = .ok (.bipush 30, 2) := by decide +kernel
theorem dX2_init_25 : decode cX2_init 25 = .ok (.newarray .int, 2) := by decide +kernel
theorem dX2_init_27 : decode cX2_init 27 = .ok (.putfield 23, 3) := by decide +kernel
theorem dX2_init_30 : decode cX2_init 30 = .ok (.aload_n 0, 1) := by decide +kernel
theorem dX2_init_31 : decode cX2_init 31 = .ok (.iconst 0, 1) := by decide +kernel
theorem dX2_init_32 : decode cX2_init 32 = .ok (.putfield 26, 3) := by decide +kernel
theorem dX2_init_35 : decode cX2_init 35 = .ok (.return_, 1) := by decide +kernel
theorem dX2_callFor_0 : decode cX2_callFor 0 = .ok (.aload_n 0, 1) := by decide +kernel
theorem dX2_callFor_1 : decode cX2_callFor 1 = .ok (.iconst 0, 1) := by decide +kernel
theorem dX2_callFor_2 : decode cX2_callFor 2 = .ok (.putfield 26, 3) := by decide +kernel
theorem dX2_callFor_5 : decode cX2_callFor 5 = .ok (.iconst 0, 1) := by decide +kernel
theorem dX2_callFor_6 : decode cX2_callFor 6 = .ok (.istore_n 3, 1) := by decide +kernel
theorem dX2_callFor_7 : decode cX2_callFor 7 = .ok (.iload_n 3, 1) := by decide +kernel
theorem dX2_callFor_8 : decode cX2_callFor 8 = .ok (.aload_n 0, 1) := by decide +kernel
theorem dX2_callFor_9 : decode cX2_callFor 9 = .ok (.getfield 9, 3) := by decide +kernel
theorem dX2_callFor_12 : decode cX2_callFor 12 = .ok (.invokevirtual 30, 3) := by decide +kernel
theorem dX2_callFor_15 : decode cX2_callFor 15 = .ok (.if_icmp .ge 50, 3) := by decide +kernel
theorem dX2_callFor_18 : decode cX2_callFor 18 = .ok (.iload_n 3, 1) := by decide +kernel
theorem dX2_callFor_19 : decode cX2_callFor 19 = .ok (.iload_n 1, 1) := by decide +kernel
theorem dX2_callFor_20 : decode cX2_callFor 20 = .ok (.if_icmp .eq 39, 3) := by decide +kernel
theorem dX2_callFor_23 : decode cX2_callFor 23 = .ok (.aload_n 0, 1) := by decide +kernel
theorem dX2_callFor_24 : decode cX2_callFor 24 = .ok (.getfield 9, 3) := by decide +kernel
theorem dX2_callFor_27 : decode cX2_callFor 27 = .ok (.iload_n 3, 1) := by decide +kernel
theorem dX2_callFor_28 : decode cX2_callFor 28 = .ok (.iload_n 2, 1) := by decide +kernel
theorem dX2_callFor_29 : decode cX2_callFor 29 = .ok (.invokevirtual 35, 3) := by decide +kernel
theorem dX2_callFor_32 : decode cX2_callFor 32 = .ok (.ifCond .eq 27, 3) := by decide +kernel
theorem dX2_callFor_35 : decode cX2_callFor 35 = .ok (.aload_n 0, 1) := by decide +kernel
theorem dX2_callFor_36 : decode cX2_callFor 36 = .ok (.getfield 15, 3) := by decide +kernel
theorem dX2_callFor_39 : decode cX2_callFor 39 = .ok (.iload_n 1, 1) := by decide +kernel
theorem dX2_callFor_40 : decode cX2_callFor 40 = .ok (.iload_n 3, 1) := by decide +kernel
theorem dX2_callFor_41 : decode cX2_callFor 41 = .ok (.invokevirtual 39, 3) := by decide +kernel
theorem dX2_callFor_44 : decode cX2_callFor 44 = .ok (.istore 4, 2) := by decide +kernel
theorem dX2_callFor_46 : decode cX2_callFor 46 = .ok (.iload 4, 2) := by decide +kernel
theorem dX2_callFor_48 : decode cX2_callFor 48 = .ok (.iconst (-1), 1) := by decide +kernel
theorem dX2_callFor_49 : decode cX2_callFor 49 = .ok (.if_icmp .eq 10, 3) := by decide +kernel
theorem dX2_callFor_52 : decode cX2_callFor 52 = .ok (.aload_n 0, 1) := by decide +kernel
theorem dX2_callFor_53 : decode cX2_callFor 53 = .ok (.iload_n 3, 1) := by decide +kernel
theorem dX2_callFor_54 : decode cX2_callFor 54 = .ok (.iload 4, 2) := by decide +kernel
theorem dX2_callFor_56 : decode cX2_callFor 56 = .ok (.invokevirtual 45, 3) := by decide +kernel
theorem dX2_callFor_59 : decode cX2_callFor 59 = .ok (.iinc 3 1, 3) := by decide +kernel
theorem dX2_callFor_62 : decode cX2_callFor 62 = .ok (.goto (-55), 3) := by decide +kernel
theorem dX2_callFor_65 : decode cX2_callFor 65 = .ok (.return_, 1) := by decide +kernel
theorem dX2_insert_0 : decode cX2_insert 0 = .ok (.aload_n 0, 1) := by decide +kernel
theorem dX2_insert_1 : decode cX2_insert 1 = .ok (.getfield 26, 3) := by decide +kernel
theorem dX2_insert_4 : decode cX2_insert 4 = .ok (.istore_n 3, 1) := by decide +kernel
theorem dX2_insert_5 : decode cX2_insert 5 = .ok (.iload_n 3, 1) := by decide +kernel
theorem dX2_insert_6 : decode cX2_insert 6 = .ok (.ifCond .le 49, 3) := by decide +kernel
theorem dX2_insert_9 : decode cX2_insert 9 = .ok (.aload_n 0, 1) := by decide +kernel
theorem dX2_insert_10 : decode cX2_insert 10 = .ok (.getfield 23, 3) := by decide +kernel
theorem dX2_insert_13 : decode cX2_insert 13 = .ok (.iload_n 3, 1) := by decide +kernel
theorem dX2_insert_14 : decode cX2_insert 14 = .ok (.iconst 1, 1) := by decide +kernel
theorem dX2_insert_15 : decode cX2_insert 15 = .ok (.isub, 1) := by decide +kernel
theorem dX2_insert_16 : decode cX2_insert 16 = .ok (.iaload, 1) := by decide +kernel
theorem dX2_insert_17 : decode cX2_insert 17 = .ok (.iload_n 2, 1) := by decide +kernel
theorem dX2_insert_18 : decode cX2_insert 18 = .ok (.if_icmp .le 37, 3) := by decide +kernel
theorem dX2_insert_21 : decode cX2_insert 21 = .ok (.aload_n 0, 1) := by decide +kernel
theorem dX2_insert_22 : decode cX2_insert 22 = .ok (.getfield 19, 3) := by decide +kernel
theorem dX2_insert_25 : decode cX2_insert 25 = .ok (.iload_n 3, 1) := by decide +kernel
theorem dX2_insert_26 : decode cX2_insert 26 = .ok (.aload_n 0, 1) := by decide +kernel
theorem dX2_insert_27 : decode cX2_insert 27 = .ok (.getfield 19, 3) := by decide +kernel
theorem dX2_insert_30 : decode cX2_insert 30 = .ok (.iload_n 3, 1) := by decide +kernel
theorem dX2_insert_31 : decode cX2_insert 31 = .ok (.iconst 1, 1) := by decide +kernel
theorem dX2_insert_32 : decode cX2_insert 32 = .ok (.isub, 1) := by decide +kernel
theorem dX2_insert_33 : decode cX2_insert 33 = .ok (.iaload, 1) := by decide +kernel
theorem dX2_insert_34 : decode cX2_insert 34 = .ok (.iastore, 1) := by decide +kernel
theorem dX2_insert_35 : decode cX2_insert 35 = .ok (.aload_n 0, 1) := by decide +kernel
theorem dX2_insert_36 : decode cX2_insert 36 = .ok (.getfield 23, 3) := by decide +kernel
theorem dX2_insert_39 : decode cX2_insert 39 = .ok (.iload_n 3, 1) := by decide +kernel
theorem dX2_insert_40 : decode cX2_insert 40 = .ok (.aload_n 0, 1) := by decide +kernel
theorem dX2_insert_41 : decode cX2_insert 41 = .ok (.getfield 23, 3) := by decide +kernel
theorem dX2_insert_44 : decode cX2_insert 44 = .ok (.iload_n 3, 1) := by decide +kernel
theorem dX2_insert_45 : decode cX2_insert 45 = .ok (.iconst 1, 1) := by decide +kernel
theorem dX2_insert_46 : decode cX2_insert 46 = .ok (.isub, 1) := by decide +kernel
theorem dX2_insert_47 : decode cX2_insert 47 = .ok (.iaload, 1) := by decide +kernel
theorem dX2_insert_48 : decode cX2_insert 48 = .ok (.iastore, 1) := by decide +kernel
theorem dX2_insert_49 : decode cX2_insert 49 = .ok (.iinc 3 (-1), 3) := by decide +kernel
theorem dX2_insert_52 : decode cX2_insert 52 = .ok (.goto (-47), 3) := by decide +kernel
theorem dX2_insert_55 : decode cX2_insert 55 = .ok (.aload_n 0, 1) := by decide +kernel
theorem dX2_insert_56 : decode cX2_insert 56 = .ok (.getfield 19, 3) := by decide +kernel
theorem dX2_insert_59 : decode cX2_insert 59 = .ok (.iload_n 3, 1) := by decide +kernel
theorem dX2_insert_60 : decode cX2_insert 60 = .ok (.iload_n 1, 1) := by decide +kernel
theorem dX2_insert_61 : decode cX2_insert 61 = .ok (.iastore, 1) := by decide +kernel
theorem dX2_insert_62 : decode cX2_insert 62 = .ok (.aload_n 0, 1) := by decide +kernel
theorem dX2_insert_63 : decode cX2_insert 63 = .ok (.getfield 23, 3) := by decide +kernel
theorem dX2_insert_66 : decode cX2_insert 66 = .ok (.iload_n 3, 1) := by decide +kernel
theorem dX2_insert_67 : decode cX2_insert 67 = .ok (.iload_n 2, 1) := by decide +kernel
theorem dX2_insert_68 : decode cX2_insert 68 = .ok (.iastore, 1) := by decide +kernel
theorem dX2_insert_69 : decode cX2_insert 69 = .ok (.aload_n 0, 1) := by decide +kernel
theorem dX2_insert_70 : decode cX2_insert 70 = .ok (.dup, 1) := by decide +kernel
theorem dX2_insert_71 : decode cX2_insert 71 = .ok (.getfield 26, 3) := by decide +kernel
theorem dX2_insert_74 : decode cX2_insert 74 = .ok (.iconst 1, 1) := by decide +kernel
theorem dX2_insert_75 : decode cX2_insert 75 = .ok (.iadd, 1) := by decide +kernel
theorem dX2_insert_76 : decode cX2_insert 76 = .ok (.putfield 26, 3) := by decide +kernel
theorem dX2_insert_79 : decode cX2_insert 79 = .ok (.return_, 1) := by decide +kernel
theorem dX2_at_0 : decode cX2_at 0 = .ok (.iload_n 1, 1) := by decide +kernel
theorem dX2_at_1 : decode cX2_at 1 = .ok (.ifCond .lt 20, 3) := by decide +kernel
theorem dX2_at_4 : decode cX2_at 4 = .ok (.iload_n 1, 1) := by decide +kernel
theorem dX2_at_5 : decode cX2_at 5 = .ok (.aload_n 0, 1) := by decide +kernel
theorem dX2_at_6 : decode cX2_at 6 = .ok (.getfield 26, 3) := by decide +kernel
theorem dX2_at_9 : decode cX2_at 9 = .ok (.if_icmp .ge 12, 3) := by decide +kernel
theorem dX2_at_12 : decode cX2_at 12 = .ok (.aload_n 0, 1) := by decide +kernel
theorem dX2_at_13 : decode cX2_at 13 = .ok (.getfield 19, 3) := by decide +kernel
theorem dX2_at_16 : decode cX2_at 16 = .ok (.iload_n 1, 1) := by decide +kernel
theorem dX2_at_17 : decode cX2_at 17 = .ok (.iaload, 1) := by decide +kernel
theorem dX2_at_18 : decode cX2_at 18 = .ok (.goto 4, 3) := by decide +kernel
theorem dX2_at_21 : decode cX2_at 21 = .ok (.iconst (-1), 1) := by decide +kernel
theorem dX2_at_22 : decode cX2_at 22 = .ok (.ireturn, 1) := by decide +kernel
theorem dX2_speakersAhead_0 : decode cX2_speakersAhead 0 = .ok (.iconst 0, 1) := by decide +kernel
theorem dX2_speakersAhead_1 : decode cX2_speakersAhead 1 = .ok (.istore_n 2, 1) := by decide +kernel
theorem dX2_speakersAhead_2 : decode cX2_speakersAhead 2 = .ok (.iconst 0, 1) := by decide +kernel
theorem dX2_speakersAhead_3 : decode cX2_speakersAhead 3 = .ok (.istore_n 3, 1) := by decide +kernel
theorem dX2_speakersAhead_4 : decode cX2_speakersAhead 4 = .ok (.iload_n 3, 1) := by decide +kernel
theorem dX2_speakersAhead_5 : decode cX2_speakersAhead 5 = .ok (.aload_n 0, 1) := by decide +kernel
theorem dX2_speakersAhead_6 : decode cX2_speakersAhead 6 = .ok (.getfield 26, 3) := by decide +kernel
theorem dX2_speakersAhead_9 : decode cX2_speakersAhead 9 = .ok (.if_icmp .ge 42, 3) := by decide +kernel
theorem dX2_speakersAhead_12 : decode cX2_speakersAhead 12 = .ok (.aload_n 0, 1) := by decide +kernel
theorem dX2_speakersAhead_13 : decode cX2_speakersAhead 13 = .ok (.getfield 9, 3) := by decide +kernel
theorem dX2_speakersAhead_16 : decode cX2_speakersAhead 16 = .ok (.aload_n 0, 1) := by decide +kernel
theorem dX2_speakersAhead_17 : decode cX2_speakersAhead 17 = .ok (.getfield 19, 3) := by decide +kernel
theorem dX2_speakersAhead_20 : decode cX2_speakersAhead 20 = .ok (.iload_n 3, 1) := by decide +kernel
theorem dX2_speakersAhead_21 : decode cX2_speakersAhead 21 = .ok (.iaload, 1) := by decide +kernel
theorem dX2_speakersAhead_22 : decode cX2_speakersAhead 22 = .ok (.invokevirtual 49, 3) := by decide +kernel
theorem dX2_speakersAhead_25 : decode cX2_speakersAhead 25 = .ok (.istore 4, 2) := by decide +kernel
theorem dX2_speakersAhead_27 : decode cX2_speakersAhead 27 = .ok (.iload 4, 2) := by decide +kernel
theorem dX2_speakersAhead_29 : decode cX2_speakersAhead 29 = .ok (.iload_n 1, 1) := by decide +kernel
theorem dX2_speakersAhead_30 : decode cX2_speakersAhead 30 = .ok (.if_icmp .ne 8, 3) := by decide +kernel
theorem dX2_speakersAhead_33 : decode cX2_speakersAhead 33 = .ok (.iload_n 2, 1) := by decide +kernel
theorem dX2_speakersAhead_34 : decode cX2_speakersAhead 34 = .ok (.invokestatic 53, 3) := by decide +kernel
theorem dX2_speakersAhead_37 : decode cX2_speakersAhead 37 = .ok (.ireturn, 1) := by decide +kernel
theorem dX2_speakersAhead_38 : decode cX2_speakersAhead 38 = .ok (.iload_n 2, 1) := by decide +kernel
theorem dX2_speakersAhead_39 : decode cX2_speakersAhead 39 = .ok (.iconst 1, 1) := by decide +kernel
theorem dX2_speakersAhead_40 : decode cX2_speakersAhead 40 = .ok (.iload 4, 2) := by decide +kernel
theorem dX2_speakersAhead_42 : decode cX2_speakersAhead 42 = .ok (.ishl, 1) := by decide +kernel
theorem dX2_speakersAhead_43 : decode cX2_speakersAhead 43 = .ok (.ior, 1) := by decide +kernel
theorem dX2_speakersAhead_44 : decode cX2_speakersAhead 44 = .ok (.istore_n 2, 1) := by decide +kernel
theorem dX2_speakersAhead_45 : decode cX2_speakersAhead 45 = .ok (.iinc 3 1, 3) := by decide +kernel
theorem dX2_speakersAhead_48 : decode cX2_speakersAhead 48 = .ok (.goto (-44), 3) := by decide +kernel
theorem dX2_speakersAhead_51 : decode cX2_speakersAhead 51 = .ok (.iconst (-1), 1) := by decide +kernel
theorem dX2_speakersAhead_52 : decode cX2_speakersAhead 52 = .ok (.ireturn, 1) := by decide +kernel
theorem dX3_init_0 : decode cX3_init 0 = .ok (.aload_n 0, 1) := by decide +kernel
theorem dX3_init_1 : decode cX3_init 1 = .ok (.invokespecial 3, 3) := by decide +kernel
theorem dX3_init_4 : decode cX3_init 4 = .ok (.aload_n 0, 1) := by decide +kernel
theorem dX3_init_5 : decode cX3_init 5 = .ok (.aload_n 1, 1) := by decide +kernel
theorem dX3_init_6 : decode cX3_init 6 = .ok (.putfield 9, 3) := by decide +kernel
theorem dX3_init_9 : decode cX3_init 9 = .ok (.aload_n 0, 1) := by decide +kernel
theorem dX3_init_10 : decode cX3_init 10 = .ok (.aload_n 2, 1) := by decide +kernel
theorem dX3_init_11 : decode cX3_init 11 = .ok (.putfield 15, 3) := by decide +kernel
theorem dX3_init_14 : decode cX3_init 14 = .ok (.aload_n 0, 1) := by decide +kernel
theorem dX3_init_15 : decode cX3_init 15 = .ok (.bipush 10, 2) := by decide +kernel
theorem dX3_init_17 : decode cX3_init 17 = .ok (.newarray .int, 2) := by decide +kernel
theorem dX3_init_19 : decode cX3_init 19 = .ok (.putfield 19, 3) := by decide +kernel
theorem dX3_init_22 : decode cX3_init 22 = .ok (.aload_n 0, 1) := by decide +kernel
theorem dX3_init_23 : decode cX3_init 23 = .ok (.bipush 10, 2) := by decide +kernel
theorem dX3_init_25 : decode cX3_init 25 = .ok (.newarray .int, 2) := by decide +kernel
theorem dX3_init_27 : decode cX3_init 27 = .ok (.putfield 23, 3) := by decide +kernel
theorem dX3_init_30 : decode cX3_init 30 = .ok (.aload_n 0, 1) := by decide +kernel
theorem dX3_init_31 : decode cX3_init 31 = .ok (.bipush 10, 2) := by decide +kernel
theorem dX3_init_33 : decode cX3_init 33 = .ok (.newarray .int, 2) := by decide +kernel
theorem dX3_init_35 : decode cX3_init 35 = .ok (.putfield 26, 3) := by decide +kernel
theorem dX3_init_38 : decode cX3_init 38 = .ok (.aload_n 0, 1) := by decide +kernel
theorem dX3_init_39 : decode cX3_init 39 = .ok (.bipush 10, 2) := by decide +kernel
theorem dX3_init_41 : decode cX3_init 41 = .ok (.newarray .int, 2) := by decide +kernel
theorem dX3_init_43 : decode cX3_init 43 = .ok (.putfield 29, 3) := by decide +kernel
theorem dX3_init_46 : decode cX3_init 46 = .ok (.aload_n 0, 1) := by decide +kernel
theorem dX3_init_47 : decode cX3_init 47 = .ok (.bipush 10, 2) := by decide +kernel
theorem dX3_init_49 : decode cX3_init 49 = .ok (.newarray .int, 2) := by decide +kernel
theorem dX3_init_51 : decode cX3_init 51 = .ok (.putfield 32, 3) := by decide +kernel
theorem dX3_init_54 : decode cX3_init 54 = .ok (.aload_n 0, 1) := by decide +kernel
theorem dX3_init_55 : decode cX3_init 55 = .ok (.bipush 10, 2) := by decide +kernel
theorem dX3_init_57 : decode cX3_init 57 = .ok (.newarray .int, 2) := by decide +kernel
theorem dX3_init_59 : decode cX3_init 59 = .ok (.putfield 35, 3) := by decide +kernel
theorem dX3_init_62 : decode cX3_init 62 = .ok (.aload_n 0, 1) := by decide +kernel
theorem dX3_init_63 : decode cX3_init 63 = .ok (.iconst 0, 1) := by decide +kernel
theorem dX3_init_64 : decode cX3_init 64 = .ok (.putfield 38, 3) := by decide +kernel
theorem dX3_init_67 : decode cX3_init 67 = .ok (.aload_n 0, 1) := by decide +kernel
theorem dX3_init_68 : decode cX3_init 68 = .ok (.iconst 0, 1) := by decide +kernel
theorem dX3_init_69 : decode cX3_init 69 = .ok (.putfield 42, 3) := by decide +kernel
theorem dX3_init_72 : decode cX3_init 72 = .ok (.aload_n 0, 1) := by decide +kernel
theorem dX3_init_73 : decode cX3_init 73 = .ok (.iconst 0, 1) := by decide +kernel
theorem dX3_init_74 : decode cX3_init 74 = .ok (.putfield 45, 3) := by decide +kernel
theorem dX3_init_77 : decode cX3_init 77 = .ok (.return_, 1) := by decide +kernel
theorem dX3_fillFor_0 : decode cX3_fillFor 0 = .ok (.aload_n 0, 1) := by decide +kernel
theorem dX3_fillFor_1 : decode cX3_fillFor 1 = .ok (.iload_n 1, 1) := by decide +kernel
theorem dX3_fillFor_2 : decode cX3_fillFor 2 = .ok (.invokevirtual 48, 3) := by decide +kernel
theorem dX3_fillFor_5 : decode cX3_fillFor 5 = .ok (.aload_n 0, 1) := by decide +kernel
theorem dX3_fillFor_6 : decode cX3_fillFor 6 = .ok (.invokevirtual 52, 3) := by decide +kernel
theorem dX3_fillFor_9 : decode cX3_fillFor 9 = .ok (.aload_n 0, 1) := by decide +kernel
theorem dX3_fillFor_10 : decode cX3_fillFor 10 = .ok (.invokevirtual 55, 3) := by decide +kernel
theorem dX3_fillFor_13 : decode cX3_fillFor 13 = .ok (.return_, 1) := by decide +kernel
theorem dX3_countPairs_0 : decode cX3_countPairs 0 = .ok (.aload_n 0, 1) := by decide +kernel
theorem dX3_countPairs_1 : decode cX3_countPairs 1 = .ok (.getfield 19, 3) := by decide +kernel
theorem dX3_countPairs_4 : decode cX3_countPairs 4 = .ok (.iconst 0, 1) := by decide +kernel
theorem dX3_countPairs_5 : decode cX3_countPairs 5 = .ok (.invokestatic 58, 3) := by decide +kernel
theorem dX3_countPairs_8 : decode cX3_countPairs 8 = .ok (.aload_n 0, 1) := by decide +kernel
theorem dX3_countPairs_9 : decode cX3_countPairs 9 = .ok (.getfield 23, 3) := by decide +kernel
theorem dX3_countPairs_12 : decode cX3_countPairs 12 = .ok (.iconst 0, 1) := by decide +kernel
theorem dX3_countPairs_13 : decode cX3_countPairs 13 = .ok (.invokestatic 58, 3) := by decide +kernel
theorem dX3_countPairs_16 : decode cX3_countPairs 16 = .ok (.aload_n 0, 1) := by decide +kernel
theorem dX3_countPairs_17 : decode cX3_countPairs 17 = .ok (.iconst 0, 1) := by decide +kernel
theorem dX3_countPairs_18 : decode cX3_countPairs 18 = .ok (.putfield 42, 3) := by decide +kernel
theorem dX3_countPairs_21 : decode cX3_countPairs 21 = .ok (.aload_n 0, 1) := by decide +kernel
theorem dX3_countPairs_22 : decode cX3_countPairs 22 = .ok (.iconst 0, 1) := by decide +kernel
theorem dX3_countPairs_23 : decode cX3_countPairs 23 = .ok (.putfield 45, 3) := by decide +kernel
theorem dX3_countPairs_26 : decode cX3_countPairs 26 = .ok (.iconst 1, 1) := by decide +kernel
theorem dX3_countPairs_27 : decode cX3_countPairs 27 = .ok (.istore_n 2, 1) := by decide +kernel
theorem dX3_countPairs_28 : decode cX3_countPairs 28 = .ok (.iload_n 2, 1) := by decide +kernel
theorem dX3_countPairs_29 : decode cX3_countPairs 29 = .ok (.aload_n 0, 1) := by decide +kernel
theorem dX3_countPairs_30 : decode cX3_countPairs 30 = .ok (.getfield 9, 3) := by decide +kernel
theorem dX3_countPairs_33 : decode cX3_countPairs 33 = .ok (.invokevirtual 64, 3) := by decide +kernel
theorem dX3_countPairs_36 : decode cX3_countPairs 36 = .ok (.if_icmp .ge 52, 3) := by decide +kernel
theorem dX3_countPairs_39 : decode cX3_countPairs 39 = .ok (.iconst 0, 1) := by decide +kernel
theorem dX3_countPairs_40 : decode cX3_countPairs 40 = .ok (.istore_n 3, 1) := by decide +kernel
theorem dX3_countPairs_41 : decode cX3_countPairs 41 = .ok (.iload_n 3, 1) := by decide +kernel
theorem dX3_countPairs_42 : decode cX3_countPairs 42 = .ok (.iload_n 2, 1) := by decide +kernel
theorem dX3_countPairs_43 : decode cX3_countPairs 43 = .ok (.if_icmp .ge 39, 3) := by decide +kernel
theorem dX3_countPairs_46 : decode cX3_countPairs 46 = .ok (.aload_n 0, 1) := by decide +kernel
theorem dX3_countPairs_47 : decode cX3_countPairs 47 = .ok (.getfield 9, 3) := by decide +kernel
theorem dX3_countPairs_50 : decode cX3_countPairs 50 = .ok (.iload_n 3, 1) := by decide +kernel
theorem dX3_countPairs_51 : decode cX3_countPairs 51 = .ok (.iload_n 1, 1) := by decide +kernel
theorem dX3_countPairs_52 : decode cX3_countPairs 52 = .ok (.invokevirtual 70, 3) := by decide +kernel
theorem dX3_countPairs_55 : decode cX3_countPairs 55 = .ok (.ifCond .eq 21, 3) := by decide +kernel
theorem dX3_countPairs_58 : decode cX3_countPairs 58 = .ok (.aload_n 0, 1) := by decide +kernel
theorem dX3_countPairs_59 : decode cX3_countPairs 59 = .ok (.getfield 9, 3) := by decide +kernel
theorem dX3_countPairs_62 : decode cX3_countPairs 62 = .ok (.iload_n 2, 1) := by decide +kernel
theorem dX3_countPairs_63 : decode cX3_countPairs 63 = .ok (.iload_n 1, 1) := by decide +kernel
theorem dX3_countPairs_64 : decode cX3_countPairs 64 = .ok (.invokevirtual 70, 3) := by decide +kernel
theorem dX3_countPairs_67 : decode cX3_countPairs 67 = .ok (.ifCond .eq 9, 3) := by decide +kernel
theorem dX3_countPairs_70 : decode cX3_countPairs 70 = .ok (.aload_n 0, 1) := by decide +kernel
theorem dX3_countPairs_71 : decode cX3_countPairs 71 = .ok (.iload_n 3, 1) := by decide +kernel
theorem dX3_countPairs_72 : decode cX3_countPairs 72 = .ok (.iload_n 2, 1) := by decide +kernel
theorem dX3_countPairs_73 : decode cX3_countPairs 73 = .ok (.invokevirtual 74, 3) := by decide +kernel
theorem dX3_countPairs_76 : decode cX3_countPairs 76 = .ok (.iinc 3 1, 3) := by decide +kernel
theorem dX3_countPairs_79 : decode cX3_countPairs 79 = .ok (.goto (-38), 3) := by decide +kernel
theorem dX3_countPairs_82 : decode cX3_countPairs 82 = .ok (.iinc 2 1, 3) := by decide +kernel
theorem dX3_countPairs_85 : decode cX3_countPairs 85 = .ok (.goto (-57), 3) := by decide +kernel
theorem dX3_countPairs_88 : decode cX3_countPairs 88 = .ok (.return_, 1) := by decide +kernel
theorem dX3_countPair_0 : decode cX3_countPair 0 = .ok (.aload_n 0, 1) := by decide +kernel
theorem dX3_countPair_1 : decode cX3_countPair 1 = .ok (.getfield 15, 3) := by decide +kernel
theorem dX3_countPair_4 : decode cX3_countPair 4 = .ok (.iload_n 1, 1) := by decide +kernel
theorem dX3_countPair_5 : decode cX3_countPair 5 = .ok (.iload_n 2, 1) := by decide +kernel
theorem dX3_countPair_6 : decode cX3_countPair 6 = .ok (.invokevirtual 78, 3) := by decide +kernel
theorem dX3_countPair_9 : decode cX3_countPair 9 = .ok (.istore_n 3, 1) := by decide +kernel
theorem dX3_countPair_10 : decode cX3_countPair 10 = .ok (.iload_n 3, 1) := by decide +kernel
theorem dX3_countPair_11 : decode cX3_countPair 11 = .ok (.iconst (-1), 1) := by decide +kernel
theorem dX3_countPair_12 : decode cX3_countPair 12 = .ok (.if_icmp .ne 4, 3) := by decide +kernel
theorem dX3_countPair_15 : decode cX3_countPair 15 = .ok (.return_, 1) := by decide +kernel
theorem dX3_countPair_16 : decode cX3_countPair 16 = .ok (.aload_n 0, 1) := by decide +kernel
theorem dX3_countPair_17 : decode cX3_countPair 17 = .ok (.getfield 9, 3) := by decide +kernel
theorem dX3_countPair_20 : decode cX3_countPair 20 = .ok (.iload_n 1, 1) := by decide +kernel
theorem dX3_countPair_21 : decode cX3_countPair 21 = .ok (.invokevirtual 84, 3) := by decide +kernel
theorem dX3_countPair_24 : decode cX3_countPair 24 = .ok (.aload_n 0, 1) := by decide +kernel
theorem dX3_countPair_25 : decode cX3_countPair 25 = .ok (.getfield 9, 3) := by decide +kernel
theorem dX3_countPair_28 : decode cX3_countPair 28 = .ok (.iload_n 2, 1) := by decide +kernel
theorem dX3_countPair_29 : decode cX3_countPair 29 = .ok (.invokevirtual 84, 3) := by decide +kernel
theorem dX3_countPair_32 : decode cX3_countPair 32 = .ok (.if_icmp .ne 29, 3) := by decide +kernel
theorem dX3_countPair_35 : decode cX3_countPair 35 = .ok (.aload_n 0, 1) := by decide +kernel
theorem dX3_countPair_36 : decode cX3_countPair 36 = .ok (.getfield 19, 3) := by decide +kernel
theorem dX3_countPair_39 : decode cX3_countPair 39 = .ok (.iload_n 3, 1) := by decide +kernel
theorem dX3_countPair_40 : decode cX3_countPair 40 = .ok (.invokestatic 88, 3) := by decide +kernel
theorem dX3_countPair_43 : decode cX3_countPair 43 = .ok (.dup2, 1) := by decide +kernel
theorem dX3_countPair_44 : decode cX3_countPair 44 = .ok (.iaload, 1) := by decide +kernel
theorem dX3_countPair_45 : decode cX3_countPair 45 = .ok (.iconst 1, 1) := by decide +kernel
theorem dX3_countPair_46 : decode cX3_countPair 46 = .ok (.iadd, 1) := by decide +kernel
theorem dX3_countPair_47 : decode cX3_countPair 47 = .ok (.iastore, 1) := by decide +kernel
theorem dX3_countPair_48 : decode cX3_countPair 48 = .ok (.aload_n 0, 1) := by decide +kernel
theorem dX3_countPair_49 : decode cX3_countPair 49 = .ok (.dup, 1) := by decide +kernel
theorem dX3_countPair_50 : decode cX3_countPair 50 = .ok (.getfield 42, 3) := by decide +kernel
theorem dX3_countPair_53 : decode cX3_countPair 53 = .ok (.iconst 1, 1) := by decide +kernel
theorem dX3_countPair_54 : decode cX3_countPair 54 = .ok (.iadd, 1) := by decide +kernel
theorem dX3_countPair_55 : decode cX3_countPair 55 = .ok (.putfield 42, 3) := by decide +kernel
theorem dX3_countPair_58 : decode cX3_countPair 58 = .ok (.goto 26, 3) := by decide +kernel
theorem dX3_countPair_61 : decode cX3_countPair 61 = .ok (.aload_n 0, 1) := by decide +kernel
theorem dX3_countPair_62 : decode cX3_countPair 62 = .ok (.getfield 23, 3) := by decide +kernel
theorem dX3_countPair_65 : decode cX3_countPair 65 = .ok (.iload_n 3, 1) := by decide +kernel
theorem dX3_countPair_66 : decode cX3_countPair 66 = .ok (.invokestatic 88, 3) := by decide +kernel
theorem dX3_countPair_69 : decode cX3_countPair 69 = .ok (.dup2, 1) := by decide +kernel
theorem dX3_countPair_70 : decode cX3_countPair 70 = .ok (.iaload, 1) := by decide +kernel
theorem dX3_countPair_71 : decode cX3_countPair 71 = .ok (.iconst 1, 1) := by decide +kernel
theorem dX3_countPair_72 : decode cX3_countPair 72 = .ok (.iadd, 1) := by decide +kernel
theorem dX3_countPair_73 : decode cX3_countPair 73 = .ok (.iastore, 1) := by decide +kernel
theorem dX3_countPair_74 : decode cX3_countPair 74 = .ok (.aload_n 0, 1) := by decide +kernel
theorem dX3_countPair_75 : decode cX3_countPair 75 = .ok (.dup, 1) := by decide +kernel
theorem dX3_countPair_76 : decode cX3_countPair 76 = .ok (.getfield 45, 3) := by decide +kernel
theorem dX3_countPair_79 : decode cX3_countPair 79 = .ok (.iconst 1, 1) := by decide +kernel
theorem dX3_countPair_80 : decode cX3_countPair 80 = .ok (.iadd, 1) := by decide +kernel
theorem dX3_countPair_81 : decode cX3_countPair 81 = .ok (.putfield 45, 3) := by decide +kernel
theorem dX3_countPair_84 : decode cX3_countPair 84 = .ok (.return_, 1) := by decide +kernel
theorem dX3_makeBlocks_0 : decode cX3_makeBlocks 0 = .ok (.aload_n 0, 1) := by decide +kernel
theorem dX3_makeBlocks_1 : decode cX3_makeBlocks 1 = .ok (.iconst 0, 1) := by decide +kernel
theorem dX3_makeBlocks_2 : decode cX3_makeBlocks 2 = .ok (.putfield 38, 3) := by decide +kernel
theorem dX3_makeBlocks_5 : decode cX3_makeBlocks 5 = .ok (.iconst 0, 1) := by decide +kernel
theorem dX3_makeBlocks_6 : decode cX3_makeBlocks 6 = .ok (.istore_n 1, 1) := by decide +kernel
theorem dX3_makeBlocks_7 : decode cX3_makeBlocks 7 = .ok (.iload_n 1, 1) := by decide +kernel
theorem dX3_makeBlocks_8 : decode cX3_makeBlocks 8 = .ok (.bipush 10, 2) := by decide +kernel
theorem dX3_makeBlocks_10 : decode cX3_makeBlocks 10 = .ok (.if_icmp .ge 77, 3) := by decide +kernel
theorem dX3_makeBlocks_13 : decode cX3_makeBlocks 13 = .ok (.aload_n 0, 1) := by decide +kernel
theorem dX3_makeBlocks_14 : decode cX3_makeBlocks 14 = .ok (.iload_n 1, 1) := by decide +kernel
theorem dX3_makeBlocks_15 : decode cX3_makeBlocks 15 = .ok (.invokevirtual 91, 3) := by decide +kernel
theorem dX3_makeBlocks_18 : decode cX3_makeBlocks 18 = .ok (.ifCond .ne 63, 3) := by decide +kernel
theorem dX3_makeBlocks_21 : decode cX3_makeBlocks 21 = .ok (.aload_n 0, 1) := by decide +kernel
theorem dX3_makeBlocks_22 : decode cX3_makeBlocks 22 = .ok (.getfield 26, 3) := by decide +kernel
theorem dX3_makeBlocks_25 : decode cX3_makeBlocks 25 = .ok (.aload_n 0, 1) := by decide +kernel
theorem dX3_makeBlocks_26 : decode cX3_makeBlocks 26 = .ok (.getfield 38, 3) := by decide +kernel
theorem dX3_makeBlocks_29 : decode cX3_makeBlocks 29 = .ok (.iload_n 1, 1) := by decide +kernel
theorem dX3_makeBlocks_30 : decode cX3_makeBlocks 30 = .ok (.iastore, 1) := by decide +kernel
theorem dX3_makeBlocks_31 : decode cX3_makeBlocks 31 = .ok (.aload_n 0, 1) := by decide +kernel
theorem dX3_makeBlocks_32 : decode cX3_makeBlocks 32 = .ok (.getfield 29, 3) := by decide +kernel
theorem dX3_makeBlocks_35 : decode cX3_makeBlocks 35 = .ok (.aload_n 0, 1) := by decide +kernel
theorem dX3_makeBlocks_36 : decode cX3_makeBlocks 36 = .ok (.getfield 38, 3) := by decide +kernel
theorem dX3_makeBlocks_39 : decode cX3_makeBlocks 39 = .ok (.iload_n 1, 1) := by decide +kernel
theorem dX3_makeBlocks_40 : decode cX3_makeBlocks 40 = .ok (.iastore, 1) := by decide +kernel
theorem dX3_makeBlocks_41 : decode cX3_makeBlocks 41 = .ok (.aload_n 0, 1) := by decide +kernel
theorem dX3_makeBlocks_42 : decode cX3_makeBlocks 42 = .ok (.getfield 32, 3) := by decide +kernel
theorem dX3_makeBlocks_45 : decode cX3_makeBlocks 45 = .ok (.aload_n 0, 1) := by decide +kernel
theorem dX3_makeBlocks_46 : decode cX3_makeBlocks 46 = .ok (.getfield 38, 3) := by decide +kernel
theorem dX3_makeBlocks_49 : decode cX3_makeBlocks 49 = .ok (.aload_n 0, 1) := by decide +kernel
theorem dX3_makeBlocks_50 : decode cX3_makeBlocks 50 = .ok (.getfield 19, 3) := by decide +kernel
theorem dX3_makeBlocks_53 : decode cX3_makeBlocks 53 = .ok (.iload_n 1, 1) := by decide +kernel
theorem dX3_makeBlocks_54 : decode cX3_makeBlocks 54 = .ok (.iaload, 1) := by decide +kernel
theorem dX3_makeBlocks_55 : decode cX3_makeBlocks 55 = .ok (.iastore, 1) := by decide +kernel
theorem dX3_makeBlocks_56 : decode cX3_makeBlocks 56 = .ok (.aload_n 0, 1) := by decide +kernel
theorem dX3_makeBlocks_57 : decode cX3_makeBlocks 57 = .ok (.getfield 35, 3) := by decide +kernel
theorem dX3_makeBlocks_60 : decode cX3_makeBlocks 60 = .ok (.aload_n 0, 1) := by decide +kernel
theorem dX3_makeBlocks_61 : decode cX3_makeBlocks 61 = .ok (.getfield 38, 3) := by decide +kernel
theorem dX3_makeBlocks_64 : decode cX3_makeBlocks 64 = .ok (.aload_n 0, 1) := by decide +kernel
theorem dX3_makeBlocks_65 : decode cX3_makeBlocks 65 = .ok (.getfield 23, 3) := by decide +kernel
theorem dX3_makeBlocks_68 : decode cX3_makeBlocks 68 = .ok (.iload_n 1, 1) := by decide +kernel
theorem dX3_makeBlocks_69 : decode cX3_makeBlocks 69 = .ok (.iaload, 1) := by decide +kernel
theorem dX3_makeBlocks_70 : decode cX3_makeBlocks 70 = .ok (.iastore, 1) := by decide +kernel
theorem dX3_makeBlocks_71 : decode cX3_makeBlocks 71 = .ok (.aload_n 0, 1) := by decide +kernel
theorem dX3_makeBlocks_72 : decode cX3_makeBlocks 72 = .ok (.dup, 1) := by decide +kernel
theorem dX3_makeBlocks_73 : decode cX3_makeBlocks 73 = .ok (.getfield 38, 3) := by decide +kernel
theorem dX3_makeBlocks_76 : decode cX3_makeBlocks 76 = .ok (.iconst 1, 1) := by decide +kernel
theorem dX3_makeBlocks_77 : decode cX3_makeBlocks 77 = .ok (.iadd, 1) := by decide +kernel
theorem dX3_makeBlocks_78 : decode cX3_makeBlocks 78 = .ok (.putfield 38, 3) := by decide +kernel
theorem dX3_makeBlocks_81 : decode cX3_makeBlocks 81 = .ok (.iinc 1 1, 3) := by decide +kernel
theorem dX3_makeBlocks_84 : decode cX3_makeBlocks 84 = .ok (.goto (-77), 3) := by decide +kernel
theorem dX3_makeBlocks_87 : decode cX3_makeBlocks 87 = .ok (.return_, 1) := by decide +kernel
theorem dX3_putBlocksInOrder_0 : decode cX3_putBlocksInOrder 0 = .ok (.iconst 0, 1) := by decide +kernel
theorem dX3_putBlocksInOrder_1 : decode cX3_putBlocksInOrder 1 = .ok (.istore_n 1, 1) := by decide +kernel
theorem dX3_putBlocksInOrder_2 : decode cX3_putBlocksInOrder 2 = .ok (.iload_n 1, 1) := by decide +kernel
theorem dX3_putBlocksInOrder_3 : decode cX3_putBlocksInOrder 3 = .ok (.bipush 10, 2) := by decide +kernel
theorem dX3_putBlocksInOrder_5 : decode cX3_putBlocksInOrder 5 = .ok (.if_icmp .ge 25, 3) := by decide +kernel
theorem dX3_putBlocksInOrder_8 : decode cX3_putBlocksInOrder 8 = .ok (.aload_n 0, 1) := by decide +kernel
theorem dX3_putBlocksInOrder_9 : decode cX3_putBlocksInOrder 9 = .ok (.invokevirtual 95, 3) := by decide +kernel
theorem dX3_putBlocksInOrder_12 : decode cX3_putBlocksInOrder 12 = .ok (.istore_n 2, 1) := by decide +kernel
theorem dX3_putBlocksInOrder_13 : decode cX3_putBlocksInOrder 13 = .ok (.iload_n 2, 1) := by decide +kernel
theorem dX3_putBlocksInOrder_14 : decode cX3_putBlocksInOrder 14 = .ok (.iconst (-1), 1) := by decide +kernel
theorem dX3_putBlocksInOrder_15 : decode cX3_putBlocksInOrder 15 = .ok (.if_icmp .ne 4, 3) := by decide +kernel
theorem dX3_putBlocksInOrder_18 : decode cX3_putBlocksInOrder 18 = .ok (.return_, 1) := by decide +kernel
theorem dX3_putBlocksInOrder_19 : decode cX3_putBlocksInOrder 19 = .ok (.aload_n 0, 1) := by decide +kernel
theorem dX3_putBlocksInOrder_20 : decode cX3_putBlocksInOrder 20 = .ok (.iload_n 2, 1) := by decide +kernel
theorem dX3_putBlocksInOrder_21 : decode cX3_putBlocksInOrder 21 = .ok (.invokevirtual 98, 3) := by decide +kernel
theorem dX3_putBlocksInOrder_24 : decode cX3_putBlocksInOrder 24 = .ok (.iinc 1 1, 3) := by decide +kernel
theorem dX3_putBlocksInOrder_27 : decode cX3_putBlocksInOrder 27 = .ok (.goto (-25), 3) := by decide +kernel
theorem dX3_putBlocksInOrder_30 : decode cX3_putBlocksInOrder 30 = .ok (.return_, 1) := by decide +kernel
theorem dX3_findOutOfOrder_0 : decode cX3_findOutOfOrder 0 = .ok (.iconst 0, 1) := by decide +kernel
theorem dX3_findOutOfOrder_1 : decode cX3_findOutOfOrder 1 = .ok (.istore_n 1, 1) := by decide +kernel
theorem dX3_findOutOfOrder_2 : decode cX3_findOutOfOrder 2 = .ok (.iload_n 1, 1) := by decide +kernel
theorem dX3_findOutOfOrder_3 : decode cX3_findOutOfOrder 3 = .ok (.iconst 1, 1) := by decide +kernel
theorem dX3_findOutOfOrder_4 : decode cX3_findOutOfOrder 4 = .ok (.iadd, 1) := by decide +kernel
theorem dX3_findOutOfOrder_5 : decode cX3_findOutOfOrder 5 = .ok (.aload_n 0, 1) := by decide +kernel
theorem dX3_findOutOfOrder_6 : decode cX3_findOutOfOrder 6 = .ok (.getfield 38, 3) := by decide +kernel
theorem dX3_findOutOfOrder_9 : decode cX3_findOutOfOrder 9 = .ok (.if_icmp .ge 22, 3) := by decide +kernel
theorem dX3_findOutOfOrder_12 : decode cX3_findOutOfOrder 12 = .ok (.aload_n 0, 1) := by decide +kernel
theorem dX3_findOutOfOrder_13 : decode cX3_findOutOfOrder 13 = .ok (.iload_n 1, 1) := by decide +kernel
theorem dX3_findOutOfOrder_14 : decode cX3_findOutOfOrder 14 = .ok (.iload_n 1, 1) := by decide +kernel
theorem dX3_findOutOfOrder_15 : decode cX3_findOutOfOrder 15 = .ok (.iconst 1, 1) := by decide +kernel
theorem dX3_findOutOfOrder_16 : decode cX3_findOutOfOrder 16 = .ok (.iadd, 1) := by decide +kernel
theorem dX3_findOutOfOrder_17 : decode cX3_findOutOfOrder 17 = .ok (.invokevirtual 101, 3) := by decide +kernel
theorem dX3_findOutOfOrder_20 : decode cX3_findOutOfOrder 20 = .ok (.ifCond .eq 5, 3) := by decide +kernel
theorem dX3_findOutOfOrder_23 : decode cX3_findOutOfOrder 23 = .ok (.iload_n 1, 1) := by decide +kernel
theorem dX3_findOutOfOrder_24 : decode cX3_findOutOfOrder 24 = .ok (.ireturn, 1) := by decide +kernel
theorem dX3_findOutOfOrder_25 : decode cX3_findOutOfOrder 25 = .ok (.iinc 1 1, 3) := by decide +kernel
theorem dX3_findOutOfOrder_28 : decode cX3_findOutOfOrder 28 = .ok (.goto (-26), 3) := by decide +kernel
theorem dX3_findOutOfOrder_31 : decode cX3_findOutOfOrder 31 = .ok (.iconst (-1), 1) := by decide +kernel
theorem dX3_findOutOfOrder_32 : decode cX3_findOutOfOrder 32 = .ok (.ireturn, 1) := by decide +kernel
theorem dX3_isOutOfOrder_0 : decode cX3_isOutOfOrder 0 = .ok (.aload_n 0, 1) := by decide +kernel
theorem dX3_isOutOfOrder_1 : decode cX3_isOutOfOrder 1 = .ok (.getfield 32, 3) := by decide +kernel
theorem dX3_isOutOfOrder_4 : decode cX3_isOutOfOrder 4 = .ok (.iload_n 1, 1) := by decide +kernel
theorem dX3_isOutOfOrder_5 : decode cX3_isOutOfOrder 5 = .ok (.iaload, 1) := by decide +kernel
theorem dX3_isOutOfOrder_6 : decode cX3_isOutOfOrder 6 = .ok (.aload_n 0, 1) := by decide +kernel
theorem dX3_isOutOfOrder_7 : decode cX3_isOutOfOrder 7 = .ok (.getfield 35, 3) := by decide +kernel
theorem dX3_isOutOfOrder_10 : decode cX3_isOutOfOrder 10 = .ok (.iload_n 1, 1) := by decide +kernel
theorem dX3_isOutOfOrder_11 : decode cX3_isOutOfOrder 11 = .ok (.iaload, 1) := by decide +kernel
theorem dX3_isOutOfOrder_12 : decode cX3_isOutOfOrder 12 = .ok (.iadd, 1) := by decide +kernel
theorem dX3_isOutOfOrder_13 : decode cX3_isOutOfOrder 13 = .ok (.istore_n 3, 1) := by decide +kernel
theorem dX3_isOutOfOrder_14 : decode cX3_isOutOfOrder 14 = .ok (.aload_n 0, 1) := by decide +kernel
theorem dX3_isOutOfOrder_15 : decode cX3_isOutOfOrder 15 = .ok (.getfield 32, 3) := by decide +kernel
theorem dX3_isOutOfOrder_18 : decode cX3_isOutOfOrder 18 = .ok (.iload_n 2, 1) := by decide +kernel
theorem dX3_isOutOfOrder_19 : decode cX3_isOutOfOrder 19 = .ok (.iaload, 1) := by decide +kernel
theorem dX3_isOutOfOrder_20 : decode cX3_isOutOfOrder 20 = .ok (.aload_n 0, 1) := by decide +kernel
theorem dX3_isOutOfOrder_21 : decode cX3_isOutOfOrder 21 = .ok (.getfield 35, 3) := by decide +kernel
theorem dX3_isOutOfOrder_24 : decode cX3_isOutOfOrder 24 = .ok (.iload_n 2, 1) := by decide +kernel
theorem dX3_isOutOfOrder_25 : decode cX3_isOutOfOrder 25 = .ok (.iaload, 1) := by decide +kernel
theorem dX3_isOutOfOrder_26 : decode cX3_isOutOfOrder 26 = .ok (.iadd, 1) := by decide +kernel
theorem dX3_isOutOfOrder_27 : decode cX3_isOutOfOrder 27 = .ok (.istore 4, 2) := by decide +kernel
theorem dX3_isOutOfOrder_29 : decode cX3_isOutOfOrder 29 = .ok (.aload_n 0, 1) := by decide +kernel
theorem dX3_isOutOfOrder_30 : decode cX3_isOutOfOrder 30 = .ok (.getfield 32, 3) := by decide +kernel
theorem dX3_isOutOfOrder_33 : decode cX3_isOutOfOrder 33 = .ok (.iload_n 2, 1) := by decide +kernel
theorem dX3_isOutOfOrder_34 : decode cX3_isOutOfOrder 34 = .ok (.iaload, 1) := by decide +kernel
theorem dX3_isOutOfOrder_35 : decode cX3_isOutOfOrder 35 = .ok (.iload_n 3, 1) := by decide +kernel
theorem dX3_isOutOfOrder_36 : decode cX3_isOutOfOrder 36 = .ok (.imul, 1) := by decide +kernel
theorem dX3_isOutOfOrder_37 : decode cX3_isOutOfOrder 37 = .ok (.aload_n 0, 1) := by decide +kernel
theorem dX3_isOutOfOrder_38 : decode cX3_isOutOfOrder 38 = .ok (.getfield 32, 3) := by decide +kernel
theorem dX3_isOutOfOrder_41 : decode cX3_isOutOfOrder 41 = .ok (.iload_n 1, 1) := by decide +kernel
theorem dX3_isOutOfOrder_42 : decode cX3_isOutOfOrder 42 = .ok (.iaload, 1) := by decide +kernel
theorem dX3_isOutOfOrder_43 : decode cX3_isOutOfOrder 43 = .ok (.iload 4, 2) := by decide +kernel
theorem dX3_isOutOfOrder_45 : decode cX3_isOutOfOrder 45 = .ok (.imul, 1) := by decide +kernel
theorem dX3_isOutOfOrder_46 : decode cX3_isOutOfOrder 46 = .ok (.if_icmp .lt 7, 3) := by decide +kernel
theorem dX3_isOutOfOrder_49 : decode cX3_isOutOfOrder 49 = .ok (.iconst 1, 1) := by decide +kernel
theorem dX3_isOutOfOrder_50 : decode cX3_isOutOfOrder 50 = .ok (.goto 4, 3) := by decide +kernel
theorem dX3_isOutOfOrder_53 : decode cX3_isOutOfOrder 53 = .ok (.iconst 0, 1) := by decide +kernel
theorem dX3_isOutOfOrder_54 : decode cX3_isOutOfOrder 54 = .ok (.ireturn, 1) := by decide +kernel
theorem dX3_joinWithNext_0 : decode cX3_joinWithNext 0 = .ok (.aload_n 0, 1) := by decide +kernel
theorem dX3_joinWithNext_1 : decode cX3_joinWithNext 1 = .ok (.getfield 29, 3) := by decide +kernel
theorem dX3_joinWithNext_4 : decode cX3_joinWithNext 4 = .ok (.iload_n 1, 1) := by decide +kernel
theorem dX3_joinWithNext_5 : decode cX3_joinWithNext 5 = .ok (.aload_n 0, 1) := by decide +kernel
theorem dX3_joinWithNext_6 : decode cX3_joinWithNext 6 = .ok (.getfield 29, 3) := by decide +kernel
theorem dX3_joinWithNext_9 : decode cX3_joinWithNext 9 = .ok (.iload_n 1, 1) := by decide +kernel
theorem dX3_joinWithNext_10 : decode cX3_joinWithNext 10 = .ok (.iconst 1, 1) := by decide +kernel
theorem dX3_joinWithNext_11 : decode cX3_joinWithNext 11 = .ok (.iadd, 1) := by decide +kernel
theorem dX3_joinWithNext_12 : decode cX3_joinWithNext 12 = .ok (.iaload, 1) := by decide +kernel
theorem dX3_joinWithNext_13 : decode cX3_joinWithNext 13 = .ok (.iastore, 1) := by decide +kernel
theorem dX3_joinWithNext_14 : decode cX3_joinWithNext 14 = .ok (.aload_n 0, 1) := by decide +kernel
theorem dX3_joinWithNext_15 : decode cX3_joinWithNext 15 = .ok (.getfield 32, 3) := by decide +kernel
theorem dX3_joinWithNext_18 : decode cX3_joinWithNext 18 = .ok (.iload_n 1, 1) := by decide +kernel
theorem dX3_joinWithNext_19 : decode cX3_joinWithNext 19 = .ok (.dup2, 1) := by decide +kernel
theorem dX3_joinWithNext_20 : decode cX3_joinWithNext 20 = .ok (.iaload, 1) := by decide +kernel
theorem dX3_joinWithNext_21 : decode cX3_joinWithNext 21 = .ok (.aload_n 0, 1) := by decide +kernel
theorem dX3_joinWithNext_22 : decode cX3_joinWithNext 22 = .ok (.getfield 32, 3) := by decide +kernel
theorem dX3_joinWithNext_25 : decode cX3_joinWithNext 25 = .ok (.iload_n 1, 1) := by decide +kernel
theorem dX3_joinWithNext_26 : decode cX3_joinWithNext 26 = .ok (.iconst 1, 1) := by decide +kernel
theorem dX3_joinWithNext_27 : decode cX3_joinWithNext 27 = .ok (.iadd, 1) := by decide +kernel
theorem dX3_joinWithNext_28 : decode cX3_joinWithNext 28 = .ok (.iaload, 1) := by decide +kernel
theorem dX3_joinWithNext_29 : decode cX3_joinWithNext 29 = .ok (.iadd, 1) := by decide +kernel
theorem dX3_joinWithNext_30 : decode cX3_joinWithNext 30 = .ok (.iastore, 1) := by decide +kernel
theorem dX3_joinWithNext_31 : decode cX3_joinWithNext 31 = .ok (.aload_n 0, 1) := by decide +kernel
theorem dX3_joinWithNext_32 : decode cX3_joinWithNext 32 = .ok (.getfield 35, 3) := by decide +kernel
theorem dX3_joinWithNext_35 : decode cX3_joinWithNext 35 = .ok (.iload_n 1, 1) := by decide +kernel
theorem dX3_joinWithNext_36 : decode cX3_joinWithNext 36 = .ok (.dup2, 1) := by decide +kernel
theorem dX3_joinWithNext_37 : decode cX3_joinWithNext 37 = .ok (.iaload, 1) := by decide +kernel
theorem dX3_joinWithNext_38 : decode cX3_joinWithNext 38 = .ok (.aload_n 0, 1) := by decide +kernel
theorem dX3_joinWithNext_39 : decode cX3_joinWithNext 39 = .ok (.getfield 35, 3) := by decide +kernel
theorem dX3_joinWithNext_42 : decode cX3_joinWithNext 42 = .ok (.iload_n 1, 1) := by decide +kernel
theorem dX3_joinWithNext_43 : decode cX3_joinWithNext 43 = .ok (.iconst 1, 1) := by decide +kernel
theorem dX3_joinWithNext_44 : decode cX3_joinWithNext 44 = .ok (.iadd, 1) := by decide +kernel
theorem dX3_joinWithNext_45 : decode cX3_joinWithNext 45 = .ok (.iaload, 1) := by decide +kernel
theorem dX3_joinWithNext_46 : decode cX3_joinWithNext 46 = .ok (.iadd, 1) := by decide +kernel
theorem dX3_joinWithNext_47 : decode cX3_joinWithNext 47 = .ok (.iastore, 1) := by decide +kernel
theorem dX3_joinWithNext_48 : decode cX3_joinWithNext 48 = .ok (.iload_n 1, 1) := by decide +kernel
theorem dX3_joinWithNext_49 : decode cX3_joinWithNext 49 = .ok (.iconst 1, 1) := by decide +kernel
theorem dX3_joinWithNext_50 : decode cX3_joinWithNext 50 = .ok (.iadd, 1) := by decide +kernel
theorem dX3_joinWithNext_51 : decode cX3_joinWithNext 51 = .ok (.istore_n 2, 1) := by decide +kernel
theorem dX3_joinWithNext_52 : decode cX3_joinWithNext 52 = .ok (.iload_n 2, 1) := by decide +kernel
theorem dX3_joinWithNext_53 : decode cX3_joinWithNext 53 = .ok (.iconst 1, 1) := by decide +kernel
theorem dX3_joinWithNext_54 : decode cX3_joinWithNext 54 = .ok (.iadd, 1) := by decide +kernel
theorem dX3_joinWithNext_55 : decode cX3_joinWithNext 55 = .ok (.aload_n 0, 1) := by decide +kernel
theorem dX3_joinWithNext_56 : decode cX3_joinWithNext 56 = .ok (.getfield 38, 3) := by decide +kernel
theorem dX3_joinWithNext_59 : decode cX3_joinWithNext 59 = .ok (.if_icmp .ge 65, 3) := by decide +kernel
theorem dX3_joinWithNext_62 : decode cX3_joinWithNext 62 = .ok (.aload_n 0, 1) := by decide +kernel
theorem dX3_joinWithNext_63 : decode cX3_joinWithNext 63 = .ok (.getfield 26, 3) := by decide +kernel
theorem dX3_joinWithNext_66 : decode cX3_joinWithNext 66 = .ok (.iload_n 2, 1) := by decide +kernel
theorem dX3_joinWithNext_67 : decode cX3_joinWithNext 67 = .ok (.aload_n 0, 1) := by decide +kernel
theorem dX3_joinWithNext_68 : decode cX3_joinWithNext 68 = .ok (.getfield 26, 3) := by decide +kernel
theorem dX3_joinWithNext_71 : decode cX3_joinWithNext 71 = .ok (.iload_n 2, 1) := by decide +kernel
theorem dX3_joinWithNext_72 : decode cX3_joinWithNext 72 = .ok (.iconst 1, 1) := by decide +kernel
theorem dX3_joinWithNext_73 : decode cX3_joinWithNext 73 = .ok (.iadd, 1) := by decide +kernel
theorem dX3_joinWithNext_74 : decode cX3_joinWithNext 74 = .ok (.iaload, 1) := by decide +kernel
theorem dX3_joinWithNext_75 : decode cX3_joinWithNext 75 = .ok (.iastore, 1) := by decide +kernel
theorem dX3_joinWithNext_76 : decode cX3_joinWithNext 76 = .ok (.aload_n 0, 1) := by decide +kernel
theorem dX3_joinWithNext_77 : decode cX3_joinWithNext 77 = .ok (.getfield 29, 3) := by decide +kernel
theorem dX3_joinWithNext_80 : decode cX3_joinWithNext 80 = .ok (.iload_n 2, 1) := by decide +kernel
theorem dX3_joinWithNext_81 : decode cX3_joinWithNext 81 = .ok (.aload_n 0, 1) := by decide +kernel
theorem dX3_joinWithNext_82 : decode cX3_joinWithNext 82 = .ok (.getfield 29, 3) := by decide +kernel
theorem dX3_joinWithNext_85 : decode cX3_joinWithNext 85 = .ok (.iload_n 2, 1) := by decide +kernel
theorem dX3_joinWithNext_86 : decode cX3_joinWithNext 86 = .ok (.iconst 1, 1) := by decide +kernel
theorem dX3_joinWithNext_87 : decode cX3_joinWithNext 87 = .ok (.iadd, 1) := by decide +kernel
theorem dX3_joinWithNext_88 : decode cX3_joinWithNext 88 = .ok (.iaload, 1) := by decide +kernel
theorem dX3_joinWithNext_89 : decode cX3_joinWithNext 89 = .ok (.iastore, 1) := by decide +kernel
theorem dX3_joinWithNext_90 : decode cX3_joinWithNext 90 = .ok (.aload_n 0, 1) := by decide +kernel
theorem dX3_joinWithNext_91 : decode cX3_joinWithNext 91 = .ok (.getfield 32, 3) := by decide +kernel
theorem dX3_joinWithNext_94 : decode cX3_joinWithNext 94 = .ok (.iload_n 2, 1) := by decide +kernel
theorem dX3_joinWithNext_95 : decode cX3_joinWithNext 95 = .ok (.aload_n 0, 1) := by decide +kernel
theorem dX3_joinWithNext_96 : decode cX3_joinWithNext 96 = .ok (.getfield 32, 3) := by decide +kernel
theorem dX3_joinWithNext_99 : decode cX3_joinWithNext 99 = .ok (.iload_n 2, 1) := by decide +kernel
theorem dX3_joinWithNext_100 : decode cX3_joinWithNext 100 = .ok (.iconst 1, 1) := by decide +kernel
theorem dX3_joinWithNext_101 : decode cX3_joinWithNext 101 = .ok (.iadd, 1) := by decide +kernel
theorem dX3_joinWithNext_102 : decode cX3_joinWithNext 102 = .ok (.iaload, 1) := by decide +kernel
theorem dX3_joinWithNext_103 : decode cX3_joinWithNext 103 = .ok (.iastore, 1) := by decide +kernel
theorem dX3_joinWithNext_104 : decode cX3_joinWithNext 104 = .ok (.aload_n 0, 1) := by decide +kernel
theorem dX3_joinWithNext_105 : decode cX3_joinWithNext 105 = .ok (.getfield 35, 3) := by decide +kernel
theorem dX3_joinWithNext_108 : decode cX3_joinWithNext 108 = .ok (.iload_n 2, 1) := by decide +kernel
theorem dX3_joinWithNext_109 : decode cX3_joinWithNext 109 = .ok (.aload_n 0, 1) := by decide +kernel
theorem dX3_joinWithNext_110 : decode cX3_joinWithNext 110 = .ok (.getfield 35, 3) := by decide +kernel
theorem dX3_joinWithNext_113 : decode cX3_joinWithNext 113 = .ok (.iload_n 2, 1) := by decide +kernel
theorem dX3_joinWithNext_114 : decode cX3_joinWithNext 114 = .ok (.iconst 1, 1) := by decide +kernel
theorem dX3_joinWithNext_115 : decode cX3_joinWithNext 115 = .ok (.iadd, 1) := by decide +kernel
theorem dX3_joinWithNext_116 : decode cX3_joinWithNext 116 = .ok (.iaload, 1) := by decide +kernel
theorem dX3_joinWithNext_117 : decode cX3_joinWithNext 117 = .ok (.iastore, 1) := by decide +kernel
theorem dX3_joinWithNext_118 : decode cX3_joinWithNext 118 = .ok (.iinc 2 1, 3) := by decide +kernel
theorem dX3_joinWithNext_121 : decode cX3_joinWithNext 121 = .ok (.goto (-69), 3) := by decide +kernel
theorem dX3_joinWithNext_124 : decode cX3_joinWithNext 124 = .ok (.aload_n 0, 1) := by decide +kernel
theorem dX3_joinWithNext_125 : decode cX3_joinWithNext 125 = .ok (.dup, 1) := by decide +kernel
theorem dX3_joinWithNext_126 : decode cX3_joinWithNext 126 = .ok (.getfield 38, 3) := by decide +kernel
theorem dX3_joinWithNext_129 : decode cX3_joinWithNext 129 = .ok (.iconst 1, 1) := by decide +kernel
theorem dX3_joinWithNext_130 : decode cX3_joinWithNext 130 = .ok (.isub, 1) := by decide +kernel
theorem dX3_joinWithNext_131 : decode cX3_joinWithNext 131 = .ok (.putfield 38, 3) := by decide +kernel
theorem dX3_joinWithNext_134 : decode cX3_joinWithNext 134 = .ok (.return_, 1) := by decide +kernel
theorem dX3_findBlock_0 : decode cX3_findBlock 0 = .ok (.aload_n 0, 1) := by decide +kernel
theorem dX3_findBlock_1 : decode cX3_findBlock 1 = .ok (.iload_n 1, 1) := by decide +kernel
theorem dX3_findBlock_2 : decode cX3_findBlock 2 = .ok (.invokevirtual 91, 3) := by decide +kernel
theorem dX3_findBlock_5 : decode cX3_findBlock 5 = .ok (.ifCond .eq 5, 3) := by decide +kernel
theorem dX3_findBlock_8 : decode cX3_findBlock 8 = .ok (.iconst (-1), 1) := by decide +kernel
theorem dX3_findBlock_9 : decode cX3_findBlock 9 = .ok (.ireturn, 1) := by decide +kernel
theorem dX3_findBlock_10 : decode cX3_findBlock 10 = .ok (.iconst 0, 1) := by decide +kernel
theorem dX3_findBlock_11 : decode cX3_findBlock 11 = .ok (.istore_n 2, 1) := by decide +kernel
theorem dX3_findBlock_12 : decode cX3_findBlock 12 = .ok (.iload_n 2, 1) := by decide +kernel
theorem dX3_findBlock_13 : decode cX3_findBlock 13 = .ok (.aload_n 0, 1) := by decide +kernel
theorem dX3_findBlock_14 : decode cX3_findBlock 14 = .ok (.getfield 38, 3) := by decide +kernel
theorem dX3_findBlock_17 : decode cX3_findBlock 17 = .ok (.if_icmp .ge 21, 3) := by decide +kernel
theorem dX3_findBlock_20 : decode cX3_findBlock 20 = .ok (.iload_n 1, 1) := by decide +kernel
theorem dX3_findBlock_21 : decode cX3_findBlock 21 = .ok (.aload_n 0, 1) := by decide +kernel
theorem dX3_findBlock_22 : decode cX3_findBlock 22 = .ok (.getfield 29, 3) := by decide +kernel
theorem dX3_findBlock_25 : decode cX3_findBlock 25 = .ok (.iload_n 2, 1) := by decide +kernel
theorem dX3_findBlock_26 : decode cX3_findBlock 26 = .ok (.iaload, 1) := by decide +kernel
theorem dX3_findBlock_27 : decode cX3_findBlock 27 = .ok (.if_icmp .gt 5, 3) := by decide +kernel
theorem dX3_findBlock_30 : decode cX3_findBlock 30 = .ok (.iload_n 2, 1) := by decide +kernel
theorem dX3_findBlock_31 : decode cX3_findBlock 31 = .ok (.ireturn, 1) := by decide +kernel
theorem dX3_findBlock_32 : decode cX3_findBlock 32 = .ok (.iinc 2 1, 3) := by decide +kernel
theorem dX3_findBlock_35 : decode cX3_findBlock 35 = .ok (.goto (-23), 3) := by decide +kernel
theorem dX3_findBlock_38 : decode cX3_findBlock 38 = .ok (.iconst (-1), 1) := by decide +kernel
theorem dX3_findBlock_39 : decode cX3_findBlock 39 = .ok (.ireturn, 1) := by decide +kernel
theorem dX3_isEmptyBand_0 : decode cX3_isEmptyBand 0 = .ok (.aload_n 0, 1) := by decide +kernel
theorem dX3_isEmptyBand_1 : decode cX3_isEmptyBand 1 = .ok (.getfield 19, 3) := by decide +kernel
theorem dX3_isEmptyBand_4 : decode cX3_isEmptyBand 4 = .ok (.iload_n 1, 1) := by decide +kernel
theorem dX3_isEmptyBand_5 : decode cX3_isEmptyBand 5 = .ok (.iaload, 1) := by decide +kernel
theorem dX3_isEmptyBand_6 : decode cX3_isEmptyBand 6 = .ok (.aload_n 0, 1) := by decide +kernel
theorem dX3_isEmptyBand_7 : decode cX3_isEmptyBand 7 = .ok (.getfield 23, 3) := by decide +kernel
theorem dX3_isEmptyBand_10 : decode cX3_isEmptyBand 10 = .ok (.iload_n 1, 1) := by decide +kernel
theorem dX3_isEmptyBand_11 : decode cX3_isEmptyBand 11 = .ok (.iaload, 1) := by decide +kernel
theorem dX3_isEmptyBand_12 : decode cX3_isEmptyBand 12 = .ok (.iadd, 1) := by decide +kernel
theorem dX3_isEmptyBand_13 : decode cX3_isEmptyBand 13 = .ok (.ifCond .ne 7, 3) := by decide +kernel
theorem dX3_isEmptyBand_16 : decode cX3_isEmptyBand 16 = .ok (.iconst 1, 1) := by decide +kernel
theorem dX3_isEmptyBand_17 : decode cX3_isEmptyBand 17 = .ok (.goto 4, 3) := by decide +kernel
theorem dX3_isEmptyBand_20 : decode cX3_isEmptyBand 20 = .ok (.iconst 0, 1) := by decide +kernel
theorem dX3_isEmptyBand_21 : decode cX3_isEmptyBand 21 = .ok (.ireturn, 1) := by decide +kernel
theorem dX3_sameIn_0 : decode cX3_sameIn 0 = .ok (.aload_n 0, 1) := by decide +kernel
theorem dX3_sameIn_1 : decode cX3_sameIn 1 = .ok (.getfield 19, 3) := by decide +kernel
theorem dX3_sameIn_4 : decode cX3_sameIn 4 = .ok (.iload_n 1, 1) := by decide +kernel
theorem dX3_sameIn_5 : decode cX3_sameIn 5 = .ok (.iaload, 1) := by decide +kernel
theorem dX3_sameIn_6 : decode cX3_sameIn 6 = .ok (.ireturn, 1) := by decide +kernel
theorem dX3_otherIn_0 : decode cX3_otherIn 0 = .ok (.aload_n 0, 1) := by decide +kernel
theorem dX3_otherIn_1 : decode cX3_otherIn 1 = .ok (.getfield 23, 3) := by decide +kernel
theorem dX3_otherIn_4 : decode cX3_otherIn 4 = .ok (.iload_n 1, 1) := by decide +kernel
theorem dX3_otherIn_5 : decode cX3_otherIn 5 = .ok (.iaload, 1) := by decide +kernel
theorem dX3_otherIn_6 : decode cX3_otherIn 6 = .ok (.ireturn, 1) := by decide +kernel
theorem dX3_firstBandOf_0 : decode cX3_firstBandOf 0 = .ok (.aload_n 0, 1) := by decide +kernel
theorem dX3_firstBandOf_1 : decode cX3_firstBandOf 1 = .ok (.getfield 26, 3) := by decide +kernel
theorem dX3_firstBandOf_4 : decode cX3_firstBandOf 4 = .ok (.iload_n 1, 1) := by decide +kernel
theorem dX3_firstBandOf_5 : decode cX3_firstBandOf 5 = .ok (.iaload, 1) := by decide +kernel
theorem dX3_firstBandOf_6 : decode cX3_firstBandOf 6 = .ok (.ireturn, 1) := by decide +kernel
theorem dX3_lastBandOf_0 : decode cX3_lastBandOf 0 = .ok (.aload_n 0, 1) := by decide +kernel
theorem dX3_lastBandOf_1 : decode cX3_lastBandOf 1 = .ok (.getfield 29, 3) := by decide +kernel
theorem dX3_lastBandOf_4 : decode cX3_lastBandOf 4 = .ok (.iload_n 1, 1) := by decide +kernel
theorem dX3_lastBandOf_5 : decode cX3_lastBandOf 5 = .ok (.iaload, 1) := by decide +kernel
theorem dX3_lastBandOf_6 : decode cX3_lastBandOf 6 = .ok (.ireturn, 1) := by decide +kernel
theorem dX3_sameOf_0 : decode cX3_sameOf 0 = .ok (.aload_n 0, 1) := by decide +kernel
theorem dX3_sameOf_1 : decode cX3_sameOf 1 = .ok (.getfield 32, 3) := by decide +kernel
theorem dX3_sameOf_4 : decode cX3_sameOf 4 = .ok (.iload_n 1, 1) := by decide +kernel
theorem dX3_sameOf_5 : decode cX3_sameOf 5 = .ok (.iaload, 1) := by decide +kernel
theorem dX3_sameOf_6 : decode cX3_sameOf 6 = .ok (.ireturn, 1) := by decide +kernel
theorem dX3_otherOf_0 : decode cX3_otherOf 0 = .ok (.aload_n 0, 1) := by decide +kernel
theorem dX3_otherOf_1 : decode cX3_otherOf 1 = .ok (.getfield 35, 3) := by decide +kernel
theorem dX3_otherOf_4 : decode cX3_otherOf 4 = .ok (.iload_n 1, 1) := by decide +kernel
theorem dX3_otherOf_5 : decode cX3_otherOf 5 = .ok (.iaload, 1) := by decide +kernel
theorem dX3_otherOf_6 : decode cX3_otherOf 6 = .ok (.ireturn, 1) := by decide +kernel
theorem dX3_reaches_0 : decode cX3_reaches 0 = .ok (.aload_n 0, 1) := by decide +kernel
theorem dX3_reaches_1 : decode cX3_reaches 1 = .ok (.getfield 32, 3) := by decide +kernel
theorem dX3_reaches_4 : decode cX3_reaches 4 = .ok (.iload_n 1, 1) := by decide +kernel
theorem dX3_reaches_5 : decode cX3_reaches 5 = .ok (.iaload, 1) := by decide +kernel
theorem dX3_reaches_6 : decode cX3_reaches 6 = .ok (.ifCond .eq 16, 3) := by decide +kernel
theorem dX3_reaches_9 : decode cX3_reaches 9 = .ok (.aload_n 0, 1) := by decide +kernel
theorem dX3_reaches_10 : decode cX3_reaches 10 = .ok (.getfield 35, 3) := by decide +kernel
theorem dX3_reaches_13 : decode cX3_reaches 13 = .ok (.iload_n 1, 1) := by decide +kernel
theorem dX3_reaches_14 : decode cX3_reaches 14 = .ok (.iaload, 1) := by decide +kernel
theorem dX3_reaches_15 : decode cX3_reaches 15 = .ok (.ifCond .eq 7, 3) := by decide +kernel
theorem dX3_reaches_18 : decode cX3_reaches 18 = .ok (.iconst 1, 1) := by decide +kernel
theorem dX3_reaches_19 : decode cX3_reaches 19 = .ok (.goto 4, 3) := by decide +kernel
theorem dX3_reaches_22 : decode cX3_reaches 22 = .ok (.iconst 0, 1) := by decide +kernel
theorem dX3_reaches_23 : decode cX3_reaches 23 = .ok (.ireturn, 1) := by decide +kernel
theorem dX3_allSame_0 : decode cX3_allSame 0 = .ok (.aload_n 0, 1) := by decide +kernel
theorem dX3_allSame_1 : decode cX3_allSame 1 = .ok (.getfield 42, 3) := by decide +kernel
theorem dX3_allSame_4 : decode cX3_allSame 4 = .ok (.ireturn, 1) := by decide +kernel
theorem dX3_allOther_0 : decode cX3_allOther 0 = .ok (.aload_n 0, 1) := by decide +kernel
theorem dX3_allOther_1 : decode cX3_allOther 1 = .ok (.getfield 45, 3) := by decide +kernel
theorem dX3_allOther_4 : decode cX3_allOther 4 = .ok (.ireturn, 1) := by decide +kernel
theorem dX3_countBlocks_0 : decode cX3_countBlocks 0 = .ok (.aload_n 0, 1) := by decide +kernel
theorem dX3_countBlocks_1 : decode cX3_countBlocks 1 = .ok (.getfield 38, 3) := by decide +kernel
theorem dX3_countBlocks_4 : decode cX3_countBlocks 4 = .ok (.ireturn, 1) := by decide +kernel
theorem dX4_init_0 : decode cX4_init 0 = .ok (.aload_n 0, 1) := by decide +kernel
theorem dX4_init_1 : decode cX4_init 1 = .ok (.invokespecial 3, 3) := by decide +kernel
theorem dX4_init_4 : decode cX4_init 4 = .ok (.aload_n 0, 1) := by decide +kernel
theorem dX4_init_5 : decode cX4_init 5 = .ok (.aload_n 1, 1) := by decide +kernel
theorem dX4_init_6 : decode cX4_init 6 = .ok (.putfield 9, 3) := by decide +kernel
theorem dX4_init_9 : decode cX4_init 9 = .ok (.aload_n 0, 1) := by decide +kernel
theorem dX4_init_10 : decode cX4_init 10 = .ok (.aload_n 2, 1) := by decide +kernel
theorem dX4_init_11 : decode cX4_init 11 = .ok (.putfield 15, 3) := by decide +kernel
theorem dX4_init_14 : decode cX4_init 14 = .ok (.return_, 1) := by decide +kernel
theorem dX4_between_0 : decode cX4_between 0 = .ok (.iconst 0, 1) := by decide +kernel
theorem dX4_between_1 : decode cX4_between 1 = .ok (.istore_n 3, 1) := by decide +kernel
theorem dX4_between_2 : decode cX4_between 2 = .ok (.iconst 0, 1) := by decide +kernel
theorem dX4_between_3 : decode cX4_between 3 = .ok (.istore 4, 2) := by decide +kernel
theorem dX4_between_5 : decode cX4_between 5 = .ok (.iconst 0, 1) := by decide +kernel
theorem dX4_between_6 : decode cX4_between 6 = .ok (.istore 5, 2) := by decide +kernel
theorem dX4_between_8 : decode cX4_between 8 = .ok (.iload 5, 2) := by decide +kernel
theorem dX4_between_10 : decode cX4_between 10 = .ok (.bipush 6, 2) := by decide +kernel
theorem dX4_between_12 : decode cX4_between 12 = .ok (.if_icmp .ge 103, 3) := by decide +kernel
theorem dX4_between_15 : decode cX4_between 15 = .ok (.aload_n 0, 1) := by decide +kernel
theorem dX4_between_16 : decode cX4_between 16 = .ok (.getfield 9, 3) := by decide +kernel
theorem dX4_between_19 : decode cX4_between 19 = .ok (.iload_n 1, 1) := by decide +kernel
theorem dX4_between_20 : decode cX4_between 20 = .ok (.iload 5, 2) := by decide +kernel
theorem dX4_between_22 : decode cX4_between 22 = .ok (.invokevirtual 19, 3) := by decide +kernel
theorem dX4_between_25 : decode cX4_between 25 = .ok (.istore 6, 2) := by decide +kernel
theorem dX4_between_27 : decode cX4_between 27 = .ok (.aload_n 0, 1) := by decide +kernel
theorem dX4_between_28 : decode cX4_between 28 = .ok (.getfield 9, 3) := by decide +kernel
theorem dX4_between_31 : decode cX4_between 31 = .ok (.iload_n 2, 1) := by decide +kernel
theorem dX4_between_32 : decode cX4_between 32 = .ok (.iload 5, 2) := by decide +kernel
theorem dX4_between_34 : decode cX4_between 34 = .ok (.invokevirtual 19, 3) := by decide +kernel
theorem dX4_between_37 : decode cX4_between 37 = .ok (.istore 7, 2) := by decide +kernel
theorem dX4_between_39 : decode cX4_between 39 = .ok (.iload 6, 2) := by decide +kernel
theorem dX4_between_41 : decode cX4_between 41 = .ok (.iconst (-1), 1) := by decide +kernel
theorem dX4_between_42 : decode cX4_between 42 = .ok (.if_icmp .eq 67, 3) := by decide +kernel
theorem dX4_between_45 : decode cX4_between 45 = .ok (.iload 7, 2) := by decide +kernel
theorem dX4_between_47 : decode cX4_between 47 = .ok (.iconst (-1), 1) := by decide +kernel
theorem dX4_between_48 : decode cX4_between 48 = .ok (.if_icmp .eq 61, 3) := by decide +kernel
theorem dX4_between_51 : decode cX4_between 51 = .ok (.iload 6, 2) := by decide +kernel
theorem dX4_between_53 : decode cX4_between 53 = .ok (.aload_n 0, 1) := by decide +kernel
theorem dX4_between_54 : decode cX4_between 54 = .ok (.getfield 15, 3) := by decide +kernel
theorem dX4_between_57 : decode cX4_between 57 = .ok (.aload_n 0, 1) := by decide +kernel
theorem dX4_between_58 : decode cX4_between 58 = .ok (.getfield 9, 3) := by decide +kernel
theorem dX4_between_61 : decode cX4_between 61 = .ok (.iload_n 1, 1) := by decide +kernel
theorem dX4_between_62 : decode cX4_between 62 = .ok (.invokevirtual 25, 3) := by decide +kernel
theorem dX4_between_65 : decode cX4_between 65 = .ok (.iload 5, 2) := by decide +kernel
theorem dX4_between_67 : decode cX4_between 67 = .ok (.invokevirtual 29, 3) := by decide +kernel
theorem dX4_between_70 : decode cX4_between 70 = .ok (.isub, 1) := by decide +kernel
theorem dX4_between_71 : decode cX4_between 71 = .ok (.istore 8, 2) := by decide +kernel
theorem dX4_between_73 : decode cX4_between 73 = .ok (.iload 7, 2) := by decide +kernel
theorem dX4_between_75 : decode cX4_between 75 = .ok (.aload_n 0, 1) := by decide +kernel
theorem dX4_between_76 : decode cX4_between 76 = .ok (.getfield 15, 3) := by decide +kernel
theorem dX4_between_79 : decode cX4_between 79 = .ok (.aload_n 0, 1) := by decide +kernel
theorem dX4_between_80 : decode cX4_between 80 = .ok (.getfield 9, 3) := by decide +kernel
theorem dX4_between_83 : decode cX4_between 83 = .ok (.iload_n 2, 1) := by decide +kernel
theorem dX4_between_84 : decode cX4_between 84 = .ok (.invokevirtual 25, 3) := by decide +kernel
theorem dX4_between_87 : decode cX4_between 87 = .ok (.iload 5, 2) := by decide +kernel
theorem dX4_between_89 : decode cX4_between 89 = .ok (.invokevirtual 29, 3) := by decide +kernel
theorem dX4_between_92 : decode cX4_between 92 = .ok (.isub, 1) := by decide +kernel
theorem dX4_between_93 : decode cX4_between 93 = .ok (.istore 9, 2) := by decide +kernel
theorem dX4_between_95 : decode cX4_between 95 = .ok (.iload_n 3, 1) := by decide +kernel
theorem dX4_between_96 : decode cX4_between 96 = .ok (.iload 8, 2) := by decide +kernel
theorem dX4_between_98 : decode cX4_between 98 = .ok (.iload 9, 2) := by decide +kernel
theorem dX4_between_100 : decode cX4_between 100 = .ok (.isub, 1) := by decide +kernel
theorem dX4_between_101 : decode cX4_between 101 = .ok (.invokestatic 34, 3) := by decide +kernel
theorem dX4_between_104 : decode cX4_between 104 = .ok (.iadd, 1) := by decide +kernel
theorem dX4_between_105 : decode cX4_between 105 = .ok (.istore_n 3, 1) := by decide +kernel
theorem dX4_between_106 : decode cX4_between 106 = .ok (.iinc 4 1, 3) := by decide +kernel
theorem dX4_between_109 : decode cX4_between 109 = .ok (.iinc 5 1, 3) := by decide +kernel
theorem dX4_between_112 : decode cX4_between 112 = .ok (.goto (-104), 3) := by decide +kernel
theorem dX4_between_115 : decode cX4_between 115 = .ok (.iload 4, 2) := by decide +kernel
theorem dX4_between_117 : decode cX4_between 117 = .ok (.iconst 3, 1) := by decide +kernel
theorem dX4_between_118 : decode cX4_between 118 = .ok (.if_icmp .ge 7, 3) := by decide +kernel
theorem dX4_between_121 : decode cX4_between 121 = .ok (.iconst (-1), 1) := by decide +kernel
theorem dX4_between_122 : decode cX4_between 122 = .ok (.goto 10, 3) := by decide +kernel
theorem dX4_between_125 : decode cX4_between 125 = .ok (.iload_n 3, 1) := by decide +kernel
theorem dX4_between_126 : decode cX4_between 126 = .ok (.bipush 6, 2) := by decide +kernel
theorem dX4_between_128 : decode cX4_between 128 = .ok (.imul, 1) := by decide +kernel
theorem dX4_between_129 : decode cX4_between 129 = .ok (.iload 4, 2) := by decide +kernel
theorem dX4_between_131 : decode cX4_between 131 = .ok (.idiv, 1) := by decide +kernel
theorem dX4_between_132 : decode cX4_between 132 = .ok (.ireturn, 1) := by decide +kernel
theorem dX5_init_0 : decode cX5_init 0 = .ok (.aload_n 0, 1) := by decide +kernel
theorem dX5_init_1 : decode cX5_init 1 = .ok (.invokespecial 3, 3) := by decide +kernel
theorem dX5_init_4 : decode cX5_init 4 = .ok (.aload_n 0, 1) := by decide +kernel
theorem dX5_init_5 : decode cX5_init 5 = .ok (.aload_n 1, 1) := by decide +kernel
theorem dX5_init_6 : decode cX5_init 6 = .ok (.putfield 9, 3) := by decide +kernel
theorem dX5_init_9 : decode cX5_init 9 = .ok (.aload_n 0, 1) := by decide +kernel
theorem dX5_init_10 : decode cX5_init 10 = .ok (.bipush 8, 2) := by decide +kernel
theorem dX5_init_12 : decode cX5_init 12 = .ok (.newarray .int, 2) := by decide +kernel
theorem dX5_init_14 : decode cX5_init 14 = .ok (.putfield 15, 3) := by decide +kernel
theorem dX5_init_17 : decode cX5_init 17 = .ok (.aload_n 0, 1) := by decide +kernel
theorem dX5_init_18 : decode cX5_init 18 = .ok (.bipush 64, 2) := by decide +kernel
theorem dX5_init_20 : decode cX5_init 20 = .ok (.newarray .int, 2) := by decide +kernel
theorem dX5_init_22 : decode cX5_init 22 = .ok (.putfield 19, 3) := by decide +kernel
theorem dX5_init_25 : decode cX5_init 25 = .ok (.aload_n 0, 1) := by decide +kernel
theorem dX5_init_26 : decode cX5_init 26 = .ok (.bipush 8, 2) := by decide +kernel
theorem dX5_init_28 : decode cX5_init 28 = .ok (.newarray .int, 2) := by decide +kernel
theorem dX5_init_30 : decode cX5_init 30 = .ok (.putfield 22, 3) := by decide +kernel
theorem dX5_init_33 : decode cX5_init 33 = .ok (.aload_n 0, 1) := by decide +kernel
theorem dX5_init_34 : decode cX5_init 34 = .ok (.sipush 256, 3) := by decide +kernel
theorem dX5_init_37 : decode cX5_init 37 = .ok (.newarray .int, 2) := by decide +kernel
theorem dX5_init_39 : decode cX5_init 39 = .ok (.putfield 25, 3) := by decide +kernel
theorem dX5_init_42 : decode cX5_init 42 = .ok (.aload_n 0, 1) := by decide +kernel
theorem dX5_init_43 : decode cX5_init 43 = .ok (.sipush 256, 3) := by decide +kernel
theorem dX5_init_46 : decode cX5_init 46 = .ok (.newarray .int, 2) := by decide +kernel
theorem dX5_init_48 : decode cX5_init 48 = .ok (.putfield 28, 3) := by decide +kernel
theorem dX5_init_51 : decode cX5_init 51 = .ok (.aload_n 0, 1) := by decide +kernel
theorem dX5_init_52 : decode cX5_init 52 = .ok (.iconst 0, 1) := by decide +kernel
theorem dX5_init_53 : decode cX5_init 53 = .ok (.putfield 31, 3) := by decide +kernel
theorem dX5_init_56 : decode cX5_init 56 = .ok (.aload_n 0, 1) := by decide +kernel
theorem dX5_init_57 : decode cX5_init 57 = .ok (.iconst 0, 1) := by decide +kernel
theorem dX5_init_58 : decode cX5_init 58 = .ok (.putfield 35, 3) := by decide +kernel
theorem dX5_init_61 : decode cX5_init 61 = .ok (.aload_n 0, 1) := by decide +kernel
theorem dX5_init_62 : decode cX5_init 62 = .ok (.iconst 0, 1) := by decide +kernel
theorem dX5_init_63 : decode cX5_init 63 = .ok (.putfield 38, 3) := by decide +kernel
theorem dX5_init_66 : decode cX5_init 66 = .ok (.return_, 1) := by decide +kernel
theorem dX5_size_0 : decode cX5_size 0 = .ok (.aload_n 0, 1) := by decide +kernel
theorem dX5_size_1 : decode cX5_size 1 = .ok (.getfield 31, 3) := by decide +kernel
theorem dX5_size_4 : decode cX5_size 4 = .ok (.ireturn, 1) := by decide +kernel
theorem dX5_isFull_0 : decode cX5_isFull 0 = .ok (.aload_n 0, 1) := by decide +kernel
theorem dX5_isFull_1 : decode cX5_isFull 1 = .ok (.getfield 31, 3) := by decide +kernel
theorem dX5_isFull_4 : decode cX5_isFull 4 = .ok (.bipush 8, 2) := by decide +kernel
theorem dX5_isFull_6 : decode cX5_isFull 6 = .ok (.if_icmp .lt 7, 3) := by decide +kernel
theorem dX5_isFull_9 : decode cX5_isFull 9 = .ok (.iconst 1, 1) := by decide +kernel
theorem dX5_isFull_10 : decode cX5_isFull 10 = .ok (.goto 4, 3) := by decide +kernel
theorem dX5_isFull_13 : decode cX5_isFull 13 = .ok (.iconst 0, 1) := by decide +kernel
theorem dX5_isFull_14 : decode cX5_isFull 14 = .ok (.ireturn, 1) := by decide +kernel
theorem dX5_isListed_0 : decode cX5_isListed 0 = .ok (.iconst 0, 1) := by decide +kernel
theorem dX5_isListed_1 : decode cX5_isListed 1 = .ok (.istore_n 2, 1) := by decide +kernel
theorem dX5_isListed_2 : decode cX5_isListed 2 = .ok (.iload_n 2, 1) := by decide +kernel
theorem dX5_isListed_3 : decode cX5_isListed 3 = .ok (.aload_n 0, 1) := by decide +kernel
theorem dX5_isListed_4 : decode cX5_isListed 4 = .ok (.getfield 31, 3) := by decide +kernel
theorem dX5_isListed_7 : decode cX5_isListed 7 = .ok (.if_icmp .ge 21, 3) := by decide +kernel
theorem dX5_isListed_10 : decode cX5_isListed 10 = .ok (.aload_n 0, 1) := by decide +kernel
theorem dX5_isListed_11 : decode cX5_isListed 11 = .ok (.getfield 15, 3) := by decide +kernel
theorem dX5_isListed_14 : decode cX5_isListed 14 = .ok (.iload_n 2, 1) := by decide +kernel
theorem dX5_isListed_15 : decode cX5_isListed 15 = .ok (.iaload, 1) := by decide +kernel
theorem dX5_isListed_16 : decode cX5_isListed 16 = .ok (.iload_n 1, 1) := by decide +kernel
theorem dX5_isListed_17 : decode cX5_isListed 17 = .ok (.if_icmp .ne 5, 3) := by decide +kernel
theorem dX5_isListed_20 : decode cX5_isListed 20 = .ok (.iconst 1, 1) := by decide +kernel
theorem dX5_isListed_21 : decode cX5_isListed 21 = .ok (.ireturn, 1) := by decide +kernel
theorem dX5_isListed_22 : decode cX5_isListed 22 = .ok (.iinc 2 1, 3) := by decide +kernel
theorem dX5_isListed_25 : decode cX5_isListed 25 = .ok (.goto (-23), 3) := by decide +kernel
theorem dX5_isListed_28 : decode cX5_isListed 28 = .ok (.iconst 0, 1) := by decide +kernel
theorem dX5_isListed_29 : decode cX5_isListed 29 = .ok (.ireturn, 1) := by decide +kernel
theorem dX5_add_0 : decode cX5_add 0 = .ok (.aload_n 0, 1) := by decide +kernel
theorem dX5_add_1 : decode cX5_add 1 = .ok (.getfield 15, 3) := by decide +kernel
theorem dX5_add_4 : decode cX5_add 4 = .ok (.aload_n 0, 1) := by decide +kernel
theorem dX5_add_5 : decode cX5_add 5 = .ok (.getfield 31, 3) := by decide +kernel
theorem dX5_add_8 : decode cX5_add 8 = .ok (.iload_n 1, 1) := by decide +kernel
theorem dX5_add_9 : decode cX5_add 9 = .ok (.iastore, 1) := by decide +kernel
theorem dX5_add_10 : decode cX5_add 10 = .ok (.aload_n 0, 1) := by decide +kernel
theorem dX5_add_11 : decode cX5_add 11 = .ok (.dup, 1) := by decide +kernel
theorem dX5_add_12 : decode cX5_add 12 = .ok (.getfield 31, 3) := by decide +kernel
theorem dX5_add_15 : decode cX5_add 15 = .ok (.iconst 1, 1) := by decide +kernel
theorem dX5_add_16 : decode cX5_add 16 = .ok (.iadd, 1) := by decide +kernel
theorem dX5_add_17 : decode cX5_add 17 = .ok (.putfield 31, 3) := by decide +kernel
theorem dX5_add_20 : decode cX5_add 20 = .ok (.return_, 1) := by decide +kernel
theorem dX5_empty_0 : decode cX5_empty 0 = .ok (.aload_n 0, 1) := by decide +kernel
theorem dX5_empty_1 : decode cX5_empty 1 = .ok (.getfield 31, 3) := by decide +kernel
theorem dX5_empty_4 : decode cX5_empty 4 = .ok (.istore_n 1, 1) := by decide +kernel
theorem dX5_empty_5 : decode cX5_empty 5 = .ok (.aload_n 0, 1) := by decide +kernel
theorem dX5_empty_6 : decode cX5_empty 6 = .ok (.iconst 0, 1) := by decide +kernel
theorem dX5_empty_7 : decode cX5_empty 7 = .ok (.putfield 31, 3) := by decide +kernel
theorem dX5_empty_10 : decode cX5_empty 10 = .ok (.iload_n 1, 1) := by decide +kernel
theorem dX5_empty_11 : decode cX5_empty 11 = .ok (.ireturn, 1) := by decide +kernel
theorem dX5_readScores_0 : decode cX5_readScores 0 = .ok (.iconst 0, 1) := by decide +kernel
theorem dX5_readScores_1 : decode cX5_readScores 1 = .ok (.istore_n 1, 1) := by decide +kernel
theorem dX5_readScores_2 : decode cX5_readScores 2 = .ok (.iload_n 1, 1) := by decide +kernel
theorem dX5_readScores_3 : decode cX5_readScores 3 = .ok (.aload_n 0, 1) := by decide +kernel
theorem dX5_readScores_4 : decode cX5_readScores 4 = .ok (.getfield 31, 3) := by decide +kernel
theorem dX5_readScores_7 : decode cX5_readScores 7 = .ok (.if_icmp .ge 66, 3) := by decide +kernel
theorem dX5_readScores_10 : decode cX5_readScores 10 = .ok (.iconst 0, 1) := by decide +kernel
theorem dX5_readScores_11 : decode cX5_readScores 11 = .ok (.istore_n 2, 1) := by decide +kernel
theorem dX5_readScores_12 : decode cX5_readScores 12 = .ok (.iload_n 2, 1) := by decide +kernel
theorem dX5_readScores_13 : decode cX5_readScores 13 = .ok (.iload_n 1, 1) := by decide +kernel
theorem dX5_readScores_14 : decode cX5_readScores 14 = .ok (.if_icmp .ge 53, 3) := by decide +kernel
theorem dX5_readScores_17 : decode cX5_readScores 17 = .ok (.aload_n 0, 1) := by decide +kernel
theorem dX5_readScores_18 : decode cX5_readScores 18 = .ok (.getfield 9, 3) := by decide +kernel
theorem dX5_readScores_21 : decode cX5_readScores 21 = .ok (.aload_n 0, 1) := by decide +kernel
theorem dX5_readScores_22 : decode cX5_readScores 22 = .ok (.getfield 15, 3) := by decide +kernel
theorem dX5_readScores_25 : decode cX5_readScores 25 = .ok (.iload_n 2, 1) := by decide +kernel
theorem dX5_readScores_26 : decode cX5_readScores 26 = .ok (.iaload, 1) := by decide +kernel
theorem dX5_readScores_27 : decode cX5_readScores 27 = .ok (.aload_n 0, 1) := by decide +kernel
theorem dX5_readScores_28 : decode cX5_readScores 28 = .ok (.getfield 15, 3) := by decide +kernel
theorem dX5_readScores_31 : decode cX5_readScores 31 = .ok (.iload_n 1, 1) := by decide +kernel
theorem dX5_readScores_32 : decode cX5_readScores 32 = .ok (.iaload, 1) := by decide +kernel
theorem dX5_readScores_33 : decode cX5_readScores 33 = .ok (.invokevirtual 41, 3) := by decide +kernel
theorem dX5_readScores_36 : decode cX5_readScores 36 = .ok (.istore_n 3, 1) := by decide +kernel
theorem dX5_readScores_37 : decode cX5_readScores 37 = .ok (.aload_n 0, 1) := by decide +kernel
theorem dX5_readScores_38 : decode cX5_readScores 38 = .ok (.getfield 19, 3) := by decide +kernel
theorem dX5_readScores_41 : decode cX5_readScores 41 = .ok (.iload_n 2, 1) := by decide +kernel
theorem dX5_readScores_42 : decode cX5_readScores 42 = .ok (.bipush 8, 2) := by decide +kernel
theorem dX5_readScores_44 : decode cX5_readScores 44 = .ok (.imul, 1) := by decide +kernel
theorem dX5_readScores_45 : decode cX5_readScores 45 = .ok (.iload_n 1, 1) := by decide +kernel
theorem dX5_readScores_46 : decode cX5_readScores 46 = .ok (.iadd, 1) := by decide +kernel
theorem dX5_readScores_47 : decode cX5_readScores 47 = .ok (.iload_n 3, 1) := by decide +kernel
theorem dX5_readScores_48 : decode cX5_readScores 48 = .ok (.iastore, 1) := by decide +kernel
theorem dX5_readScores_49 : decode cX5_readScores 49 = .ok (.aload_n 0, 1) := by decide +kernel
theorem dX5_readScores_50 : decode cX5_readScores 50 = .ok (.getfield 19, 3) := by decide +kernel
theorem dX5_readScores_53 : decode cX5_readScores 53 = .ok (.iload_n 1, 1) := by decide +kernel
theorem dX5_readScores_54 : decode cX5_readScores 54 = .ok (.bipush 8, 2) := by decide +kernel
theorem dX5_readScores_56 : decode cX5_readScores 56 = .ok (.imul, 1) := by decide +kernel
theorem dX5_readScores_57 : decode cX5_readScores 57 = .ok (.iload_n 2, 1) := by decide +kernel
theorem dX5_readScores_58 : decode cX5_readScores 58 = .ok (.iadd, 1) := by decide +kernel
theorem dX5_readScores_59 : decode cX5_readScores 59 = .ok (.iload_n 3, 1) := by decide +kernel
theorem dX5_readScores_60 : decode cX5_readScores 60 = .ok (.iastore, 1) := by decide +kernel
theorem dX5_readScores_61 : decode cX5_readScores 61 = .ok (.iinc 2 1, 3) := by decide +kernel
theorem dX5_readScores_64 : decode cX5_readScores 64 = .ok (.goto (-52), 3) := by decide +kernel
theorem dX5_readScores_67 : decode cX5_readScores 67 = .ok (.iinc 1 1, 3) := by decide +kernel
theorem dX5_readScores_70 : decode cX5_readScores 70 = .ok (.goto (-68), 3) := by decide +kernel
theorem dX5_readScores_73 : decode cX5_readScores 73 = .ok (.return_, 1) := by decide +kernel
theorem dX5_join_0 : decode cX5_join 0 = .ok (.aload_n 0, 1) := by decide +kernel
theorem dX5_join_1 : decode cX5_join 1 = .ok (.invokevirtual 47, 3) := by decide +kernel
theorem dX5_join_4 : decode cX5_join 4 = .ok (.iconst 0, 1) := by decide +kernel
theorem dX5_join_5 : decode cX5_join 5 = .ok (.istore_n 2, 1) := by decide +kernel
theorem dX5_join_6 : decode cX5_join 6 = .ok (.iload_n 2, 1) := by decide +kernel
theorem dX5_join_7 : decode cX5_join 7 = .ok (.aload_n 0, 1) := by decide +kernel
theorem dX5_join_8 : decode cX5_join 8 = .ok (.getfield 31, 3) := by decide +kernel
theorem dX5_join_11 : decode cX5_join 11 = .ok (.if_icmp .ge 16, 3) := by decide +kernel
theorem dX5_join_14 : decode cX5_join 14 = .ok (.aload_n 0, 1) := by decide +kernel
theorem dX5_join_15 : decode cX5_join 15 = .ok (.getfield 22, 3) := by decide +kernel
theorem dX5_join_18 : decode cX5_join 18 = .ok (.iload_n 2, 1) := by decide +kernel
theorem dX5_join_19 : decode cX5_join 19 = .ok (.iload_n 2, 1) := by decide +kernel
theorem dX5_join_20 : decode cX5_join 20 = .ok (.iastore, 1) := by decide +kernel
theorem dX5_join_21 : decode cX5_join 21 = .ok (.iinc 2 1, 3) := by decide +kernel
theorem dX5_join_24 : decode cX5_join 24 = .ok (.goto (-18), 3) := by decide +kernel
theorem dX5_join_27 : decode cX5_join 27 = .ok (.iconst 1, 1) := by decide +kernel
theorem dX5_join_28 : decode cX5_join 28 = .ok (.istore_n 2, 1) := by decide +kernel
theorem dX5_join_29 : decode cX5_join 29 = .ok (.iload_n 2, 1) := by decide +kernel
theorem dX5_join_30 : decode cX5_join 30 = .ok (.aload_n 0, 1) := by decide +kernel
theorem dX5_join_31 : decode cX5_join 31 = .ok (.getfield 31, 3) := by decide +kernel
theorem dX5_join_34 : decode cX5_join 34 = .ok (.if_icmp .ge 18, 3) := by decide +kernel
theorem dX5_join_37 : decode cX5_join 37 = .ok (.aload_n 0, 1) := by decide +kernel
theorem dX5_join_38 : decode cX5_join 38 = .ok (.iload_n 1, 1) := by decide +kernel
theorem dX5_join_39 : decode cX5_join 39 = .ok (.invokevirtual 50, 3) := by decide +kernel
theorem dX5_join_42 : decode cX5_join 42 = .ok (.ifCond .ne 4, 3) := by decide +kernel
theorem dX5_join_45 : decode cX5_join 45 = .ok (.return_, 1) := by decide +kernel
theorem dX5_join_46 : decode cX5_join 46 = .ok (.iinc 2 1, 3) := by decide +kernel
theorem dX5_join_49 : decode cX5_join 49 = .ok (.goto (-20), 3) := by decide +kernel
theorem dX5_join_52 : decode cX5_join 52 = .ok (.return_, 1) := by decide +kernel
theorem dX5_joinNearestTwo_0 : decode cX5_joinNearestTwo 0 = .ok (.iconst (-1), 1) := by decide +kernel
theorem dX5_joinNearestTwo_1 : decode cX5_joinNearestTwo 1 = .ok (.istore_n 2, 1) := by decide +kernel
theorem dX5_joinNearestTwo_2 : decode cX5_joinNearestTwo 2 = .ok (.iconst (-1), 1) := by decide +kernel
theorem dX5_joinNearestTwo_3 : decode cX5_joinNearestTwo 3 = .ok (.istore_n 3, 1) := by decide +kernel
theorem dX5_joinNearestTwo_4 : decode cX5_joinNearestTwo 4 = .ok (.iconst 0, 1) := by decide +kernel
theorem dX5_joinNearestTwo_5 : decode cX5_joinNearestTwo 5 = .ok (.istore 4, 2) := by decide +kernel
theorem dX5_joinNearestTwo_7 : decode cX5_joinNearestTwo 7 = .ok (.iconst 0, 1) := by decide +kernel
theorem dX5_joinNearestTwo_8 : decode cX5_joinNearestTwo 8 = .ok (.istore 5, 2) := by decide +kernel
theorem dX5_joinNearestTwo_10 : decode cX5_joinNearestTwo 10 = .ok (.iconst 0, 1) := by decide +kernel
theorem dX5_joinNearestTwo_11 : decode cX5_joinNearestTwo 11 = .ok (.istore 6, 2) := by decide +kernel
theorem dX5_joinNearestTwo_13 : decode cX5_joinNearestTwo 13 = .ok (.iload 6, 2) := by decide +kernel
theorem dX5_joinNearestTwo_15 : decode cX5_joinNearestTwo 15 = .ok (.aload_n 0, 1) := by decide +kernel
theorem dX5_joinNearestTwo_16 : decode cX5_joinNearestTwo 16 = .ok (.getfield 31, 3) := by decide +kernel
theorem dX5_joinNearestTwo_19 : decode cX5_joinNearestTwo 19 = .ok (.if_icmp .ge 135, 3) := by decide +kernel
theorem dX5_joinNearestTwo_22 : decode cX5_joinNearestTwo 22 = .ok (.iload 6, 2) := by decide +kernel
theorem dX5_joinNearestTwo_24 : decode cX5_joinNearestTwo 24 = .ok (.iconst 1, 1) := by decide +kernel
theorem dX5_joinNearestTwo_25 : decode cX5_joinNearestTwo 25 = .ok (.iadd, 1) := by decide +kernel
theorem dX5_joinNearestTwo_26 : decode cX5_joinNearestTwo 26 = .ok (.istore 7, 2) := by decide +kernel
theorem dX5_joinNearestTwo_28 : decode cX5_joinNearestTwo 28 = .ok (.iload 7, 2) := by decide +kernel
theorem dX5_joinNearestTwo_30 : decode cX5_joinNearestTwo 30 = .ok (.aload_n 0, 1) := by decide +kernel
theorem dX5_joinNearestTwo_31 : decode cX5_joinNearestTwo 31 = .ok (.getfield 31, 3) := by decide +kernel
theorem dX5_joinNearestTwo_34 : decode cX5_joinNearestTwo 34 = .ok (.if_icmp .ge 114, 3) := by decide +kernel
theorem dX5_joinNearestTwo_37 : decode cX5_joinNearestTwo 37 = .ok (.aload_n 0, 1) := by decide +kernel
theorem dX5_joinNearestTwo_38 : decode cX5_joinNearestTwo 38 = .ok (.iload 6, 2) := by decide +kernel
theorem dX5_joinNearestTwo_40 : decode cX5_joinNearestTwo 40 = .ok (.invokevirtual 54, 3) := by decide +kernel
theorem dX5_joinNearestTwo_43 : decode cX5_joinNearestTwo 43 = .ok (.ifCond .eq 99, 3) := by decide +kernel
theorem dX5_joinNearestTwo_46 : decode cX5_joinNearestTwo 46 = .ok (.aload_n 0, 1) := by decide +kernel
theorem dX5_joinNearestTwo_47 : decode cX5_joinNearestTwo 47 = .ok (.iload 7, 2) := by decide +kernel
theorem dX5_joinNearestTwo_49 : decode cX5_joinNearestTwo 49 = .ok (.invokevirtual 54, 3) := by decide +kernel
theorem dX5_joinNearestTwo_52 : decode cX5_joinNearestTwo 52 = .ok (.ifCond .eq 90, 3) := by decide +kernel
theorem dX5_joinNearestTwo_55 : decode cX5_joinNearestTwo 55 = .ok (.aload_n 0, 1) := by decide +kernel
theorem dX5_joinNearestTwo_56 : decode cX5_joinNearestTwo 56 = .ok (.iload 6, 2) := by decide +kernel
theorem dX5_joinNearestTwo_58 : decode cX5_joinNearestTwo 58 = .ok (.iload 7, 2) := by decide +kernel
theorem dX5_joinNearestTwo_60 : decode cX5_joinNearestTwo 60 = .ok (.invokevirtual 57, 3) := by decide +kernel
theorem dX5_joinNearestTwo_63 : decode cX5_joinNearestTwo 63 = .ok (.ifCond .ne 6, 3) := by decide +kernel
theorem dX5_joinNearestTwo_66 : decode cX5_joinNearestTwo 66 = .ok (.goto 76, 3) := by decide +kernel
theorem dX5_joinNearestTwo_69 : decode cX5_joinNearestTwo 69 = .ok (.iload_n 2, 1) := by decide +kernel
theorem dX5_joinNearestTwo_70 : decode cX5_joinNearestTwo 70 = .ok (.iconst (-1), 1) := by decide +kernel
theorem dX5_joinNearestTwo_71 : decode cX5_joinNearestTwo 71 = .ok (.if_icmp .ne 24, 3) := by decide +kernel
theorem dX5_joinNearestTwo_74 : decode cX5_joinNearestTwo 74 = .ok (.aload_n 0, 1) := by decide +kernel
theorem dX5_joinNearestTwo_75 : decode cX5_joinNearestTwo 75 = .ok (.getfield 35, 3) := by decide +kernel
theorem dX5_joinNearestTwo_78 : decode cX5_joinNearestTwo 78 = .ok (.iload_n 1, 1) := by decide +kernel
theorem dX5_joinNearestTwo_79 : decode cX5_joinNearestTwo 79 = .ok (.aload_n 0, 1) := by decide +kernel
theorem dX5_joinNearestTwo_80 : decode cX5_joinNearestTwo 80 = .ok (.getfield 38, 3) := by decide +kernel
theorem dX5_joinNearestTwo_83 : decode cX5_joinNearestTwo 83 = .ok (.imul, 1) := by decide +kernel
theorem dX5_joinNearestTwo_84 : decode cX5_joinNearestTwo 84 = .ok (.if_icmp .gt 7, 3) := by decide +kernel
theorem dX5_joinNearestTwo_87 : decode cX5_joinNearestTwo 87 = .ok (.iconst 1, 1) := by decide +kernel
theorem dX5_joinNearestTwo_88 : decode cX5_joinNearestTwo 88 = .ok (.goto 29, 3) := by decide +kernel
theorem dX5_joinNearestTwo_91 : decode cX5_joinNearestTwo 91 = .ok (.iconst 0, 1) := by decide +kernel
theorem dX5_joinNearestTwo_92 : decode cX5_joinNearestTwo 92 = .ok (.goto 25, 3) := by decide +kernel
theorem dX5_joinNearestTwo_95 : decode cX5_joinNearestTwo 95 = .ok (.aload_n 0, 1) := by decide +kernel
theorem dX5_joinNearestTwo_96 : decode cX5_joinNearestTwo 96 = .ok (.getfield 35, 3) := by decide +kernel
theorem dX5_joinNearestTwo_99 : decode cX5_joinNearestTwo 99 = .ok (.iload 5, 2) := by decide +kernel
theorem dX5_joinNearestTwo_101 : decode cX5_joinNearestTwo 101 = .ok (.imul, 1) := by decide +kernel
theorem dX5_joinNearestTwo_102 : decode cX5_joinNearestTwo 102 = .ok (.iload 4, 2) := by decide +kernel
theorem dX5_joinNearestTwo_104 : decode cX5_joinNearestTwo 104 = .ok (.aload_n 0, 1) := by decide +kernel
theorem dX5_joinNearestTwo_105 : decode cX5_joinNearestTwo 105 = .ok (.getfield 38, 3) := by decide +kernel
theorem dX5_joinNearestTwo_108 : decode cX5_joinNearestTwo 108 = .ok (.imul, 1) := by decide +kernel
theorem dX5_joinNearestTwo_109 : decode cX5_joinNearestTwo 109 = .ok (.if_icmp .ge 7, 3) := by decide +kernel
theorem dX5_joinNearestTwo_112 : decode cX5_joinNearestTwo 112 = .ok (.iconst 1, 1) := by decide +kernel
theorem dX5_joinNearestTwo_113 : decode cX5_joinNearestTwo 113 = .ok (.goto 4, 3) := by decide +kernel
theorem dX5_joinNearestTwo_116 : decode cX5_joinNearestTwo 116 = .ok (.iconst 0, 1) := by decide +kernel
theorem dX5_joinNearestTwo_117 : decode cX5_joinNearestTwo 117 = .ok (.istore 8, 2) := by decide +kernel
theorem dX5_joinNearestTwo_119 : decode cX5_joinNearestTwo 119 = .ok (.iload 8, 2) := by decide +kernel
theorem dX5_joinNearestTwo_121 : decode cX5_joinNearestTwo 121 = .ok (.ifCond .eq 21, 3) := by decide +kernel
theorem dX5_joinNearestTwo_124 : decode cX5_joinNearestTwo 124 = .ok (.iload 6, 2) := by decide +kernel
theorem dX5_joinNearestTwo_126 : decode cX5_joinNearestTwo 126 = .ok (.istore_n 2, 1) := by decide +kernel
theorem dX5_joinNearestTwo_127 : decode cX5_joinNearestTwo 127 = .ok (.iload 7, 2) := by decide +kernel
theorem dX5_joinNearestTwo_129 : decode cX5_joinNearestTwo 129 = .ok (.istore_n 3, 1) := by decide +kernel
theorem dX5_joinNearestTwo_130 : decode cX5_joinNearestTwo 130 = .ok (.aload_n 0, 1) := by decide +kernel
theorem dX5_joinNearestTwo_131 : decode cX5_joinNearestTwo 131 = .ok (.getfield 35, 3) := by decide +kernel
theorem dX5_joinNearestTwo_134 : decode cX5_joinNearestTwo 134 = .ok (.istore 4, 2) := by decide +kernel
theorem dX5_joinNearestTwo_136 : decode cX5_joinNearestTwo 136 = .ok (.aload_n 0, 1) := by decide +kernel
theorem dX5_joinNearestTwo_137 : decode cX5_joinNearestTwo 137 = .ok (.getfield 38, 3) := by decide +kernel
theorem dX5_joinNearestTwo_140 : decode cX5_joinNearestTwo 140 = .ok (.istore 5, 2) := by decide +kernel
theorem dX5_joinNearestTwo_142 : decode cX5_joinNearestTwo 142 = .ok (.iinc 7 1, 3) := by decide +kernel
theorem dX5_joinNearestTwo_145 : decode cX5_joinNearestTwo 145 = .ok (.goto (-117), 3) := by decide +kernel
theorem dX5_joinNearestTwo_148 : decode cX5_joinNearestTwo 148 = .ok (.iinc 6 1, 3) := by decide +kernel
theorem dX5_joinNearestTwo_151 : decode cX5_joinNearestTwo 151 = .ok (.goto (-138), 3) := by decide +kernel
theorem dX5_joinNearestTwo_154 : decode cX5_joinNearestTwo 154 = .ok (.iload_n 2, 1) := by decide +kernel
theorem dX5_joinNearestTwo_155 : decode cX5_joinNearestTwo 155 = .ok (.iconst (-1), 1) := by decide +kernel
theorem dX5_joinNearestTwo_156 : decode cX5_joinNearestTwo 156 = .ok (.if_icmp .ne 5, 3) := by decide +kernel
theorem dX5_joinNearestTwo_159 : decode cX5_joinNearestTwo 159 = .ok (.iconst 0, 1) := by decide +kernel
theorem dX5_joinNearestTwo_160 : decode cX5_joinNearestTwo 160 = .ok (.ireturn, 1) := by decide +kernel
theorem dX5_joinNearestTwo_161 : decode cX5_joinNearestTwo 161 = .ok (.aload_n 0, 1) := by decide +kernel
theorem dX5_joinNearestTwo_162 : decode cX5_joinNearestTwo 162 = .ok (.iload_n 2, 1) := by decide +kernel
theorem dX5_joinNearestTwo_163 : decode cX5_joinNearestTwo 163 = .ok (.iload_n 3, 1) := by decide +kernel
theorem dX5_joinNearestTwo_164 : decode cX5_joinNearestTwo 164 = .ok (.invokevirtual 61, 3) := by decide +kernel
theorem dX5_joinNearestTwo_167 : decode cX5_joinNearestTwo 167 = .ok (.iconst 1, 1) := by decide +kernel
theorem dX5_joinNearestTwo_168 : decode cX5_joinNearestTwo 168 = .ok (.ireturn, 1) := by decide +kernel
theorem dX5_isVoice_0 : decode cX5_isVoice 0 = .ok (.aload_n 0, 1) := by decide +kernel
theorem dX5_isVoice_1 : decode cX5_isVoice 1 = .ok (.getfield 22, 3) := by decide +kernel
theorem dX5_isVoice_4 : decode cX5_isVoice 4 = .ok (.iload_n 1, 1) := by decide +kernel
theorem dX5_isVoice_5 : decode cX5_isVoice 5 = .ok (.iaload, 1) := by decide +kernel
theorem dX5_isVoice_6 : decode cX5_isVoice 6 = .ok (.iload_n 1, 1) := by decide +kernel
theorem dX5_isVoice_7 : decode cX5_isVoice 7 = .ok (.if_icmp .ne 7, 3) := by decide +kernel
theorem dX5_isVoice_10 : decode cX5_isVoice 10 = .ok (.iconst 1, 1) := by decide +kernel
theorem dX5_isVoice_11 : decode cX5_isVoice 11 = .ok (.goto 4, 3) := by decide +kernel
theorem dX5_isVoice_14 : decode cX5_isVoice 14 = .ok (.iconst 0, 1) := by decide +kernel
theorem dX5_isVoice_15 : decode cX5_isVoice 15 = .ok (.ireturn, 1) := by decide +kernel
theorem dX5_measureCross_0 : decode cX5_measureCross 0 = .ok (.aload_n 0, 1) := by decide +kernel
theorem dX5_measureCross_1 : decode cX5_measureCross 1 = .ok (.iconst 0, 1) := by decide +kernel
theorem dX5_measureCross_2 : decode cX5_measureCross 2 = .ok (.putfield 35, 3) := by decide +kernel
theorem dX5_measureCross_5 : decode cX5_measureCross 5 = .ok (.aload_n 0, 1) := by decide +kernel
theorem dX5_measureCross_6 : decode cX5_measureCross 6 = .ok (.iconst 0, 1) := by decide +kernel
theorem dX5_measureCross_7 : decode cX5_measureCross 7 = .ok (.putfield 38, 3) := by decide +kernel
theorem dX5_measureCross_10 : decode cX5_measureCross 10 = .ok (.iconst 0, 1) := by decide +kernel
theorem dX5_measureCross_11 : decode cX5_measureCross 11 = .ok (.istore_n 3, 1) := by decide +kernel
theorem dX5_measureCross_12 : decode cX5_measureCross 12 = .ok (.iload_n 3, 1) := by decide +kernel
theorem dX5_measureCross_13 : decode cX5_measureCross 13 = .ok (.aload_n 0, 1) := by decide +kernel
theorem dX5_measureCross_14 : decode cX5_measureCross 14 = .ok (.getfield 31, 3) := by decide +kernel
theorem dX5_measureCross_17 : decode cX5_measureCross 17 = .ok (.if_icmp .ge 91, 3) := by decide +kernel
theorem dX5_measureCross_20 : decode cX5_measureCross 20 = .ok (.iconst 0, 1) := by decide +kernel
theorem dX5_measureCross_21 : decode cX5_measureCross 21 = .ok (.istore 4, 2) := by decide +kernel
theorem dX5_measureCross_23 : decode cX5_measureCross 23 = .ok (.iload 4, 2) := by decide +kernel
theorem dX5_measureCross_25 : decode cX5_measureCross 25 = .ok (.aload_n 0, 1) := by decide +kernel
theorem dX5_measureCross_26 : decode cX5_measureCross 26 = .ok (.getfield 31, 3) := by decide +kernel
theorem dX5_measureCross_29 : decode cX5_measureCross 29 = .ok (.if_icmp .ge 73, 3) := by decide +kernel
theorem dX5_measureCross_32 : decode cX5_measureCross 32 = .ok (.aload_n 0, 1) := by decide +kernel
theorem dX5_measureCross_33 : decode cX5_measureCross 33 = .ok (.getfield 22, 3) := by decide +kernel
theorem dX5_measureCross_36 : decode cX5_measureCross 36 = .ok (.iload_n 3, 1) := by decide +kernel
theorem dX5_measureCross_37 : decode cX5_measureCross 37 = .ok (.iaload, 1) := by decide +kernel
theorem dX5_measureCross_38 : decode cX5_measureCross 38 = .ok (.iload_n 1, 1) := by decide +kernel
theorem dX5_measureCross_39 : decode cX5_measureCross 39 = .ok (.if_icmp .ne 57, 3) := by decide +kernel
theorem dX5_measureCross_42 : decode cX5_measureCross 42 = .ok (.aload_n 0, 1) := by decide +kernel
theorem dX5_measureCross_43 : decode cX5_measureCross 43 = .ok (.getfield 22, 3) := by decide +kernel
theorem dX5_measureCross_46 : decode cX5_measureCross 46 = .ok (.iload 4, 2) := by decide +kernel
theorem dX5_measureCross_48 : decode cX5_measureCross 48 = .ok (.iaload, 1) := by decide +kernel
theorem dX5_measureCross_49 : decode cX5_measureCross 49 = .ok (.iload_n 2, 1) := by decide +kernel
theorem dX5_measureCross_50 : decode cX5_measureCross 50 = .ok (.if_icmp .ne 46, 3) := by decide +kernel
theorem dX5_measureCross_53 : decode cX5_measureCross 53 = .ok (.aload_n 0, 1) := by decide +kernel
theorem dX5_measureCross_54 : decode cX5_measureCross 54 = .ok (.getfield 19, 3) := by decide +kernel
theorem dX5_measureCross_57 : decode cX5_measureCross 57 = .ok (.iload_n 3, 1) := by decide +kernel
theorem dX5_measureCross_58 : decode cX5_measureCross 58 = .ok (.bipush 8, 2) := by decide +kernel
theorem dX5_measureCross_60 : decode cX5_measureCross 60 = .ok (.imul, 1) := by decide +kernel
theorem dX5_measureCross_61 : decode cX5_measureCross 61 = .ok (.iload 4, 2) := by decide +kernel
theorem dX5_measureCross_63 : decode cX5_measureCross 63 = .ok (.iadd, 1) := by decide +kernel
theorem dX5_measureCross_64 : decode cX5_measureCross 64 = .ok (.iaload, 1) := by decide +kernel
theorem dX5_measureCross_65 : decode cX5_measureCross 65 = .ok (.istore 5, 2) := by decide +kernel
theorem dX5_measureCross_67 : decode cX5_measureCross 67 = .ok (.iload 5, 2) := by decide +kernel
theorem dX5_measureCross_69 : decode cX5_measureCross 69 = .ok (.iconst (-1), 1) := by decide +kernel
theorem dX5_measureCross_70 : decode cX5_measureCross 70 = .ok (.if_icmp .ne 5, 3) := by decide +kernel
theorem dX5_measureCross_73 : decode cX5_measureCross 73 = .ok (.iconst 0, 1) := by decide +kernel
theorem dX5_measureCross_74 : decode cX5_measureCross 74 = .ok (.ireturn, 1) := by decide +kernel
theorem dX5_measureCross_75 : decode cX5_measureCross 75 = .ok (.aload_n 0, 1) := by decide +kernel
theorem dX5_measureCross_76 : decode cX5_measureCross 76 = .ok (.dup, 1) := by decide +kernel
theorem dX5_measureCross_77 : decode cX5_measureCross 77 = .ok (.getfield 35, 3) := by decide +kernel
theorem dX5_measureCross_80 : decode cX5_measureCross 80 = .ok (.iload 5, 2) := by decide +kernel
theorem dX5_measureCross_82 : decode cX5_measureCross 82 = .ok (.iadd, 1) := by decide +kernel
theorem dX5_measureCross_83 : decode cX5_measureCross 83 = .ok (.putfield 35, 3) := by decide +kernel
theorem dX5_measureCross_86 : decode cX5_measureCross 86 = .ok (.aload_n 0, 1) := by decide +kernel
theorem dX5_measureCross_87 : decode cX5_measureCross 87 = .ok (.dup, 1) := by decide +kernel
theorem dX5_measureCross_88 : decode cX5_measureCross 88 = .ok (.getfield 38, 3) := by decide +kernel
theorem dX5_measureCross_91 : decode cX5_measureCross 91 = .ok (.iconst 1, 1) := by decide +kernel
theorem dX5_measureCross_92 : decode cX5_measureCross 92 = .ok (.iadd, 1) := by decide +kernel
theorem dX5_measureCross_93 : decode cX5_measureCross 93 = .ok (.putfield 38, 3) := by decide +kernel
theorem dX5_measureCross_96 : decode cX5_measureCross 96 = .ok (.iinc 4 1, 3) := by decide +kernel
theorem dX5_measureCross_99 : decode cX5_measureCross 99 = .ok (.goto (-76), 3) := by decide +kernel
theorem dX5_measureCross_102 : decode cX5_measureCross 102 = .ok (.iinc 3 1, 3) := by decide +kernel
theorem dX5_measureCross_105 : decode cX5_measureCross 105 = .ok (.goto (-93), 3) := by decide +kernel
theorem dX5_measureCross_108 : decode cX5_measureCross 108 = .ok (.iconst 1, 1) := by decide +kernel
theorem dX5_measureCross_109 : decode cX5_measureCross 109 = .ok (.ireturn, 1) := by decide +kernel
theorem dX5_putTogether_0 : decode cX5_putTogether 0 = .ok (.iconst 0, 1) := by decide +kernel
theorem dX5_putTogether_1 : decode cX5_putTogether 1 = .ok (.istore_n 3, 1) := by decide +kernel
theorem dX5_putTogether_2 : decode cX5_putTogether 2 = .ok (.iload_n 3, 1) := by decide +kernel
theorem dX5_putTogether_3 : decode cX5_putTogether 3 = .ok (.aload_n 0, 1) := by decide +kernel
theorem dX5_putTogether_4 : decode cX5_putTogether 4 = .ok (.getfield 31, 3) := by decide +kernel
theorem dX5_putTogether_7 : decode cX5_putTogether 7 = .ok (.if_icmp .ge 26, 3) := by decide +kernel
theorem dX5_putTogether_10 : decode cX5_putTogether 10 = .ok (.aload_n 0, 1) := by decide +kernel
theorem dX5_putTogether_11 : decode cX5_putTogether 11 = .ok (.getfield 22, 3) := by decide +kernel
theorem dX5_putTogether_14 : decode cX5_putTogether 14 = .ok (.iload_n 3, 1) := by decide +kernel
theorem dX5_putTogether_15 : decode cX5_putTogether 15 = .ok (.iaload, 1) := by decide +kernel
theorem dX5_putTogether_16 : decode cX5_putTogether 16 = .ok (.iload_n 2, 1) := by decide +kernel
theorem dX5_putTogether_17 : decode cX5_putTogether 17 = .ok (.if_icmp .ne 10, 3) := by decide +kernel
theorem dX5_putTogether_20 : decode cX5_putTogether 20 = .ok (.aload_n 0, 1) := by decide +kernel
theorem dX5_putTogether_21 : decode cX5_putTogether 21 = .ok (.getfield 22, 3) := by decide +kernel
theorem dX5_putTogether_24 : decode cX5_putTogether 24 = .ok (.iload_n 3, 1) := by decide +kernel
theorem dX5_putTogether_25 : decode cX5_putTogether 25 = .ok (.iload_n 1, 1) := by decide +kernel
theorem dX5_putTogether_26 : decode cX5_putTogether 26 = .ok (.iastore, 1) := by decide +kernel
theorem dX5_putTogether_27 : decode cX5_putTogether 27 = .ok (.iinc 3 1, 3) := by decide +kernel
theorem dX5_putTogether_30 : decode cX5_putTogether 30 = .ok (.goto (-28), 3) := by decide +kernel
theorem dX5_putTogether_33 : decode cX5_putTogether 33 = .ok (.return_, 1) := by decide +kernel
theorem dX5_voiceAt_0 : decode cX5_voiceAt 0 = .ok (.aload_n 0, 1) := by decide +kernel
theorem dX5_voiceAt_1 : decode cX5_voiceAt 1 = .ok (.getfield 22, 3) := by decide +kernel
theorem dX5_voiceAt_4 : decode cX5_voiceAt 4 = .ok (.iload_n 1, 1) := by decide +kernel
theorem dX5_voiceAt_5 : decode cX5_voiceAt 5 = .ok (.iaload, 1) := by decide +kernel
theorem dX5_voiceAt_6 : decode cX5_voiceAt 6 = .ok (.ireturn, 1) := by decide +kernel
theorem dX5_countVoices_0 : decode cX5_countVoices 0 = .ok (.iconst 0, 1) := by decide +kernel
theorem dX5_countVoices_1 : decode cX5_countVoices 1 = .ok (.istore_n 1, 1) := by decide +kernel
theorem dX5_countVoices_2 : decode cX5_countVoices 2 = .ok (.iconst 0, 1) := by decide +kernel
theorem dX5_countVoices_3 : decode cX5_countVoices 3 = .ok (.istore_n 2, 1) := by decide +kernel
theorem dX5_countVoices_4 : decode cX5_countVoices 4 = .ok (.iload_n 2, 1) := by decide +kernel
theorem dX5_countVoices_5 : decode cX5_countVoices 5 = .ok (.aload_n 0, 1) := by decide +kernel
theorem dX5_countVoices_6 : decode cX5_countVoices 6 = .ok (.getfield 31, 3) := by decide +kernel
theorem dX5_countVoices_9 : decode cX5_countVoices 9 = .ok (.if_icmp .ge 20, 3) := by decide +kernel
theorem dX5_countVoices_12 : decode cX5_countVoices 12 = .ok (.aload_n 0, 1) := by decide +kernel
theorem dX5_countVoices_13 : decode cX5_countVoices 13 = .ok (.iload_n 2, 1) := by decide +kernel
theorem dX5_countVoices_14 : decode cX5_countVoices 14 = .ok (.invokevirtual 54, 3) := by decide +kernel
theorem dX5_countVoices_17 : decode cX5_countVoices 17 = .ok (.ifCond .eq 6, 3) := by decide +kernel
theorem dX5_countVoices_20 : decode cX5_countVoices 20 = .ok (.iinc 1 1, 3) := by decide +kernel
theorem dX5_countVoices_23 : decode cX5_countVoices 23 = .ok (.iinc 2 1, 3) := by decide +kernel
theorem dX5_countVoices_26 : decode cX5_countVoices 26 = .ok (.goto (-22), 3) := by decide +kernel
theorem dX5_countVoices_29 : decode cX5_countVoices 29 = .ok (.iload_n 1, 1) := by decide +kernel
theorem dX5_countVoices_30 : decode cX5_countVoices 30 = .ok (.ireturn, 1) := by decide +kernel
theorem dX5_leastCost_0 : decode cX5_leastCost 0 = .ok (.aload_n 0, 1) := by decide +kernel
theorem dX5_leastCost_1 : decode cX5_leastCost 1 = .ok (.invokevirtual 47, 3) := by decide +kernel
theorem dX5_leastCost_4 : decode cX5_leastCost 4 = .ok (.aload_n 0, 1) := by decide +kernel
theorem dX5_leastCost_5 : decode cX5_leastCost 5 = .ok (.getfield 25, 3) := by decide +kernel
theorem dX5_leastCost_8 : decode cX5_leastCost 8 = .ok (.iconst 0, 1) := by decide +kernel
theorem dX5_leastCost_9 : decode cX5_leastCost 9 = .ok (.iconst 0, 1) := by decide +kernel
theorem dX5_leastCost_10 : decode cX5_leastCost 10 = .ok (.iastore, 1) := by decide +kernel
theorem dX5_leastCost_11 : decode cX5_leastCost 11 = .ok (.aload_n 0, 1) := by decide +kernel
theorem dX5_leastCost_12 : decode cX5_leastCost 12 = .ok (.getfield 28, 3) := by decide +kernel
theorem dX5_leastCost_15 : decode cX5_leastCost 15 = .ok (.iconst 0, 1) := by decide +kernel
theorem dX5_leastCost_16 : decode cX5_leastCost 16 = .ok (.iconst 0, 1) := by decide +kernel
theorem dX5_leastCost_17 : decode cX5_leastCost 17 = .ok (.iastore, 1) := by decide +kernel
theorem dX5_leastCost_18 : decode cX5_leastCost 18 = .ok (.iconst 1, 1) := by decide +kernel
theorem dX5_leastCost_19 : decode cX5_leastCost 19 = .ok (.aload_n 0, 1) := by decide +kernel
theorem dX5_leastCost_20 : decode cX5_leastCost 20 = .ok (.getfield 31, 3) := by decide +kernel
theorem dX5_leastCost_23 : decode cX5_leastCost 23 = .ok (.ishl, 1) := by decide +kernel
theorem dX5_leastCost_24 : decode cX5_leastCost 24 = .ok (.iconst 1, 1) := by decide +kernel
theorem dX5_leastCost_25 : decode cX5_leastCost 25 = .ok (.isub, 1) := by decide +kernel
theorem dX5_leastCost_26 : decode cX5_leastCost 26 = .ok (.istore_n 2, 1) := by decide +kernel
theorem dX5_leastCost_27 : decode cX5_leastCost 27 = .ok (.iconst 1, 1) := by decide +kernel
theorem dX5_leastCost_28 : decode cX5_leastCost 28 = .ok (.istore_n 3, 1) := by decide +kernel
theorem dX5_leastCost_29 : decode cX5_leastCost 29 = .ok (.iload_n 3, 1) := by decide +kernel
theorem dX5_leastCost_30 : decode cX5_leastCost 30 = .ok (.iload_n 2, 1) := by decide +kernel
theorem dX5_leastCost_31 : decode cX5_leastCost 31 = .ok (.if_icmp .gt 32, 3) := by decide +kernel
theorem dX5_leastCost_34 : decode cX5_leastCost 34 = .ok (.aload_n 0, 1) := by decide +kernel
theorem dX5_leastCost_35 : decode cX5_leastCost 35 = .ok (.getfield 25, 3) := by decide +kernel
theorem dX5_leastCost_38 : decode cX5_leastCost 38 = .ok (.iload_n 3, 1) := by decide +kernel
theorem dX5_leastCost_39 : decode cX5_leastCost 39 = .ok (.aload_n 0, 1) := by decide +kernel
theorem dX5_leastCost_40 : decode cX5_leastCost 40 = .ok (.iload_n 3, 1) := by decide +kernel
theorem dX5_leastCost_41 : decode cX5_leastCost 41 = .ok (.invokevirtual 65, 3) := by decide +kernel
theorem dX5_leastCost_44 : decode cX5_leastCost 44 = .ok (.iastore, 1) := by decide +kernel
theorem dX5_leastCost_45 : decode cX5_leastCost 45 = .ok (.aload_n 0, 1) := by decide +kernel
theorem dX5_leastCost_46 : decode cX5_leastCost 46 = .ok (.getfield 28, 3) := by decide +kernel
theorem dX5_leastCost_49 : decode cX5_leastCost 49 = .ok (.iload_n 3, 1) := by decide +kernel
theorem dX5_leastCost_50 : decode cX5_leastCost 50 = .ok (.aload_n 0, 1) := by decide +kernel
theorem dX5_leastCost_51 : decode cX5_leastCost 51 = .ok (.iload_n 3, 1) := by decide +kernel
theorem dX5_leastCost_52 : decode cX5_leastCost 52 = .ok (.iload_n 1, 1) := by decide +kernel
theorem dX5_leastCost_53 : decode cX5_leastCost 53 = .ok (.invokevirtual 69, 3) := by decide +kernel
theorem dX5_leastCost_56 : decode cX5_leastCost 56 = .ok (.iastore, 1) := by decide +kernel
theorem dX5_leastCost_57 : decode cX5_leastCost 57 = .ok (.iinc 3 1, 3) := by decide +kernel
theorem dX5_leastCost_60 : decode cX5_leastCost 60 = .ok (.goto (-31), 3) := by decide +kernel
theorem dX5_leastCost_63 : decode cX5_leastCost 63 = .ok (.aload_n 0, 1) := by decide +kernel
theorem dX5_leastCost_64 : decode cX5_leastCost 64 = .ok (.getfield 28, 3) := by decide +kernel
theorem dX5_leastCost_67 : decode cX5_leastCost 67 = .ok (.iload_n 2, 1) := by decide +kernel
theorem dX5_leastCost_68 : decode cX5_leastCost 68 = .ok (.iaload, 1) := by decide +kernel
theorem dX5_leastCost_69 : decode cX5_leastCost 69 = .ok (.ireturn, 1) := by decide +kernel
theorem dX5_sumWithin_0 : decode cX5_sumWithin 0 = .ok (.iload_n 1, 1) := by decide +kernel
theorem dX5_sumWithin_1 : decode cX5_sumWithin 1 = .ok (.iload_n 1, 1) := by decide +kernel
theorem dX5_sumWithin_2 : decode cX5_sumWithin 2 = .ok (.iconst 1, 1) := by decide +kernel
theorem dX5_sumWithin_3 : decode cX5_sumWithin 3 = .ok (.isub, 1) := by decide +kernel
theorem dX5_sumWithin_4 : decode cX5_sumWithin 4 = .ok (.iand, 1) := by decide +kernel
theorem dX5_sumWithin_5 : decode cX5_sumWithin 5 = .ok (.istore_n 2, 1) := by decide +kernel
theorem dX5_sumWithin_6 : decode cX5_sumWithin 6 = .ok (.iload_n 1, 1) := by decide +kernel
theorem dX5_sumWithin_7 : decode cX5_sumWithin 7 = .ok (.invokestatic 72, 3) := by decide +kernel
theorem dX5_sumWithin_10 : decode cX5_sumWithin 10 = .ok (.istore_n 3, 1) := by decide +kernel
theorem dX5_sumWithin_11 : decode cX5_sumWithin 11 = .ok (.aload_n 0, 1) := by decide +kernel
theorem dX5_sumWithin_12 : decode cX5_sumWithin 12 = .ok (.getfield 25, 3) := by decide +kernel
theorem dX5_sumWithin_15 : decode cX5_sumWithin 15 = .ok (.iload_n 2, 1) := by decide +kernel
theorem dX5_sumWithin_16 : decode cX5_sumWithin 16 = .ok (.iaload, 1) := by decide +kernel
theorem dX5_sumWithin_17 : decode cX5_sumWithin 17 = .ok (.istore 4, 2) := by decide +kernel
theorem dX5_sumWithin_19 : decode cX5_sumWithin 19 = .ok (.iload 4, 2) := by decide +kernel
theorem dX5_sumWithin_21 : decode cX5_sumWithin 21 = .ok (.iconst (-1), 1) := by decide +kernel
theorem dX5_sumWithin_22 : decode cX5_sumWithin 22 = .ok (.if_icmp .ne 5, 3) := by decide +kernel
theorem dX5_sumWithin_25 : decode cX5_sumWithin 25 = .ok (.iconst (-1), 1) := by decide +kernel
theorem dX5_sumWithin_26 : decode cX5_sumWithin 26 = .ok (.ireturn, 1) := by decide +kernel
theorem dX5_sumWithin_27 : decode cX5_sumWithin 27 = .ok (.iload_n 3, 1) := by decide +kernel
theorem dX5_sumWithin_28 : decode cX5_sumWithin 28 = .ok (.iconst 1, 1) := by decide +kernel
theorem dX5_sumWithin_29 : decode cX5_sumWithin 29 = .ok (.iadd, 1) := by decide +kernel
theorem dX5_sumWithin_30 : decode cX5_sumWithin 30 = .ok (.istore 5, 2) := by decide +kernel
theorem dX5_sumWithin_32 : decode cX5_sumWithin 32 = .ok (.iload 5, 2) := by decide +kernel
theorem dX5_sumWithin_34 : decode cX5_sumWithin 34 = .ok (.aload_n 0, 1) := by decide +kernel
theorem dX5_sumWithin_35 : decode cX5_sumWithin 35 = .ok (.getfield 31, 3) := by decide +kernel
theorem dX5_sumWithin_38 : decode cX5_sumWithin 38 = .ok (.if_icmp .ge 48, 3) := by decide +kernel
theorem dX5_sumWithin_41 : decode cX5_sumWithin 41 = .ok (.iload_n 2, 1) := by decide +kernel
theorem dX5_sumWithin_42 : decode cX5_sumWithin 42 = .ok (.iload 5, 2) := by decide +kernel
theorem dX5_sumWithin_44 : decode cX5_sumWithin 44 = .ok (.ishr, 1) := by decide +kernel
theorem dX5_sumWithin_45 : decode cX5_sumWithin 45 = .ok (.iconst 1, 1) := by decide +kernel
theorem dX5_sumWithin_46 : decode cX5_sumWithin 46 = .ok (.iand, 1) := by decide +kernel
theorem dX5_sumWithin_47 : decode cX5_sumWithin 47 = .ok (.iconst 1, 1) := by decide +kernel
theorem dX5_sumWithin_48 : decode cX5_sumWithin 48 = .ok (.if_icmp .ne 32, 3) := by decide +kernel
theorem dX5_sumWithin_51 : decode cX5_sumWithin 51 = .ok (.aload_n 0, 1) := by decide +kernel
theorem dX5_sumWithin_52 : decode cX5_sumWithin 52 = .ok (.getfield 19, 3) := by decide +kernel
theorem dX5_sumWithin_55 : decode cX5_sumWithin 55 = .ok (.iload_n 3, 1) := by decide +kernel
theorem dX5_sumWithin_56 : decode cX5_sumWithin 56 = .ok (.bipush 8, 2) := by decide +kernel
theorem dX5_sumWithin_58 : decode cX5_sumWithin 58 = .ok (.imul, 1) := by decide +kernel
theorem dX5_sumWithin_59 : decode cX5_sumWithin 59 = .ok (.iload 5, 2) := by decide +kernel
theorem dX5_sumWithin_61 : decode cX5_sumWithin 61 = .ok (.iadd, 1) := by decide +kernel
theorem dX5_sumWithin_62 : decode cX5_sumWithin 62 = .ok (.iaload, 1) := by decide +kernel
theorem dX5_sumWithin_63 : decode cX5_sumWithin 63 = .ok (.istore 6, 2) := by decide +kernel
theorem dX5_sumWithin_65 : decode cX5_sumWithin 65 = .ok (.iload 6, 2) := by decide +kernel
theorem dX5_sumWithin_67 : decode cX5_sumWithin 67 = .ok (.iconst (-1), 1) := by decide +kernel
theorem dX5_sumWithin_68 : decode cX5_sumWithin 68 = .ok (.if_icmp .ne 5, 3) := by decide +kernel
theorem dX5_sumWithin_71 : decode cX5_sumWithin 71 = .ok (.iconst (-1), 1) := by decide +kernel
theorem dX5_sumWithin_72 : decode cX5_sumWithin 72 = .ok (.ireturn, 1) := by decide +kernel
theorem dX5_sumWithin_73 : decode cX5_sumWithin 73 = .ok (.iload 4, 2) := by decide +kernel
theorem dX5_sumWithin_75 : decode cX5_sumWithin 75 = .ok (.iload 6, 2) := by decide +kernel
theorem dX5_sumWithin_77 : decode cX5_sumWithin 77 = .ok (.iadd, 1) := by decide +kernel
theorem dX5_sumWithin_78 : decode cX5_sumWithin 78 = .ok (.istore 4, 2) := by decide +kernel
theorem dX5_sumWithin_80 : decode cX5_sumWithin 80 = .ok (.iinc 5 1, 3) := by decide +kernel
theorem dX5_sumWithin_83 : decode cX5_sumWithin 83 = .ok (.goto (-51), 3) := by decide +kernel
theorem dX5_sumWithin_86 : decode cX5_sumWithin 86 = .ok (.iload 4, 2) := by decide +kernel
theorem dX5_sumWithin_88 : decode cX5_sumWithin 88 = .ok (.ireturn, 1) := by decide +kernel
theorem dX5_leastOf_0 : decode cX5_leastOf 0 = .ok (.iload_n 1, 1) := by decide +kernel
theorem dX5_leastOf_1 : decode cX5_leastOf 1 = .ok (.iload_n 1, 1) := by decide +kernel
theorem dX5_leastOf_2 : decode cX5_leastOf 2 = .ok (.iconst 1, 1) := by decide +kernel
theorem dX5_leastOf_3 : decode cX5_leastOf 3 = .ok (.isub, 1) := by decide +kernel
theorem dX5_leastOf_4 : decode cX5_leastOf 4 = .ok (.iand, 1) := by decide +kernel
theorem dX5_leastOf_5 : decode cX5_leastOf 5 = .ok (.istore_n 3, 1) := by decide +kernel
theorem dX5_leastOf_6 : decode cX5_leastOf 6 = .ok (.iload_n 1, 1) := by decide +kernel
theorem dX5_leastOf_7 : decode cX5_leastOf 7 = .ok (.iload_n 3, 1) := by decide +kernel
theorem dX5_leastOf_8 : decode cX5_leastOf 8 = .ok (.ixor, 1) := by decide +kernel
theorem dX5_leastOf_9 : decode cX5_leastOf 9 = .ok (.istore 4, 2) := by decide +kernel
theorem dX5_leastOf_11 : decode cX5_leastOf 11 = .ok (.iload_n 2, 1) := by decide +kernel
theorem dX5_leastOf_12 : decode cX5_leastOf 12 = .ok (.aload_n 0, 1) := by decide +kernel
theorem dX5_leastOf_13 : decode cX5_leastOf 13 = .ok (.getfield 28, 3) := by decide +kernel
theorem dX5_leastOf_16 : decode cX5_leastOf 16 = .ok (.iload_n 3, 1) := by decide +kernel
theorem dX5_leastOf_17 : decode cX5_leastOf 17 = .ok (.iaload, 1) := by decide +kernel
theorem dX5_leastOf_18 : decode cX5_leastOf 18 = .ok (.iadd, 1) := by decide +kernel
theorem dX5_leastOf_19 : decode cX5_leastOf 19 = .ok (.istore 5, 2) := by decide +kernel
theorem dX5_leastOf_21 : decode cX5_leastOf 21 = .ok (.iload_n 3, 1) := by decide +kernel
theorem dX5_leastOf_22 : decode cX5_leastOf 22 = .ok (.istore 6, 2) := by decide +kernel
theorem dX5_leastOf_24 : decode cX5_leastOf 24 = .ok (.iload 6, 2) := by decide +kernel
theorem dX5_leastOf_26 : decode cX5_leastOf 26 = .ok (.ifCond .le 53, 3) := by decide +kernel
theorem dX5_leastOf_29 : decode cX5_leastOf 29 = .ok (.aload_n 0, 1) := by decide +kernel
theorem dX5_leastOf_30 : decode cX5_leastOf 30 = .ok (.getfield 25, 3) := by decide +kernel
theorem dX5_leastOf_33 : decode cX5_leastOf 33 = .ok (.iload 6, 2) := by decide +kernel
theorem dX5_leastOf_35 : decode cX5_leastOf 35 = .ok (.iload 4, 2) := by decide +kernel
theorem dX5_leastOf_37 : decode cX5_leastOf 37 = .ok (.ior, 1) := by decide +kernel
theorem dX5_leastOf_38 : decode cX5_leastOf 38 = .ok (.iaload, 1) := by decide +kernel
theorem dX5_leastOf_39 : decode cX5_leastOf 39 = .ok (.istore 7, 2) := by decide +kernel
theorem dX5_leastOf_41 : decode cX5_leastOf 41 = .ok (.iload 7, 2) := by decide +kernel
theorem dX5_leastOf_43 : decode cX5_leastOf 43 = .ok (.iconst (-1), 1) := by decide +kernel
theorem dX5_leastOf_44 : decode cX5_leastOf 44 = .ok (.if_icmp .eq 24, 3) := by decide +kernel
theorem dX5_leastOf_47 : decode cX5_leastOf 47 = .ok (.iload 5, 2) := by decide +kernel
theorem dX5_leastOf_49 : decode cX5_leastOf 49 = .ok (.iload 7, 2) := by decide +kernel
theorem dX5_leastOf_51 : decode cX5_leastOf 51 = .ok (.iload_n 2, 1) := by decide +kernel
theorem dX5_leastOf_52 : decode cX5_leastOf 52 = .ok (.iadd, 1) := by decide +kernel
theorem dX5_leastOf_53 : decode cX5_leastOf 53 = .ok (.aload_n 0, 1) := by decide +kernel
theorem dX5_leastOf_54 : decode cX5_leastOf 54 = .ok (.getfield 28, 3) := by decide +kernel
theorem dX5_leastOf_57 : decode cX5_leastOf 57 = .ok (.iload_n 3, 1) := by decide +kernel
theorem dX5_leastOf_58 : decode cX5_leastOf 58 = .ok (.iload 6, 2) := by decide +kernel
theorem dX5_leastOf_60 : decode cX5_leastOf 60 = .ok (.ixor, 1) := by decide +kernel
theorem dX5_leastOf_61 : decode cX5_leastOf 61 = .ok (.iaload, 1) := by decide +kernel
theorem dX5_leastOf_62 : decode cX5_leastOf 62 = .ok (.iadd, 1) := by decide +kernel
theorem dX5_leastOf_63 : decode cX5_leastOf 63 = .ok (.invokestatic 77, 3) := by decide +kernel
theorem dX5_leastOf_66 : decode cX5_leastOf 66 = .ok (.istore 5, 2) := by decide +kernel
theorem dX5_leastOf_68 : decode cX5_leastOf 68 = .ok (.iload 6, 2) := by decide +kernel
theorem dX5_leastOf_70 : decode cX5_leastOf 70 = .ok (.iconst 1, 1) := by decide +kernel
theorem dX5_leastOf_71 : decode cX5_leastOf 71 = .ok (.isub, 1) := by decide +kernel
theorem dX5_leastOf_72 : decode cX5_leastOf 72 = .ok (.iload_n 3, 1) := by decide +kernel
theorem dX5_leastOf_73 : decode cX5_leastOf 73 = .ok (.iand, 1) := by decide +kernel
theorem dX5_leastOf_74 : decode cX5_leastOf 74 = .ok (.istore 6, 2) := by decide +kernel
theorem dX5_leastOf_76 : decode cX5_leastOf 76 = .ok (.goto (-52), 3) := by decide +kernel
theorem dX5_leastOf_79 : decode cX5_leastOf 79 = .ok (.iload 5, 2) := by decide +kernel
theorem dX5_leastOf_81 : decode cX5_leastOf 81 = .ok (.ireturn, 1) := by decide +kernel
theorem dX6_init_0 : decode cX6_init 0 = .ok (.aload_n 0, 1) := by decide +kernel
theorem dX6_init_1 : decode cX6_init 1 = .ok (.invokespecial 3, 3) := by decide +kernel
theorem dX6_init_4 : decode cX6_init 4 = .ok (.aload_n 0, 1) := by decide +kernel
theorem dX6_init_5 : decode cX6_init 5 = .ok (.aload_n 1, 1) := by decide +kernel
theorem dX6_init_6 : decode cX6_init 6 = .ok (.putfield 9, 3) := by decide +kernel
theorem dX6_init_9 : decode cX6_init 9 = .ok (.aload_n 0, 1) := by decide +kernel
theorem dX6_init_10 : decode cX6_init 10 = .ok (.bipush 24, 2) := by decide +kernel
theorem dX6_init_12 : decode cX6_init 12 = .ok (.newarray .int, 2) := by decide +kernel
theorem dX6_init_14 : decode cX6_init 14 = .ok (.putfield 15, 3) := by decide +kernel
theorem dX6_init_17 : decode cX6_init 17 = .ok (.aload_n 0, 1) := by decide +kernel
theorem dX6_init_18 : decode cX6_init 18 = .ok (.bipush 24, 2) := by decide +kernel
theorem dX6_init_20 : decode cX6_init 20 = .ok (.newarray .int, 2) := by decide +kernel
theorem dX6_init_22 : decode cX6_init 22 = .ok (.putfield 19, 3) := by decide +kernel
theorem dX6_init_25 : decode cX6_init 25 = .ok (.aload_n 0, 1) := by decide +kernel
theorem dX6_init_26 : decode cX6_init 26 = .ok (.bipush 24, 2) := by decide +kernel
theorem dX6_init_28 : decode cX6_init 28 = .ok (.newarray .int, 2) := by decide +kernel
theorem dX6_init_30 : decode cX6_init 30 = .ok (.putfield 22, 3) := by decide +kernel
theorem dX6_init_33 : decode cX6_init 33 = .ok (.return_, 1) := by decide +kernel
theorem dX6_measureAll_0 : decode cX6_measureAll 0 = .ok (.iconst 0, 1) := by decide +kernel
theorem dX6_measureAll_1 : decode cX6_measureAll 1 = .ok (.istore_n 1, 1) := by decide +kernel
theorem dX6_measureAll_2 : decode cX6_measureAll 2 = .ok (.iload_n 1, 1) := by decide +kernel
theorem dX6_measureAll_3 : decode cX6_measureAll 3 = .ok (.bipush 6, 2) := by decide +kernel
theorem dX6_measureAll_5 : decode cX6_measureAll 5 = .ok (.if_icmp .ge 14, 3) := by decide +kernel
theorem dX6_measureAll_8 : decode cX6_measureAll 8 = .ok (.aload_n 0, 1) := by decide +kernel
theorem dX6_measureAll_9 : decode cX6_measureAll 9 = .ok (.iload_n 1, 1) := by decide +kernel
theorem dX6_measureAll_10 : decode cX6_measureAll 10 = .ok (.invokevirtual 25, 3) := by decide +kernel
theorem dX6_measureAll_13 : decode cX6_measureAll 13 = .ok (.iinc 1 1, 3) := by decide +kernel
theorem dX6_measureAll_16 : decode cX6_measureAll 16 = .ok (.goto (-14), 3) := by decide +kernel
theorem dX6_measureAll_19 : decode cX6_measureAll 19 = .ok (.return_, 1) := by decide +kernel
theorem dX6_measure_0 : decode cX6_measure 0 = .ok (.iconst 1, 1) := by decide +kernel
theorem dX6_measure_1 : decode cX6_measure 1 = .ok (.istore_n 2, 1) := by decide +kernel
theorem dX6_measure_2 : decode cX6_measure 2 = .ok (.iload_n 2, 1) := by decide +kernel
theorem dX6_measure_3 : decode cX6_measure 3 = .ok (.iconst 4, 1) := by decide +kernel
theorem dX6_measure_4 : decode cX6_measure 4 = .ok (.if_icmp .ge 33, 3) := by decide +kernel
theorem dX6_measure_7 : decode cX6_measure 7 = .ok (.aload_n 0, 1) := by decide +kernel
theorem dX6_measure_8 : decode cX6_measure 8 = .ok (.getfield 15, 3) := by decide +kernel
theorem dX6_measure_11 : decode cX6_measure 11 = .ok (.iload_n 2, 1) := by decide +kernel
theorem dX6_measure_12 : decode cX6_measure 12 = .ok (.bipush 6, 2) := by decide +kernel
theorem dX6_measure_14 : decode cX6_measure 14 = .ok (.imul, 1) := by decide +kernel
theorem dX6_measure_15 : decode cX6_measure 15 = .ok (.iload_n 1, 1) := by decide +kernel
theorem dX6_measure_16 : decode cX6_measure 16 = .ok (.iadd, 1) := by decide +kernel
theorem dX6_measure_17 : decode cX6_measure 17 = .ok (.iconst 0, 1) := by decide +kernel
theorem dX6_measure_18 : decode cX6_measure 18 = .ok (.iastore, 1) := by decide +kernel
theorem dX6_measure_19 : decode cX6_measure 19 = .ok (.aload_n 0, 1) := by decide +kernel
theorem dX6_measure_20 : decode cX6_measure 20 = .ok (.getfield 19, 3) := by decide +kernel
theorem dX6_measure_23 : decode cX6_measure 23 = .ok (.iload_n 2, 1) := by decide +kernel
theorem dX6_measure_24 : decode cX6_measure 24 = .ok (.bipush 6, 2) := by decide +kernel
theorem dX6_measure_26 : decode cX6_measure 26 = .ok (.imul, 1) := by decide +kernel
theorem dX6_measure_27 : decode cX6_measure 27 = .ok (.iload_n 1, 1) := by decide +kernel
theorem dX6_measure_28 : decode cX6_measure 28 = .ok (.iadd, 1) := by decide +kernel
theorem dX6_measure_29 : decode cX6_measure 29 = .ok (.iconst 0, 1) := by decide +kernel
theorem dX6_measure_30 : decode cX6_measure 30 = .ok (.iastore, 1) := by decide +kernel
theorem dX6_measure_31 : decode cX6_measure 31 = .ok (.iinc 2 1, 3) := by decide +kernel
theorem dX6_measure_34 : decode cX6_measure 34 = .ok (.goto (-32), 3) := by decide +kernel
theorem dX6_measure_37 : decode cX6_measure 37 = .ok (.iconst 0, 1) := by decide +kernel
theorem dX6_measure_38 : decode cX6_measure 38 = .ok (.istore_n 2, 1) := by decide +kernel
theorem dX6_measure_39 : decode cX6_measure 39 = .ok (.iload_n 2, 1) := by decide +kernel
theorem dX6_measure_40 : decode cX6_measure 40 = .ok (.aload_n 0, 1) := by decide +kernel
theorem dX6_measure_41 : decode cX6_measure 41 = .ok (.getfield 9, 3) := by decide +kernel
theorem dX6_measure_44 : decode cX6_measure 44 = .ok (.invokevirtual 29, 3) := by decide +kernel
theorem dX6_measure_47 : decode cX6_measure 47 = .ok (.if_icmp .ge 50, 3) := by decide +kernel
theorem dX6_measure_50 : decode cX6_measure 50 = .ok (.aload_n 0, 1) := by decide +kernel
theorem dX6_measure_51 : decode cX6_measure 51 = .ok (.getfield 9, 3) := by decide +kernel
theorem dX6_measure_54 : decode cX6_measure 54 = .ok (.iload_n 2, 1) := by decide +kernel
theorem dX6_measure_55 : decode cX6_measure 55 = .ok (.invokevirtual 35, 3) := by decide +kernel
theorem dX6_measure_58 : decode cX6_measure 58 = .ok (.ifCond .eq 33, 3) := by decide +kernel
theorem dX6_measure_61 : decode cX6_measure 61 = .ok (.aload_n 0, 1) := by decide +kernel
theorem dX6_measure_62 : decode cX6_measure 62 = .ok (.getfield 9, 3) := by decide +kernel
theorem dX6_measure_65 : decode cX6_measure 65 = .ok (.iload_n 2, 1) := by decide +kernel
theorem dX6_measure_66 : decode cX6_measure 66 = .ok (.invokevirtual 39, 3) := by decide +kernel
theorem dX6_measure_69 : decode cX6_measure 69 = .ok (.ifCond .eq 22, 3) := by decide +kernel
theorem dX6_measure_72 : decode cX6_measure 72 = .ok (.aload_n 0, 1) := by decide +kernel
theorem dX6_measure_73 : decode cX6_measure 73 = .ok (.getfield 9, 3) := by decide +kernel
theorem dX6_measure_76 : decode cX6_measure 76 = .ok (.iload_n 2, 1) := by decide +kernel
theorem dX6_measure_77 : decode cX6_measure 77 = .ok (.iload_n 1, 1) := by decide +kernel
theorem dX6_measure_78 : decode cX6_measure 78 = .ok (.invokevirtual 43, 3) := by decide +kernel
theorem dX6_measure_81 : decode cX6_measure 81 = .ok (.iconst (-1), 1) := by decide +kernel
theorem dX6_measure_82 : decode cX6_measure 82 = .ok (.if_icmp .eq 9, 3) := by decide +kernel
theorem dX6_measure_85 : decode cX6_measure 85 = .ok (.aload_n 0, 1) := by decide +kernel
theorem dX6_measure_86 : decode cX6_measure 86 = .ok (.iload_n 2, 1) := by decide +kernel
theorem dX6_measure_87 : decode cX6_measure 87 = .ok (.iload_n 1, 1) := by decide +kernel
theorem dX6_measure_88 : decode cX6_measure 88 = .ok (.invokevirtual 47, 3) := by decide +kernel
theorem dX6_measure_91 : decode cX6_measure 91 = .ok (.iinc 2 1, 3) := by decide +kernel
theorem dX6_measure_94 : decode cX6_measure 94 = .ok (.goto (-55), 3) := by decide +kernel
theorem dX6_measure_97 : decode cX6_measure 97 = .ok (.iconst 1, 1) := by decide +kernel
theorem dX6_measure_98 : decode cX6_measure 98 = .ok (.istore_n 2, 1) := by decide +kernel
theorem dX6_measure_99 : decode cX6_measure 99 = .ok (.iload_n 2, 1) := by decide +kernel
theorem dX6_measure_100 : decode cX6_measure 100 = .ok (.iconst 4, 1) := by decide +kernel
theorem dX6_measure_101 : decode cX6_measure 101 = .ok (.if_icmp .ge 50, 3) := by decide +kernel
theorem dX6_measure_104 : decode cX6_measure 104 = .ok (.iload_n 2, 1) := by decide +kernel
theorem dX6_measure_105 : decode cX6_measure 105 = .ok (.bipush 6, 2) := by decide +kernel
theorem dX6_measure_107 : decode cX6_measure 107 = .ok (.imul, 1) := by decide +kernel
theorem dX6_measure_108 : decode cX6_measure 108 = .ok (.iload_n 1, 1) := by decide +kernel
theorem dX6_measure_109 : decode cX6_measure 109 = .ok (.iadd, 1) := by decide +kernel
theorem dX6_measure_110 : decode cX6_measure 110 = .ok (.istore_n 3, 1) := by decide +kernel
theorem dX6_measure_111 : decode cX6_measure 111 = .ok (.aload_n 0, 1) := by decide +kernel
theorem dX6_measure_112 : decode cX6_measure 112 = .ok (.getfield 22, 3) := by decide +kernel
theorem dX6_measure_115 : decode cX6_measure 115 = .ok (.iload_n 3, 1) := by decide +kernel
theorem dX6_measure_116 : decode cX6_measure 116 = .ok (.aload_n 0, 1) := by decide +kernel
theorem dX6_measure_117 : decode cX6_measure 117 = .ok (.getfield 19, 3) := by decide +kernel
theorem dX6_measure_120 : decode cX6_measure 120 = .ok (.iload_n 3, 1) := by decide +kernel
theorem dX6_measure_121 : decode cX6_measure 121 = .ok (.iaload, 1) := by decide +kernel
theorem dX6_measure_122 : decode cX6_measure 122 = .ok (.ifCond .ne 7, 3) := by decide +kernel
theorem dX6_measure_125 : decode cX6_measure 125 = .ok (.iconst 0, 1) := by decide +kernel
theorem dX6_measure_126 : decode cX6_measure 126 = .ok (.goto 18, 3) := by decide +kernel
theorem dX6_measure_129 : decode cX6_measure 129 = .ok (.aload_n 0, 1) := by decide +kernel
theorem dX6_measure_130 : decode cX6_measure 130 = .ok (.getfield 15, 3) := by decide +kernel
theorem dX6_measure_133 : decode cX6_measure 133 = .ok (.iload_n 3, 1) := by decide +kernel
theorem dX6_measure_134 : decode cX6_measure 134 = .ok (.iaload, 1) := by decide +kernel
theorem dX6_measure_135 : decode cX6_measure 135 = .ok (.aload_n 0, 1) := by decide +kernel
theorem dX6_measure_136 : decode cX6_measure 136 = .ok (.getfield 19, 3) := by decide +kernel
theorem dX6_measure_139 : decode cX6_measure 139 = .ok (.iload_n 3, 1) := by decide +kernel
theorem dX6_measure_140 : decode cX6_measure 140 = .ok (.iaload, 1) := by decide +kernel
theorem dX6_measure_141 : decode cX6_measure 141 = .ok (.invokestatic 51, 3) := by decide +kernel
theorem dX6_measure_144 : decode cX6_measure 144 = .ok (.iastore, 1) := by decide +kernel
theorem dX6_measure_145 : decode cX6_measure 145 = .ok (.iinc 2 1, 3) := by decide +kernel
theorem dX6_measure_148 : decode cX6_measure 148 = .ok (.goto (-49), 3) := by decide +kernel
theorem dX6_measure_151 : decode cX6_measure 151 = .ok (.return_, 1) := by decide +kernel
theorem dX6_addPairsOf_0 : decode cX6_addPairsOf 0 = .ok (.aload_n 0, 1) := by decide +kernel
theorem dX6_addPairsOf_1 : decode cX6_addPairsOf 1 = .ok (.getfield 9, 3) := by decide +kernel
theorem dX6_addPairsOf_4 : decode cX6_addPairsOf 4 = .ok (.iload_n 1, 1) := by decide +kernel
theorem dX6_addPairsOf_5 : decode cX6_addPairsOf 5 = .ok (.invokevirtual 35, 3) := by decide +kernel
theorem dX6_addPairsOf_8 : decode cX6_addPairsOf 8 = .ok (.bipush 6, 2) := by decide +kernel
theorem dX6_addPairsOf_10 : decode cX6_addPairsOf 10 = .ok (.imul, 1) := by decide +kernel
theorem dX6_addPairsOf_11 : decode cX6_addPairsOf 11 = .ok (.iload_n 2, 1) := by decide +kernel
theorem dX6_addPairsOf_12 : decode cX6_addPairsOf 12 = .ok (.iadd, 1) := by decide +kernel
theorem dX6_addPairsOf_13 : decode cX6_addPairsOf 13 = .ok (.istore_n 3, 1) := by decide +kernel
theorem dX6_addPairsOf_14 : decode cX6_addPairsOf 14 = .ok (.iconst 0, 1) := by decide +kernel
theorem dX6_addPairsOf_15 : decode cX6_addPairsOf 15 = .ok (.istore 4, 2) := by decide +kernel
theorem dX6_addPairsOf_17 : decode cX6_addPairsOf 17 = .ok (.iload 4, 2) := by decide +kernel
theorem dX6_addPairsOf_19 : decode cX6_addPairsOf 19 = .ok (.aload_n 0, 1) := by decide +kernel
theorem dX6_addPairsOf_20 : decode cX6_addPairsOf 20 = .ok (.getfield 9, 3) := by decide +kernel
theorem dX6_addPairsOf_23 : decode cX6_addPairsOf 23 = .ok (.invokevirtual 29, 3) := by decide +kernel
theorem dX6_addPairsOf_26 : decode cX6_addPairsOf 26 = .ok (.if_icmp .ge 106, 3) := by decide +kernel
theorem dX6_addPairsOf_29 : decode cX6_addPairsOf 29 = .ok (.aload_n 0, 1) := by decide +kernel
theorem dX6_addPairsOf_30 : decode cX6_addPairsOf 30 = .ok (.getfield 9, 3) := by decide +kernel
theorem dX6_addPairsOf_33 : decode cX6_addPairsOf 33 = .ok (.iload 4, 2) := by decide +kernel
theorem dX6_addPairsOf_35 : decode cX6_addPairsOf 35 = .ok (.invokevirtual 35, 3) := by decide +kernel
theorem dX6_addPairsOf_38 : decode cX6_addPairsOf 38 = .ok (.ifCond .ne 27, 3) := by decide +kernel
theorem dX6_addPairsOf_41 : decode cX6_addPairsOf 41 = .ok (.aload_n 0, 1) := by decide +kernel
theorem dX6_addPairsOf_42 : decode cX6_addPairsOf 42 = .ok (.getfield 9, 3) := by decide +kernel
theorem dX6_addPairsOf_45 : decode cX6_addPairsOf 45 = .ok (.iload 4, 2) := by decide +kernel
theorem dX6_addPairsOf_47 : decode cX6_addPairsOf 47 = .ok (.invokevirtual 56, 3) := by decide +kernel
theorem dX6_addPairsOf_50 : decode cX6_addPairsOf 50 = .ok (.aload_n 0, 1) := by decide +kernel
theorem dX6_addPairsOf_51 : decode cX6_addPairsOf 51 = .ok (.getfield 9, 3) := by decide +kernel
theorem dX6_addPairsOf_54 : decode cX6_addPairsOf 54 = .ok (.iload_n 1, 1) := by decide +kernel
theorem dX6_addPairsOf_55 : decode cX6_addPairsOf 55 = .ok (.invokevirtual 56, 3) := by decide +kernel
theorem dX6_addPairsOf_58 : decode cX6_addPairsOf 58 = .ok (.if_icmp .ne 7, 3) := by decide +kernel
theorem dX6_addPairsOf_61 : decode cX6_addPairsOf 61 = .ok (.iconst 1, 1) := by decide +kernel
theorem dX6_addPairsOf_62 : decode cX6_addPairsOf 62 = .ok (.goto 4, 3) := by decide +kernel
theorem dX6_addPairsOf_65 : decode cX6_addPairsOf 65 = .ok (.iconst 0, 1) := by decide +kernel
theorem dX6_addPairsOf_66 : decode cX6_addPairsOf 66 = .ok (.istore 5, 2) := by decide +kernel
theorem dX6_addPairsOf_68 : decode cX6_addPairsOf 68 = .ok (.iload 5, 2) := by decide +kernel
theorem dX6_addPairsOf_70 : decode cX6_addPairsOf 70 = .ok (.ifCond .eq 56, 3) := by decide +kernel
theorem dX6_addPairsOf_73 : decode cX6_addPairsOf 73 = .ok (.aload_n 0, 1) := by decide +kernel
theorem dX6_addPairsOf_74 : decode cX6_addPairsOf 74 = .ok (.getfield 9, 3) := by decide +kernel
theorem dX6_addPairsOf_77 : decode cX6_addPairsOf 77 = .ok (.iload 4, 2) := by decide +kernel
theorem dX6_addPairsOf_79 : decode cX6_addPairsOf 79 = .ok (.iload_n 2, 1) := by decide +kernel
theorem dX6_addPairsOf_80 : decode cX6_addPairsOf 80 = .ok (.invokevirtual 43, 3) := by decide +kernel
theorem dX6_addPairsOf_83 : decode cX6_addPairsOf 83 = .ok (.iconst (-1), 1) := by decide +kernel
theorem dX6_addPairsOf_84 : decode cX6_addPairsOf 84 = .ok (.if_icmp .eq 42, 3) := by decide +kernel
theorem dX6_addPairsOf_87 : decode cX6_addPairsOf 87 = .ok (.aload_n 0, 1) := by decide +kernel
theorem dX6_addPairsOf_88 : decode cX6_addPairsOf 88 = .ok (.getfield 15, 3) := by decide +kernel
theorem dX6_addPairsOf_91 : decode cX6_addPairsOf 91 = .ok (.iload_n 3, 1) := by decide +kernel
theorem dX6_addPairsOf_92 : decode cX6_addPairsOf 92 = .ok (.dup2, 1) := by decide +kernel
theorem dX6_addPairsOf_93 : decode cX6_addPairsOf 93 = .ok (.iaload, 1) := by decide +kernel
theorem dX6_addPairsOf_94 : decode cX6_addPairsOf 94 = .ok (.aload_n 0, 1) := by decide +kernel
theorem dX6_addPairsOf_95 : decode cX6_addPairsOf 95 = .ok (.getfield 9, 3) := by decide +kernel
theorem dX6_addPairsOf_98 : decode cX6_addPairsOf 98 = .ok (.iload_n 1, 1) := by decide +kernel
theorem dX6_addPairsOf_99 : decode cX6_addPairsOf 99 = .ok (.iload_n 2, 1) := by decide +kernel
theorem dX6_addPairsOf_100 : decode cX6_addPairsOf 100 = .ok (.invokevirtual 43, 3) := by decide +kernel
theorem dX6_addPairsOf_103 : decode cX6_addPairsOf 103 = .ok (.aload_n 0, 1) := by decide +kernel
theorem dX6_addPairsOf_104 : decode cX6_addPairsOf 104 = .ok (.getfield 9, 3) := by decide +kernel
theorem dX6_addPairsOf_107 : decode cX6_addPairsOf 107 = .ok (.iload 4, 2) := by decide +kernel
theorem dX6_addPairsOf_109 : decode cX6_addPairsOf 109 = .ok (.iload_n 2, 1) := by decide +kernel
theorem dX6_addPairsOf_110 : decode cX6_addPairsOf 110 = .ok (.invokevirtual 43, 3) := by decide +kernel
theorem dX6_addPairsOf_113 : decode cX6_addPairsOf 113 = .ok (.isub, 1) := by decide +kernel
theorem dX6_addPairsOf_114 : decode cX6_addPairsOf 114 = .ok (.iadd, 1) := by decide +kernel
theorem dX6_addPairsOf_115 : decode cX6_addPairsOf 115 = .ok (.iastore, 1) := by decide +kernel
theorem dX6_addPairsOf_116 : decode cX6_addPairsOf 116 = .ok (.aload_n 0, 1) := by decide +kernel
theorem dX6_addPairsOf_117 : decode cX6_addPairsOf 117 = .ok (.getfield 19, 3) := by decide +kernel
theorem dX6_addPairsOf_120 : decode cX6_addPairsOf 120 = .ok (.iload_n 3, 1) := by decide +kernel
theorem dX6_addPairsOf_121 : decode cX6_addPairsOf 121 = .ok (.dup2, 1) := by decide +kernel
theorem dX6_addPairsOf_122 : decode cX6_addPairsOf 122 = .ok (.iaload, 1) := by decide +kernel
theorem dX6_addPairsOf_123 : decode cX6_addPairsOf 123 = .ok (.iconst 1, 1) := by decide +kernel
theorem dX6_addPairsOf_124 : decode cX6_addPairsOf 124 = .ok (.iadd, 1) := by decide +kernel
theorem dX6_addPairsOf_125 : decode cX6_addPairsOf 125 = .ok (.iastore, 1) := by decide +kernel
theorem dX6_addPairsOf_126 : decode cX6_addPairsOf 126 = .ok (.iinc 4 1, 3) := by decide +kernel
theorem dX6_addPairsOf_129 : decode cX6_addPairsOf 129 = .ok (.goto (-112), 3) := by decide +kernel
theorem dX6_addPairsOf_132 : decode cX6_addPairsOf 132 = .ok (.return_, 1) := by decide +kernel
theorem dX6_at_0 : decode cX6_at 0 = .ok (.aload_n 0, 1) := by decide +kernel
theorem dX6_at_1 : decode cX6_at 1 = .ok (.getfield 22, 3) := by decide +kernel
theorem dX6_at_4 : decode cX6_at 4 = .ok (.iload_n 1, 1) := by decide +kernel
theorem dX6_at_5 : decode cX6_at 5 = .ok (.bipush 6, 2) := by decide +kernel
theorem dX6_at_7 : decode cX6_at 7 = .ok (.imul, 1) := by decide +kernel
theorem dX6_at_8 : decode cX6_at 8 = .ok (.iload_n 2, 1) := by decide +kernel
theorem dX6_at_9 : decode cX6_at 9 = .ok (.iadd, 1) := by decide +kernel
theorem dX6_at_10 : decode cX6_at 10 = .ok (.iaload, 1) := by decide +kernel
theorem dX6_at_11 : decode cX6_at 11 = .ok (.ireturn, 1) := by decide +kernel
theorem dX6_isUnheard_0 : decode cX6_isUnheard 0 = .ok (.iload_n 1, 1) := by decide +kernel
theorem dX6_isUnheard_1 : decode cX6_isUnheard 1 = .ok (.ifCond .eq 21, 3) := by decide +kernel
theorem dX6_isUnheard_4 : decode cX6_isUnheard 4 = .ok (.aload_n 0, 1) := by decide +kernel
theorem dX6_isUnheard_5 : decode cX6_isUnheard 5 = .ok (.getfield 19, 3) := by decide +kernel
theorem dX6_isUnheard_8 : decode cX6_isUnheard 8 = .ok (.iload_n 1, 1) := by decide +kernel
theorem dX6_isUnheard_9 : decode cX6_isUnheard 9 = .ok (.bipush 6, 2) := by decide +kernel
theorem dX6_isUnheard_11 : decode cX6_isUnheard 11 = .ok (.imul, 1) := by decide +kernel
theorem dX6_isUnheard_12 : decode cX6_isUnheard 12 = .ok (.iload_n 2, 1) := by decide +kernel
theorem dX6_isUnheard_13 : decode cX6_isUnheard 13 = .ok (.iadd, 1) := by decide +kernel
theorem dX6_isUnheard_14 : decode cX6_isUnheard 14 = .ok (.iaload, 1) := by decide +kernel
theorem dX6_isUnheard_15 : decode cX6_isUnheard 15 = .ok (.ifCond .ne 7, 3) := by decide +kernel
theorem dX6_isUnheard_18 : decode cX6_isUnheard 18 = .ok (.iconst 1, 1) := by decide +kernel
theorem dX6_isUnheard_19 : decode cX6_isUnheard 19 = .ok (.goto 4, 3) := by decide +kernel
theorem dX6_isUnheard_22 : decode cX6_isUnheard 22 = .ok (.iconst 0, 1) := by decide +kernel
theorem dX6_isUnheard_23 : decode cX6_isUnheard 23 = .ok (.ireturn, 1) := by decide +kernel
theorem dJ6_numberOfTrailingZeros_0f7a4_0 : decode cJ6_numberOfTrailingZeros_0f7a4 0 = .ok (.iload_n 0, 1) := by decide +kernel
theorem dJ6_numberOfTrailingZeros_0f7a4_1 : decode cJ6_numberOfTrailingZeros_0f7a4 1 = .ok (.iconst (-1), 1) := by decide +kernel
theorem dJ6_numberOfTrailingZeros_0f7a4_2 : decode cJ6_numberOfTrailingZeros_0f7a4 2 = .ok (.ixor, 1) := by decide +kernel
theorem dJ6_numberOfTrailingZeros_0f7a4_3 : decode cJ6_numberOfTrailingZeros_0f7a4 3 = .ok (.iload_n 0, 1) := by decide +kernel
theorem dJ6_numberOfTrailingZeros_0f7a4_4 : decode cJ6_numberOfTrailingZeros_0f7a4 4 = .ok (.iconst 1, 1) := by decide +kernel
theorem dJ6_numberOfTrailingZeros_0f7a4_5 : decode cJ6_numberOfTrailingZeros_0f7a4 5 = .ok (.isub, 1) := by decide +kernel
theorem dJ6_numberOfTrailingZeros_0f7a4_6 : decode cJ6_numberOfTrailingZeros_0f7a4 6 = .ok (.iand, 1) := by decide +kernel
theorem dJ6_numberOfTrailingZeros_0f7a4_7 : decode cJ6_numberOfTrailingZeros_0f7a4 7 = .ok (.istore_n 0, 1) := by decide +kernel
theorem dJ6_numberOfTrailingZeros_0f7a4_8 : decode cJ6_numberOfTrailingZeros_0f7a4 8 = .ok (.iload_n 0, 1) := by decide +kernel
theorem dJ6_numberOfTrailingZeros_0f7a4_9 : decode cJ6_numberOfTrailingZeros_0f7a4 9 = .ok (.ifCond .gt 8, 3) := by decide +kernel
theorem dJ6_numberOfTrailingZeros_0f7a4_12 : decode cJ6_numberOfTrailingZeros_0f7a4 12 = .ok (.iload_n 0, 1) := by decide +kernel
theorem dJ6_numberOfTrailingZeros_0f7a4_13 : decode cJ6_numberOfTrailingZeros_0f7a4 13 = .ok (.bipush 32, 2) := by decide +kernel
theorem dJ6_numberOfTrailingZeros_0f7a4_15 : decode cJ6_numberOfTrailingZeros_0f7a4 15 = .ok (.iand, 1) := by decide +kernel
theorem dJ6_numberOfTrailingZeros_0f7a4_16 : decode cJ6_numberOfTrailingZeros_0f7a4 16 = .ok (.ireturn, 1) := by decide +kernel
theorem dJ6_numberOfTrailingZeros_0f7a4_17 : decode cJ6_numberOfTrailingZeros_0f7a4 17 = .ok (.iconst 1, 1) := by decide +kernel
theorem dJ6_numberOfTrailingZeros_0f7a4_18 : decode cJ6_numberOfTrailingZeros_0f7a4 18 = .ok (.istore_n 1, 1) := by decide +kernel
theorem dJ6_numberOfTrailingZeros_0f7a4_19 : decode cJ6_numberOfTrailingZeros_0f7a4 19 = .ok (.iload_n 0, 1) := by decide +kernel
theorem dJ6_numberOfTrailingZeros_0f7a4_20 : decode cJ6_numberOfTrailingZeros_0f7a4 20 = .ok (.ldc_w 264, 3) := by decide +kernel
theorem dJ6_numberOfTrailingZeros_0f7a4_23 : decode cJ6_numberOfTrailingZeros_0f7a4 23 = .ok (.if_icmp .le 11, 3) := by decide +kernel
theorem dJ6_numberOfTrailingZeros_0f7a4_26 : decode cJ6_numberOfTrailingZeros_0f7a4 26 = .ok (.iinc 1 16, 3) := by decide +kernel
theorem dJ6_numberOfTrailingZeros_0f7a4_29 : decode cJ6_numberOfTrailingZeros_0f7a4 29 = .ok (.iload_n 0, 1) := by decide +kernel
theorem dJ6_numberOfTrailingZeros_0f7a4_30 : decode cJ6_numberOfTrailingZeros_0f7a4 30 = .ok (.bipush 16, 2) := by decide +kernel
theorem dJ6_numberOfTrailingZeros_0f7a4_32 : decode cJ6_numberOfTrailingZeros_0f7a4 32 = .ok (.iushr, 1) := by decide +kernel
theorem dJ6_numberOfTrailingZeros_0f7a4_33 : decode cJ6_numberOfTrailingZeros_0f7a4 33 = .ok (.istore_n 0, 1) := by decide +kernel
theorem dJ6_numberOfTrailingZeros_0f7a4_34 : decode cJ6_numberOfTrailingZeros_0f7a4 34 = .ok (.iload_n 0, 1) := by decide +kernel
theorem dJ6_numberOfTrailingZeros_0f7a4_35 : decode cJ6_numberOfTrailingZeros_0f7a4 35 = .ok (.sipush 256, 3) := by decide +kernel
theorem dJ6_numberOfTrailingZeros_0f7a4_38 : decode cJ6_numberOfTrailingZeros_0f7a4 38 = .ok (.if_icmp .le 11, 3) := by decide +kernel
theorem dJ6_numberOfTrailingZeros_0f7a4_41 : decode cJ6_numberOfTrailingZeros_0f7a4 41 = .ok (.iinc 1 8, 3) := by decide +kernel
theorem dJ6_numberOfTrailingZeros_0f7a4_44 : decode cJ6_numberOfTrailingZeros_0f7a4 44 = .ok (.iload_n 0, 1) := by decide +kernel
theorem dJ6_numberOfTrailingZeros_0f7a4_45 : decode cJ6_numberOfTrailingZeros_0f7a4 45 = .ok (.bipush 8, 2) := by decide +kernel
theorem dJ6_numberOfTrailingZeros_0f7a4_47 : decode cJ6_numberOfTrailingZeros_0f7a4 47 = .ok (.iushr, 1) := by decide +kernel
theorem dJ6_numberOfTrailingZeros_0f7a4_48 : decode cJ6_numberOfTrailingZeros_0f7a4 48 = .ok (.istore_n 0, 1) := by decide +kernel
theorem dJ6_numberOfTrailingZeros_0f7a4_49 : decode cJ6_numberOfTrailingZeros_0f7a4 49 = .ok (.iload_n 0, 1) := by decide +kernel
theorem dJ6_numberOfTrailingZeros_0f7a4_50 : decode cJ6_numberOfTrailingZeros_0f7a4 50 = .ok (.bipush 16, 2) := by decide +kernel
theorem dJ6_numberOfTrailingZeros_0f7a4_52 : decode cJ6_numberOfTrailingZeros_0f7a4 52 = .ok (.if_icmp .le 10, 3) := by decide +kernel
theorem dJ6_numberOfTrailingZeros_0f7a4_55 : decode cJ6_numberOfTrailingZeros_0f7a4 55 = .ok (.iinc 1 4, 3) := by decide +kernel
theorem dJ6_numberOfTrailingZeros_0f7a4_58 : decode cJ6_numberOfTrailingZeros_0f7a4 58 = .ok (.iload_n 0, 1) := by decide +kernel
theorem dJ6_numberOfTrailingZeros_0f7a4_59 : decode cJ6_numberOfTrailingZeros_0f7a4 59 = .ok (.iconst 4, 1) := by decide +kernel
theorem dJ6_numberOfTrailingZeros_0f7a4_60 : decode cJ6_numberOfTrailingZeros_0f7a4 60 = .ok (.iushr, 1) := by decide +kernel
theorem dJ6_numberOfTrailingZeros_0f7a4_61 : decode cJ6_numberOfTrailingZeros_0f7a4 61 = .ok (.istore_n 0, 1) := by decide +kernel
theorem dJ6_numberOfTrailingZeros_0f7a4_62 : decode cJ6_numberOfTrailingZeros_0f7a4 62 = .ok (.iload_n 0, 1) := by decide +kernel
theorem dJ6_numberOfTrailingZeros_0f7a4_63 : decode cJ6_numberOfTrailingZeros_0f7a4 63 = .ok (.iconst 4, 1) := by decide +kernel
theorem dJ6_numberOfTrailingZeros_0f7a4_64 : decode cJ6_numberOfTrailingZeros_0f7a4 64 = .ok (.if_icmp .le 10, 3) := by decide +kernel
theorem dJ6_numberOfTrailingZeros_0f7a4_67 : decode cJ6_numberOfTrailingZeros_0f7a4 67 = .ok (.iinc 1 2, 3) := by decide +kernel
theorem dJ6_numberOfTrailingZeros_0f7a4_70 : decode cJ6_numberOfTrailingZeros_0f7a4 70 = .ok (.iload_n 0, 1) := by decide +kernel
theorem dJ6_numberOfTrailingZeros_0f7a4_71 : decode cJ6_numberOfTrailingZeros_0f7a4 71 = .ok (.iconst 2, 1) := by decide +kernel
theorem dJ6_numberOfTrailingZeros_0f7a4_72 : decode cJ6_numberOfTrailingZeros_0f7a4 72 = .ok (.iushr, 1) := by decide +kernel
theorem dJ6_numberOfTrailingZeros_0f7a4_73 : decode cJ6_numberOfTrailingZeros_0f7a4 73 = .ok (.istore_n 0, 1) := by decide +kernel
theorem dJ6_numberOfTrailingZeros_0f7a4_74 : decode cJ6_numberOfTrailingZeros_0f7a4 74 = .ok (.iload_n 1, 1) := by decide +kernel
theorem dJ6_numberOfTrailingZeros_0f7a4_75 : decode cJ6_numberOfTrailingZeros_0f7a4 75 = .ok (.iload_n 0, 1) := by decide +kernel
theorem dJ6_numberOfTrailingZeros_0f7a4_76 : decode cJ6_numberOfTrailingZeros_0f7a4 76 = .ok (.iconst 1, 1) := by decide +kernel
theorem dJ6_numberOfTrailingZeros_0f7a4_77 : decode cJ6_numberOfTrailingZeros_0f7a4 77 = .ok (.iushr, 1) := by decide +kernel
theorem dJ6_numberOfTrailingZeros_0f7a4_78 : decode cJ6_numberOfTrailingZeros_0f7a4 78 = .ok (.iadd, 1) := by decide +kernel
theorem dJ6_numberOfTrailingZeros_0f7a4_79 : decode cJ6_numberOfTrailingZeros_0f7a4 79 = .ok (.ireturn, 1) := by decide +kernel
theorem dJ6_bitCount_0f7a4_0 : decode cJ6_bitCount_0f7a4 0 = .ok (.iload_n 0, 1) := by decide +kernel
theorem dJ6_bitCount_0f7a4_1 : decode cJ6_bitCount_0f7a4 1 = .ok (.iload_n 0, 1) := by decide +kernel
theorem dJ6_bitCount_0f7a4_2 : decode cJ6_bitCount_0f7a4 2 = .ok (.iconst 1, 1) := by decide +kernel
theorem dJ6_bitCount_0f7a4_3 : decode cJ6_bitCount_0f7a4 3 = .ok (.iushr, 1) := by decide +kernel
theorem dJ6_bitCount_0f7a4_4 : decode cJ6_bitCount_0f7a4 4 = .ok (.ldc_w 265, 3) := by decide +kernel
theorem dJ6_bitCount_0f7a4_7 : decode cJ6_bitCount_0f7a4 7 = .ok (.iand, 1) := by decide +kernel
theorem dJ6_bitCount_0f7a4_8 : decode cJ6_bitCount_0f7a4 8 = .ok (.isub, 1) := by decide +kernel
theorem dJ6_bitCount_0f7a4_9 : decode cJ6_bitCount_0f7a4 9 = .ok (.istore_n 0, 1) := by decide +kernel
theorem dJ6_bitCount_0f7a4_10 : decode cJ6_bitCount_0f7a4 10 = .ok (.iload_n 0, 1) := by decide +kernel
theorem dJ6_bitCount_0f7a4_11 : decode cJ6_bitCount_0f7a4 11 = .ok (.ldc_w 266, 3) := by decide +kernel
theorem dJ6_bitCount_0f7a4_14 : decode cJ6_bitCount_0f7a4 14 = .ok (.iand, 1) := by decide +kernel
theorem dJ6_bitCount_0f7a4_15 : decode cJ6_bitCount_0f7a4 15 = .ok (.iload_n 0, 1) := by decide +kernel
theorem dJ6_bitCount_0f7a4_16 : decode cJ6_bitCount_0f7a4 16 = .ok (.iconst 2, 1) := by decide +kernel
theorem dJ6_bitCount_0f7a4_17 : decode cJ6_bitCount_0f7a4 17 = .ok (.iushr, 1) := by decide +kernel
theorem dJ6_bitCount_0f7a4_18 : decode cJ6_bitCount_0f7a4 18 = .ok (.ldc_w 266, 3) := by decide +kernel
theorem dJ6_bitCount_0f7a4_21 : decode cJ6_bitCount_0f7a4 21 = .ok (.iand, 1) := by decide +kernel
theorem dJ6_bitCount_0f7a4_22 : decode cJ6_bitCount_0f7a4 22 = .ok (.iadd, 1) := by decide +kernel
theorem dJ6_bitCount_0f7a4_23 : decode cJ6_bitCount_0f7a4 23 = .ok (.istore_n 0, 1) := by decide +kernel
theorem dJ6_bitCount_0f7a4_24 : decode cJ6_bitCount_0f7a4 24 = .ok (.iload_n 0, 1) := by decide +kernel
theorem dJ6_bitCount_0f7a4_25 : decode cJ6_bitCount_0f7a4 25 = .ok (.iload_n 0, 1) := by decide +kernel
theorem dJ6_bitCount_0f7a4_26 : decode cJ6_bitCount_0f7a4 26 = .ok (.iconst 4, 1) := by decide +kernel
theorem dJ6_bitCount_0f7a4_27 : decode cJ6_bitCount_0f7a4 27 = .ok (.iushr, 1) := by decide +kernel
theorem dJ6_bitCount_0f7a4_28 : decode cJ6_bitCount_0f7a4 28 = .ok (.iadd, 1) := by decide +kernel
theorem dJ6_bitCount_0f7a4_29 : decode cJ6_bitCount_0f7a4 29 = .ok (.ldc_w 267, 3) := by decide +kernel
theorem dJ6_bitCount_0f7a4_32 : decode cJ6_bitCount_0f7a4 32 = .ok (.iand, 1) := by decide +kernel
theorem dJ6_bitCount_0f7a4_33 : decode cJ6_bitCount_0f7a4 33 = .ok (.istore_n 0, 1) := by decide +kernel
theorem dJ6_bitCount_0f7a4_34 : decode cJ6_bitCount_0f7a4 34 = .ok (.iload_n 0, 1) := by decide +kernel
theorem dJ6_bitCount_0f7a4_35 : decode cJ6_bitCount_0f7a4 35 = .ok (.iload_n 0, 1) := by decide +kernel
theorem dJ6_bitCount_0f7a4_36 : decode cJ6_bitCount_0f7a4 36 = .ok (.bipush 8, 2) := by decide +kernel
theorem dJ6_bitCount_0f7a4_38 : decode cJ6_bitCount_0f7a4 38 = .ok (.iushr, 1) := by decide +kernel
theorem dJ6_bitCount_0f7a4_39 : decode cJ6_bitCount_0f7a4 39 = .ok (.iadd, 1) := by decide +kernel
theorem dJ6_bitCount_0f7a4_40 : decode cJ6_bitCount_0f7a4 40 = .ok (.istore_n 0, 1) := by decide +kernel
theorem dJ6_bitCount_0f7a4_41 : decode cJ6_bitCount_0f7a4 41 = .ok (.iload_n 0, 1) := by decide +kernel
theorem dJ6_bitCount_0f7a4_42 : decode cJ6_bitCount_0f7a4 42 = .ok (.iload_n 0, 1) := by decide +kernel
theorem dJ6_bitCount_0f7a4_43 : decode cJ6_bitCount_0f7a4 43 = .ok (.bipush 16, 2) := by decide +kernel
theorem dJ6_bitCount_0f7a4_45 : decode cJ6_bitCount_0f7a4 45 = .ok (.iushr, 1) := by decide +kernel
theorem dJ6_bitCount_0f7a4_46 : decode cJ6_bitCount_0f7a4 46 = .ok (.iadd, 1) := by decide +kernel
theorem dJ6_bitCount_0f7a4_47 : decode cJ6_bitCount_0f7a4 47 = .ok (.istore_n 0, 1) := by decide +kernel
theorem dJ6_bitCount_0f7a4_48 : decode cJ6_bitCount_0f7a4 48 = .ok (.iload_n 0, 1) := by decide +kernel
theorem dJ6_bitCount_0f7a4_49 : decode cJ6_bitCount_0f7a4 49 = .ok (.bipush 63, 2) := by decide +kernel
theorem dJ6_bitCount_0f7a4_51 : decode cJ6_bitCount_0f7a4 51 = .ok (.iand, 1) := by decide +kernel
theorem dJ6_bitCount_0f7a4_52 : decode cJ6_bitCount_0f7a4 52 = .ok (.ireturn, 1) := by decide +kernel
theorem dJ9_floorDiv_7cf53_0 : decode cJ9_floorDiv_7cf53 0 = .ok (.iload_n 0, 1) := by decide +kernel
theorem dJ9_floorDiv_7cf53_1 : decode cJ9_floorDiv_7cf53 1 = .ok (.iload_n 1, 1) := by decide +kernel
theorem dJ9_floorDiv_7cf53_2 : decode cJ9_floorDiv_7cf53 2 = .ok (.idiv, 1) := by decide +kernel
theorem dJ9_floorDiv_7cf53_3 : decode cJ9_floorDiv_7cf53 3 = .ok (.istore_n 2, 1) := by decide +kernel
theorem dJ9_floorDiv_7cf53_4 : decode cJ9_floorDiv_7cf53 4 = .ok (.iload_n 0, 1) := by decide +kernel
theorem dJ9_floorDiv_7cf53_5 : decode cJ9_floorDiv_7cf53 5 = .ok (.iload_n 1, 1) := by decide +kernel
theorem dJ9_floorDiv_7cf53_6 : decode cJ9_floorDiv_7cf53 6 = .ok (.ixor, 1) := by decide +kernel
theorem dJ9_floorDiv_7cf53_7 : decode cJ9_floorDiv_7cf53 7 = .ok (.ifCond .ge 14, 3) := by decide +kernel
theorem dJ9_floorDiv_7cf53_10 : decode cJ9_floorDiv_7cf53 10 = .ok (.iload_n 2, 1) := by decide +kernel
theorem dJ9_floorDiv_7cf53_11 : decode cJ9_floorDiv_7cf53 11 = .ok (.iload_n 1, 1) := by decide +kernel
theorem dJ9_floorDiv_7cf53_12 : decode cJ9_floorDiv_7cf53 12 = .ok (.imul, 1) := by decide +kernel
theorem dJ9_floorDiv_7cf53_13 : decode cJ9_floorDiv_7cf53 13 = .ok (.iload_n 0, 1) := by decide +kernel
theorem dJ9_floorDiv_7cf53_14 : decode cJ9_floorDiv_7cf53 14 = .ok (.if_icmp .eq 7, 3) := by decide +kernel
theorem dJ9_floorDiv_7cf53_17 : decode cJ9_floorDiv_7cf53 17 = .ok (.iload_n 2, 1) := by decide +kernel
theorem dJ9_floorDiv_7cf53_18 : decode cJ9_floorDiv_7cf53 18 = .ok (.iconst 1, 1) := by decide +kernel
theorem dJ9_floorDiv_7cf53_19 : decode cJ9_floorDiv_7cf53 19 = .ok (.isub, 1) := by decide +kernel
theorem dJ9_floorDiv_7cf53_20 : decode cJ9_floorDiv_7cf53 20 = .ok (.ireturn, 1) := by decide +kernel
theorem dJ9_floorDiv_7cf53_21 : decode cJ9_floorDiv_7cf53 21 = .ok (.iload_n 2, 1) := by decide +kernel
theorem dJ9_floorDiv_7cf53_22 : decode cJ9_floorDiv_7cf53 22 = .ok (.ireturn, 1) := by decide +kernel
theorem dJ9_abs_0f7a4_0 : decode cJ9_abs_0f7a4 0 = .ok (.iload_n 0, 1) := by decide +kernel
theorem dJ9_abs_0f7a4_1 : decode cJ9_abs_0f7a4 1 = .ok (.ifCond .ge 8, 3) := by decide +kernel
theorem dJ9_abs_0f7a4_4 : decode cJ9_abs_0f7a4 4 = .ok (.iload_n 0, 1) := by decide +kernel
theorem dJ9_abs_0f7a4_5 : decode cJ9_abs_0f7a4 5 = .ok (.ineg, 1) := by decide +kernel
theorem dJ9_abs_0f7a4_6 : decode cJ9_abs_0f7a4 6 = .ok (.goto 4, 3) := by decide +kernel
theorem dJ9_abs_0f7a4_9 : decode cJ9_abs_0f7a4 9 = .ok (.iload_n 0, 1) := by decide +kernel
theorem dJ9_abs_0f7a4_10 : decode cJ9_abs_0f7a4 10 = .ok (.ireturn, 1) := by decide +kernel
theorem dJ9_min_7cf53_0 : decode cJ9_min_7cf53 0 = .ok (.iload_n 0, 1) := by decide +kernel
theorem dJ9_min_7cf53_1 : decode cJ9_min_7cf53 1 = .ok (.iload_n 1, 1) := by decide +kernel
theorem dJ9_min_7cf53_2 : decode cJ9_min_7cf53 2 = .ok (.if_icmp .gt 7, 3) := by decide +kernel
theorem dJ9_min_7cf53_5 : decode cJ9_min_7cf53 5 = .ok (.iload_n 0, 1) := by decide +kernel
theorem dJ9_min_7cf53_6 : decode cJ9_min_7cf53 6 = .ok (.goto 4, 3) := by decide +kernel
theorem dJ9_min_7cf53_9 : decode cJ9_min_7cf53 9 = .ok (.iload_n 1, 1) := by decide +kernel
theorem dJ9_min_7cf53_10 : decode cJ9_min_7cf53 10 = .ok (.ireturn, 1) := by decide +kernel
theorem dJ7_fill_53178_0 : decode cJ7_fill_53178 0 = .ok (.iconst 0, 1) := by decide +kernel
theorem dJ7_fill_53178_1 : decode cJ7_fill_53178 1 = .ok (.istore_n 2, 1) := by decide +kernel
theorem dJ7_fill_53178_2 : decode cJ7_fill_53178 2 = .ok (.aload_n 0, 1) := by decide +kernel
theorem dJ7_fill_53178_3 : decode cJ7_fill_53178 3 = .ok (.arraylength, 1) := by decide +kernel
theorem dJ7_fill_53178_4 : decode cJ7_fill_53178 4 = .ok (.istore_n 3, 1) := by decide +kernel
theorem dJ7_fill_53178_5 : decode cJ7_fill_53178 5 = .ok (.iload_n 2, 1) := by decide +kernel
theorem dJ7_fill_53178_6 : decode cJ7_fill_53178 6 = .ok (.iload_n 3, 1) := by decide +kernel
theorem dJ7_fill_53178_7 : decode cJ7_fill_53178 7 = .ok (.if_icmp .ge 13, 3) := by decide +kernel
theorem dJ7_fill_53178_10 : decode cJ7_fill_53178 10 = .ok (.aload_n 0, 1) := by decide +kernel
theorem dJ7_fill_53178_11 : decode cJ7_fill_53178 11 = .ok (.iload_n 2, 1) := by decide +kernel
theorem dJ7_fill_53178_12 : decode cJ7_fill_53178 12 = .ok (.iload_n 1, 1) := by decide +kernel
theorem dJ7_fill_53178_13 : decode cJ7_fill_53178 13 = .ok (.iastore, 1) := by decide +kernel
theorem dJ7_fill_53178_14 : decode cJ7_fill_53178 14 = .ok (.iinc 2 1, 3) := by decide +kernel
theorem dJ7_fill_53178_17 : decode cJ7_fill_53178 17 = .ok (.goto (-12), 3) := by decide +kernel
theorem dJ7_fill_53178_20 : decode cJ7_fill_53178 20 = .ok (.return_, 1) := by decide +kernel
