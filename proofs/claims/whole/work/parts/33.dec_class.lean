/-! Instructions, by javap -/
theorem d_HD_init_0 : decode b_HD_init 0 = .ok (.aload_n 0, 1) := by decide +kernel
theorem d_HD_init_1 : decode b_HD_init 1 = .ok (.invokespecial 1, 3) := by decide +kernel
theorem d_HD_init_4 : decode b_HD_init 4 = .ok (.iconst 1, 1) := by decide +kernel
theorem d_HD_init_5 : decode b_HD_init 5 = .ok (.iconst 3, 1) := by decide +kernel
theorem d_HD_init_6 : decode b_HD_init 6 = .ok (.iload_n 2, 1) := by decide +kernel
theorem d_HD_init_7 : decode b_HD_init 7 = .ok (.invokestatic 7, 3) := by decide +kernel
theorem d_HD_init_10 : decode b_HD_init 10 = .ok (.invokestatic 13, 3) := by decide +kernel
theorem d_HD_init_13 : decode b_HD_init 13 = .ok (.istore_n 3, 1) := by decide +kernel
theorem d_HD_init_14 : decode b_HD_init 14 = .ok (.aload_n 0, 1) := by decide +kernel
theorem d_HD_init_15 : decode b_HD_init 15 = .ok (.new 16, 3) := by decide +kernel
theorem d_HD_init_18 : decode b_HD_init 18 = .ok (.dup, 1) := by decide +kernel
theorem d_HD_init_19 : decode b_HD_init 19 = .ok (.invokespecial 18, 3) := by decide +kernel
theorem d_HD_init_22 : decode b_HD_init 22 = .ok (.putfield 19, 3) := by decide +kernel
theorem d_HD_init_25 : decode b_HD_init 25 = .ok (.aload_n 0, 1) := by decide +kernel
theorem d_HD_init_26 : decode b_HD_init 26 = .ok (.new 25, 3) := by decide +kernel
theorem d_HD_init_29 : decode b_HD_init 29 = .ok (.dup, 1) := by decide +kernel
theorem d_HD_init_30 : decode b_HD_init 30 = .ok (.aload_n 0, 1) := by decide +kernel
theorem d_HD_init_31 : decode b_HD_init 31 = .ok (.getfield 19, 3) := by decide +kernel
theorem d_HD_init_34 : decode b_HD_init 34 = .ok (.invokespecial 27, 3) := by decide +kernel
theorem d_HD_init_37 : decode b_HD_init 37 = .ok (.putfield 30, 3) := by decide +kernel
theorem d_HD_init_40 : decode b_HD_init 40 = .ok (.aload_n 0, 1) := by decide +kernel
theorem d_HD_init_41 : decode b_HD_init 41 = .ok (.iconst 2, 1) := by decide +kernel
theorem d_HD_init_42 : decode b_HD_init 42 = .ok (.iconst 4, 1) := by decide +kernel
theorem d_HD_init_43 : decode b_HD_init 43 = .ok (.iload_n 1, 1) := by decide +kernel
theorem d_HD_init_44 : decode b_HD_init 44 = .ok (.invokestatic 7, 3) := by decide +kernel
theorem d_HD_init_47 : decode b_HD_init 47 = .ok (.invokestatic 13, 3) := by decide +kernel
theorem d_HD_init_50 : decode b_HD_init 50 = .ok (.anewarray 34, 3) := by decide +kernel
theorem d_HD_init_53 : decode b_HD_init 53 = .ok (.putfield 36, 3) := by decide +kernel
theorem d_HD_init_56 : decode b_HD_init 56 = .ok (.iconst 0, 1) := by decide +kernel
theorem d_HD_init_57 : decode b_HD_init 57 = .ok (.istore 4, 2) := by decide +kernel
theorem d_HD_init_59 : decode b_HD_init 59 = .ok (.iload 4, 2) := by decide +kernel
theorem d_HD_init_61 : decode b_HD_init 61 = .ok (.aload_n 0, 1) := by decide +kernel
theorem d_HD_init_62 : decode b_HD_init 62 = .ok (.getfield 36, 3) := by decide +kernel
theorem d_HD_init_65 : decode b_HD_init 65 = .ok (.arraylength, 1) := by decide +kernel
theorem d_HD_init_66 : decode b_HD_init 66 = .ok (.if_icmp .ge 30, 3) := by decide +kernel
theorem d_HD_init_69 : decode b_HD_init 69 = .ok (.aload_n 0, 1) := by decide +kernel
theorem d_HD_init_70 : decode b_HD_init 70 = .ok (.getfield 36, 3) := by decide +kernel
theorem d_HD_init_73 : decode b_HD_init 73 = .ok (.iload 4, 2) := by decide +kernel
theorem d_HD_init_75 : decode b_HD_init 75 = .ok (.new 34, 3) := by decide +kernel
theorem d_HD_init_78 : decode b_HD_init 78 = .ok (.dup, 1) := by decide +kernel
theorem d_HD_init_79 : decode b_HD_init 79 = .ok (.iload 4, 2) := by decide +kernel
theorem d_HD_init_81 : decode b_HD_init 81 = .ok (.iload_n 3, 1) := by decide +kernel
theorem d_HD_init_82 : decode b_HD_init 82 = .ok (.aload_n 0, 1) := by decide +kernel
theorem d_HD_init_83 : decode b_HD_init 83 = .ok (.getfield 19, 3) := by decide +kernel
theorem d_HD_init_86 : decode b_HD_init 86 = .ok (.invokespecial 40, 3) := by decide +kernel
theorem d_HD_init_89 : decode b_HD_init 89 = .ok (.aastore, 1) := by decide +kernel
theorem d_HD_init_90 : decode b_HD_init 90 = .ok (.iinc 4 1, 3) := by decide +kernel
theorem d_HD_init_93 : decode b_HD_init 93 = .ok (.goto (-34), 3) := by decide +kernel
theorem d_HD_init_96 : decode b_HD_init 96 = .ok (.return_, 1) := by decide +kernel
theorem d_HD_code_0 : decode b_HD_code 0 = .ok (.aload_n 0, 1) := by decide +kernel
theorem d_HD_code_1 : decode b_HD_code 1 = .ok (.iload_n 1, 1) := by decide +kernel
theorem d_HD_code_2 : decode b_HD_code 2 = .ok (.invokevirtual 43, 3) := by decide +kernel
theorem d_HD_code_5 : decode b_HD_code 5 = .ok (.ifCond .eq 21, 3) := by decide +kernel
theorem d_HD_code_8 : decode b_HD_code 8 = .ok (.aload_n 0, 1) := by decide +kernel
theorem d_HD_code_9 : decode b_HD_code 9 = .ok (.getfield 36, 3) := by decide +kernel
theorem d_HD_code_12 : decode b_HD_code 12 = .ok (.iload_n 1, 1) := by decide +kernel
theorem d_HD_code_13 : decode b_HD_code 13 = .ok (.aaload, 1) := by decide +kernel
theorem d_HD_code_14 : decode b_HD_code 14 = .ok (.iload_n 2, 1) := by decide +kernel
theorem d_HD_code_15 : decode b_HD_code 15 = .ok (.iload_n 3, 1) := by decide +kernel
theorem d_HD_code_16 : decode b_HD_code 16 = .ok (.invokevirtual 47, 3) := by decide +kernel
theorem d_HD_code_19 : decode b_HD_code 19 = .ok (.ifCond .eq 7, 3) := by decide +kernel
theorem d_HD_code_22 : decode b_HD_code 22 = .ok (.iconst 1, 1) := by decide +kernel
theorem d_HD_code_23 : decode b_HD_code 23 = .ok (.goto 4, 3) := by decide +kernel
theorem d_HD_code_26 : decode b_HD_code 26 = .ok (.iconst 0, 1) := by decide +kernel
theorem d_HD_code_27 : decode b_HD_code 27 = .ok (.ireturn, 1) := by decide +kernel
theorem d_HD_go_0 : decode b_HD_go 0 = .ok (.aload_n 0, 1) := by decide +kernel
theorem d_HD_go_1 : decode b_HD_go 1 = .ok (.iload_n 1, 1) := by decide +kernel
theorem d_HD_go_2 : decode b_HD_go 2 = .ok (.invokevirtual 43, 3) := by decide +kernel
theorem d_HD_go_5 : decode b_HD_go 5 = .ok (.ifCond .eq 20, 3) := by decide +kernel
theorem d_HD_go_8 : decode b_HD_go 8 = .ok (.aload_n 0, 1) := by decide +kernel
theorem d_HD_go_9 : decode b_HD_go 9 = .ok (.getfield 36, 3) := by decide +kernel
theorem d_HD_go_12 : decode b_HD_go 12 = .ok (.iload_n 1, 1) := by decide +kernel
theorem d_HD_go_13 : decode b_HD_go 13 = .ok (.aaload, 1) := by decide +kernel
theorem d_HD_go_14 : decode b_HD_go 14 = .ok (.iload_n 2, 1) := by decide +kernel
theorem d_HD_go_15 : decode b_HD_go 15 = .ok (.invokevirtual 51, 3) := by decide +kernel
theorem d_HD_go_18 : decode b_HD_go 18 = .ok (.ifCond .eq 7, 3) := by decide +kernel
theorem d_HD_go_21 : decode b_HD_go 21 = .ok (.iconst 1, 1) := by decide +kernel
theorem d_HD_go_22 : decode b_HD_go 22 = .ok (.goto 4, 3) := by decide +kernel
theorem d_HD_go_25 : decode b_HD_go 25 = .ok (.iconst 0, 1) := by decide +kernel
theorem d_HD_go_26 : decode b_HD_go 26 = .ok (.ireturn, 1) := by decide +kernel
theorem d_HD_step_0 : decode b_HD_step 0 = .ok (.aload_n 0, 1) := by decide +kernel
theorem d_HD_step_1 : decode b_HD_step 1 = .ok (.iload_n 1, 1) := by decide +kernel
theorem d_HD_step_2 : decode b_HD_step 2 = .ok (.invokevirtual 43, 3) := by decide +kernel
theorem d_HD_step_5 : decode b_HD_step 5 = .ok (.ifCond .eq 15, 3) := by decide +kernel
theorem d_HD_step_8 : decode b_HD_step 8 = .ok (.aload_n 0, 1) := by decide +kernel
theorem d_HD_step_9 : decode b_HD_step 9 = .ok (.getfield 36, 3) := by decide +kernel
theorem d_HD_step_12 : decode b_HD_step 12 = .ok (.iload_n 1, 1) := by decide +kernel
theorem d_HD_step_13 : decode b_HD_step 13 = .ok (.aaload, 1) := by decide +kernel
theorem d_HD_step_14 : decode b_HD_step 14 = .ok (.invokevirtual 54, 3) := by decide +kernel
theorem d_HD_step_17 : decode b_HD_step 17 = .ok (.goto 4, 3) := by decide +kernel
theorem d_HD_step_20 : decode b_HD_step 20 = .ok (.iconst (-1), 1) := by decide +kernel
theorem d_HD_step_21 : decode b_HD_step 21 = .ok (.ireturn, 1) := by decide +kernel
theorem d_HD_deliver_0 : decode b_HD_deliver 0 = .ok (.aload_n 0, 1) := by decide +kernel
theorem d_HD_deliver_1 : decode b_HD_deliver 1 = .ok (.getfield 19, 3) := by decide +kernel
theorem d_HD_deliver_4 : decode b_HD_deliver 4 = .ok (.iload_n 1, 1) := by decide +kernel
theorem d_HD_deliver_5 : decode b_HD_deliver 5 = .ok (.invokevirtual 58, 3) := by decide +kernel
theorem d_HD_deliver_8 : decode b_HD_deliver 8 = .ok (.ifCond .ne 5, 3) := by decide +kernel
theorem d_HD_deliver_11 : decode b_HD_deliver 11 = .ok (.iconst (-1), 1) := by decide +kernel
theorem d_HD_deliver_12 : decode b_HD_deliver 12 = .ok (.ireturn, 1) := by decide +kernel
theorem d_HD_deliver_13 : decode b_HD_deliver 13 = .ok (.aload_n 0, 1) := by decide +kernel
theorem d_HD_deliver_14 : decode b_HD_deliver 14 = .ok (.getfield 19, 3) := by decide +kernel
theorem d_HD_deliver_17 : decode b_HD_deliver 17 = .ok (.iload_n 1, 1) := by decide +kernel
theorem d_HD_deliver_18 : decode b_HD_deliver 18 = .ok (.invokevirtual 61, 3) := by decide +kernel
theorem d_HD_deliver_21 : decode b_HD_deliver 21 = .ok (.ifCond .eq 6, 3) := by decide +kernel
theorem d_HD_deliver_24 : decode b_HD_deliver 24 = .ok (.bipush (-2), 2) := by decide +kernel
theorem d_HD_deliver_26 : decode b_HD_deliver 26 = .ok (.ireturn, 1) := by decide +kernel
theorem d_HD_deliver_27 : decode b_HD_deliver 27 = .ok (.aload_n 0, 1) := by decide +kernel
theorem d_HD_deliver_28 : decode b_HD_deliver 28 = .ok (.getfield 19, 3) := by decide +kernel
theorem d_HD_deliver_31 : decode b_HD_deliver 31 = .ok (.iload_n 1, 1) := by decide +kernel
theorem d_HD_deliver_32 : decode b_HD_deliver 32 = .ok (.invokevirtual 64, 3) := by decide +kernel
theorem d_HD_deliver_35 : decode b_HD_deliver 35 = .ok (.astore_n 2, 1) := by decide +kernel
theorem d_HD_deliver_36 : decode b_HD_deliver 36 = .ok (.aload_n 0, 1) := by decide +kernel
theorem d_HD_deliver_37 : decode b_HD_deliver 37 = .ok (.aload_n 2, 1) := by decide +kernel
theorem d_HD_deliver_38 : decode b_HD_deliver 38 = .ok (.invokevirtual 68, 3) := by decide +kernel
theorem d_HD_deliver_41 : decode b_HD_deliver 41 = .ok (.ifCond .eq 6, 3) := by decide +kernel
theorem d_HD_deliver_44 : decode b_HD_deliver 44 = .ok (.bipush (-3), 2) := by decide +kernel
theorem d_HD_deliver_46 : decode b_HD_deliver 46 = .ok (.ireturn, 1) := by decide +kernel
theorem d_HD_deliver_47 : decode b_HD_deliver 47 = .ok (.aload_n 0, 1) := by decide +kernel
theorem d_HD_deliver_48 : decode b_HD_deliver 48 = .ok (.aload_n 2, 1) := by decide +kernel
theorem d_HD_deliver_49 : decode b_HD_deliver 49 = .ok (.invokevirtual 72, 3) := by decide +kernel
theorem d_HD_deliver_52 : decode b_HD_deliver 52 = .ok (.aload_n 0, 1) := by decide +kernel
theorem d_HD_deliver_53 : decode b_HD_deliver 53 = .ok (.getfield 19, 3) := by decide +kernel
theorem d_HD_deliver_56 : decode b_HD_deliver 56 = .ok (.iload_n 1, 1) := by decide +kernel
theorem d_HD_deliver_57 : decode b_HD_deliver 57 = .ok (.invokevirtual 76, 3) := by decide +kernel
theorem d_HD_deliver_60 : decode b_HD_deliver 60 = .ok (.aload_n 0, 1) := by decide +kernel
theorem d_HD_deliver_61 : decode b_HD_deliver 61 = .ok (.getfield 19, 3) := by decide +kernel
theorem d_HD_deliver_64 : decode b_HD_deliver 64 = .ok (.getfield 80, 3) := by decide +kernel
theorem d_HD_deliver_67 : decode b_HD_deliver 67 = .ok (.ireturn, 1) := by decide +kernel
theorem d_HD_messages_0 : decode b_HD_messages 0 = .ok (.aload_n 0, 1) := by decide +kernel
theorem d_HD_messages_1 : decode b_HD_messages 1 = .ok (.getfield 19, 3) := by decide +kernel
theorem d_HD_messages_4 : decode b_HD_messages 4 = .ok (.getfield 80, 3) := by decide +kernel
theorem d_HD_messages_7 : decode b_HD_messages 7 = .ok (.ireturn, 1) := by decide +kernel
theorem d_HD_message_0 : decode b_HD_message 0 = .ok (.aload_n 0, 1) := by decide +kernel
theorem d_HD_message_1 : decode b_HD_message 1 = .ok (.getfield 19, 3) := by decide +kernel
theorem d_HD_message_4 : decode b_HD_message 4 = .ok (.iload_n 1, 1) := by decide +kernel
theorem d_HD_message_5 : decode b_HD_message 5 = .ok (.invokevirtual 58, 3) := by decide +kernel
theorem d_HD_message_8 : decode b_HD_message 8 = .ok (.ifCond .eq 18, 3) := by decide +kernel
theorem d_HD_message_11 : decode b_HD_message 11 = .ok (.aload_n 0, 1) := by decide +kernel
theorem d_HD_message_12 : decode b_HD_message 12 = .ok (.getfield 19, 3) := by decide +kernel
theorem d_HD_message_15 : decode b_HD_message 15 = .ok (.iload_n 1, 1) := by decide +kernel
theorem d_HD_message_16 : decode b_HD_message 16 = .ok (.invokevirtual 64, 3) := by decide +kernel
theorem d_HD_message_19 : decode b_HD_message 19 = .ok (.iload_n 2, 1) := by decide +kernel
theorem d_HD_message_20 : decode b_HD_message 20 = .ok (.invokevirtual 84, 3) := by decide +kernel
theorem d_HD_message_23 : decode b_HD_message 23 = .ok (.goto 4, 3) := by decide +kernel
theorem d_HD_message_26 : decode b_HD_message 26 = .ok (.iconst (-1), 1) := by decide +kernel
theorem d_HD_message_27 : decode b_HD_message 27 = .ok (.ireturn, 1) := by decide +kernel
theorem d_HD_line_0 : decode b_HD_line 0 = .ok (.aload_n 0, 1) := by decide +kernel
theorem d_HD_line_1 : decode b_HD_line 1 = .ok (.iload_n 1, 1) := by decide +kernel
theorem d_HD_line_2 : decode b_HD_line 2 = .ok (.invokevirtual 43, 3) := by decide +kernel
theorem d_HD_line_5 : decode b_HD_line 5 = .ok (.ifCond .eq 24, 3) := by decide +kernel
theorem d_HD_line_8 : decode b_HD_line 8 = .ok (.iload_n 2, 1) := by decide +kernel
theorem d_HD_line_9 : decode b_HD_line 9 = .ok (.invokestatic 90, 3) := by decide +kernel
theorem d_HD_line_12 : decode b_HD_line 12 = .ok (.ifCond .eq 17, 3) := by decide +kernel
theorem d_HD_line_15 : decode b_HD_line 15 = .ok (.aload_n 0, 1) := by decide +kernel
theorem d_HD_line_16 : decode b_HD_line 16 = .ok (.getfield 36, 3) := by decide +kernel
theorem d_HD_line_19 : decode b_HD_line 19 = .ok (.iload_n 1, 1) := by decide +kernel
theorem d_HD_line_20 : decode b_HD_line 20 = .ok (.aaload, 1) := by decide +kernel
theorem d_HD_line_21 : decode b_HD_line 21 = .ok (.getfield 93, 3) := by decide +kernel
theorem d_HD_line_24 : decode b_HD_line 24 = .ok (.iload_n 2, 1) := by decide +kernel
theorem d_HD_line_25 : decode b_HD_line 25 = .ok (.iaload, 1) := by decide +kernel
theorem d_HD_line_26 : decode b_HD_line 26 = .ok (.goto 4, 3) := by decide +kernel
theorem d_HD_line_29 : decode b_HD_line 29 = .ok (.iconst (-1), 1) := by decide +kernel
theorem d_HD_line_30 : decode b_HD_line 30 = .ok (.ireturn, 1) := by decide +kernel
theorem d_HD_word_0 : decode b_HD_word 0 = .ok (.aload_n 0, 1) := by decide +kernel
theorem d_HD_word_1 : decode b_HD_word 1 = .ok (.iload_n 1, 1) := by decide +kernel
theorem d_HD_word_2 : decode b_HD_word 2 = .ok (.invokevirtual 43, 3) := by decide +kernel
theorem d_HD_word_5 : decode b_HD_word 5 = .ok (.ifCond .eq 23, 3) := by decide +kernel
theorem d_HD_word_8 : decode b_HD_word 8 = .ok (.iload_n 2, 1) := by decide +kernel
theorem d_HD_word_9 : decode b_HD_word 9 = .ok (.invokestatic 90, 3) := by decide +kernel
theorem d_HD_word_12 : decode b_HD_word 12 = .ok (.ifCond .eq 16, 3) := by decide +kernel
theorem d_HD_word_15 : decode b_HD_word 15 = .ok (.aload_n 0, 1) := by decide +kernel
theorem d_HD_word_16 : decode b_HD_word 16 = .ok (.getfield 36, 3) := by decide +kernel
theorem d_HD_word_19 : decode b_HD_word 19 = .ok (.iload_n 1, 1) := by decide +kernel
theorem d_HD_word_20 : decode b_HD_word 20 = .ok (.aaload, 1) := by decide +kernel
theorem d_HD_word_21 : decode b_HD_word 21 = .ok (.iload_n 2, 1) := by decide +kernel
theorem d_HD_word_22 : decode b_HD_word 22 = .ok (.invokevirtual 97, 3) := by decide +kernel
theorem d_HD_word_25 : decode b_HD_word 25 = .ok (.goto 4, 3) := by decide +kernel
theorem d_HD_word_28 : decode b_HD_word 28 = .ok (.iconst 0, 1) := by decide +kernel
theorem d_HD_word_29 : decode b_HD_word 29 = .ok (.ireturn, 1) := by decide +kernel
theorem d_HD_home_0 : decode b_HD_home 0 = .ok (.iload_n 1, 1) := by decide +kernel
theorem d_HD_home_1 : decode b_HD_home 1 = .ok (.invokestatic 90, 3) := by decide +kernel
theorem d_HD_home_4 : decode b_HD_home 4 = .ok (.ifCond .eq 14, 3) := by decide +kernel
theorem d_HD_home_7 : decode b_HD_home 7 = .ok (.aload_n 0, 1) := by decide +kernel
theorem d_HD_home_8 : decode b_HD_home 8 = .ok (.getfield 30, 3) := by decide +kernel
theorem d_HD_home_11 : decode b_HD_home 11 = .ok (.iload_n 1, 1) := by decide +kernel
theorem d_HD_home_12 : decode b_HD_home 12 = .ok (.invokevirtual 100, 3) := by decide +kernel
theorem d_HD_home_15 : decode b_HD_home 15 = .ok (.goto 4, 3) := by decide +kernel
theorem d_HD_home_18 : decode b_HD_home 18 = .ok (.iconst (-1), 1) := by decide +kernel
theorem d_HD_home_19 : decode b_HD_home 19 = .ok (.ireturn, 1) := by decide +kernel
theorem d_HD_memory_0 : decode b_HD_memory 0 = .ok (.iload_n 1, 1) := by decide +kernel
theorem d_HD_memory_1 : decode b_HD_memory 1 = .ok (.invokestatic 90, 3) := by decide +kernel
theorem d_HD_memory_4 : decode b_HD_memory 4 = .ok (.ifCond .eq 15, 3) := by decide +kernel
theorem d_HD_memory_7 : decode b_HD_memory 7 = .ok (.aload_n 0, 1) := by decide +kernel
theorem d_HD_memory_8 : decode b_HD_memory 8 = .ok (.getfield 30, 3) := by decide +kernel
theorem d_HD_memory_11 : decode b_HD_memory 11 = .ok (.getfield 103, 3) := by decide +kernel
theorem d_HD_memory_14 : decode b_HD_memory 14 = .ok (.iload_n 1, 1) := by decide +kernel
theorem d_HD_memory_15 : decode b_HD_memory 15 = .ok (.iaload, 1) := by decide +kernel
theorem d_HD_memory_16 : decode b_HD_memory 16 = .ok (.goto 4, 3) := by decide +kernel
theorem d_HD_memory_19 : decode b_HD_memory 19 = .ok (.iconst 0, 1) := by decide +kernel
theorem d_HD_memory_20 : decode b_HD_memory 20 = .ok (.ireturn, 1) := by decide +kernel
theorem d_HD_accumulator_0 : decode b_HD_accumulator 0 = .ok (.aload_n 0, 1) := by decide +kernel
theorem d_HD_accumulator_1 : decode b_HD_accumulator 1 = .ok (.iload_n 1, 1) := by decide +kernel
theorem d_HD_accumulator_2 : decode b_HD_accumulator 2 = .ok (.invokevirtual 43, 3) := by decide +kernel
theorem d_HD_accumulator_5 : decode b_HD_accumulator 5 = .ok (.ifCond .eq 15, 3) := by decide +kernel
theorem d_HD_accumulator_8 : decode b_HD_accumulator 8 = .ok (.aload_n 0, 1) := by decide +kernel
theorem d_HD_accumulator_9 : decode b_HD_accumulator 9 = .ok (.getfield 36, 3) := by decide +kernel
theorem d_HD_accumulator_12 : decode b_HD_accumulator 12 = .ok (.iload_n 1, 1) := by decide +kernel
theorem d_HD_accumulator_13 : decode b_HD_accumulator 13 = .ok (.aaload, 1) := by decide +kernel
theorem d_HD_accumulator_14 : decode b_HD_accumulator 14 = .ok (.getfield 106, 3) := by decide +kernel
theorem d_HD_accumulator_17 : decode b_HD_accumulator 17 = .ok (.goto 4, 3) := by decide +kernel
theorem d_HD_accumulator_20 : decode b_HD_accumulator 20 = .ok (.iconst 0, 1) := by decide +kernel
theorem d_HD_accumulator_21 : decode b_HD_accumulator 21 = .ok (.ireturn, 1) := by decide +kernel
theorem d_HD_place_0 : decode b_HD_place 0 = .ok (.aload_n 0, 1) := by decide +kernel
theorem d_HD_place_1 : decode b_HD_place 1 = .ok (.iload_n 1, 1) := by decide +kernel
theorem d_HD_place_2 : decode b_HD_place 2 = .ok (.invokevirtual 43, 3) := by decide +kernel
theorem d_HD_place_5 : decode b_HD_place 5 = .ok (.ifCond .eq 25, 3) := by decide +kernel
theorem d_HD_place_8 : decode b_HD_place 8 = .ok (.aload_n 0, 1) := by decide +kernel
theorem d_HD_place_9 : decode b_HD_place 9 = .ok (.getfield 36, 3) := by decide +kernel
theorem d_HD_place_12 : decode b_HD_place 12 = .ok (.iload_n 1, 1) := by decide +kernel
theorem d_HD_place_13 : decode b_HD_place 13 = .ok (.aaload, 1) := by decide +kernel
theorem d_HD_place_14 : decode b_HD_place 14 = .ok (.getfield 109, 3) := by decide +kernel
theorem d_HD_place_17 : decode b_HD_place 17 = .ok (.aload_n 0, 1) := by decide +kernel
theorem d_HD_place_18 : decode b_HD_place 18 = .ok (.getfield 36, 3) := by decide +kernel
theorem d_HD_place_21 : decode b_HD_place 21 = .ok (.iload_n 1, 1) := by decide +kernel
theorem d_HD_place_22 : decode b_HD_place 22 = .ok (.aaload, 1) := by decide +kernel
theorem d_HD_place_23 : decode b_HD_place 23 = .ok (.getfield 112, 3) := by decide +kernel
theorem d_HD_place_26 : decode b_HD_place 26 = .ok (.iadd, 1) := by decide +kernel
theorem d_HD_place_27 : decode b_HD_place 27 = .ok (.goto 4, 3) := by decide +kernel
theorem d_HD_place_30 : decode b_HD_place 30 = .ok (.iconst (-1), 1) := by decide +kernel
theorem d_HD_place_31 : decode b_HD_place 31 = .ok (.ireturn, 1) := by decide +kernel
theorem d_HD_sent_0 : decode b_HD_sent 0 = .ok (.aload_n 0, 1) := by decide +kernel
theorem d_HD_sent_1 : decode b_HD_sent 1 = .ok (.getfield 19, 3) := by decide +kernel
theorem d_HD_sent_4 : decode b_HD_sent 4 = .ok (.getfield 115, 3) := by decide +kernel
theorem d_HD_sent_7 : decode b_HD_sent 7 = .ok (.ireturn, 1) := by decide +kernel
theorem d_HD_performed_0 : decode b_HD_performed 0 = .ok (.iconst 0, 1) := by decide +kernel
theorem d_HD_performed_1 : decode b_HD_performed 1 = .ok (.istore_n 1, 1) := by decide +kernel
theorem d_HD_performed_2 : decode b_HD_performed 2 = .ok (.iconst 0, 1) := by decide +kernel
theorem d_HD_performed_3 : decode b_HD_performed 3 = .ok (.istore_n 2, 1) := by decide +kernel
theorem d_HD_performed_4 : decode b_HD_performed 4 = .ok (.iload_n 2, 1) := by decide +kernel
theorem d_HD_performed_5 : decode b_HD_performed 5 = .ok (.aload_n 0, 1) := by decide +kernel
theorem d_HD_performed_6 : decode b_HD_performed 6 = .ok (.getfield 36, 3) := by decide +kernel
theorem d_HD_performed_9 : decode b_HD_performed 9 = .ok (.arraylength, 1) := by decide +kernel
theorem d_HD_performed_10 : decode b_HD_performed 10 = .ok (.if_icmp .ge 21, 3) := by decide +kernel
theorem d_HD_performed_13 : decode b_HD_performed 13 = .ok (.iload_n 1, 1) := by decide +kernel
theorem d_HD_performed_14 : decode b_HD_performed 14 = .ok (.aload_n 0, 1) := by decide +kernel
theorem d_HD_performed_15 : decode b_HD_performed 15 = .ok (.getfield 36, 3) := by decide +kernel
theorem d_HD_performed_18 : decode b_HD_performed 18 = .ok (.iload_n 2, 1) := by decide +kernel
theorem d_HD_performed_19 : decode b_HD_performed 19 = .ok (.aaload, 1) := by decide +kernel
theorem d_HD_performed_20 : decode b_HD_performed 20 = .ok (.getfield 118, 3) := by decide +kernel
theorem d_HD_performed_23 : decode b_HD_performed 23 = .ok (.iadd, 1) := by decide +kernel
theorem d_HD_performed_24 : decode b_HD_performed 24 = .ok (.istore_n 1, 1) := by decide +kernel
theorem d_HD_performed_25 : decode b_HD_performed 25 = .ok (.iinc 2 1, 3) := by decide +kernel
theorem d_HD_performed_28 : decode b_HD_performed 28 = .ok (.goto (-24), 3) := by decide +kernel
theorem d_HD_performed_31 : decode b_HD_performed 31 = .ok (.iload_n 1, 1) := by decide +kernel
theorem d_HD_performed_32 : decode b_HD_performed 32 = .ok (.ireturn, 1) := by decide +kernel
theorem d_HD_isCore_0 : decode b_HD_isCore 0 = .ok (.iload_n 1, 1) := by decide +kernel
theorem d_HD_isCore_1 : decode b_HD_isCore 1 = .ok (.ifCond .lt 16, 3) := by decide +kernel
theorem d_HD_isCore_4 : decode b_HD_isCore 4 = .ok (.iload_n 1, 1) := by decide +kernel
theorem d_HD_isCore_5 : decode b_HD_isCore 5 = .ok (.aload_n 0, 1) := by decide +kernel
theorem d_HD_isCore_6 : decode b_HD_isCore 6 = .ok (.getfield 36, 3) := by decide +kernel
theorem d_HD_isCore_9 : decode b_HD_isCore 9 = .ok (.arraylength, 1) := by decide +kernel
theorem d_HD_isCore_10 : decode b_HD_isCore 10 = .ok (.if_icmp .ge 7, 3) := by decide +kernel
theorem d_HD_isCore_13 : decode b_HD_isCore 13 = .ok (.iconst 1, 1) := by decide +kernel
theorem d_HD_isCore_14 : decode b_HD_isCore 14 = .ok (.goto 4, 3) := by decide +kernel
theorem d_HD_isCore_17 : decode b_HD_isCore 17 = .ok (.iconst 0, 1) := by decide +kernel
theorem d_HD_isCore_18 : decode b_HD_isCore 18 = .ok (.ireturn, 1) := by decide +kernel
theorem d_HD_isBlock_0 : decode b_HD_isBlock 0 = .ok (.iload_n 0, 1) := by decide +kernel
theorem d_HD_isBlock_1 : decode b_HD_isBlock 1 = .ok (.ifCond .lt 12, 3) := by decide +kernel
theorem d_HD_isBlock_4 : decode b_HD_isBlock 4 = .ok (.iload_n 0, 1) := by decide +kernel
theorem d_HD_isBlock_5 : decode b_HD_isBlock 5 = .ok (.iconst 4, 1) := by decide +kernel
theorem d_HD_isBlock_6 : decode b_HD_isBlock 6 = .ok (.if_icmp .ge 7, 3) := by decide +kernel
theorem d_HD_isBlock_9 : decode b_HD_isBlock 9 = .ok (.iconst 1, 1) := by decide +kernel
theorem d_HD_isBlock_10 : decode b_HD_isBlock 10 = .ok (.goto 4, 3) := by decide +kernel
theorem d_HD_isBlock_13 : decode b_HD_isBlock 13 = .ok (.iconst 0, 1) := by decide +kernel
theorem d_HD_isBlock_14 : decode b_HD_isBlock 14 = .ok (.ireturn, 1) := by decide +kernel
theorem d_HD_isStalled_0 : decode b_HD_isStalled 0 = .ok (.aload_n 1, 1) := by decide +kernel
theorem d_HD_isStalled_1 : decode b_HD_isStalled 1 = .ok (.getfield 121, 3) := by decide +kernel
theorem d_HD_isStalled_4 : decode b_HD_isStalled 4 = .ok (.iconst 4, 1) := by decide +kernel
theorem d_HD_isStalled_5 : decode b_HD_isStalled 5 = .ok (.if_icmp .ne 12, 3) := by decide +kernel
theorem d_HD_isStalled_8 : decode b_HD_isStalled 8 = .ok (.aload_n 0, 1) := by decide +kernel
theorem d_HD_isStalled_9 : decode b_HD_isStalled 9 = .ok (.getfield 30, 3) := by decide +kernel
theorem d_HD_isStalled_12 : decode b_HD_isStalled 12 = .ok (.aload_n 1, 1) := by decide +kernel
theorem d_HD_isStalled_13 : decode b_HD_isStalled 13 = .ok (.invokevirtual 124, 3) := by decide +kernel
theorem d_HD_isStalled_16 : decode b_HD_isStalled 16 = .ok (.ireturn, 1) := by decide +kernel
theorem d_HD_isStalled_17 : decode b_HD_isStalled 17 = .ok (.aload_n 0, 1) := by decide +kernel
theorem d_HD_isStalled_18 : decode b_HD_isStalled 18 = .ok (.aload_n 1, 1) := by decide +kernel
theorem d_HD_isStalled_19 : decode b_HD_isStalled 19 = .ok (.getfield 121, 3) := by decide +kernel
theorem d_HD_isStalled_22 : decode b_HD_isStalled 22 = .ok (.invokevirtual 43, 3) := by decide +kernel
theorem d_HD_isStalled_25 : decode b_HD_isStalled 25 = .ok (.ifCond .eq 23, 3) := by decide +kernel
theorem d_HD_isStalled_28 : decode b_HD_isStalled 28 = .ok (.aload_n 0, 1) := by decide +kernel
theorem d_HD_isStalled_29 : decode b_HD_isStalled 29 = .ok (.getfield 36, 3) := by decide +kernel
theorem d_HD_isStalled_32 : decode b_HD_isStalled 32 = .ok (.aload_n 1, 1) := by decide +kernel
theorem d_HD_isStalled_33 : decode b_HD_isStalled 33 = .ok (.getfield 121, 3) := by decide +kernel
theorem d_HD_isStalled_36 : decode b_HD_isStalled 36 = .ok (.aaload, 1) := by decide +kernel
theorem d_HD_isStalled_37 : decode b_HD_isStalled 37 = .ok (.aload_n 1, 1) := by decide +kernel
theorem d_HD_isStalled_38 : decode b_HD_isStalled 38 = .ok (.invokevirtual 127, 3) := by decide +kernel
theorem d_HD_isStalled_41 : decode b_HD_isStalled 41 = .ok (.ifCond .eq 7, 3) := by decide +kernel
theorem d_HD_isStalled_44 : decode b_HD_isStalled 44 = .ok (.iconst 1, 1) := by decide +kernel
theorem d_HD_isStalled_45 : decode b_HD_isStalled 45 = .ok (.goto 4, 3) := by decide +kernel
theorem d_HD_isStalled_48 : decode b_HD_isStalled 48 = .ok (.iconst 0, 1) := by decide +kernel
theorem d_HD_isStalled_49 : decode b_HD_isStalled 49 = .ok (.ireturn, 1) := by decide +kernel
theorem d_HD_handOver_0 : decode b_HD_handOver 0 = .ok (.aload_n 1, 1) := by decide +kernel
theorem d_HD_handOver_1 : decode b_HD_handOver 1 = .ok (.getfield 121, 3) := by decide +kernel
theorem d_HD_handOver_4 : decode b_HD_handOver 4 = .ok (.iconst 4, 1) := by decide +kernel
theorem d_HD_handOver_5 : decode b_HD_handOver 5 = .ok (.if_icmp .ne 14, 3) := by decide +kernel
theorem d_HD_handOver_8 : decode b_HD_handOver 8 = .ok (.aload_n 0, 1) := by decide +kernel
theorem d_HD_handOver_9 : decode b_HD_handOver 9 = .ok (.getfield 30, 3) := by decide +kernel
theorem d_HD_handOver_12 : decode b_HD_handOver 12 = .ok (.aload_n 1, 1) := by decide +kernel
theorem d_HD_handOver_13 : decode b_HD_handOver 13 = .ok (.invokevirtual 128, 3) := by decide +kernel
theorem d_HD_handOver_16 : decode b_HD_handOver 16 = .ok (.goto 27, 3) := by decide +kernel
theorem d_HD_handOver_19 : decode b_HD_handOver 19 = .ok (.aload_n 0, 1) := by decide +kernel
theorem d_HD_handOver_20 : decode b_HD_handOver 20 = .ok (.aload_n 1, 1) := by decide +kernel
theorem d_HD_handOver_21 : decode b_HD_handOver 21 = .ok (.getfield 121, 3) := by decide +kernel
theorem d_HD_handOver_24 : decode b_HD_handOver 24 = .ok (.invokevirtual 43, 3) := by decide +kernel
theorem d_HD_handOver_27 : decode b_HD_handOver 27 = .ok (.ifCond .eq 16, 3) := by decide +kernel
theorem d_HD_handOver_30 : decode b_HD_handOver 30 = .ok (.aload_n 0, 1) := by decide +kernel
theorem d_HD_handOver_31 : decode b_HD_handOver 31 = .ok (.getfield 36, 3) := by decide +kernel
theorem d_HD_handOver_34 : decode b_HD_handOver 34 = .ok (.aload_n 1, 1) := by decide +kernel
theorem d_HD_handOver_35 : decode b_HD_handOver 35 = .ok (.getfield 121, 3) := by decide +kernel
theorem d_HD_handOver_38 : decode b_HD_handOver 38 = .ok (.aaload, 1) := by decide +kernel
theorem d_HD_handOver_39 : decode b_HD_handOver 39 = .ok (.aload_n 1, 1) := by decide +kernel
theorem d_HD_handOver_40 : decode b_HD_handOver 40 = .ok (.invokevirtual 131, 3) := by decide +kernel
theorem d_HD_handOver_43 : decode b_HD_handOver 43 = .ok (.return_, 1) := by decide +kernel
theorem d_Core_init_0 : decode b_Core_init 0 = .ok (.aload_n 0, 1) := by decide +kernel
theorem d_Core_init_1 : decode b_Core_init 1 = .ok (.invokespecial 3, 3) := by decide +kernel
theorem d_Core_init_4 : decode b_Core_init 4 = .ok (.aload_n 0, 1) := by decide +kernel
theorem d_Core_init_5 : decode b_Core_init 5 = .ok (.iload_n 1, 1) := by decide +kernel
theorem d_Core_init_6 : decode b_Core_init 6 = .ok (.putfield 9, 3) := by decide +kernel
theorem d_Core_init_9 : decode b_Core_init 9 = .ok (.aload_n 0, 1) := by decide +kernel
theorem d_Core_init_10 : decode b_Core_init 10 = .ok (.iload_n 2, 1) := by decide +kernel
theorem d_Core_init_11 : decode b_Core_init 11 = .ok (.putfield 15, 3) := by decide +kernel
theorem d_Core_init_14 : decode b_Core_init 14 = .ok (.aload_n 0, 1) := by decide +kernel
theorem d_Core_init_15 : decode b_Core_init 15 = .ok (.aload_n 3, 1) := by decide +kernel
theorem d_Core_init_16 : decode b_Core_init 16 = .ok (.putfield 18, 3) := by decide +kernel
theorem d_Core_init_19 : decode b_Core_init 19 = .ok (.aload_n 0, 1) := by decide +kernel
theorem d_Core_init_20 : decode b_Core_init 20 = .ok (.bipush 16, 2) := by decide +kernel
theorem d_Core_init_22 : decode b_Core_init 22 = .ok (.newarray .int, 2) := by decide +kernel
theorem d_Core_init_24 : decode b_Core_init 24 = .ok (.putfield 22, 3) := by decide +kernel
theorem d_Core_init_27 : decode b_Core_init 27 = .ok (.aload_n 0, 1) := by decide +kernel
theorem d_Core_init_28 : decode b_Core_init 28 = .ok (.bipush 16, 2) := by decide +kernel
theorem d_Core_init_30 : decode b_Core_init 30 = .ok (.newarray .int, 2) := by decide +kernel
theorem d_Core_init_32 : decode b_Core_init 32 = .ok (.putfield 26, 3) := by decide +kernel
theorem d_Core_init_35 : decode b_Core_init 35 = .ok (.aload_n 0, 1) := by decide +kernel
theorem d_Core_init_36 : decode b_Core_init 36 = .ok (.iconst 4, 1) := by decide +kernel
theorem d_Core_init_37 : decode b_Core_init 37 = .ok (.newarray .int, 2) := by decide +kernel
theorem d_Core_init_39 : decode b_Core_init 39 = .ok (.putfield 29, 3) := by decide +kernel
theorem d_Core_init_42 : decode b_Core_init 42 = .ok (.aload_n 0, 1) := by decide +kernel
theorem d_Core_init_43 : decode b_Core_init 43 = .ok (.iconst 4, 1) := by decide +kernel
theorem d_Core_init_44 : decode b_Core_init 44 = .ok (.newarray .int, 2) := by decide +kernel
theorem d_Core_init_46 : decode b_Core_init 46 = .ok (.putfield 32, 3) := by decide +kernel
theorem d_Core_init_49 : decode b_Core_init 49 = .ok (.aload_n 0, 1) := by decide +kernel
theorem d_Core_init_50 : decode b_Core_init 50 = .ok (.iconst 4, 1) := by decide +kernel
theorem d_Core_init_51 : decode b_Core_init 51 = .ok (.newarray .int, 2) := by decide +kernel
theorem d_Core_init_53 : decode b_Core_init 53 = .ok (.putfield 35, 3) := by decide +kernel
theorem d_Core_init_56 : decode b_Core_init 56 = .ok (.aload_n 0, 1) := by decide +kernel
theorem d_Core_init_57 : decode b_Core_init 57 = .ok (.iconst 4, 1) := by decide +kernel
theorem d_Core_init_58 : decode b_Core_init 58 = .ok (.newarray .int, 2) := by decide +kernel
theorem d_Core_init_60 : decode b_Core_init 60 = .ok (.putfield 38, 3) := by decide +kernel
theorem d_Core_init_63 : decode b_Core_init 63 = .ok (.return_, 1) := by decide +kernel
theorem d_Core_append_0 : decode b_Core_append 0 = .ok (.iload_n 1, 1) := by decide +kernel
theorem d_Core_append_1 : decode b_Core_append 1 = .ok (.ifCond .lt 25, 3) := by decide +kernel
theorem d_Core_append_4 : decode b_Core_append 4 = .ok (.iload_n 1, 1) := by decide +kernel
theorem d_Core_append_5 : decode b_Core_append 5 = .ok (.iconst 5, 1) := by decide +kernel
theorem d_Core_append_6 : decode b_Core_append 6 = .ok (.if_icmp .gt 20, 3) := by decide +kernel
theorem d_Core_append_9 : decode b_Core_append 9 = .ok (.iload_n 1, 1) := by decide +kernel
theorem d_Core_append_10 : decode b_Core_append 10 = .ok (.iload_n 2, 1) := by decide +kernel
theorem d_Core_append_11 : decode b_Core_append 11 = .ok (.invokestatic 41, 3) := by decide +kernel
theorem d_Core_append_14 : decode b_Core_append 14 = .ok (.ifCond .eq 12, 3) := by decide +kernel
theorem d_Core_append_17 : decode b_Core_append 17 = .ok (.aload_n 0, 1) := by decide +kernel
theorem d_Core_append_18 : decode b_Core_append 18 = .ok (.getfield 45, 3) := by decide +kernel
theorem d_Core_append_21 : decode b_Core_append 21 = .ok (.bipush 16, 2) := by decide +kernel
theorem d_Core_append_23 : decode b_Core_append 23 = .ok (.if_icmp .lt 5, 3) := by decide +kernel
theorem d_Core_append_26 : decode b_Core_append 26 = .ok (.iconst 0, 1) := by decide +kernel
theorem d_Core_append_27 : decode b_Core_append 27 = .ok (.ireturn, 1) := by decide +kernel
theorem d_Core_append_28 : decode b_Core_append 28 = .ok (.aload_n 0, 1) := by decide +kernel
theorem d_Core_append_29 : decode b_Core_append 29 = .ok (.getfield 22, 3) := by decide +kernel
theorem d_Core_append_32 : decode b_Core_append 32 = .ok (.aload_n 0, 1) := by decide +kernel
theorem d_Core_append_33 : decode b_Core_append 33 = .ok (.getfield 45, 3) := by decide +kernel
theorem d_Core_append_36 : decode b_Core_append 36 = .ok (.iload_n 1, 1) := by decide +kernel
theorem d_Core_append_37 : decode b_Core_append 37 = .ok (.iastore, 1) := by decide +kernel
theorem d_Core_append_38 : decode b_Core_append 38 = .ok (.aload_n 0, 1) := by decide +kernel
theorem d_Core_append_39 : decode b_Core_append 39 = .ok (.getfield 26, 3) := by decide +kernel
theorem d_Core_append_42 : decode b_Core_append 42 = .ok (.aload_n 0, 1) := by decide +kernel
theorem d_Core_append_43 : decode b_Core_append 43 = .ok (.getfield 45, 3) := by decide +kernel
theorem d_Core_append_46 : decode b_Core_append 46 = .ok (.iload_n 2, 1) := by decide +kernel
theorem d_Core_append_47 : decode b_Core_append 47 = .ok (.iastore, 1) := by decide +kernel
theorem d_Core_append_48 : decode b_Core_append 48 = .ok (.aload_n 0, 1) := by decide +kernel
theorem d_Core_append_49 : decode b_Core_append 49 = .ok (.dup, 1) := by decide +kernel
theorem d_Core_append_50 : decode b_Core_append 50 = .ok (.getfield 45, 3) := by decide +kernel
theorem d_Core_append_53 : decode b_Core_append 53 = .ok (.iconst 1, 1) := by decide +kernel
theorem d_Core_append_54 : decode b_Core_append 54 = .ok (.iadd, 1) := by decide +kernel
theorem d_Core_append_55 : decode b_Core_append 55 = .ok (.putfield 45, 3) := by decide +kernel
theorem d_Core_append_58 : decode b_Core_append 58 = .ok (.iconst 1, 1) := by decide +kernel
theorem d_Core_append_59 : decode b_Core_append 59 = .ok (.ireturn, 1) := by decide +kernel
theorem d_Core_fits_0 : decode b_Core_fits 0 = .ok (.iload_n 0, 1) := by decide +kernel
theorem d_Core_fits_1 : decode b_Core_fits 1 = .ok (.invokestatic 48, 3) := by decide +kernel
theorem d_Core_fits_4 : decode b_Core_fits 4 = .ok (.ifCond .eq 8, 3) := by decide +kernel
theorem d_Core_fits_7 : decode b_Core_fits 7 = .ok (.iload_n 1, 1) := by decide +kernel
theorem d_Core_fits_8 : decode b_Core_fits 8 = .ok (.invokestatic 52, 3) := by decide +kernel
theorem d_Core_fits_11 : decode b_Core_fits 11 = .ok (.ireturn, 1) := by decide +kernel
theorem d_Core_fits_12 : decode b_Core_fits 12 = .ok (.iload_n 0, 1) := by decide +kernel
theorem d_Core_fits_13 : decode b_Core_fits 13 = .ok (.iconst 3, 1) := by decide +kernel
theorem d_Core_fits_14 : decode b_Core_fits 14 = .ok (.if_icmp .ne 13, 3) := by decide +kernel
theorem d_Core_fits_17 : decode b_Core_fits 17 = .ok (.iload_n 1, 1) := by decide +kernel
theorem d_Core_fits_18 : decode b_Core_fits 18 = .ok (.ifCond .lt 13, 3) := by decide +kernel
theorem d_Core_fits_21 : decode b_Core_fits 21 = .ok (.iload_n 1, 1) := by decide +kernel
theorem d_Core_fits_22 : decode b_Core_fits 22 = .ok (.bipush 16, 2) := by decide +kernel
theorem d_Core_fits_24 : decode b_Core_fits 24 = .ok (.if_icmp .ge 7, 3) := by decide +kernel
theorem d_Core_fits_27 : decode b_Core_fits 27 = .ok (.iconst 1, 1) := by decide +kernel
theorem d_Core_fits_28 : decode b_Core_fits 28 = .ok (.goto 4, 3) := by decide +kernel
theorem d_Core_fits_31 : decode b_Core_fits 31 = .ok (.iconst 0, 1) := by decide +kernel
theorem d_Core_fits_32 : decode b_Core_fits 32 = .ok (.ireturn, 1) := by decide +kernel
theorem d_Core_isAccess_0 : decode b_Core_isAccess 0 = .ok (.iload_n 0, 1) := by decide +kernel
theorem d_Core_isAccess_1 : decode b_Core_isAccess 1 = .ok (.ifCond .eq 13, 3) := by decide +kernel
theorem d_Core_isAccess_4 : decode b_Core_isAccess 4 = .ok (.iload_n 0, 1) := by decide +kernel
theorem d_Core_isAccess_5 : decode b_Core_isAccess 5 = .ok (.iconst 1, 1) := by decide +kernel
theorem d_Core_isAccess_6 : decode b_Core_isAccess 6 = .ok (.if_icmp .eq 8, 3) := by decide +kernel
theorem d_Core_isAccess_9 : decode b_Core_isAccess 9 = .ok (.iload_n 0, 1) := by decide +kernel
theorem d_Core_isAccess_10 : decode b_Core_isAccess 10 = .ok (.iconst 5, 1) := by decide +kernel
theorem d_Core_isAccess_11 : decode b_Core_isAccess 11 = .ok (.if_icmp .ne 7, 3) := by decide +kernel
theorem d_Core_isAccess_14 : decode b_Core_isAccess 14 = .ok (.iconst 1, 1) := by decide +kernel
theorem d_Core_isAccess_15 : decode b_Core_isAccess 15 = .ok (.goto 4, 3) := by decide +kernel
theorem d_Core_isAccess_18 : decode b_Core_isAccess 18 = .ok (.iconst 0, 1) := by decide +kernel
theorem d_Core_isAccess_19 : decode b_Core_isAccess 19 = .ok (.ireturn, 1) := by decide +kernel
theorem d_Core_moveTo_0 : decode b_Core_moveTo 0 = .ok (.aload_n 0, 1) := by decide +kernel
theorem d_Core_moveTo_1 : decode b_Core_moveTo 1 = .ok (.getfield 55, 3) := by decide +kernel
theorem d_Core_moveTo_4 : decode b_Core_moveTo 4 = .ok (.ifCond .ne 13, 3) := by decide +kernel
theorem d_Core_moveTo_7 : decode b_Core_moveTo 7 = .ok (.iload_n 1, 1) := by decide +kernel
theorem d_Core_moveTo_8 : decode b_Core_moveTo 8 = .ok (.ifCond .lt 9, 3) := by decide +kernel
theorem d_Core_moveTo_11 : decode b_Core_moveTo 11 = .ok (.iload_n 1, 1) := by decide +kernel
theorem d_Core_moveTo_12 : decode b_Core_moveTo 12 = .ok (.bipush 16, 2) := by decide +kernel
theorem d_Core_moveTo_14 : decode b_Core_moveTo 14 = .ok (.if_icmp .le 5, 3) := by decide +kernel
theorem d_Core_moveTo_17 : decode b_Core_moveTo 17 = .ok (.iconst 0, 1) := by decide +kernel
theorem d_Core_moveTo_18 : decode b_Core_moveTo 18 = .ok (.ireturn, 1) := by decide +kernel
theorem d_Core_moveTo_19 : decode b_Core_moveTo 19 = .ok (.aload_n 0, 1) := by decide +kernel
theorem d_Core_moveTo_20 : decode b_Core_moveTo 20 = .ok (.iload_n 1, 1) := by decide +kernel
theorem d_Core_moveTo_21 : decode b_Core_moveTo 21 = .ok (.putfield 58, 3) := by decide +kernel
theorem d_Core_moveTo_24 : decode b_Core_moveTo 24 = .ok (.iconst 1, 1) := by decide +kernel
theorem d_Core_moveTo_25 : decode b_Core_moveTo 25 = .ok (.ireturn, 1) := by decide +kernel
theorem d_Core_advance_0 : decode b_Core_advance 0 = .ok (.aload_n 0, 1) := by decide +kernel
theorem d_Core_advance_1 : decode b_Core_advance 1 = .ok (.getfield 55, 3) := by decide +kernel
theorem d_Core_advance_4 : decode b_Core_advance 4 = .ok (.ifCond .eq 5, 3) := by decide +kernel
theorem d_Core_advance_7 : decode b_Core_advance 7 = .ok (.iconst 0, 1) := by decide +kernel
theorem d_Core_advance_8 : decode b_Core_advance 8 = .ok (.ireturn, 1) := by decide +kernel
theorem d_Core_advance_9 : decode b_Core_advance 9 = .ok (.aload_n 0, 1) := by decide +kernel
theorem d_Core_advance_10 : decode b_Core_advance 10 = .ok (.getfield 58, 3) := by decide +kernel
theorem d_Core_advance_13 : decode b_Core_advance 13 = .ok (.aload_n 0, 1) := by decide +kernel
theorem d_Core_advance_14 : decode b_Core_advance 14 = .ok (.getfield 45, 3) := by decide +kernel
theorem d_Core_advance_17 : decode b_Core_advance 17 = .ok (.if_icmp .lt 5, 3) := by decide +kernel
theorem d_Core_advance_20 : decode b_Core_advance 20 = .ok (.iconst 4, 1) := by decide +kernel
theorem d_Core_advance_21 : decode b_Core_advance 21 = .ok (.ireturn, 1) := by decide +kernel
theorem d_Core_advance_22 : decode b_Core_advance 22 = .ok (.aload_n 0, 1) := by decide +kernel
theorem d_Core_advance_23 : decode b_Core_advance 23 = .ok (.getfield 22, 3) := by decide +kernel
theorem d_Core_advance_26 : decode b_Core_advance 26 = .ok (.aload_n 0, 1) := by decide +kernel
theorem d_Core_advance_27 : decode b_Core_advance 27 = .ok (.getfield 58, 3) := by decide +kernel
theorem d_Core_advance_30 : decode b_Core_advance 30 = .ok (.iaload, 1) := by decide +kernel
theorem d_Core_advance_31 : decode b_Core_advance 31 = .ok (.invokestatic 48, 3) := by decide +kernel
theorem d_Core_advance_34 : decode b_Core_advance 34 = .ok (.ifCond .eq 26, 3) := by decide +kernel
theorem d_Core_advance_37 : decode b_Core_advance 37 = .ok (.aload_n 0, 1) := by decide +kernel
theorem d_Core_advance_38 : decode b_Core_advance 38 = .ok (.aload_n 0, 1) := by decide +kernel
theorem d_Core_advance_39 : decode b_Core_advance 39 = .ok (.getfield 22, 3) := by decide +kernel
theorem d_Core_advance_42 : decode b_Core_advance 42 = .ok (.aload_n 0, 1) := by decide +kernel
theorem d_Core_advance_43 : decode b_Core_advance 43 = .ok (.getfield 58, 3) := by decide +kernel
theorem d_Core_advance_46 : decode b_Core_advance 46 = .ok (.iaload, 1) := by decide +kernel
theorem d_Core_advance_47 : decode b_Core_advance 47 = .ok (.aload_n 0, 1) := by decide +kernel
theorem d_Core_advance_48 : decode b_Core_advance 48 = .ok (.getfield 26, 3) := by decide +kernel
theorem d_Core_advance_51 : decode b_Core_advance 51 = .ok (.aload_n 0, 1) := by decide +kernel
theorem d_Core_advance_52 : decode b_Core_advance 52 = .ok (.getfield 58, 3) := by decide +kernel
theorem d_Core_advance_55 : decode b_Core_advance 55 = .ok (.iaload, 1) := by decide +kernel
theorem d_Core_advance_56 : decode b_Core_advance 56 = .ok (.invokevirtual 61, 3) := by decide +kernel
theorem d_Core_advance_59 : decode b_Core_advance 59 = .ok (.ireturn, 1) := by decide +kernel
theorem d_Core_advance_60 : decode b_Core_advance 60 = .ok (.aload_n 0, 1) := by decide +kernel
theorem d_Core_advance_61 : decode b_Core_advance 61 = .ok (.aload_n 0, 1) := by decide +kernel
theorem d_Core_advance_62 : decode b_Core_advance 62 = .ok (.getfield 22, 3) := by decide +kernel
theorem d_Core_advance_65 : decode b_Core_advance 65 = .ok (.aload_n 0, 1) := by decide +kernel
theorem d_Core_advance_66 : decode b_Core_advance 66 = .ok (.getfield 58, 3) := by decide +kernel
theorem d_Core_advance_69 : decode b_Core_advance 69 = .ok (.iaload, 1) := by decide +kernel
theorem d_Core_advance_70 : decode b_Core_advance 70 = .ok (.aload_n 0, 1) := by decide +kernel
theorem d_Core_advance_71 : decode b_Core_advance 71 = .ok (.getfield 26, 3) := by decide +kernel
theorem d_Core_advance_74 : decode b_Core_advance 74 = .ok (.aload_n 0, 1) := by decide +kernel
theorem d_Core_advance_75 : decode b_Core_advance 75 = .ok (.getfield 58, 3) := by decide +kernel
theorem d_Core_advance_78 : decode b_Core_advance 78 = .ok (.iaload, 1) := by decide +kernel
theorem d_Core_advance_79 : decode b_Core_advance 79 = .ok (.invokevirtual 65, 3) := by decide +kernel
theorem d_Core_advance_82 : decode b_Core_advance 82 = .ok (.iconst 1, 1) := by decide +kernel
theorem d_Core_advance_83 : decode b_Core_advance 83 = .ok (.ireturn, 1) := by decide +kernel
theorem d_Core_compute_0 : decode b_Core_compute 0 = .ok (.iload_n 1, 1) := by decide +kernel
theorem d_Core_compute_1 : decode b_Core_compute 1 = .ok (.iconst 3, 1) := by decide +kernel
theorem d_Core_compute_2 : decode b_Core_compute 2 = .ok (.if_icmp .ne 16, 3) := by decide +kernel
theorem d_Core_compute_5 : decode b_Core_compute 5 = .ok (.aload_n 0, 1) := by decide +kernel
theorem d_Core_compute_6 : decode b_Core_compute 6 = .ok (.getfield 69, 3) := by decide +kernel
theorem d_Core_compute_9 : decode b_Core_compute 9 = .ok (.ifCond .eq 9, 3) := by decide +kernel
theorem d_Core_compute_12 : decode b_Core_compute 12 = .ok (.aload_n 0, 1) := by decide +kernel
theorem d_Core_compute_13 : decode b_Core_compute 13 = .ok (.iload_n 2, 1) := by decide +kernel
theorem d_Core_compute_14 : decode b_Core_compute 14 = .ok (.putfield 58, 3) := by decide +kernel
theorem d_Core_compute_17 : decode b_Core_compute 17 = .ok (.return_, 1) := by decide +kernel
theorem d_Core_compute_18 : decode b_Core_compute 18 = .ok (.iload_n 1, 1) := by decide +kernel
theorem d_Core_compute_19 : decode b_Core_compute 19 = .ok (.iconst 2, 1) := by decide +kernel
theorem d_Core_compute_20 : decode b_Core_compute 20 = .ok (.if_icmp .ne 16, 3) := by decide +kernel
theorem d_Core_compute_23 : decode b_Core_compute 23 = .ok (.aload_n 0, 1) := by decide +kernel
theorem d_Core_compute_24 : decode b_Core_compute 24 = .ok (.dup, 1) := by decide +kernel
theorem d_Core_compute_25 : decode b_Core_compute 25 = .ok (.getfield 69, 3) := by decide +kernel
theorem d_Core_compute_28 : decode b_Core_compute 28 = .ok (.iload_n 2, 1) := by decide +kernel
theorem d_Core_compute_29 : decode b_Core_compute 29 = .ok (.iadd, 1) := by decide +kernel
theorem d_Core_compute_30 : decode b_Core_compute 30 = .ok (.putfield 69, 3) := by decide +kernel
theorem d_Core_compute_33 : decode b_Core_compute 33 = .ok (.goto 13, 3) := by decide +kernel
theorem d_Core_compute_36 : decode b_Core_compute 36 = .ok (.iload_n 1, 1) := by decide +kernel
theorem d_Core_compute_37 : decode b_Core_compute 37 = .ok (.iconst 4, 1) := by decide +kernel
theorem d_Core_compute_38 : decode b_Core_compute 38 = .ok (.if_icmp .ne 8, 3) := by decide +kernel
theorem d_Core_compute_41 : decode b_Core_compute 41 = .ok (.aload_n 0, 1) := by decide +kernel
theorem d_Core_compute_42 : decode b_Core_compute 42 = .ok (.iload_n 2, 1) := by decide +kernel
theorem d_Core_compute_43 : decode b_Core_compute 43 = .ok (.putfield 69, 3) := by decide +kernel
theorem d_Core_compute_46 : decode b_Core_compute 46 = .ok (.aload_n 0, 1) := by decide +kernel
theorem d_Core_compute_47 : decode b_Core_compute 47 = .ok (.dup, 1) := by decide +kernel
theorem d_Core_compute_48 : decode b_Core_compute 48 = .ok (.getfield 58, 3) := by decide +kernel
theorem d_Core_compute_51 : decode b_Core_compute 51 = .ok (.iconst 1, 1) := by decide +kernel
theorem d_Core_compute_52 : decode b_Core_compute 52 = .ok (.iadd, 1) := by decide +kernel
theorem d_Core_compute_53 : decode b_Core_compute 53 = .ok (.putfield 58, 3) := by decide +kernel
theorem d_Core_compute_56 : decode b_Core_compute 56 = .ok (.return_, 1) := by decide +kernel
theorem d_Core_access_0 : decode b_Core_access 0 = .ok (.aload_n 0, 1) := by decide +kernel
theorem d_Core_access_1 : decode b_Core_access 1 = .ok (.iload_n 2, 1) := by decide +kernel
theorem d_Core_access_2 : decode b_Core_access 2 = .ok (.iload_n 1, 1) := by decide +kernel
theorem d_Core_access_3 : decode b_Core_access 3 = .ok (.invokevirtual 72, 3) := by decide +kernel
theorem d_Core_access_6 : decode b_Core_access 6 = .ok (.ifCond .eq 11, 3) := by decide +kernel
theorem d_Core_access_9 : decode b_Core_access 9 = .ok (.aload_n 0, 1) := by decide +kernel
theorem d_Core_access_10 : decode b_Core_access 10 = .ok (.iload_n 1, 1) := by decide +kernel
theorem d_Core_access_11 : decode b_Core_access 11 = .ok (.iload_n 2, 1) := by decide +kernel
theorem d_Core_access_12 : decode b_Core_access 12 = .ok (.invokevirtual 75, 3) := by decide +kernel
theorem d_Core_access_15 : decode b_Core_access 15 = .ok (.iconst 1, 1) := by decide +kernel
theorem d_Core_access_16 : decode b_Core_access 16 = .ok (.ireturn, 1) := by decide +kernel
theorem d_Core_access_17 : decode b_Core_access 17 = .ok (.aload_n 0, 1) := by decide +kernel
theorem d_Core_access_18 : decode b_Core_access 18 = .ok (.getfield 29, 3) := by decide +kernel
theorem d_Core_access_21 : decode b_Core_access 21 = .ok (.iload_n 2, 1) := by decide +kernel
theorem d_Core_access_22 : decode b_Core_access 22 = .ok (.iaload, 1) := by decide +kernel
theorem d_Core_access_23 : decode b_Core_access 23 = .ok (.ifCond .ne 24, 3) := by decide +kernel
theorem d_Core_access_26 : decode b_Core_access 26 = .ok (.aload_n 0, 1) := by decide +kernel
theorem d_Core_access_27 : decode b_Core_access 27 = .ok (.invokevirtual 78, 3) := by decide +kernel
theorem d_Core_access_30 : decode b_Core_access 30 = .ok (.aload_n 0, 1) := by decide +kernel
theorem d_Core_access_31 : decode b_Core_access 31 = .ok (.getfield 15, 3) := by decide +kernel
theorem d_Core_access_34 : decode b_Core_access 34 = .ok (.if_icmp .lt 13, 3) := by decide +kernel
theorem d_Core_access_37 : decode b_Core_access 37 = .ok (.aload_n 0, 1) := by decide +kernel
theorem d_Core_access_38 : decode b_Core_access 38 = .ok (.aload_n 0, 1) := by decide +kernel
theorem d_Core_access_39 : decode b_Core_access 39 = .ok (.invokevirtual 82, 3) := by decide +kernel
theorem d_Core_access_42 : decode b_Core_access 42 = .ok (.invokevirtual 85, 3) := by decide +kernel
theorem d_Core_access_45 : decode b_Core_access 45 = .ok (.iconst 3, 1) := by decide +kernel
theorem d_Core_access_46 : decode b_Core_access 46 = .ok (.ireturn, 1) := by decide +kernel
theorem d_Core_access_47 : decode b_Core_access 47 = .ok (.aload_n 0, 1) := by decide +kernel
theorem d_Core_access_48 : decode b_Core_access 48 = .ok (.iload_n 1, 1) := by decide +kernel
theorem d_Core_access_49 : decode b_Core_access 49 = .ok (.iload_n 2, 1) := by decide +kernel
theorem d_Core_access_50 : decode b_Core_access 50 = .ok (.invokevirtual 89, 3) := by decide +kernel
theorem d_Core_access_53 : decode b_Core_access 53 = .ok (.iconst 2, 1) := by decide +kernel
theorem d_Core_access_54 : decode b_Core_access 54 = .ok (.ireturn, 1) := by decide +kernel
theorem d_Core_allows_0 : decode b_Core_allows 0 = .ok (.aload_n 0, 1) := by decide +kernel
theorem d_Core_allows_1 : decode b_Core_allows 1 = .ok (.getfield 29, 3) := by decide +kernel
theorem d_Core_allows_4 : decode b_Core_allows 4 = .ok (.iload_n 1, 1) := by decide +kernel
theorem d_Core_allows_5 : decode b_Core_allows 5 = .ok (.iaload, 1) := by decide +kernel
theorem d_Core_allows_6 : decode b_Core_allows 6 = .ok (.iconst 2, 1) := by decide +kernel
theorem d_Core_allows_7 : decode b_Core_allows 7 = .ok (.if_icmp .eq 17, 3) := by decide +kernel
theorem d_Core_allows_10 : decode b_Core_allows 10 = .ok (.aload_n 0, 1) := by decide +kernel
theorem d_Core_allows_11 : decode b_Core_allows 11 = .ok (.getfield 29, 3) := by decide +kernel
theorem d_Core_allows_14 : decode b_Core_allows 14 = .ok (.iload_n 1, 1) := by decide +kernel
theorem d_Core_allows_15 : decode b_Core_allows 15 = .ok (.iaload, 1) := by decide +kernel
theorem d_Core_allows_16 : decode b_Core_allows 16 = .ok (.iconst 1, 1) := by decide +kernel
theorem d_Core_allows_17 : decode b_Core_allows 17 = .ok (.if_icmp .ne 11, 3) := by decide +kernel
theorem d_Core_allows_20 : decode b_Core_allows 20 = .ok (.iload_n 2, 1) := by decide +kernel
theorem d_Core_allows_21 : decode b_Core_allows 21 = .ok (.ifCond .ne 7, 3) := by decide +kernel
theorem d_Core_allows_24 : decode b_Core_allows 24 = .ok (.iconst 1, 1) := by decide +kernel
theorem d_Core_allows_25 : decode b_Core_allows 25 = .ok (.goto 4, 3) := by decide +kernel
theorem d_Core_allows_28 : decode b_Core_allows 28 = .ok (.iconst 0, 1) := by decide +kernel
theorem d_Core_allows_29 : decode b_Core_allows 29 = .ok (.ireturn, 1) := by decide +kernel
theorem d_Core_perform_0 : decode b_Core_perform 0 = .ok (.aload_n 0, 1) := by decide +kernel
theorem d_Core_perform_1 : decode b_Core_perform 1 = .ok (.getfield 32, 3) := by decide +kernel
theorem d_Core_perform_4 : decode b_Core_perform 4 = .ok (.iload_n 2, 1) := by decide +kernel
theorem d_Core_perform_5 : decode b_Core_perform 5 = .ok (.iaload, 1) := by decide +kernel
theorem d_Core_perform_6 : decode b_Core_perform 6 = .ok (.istore_n 3, 1) := by decide +kernel
theorem d_Core_perform_7 : decode b_Core_perform 7 = .ok (.iload_n 1, 1) := by decide +kernel
theorem d_Core_perform_8 : decode b_Core_perform 8 = .ok (.ifCond .eq 13, 3) := by decide +kernel
theorem d_Core_perform_11 : decode b_Core_perform 11 = .ok (.aload_n 0, 1) := by decide +kernel
theorem d_Core_perform_12 : decode b_Core_perform 12 = .ok (.getfield 32, 3) := by decide +kernel
theorem d_Core_perform_15 : decode b_Core_perform 15 = .ok (.iload_n 2, 1) := by decide +kernel
theorem d_Core_perform_16 : decode b_Core_perform 16 = .ok (.aload_n 0, 1) := by decide +kernel
theorem d_Core_perform_17 : decode b_Core_perform 17 = .ok (.getfield 69, 3) := by decide +kernel
theorem d_Core_perform_20 : decode b_Core_perform 20 = .ok (.iastore, 1) := by decide +kernel
theorem d_Core_perform_21 : decode b_Core_perform 21 = .ok (.iload_n 1, 1) := by decide +kernel
theorem d_Core_perform_22 : decode b_Core_perform 22 = .ok (.iconst 1, 1) := by decide +kernel
theorem d_Core_perform_23 : decode b_Core_perform 23 = .ok (.if_icmp .eq 8, 3) := by decide +kernel
theorem d_Core_perform_26 : decode b_Core_perform 26 = .ok (.aload_n 0, 1) := by decide +kernel
theorem d_Core_perform_27 : decode b_Core_perform 27 = .ok (.iload_n 3, 1) := by decide +kernel
theorem d_Core_perform_28 : decode b_Core_perform 28 = .ok (.putfield 69, 3) := by decide +kernel
theorem d_Core_perform_31 : decode b_Core_perform 31 = .ok (.aload_n 0, 1) := by decide +kernel
theorem d_Core_perform_32 : decode b_Core_perform 32 = .ok (.dup, 1) := by decide +kernel
theorem d_Core_perform_33 : decode b_Core_perform 33 = .ok (.getfield 92, 3) := by decide +kernel
theorem d_Core_perform_36 : decode b_Core_perform 36 = .ok (.iconst 1, 1) := by decide +kernel
theorem d_Core_perform_37 : decode b_Core_perform 37 = .ok (.iadd, 1) := by decide +kernel
theorem d_Core_perform_38 : decode b_Core_perform 38 = .ok (.putfield 92, 3) := by decide +kernel
theorem d_Core_perform_41 : decode b_Core_perform 41 = .ok (.aload_n 0, 1) := by decide +kernel
theorem d_Core_perform_42 : decode b_Core_perform 42 = .ok (.getfield 38, 3) := by decide +kernel
theorem d_Core_perform_45 : decode b_Core_perform 45 = .ok (.iload_n 2, 1) := by decide +kernel
theorem d_Core_perform_46 : decode b_Core_perform 46 = .ok (.aload_n 0, 1) := by decide +kernel
theorem d_Core_perform_47 : decode b_Core_perform 47 = .ok (.getfield 92, 3) := by decide +kernel
theorem d_Core_perform_50 : decode b_Core_perform 50 = .ok (.iastore, 1) := by decide +kernel
theorem d_Core_perform_51 : decode b_Core_perform 51 = .ok (.aload_n 0, 1) := by decide +kernel
theorem d_Core_perform_52 : decode b_Core_perform 52 = .ok (.dup, 1) := by decide +kernel
theorem d_Core_perform_53 : decode b_Core_perform 53 = .ok (.getfield 58, 3) := by decide +kernel
theorem d_Core_perform_56 : decode b_Core_perform 56 = .ok (.iconst 1, 1) := by decide +kernel
theorem d_Core_perform_57 : decode b_Core_perform 57 = .ok (.iadd, 1) := by decide +kernel
theorem d_Core_perform_58 : decode b_Core_perform 58 = .ok (.putfield 58, 3) := by decide +kernel
theorem d_Core_perform_61 : decode b_Core_perform 61 = .ok (.return_, 1) := by decide +kernel
theorem d_Core_linesInUse_0 : decode b_Core_linesInUse 0 = .ok (.iconst 0, 1) := by decide +kernel
theorem d_Core_linesInUse_1 : decode b_Core_linesInUse 1 = .ok (.istore_n 1, 1) := by decide +kernel
theorem d_Core_linesInUse_2 : decode b_Core_linesInUse 2 = .ok (.iconst 0, 1) := by decide +kernel
theorem d_Core_linesInUse_3 : decode b_Core_linesInUse 3 = .ok (.istore_n 2, 1) := by decide +kernel
theorem d_Core_linesInUse_4 : decode b_Core_linesInUse 4 = .ok (.iload_n 2, 1) := by decide +kernel
theorem d_Core_linesInUse_5 : decode b_Core_linesInUse 5 = .ok (.iconst 4, 1) := by decide +kernel
theorem d_Core_linesInUse_6 : decode b_Core_linesInUse 6 = .ok (.if_icmp .ge 21, 3) := by decide +kernel
theorem d_Core_linesInUse_9 : decode b_Core_linesInUse 9 = .ok (.aload_n 0, 1) := by decide +kernel
theorem d_Core_linesInUse_10 : decode b_Core_linesInUse 10 = .ok (.getfield 29, 3) := by decide +kernel
theorem d_Core_linesInUse_13 : decode b_Core_linesInUse 13 = .ok (.iload_n 2, 1) := by decide +kernel
theorem d_Core_linesInUse_14 : decode b_Core_linesInUse 14 = .ok (.iaload, 1) := by decide +kernel
theorem d_Core_linesInUse_15 : decode b_Core_linesInUse 15 = .ok (.ifCond .eq 6, 3) := by decide +kernel
theorem d_Core_linesInUse_18 : decode b_Core_linesInUse 18 = .ok (.iinc 1 1, 3) := by decide +kernel
theorem d_Core_linesInUse_21 : decode b_Core_linesInUse 21 = .ok (.iinc 2 1, 3) := by decide +kernel
theorem d_Core_linesInUse_24 : decode b_Core_linesInUse 24 = .ok (.goto (-20), 3) := by decide +kernel
theorem d_Core_linesInUse_27 : decode b_Core_linesInUse 27 = .ok (.iload_n 1, 1) := by decide +kernel
theorem d_Core_linesInUse_28 : decode b_Core_linesInUse 28 = .ok (.ireturn, 1) := by decide +kernel
theorem d_Core_leastLatelyUsed_0 : decode b_Core_leastLatelyUsed 0 = .ok (.iconst 0, 1) := by decide +kernel
theorem d_Core_leastLatelyUsed_1 : decode b_Core_leastLatelyUsed 1 = .ok (.istore_n 1, 1) := by decide +kernel
theorem d_Core_leastLatelyUsed_2 : decode b_Core_leastLatelyUsed 2 = .ok (.iconst 1, 1) := by decide +kernel
theorem d_Core_leastLatelyUsed_3 : decode b_Core_leastLatelyUsed 3 = .ok (.istore_n 2, 1) := by decide +kernel
theorem d_Core_leastLatelyUsed_4 : decode b_Core_leastLatelyUsed 4 = .ok (.iload_n 2, 1) := by decide +kernel
theorem d_Core_leastLatelyUsed_5 : decode b_Core_leastLatelyUsed 5 = .ok (.iconst 4, 1) := by decide +kernel
theorem d_Core_leastLatelyUsed_6 : decode b_Core_leastLatelyUsed 6 = .ok (.if_icmp .ge 44, 3) := by decide +kernel
theorem d_Core_leastLatelyUsed_9 : decode b_Core_leastLatelyUsed 9 = .ok (.aload_n 0, 1) := by decide +kernel
theorem d_Core_leastLatelyUsed_10 : decode b_Core_leastLatelyUsed 10 = .ok (.getfield 29, 3) := by decide +kernel
theorem d_Core_leastLatelyUsed_13 : decode b_Core_leastLatelyUsed 13 = .ok (.iload_n 2, 1) := by decide +kernel
theorem d_Core_leastLatelyUsed_14 : decode b_Core_leastLatelyUsed 14 = .ok (.iaload, 1) := by decide +kernel
theorem d_Core_leastLatelyUsed_15 : decode b_Core_leastLatelyUsed 15 = .ok (.ifCond .eq 29, 3) := by decide +kernel
theorem d_Core_leastLatelyUsed_18 : decode b_Core_leastLatelyUsed 18 = .ok (.aload_n 0, 1) := by decide +kernel
theorem d_Core_leastLatelyUsed_19 : decode b_Core_leastLatelyUsed 19 = .ok (.getfield 29, 3) := by decide +kernel
theorem d_Core_leastLatelyUsed_22 : decode b_Core_leastLatelyUsed 22 = .ok (.iload_n 1, 1) := by decide +kernel
theorem d_Core_leastLatelyUsed_23 : decode b_Core_leastLatelyUsed 23 = .ok (.iaload, 1) := by decide +kernel
theorem d_Core_leastLatelyUsed_24 : decode b_Core_leastLatelyUsed 24 = .ok (.ifCond .eq 18, 3) := by decide +kernel
theorem d_Core_leastLatelyUsed_27 : decode b_Core_leastLatelyUsed 27 = .ok (.aload_n 0, 1) := by decide +kernel
theorem d_Core_leastLatelyUsed_28 : decode b_Core_leastLatelyUsed 28 = .ok (.getfield 38, 3) := by decide +kernel
theorem d_Core_leastLatelyUsed_31 : decode b_Core_leastLatelyUsed 31 = .ok (.iload_n 2, 1) := by decide +kernel
theorem d_Core_leastLatelyUsed_32 : decode b_Core_leastLatelyUsed 32 = .ok (.iaload, 1) := by decide +kernel
theorem d_Core_leastLatelyUsed_33 : decode b_Core_leastLatelyUsed 33 = .ok (.aload_n 0, 1) := by decide +kernel
theorem d_Core_leastLatelyUsed_34 : decode b_Core_leastLatelyUsed 34 = .ok (.getfield 38, 3) := by decide +kernel
theorem d_Core_leastLatelyUsed_37 : decode b_Core_leastLatelyUsed 37 = .ok (.iload_n 1, 1) := by decide +kernel
theorem d_Core_leastLatelyUsed_38 : decode b_Core_leastLatelyUsed 38 = .ok (.iaload, 1) := by decide +kernel
theorem d_Core_leastLatelyUsed_39 : decode b_Core_leastLatelyUsed 39 = .ok (.if_icmp .ge 5, 3) := by decide +kernel
theorem d_Core_leastLatelyUsed_42 : decode b_Core_leastLatelyUsed 42 = .ok (.iload_n 2, 1) := by decide +kernel
theorem d_Core_leastLatelyUsed_43 : decode b_Core_leastLatelyUsed 43 = .ok (.istore_n 1, 1) := by decide +kernel
theorem d_Core_leastLatelyUsed_44 : decode b_Core_leastLatelyUsed 44 = .ok (.iinc 2 1, 3) := by decide +kernel
theorem d_Core_leastLatelyUsed_47 : decode b_Core_leastLatelyUsed 47 = .ok (.goto (-43), 3) := by decide +kernel
theorem d_Core_leastLatelyUsed_50 : decode b_Core_leastLatelyUsed 50 = .ok (.iload_n 1, 1) := by decide +kernel
theorem d_Core_leastLatelyUsed_51 : decode b_Core_leastLatelyUsed 51 = .ok (.ireturn, 1) := by decide +kernel
theorem d_Core_replace_0 : decode b_Core_replace 0 = .ok (.aload_n 0, 1) := by decide +kernel
theorem d_Core_replace_1 : decode b_Core_replace 1 = .ok (.getfield 29, 3) := by decide +kernel
theorem d_Core_replace_4 : decode b_Core_replace 4 = .ok (.iload_n 1, 1) := by decide +kernel
theorem d_Core_replace_5 : decode b_Core_replace 5 = .ok (.iaload, 1) := by decide +kernel
theorem d_Core_replace_6 : decode b_Core_replace 6 = .ok (.iconst 2, 1) := by decide +kernel
theorem d_Core_replace_7 : decode b_Core_replace 7 = .ok (.if_icmp .ne 34, 3) := by decide +kernel
theorem d_Core_replace_10 : decode b_Core_replace 10 = .ok (.aload_n 0, 1) := by decide +kernel
theorem d_Core_replace_11 : decode b_Core_replace 11 = .ok (.getfield 18, 3) := by decide +kernel
theorem d_Core_replace_14 : decode b_Core_replace 14 = .ok (.iconst 3, 1) := by decide +kernel
theorem d_Core_replace_15 : decode b_Core_replace 15 = .ok (.aload_n 0, 1) := by decide +kernel
theorem d_Core_replace_16 : decode b_Core_replace 16 = .ok (.getfield 9, 3) := by decide +kernel
theorem d_Core_replace_19 : decode b_Core_replace 19 = .ok (.iconst 4, 1) := by decide +kernel
theorem d_Core_replace_20 : decode b_Core_replace 20 = .ok (.iload_n 1, 1) := by decide +kernel
theorem d_Core_replace_21 : decode b_Core_replace 21 = .ok (.aload_n 0, 1) := by decide +kernel
theorem d_Core_replace_22 : decode b_Core_replace 22 = .ok (.getfield 32, 3) := by decide +kernel
theorem d_Core_replace_25 : decode b_Core_replace 25 = .ok (.iload_n 1, 1) := by decide +kernel
theorem d_Core_replace_26 : decode b_Core_replace 26 = .ok (.iaload, 1) := by decide +kernel
theorem d_Core_replace_27 : decode b_Core_replace 27 = .ok (.invokevirtual 95, 3) := by decide +kernel
theorem d_Core_replace_30 : decode b_Core_replace 30 = .ok (.aload_n 0, 1) := by decide +kernel
theorem d_Core_replace_31 : decode b_Core_replace 31 = .ok (.getfield 29, 3) := by decide +kernel
theorem d_Core_replace_34 : decode b_Core_replace 34 = .ok (.iload_n 1, 1) := by decide +kernel
theorem d_Core_replace_35 : decode b_Core_replace 35 = .ok (.bipush 8, 2) := by decide +kernel
theorem d_Core_replace_37 : decode b_Core_replace 37 = .ok (.iastore, 1) := by decide +kernel
theorem d_Core_replace_38 : decode b_Core_replace 38 = .ok (.goto 25, 3) := by decide +kernel
theorem d_Core_replace_41 : decode b_Core_replace 41 = .ok (.aload_n 0, 1) := by decide +kernel
theorem d_Core_replace_42 : decode b_Core_replace 42 = .ok (.getfield 18, 3) := by decide +kernel
theorem d_Core_replace_45 : decode b_Core_replace 45 = .ok (.iconst 2, 1) := by decide +kernel
theorem d_Core_replace_46 : decode b_Core_replace 46 = .ok (.aload_n 0, 1) := by decide +kernel
theorem d_Core_replace_47 : decode b_Core_replace 47 = .ok (.getfield 9, 3) := by decide +kernel
theorem d_Core_replace_50 : decode b_Core_replace 50 = .ok (.iconst 4, 1) := by decide +kernel
theorem d_Core_replace_51 : decode b_Core_replace 51 = .ok (.iload_n 1, 1) := by decide +kernel
theorem d_Core_replace_52 : decode b_Core_replace 52 = .ok (.invokevirtual 101, 3) := by decide +kernel
theorem d_Core_replace_55 : decode b_Core_replace 55 = .ok (.aload_n 0, 1) := by decide +kernel
theorem d_Core_replace_56 : decode b_Core_replace 56 = .ok (.getfield 29, 3) := by decide +kernel
theorem d_Core_replace_59 : decode b_Core_replace 59 = .ok (.iload_n 1, 1) := by decide +kernel
theorem d_Core_replace_60 : decode b_Core_replace 60 = .ok (.bipush 9, 2) := by decide +kernel
theorem d_Core_replace_62 : decode b_Core_replace 62 = .ok (.iastore, 1) := by decide +kernel
theorem d_Core_replace_63 : decode b_Core_replace 63 = .ok (.aload_n 0, 1) := by decide +kernel
theorem d_Core_replace_64 : decode b_Core_replace 64 = .ok (.bipush 64, 2) := by decide +kernel
theorem d_Core_replace_66 : decode b_Core_replace 66 = .ok (.putfield 55, 3) := by decide +kernel
theorem d_Core_replace_69 : decode b_Core_replace 69 = .ok (.return_, 1) := by decide +kernel
theorem d_Core_request_0 : decode b_Core_request 0 = .ok (.iload_n 1, 1) := by decide +kernel
theorem d_Core_request_1 : decode b_Core_request 1 = .ok (.ifCond .ne 27, 3) := by decide +kernel
theorem d_Core_request_4 : decode b_Core_request 4 = .ok (.aload_n 0, 1) := by decide +kernel
theorem d_Core_request_5 : decode b_Core_request 5 = .ok (.getfield 18, 3) := by decide +kernel
theorem d_Core_request_8 : decode b_Core_request 8 = .ok (.iconst 0, 1) := by decide +kernel
theorem d_Core_request_9 : decode b_Core_request 9 = .ok (.aload_n 0, 1) := by decide +kernel
theorem d_Core_request_10 : decode b_Core_request 10 = .ok (.getfield 9, 3) := by decide +kernel
theorem d_Core_request_13 : decode b_Core_request 13 = .ok (.iconst 4, 1) := by decide +kernel
theorem d_Core_request_14 : decode b_Core_request 14 = .ok (.iload_n 2, 1) := by decide +kernel
theorem d_Core_request_15 : decode b_Core_request 15 = .ok (.invokevirtual 101, 3) := by decide +kernel
theorem d_Core_request_18 : decode b_Core_request 18 = .ok (.aload_n 0, 1) := by decide +kernel
theorem d_Core_request_19 : decode b_Core_request 19 = .ok (.getfield 29, 3) := by decide +kernel
theorem d_Core_request_22 : decode b_Core_request 22 = .ok (.iload_n 2, 1) := by decide +kernel
theorem d_Core_request_23 : decode b_Core_request 23 = .ok (.iconst 3, 1) := by decide +kernel
theorem d_Core_request_24 : decode b_Core_request 24 = .ok (.iastore, 1) := by decide +kernel
theorem d_Core_request_25 : decode b_Core_request 25 = .ok (.goto 46, 3) := by decide +kernel
theorem d_Core_request_28 : decode b_Core_request 28 = .ok (.aload_n 0, 1) := by decide +kernel
theorem d_Core_request_29 : decode b_Core_request 29 = .ok (.getfield 18, 3) := by decide +kernel
theorem d_Core_request_32 : decode b_Core_request 32 = .ok (.iconst 1, 1) := by decide +kernel
theorem d_Core_request_33 : decode b_Core_request 33 = .ok (.aload_n 0, 1) := by decide +kernel
theorem d_Core_request_34 : decode b_Core_request 34 = .ok (.getfield 9, 3) := by decide +kernel
theorem d_Core_request_37 : decode b_Core_request 37 = .ok (.iconst 4, 1) := by decide +kernel
theorem d_Core_request_38 : decode b_Core_request 38 = .ok (.iload_n 2, 1) := by decide +kernel
theorem d_Core_request_39 : decode b_Core_request 39 = .ok (.invokevirtual 101, 3) := by decide +kernel
theorem d_Core_request_42 : decode b_Core_request 42 = .ok (.aload_n 0, 1) := by decide +kernel
theorem d_Core_request_43 : decode b_Core_request 43 = .ok (.getfield 29, 3) := by decide +kernel
theorem d_Core_request_46 : decode b_Core_request 46 = .ok (.iload_n 2, 1) := by decide +kernel
theorem d_Core_request_47 : decode b_Core_request 47 = .ok (.aload_n 0, 1) := by decide +kernel
theorem d_Core_request_48 : decode b_Core_request 48 = .ok (.getfield 29, 3) := by decide +kernel
theorem d_Core_request_51 : decode b_Core_request 51 = .ok (.iload_n 2, 1) := by decide +kernel
theorem d_Core_request_52 : decode b_Core_request 52 = .ok (.iaload, 1) := by decide +kernel
theorem d_Core_request_53 : decode b_Core_request 53 = .ok (.iconst 1, 1) := by decide +kernel
theorem d_Core_request_54 : decode b_Core_request 54 = .ok (.if_icmp .ne 8, 3) := by decide +kernel
theorem d_Core_request_57 : decode b_Core_request 57 = .ok (.bipush 6, 2) := by decide +kernel
theorem d_Core_request_59 : decode b_Core_request 59 = .ok (.goto 4, 3) := by decide +kernel
theorem d_Core_request_62 : decode b_Core_request 62 = .ok (.iconst 4, 1) := by decide +kernel
theorem d_Core_request_63 : decode b_Core_request 63 = .ok (.iastore, 1) := by decide +kernel
theorem d_Core_request_64 : decode b_Core_request 64 = .ok (.aload_n 0, 1) := by decide +kernel
theorem d_Core_request_65 : decode b_Core_request 65 = .ok (.getfield 35, 3) := by decide +kernel
theorem d_Core_request_68 : decode b_Core_request 68 = .ok (.iload_n 2, 1) := by decide +kernel
theorem d_Core_request_69 : decode b_Core_request 69 = .ok (.iconst 0, 1) := by decide +kernel
theorem d_Core_request_70 : decode b_Core_request 70 = .ok (.iastore, 1) := by decide +kernel
theorem d_Core_request_71 : decode b_Core_request 71 = .ok (.aload_n 0, 1) := by decide +kernel
theorem d_Core_request_72 : decode b_Core_request 72 = .ok (.bipush 32, 2) := by decide +kernel
theorem d_Core_request_74 : decode b_Core_request 74 = .ok (.putfield 55, 3) := by decide +kernel
theorem d_Core_request_77 : decode b_Core_request 77 = .ok (.return_, 1) := by decide +kernel
theorem d_Core_meaningOf_0 : decode b_Core_meaningOf 0 = .ok (.aload_n 0, 1) := by decide +kernel
theorem d_Core_meaningOf_1 : decode b_Core_meaningOf 1 = .ok (.getfield 29, 3) := by decide +kernel
theorem d_Core_meaningOf_4 : decode b_Core_meaningOf 4 = .ok (.iload_n 1, 1) := by decide +kernel
theorem d_Core_meaningOf_5 : decode b_Core_meaningOf 5 = .ok (.iaload, 1) := by decide +kernel
theorem d_Core_meaningOf_6 : decode b_Core_meaningOf 6 = .ok (.tableswitch 57 1 9 #[50, 50, 57, 57, 57, 50, 50, 50, 50], 50) := by decide +kernel
theorem d_Core_meaningOf_56 : decode b_Core_meaningOf 56 = .ok (.aload_n 0, 1) := by decide +kernel
theorem d_Core_meaningOf_57 : decode b_Core_meaningOf 57 = .ok (.getfield 32, 3) := by decide +kernel
theorem d_Core_meaningOf_60 : decode b_Core_meaningOf 60 = .ok (.iload_n 1, 1) := by decide +kernel
theorem d_Core_meaningOf_61 : decode b_Core_meaningOf 61 = .ok (.iaload, 1) := by decide +kernel
theorem d_Core_meaningOf_62 : decode b_Core_meaningOf 62 = .ok (.ireturn, 1) := by decide +kernel
theorem d_Core_meaningOf_63 : decode b_Core_meaningOf 63 = .ok (.iconst 0, 1) := by decide +kernel
theorem d_Core_meaningOf_64 : decode b_Core_meaningOf 64 = .ok (.ireturn, 1) := by decide +kernel
theorem d_Core_stalls_0 : decode b_Core_stalls 0 = .ok (.aload_n 0, 1) := by decide +kernel
theorem d_Core_stalls_1 : decode b_Core_stalls 1 = .ok (.getfield 29, 3) := by decide +kernel
theorem d_Core_stalls_4 : decode b_Core_stalls 4 = .ok (.aload_n 1, 1) := by decide +kernel
theorem d_Core_stalls_5 : decode b_Core_stalls 5 = .ok (.getfield 105, 3) := by decide +kernel
theorem d_Core_stalls_8 : decode b_Core_stalls 8 = .ok (.iaload, 1) := by decide +kernel
theorem d_Core_stalls_9 : decode b_Core_stalls 9 = .ok (.istore_n 2, 1) := by decide +kernel
theorem d_Core_stalls_10 : decode b_Core_stalls 10 = .ok (.aload_n 1, 1) := by decide +kernel
theorem d_Core_stalls_11 : decode b_Core_stalls 11 = .ok (.getfield 110, 3) := by decide +kernel
theorem d_Core_stalls_14 : decode b_Core_stalls 14 = .ok (.bipush 6, 2) := by decide +kernel
theorem d_Core_stalls_16 : decode b_Core_stalls 16 = .ok (.if_icmp .ne 14, 3) := by decide +kernel
theorem d_Core_stalls_19 : decode b_Core_stalls 19 = .ok (.iload_n 2, 1) := by decide +kernel
theorem d_Core_stalls_20 : decode b_Core_stalls 20 = .ok (.iconst 3, 1) := by decide +kernel
theorem d_Core_stalls_21 : decode b_Core_stalls 21 = .ok (.if_icmp .ne 7, 3) := by decide +kernel
theorem d_Core_stalls_24 : decode b_Core_stalls 24 = .ok (.iconst 1, 1) := by decide +kernel
theorem d_Core_stalls_25 : decode b_Core_stalls 25 = .ok (.goto 4, 3) := by decide +kernel
theorem d_Core_stalls_28 : decode b_Core_stalls 28 = .ok (.iconst 0, 1) := by decide +kernel
theorem d_Core_stalls_29 : decode b_Core_stalls 29 = .ok (.ireturn, 1) := by decide +kernel
theorem d_Core_stalls_30 : decode b_Core_stalls 30 = .ok (.aload_n 1, 1) := by decide +kernel
theorem d_Core_stalls_31 : decode b_Core_stalls 31 = .ok (.getfield 110, 3) := by decide +kernel
theorem d_Core_stalls_34 : decode b_Core_stalls 34 = .ok (.iconst 4, 1) := by decide +kernel
theorem d_Core_stalls_35 : decode b_Core_stalls 35 = .ok (.if_icmp .eq 11, 3) := by decide +kernel
theorem d_Core_stalls_38 : decode b_Core_stalls 38 = .ok (.aload_n 1, 1) := by decide +kernel
theorem d_Core_stalls_39 : decode b_Core_stalls 39 = .ok (.getfield 110, 3) := by decide +kernel
theorem d_Core_stalls_42 : decode b_Core_stalls 42 = .ok (.iconst 5, 1) := by decide +kernel
theorem d_Core_stalls_43 : decode b_Core_stalls 43 = .ok (.if_icmp .ne 7, 3) := by decide +kernel
theorem d_Core_stalls_46 : decode b_Core_stalls 46 = .ok (.iconst 1, 1) := by decide +kernel
theorem d_Core_stalls_47 : decode b_Core_stalls 47 = .ok (.goto 4, 3) := by decide +kernel
theorem d_Core_stalls_50 : decode b_Core_stalls 50 = .ok (.iconst 0, 1) := by decide +kernel
theorem d_Core_stalls_51 : decode b_Core_stalls 51 = .ok (.istore_n 3, 1) := by decide +kernel
theorem d_Core_stalls_52 : decode b_Core_stalls 52 = .ok (.iload_n 3, 1) := by decide +kernel
theorem d_Core_stalls_53 : decode b_Core_stalls 53 = .ok (.ifCond .eq 29, 3) := by decide +kernel
theorem d_Core_stalls_56 : decode b_Core_stalls 56 = .ok (.iload_n 2, 1) := by decide +kernel
theorem d_Core_stalls_57 : decode b_Core_stalls 57 = .ok (.iconst 4, 1) := by decide +kernel
theorem d_Core_stalls_58 : decode b_Core_stalls 58 = .ok (.if_icmp .eq 20, 3) := by decide +kernel
theorem d_Core_stalls_61 : decode b_Core_stalls 61 = .ok (.iload_n 2, 1) := by decide +kernel
theorem d_Core_stalls_62 : decode b_Core_stalls 62 = .ok (.iconst 5, 1) := by decide +kernel
theorem d_Core_stalls_63 : decode b_Core_stalls 63 = .ok (.if_icmp .eq 15, 3) := by decide +kernel
theorem d_Core_stalls_66 : decode b_Core_stalls 66 = .ok (.iload_n 2, 1) := by decide +kernel
theorem d_Core_stalls_67 : decode b_Core_stalls 67 = .ok (.bipush 6, 2) := by decide +kernel
theorem d_Core_stalls_69 : decode b_Core_stalls 69 = .ok (.if_icmp .eq 9, 3) := by decide +kernel
theorem d_Core_stalls_72 : decode b_Core_stalls 72 = .ok (.iload_n 2, 1) := by decide +kernel
theorem d_Core_stalls_73 : decode b_Core_stalls 73 = .ok (.bipush 7, 2) := by decide +kernel
theorem d_Core_stalls_75 : decode b_Core_stalls 75 = .ok (.if_icmp .ne 7, 3) := by decide +kernel
theorem d_Core_stalls_78 : decode b_Core_stalls 78 = .ok (.iconst 1, 1) := by decide +kernel
theorem d_Core_stalls_79 : decode b_Core_stalls 79 = .ok (.goto 4, 3) := by decide +kernel
theorem d_Core_stalls_82 : decode b_Core_stalls 82 = .ok (.iconst 0, 1) := by decide +kernel
theorem d_Core_stalls_83 : decode b_Core_stalls 83 = .ok (.ireturn, 1) := by decide +kernel
theorem d_Core_receive_0 : decode b_Core_receive 0 = .ok (.aload_n 1, 1) := by decide +kernel
theorem d_Core_receive_1 : decode b_Core_receive 1 = .ok (.getfield 110, 3) := by decide +kernel
theorem d_Core_receive_4 : decode b_Core_receive 4 = .ok (.tableswitch 94 4 9 #[67, 75, 59, 83, 40, 48], 40) := by decide +kernel
theorem d_Core_receive_44 : decode b_Core_receive 44 = .ok (.aload_n 0, 1) := by decide +kernel
theorem d_Core_receive_45 : decode b_Core_receive 45 = .ok (.aload_n 1, 1) := by decide +kernel
theorem d_Core_receive_46 : decode b_Core_receive 46 = .ok (.invokevirtual 113, 3) := by decide +kernel
theorem d_Core_receive_49 : decode b_Core_receive 49 = .ok (.goto 49, 3) := by decide +kernel
theorem d_Core_receive_52 : decode b_Core_receive 52 = .ok (.aload_n 0, 1) := by decide +kernel
theorem d_Core_receive_53 : decode b_Core_receive 53 = .ok (.aload_n 1, 1) := by decide +kernel
theorem d_Core_receive_54 : decode b_Core_receive 54 = .ok (.getfield 105, 3) := by decide +kernel
theorem d_Core_receive_57 : decode b_Core_receive 57 = .ok (.invokevirtual 117, 3) := by decide +kernel
theorem d_Core_receive_60 : decode b_Core_receive 60 = .ok (.goto 38, 3) := by decide +kernel
theorem d_Core_receive_63 : decode b_Core_receive 63 = .ok (.aload_n 0, 1) := by decide +kernel
theorem d_Core_receive_64 : decode b_Core_receive 64 = .ok (.aload_n 1, 1) := by decide +kernel
theorem d_Core_receive_65 : decode b_Core_receive 65 = .ok (.invokevirtual 120, 3) := by decide +kernel
theorem d_Core_receive_68 : decode b_Core_receive 68 = .ok (.goto 30, 3) := by decide +kernel
theorem d_Core_receive_71 : decode b_Core_receive 71 = .ok (.aload_n 0, 1) := by decide +kernel
theorem d_Core_receive_72 : decode b_Core_receive 72 = .ok (.aload_n 1, 1) := by decide +kernel
theorem d_Core_receive_73 : decode b_Core_receive 73 = .ok (.invokevirtual 123, 3) := by decide +kernel
theorem d_Core_receive_76 : decode b_Core_receive 76 = .ok (.goto 22, 3) := by decide +kernel
theorem d_Core_receive_79 : decode b_Core_receive 79 = .ok (.aload_n 0, 1) := by decide +kernel
theorem d_Core_receive_80 : decode b_Core_receive 80 = .ok (.aload_n 1, 1) := by decide +kernel
theorem d_Core_receive_81 : decode b_Core_receive 81 = .ok (.invokevirtual 126, 3) := by decide +kernel
theorem d_Core_receive_84 : decode b_Core_receive 84 = .ok (.goto 14, 3) := by decide +kernel
theorem d_Core_receive_87 : decode b_Core_receive 87 = .ok (.aload_n 0, 1) := by decide +kernel
theorem d_Core_receive_88 : decode b_Core_receive 88 = .ok (.aload_n 1, 1) := by decide +kernel
theorem d_Core_receive_89 : decode b_Core_receive 89 = .ok (.getfield 105, 3) := by decide +kernel
theorem d_Core_receive_92 : decode b_Core_receive 92 = .ok (.invokevirtual 129, 3) := by decide +kernel
theorem d_Core_receive_95 : decode b_Core_receive 95 = .ok (.goto 3, 3) := by decide +kernel
theorem d_Core_receive_98 : decode b_Core_receive 98 = .ok (.aload_n 0, 1) := by decide +kernel
theorem d_Core_receive_99 : decode b_Core_receive 99 = .ok (.aload_n 1, 1) := by decide +kernel
theorem d_Core_receive_100 : decode b_Core_receive 100 = .ok (.getfield 105, 3) := by decide +kernel
theorem d_Core_receive_103 : decode b_Core_receive 103 = .ok (.invokevirtual 132, 3) := by decide +kernel
theorem d_Core_receive_106 : decode b_Core_receive 106 = .ok (.return_, 1) := by decide +kernel
theorem d_Core_takeData_0 : decode b_Core_takeData 0 = .ok (.aload_n 1, 1) := by decide +kernel
theorem d_Core_takeData_1 : decode b_Core_takeData 1 = .ok (.getfield 105, 3) := by decide +kernel
theorem d_Core_takeData_4 : decode b_Core_takeData 4 = .ok (.istore_n 2, 1) := by decide +kernel
theorem d_Core_takeData_5 : decode b_Core_takeData 5 = .ok (.aload_n 0, 1) := by decide +kernel
theorem d_Core_takeData_6 : decode b_Core_takeData 6 = .ok (.getfield 29, 3) := by decide +kernel
theorem d_Core_takeData_9 : decode b_Core_takeData 9 = .ok (.iload_n 2, 1) := by decide +kernel
theorem d_Core_takeData_10 : decode b_Core_takeData 10 = .ok (.iaload, 1) := by decide +kernel
theorem d_Core_takeData_11 : decode b_Core_takeData 11 = .ok (.istore_n 3, 1) := by decide +kernel
theorem d_Core_takeData_12 : decode b_Core_takeData 12 = .ok (.iload_n 3, 1) := by decide +kernel
theorem d_Core_takeData_13 : decode b_Core_takeData 13 = .ok (.iconst 3, 1) := by decide +kernel
theorem d_Core_takeData_14 : decode b_Core_takeData 14 = .ok (.if_icmp .ne 23, 3) := by decide +kernel
theorem d_Core_takeData_17 : decode b_Core_takeData 17 = .ok (.aload_n 0, 1) := by decide +kernel
theorem d_Core_takeData_18 : decode b_Core_takeData 18 = .ok (.getfield 32, 3) := by decide +kernel
theorem d_Core_takeData_21 : decode b_Core_takeData 21 = .ok (.iload_n 2, 1) := by decide +kernel
theorem d_Core_takeData_22 : decode b_Core_takeData 22 = .ok (.aload_n 1, 1) := by decide +kernel
theorem d_Core_takeData_23 : decode b_Core_takeData 23 = .ok (.getfield 135, 3) := by decide +kernel
theorem d_Core_takeData_26 : decode b_Core_takeData 26 = .ok (.iastore, 1) := by decide +kernel
theorem d_Core_takeData_27 : decode b_Core_takeData 27 = .ok (.aload_n 0, 1) := by decide +kernel
theorem d_Core_takeData_28 : decode b_Core_takeData 28 = .ok (.getfield 29, 3) := by decide +kernel
theorem d_Core_takeData_31 : decode b_Core_takeData 31 = .ok (.iload_n 2, 1) := by decide +kernel
theorem d_Core_takeData_32 : decode b_Core_takeData 32 = .ok (.iconst 1, 1) := by decide +kernel
theorem d_Core_takeData_33 : decode b_Core_takeData 33 = .ok (.iastore, 1) := by decide +kernel
theorem d_Core_takeData_34 : decode b_Core_takeData 34 = .ok (.goto 73, 3) := by decide +kernel
theorem d_Core_takeData_37 : decode b_Core_takeData 37 = .ok (.iload_n 3, 1) := by decide +kernel
theorem d_Core_takeData_38 : decode b_Core_takeData 38 = .ok (.iconst 4, 1) := by decide +kernel
theorem d_Core_takeData_39 : decode b_Core_takeData 39 = .ok (.if_icmp .eq 9, 3) := by decide +kernel
theorem d_Core_takeData_42 : decode b_Core_takeData 42 = .ok (.iload_n 3, 1) := by decide +kernel
theorem d_Core_takeData_43 : decode b_Core_takeData 43 = .ok (.bipush 6, 2) := by decide +kernel
theorem d_Core_takeData_45 : decode b_Core_takeData 45 = .ok (.if_icmp .ne 62, 3) := by decide +kernel
theorem d_Core_takeData_48 : decode b_Core_takeData 48 = .ok (.aload_n 0, 1) := by decide +kernel
theorem d_Core_takeData_49 : decode b_Core_takeData 49 = .ok (.getfield 32, 3) := by decide +kernel
theorem d_Core_takeData_52 : decode b_Core_takeData 52 = .ok (.iload_n 2, 1) := by decide +kernel
theorem d_Core_takeData_53 : decode b_Core_takeData 53 = .ok (.aload_n 1, 1) := by decide +kernel
theorem d_Core_takeData_54 : decode b_Core_takeData 54 = .ok (.getfield 135, 3) := by decide +kernel
theorem d_Core_takeData_57 : decode b_Core_takeData 57 = .ok (.iastore, 1) := by decide +kernel
theorem d_Core_takeData_58 : decode b_Core_takeData 58 = .ok (.aload_n 0, 1) := by decide +kernel
theorem d_Core_takeData_59 : decode b_Core_takeData 59 = .ok (.getfield 35, 3) := by decide +kernel
theorem d_Core_takeData_62 : decode b_Core_takeData 62 = .ok (.iload_n 2, 1) := by decide +kernel
theorem d_Core_takeData_63 : decode b_Core_takeData 63 = .ok (.dup2, 1) := by decide +kernel
theorem d_Core_takeData_64 : decode b_Core_takeData 64 = .ok (.iaload, 1) := by decide +kernel
theorem d_Core_takeData_65 : decode b_Core_takeData 65 = .ok (.aload_n 1, 1) := by decide +kernel
theorem d_Core_takeData_66 : decode b_Core_takeData 66 = .ok (.getfield 138, 3) := by decide +kernel
theorem d_Core_takeData_69 : decode b_Core_takeData 69 = .ok (.iadd, 1) := by decide +kernel
theorem d_Core_takeData_70 : decode b_Core_takeData 70 = .ok (.iastore, 1) := by decide +kernel
theorem d_Core_takeData_71 : decode b_Core_takeData 71 = .ok (.aload_n 0, 1) := by decide +kernel
theorem d_Core_takeData_72 : decode b_Core_takeData 72 = .ok (.getfield 35, 3) := by decide +kernel
theorem d_Core_takeData_75 : decode b_Core_takeData 75 = .ok (.iload_n 2, 1) := by decide +kernel
theorem d_Core_takeData_76 : decode b_Core_takeData 76 = .ok (.iaload, 1) := by decide +kernel
theorem d_Core_takeData_77 : decode b_Core_takeData 77 = .ok (.ifCond .ne 13, 3) := by decide +kernel
theorem d_Core_takeData_80 : decode b_Core_takeData 80 = .ok (.aload_n 0, 1) := by decide +kernel
theorem d_Core_takeData_81 : decode b_Core_takeData 81 = .ok (.getfield 29, 3) := by decide +kernel
theorem d_Core_takeData_84 : decode b_Core_takeData 84 = .ok (.iload_n 2, 1) := by decide +kernel
theorem d_Core_takeData_85 : decode b_Core_takeData 85 = .ok (.iconst 2, 1) := by decide +kernel
theorem d_Core_takeData_86 : decode b_Core_takeData 86 = .ok (.iastore, 1) := by decide +kernel
theorem d_Core_takeData_87 : decode b_Core_takeData 87 = .ok (.goto 20, 3) := by decide +kernel
theorem d_Core_takeData_90 : decode b_Core_takeData 90 = .ok (.aload_n 0, 1) := by decide +kernel
theorem d_Core_takeData_91 : decode b_Core_takeData 91 = .ok (.getfield 29, 3) := by decide +kernel
theorem d_Core_takeData_94 : decode b_Core_takeData 94 = .ok (.iload_n 2, 1) := by decide +kernel
theorem d_Core_takeData_95 : decode b_Core_takeData 95 = .ok (.iload_n 3, 1) := by decide +kernel
theorem d_Core_takeData_96 : decode b_Core_takeData 96 = .ok (.iconst 4, 1) := by decide +kernel
theorem d_Core_takeData_97 : decode b_Core_takeData 97 = .ok (.if_icmp .ne 7, 3) := by decide +kernel
theorem d_Core_takeData_100 : decode b_Core_takeData 100 = .ok (.iconst 5, 1) := by decide +kernel
theorem d_Core_takeData_101 : decode b_Core_takeData 101 = .ok (.goto 5, 3) := by decide +kernel
theorem d_Core_takeData_104 : decode b_Core_takeData 104 = .ok (.bipush 7, 2) := by decide +kernel
theorem d_Core_takeData_106 : decode b_Core_takeData 106 = .ok (.iastore, 1) := by decide +kernel
theorem d_Core_takeData_107 : decode b_Core_takeData 107 = .ok (.return_, 1) := by decide +kernel
theorem d_Core_takeAck_0 : decode b_Core_takeAck 0 = .ok (.aload_n 0, 1) := by decide +kernel
theorem d_Core_takeAck_1 : decode b_Core_takeAck 1 = .ok (.getfield 29, 3) := by decide +kernel
theorem d_Core_takeAck_4 : decode b_Core_takeAck 4 = .ok (.iload_n 1, 1) := by decide +kernel
theorem d_Core_takeAck_5 : decode b_Core_takeAck 5 = .ok (.iaload, 1) := by decide +kernel
theorem d_Core_takeAck_6 : decode b_Core_takeAck 6 = .ok (.istore_n 2, 1) := by decide +kernel
theorem d_Core_takeAck_7 : decode b_Core_takeAck 7 = .ok (.aload_n 0, 1) := by decide +kernel
theorem d_Core_takeAck_8 : decode b_Core_takeAck 8 = .ok (.getfield 35, 3) := by decide +kernel
theorem d_Core_takeAck_11 : decode b_Core_takeAck 11 = .ok (.iload_n 1, 1) := by decide +kernel
theorem d_Core_takeAck_12 : decode b_Core_takeAck 12 = .ok (.dup2, 1) := by decide +kernel
theorem d_Core_takeAck_13 : decode b_Core_takeAck 13 = .ok (.iaload, 1) := by decide +kernel
theorem d_Core_takeAck_14 : decode b_Core_takeAck 14 = .ok (.iconst 1, 1) := by decide +kernel
theorem d_Core_takeAck_15 : decode b_Core_takeAck 15 = .ok (.isub, 1) := by decide +kernel
theorem d_Core_takeAck_16 : decode b_Core_takeAck 16 = .ok (.iastore, 1) := by decide +kernel
theorem d_Core_takeAck_17 : decode b_Core_takeAck 17 = .ok (.iload_n 2, 1) := by decide +kernel
theorem d_Core_takeAck_18 : decode b_Core_takeAck 18 = .ok (.iconst 5, 1) := by decide +kernel
theorem d_Core_takeAck_19 : decode b_Core_takeAck 19 = .ok (.if_icmp .eq 9, 3) := by decide +kernel
theorem d_Core_takeAck_22 : decode b_Core_takeAck 22 = .ok (.iload_n 2, 1) := by decide +kernel
theorem d_Core_takeAck_23 : decode b_Core_takeAck 23 = .ok (.bipush 7, 2) := by decide +kernel
theorem d_Core_takeAck_25 : decode b_Core_takeAck 25 = .ok (.if_icmp .ne 19, 3) := by decide +kernel
theorem d_Core_takeAck_28 : decode b_Core_takeAck 28 = .ok (.aload_n 0, 1) := by decide +kernel
theorem d_Core_takeAck_29 : decode b_Core_takeAck 29 = .ok (.getfield 35, 3) := by decide +kernel
theorem d_Core_takeAck_32 : decode b_Core_takeAck 32 = .ok (.iload_n 1, 1) := by decide +kernel
theorem d_Core_takeAck_33 : decode b_Core_takeAck 33 = .ok (.iaload, 1) := by decide +kernel
theorem d_Core_takeAck_34 : decode b_Core_takeAck 34 = .ok (.ifCond .ne 10, 3) := by decide +kernel
theorem d_Core_takeAck_37 : decode b_Core_takeAck 37 = .ok (.aload_n 0, 1) := by decide +kernel
theorem d_Core_takeAck_38 : decode b_Core_takeAck 38 = .ok (.getfield 29, 3) := by decide +kernel
theorem d_Core_takeAck_41 : decode b_Core_takeAck 41 = .ok (.iload_n 1, 1) := by decide +kernel
theorem d_Core_takeAck_42 : decode b_Core_takeAck 42 = .ok (.iconst 2, 1) := by decide +kernel
theorem d_Core_takeAck_43 : decode b_Core_takeAck 43 = .ok (.iastore, 1) := by decide +kernel
theorem d_Core_takeAck_44 : decode b_Core_takeAck 44 = .ok (.return_, 1) := by decide +kernel
theorem d_Core_giveUp_0 : decode b_Core_giveUp 0 = .ok (.aload_n 1, 1) := by decide +kernel
theorem d_Core_giveUp_1 : decode b_Core_giveUp 1 = .ok (.getfield 105, 3) := by decide +kernel
theorem d_Core_giveUp_4 : decode b_Core_giveUp 4 = .ok (.istore_n 2, 1) := by decide +kernel
theorem d_Core_giveUp_5 : decode b_Core_giveUp 5 = .ok (.aload_n 0, 1) := by decide +kernel
theorem d_Core_giveUp_6 : decode b_Core_giveUp 6 = .ok (.getfield 18, 3) := by decide +kernel
theorem d_Core_giveUp_9 : decode b_Core_giveUp 9 = .ok (.bipush 9, 2) := by decide +kernel
theorem d_Core_giveUp_11 : decode b_Core_giveUp 11 = .ok (.aload_n 0, 1) := by decide +kernel
theorem d_Core_giveUp_12 : decode b_Core_giveUp 12 = .ok (.getfield 9, 3) := by decide +kernel
theorem d_Core_giveUp_15 : decode b_Core_giveUp 15 = .ok (.aload_n 1, 1) := by decide +kernel
theorem d_Core_giveUp_16 : decode b_Core_giveUp 16 = .ok (.getfield 139, 3) := by decide +kernel
theorem d_Core_giveUp_19 : decode b_Core_giveUp 19 = .ok (.iload_n 2, 1) := by decide +kernel
theorem d_Core_giveUp_20 : decode b_Core_giveUp 20 = .ok (.invokevirtual 101, 3) := by decide +kernel
theorem d_Core_giveUp_23 : decode b_Core_giveUp 23 = .ok (.aload_n 0, 1) := by decide +kernel
theorem d_Core_giveUp_24 : decode b_Core_giveUp 24 = .ok (.getfield 29, 3) := by decide +kernel
theorem d_Core_giveUp_27 : decode b_Core_giveUp 27 = .ok (.iload_n 2, 1) := by decide +kernel
theorem d_Core_giveUp_28 : decode b_Core_giveUp 28 = .ok (.iaload, 1) := by decide +kernel
theorem d_Core_giveUp_29 : decode b_Core_giveUp 29 = .ok (.lookupswitch 66 #[(1, 35), (6, 45), (9, 55)], 35) := by decide +kernel
theorem d_Core_giveUp_64 : decode b_Core_giveUp 64 = .ok (.aload_n 0, 1) := by decide +kernel
theorem d_Core_giveUp_65 : decode b_Core_giveUp 65 = .ok (.getfield 29, 3) := by decide +kernel
theorem d_Core_giveUp_68 : decode b_Core_giveUp 68 = .ok (.iload_n 2, 1) := by decide +kernel
theorem d_Core_giveUp_69 : decode b_Core_giveUp 69 = .ok (.iconst 0, 1) := by decide +kernel
theorem d_Core_giveUp_70 : decode b_Core_giveUp 70 = .ok (.iastore, 1) := by decide +kernel
theorem d_Core_giveUp_71 : decode b_Core_giveUp 71 = .ok (.goto 24, 3) := by decide +kernel
theorem d_Core_giveUp_74 : decode b_Core_giveUp 74 = .ok (.aload_n 0, 1) := by decide +kernel
theorem d_Core_giveUp_75 : decode b_Core_giveUp 75 = .ok (.getfield 29, 3) := by decide +kernel
theorem d_Core_giveUp_78 : decode b_Core_giveUp 78 = .ok (.iload_n 2, 1) := by decide +kernel
theorem d_Core_giveUp_79 : decode b_Core_giveUp 79 = .ok (.iconst 4, 1) := by decide +kernel
theorem d_Core_giveUp_80 : decode b_Core_giveUp 80 = .ok (.iastore, 1) := by decide +kernel
theorem d_Core_giveUp_81 : decode b_Core_giveUp 81 = .ok (.goto 14, 3) := by decide +kernel
theorem d_Core_giveUp_84 : decode b_Core_giveUp 84 = .ok (.aload_n 0, 1) := by decide +kernel
theorem d_Core_giveUp_85 : decode b_Core_giveUp 85 = .ok (.getfield 29, 3) := by decide +kernel
theorem d_Core_giveUp_88 : decode b_Core_giveUp 88 = .ok (.iload_n 2, 1) := by decide +kernel
theorem d_Core_giveUp_89 : decode b_Core_giveUp 89 = .ok (.bipush 10, 2) := by decide +kernel
theorem d_Core_giveUp_91 : decode b_Core_giveUp 91 = .ok (.iastore, 1) := by decide +kernel
theorem d_Core_giveUp_92 : decode b_Core_giveUp 92 = .ok (.goto 3, 3) := by decide +kernel
theorem d_Core_giveUp_95 : decode b_Core_giveUp 95 = .ok (.return_, 1) := by decide +kernel
theorem d_Core_share_0 : decode b_Core_share 0 = .ok (.aload_n 1, 1) := by decide +kernel
theorem d_Core_share_1 : decode b_Core_share 1 = .ok (.getfield 105, 3) := by decide +kernel
theorem d_Core_share_4 : decode b_Core_share 4 = .ok (.istore_n 2, 1) := by decide +kernel
theorem d_Core_share_5 : decode b_Core_share 5 = .ok (.aload_n 0, 1) := by decide +kernel
theorem d_Core_share_6 : decode b_Core_share 6 = .ok (.getfield 18, 3) := by decide +kernel
theorem d_Core_share_9 : decode b_Core_share 9 = .ok (.aload_n 0, 1) := by decide +kernel
theorem d_Core_share_10 : decode b_Core_share 10 = .ok (.getfield 9, 3) := by decide +kernel
theorem d_Core_share_13 : decode b_Core_share 13 = .ok (.aload_n 1, 1) := by decide +kernel
theorem d_Core_share_14 : decode b_Core_share 14 = .ok (.getfield 139, 3) := by decide +kernel
theorem d_Core_share_17 : decode b_Core_share 17 = .ok (.iload_n 2, 1) := by decide +kernel
theorem d_Core_share_18 : decode b_Core_share 18 = .ok (.aload_n 0, 1) := by decide +kernel
theorem d_Core_share_19 : decode b_Core_share 19 = .ok (.getfield 32, 3) := by decide +kernel
theorem d_Core_share_22 : decode b_Core_share 22 = .ok (.iload_n 2, 1) := by decide +kernel
theorem d_Core_share_23 : decode b_Core_share 23 = .ok (.iaload, 1) := by decide +kernel
theorem d_Core_share_24 : decode b_Core_share 24 = .ok (.iconst 0, 1) := by decide +kernel
theorem d_Core_share_25 : decode b_Core_share 25 = .ok (.invokevirtual 142, 3) := by decide +kernel
theorem d_Core_share_28 : decode b_Core_share 28 = .ok (.aload_n 0, 1) := by decide +kernel
theorem d_Core_share_29 : decode b_Core_share 29 = .ok (.getfield 18, 3) := by decide +kernel
theorem d_Core_share_32 : decode b_Core_share 32 = .ok (.aload_n 0, 1) := by decide +kernel
theorem d_Core_share_33 : decode b_Core_share 33 = .ok (.getfield 9, 3) := by decide +kernel
theorem d_Core_share_36 : decode b_Core_share 36 = .ok (.iconst 4, 1) := by decide +kernel
theorem d_Core_share_37 : decode b_Core_share 37 = .ok (.iload_n 2, 1) := by decide +kernel
theorem d_Core_share_38 : decode b_Core_share 38 = .ok (.aload_n 0, 1) := by decide +kernel
theorem d_Core_share_39 : decode b_Core_share 39 = .ok (.getfield 32, 3) := by decide +kernel
theorem d_Core_share_42 : decode b_Core_share 42 = .ok (.iload_n 2, 1) := by decide +kernel
theorem d_Core_share_43 : decode b_Core_share 43 = .ok (.iaload, 1) := by decide +kernel
theorem d_Core_share_44 : decode b_Core_share 44 = .ok (.iconst 0, 1) := by decide +kernel
theorem d_Core_share_45 : decode b_Core_share 45 = .ok (.invokevirtual 142, 3) := by decide +kernel
theorem d_Core_share_48 : decode b_Core_share 48 = .ok (.aload_n 0, 1) := by decide +kernel
theorem d_Core_share_49 : decode b_Core_share 49 = .ok (.getfield 29, 3) := by decide +kernel
theorem d_Core_share_52 : decode b_Core_share 52 = .ok (.iload_n 2, 1) := by decide +kernel
theorem d_Core_share_53 : decode b_Core_share 53 = .ok (.aload_n 0, 1) := by decide +kernel
theorem d_Core_share_54 : decode b_Core_share 54 = .ok (.getfield 29, 3) := by decide +kernel
theorem d_Core_share_57 : decode b_Core_share 57 = .ok (.iload_n 2, 1) := by decide +kernel
theorem d_Core_share_58 : decode b_Core_share 58 = .ok (.iaload, 1) := by decide +kernel
theorem d_Core_share_59 : decode b_Core_share 59 = .ok (.bipush 8, 2) := by decide +kernel
theorem d_Core_share_61 : decode b_Core_share 61 = .ok (.if_icmp .ne 8, 3) := by decide +kernel
theorem d_Core_share_64 : decode b_Core_share 64 = .ok (.bipush 9, 2) := by decide +kernel
theorem d_Core_share_66 : decode b_Core_share 66 = .ok (.goto 4, 3) := by decide +kernel
theorem d_Core_share_69 : decode b_Core_share 69 = .ok (.iconst 1, 1) := by decide +kernel
theorem d_Core_share_70 : decode b_Core_share 70 = .ok (.iastore, 1) := by decide +kernel
theorem d_Core_share_71 : decode b_Core_share 71 = .ok (.return_, 1) := by decide +kernel
theorem d_Core_handOn_0 : decode b_Core_handOn 0 = .ok (.aload_n 1, 1) := by decide +kernel
theorem d_Core_handOn_1 : decode b_Core_handOn 1 = .ok (.getfield 105, 3) := by decide +kernel
theorem d_Core_handOn_4 : decode b_Core_handOn 4 = .ok (.istore_n 2, 1) := by decide +kernel
theorem d_Core_handOn_5 : decode b_Core_handOn 5 = .ok (.aload_n 0, 1) := by decide +kernel
theorem d_Core_handOn_6 : decode b_Core_handOn 6 = .ok (.getfield 18, 3) := by decide +kernel
theorem d_Core_handOn_9 : decode b_Core_handOn 9 = .ok (.aload_n 0, 1) := by decide +kernel
theorem d_Core_handOn_10 : decode b_Core_handOn 10 = .ok (.getfield 9, 3) := by decide +kernel
theorem d_Core_handOn_13 : decode b_Core_handOn 13 = .ok (.aload_n 1, 1) := by decide +kernel
theorem d_Core_handOn_14 : decode b_Core_handOn 14 = .ok (.getfield 139, 3) := by decide +kernel
theorem d_Core_handOn_17 : decode b_Core_handOn 17 = .ok (.iload_n 2, 1) := by decide +kernel
theorem d_Core_handOn_18 : decode b_Core_handOn 18 = .ok (.aload_n 0, 1) := by decide +kernel
theorem d_Core_handOn_19 : decode b_Core_handOn 19 = .ok (.getfield 32, 3) := by decide +kernel
theorem d_Core_handOn_22 : decode b_Core_handOn 22 = .ok (.iload_n 2, 1) := by decide +kernel
theorem d_Core_handOn_23 : decode b_Core_handOn 23 = .ok (.iaload, 1) := by decide +kernel
theorem d_Core_handOn_24 : decode b_Core_handOn 24 = .ok (.iconst 0, 1) := by decide +kernel
theorem d_Core_handOn_25 : decode b_Core_handOn 25 = .ok (.invokevirtual 142, 3) := by decide +kernel
theorem d_Core_handOn_28 : decode b_Core_handOn 28 = .ok (.aload_n 0, 1) := by decide +kernel
theorem d_Core_handOn_29 : decode b_Core_handOn 29 = .ok (.getfield 29, 3) := by decide +kernel
theorem d_Core_handOn_32 : decode b_Core_handOn 32 = .ok (.iload_n 2, 1) := by decide +kernel
theorem d_Core_handOn_33 : decode b_Core_handOn 33 = .ok (.aload_n 0, 1) := by decide +kernel
theorem d_Core_handOn_34 : decode b_Core_handOn 34 = .ok (.getfield 29, 3) := by decide +kernel
theorem d_Core_handOn_37 : decode b_Core_handOn 37 = .ok (.iload_n 2, 1) := by decide +kernel
theorem d_Core_handOn_38 : decode b_Core_handOn 38 = .ok (.iaload, 1) := by decide +kernel
theorem d_Core_handOn_39 : decode b_Core_handOn 39 = .ok (.bipush 8, 2) := by decide +kernel
theorem d_Core_handOn_41 : decode b_Core_handOn 41 = .ok (.if_icmp .ne 8, 3) := by decide +kernel
theorem d_Core_handOn_44 : decode b_Core_handOn 44 = .ok (.bipush 10, 2) := by decide +kernel
theorem d_Core_handOn_46 : decode b_Core_handOn 46 = .ok (.goto 4, 3) := by decide +kernel
theorem d_Core_handOn_49 : decode b_Core_handOn 49 = .ok (.iconst 0, 1) := by decide +kernel
theorem d_Core_handOn_50 : decode b_Core_handOn 50 = .ok (.iastore, 1) := by decide +kernel
theorem d_Core_handOn_51 : decode b_Core_handOn 51 = .ok (.return_, 1) := by decide +kernel
theorem d_Core_endReplacement_0 : decode b_Core_endReplacement 0 = .ok (.aload_n 0, 1) := by decide +kernel
theorem d_Core_endReplacement_1 : decode b_Core_endReplacement 1 = .ok (.getfield 29, 3) := by decide +kernel
theorem d_Core_endReplacement_4 : decode b_Core_endReplacement 4 = .ok (.iload_n 1, 1) := by decide +kernel
theorem d_Core_endReplacement_5 : decode b_Core_endReplacement 5 = .ok (.iconst 0, 1) := by decide +kernel
theorem d_Core_endReplacement_6 : decode b_Core_endReplacement 6 = .ok (.iastore, 1) := by decide +kernel
theorem d_Core_endReplacement_7 : decode b_Core_endReplacement 7 = .ok (.aload_n 0, 1) := by decide +kernel
theorem d_Core_endReplacement_8 : decode b_Core_endReplacement 8 = .ok (.iconst 0, 1) := by decide +kernel
theorem d_Core_endReplacement_9 : decode b_Core_endReplacement 9 = .ok (.putfield 55, 3) := by decide +kernel
theorem d_Core_endReplacement_12 : decode b_Core_endReplacement 12 = .ok (.return_, 1) := by decide +kernel
theorem d_Core_performIfAllowed_0 : decode b_Core_performIfAllowed 0 = .ok (.aload_n 0, 1) := by decide +kernel
theorem d_Core_performIfAllowed_1 : decode b_Core_performIfAllowed 1 = .ok (.getfield 55, 3) := by decide +kernel
theorem d_Core_performIfAllowed_4 : decode b_Core_performIfAllowed 4 = .ok (.bipush 32, 2) := by decide +kernel
theorem d_Core_performIfAllowed_6 : decode b_Core_performIfAllowed 6 = .ok (.if_icmp .ne 31, 3) := by decide +kernel
theorem d_Core_performIfAllowed_9 : decode b_Core_performIfAllowed 9 = .ok (.aload_n 0, 1) := by decide +kernel
theorem d_Core_performIfAllowed_10 : decode b_Core_performIfAllowed 10 = .ok (.getfield 58, 3) := by decide +kernel
theorem d_Core_performIfAllowed_13 : decode b_Core_performIfAllowed 13 = .ok (.aload_n 0, 1) := by decide +kernel
theorem d_Core_performIfAllowed_14 : decode b_Core_performIfAllowed 14 = .ok (.getfield 45, 3) := by decide +kernel
theorem d_Core_performIfAllowed_17 : decode b_Core_performIfAllowed 17 = .ok (.if_icmp .ge 20, 3) := by decide +kernel
theorem d_Core_performIfAllowed_20 : decode b_Core_performIfAllowed 20 = .ok (.aload_n 0, 1) := by decide +kernel
theorem d_Core_performIfAllowed_21 : decode b_Core_performIfAllowed 21 = .ok (.getfield 26, 3) := by decide +kernel
theorem d_Core_performIfAllowed_24 : decode b_Core_performIfAllowed 24 = .ok (.aload_n 0, 1) := by decide +kernel
theorem d_Core_performIfAllowed_25 : decode b_Core_performIfAllowed 25 = .ok (.getfield 58, 3) := by decide +kernel
theorem d_Core_performIfAllowed_28 : decode b_Core_performIfAllowed 28 = .ok (.iaload, 1) := by decide +kernel
theorem d_Core_performIfAllowed_29 : decode b_Core_performIfAllowed 29 = .ok (.iload_n 1, 1) := by decide +kernel
theorem d_Core_performIfAllowed_30 : decode b_Core_performIfAllowed 30 = .ok (.if_icmp .ne 7, 3) := by decide +kernel
theorem d_Core_performIfAllowed_33 : decode b_Core_performIfAllowed 33 = .ok (.iconst 1, 1) := by decide +kernel
theorem d_Core_performIfAllowed_34 : decode b_Core_performIfAllowed 34 = .ok (.goto 4, 3) := by decide +kernel
theorem d_Core_performIfAllowed_37 : decode b_Core_performIfAllowed 37 = .ok (.iconst 0, 1) := by decide +kernel
theorem d_Core_performIfAllowed_38 : decode b_Core_performIfAllowed 38 = .ok (.istore_n 2, 1) := by decide +kernel
theorem d_Core_performIfAllowed_39 : decode b_Core_performIfAllowed 39 = .ok (.iload_n 2, 1) := by decide +kernel
theorem d_Core_performIfAllowed_40 : decode b_Core_performIfAllowed 40 = .ok (.ifCond .eq 39, 3) := by decide +kernel
theorem d_Core_performIfAllowed_43 : decode b_Core_performIfAllowed 43 = .ok (.aload_n 0, 1) := by decide +kernel
theorem d_Core_performIfAllowed_44 : decode b_Core_performIfAllowed 44 = .ok (.iload_n 1, 1) := by decide +kernel
theorem d_Core_performIfAllowed_45 : decode b_Core_performIfAllowed 45 = .ok (.aload_n 0, 1) := by decide +kernel
theorem d_Core_performIfAllowed_46 : decode b_Core_performIfAllowed 46 = .ok (.getfield 22, 3) := by decide +kernel
theorem d_Core_performIfAllowed_49 : decode b_Core_performIfAllowed 49 = .ok (.aload_n 0, 1) := by decide +kernel
theorem d_Core_performIfAllowed_50 : decode b_Core_performIfAllowed 50 = .ok (.getfield 58, 3) := by decide +kernel
theorem d_Core_performIfAllowed_53 : decode b_Core_performIfAllowed 53 = .ok (.iaload, 1) := by decide +kernel
theorem d_Core_performIfAllowed_54 : decode b_Core_performIfAllowed 54 = .ok (.invokevirtual 72, 3) := by decide +kernel
theorem d_Core_performIfAllowed_57 : decode b_Core_performIfAllowed 57 = .ok (.ifCond .eq 22, 3) := by decide +kernel
theorem d_Core_performIfAllowed_60 : decode b_Core_performIfAllowed 60 = .ok (.aload_n 0, 1) := by decide +kernel
theorem d_Core_performIfAllowed_61 : decode b_Core_performIfAllowed 61 = .ok (.aload_n 0, 1) := by decide +kernel
theorem d_Core_performIfAllowed_62 : decode b_Core_performIfAllowed 62 = .ok (.getfield 22, 3) := by decide +kernel
theorem d_Core_performIfAllowed_65 : decode b_Core_performIfAllowed 65 = .ok (.aload_n 0, 1) := by decide +kernel
theorem d_Core_performIfAllowed_66 : decode b_Core_performIfAllowed 66 = .ok (.getfield 58, 3) := by decide +kernel
theorem d_Core_performIfAllowed_69 : decode b_Core_performIfAllowed 69 = .ok (.iaload, 1) := by decide +kernel
theorem d_Core_performIfAllowed_70 : decode b_Core_performIfAllowed 70 = .ok (.iload_n 1, 1) := by decide +kernel
theorem d_Core_performIfAllowed_71 : decode b_Core_performIfAllowed 71 = .ok (.invokevirtual 75, 3) := by decide +kernel
theorem d_Core_performIfAllowed_74 : decode b_Core_performIfAllowed 74 = .ok (.aload_n 0, 1) := by decide +kernel
theorem d_Core_performIfAllowed_75 : decode b_Core_performIfAllowed 75 = .ok (.iconst 0, 1) := by decide +kernel
theorem d_Core_performIfAllowed_76 : decode b_Core_performIfAllowed 76 = .ok (.putfield 55, 3) := by decide +kernel
theorem d_Core_performIfAllowed_79 : decode b_Core_performIfAllowed 79 = .ok (.return_, 1) := by decide +kernel
theorem d_Home_init_0 : decode b_Home_init 0 = .ok (.aload_n 0, 1) := by decide +kernel
theorem d_Home_init_1 : decode b_Home_init 1 = .ok (.invokespecial 3, 3) := by decide +kernel
theorem d_Home_init_4 : decode b_Home_init 4 = .ok (.aload_n 0, 1) := by decide +kernel
theorem d_Home_init_5 : decode b_Home_init 5 = .ok (.aload_n 1, 1) := by decide +kernel
theorem d_Home_init_6 : decode b_Home_init 6 = .ok (.putfield 9, 3) := by decide +kernel
theorem d_Home_init_9 : decode b_Home_init 9 = .ok (.aload_n 0, 1) := by decide +kernel
theorem d_Home_init_10 : decode b_Home_init 10 = .ok (.iconst 4, 1) := by decide +kernel
theorem d_Home_init_11 : decode b_Home_init 11 = .ok (.newarray .int, 2) := by decide +kernel
theorem d_Home_init_13 : decode b_Home_init 13 = .ok (.putfield 15, 3) := by decide +kernel
theorem d_Home_init_16 : decode b_Home_init 16 = .ok (.aload_n 0, 1) := by decide +kernel
theorem d_Home_init_17 : decode b_Home_init 17 = .ok (.iconst 4, 1) := by decide +kernel
theorem d_Home_init_18 : decode b_Home_init 18 = .ok (.newarray .int, 2) := by decide +kernel
theorem d_Home_init_20 : decode b_Home_init 20 = .ok (.putfield 19, 3) := by decide +kernel
theorem d_Home_init_23 : decode b_Home_init 23 = .ok (.aload_n 0, 1) := by decide +kernel
theorem d_Home_init_24 : decode b_Home_init 24 = .ok (.iconst 4, 1) := by decide +kernel
theorem d_Home_init_25 : decode b_Home_init 25 = .ok (.newarray .int, 2) := by decide +kernel
theorem d_Home_init_27 : decode b_Home_init 27 = .ok (.putfield 22, 3) := by decide +kernel
theorem d_Home_init_30 : decode b_Home_init 30 = .ok (.aload_n 0, 1) := by decide +kernel
theorem d_Home_init_31 : decode b_Home_init 31 = .ok (.getfield 22, 3) := by decide +kernel
theorem d_Home_init_34 : decode b_Home_init 34 = .ok (.iconst (-1), 1) := by decide +kernel
theorem d_Home_init_35 : decode b_Home_init 35 = .ok (.invokestatic 25, 3) := by decide +kernel
theorem d_Home_init_38 : decode b_Home_init 38 = .ok (.aload_n 0, 1) := by decide +kernel
theorem d_Home_init_39 : decode b_Home_init 39 = .ok (.iconst 4, 1) := by decide +kernel
theorem d_Home_init_40 : decode b_Home_init 40 = .ok (.newarray .int, 2) := by decide +kernel
theorem d_Home_init_42 : decode b_Home_init 42 = .ok (.putfield 31, 3) := by decide +kernel
theorem d_Home_init_45 : decode b_Home_init 45 = .ok (.return_, 1) := by decide +kernel
theorem d_Home_summary_0 : decode b_Home_summary 0 = .ok (.aload_n 0, 1) := by decide +kernel
theorem d_Home_summary_1 : decode b_Home_summary 1 = .ok (.getfield 19, 3) := by decide +kernel
theorem d_Home_summary_4 : decode b_Home_summary 4 = .ok (.iload_n 1, 1) := by decide +kernel
theorem d_Home_summary_5 : decode b_Home_summary 5 = .ok (.iaload, 1) := by decide +kernel
theorem d_Home_summary_6 : decode b_Home_summary 6 = .ok (.iconst 2, 1) := by decide +kernel
theorem d_Home_summary_7 : decode b_Home_summary 7 = .ok (.if_icmp .ne 16, 3) := by decide +kernel
theorem d_Home_summary_10 : decode b_Home_summary 10 = .ok (.iconst 4, 1) := by decide +kernel
theorem d_Home_summary_11 : decode b_Home_summary 11 = .ok (.aload_n 0, 1) := by decide +kernel
theorem d_Home_summary_12 : decode b_Home_summary 12 = .ok (.getfield 22, 3) := by decide +kernel
theorem d_Home_summary_15 : decode b_Home_summary 15 = .ok (.iload_n 1, 1) := by decide +kernel
theorem d_Home_summary_16 : decode b_Home_summary 16 = .ok (.iaload, 1) := by decide +kernel
theorem d_Home_summary_17 : decode b_Home_summary 17 = .ok (.iconst 1, 1) := by decide +kernel
theorem d_Home_summary_18 : decode b_Home_summary 18 = .ok (.iadd, 1) := by decide +kernel
theorem d_Home_summary_19 : decode b_Home_summary 19 = .ok (.imul, 1) := by decide +kernel
theorem d_Home_summary_20 : decode b_Home_summary 20 = .ok (.goto 4, 3) := by decide +kernel
theorem d_Home_summary_23 : decode b_Home_summary 23 = .ok (.iconst 0, 1) := by decide +kernel
theorem d_Home_summary_24 : decode b_Home_summary 24 = .ok (.istore_n 2, 1) := by decide +kernel
theorem d_Home_summary_25 : decode b_Home_summary 25 = .ok (.aload_n 0, 1) := by decide +kernel
theorem d_Home_summary_26 : decode b_Home_summary 26 = .ok (.getfield 19, 3) := by decide +kernel
theorem d_Home_summary_29 : decode b_Home_summary 29 = .ok (.iload_n 1, 1) := by decide +kernel
theorem d_Home_summary_30 : decode b_Home_summary 30 = .ok (.iaload, 1) := by decide +kernel
theorem d_Home_summary_31 : decode b_Home_summary 31 = .ok (.iload_n 2, 1) := by decide +kernel
theorem d_Home_summary_32 : decode b_Home_summary 32 = .ok (.iadd, 1) := by decide +kernel
theorem d_Home_summary_33 : decode b_Home_summary 33 = .ok (.bipush 32, 2) := by decide +kernel
theorem d_Home_summary_35 : decode b_Home_summary 35 = .ok (.aload_n 0, 1) := by decide +kernel
theorem d_Home_summary_36 : decode b_Home_summary 36 = .ok (.getfield 31, 3) := by decide +kernel
theorem d_Home_summary_39 : decode b_Home_summary 39 = .ok (.iload_n 1, 1) := by decide +kernel
theorem d_Home_summary_40 : decode b_Home_summary 40 = .ok (.iaload, 1) := by decide +kernel
theorem d_Home_summary_41 : decode b_Home_summary 41 = .ok (.imul, 1) := by decide +kernel
theorem d_Home_summary_42 : decode b_Home_summary 42 = .ok (.iadd, 1) := by decide +kernel
theorem d_Home_summary_43 : decode b_Home_summary 43 = .ok (.ireturn, 1) := by decide +kernel
theorem d_Home_stalls_0 : decode b_Home_stalls 0 = .ok (.aload_n 1, 1) := by decide +kernel
theorem d_Home_stalls_1 : decode b_Home_stalls 1 = .ok (.getfield 34, 3) := by decide +kernel
theorem d_Home_stalls_4 : decode b_Home_stalls 4 = .ok (.ifCond .eq 11, 3) := by decide +kernel
theorem d_Home_stalls_7 : decode b_Home_stalls 7 = .ok (.aload_n 1, 1) := by decide +kernel
theorem d_Home_stalls_8 : decode b_Home_stalls 8 = .ok (.getfield 34, 3) := by decide +kernel
theorem d_Home_stalls_11 : decode b_Home_stalls 11 = .ok (.iconst 1, 1) := by decide +kernel
theorem d_Home_stalls_12 : decode b_Home_stalls 12 = .ok (.if_icmp .ne 20, 3) := by decide +kernel
theorem d_Home_stalls_15 : decode b_Home_stalls 15 = .ok (.aload_n 0, 1) := by decide +kernel
theorem d_Home_stalls_16 : decode b_Home_stalls 16 = .ok (.getfield 19, 3) := by decide +kernel
theorem d_Home_stalls_19 : decode b_Home_stalls 19 = .ok (.aload_n 1, 1) := by decide +kernel
theorem d_Home_stalls_20 : decode b_Home_stalls 20 = .ok (.getfield 40, 3) := by decide +kernel
theorem d_Home_stalls_23 : decode b_Home_stalls 23 = .ok (.iaload, 1) := by decide +kernel
theorem d_Home_stalls_24 : decode b_Home_stalls 24 = .ok (.iconst 3, 1) := by decide +kernel
theorem d_Home_stalls_25 : decode b_Home_stalls 25 = .ok (.if_icmp .ne 7, 3) := by decide +kernel
theorem d_Home_stalls_28 : decode b_Home_stalls 28 = .ok (.iconst 1, 1) := by decide +kernel
theorem d_Home_stalls_29 : decode b_Home_stalls 29 = .ok (.goto 4, 3) := by decide +kernel
theorem d_Home_stalls_32 : decode b_Home_stalls 32 = .ok (.iconst 0, 1) := by decide +kernel
theorem d_Home_stalls_33 : decode b_Home_stalls 33 = .ok (.ireturn, 1) := by decide +kernel
theorem d_Home_receive_0 : decode b_Home_receive 0 = .ok (.aload_n 1, 1) := by decide +kernel
theorem d_Home_receive_1 : decode b_Home_receive 1 = .ok (.getfield 40, 3) := by decide +kernel
theorem d_Home_receive_4 : decode b_Home_receive 4 = .ok (.istore_n 2, 1) := by decide +kernel
theorem d_Home_receive_5 : decode b_Home_receive 5 = .ok (.aload_n 1, 1) := by decide +kernel
theorem d_Home_receive_6 : decode b_Home_receive 6 = .ok (.getfield 34, 3) := by decide +kernel
theorem d_Home_receive_9 : decode b_Home_receive 9 = .ok (.tableswitch 115 0 8 #[51, 63, 75, 87, 115, 115, 115, 115, 103], 51) := by decide +kernel
theorem d_Home_receive_60 : decode b_Home_receive 60 = .ok (.aload_n 0, 1) := by decide +kernel
theorem d_Home_receive_61 : decode b_Home_receive 61 = .ok (.iload_n 2, 1) := by decide +kernel
theorem d_Home_receive_62 : decode b_Home_receive 62 = .ok (.aload_n 1, 1) := by decide +kernel
theorem d_Home_receive_63 : decode b_Home_receive 63 = .ok (.getfield 43, 3) := by decide +kernel
theorem d_Home_receive_66 : decode b_Home_receive 66 = .ok (.invokevirtual 46, 3) := by decide +kernel
theorem d_Home_receive_69 : decode b_Home_receive 69 = .ok (.goto 55, 3) := by decide +kernel
theorem d_Home_receive_72 : decode b_Home_receive 72 = .ok (.aload_n 0, 1) := by decide +kernel
theorem d_Home_receive_73 : decode b_Home_receive 73 = .ok (.iload_n 2, 1) := by decide +kernel
theorem d_Home_receive_74 : decode b_Home_receive 74 = .ok (.aload_n 1, 1) := by decide +kernel
theorem d_Home_receive_75 : decode b_Home_receive 75 = .ok (.getfield 43, 3) := by decide +kernel
theorem d_Home_receive_78 : decode b_Home_receive 78 = .ok (.invokevirtual 50, 3) := by decide +kernel
theorem d_Home_receive_81 : decode b_Home_receive 81 = .ok (.goto 43, 3) := by decide +kernel
theorem d_Home_receive_84 : decode b_Home_receive 84 = .ok (.aload_n 0, 1) := by decide +kernel
theorem d_Home_receive_85 : decode b_Home_receive 85 = .ok (.iload_n 2, 1) := by decide +kernel
theorem d_Home_receive_86 : decode b_Home_receive 86 = .ok (.aload_n 1, 1) := by decide +kernel
theorem d_Home_receive_87 : decode b_Home_receive 87 = .ok (.getfield 43, 3) := by decide +kernel
theorem d_Home_receive_90 : decode b_Home_receive 90 = .ok (.invokevirtual 53, 3) := by decide +kernel
theorem d_Home_receive_93 : decode b_Home_receive 93 = .ok (.goto 31, 3) := by decide +kernel
theorem d_Home_receive_96 : decode b_Home_receive 96 = .ok (.aload_n 0, 1) := by decide +kernel
theorem d_Home_receive_97 : decode b_Home_receive 97 = .ok (.iload_n 2, 1) := by decide +kernel
theorem d_Home_receive_98 : decode b_Home_receive 98 = .ok (.aload_n 1, 1) := by decide +kernel
theorem d_Home_receive_99 : decode b_Home_receive 99 = .ok (.getfield 43, 3) := by decide +kernel
theorem d_Home_receive_102 : decode b_Home_receive 102 = .ok (.aload_n 1, 1) := by decide +kernel
theorem d_Home_receive_103 : decode b_Home_receive 103 = .ok (.getfield 56, 3) := by decide +kernel
theorem d_Home_receive_106 : decode b_Home_receive 106 = .ok (.invokevirtual 59, 3) := by decide +kernel
theorem d_Home_receive_109 : decode b_Home_receive 109 = .ok (.goto 15, 3) := by decide +kernel
theorem d_Home_receive_112 : decode b_Home_receive 112 = .ok (.aload_n 0, 1) := by decide +kernel
theorem d_Home_receive_113 : decode b_Home_receive 113 = .ok (.iload_n 2, 1) := by decide +kernel
theorem d_Home_receive_114 : decode b_Home_receive 114 = .ok (.aload_n 1, 1) := by decide +kernel
theorem d_Home_receive_115 : decode b_Home_receive 115 = .ok (.getfield 56, 3) := by decide +kernel
theorem d_Home_receive_118 : decode b_Home_receive 118 = .ok (.invokevirtual 63, 3) := by decide +kernel
theorem d_Home_receive_121 : decode b_Home_receive 121 = .ok (.goto 3, 3) := by decide +kernel
theorem d_Home_receive_124 : decode b_Home_receive 124 = .ok (.return_, 1) := by decide +kernel
theorem d_Home_giveToRead_0 : decode b_Home_giveToRead 0 = .ok (.aload_n 0, 1) := by decide +kernel
theorem d_Home_giveToRead_1 : decode b_Home_giveToRead 1 = .ok (.getfield 19, 3) := by decide +kernel
theorem d_Home_giveToRead_4 : decode b_Home_giveToRead 4 = .ok (.iload_n 1, 1) := by decide +kernel
theorem d_Home_giveToRead_5 : decode b_Home_giveToRead 5 = .ok (.iaload, 1) := by decide +kernel
theorem d_Home_giveToRead_6 : decode b_Home_giveToRead 6 = .ok (.iconst 2, 1) := by decide +kernel
theorem d_Home_giveToRead_7 : decode b_Home_giveToRead 7 = .ok (.if_icmp .ne 59, 3) := by decide +kernel
theorem d_Home_giveToRead_10 : decode b_Home_giveToRead 10 = .ok (.aload_n 0, 1) := by decide +kernel
theorem d_Home_giveToRead_11 : decode b_Home_giveToRead 11 = .ok (.getfield 9, 3) := by decide +kernel
theorem d_Home_giveToRead_14 : decode b_Home_giveToRead 14 = .ok (.iconst 4, 1) := by decide +kernel
theorem d_Home_giveToRead_15 : decode b_Home_giveToRead 15 = .ok (.aload_n 0, 1) := by decide +kernel
theorem d_Home_giveToRead_16 : decode b_Home_giveToRead 16 = .ok (.getfield 22, 3) := by decide +kernel
theorem d_Home_giveToRead_19 : decode b_Home_giveToRead 19 = .ok (.iload_n 1, 1) := by decide +kernel
theorem d_Home_giveToRead_20 : decode b_Home_giveToRead 20 = .ok (.iaload, 1) := by decide +kernel
theorem d_Home_giveToRead_21 : decode b_Home_giveToRead 21 = .ok (.iload_n 1, 1) := by decide +kernel
theorem d_Home_giveToRead_22 : decode b_Home_giveToRead 22 = .ok (.iload_n 2, 1) := by decide +kernel
theorem d_Home_giveToRead_23 : decode b_Home_giveToRead 23 = .ok (.invokevirtual 66, 3) := by decide +kernel
theorem d_Home_giveToRead_26 : decode b_Home_giveToRead 26 = .ok (.aload_n 0, 1) := by decide +kernel
theorem d_Home_giveToRead_27 : decode b_Home_giveToRead 27 = .ok (.getfield 31, 3) := by decide +kernel
theorem d_Home_giveToRead_30 : decode b_Home_giveToRead 30 = .ok (.iload_n 1, 1) := by decide +kernel
theorem d_Home_giveToRead_31 : decode b_Home_giveToRead 31 = .ok (.dup2, 1) := by decide +kernel
theorem d_Home_giveToRead_32 : decode b_Home_giveToRead 32 = .ok (.iaload, 1) := by decide +kernel
theorem d_Home_giveToRead_33 : decode b_Home_giveToRead 33 = .ok (.iload_n 2, 1) := by decide +kernel
theorem d_Home_giveToRead_34 : decode b_Home_giveToRead 34 = .ok (.invokestatic 72, 3) := by decide +kernel
theorem d_Home_giveToRead_37 : decode b_Home_giveToRead 37 = .ok (.aload_n 0, 1) := by decide +kernel
theorem d_Home_giveToRead_38 : decode b_Home_giveToRead 38 = .ok (.getfield 22, 3) := by decide +kernel
theorem d_Home_giveToRead_41 : decode b_Home_giveToRead 41 = .ok (.iload_n 1, 1) := by decide +kernel
theorem d_Home_giveToRead_42 : decode b_Home_giveToRead 42 = .ok (.iaload, 1) := by decide +kernel
theorem d_Home_giveToRead_43 : decode b_Home_giveToRead 43 = .ok (.invokestatic 72, 3) := by decide +kernel
theorem d_Home_giveToRead_46 : decode b_Home_giveToRead 46 = .ok (.ior, 1) := by decide +kernel
theorem d_Home_giveToRead_47 : decode b_Home_giveToRead 47 = .ok (.ior, 1) := by decide +kernel
theorem d_Home_giveToRead_48 : decode b_Home_giveToRead 48 = .ok (.iastore, 1) := by decide +kernel
theorem d_Home_giveToRead_49 : decode b_Home_giveToRead 49 = .ok (.aload_n 0, 1) := by decide +kernel
theorem d_Home_giveToRead_50 : decode b_Home_giveToRead 50 = .ok (.getfield 22, 3) := by decide +kernel
theorem d_Home_giveToRead_53 : decode b_Home_giveToRead 53 = .ok (.iload_n 1, 1) := by decide +kernel
theorem d_Home_giveToRead_54 : decode b_Home_giveToRead 54 = .ok (.iconst (-1), 1) := by decide +kernel
theorem d_Home_giveToRead_55 : decode b_Home_giveToRead 55 = .ok (.iastore, 1) := by decide +kernel
theorem d_Home_giveToRead_56 : decode b_Home_giveToRead 56 = .ok (.aload_n 0, 1) := by decide +kernel
theorem d_Home_giveToRead_57 : decode b_Home_giveToRead 57 = .ok (.getfield 19, 3) := by decide +kernel
theorem d_Home_giveToRead_60 : decode b_Home_giveToRead 60 = .ok (.iload_n 1, 1) := by decide +kernel
theorem d_Home_giveToRead_61 : decode b_Home_giveToRead 61 = .ok (.iconst 3, 1) := by decide +kernel
theorem d_Home_giveToRead_62 : decode b_Home_giveToRead 62 = .ok (.iastore, 1) := by decide +kernel
theorem d_Home_giveToRead_63 : decode b_Home_giveToRead 63 = .ok (.goto 40, 3) := by decide +kernel
theorem d_Home_giveToRead_66 : decode b_Home_giveToRead 66 = .ok (.aload_n 0, 1) := by decide +kernel
theorem d_Home_giveToRead_67 : decode b_Home_giveToRead 67 = .ok (.getfield 9, 3) := by decide +kernel
theorem d_Home_giveToRead_70 : decode b_Home_giveToRead 70 = .ok (.iconst 4, 1) := by decide +kernel
theorem d_Home_giveToRead_71 : decode b_Home_giveToRead 71 = .ok (.iload_n 2, 1) := by decide +kernel
theorem d_Home_giveToRead_72 : decode b_Home_giveToRead 72 = .ok (.iload_n 1, 1) := by decide +kernel
theorem d_Home_giveToRead_73 : decode b_Home_giveToRead 73 = .ok (.aload_n 0, 1) := by decide +kernel
theorem d_Home_giveToRead_74 : decode b_Home_giveToRead 74 = .ok (.getfield 15, 3) := by decide +kernel
theorem d_Home_giveToRead_77 : decode b_Home_giveToRead 77 = .ok (.iload_n 1, 1) := by decide +kernel
theorem d_Home_giveToRead_78 : decode b_Home_giveToRead 78 = .ok (.iaload, 1) := by decide +kernel
theorem d_Home_giveToRead_79 : decode b_Home_giveToRead 79 = .ok (.iconst 0, 1) := by decide +kernel
theorem d_Home_giveToRead_80 : decode b_Home_giveToRead 80 = .ok (.invokevirtual 76, 3) := by decide +kernel
theorem d_Home_giveToRead_83 : decode b_Home_giveToRead 83 = .ok (.aload_n 0, 1) := by decide +kernel
theorem d_Home_giveToRead_84 : decode b_Home_giveToRead 84 = .ok (.getfield 31, 3) := by decide +kernel
theorem d_Home_giveToRead_87 : decode b_Home_giveToRead 87 = .ok (.iload_n 1, 1) := by decide +kernel
theorem d_Home_giveToRead_88 : decode b_Home_giveToRead 88 = .ok (.dup2, 1) := by decide +kernel
theorem d_Home_giveToRead_89 : decode b_Home_giveToRead 89 = .ok (.iaload, 1) := by decide +kernel
theorem d_Home_giveToRead_90 : decode b_Home_giveToRead 90 = .ok (.iload_n 2, 1) := by decide +kernel
theorem d_Home_giveToRead_91 : decode b_Home_giveToRead 91 = .ok (.invokestatic 72, 3) := by decide +kernel
theorem d_Home_giveToRead_94 : decode b_Home_giveToRead 94 = .ok (.ior, 1) := by decide +kernel
theorem d_Home_giveToRead_95 : decode b_Home_giveToRead 95 = .ok (.iastore, 1) := by decide +kernel
theorem d_Home_giveToRead_96 : decode b_Home_giveToRead 96 = .ok (.aload_n 0, 1) := by decide +kernel
theorem d_Home_giveToRead_97 : decode b_Home_giveToRead 97 = .ok (.getfield 19, 3) := by decide +kernel
theorem d_Home_giveToRead_100 : decode b_Home_giveToRead 100 = .ok (.iload_n 1, 1) := by decide +kernel
theorem d_Home_giveToRead_101 : decode b_Home_giveToRead 101 = .ok (.iconst 1, 1) := by decide +kernel
theorem d_Home_giveToRead_102 : decode b_Home_giveToRead 102 = .ok (.iastore, 1) := by decide +kernel
theorem d_Home_giveToRead_103 : decode b_Home_giveToRead 103 = .ok (.return_, 1) := by decide +kernel
theorem d_Home_giveToWrite_0 : decode b_Home_giveToWrite 0 = .ok (.aload_n 0, 1) := by decide +kernel
theorem d_Home_giveToWrite_1 : decode b_Home_giveToWrite 1 = .ok (.getfield 19, 3) := by decide +kernel
theorem d_Home_giveToWrite_4 : decode b_Home_giveToWrite 4 = .ok (.iload_n 1, 1) := by decide +kernel
theorem d_Home_giveToWrite_5 : decode b_Home_giveToWrite 5 = .ok (.iaload, 1) := by decide +kernel
theorem d_Home_giveToWrite_6 : decode b_Home_giveToWrite 6 = .ok (.iconst 2, 1) := by decide +kernel
theorem d_Home_giveToWrite_7 : decode b_Home_giveToWrite 7 = .ok (.if_icmp .ne 22, 3) := by decide +kernel
theorem d_Home_giveToWrite_10 : decode b_Home_giveToWrite 10 = .ok (.aload_n 0, 1) := by decide +kernel
theorem d_Home_giveToWrite_11 : decode b_Home_giveToWrite 11 = .ok (.getfield 9, 3) := by decide +kernel
theorem d_Home_giveToWrite_14 : decode b_Home_giveToWrite 14 = .ok (.iconst 5, 1) := by decide +kernel
theorem d_Home_giveToWrite_15 : decode b_Home_giveToWrite 15 = .ok (.aload_n 0, 1) := by decide +kernel
theorem d_Home_giveToWrite_16 : decode b_Home_giveToWrite 16 = .ok (.getfield 22, 3) := by decide +kernel
theorem d_Home_giveToWrite_19 : decode b_Home_giveToWrite 19 = .ok (.iload_n 1, 1) := by decide +kernel
theorem d_Home_giveToWrite_20 : decode b_Home_giveToWrite 20 = .ok (.iaload, 1) := by decide +kernel
theorem d_Home_giveToWrite_21 : decode b_Home_giveToWrite 21 = .ok (.iload_n 1, 1) := by decide +kernel
theorem d_Home_giveToWrite_22 : decode b_Home_giveToWrite 22 = .ok (.iload_n 2, 1) := by decide +kernel
theorem d_Home_giveToWrite_23 : decode b_Home_giveToWrite 23 = .ok (.invokevirtual 66, 3) := by decide +kernel
theorem d_Home_giveToWrite_26 : decode b_Home_giveToWrite 26 = .ok (.goto 58, 3) := by decide +kernel
theorem d_Home_giveToWrite_29 : decode b_Home_giveToWrite 29 = .ok (.aload_n 0, 1) := by decide +kernel
theorem d_Home_giveToWrite_30 : decode b_Home_giveToWrite 30 = .ok (.getfield 31, 3) := by decide +kernel
theorem d_Home_giveToWrite_33 : decode b_Home_giveToWrite 33 = .ok (.iload_n 1, 1) := by decide +kernel
theorem d_Home_giveToWrite_34 : decode b_Home_giveToWrite 34 = .ok (.iaload, 1) := by decide +kernel
theorem d_Home_giveToWrite_35 : decode b_Home_giveToWrite 35 = .ok (.iload_n 2, 1) := by decide +kernel
theorem d_Home_giveToWrite_36 : decode b_Home_giveToWrite 36 = .ok (.invokestatic 72, 3) := by decide +kernel
theorem d_Home_giveToWrite_39 : decode b_Home_giveToWrite 39 = .ok (.iconst (-1), 1) := by decide +kernel
theorem d_Home_giveToWrite_40 : decode b_Home_giveToWrite 40 = .ok (.ixor, 1) := by decide +kernel
theorem d_Home_giveToWrite_41 : decode b_Home_giveToWrite 41 = .ok (.iand, 1) := by decide +kernel
theorem d_Home_giveToWrite_42 : decode b_Home_giveToWrite 42 = .ok (.istore_n 3, 1) := by decide +kernel
theorem d_Home_giveToWrite_43 : decode b_Home_giveToWrite 43 = .ok (.aload_n 0, 1) := by decide +kernel
theorem d_Home_giveToWrite_44 : decode b_Home_giveToWrite 44 = .ok (.getfield 9, 3) := by decide +kernel
theorem d_Home_giveToWrite_47 : decode b_Home_giveToWrite 47 = .ok (.iconst 4, 1) := by decide +kernel
theorem d_Home_giveToWrite_48 : decode b_Home_giveToWrite 48 = .ok (.iload_n 2, 1) := by decide +kernel
theorem d_Home_giveToWrite_49 : decode b_Home_giveToWrite 49 = .ok (.iload_n 1, 1) := by decide +kernel
theorem d_Home_giveToWrite_50 : decode b_Home_giveToWrite 50 = .ok (.aload_n 0, 1) := by decide +kernel
theorem d_Home_giveToWrite_51 : decode b_Home_giveToWrite 51 = .ok (.getfield 15, 3) := by decide +kernel
theorem d_Home_giveToWrite_54 : decode b_Home_giveToWrite 54 = .ok (.iload_n 1, 1) := by decide +kernel
theorem d_Home_giveToWrite_55 : decode b_Home_giveToWrite 55 = .ok (.iaload, 1) := by decide +kernel
theorem d_Home_giveToWrite_56 : decode b_Home_giveToWrite 56 = .ok (.iload_n 3, 1) := by decide +kernel
theorem d_Home_giveToWrite_57 : decode b_Home_giveToWrite 57 = .ok (.invokestatic 80, 3) := by decide +kernel
theorem d_Home_giveToWrite_60 : decode b_Home_giveToWrite 60 = .ok (.invokevirtual 76, 3) := by decide +kernel
theorem d_Home_giveToWrite_63 : decode b_Home_giveToWrite 63 = .ok (.aload_n 0, 1) := by decide +kernel
theorem d_Home_giveToWrite_64 : decode b_Home_giveToWrite 64 = .ok (.iload_n 3, 1) := by decide +kernel
theorem d_Home_giveToWrite_65 : decode b_Home_giveToWrite 65 = .ok (.iload_n 1, 1) := by decide +kernel
theorem d_Home_giveToWrite_66 : decode b_Home_giveToWrite 66 = .ok (.iload_n 2, 1) := by decide +kernel
theorem d_Home_giveToWrite_67 : decode b_Home_giveToWrite 67 = .ok (.invokevirtual 85, 3) := by decide +kernel
theorem d_Home_giveToWrite_70 : decode b_Home_giveToWrite 70 = .ok (.aload_n 0, 1) := by decide +kernel
theorem d_Home_giveToWrite_71 : decode b_Home_giveToWrite 71 = .ok (.getfield 31, 3) := by decide +kernel
theorem d_Home_giveToWrite_74 : decode b_Home_giveToWrite 74 = .ok (.iload_n 1, 1) := by decide +kernel
theorem d_Home_giveToWrite_75 : decode b_Home_giveToWrite 75 = .ok (.iconst 0, 1) := by decide +kernel
theorem d_Home_giveToWrite_76 : decode b_Home_giveToWrite 76 = .ok (.iastore, 1) := by decide +kernel
theorem d_Home_giveToWrite_77 : decode b_Home_giveToWrite 77 = .ok (.aload_n 0, 1) := by decide +kernel
theorem d_Home_giveToWrite_78 : decode b_Home_giveToWrite 78 = .ok (.getfield 19, 3) := by decide +kernel
theorem d_Home_giveToWrite_81 : decode b_Home_giveToWrite 81 = .ok (.iload_n 1, 1) := by decide +kernel
theorem d_Home_giveToWrite_82 : decode b_Home_giveToWrite 82 = .ok (.iconst 2, 1) := by decide +kernel
theorem d_Home_giveToWrite_83 : decode b_Home_giveToWrite 83 = .ok (.iastore, 1) := by decide +kernel
theorem d_Home_giveToWrite_84 : decode b_Home_giveToWrite 84 = .ok (.aload_n 0, 1) := by decide +kernel
theorem d_Home_giveToWrite_85 : decode b_Home_giveToWrite 85 = .ok (.getfield 22, 3) := by decide +kernel
theorem d_Home_giveToWrite_88 : decode b_Home_giveToWrite 88 = .ok (.iload_n 1, 1) := by decide +kernel
theorem d_Home_giveToWrite_89 : decode b_Home_giveToWrite 89 = .ok (.iload_n 2, 1) := by decide +kernel
theorem d_Home_giveToWrite_90 : decode b_Home_giveToWrite 90 = .ok (.iastore, 1) := by decide +kernel
theorem d_Home_giveToWrite_91 : decode b_Home_giveToWrite 91 = .ok (.return_, 1) := by decide +kernel
theorem d_Home_invalidate_0 : decode b_Home_invalidate 0 = .ok (.iconst 0, 1) := by decide +kernel
theorem d_Home_invalidate_1 : decode b_Home_invalidate 1 = .ok (.istore 4, 2) := by decide +kernel
theorem d_Home_invalidate_3 : decode b_Home_invalidate 3 = .ok (.iload 4, 2) := by decide +kernel
theorem d_Home_invalidate_5 : decode b_Home_invalidate 5 = .ok (.iconst 4, 1) := by decide +kernel
theorem d_Home_invalidate_6 : decode b_Home_invalidate 6 = .ok (.if_icmp .ge 32, 3) := by decide +kernel
theorem d_Home_invalidate_9 : decode b_Home_invalidate 9 = .ok (.iload_n 1, 1) := by decide +kernel
theorem d_Home_invalidate_10 : decode b_Home_invalidate 10 = .ok (.iload 4, 2) := by decide +kernel
theorem d_Home_invalidate_12 : decode b_Home_invalidate 12 = .ok (.invokestatic 72, 3) := by decide +kernel
theorem d_Home_invalidate_15 : decode b_Home_invalidate 15 = .ok (.iand, 1) := by decide +kernel
theorem d_Home_invalidate_16 : decode b_Home_invalidate 16 = .ok (.ifCond .eq 16, 3) := by decide +kernel
theorem d_Home_invalidate_19 : decode b_Home_invalidate 19 = .ok (.aload_n 0, 1) := by decide +kernel
theorem d_Home_invalidate_20 : decode b_Home_invalidate 20 = .ok (.getfield 9, 3) := by decide +kernel
theorem d_Home_invalidate_23 : decode b_Home_invalidate 23 = .ok (.bipush 6, 2) := by decide +kernel
theorem d_Home_invalidate_25 : decode b_Home_invalidate 25 = .ok (.iload 4, 2) := by decide +kernel
theorem d_Home_invalidate_27 : decode b_Home_invalidate 27 = .ok (.iload_n 2, 1) := by decide +kernel
theorem d_Home_invalidate_28 : decode b_Home_invalidate 28 = .ok (.iload_n 3, 1) := by decide +kernel
theorem d_Home_invalidate_29 : decode b_Home_invalidate 29 = .ok (.invokevirtual 66, 3) := by decide +kernel
theorem d_Home_invalidate_32 : decode b_Home_invalidate 32 = .ok (.iinc 4 1, 3) := by decide +kernel
theorem d_Home_invalidate_35 : decode b_Home_invalidate 35 = .ok (.goto (-32), 3) := by decide +kernel
theorem d_Home_invalidate_38 : decode b_Home_invalidate 38 = .ok (.return_, 1) := by decide +kernel
theorem d_Home_takeBack_0 : decode b_Home_takeBack 0 = .ok (.aload_n 0, 1) := by decide +kernel
theorem d_Home_takeBack_1 : decode b_Home_takeBack 1 = .ok (.getfield 31, 3) := by decide +kernel
theorem d_Home_takeBack_4 : decode b_Home_takeBack 4 = .ok (.iload_n 1, 1) := by decide +kernel
theorem d_Home_takeBack_5 : decode b_Home_takeBack 5 = .ok (.dup2, 1) := by decide +kernel
theorem d_Home_takeBack_6 : decode b_Home_takeBack 6 = .ok (.iaload, 1) := by decide +kernel
theorem d_Home_takeBack_7 : decode b_Home_takeBack 7 = .ok (.iload_n 2, 1) := by decide +kernel
theorem d_Home_takeBack_8 : decode b_Home_takeBack 8 = .ok (.invokestatic 72, 3) := by decide +kernel
theorem d_Home_takeBack_11 : decode b_Home_takeBack 11 = .ok (.iconst (-1), 1) := by decide +kernel
theorem d_Home_takeBack_12 : decode b_Home_takeBack 12 = .ok (.ixor, 1) := by decide +kernel
theorem d_Home_takeBack_13 : decode b_Home_takeBack 13 = .ok (.iand, 1) := by decide +kernel
theorem d_Home_takeBack_14 : decode b_Home_takeBack 14 = .ok (.iastore, 1) := by decide +kernel
theorem d_Home_takeBack_15 : decode b_Home_takeBack 15 = .ok (.aload_n 0, 1) := by decide +kernel
theorem d_Home_takeBack_16 : decode b_Home_takeBack 16 = .ok (.getfield 19, 3) := by decide +kernel
theorem d_Home_takeBack_19 : decode b_Home_takeBack 19 = .ok (.iload_n 1, 1) := by decide +kernel
theorem d_Home_takeBack_20 : decode b_Home_takeBack 20 = .ok (.iaload, 1) := by decide +kernel
theorem d_Home_takeBack_21 : decode b_Home_takeBack 21 = .ok (.iconst 1, 1) := by decide +kernel
theorem d_Home_takeBack_22 : decode b_Home_takeBack 22 = .ok (.if_icmp .ne 19, 3) := by decide +kernel
theorem d_Home_takeBack_25 : decode b_Home_takeBack 25 = .ok (.aload_n 0, 1) := by decide +kernel
theorem d_Home_takeBack_26 : decode b_Home_takeBack 26 = .ok (.getfield 31, 3) := by decide +kernel
theorem d_Home_takeBack_29 : decode b_Home_takeBack 29 = .ok (.iload_n 1, 1) := by decide +kernel
theorem d_Home_takeBack_30 : decode b_Home_takeBack 30 = .ok (.iaload, 1) := by decide +kernel
theorem d_Home_takeBack_31 : decode b_Home_takeBack 31 = .ok (.ifCond .ne 10, 3) := by decide +kernel
theorem d_Home_takeBack_34 : decode b_Home_takeBack 34 = .ok (.aload_n 0, 1) := by decide +kernel
theorem d_Home_takeBack_35 : decode b_Home_takeBack 35 = .ok (.getfield 19, 3) := by decide +kernel
theorem d_Home_takeBack_38 : decode b_Home_takeBack 38 = .ok (.iload_n 1, 1) := by decide +kernel
theorem d_Home_takeBack_39 : decode b_Home_takeBack 39 = .ok (.iconst 0, 1) := by decide +kernel
theorem d_Home_takeBack_40 : decode b_Home_takeBack 40 = .ok (.iastore, 1) := by decide +kernel
theorem d_Home_takeBack_41 : decode b_Home_takeBack 41 = .ok (.aload_n 0, 1) := by decide +kernel
theorem d_Home_takeBack_42 : decode b_Home_takeBack 42 = .ok (.getfield 9, 3) := by decide +kernel
theorem d_Home_takeBack_45 : decode b_Home_takeBack 45 = .ok (.bipush 7, 2) := by decide +kernel
theorem d_Home_takeBack_47 : decode b_Home_takeBack 47 = .ok (.iconst 4, 1) := by decide +kernel
theorem d_Home_takeBack_48 : decode b_Home_takeBack 48 = .ok (.iload_n 2, 1) := by decide +kernel
theorem d_Home_takeBack_49 : decode b_Home_takeBack 49 = .ok (.iload_n 1, 1) := by decide +kernel
theorem d_Home_takeBack_50 : decode b_Home_takeBack 50 = .ok (.invokevirtual 88, 3) := by decide +kernel
theorem d_Home_takeBack_53 : decode b_Home_takeBack 53 = .ok (.return_, 1) := by decide +kernel
theorem d_Home_takeBackWord_0 : decode b_Home_takeBackWord 0 = .ok (.aload_n 0, 1) := by decide +kernel
theorem d_Home_takeBackWord_1 : decode b_Home_takeBackWord 1 = .ok (.getfield 22, 3) := by decide +kernel
theorem d_Home_takeBackWord_4 : decode b_Home_takeBackWord 4 = .ok (.iload_n 1, 1) := by decide +kernel
theorem d_Home_takeBackWord_5 : decode b_Home_takeBackWord 5 = .ok (.iaload, 1) := by decide +kernel
theorem d_Home_takeBackWord_6 : decode b_Home_takeBackWord 6 = .ok (.iload_n 2, 1) := by decide +kernel
theorem d_Home_takeBackWord_7 : decode b_Home_takeBackWord 7 = .ok (.if_icmp .eq 10, 3) := by decide +kernel
theorem d_Home_takeBackWord_10 : decode b_Home_takeBackWord 10 = .ok (.aload_n 0, 1) := by decide +kernel
theorem d_Home_takeBackWord_11 : decode b_Home_takeBackWord 11 = .ok (.iload_n 1, 1) := by decide +kernel
theorem d_Home_takeBackWord_12 : decode b_Home_takeBackWord 12 = .ok (.iload_n 2, 1) := by decide +kernel
theorem d_Home_takeBackWord_13 : decode b_Home_takeBackWord 13 = .ok (.invokevirtual 53, 3) := by decide +kernel
theorem d_Home_takeBackWord_16 : decode b_Home_takeBackWord 16 = .ok (.return_, 1) := by decide +kernel
theorem d_Home_takeBackWord_17 : decode b_Home_takeBackWord 17 = .ok (.aload_n 0, 1) := by decide +kernel
theorem d_Home_takeBackWord_18 : decode b_Home_takeBackWord 18 = .ok (.getfield 15, 3) := by decide +kernel
theorem d_Home_takeBackWord_21 : decode b_Home_takeBackWord 21 = .ok (.iload_n 1, 1) := by decide +kernel
theorem d_Home_takeBackWord_22 : decode b_Home_takeBackWord 22 = .ok (.iload_n 3, 1) := by decide +kernel
theorem d_Home_takeBackWord_23 : decode b_Home_takeBackWord 23 = .ok (.iastore, 1) := by decide +kernel
theorem d_Home_takeBackWord_24 : decode b_Home_takeBackWord 24 = .ok (.aload_n 0, 1) := by decide +kernel
theorem d_Home_takeBackWord_25 : decode b_Home_takeBackWord 25 = .ok (.getfield 22, 3) := by decide +kernel
theorem d_Home_takeBackWord_28 : decode b_Home_takeBackWord 28 = .ok (.iload_n 1, 1) := by decide +kernel
theorem d_Home_takeBackWord_29 : decode b_Home_takeBackWord 29 = .ok (.iconst (-1), 1) := by decide +kernel
theorem d_Home_takeBackWord_30 : decode b_Home_takeBackWord 30 = .ok (.iastore, 1) := by decide +kernel
theorem d_Home_takeBackWord_31 : decode b_Home_takeBackWord 31 = .ok (.aload_n 0, 1) := by decide +kernel
theorem d_Home_takeBackWord_32 : decode b_Home_takeBackWord 32 = .ok (.getfield 19, 3) := by decide +kernel
theorem d_Home_takeBackWord_35 : decode b_Home_takeBackWord 35 = .ok (.iload_n 1, 1) := by decide +kernel
theorem d_Home_takeBackWord_36 : decode b_Home_takeBackWord 36 = .ok (.iconst 0, 1) := by decide +kernel
theorem d_Home_takeBackWord_37 : decode b_Home_takeBackWord 37 = .ok (.iastore, 1) := by decide +kernel
theorem d_Home_takeBackWord_38 : decode b_Home_takeBackWord 38 = .ok (.aload_n 0, 1) := by decide +kernel
theorem d_Home_takeBackWord_39 : decode b_Home_takeBackWord 39 = .ok (.getfield 9, 3) := by decide +kernel
theorem d_Home_takeBackWord_42 : decode b_Home_takeBackWord 42 = .ok (.bipush 7, 2) := by decide +kernel
theorem d_Home_takeBackWord_44 : decode b_Home_takeBackWord 44 = .ok (.iconst 4, 1) := by decide +kernel
theorem d_Home_takeBackWord_45 : decode b_Home_takeBackWord 45 = .ok (.iload_n 2, 1) := by decide +kernel
theorem d_Home_takeBackWord_46 : decode b_Home_takeBackWord 46 = .ok (.iload_n 1, 1) := by decide +kernel
theorem d_Home_takeBackWord_47 : decode b_Home_takeBackWord 47 = .ok (.invokevirtual 88, 3) := by decide +kernel
theorem d_Home_takeBackWord_50 : decode b_Home_takeBackWord 50 = .ok (.return_, 1) := by decide +kernel
theorem d_Home_endSharing_0 : decode b_Home_endSharing 0 = .ok (.aload_n 0, 1) := by decide +kernel
theorem d_Home_endSharing_1 : decode b_Home_endSharing 1 = .ok (.getfield 15, 3) := by decide +kernel
theorem d_Home_endSharing_4 : decode b_Home_endSharing 4 = .ok (.iload_n 1, 1) := by decide +kernel
theorem d_Home_endSharing_5 : decode b_Home_endSharing 5 = .ok (.iload_n 2, 1) := by decide +kernel
theorem d_Home_endSharing_6 : decode b_Home_endSharing 6 = .ok (.iastore, 1) := by decide +kernel
theorem d_Home_endSharing_7 : decode b_Home_endSharing 7 = .ok (.aload_n 0, 1) := by decide +kernel
theorem d_Home_endSharing_8 : decode b_Home_endSharing 8 = .ok (.getfield 19, 3) := by decide +kernel
theorem d_Home_endSharing_11 : decode b_Home_endSharing 11 = .ok (.iload_n 1, 1) := by decide +kernel
theorem d_Home_endSharing_12 : decode b_Home_endSharing 12 = .ok (.aload_n 0, 1) := by decide +kernel
theorem d_Home_endSharing_13 : decode b_Home_endSharing 13 = .ok (.getfield 31, 3) := by decide +kernel
theorem d_Home_endSharing_16 : decode b_Home_endSharing 16 = .ok (.iload_n 1, 1) := by decide +kernel
theorem d_Home_endSharing_17 : decode b_Home_endSharing 17 = .ok (.iaload, 1) := by decide +kernel
theorem d_Home_endSharing_18 : decode b_Home_endSharing 18 = .ok (.ifCond .ne 7, 3) := by decide +kernel
theorem d_Home_endSharing_21 : decode b_Home_endSharing 21 = .ok (.iconst 0, 1) := by decide +kernel
theorem d_Home_endSharing_22 : decode b_Home_endSharing 22 = .ok (.goto 4, 3) := by decide +kernel
theorem d_Home_endSharing_25 : decode b_Home_endSharing 25 = .ok (.iconst 1, 1) := by decide +kernel
theorem d_Home_endSharing_26 : decode b_Home_endSharing 26 = .ok (.iastore, 1) := by decide +kernel
theorem d_Home_endSharing_27 : decode b_Home_endSharing 27 = .ok (.return_, 1) := by decide +kernel
theorem d_Home_bit_0 : decode b_Home_bit 0 = .ok (.iconst 1, 1) := by decide +kernel
theorem d_Home_bit_1 : decode b_Home_bit 1 = .ok (.iload_n 0, 1) := by decide +kernel
theorem d_Home_bit_2 : decode b_Home_bit 2 = .ok (.ishl, 1) := by decide +kernel
theorem d_Home_bit_3 : decode b_Home_bit 3 = .ok (.ireturn, 1) := by decide +kernel
theorem d_Msg_init_0 : decode b_Msg_init 0 = .ok (.aload_n 0, 1) := by decide +kernel
theorem d_Msg_init_1 : decode b_Msg_init 1 = .ok (.invokespecial 3, 3) := by decide +kernel
theorem d_Msg_init_4 : decode b_Msg_init 4 = .ok (.return_, 1) := by decide +kernel
theorem d_Msg_isForward_0 : decode b_Msg_isForward 0 = .ok (.aload_n 0, 1) := by decide +kernel
theorem d_Msg_isForward_1 : decode b_Msg_isForward 1 = .ok (.getfield 9, 3) := by decide +kernel
theorem d_Msg_isForward_4 : decode b_Msg_isForward 4 = .ok (.iconst 4, 1) := by decide +kernel
theorem d_Msg_isForward_5 : decode b_Msg_isForward 5 = .ok (.if_icmp .lt 16, 3) := by decide +kernel
theorem d_Msg_isForward_8 : decode b_Msg_isForward 8 = .ok (.aload_n 0, 1) := by decide +kernel
theorem d_Msg_isForward_9 : decode b_Msg_isForward 9 = .ok (.getfield 9, 3) := by decide +kernel
theorem d_Msg_isForward_12 : decode b_Msg_isForward 12 = .ok (.bipush 7, 2) := by decide +kernel
theorem d_Msg_isForward_14 : decode b_Msg_isForward 14 = .ok (.if_icmp .gt 7, 3) := by decide +kernel
theorem d_Msg_isForward_17 : decode b_Msg_isForward 17 = .ok (.iconst 1, 1) := by decide +kernel
theorem d_Msg_isForward_18 : decode b_Msg_isForward 18 = .ok (.goto 4, 3) := by decide +kernel
theorem d_Msg_isForward_21 : decode b_Msg_isForward 21 = .ok (.iconst 0, 1) := by decide +kernel
theorem d_Msg_isForward_22 : decode b_Msg_isForward 22 = .ok (.ireturn, 1) := by decide +kernel
theorem d_Msg_hasWayOf_0 : decode b_Msg_hasWayOf 0 = .ok (.aload_n 0, 1) := by decide +kernel
theorem d_Msg_hasWayOf_1 : decode b_Msg_hasWayOf 1 = .ok (.getfield 15, 3) := by decide +kernel
theorem d_Msg_hasWayOf_4 : decode b_Msg_hasWayOf 4 = .ok (.aload_n 1, 1) := by decide +kernel
theorem d_Msg_hasWayOf_5 : decode b_Msg_hasWayOf 5 = .ok (.getfield 15, 3) := by decide +kernel
theorem d_Msg_hasWayOf_8 : decode b_Msg_hasWayOf 8 = .ok (.if_icmp .ne 18, 3) := by decide +kernel
theorem d_Msg_hasWayOf_11 : decode b_Msg_hasWayOf 11 = .ok (.aload_n 0, 1) := by decide +kernel
theorem d_Msg_hasWayOf_12 : decode b_Msg_hasWayOf 12 = .ok (.getfield 18, 3) := by decide +kernel
theorem d_Msg_hasWayOf_15 : decode b_Msg_hasWayOf 15 = .ok (.aload_n 1, 1) := by decide +kernel
theorem d_Msg_hasWayOf_16 : decode b_Msg_hasWayOf 16 = .ok (.getfield 18, 3) := by decide +kernel
theorem d_Msg_hasWayOf_19 : decode b_Msg_hasWayOf 19 = .ok (.if_icmp .ne 7, 3) := by decide +kernel
theorem d_Msg_hasWayOf_22 : decode b_Msg_hasWayOf 22 = .ok (.iconst 1, 1) := by decide +kernel
theorem d_Msg_hasWayOf_23 : decode b_Msg_hasWayOf 23 = .ok (.goto 4, 3) := by decide +kernel
theorem d_Msg_hasWayOf_26 : decode b_Msg_hasWayOf 26 = .ok (.iconst 0, 1) := by decide +kernel
theorem d_Msg_hasWayOf_27 : decode b_Msg_hasWayOf 27 = .ok (.ireturn, 1) := by decide +kernel
theorem d_Msg_part_0 : decode b_Msg_part 0 = .ok (.iload_n 1, 1) := by decide +kernel
theorem d_Msg_part_1 : decode b_Msg_part 1 = .ok (.tableswitch 78 0 6 #[43, 48, 53, 58, 63, 68, 73], 43) := by decide +kernel
theorem d_Msg_part_44 : decode b_Msg_part 44 = .ok (.aload_n 0, 1) := by decide +kernel
theorem d_Msg_part_45 : decode b_Msg_part 45 = .ok (.getfield 9, 3) := by decide +kernel
theorem d_Msg_part_48 : decode b_Msg_part 48 = .ok (.ireturn, 1) := by decide +kernel
theorem d_Msg_part_49 : decode b_Msg_part 49 = .ok (.aload_n 0, 1) := by decide +kernel
theorem d_Msg_part_50 : decode b_Msg_part 50 = .ok (.getfield 21, 3) := by decide +kernel
theorem d_Msg_part_53 : decode b_Msg_part 53 = .ok (.ireturn, 1) := by decide +kernel
theorem d_Msg_part_54 : decode b_Msg_part 54 = .ok (.aload_n 0, 1) := by decide +kernel
theorem d_Msg_part_55 : decode b_Msg_part 55 = .ok (.getfield 18, 3) := by decide +kernel
theorem d_Msg_part_58 : decode b_Msg_part 58 = .ok (.ireturn, 1) := by decide +kernel
theorem d_Msg_part_59 : decode b_Msg_part 59 = .ok (.aload_n 0, 1) := by decide +kernel
theorem d_Msg_part_60 : decode b_Msg_part 60 = .ok (.getfield 15, 3) := by decide +kernel
theorem d_Msg_part_63 : decode b_Msg_part 63 = .ok (.ireturn, 1) := by decide +kernel
theorem d_Msg_part_64 : decode b_Msg_part 64 = .ok (.aload_n 0, 1) := by decide +kernel
theorem d_Msg_part_65 : decode b_Msg_part 65 = .ok (.getfield 24, 3) := by decide +kernel
theorem d_Msg_part_68 : decode b_Msg_part 68 = .ok (.ireturn, 1) := by decide +kernel
theorem d_Msg_part_69 : decode b_Msg_part 69 = .ok (.aload_n 0, 1) := by decide +kernel
theorem d_Msg_part_70 : decode b_Msg_part 70 = .ok (.getfield 27, 3) := by decide +kernel
theorem d_Msg_part_73 : decode b_Msg_part 73 = .ok (.ireturn, 1) := by decide +kernel
theorem d_Msg_part_74 : decode b_Msg_part 74 = .ok (.aload_n 0, 1) := by decide +kernel
theorem d_Msg_part_75 : decode b_Msg_part 75 = .ok (.getfield 30, 3) := by decide +kernel
theorem d_Msg_part_78 : decode b_Msg_part 78 = .ok (.ireturn, 1) := by decide +kernel
theorem d_Msg_part_79 : decode b_Msg_part 79 = .ok (.iconst (-1), 1) := by decide +kernel
theorem d_Msg_part_80 : decode b_Msg_part 80 = .ok (.ireturn, 1) := by decide +kernel
theorem d_Net_init_0 : decode b_Net_init 0 = .ok (.aload_n 0, 1) := by decide +kernel
theorem d_Net_init_1 : decode b_Net_init 1 = .ok (.invokespecial 3, 3) := by decide +kernel
theorem d_Net_init_4 : decode b_Net_init 4 = .ok (.aload_n 0, 1) := by decide +kernel
theorem d_Net_init_5 : decode b_Net_init 5 = .ok (.bipush 32, 2) := by decide +kernel
theorem d_Net_init_7 : decode b_Net_init 7 = .ok (.anewarray 11, 3) := by decide +kernel
theorem d_Net_init_10 : decode b_Net_init 10 = .ok (.putfield 13, 3) := by decide +kernel
theorem d_Net_init_13 : decode b_Net_init 13 = .ok (.iconst 0, 1) := by decide +kernel
theorem d_Net_init_14 : decode b_Net_init 14 = .ok (.istore_n 1, 1) := by decide +kernel
theorem d_Net_init_15 : decode b_Net_init 15 = .ok (.iload_n 1, 1) := by decide +kernel
theorem d_Net_init_16 : decode b_Net_init 16 = .ok (.bipush 32, 2) := by decide +kernel
theorem d_Net_init_18 : decode b_Net_init 18 = .ok (.if_icmp .ge 22, 3) := by decide +kernel
theorem d_Net_init_21 : decode b_Net_init 21 = .ok (.aload_n 0, 1) := by decide +kernel
theorem d_Net_init_22 : decode b_Net_init 22 = .ok (.getfield 13, 3) := by decide +kernel
theorem d_Net_init_25 : decode b_Net_init 25 = .ok (.iload_n 1, 1) := by decide +kernel
theorem d_Net_init_26 : decode b_Net_init 26 = .ok (.new 11, 3) := by decide +kernel
theorem d_Net_init_29 : decode b_Net_init 29 = .ok (.dup, 1) := by decide +kernel
theorem d_Net_init_30 : decode b_Net_init 30 = .ok (.invokespecial 17, 3) := by decide +kernel
theorem d_Net_init_33 : decode b_Net_init 33 = .ok (.aastore, 1) := by decide +kernel
theorem d_Net_init_34 : decode b_Net_init 34 = .ok (.iinc 1 1, 3) := by decide +kernel
theorem d_Net_init_37 : decode b_Net_init 37 = .ok (.goto (-22), 3) := by decide +kernel
theorem d_Net_init_40 : decode b_Net_init 40 = .ok (.return_, 1) := by decide +kernel
theorem d_Net_has_0 : decode b_Net_has 0 = .ok (.iload_n 1, 1) := by decide +kernel
theorem d_Net_has_1 : decode b_Net_has 1 = .ok (.ifCond .lt 15, 3) := by decide +kernel
theorem d_Net_has_4 : decode b_Net_has 4 = .ok (.iload_n 1, 1) := by decide +kernel
theorem d_Net_has_5 : decode b_Net_has 5 = .ok (.aload_n 0, 1) := by decide +kernel
theorem d_Net_has_6 : decode b_Net_has 6 = .ok (.getfield 18, 3) := by decide +kernel
theorem d_Net_has_9 : decode b_Net_has 9 = .ok (.if_icmp .ge 7, 3) := by decide +kernel
theorem d_Net_has_12 : decode b_Net_has 12 = .ok (.iconst 1, 1) := by decide +kernel
theorem d_Net_has_13 : decode b_Net_has 13 = .ok (.goto 4, 3) := by decide +kernel
theorem d_Net_has_16 : decode b_Net_has 16 = .ok (.iconst 0, 1) := by decide +kernel
theorem d_Net_has_17 : decode b_Net_has 17 = .ok (.ireturn, 1) := by decide +kernel
theorem d_Net_at_0 : decode b_Net_at 0 = .ok (.aload_n 0, 1) := by decide +kernel
theorem d_Net_at_1 : decode b_Net_at 1 = .ok (.getfield 13, 3) := by decide +kernel
theorem d_Net_at_4 : decode b_Net_at 4 = .ok (.iload_n 1, 1) := by decide +kernel
theorem d_Net_at_5 : decode b_Net_at 5 = .ok (.aaload, 1) := by decide +kernel
theorem d_Net_at_6 : decode b_Net_at 6 = .ok (.areturn, 1) := by decide +kernel
theorem d_Net_isBehind_0 : decode b_Net_isBehind 0 = .ok (.aload_n 0, 1) := by decide +kernel
theorem d_Net_isBehind_1 : decode b_Net_isBehind 1 = .ok (.getfield 13, 3) := by decide +kernel
theorem d_Net_isBehind_4 : decode b_Net_isBehind 4 = .ok (.iload_n 1, 1) := by decide +kernel
theorem d_Net_isBehind_5 : decode b_Net_isBehind 5 = .ok (.aaload, 1) := by decide +kernel
theorem d_Net_isBehind_6 : decode b_Net_isBehind 6 = .ok (.astore_n 2, 1) := by decide +kernel
theorem d_Net_isBehind_7 : decode b_Net_isBehind 7 = .ok (.aload_n 2, 1) := by decide +kernel
theorem d_Net_isBehind_8 : decode b_Net_isBehind 8 = .ok (.invokevirtual 22, 3) := by decide +kernel
theorem d_Net_isBehind_11 : decode b_Net_isBehind 11 = .ok (.ifCond .ne 5, 3) := by decide +kernel
theorem d_Net_isBehind_14 : decode b_Net_isBehind 14 = .ok (.iconst 0, 1) := by decide +kernel
theorem d_Net_isBehind_15 : decode b_Net_isBehind 15 = .ok (.ireturn, 1) := by decide +kernel
theorem d_Net_isBehind_16 : decode b_Net_isBehind 16 = .ok (.iconst 0, 1) := by decide +kernel
theorem d_Net_isBehind_17 : decode b_Net_isBehind 17 = .ok (.istore_n 3, 1) := by decide +kernel
theorem d_Net_isBehind_18 : decode b_Net_isBehind 18 = .ok (.iload_n 3, 1) := by decide +kernel
theorem d_Net_isBehind_19 : decode b_Net_isBehind 19 = .ok (.iload_n 1, 1) := by decide +kernel
theorem d_Net_isBehind_20 : decode b_Net_isBehind 20 = .ok (.if_icmp .ge 36, 3) := by decide +kernel
theorem d_Net_isBehind_23 : decode b_Net_isBehind 23 = .ok (.aload_n 0, 1) := by decide +kernel
theorem d_Net_isBehind_24 : decode b_Net_isBehind 24 = .ok (.getfield 13, 3) := by decide +kernel
theorem d_Net_isBehind_27 : decode b_Net_isBehind 27 = .ok (.iload_n 3, 1) := by decide +kernel
theorem d_Net_isBehind_28 : decode b_Net_isBehind 28 = .ok (.aaload, 1) := by decide +kernel
theorem d_Net_isBehind_29 : decode b_Net_isBehind 29 = .ok (.invokevirtual 22, 3) := by decide +kernel
theorem d_Net_isBehind_32 : decode b_Net_isBehind 32 = .ok (.ifCond .eq 18, 3) := by decide +kernel
theorem d_Net_isBehind_35 : decode b_Net_isBehind 35 = .ok (.aload_n 0, 1) := by decide +kernel
theorem d_Net_isBehind_36 : decode b_Net_isBehind 36 = .ok (.getfield 13, 3) := by decide +kernel
theorem d_Net_isBehind_39 : decode b_Net_isBehind 39 = .ok (.iload_n 3, 1) := by decide +kernel
theorem d_Net_isBehind_40 : decode b_Net_isBehind 40 = .ok (.aaload, 1) := by decide +kernel
theorem d_Net_isBehind_41 : decode b_Net_isBehind 41 = .ok (.aload_n 2, 1) := by decide +kernel
theorem d_Net_isBehind_42 : decode b_Net_isBehind 42 = .ok (.invokevirtual 26, 3) := by decide +kernel
theorem d_Net_isBehind_45 : decode b_Net_isBehind 45 = .ok (.ifCond .eq 5, 3) := by decide +kernel
theorem d_Net_isBehind_48 : decode b_Net_isBehind 48 = .ok (.iconst 1, 1) := by decide +kernel
theorem d_Net_isBehind_49 : decode b_Net_isBehind 49 = .ok (.ireturn, 1) := by decide +kernel
theorem d_Net_isBehind_50 : decode b_Net_isBehind 50 = .ok (.iinc 3 1, 3) := by decide +kernel
theorem d_Net_isBehind_53 : decode b_Net_isBehind 53 = .ok (.goto (-35), 3) := by decide +kernel
theorem d_Net_isBehind_56 : decode b_Net_isBehind 56 = .ok (.iconst 0, 1) := by decide +kernel
theorem d_Net_isBehind_57 : decode b_Net_isBehind 57 = .ok (.ireturn, 1) := by decide +kernel
theorem d_Net_takeOut_0 : decode b_Net_takeOut 0 = .ok (.aload_n 0, 1) := by decide +kernel
theorem d_Net_takeOut_1 : decode b_Net_takeOut 1 = .ok (.getfield 13, 3) := by decide +kernel
theorem d_Net_takeOut_4 : decode b_Net_takeOut 4 = .ok (.iload_n 1, 1) := by decide +kernel
theorem d_Net_takeOut_5 : decode b_Net_takeOut 5 = .ok (.aaload, 1) := by decide +kernel
theorem d_Net_takeOut_6 : decode b_Net_takeOut 6 = .ok (.astore_n 2, 1) := by decide +kernel
theorem d_Net_takeOut_7 : decode b_Net_takeOut 7 = .ok (.aload_n 0, 1) := by decide +kernel
theorem d_Net_takeOut_8 : decode b_Net_takeOut 8 = .ok (.dup, 1) := by decide +kernel
theorem d_Net_takeOut_9 : decode b_Net_takeOut 9 = .ok (.getfield 18, 3) := by decide +kernel
theorem d_Net_takeOut_12 : decode b_Net_takeOut 12 = .ok (.iconst 1, 1) := by decide +kernel
theorem d_Net_takeOut_13 : decode b_Net_takeOut 13 = .ok (.isub, 1) := by decide +kernel
theorem d_Net_takeOut_14 : decode b_Net_takeOut 14 = .ok (.putfield 18, 3) := by decide +kernel
theorem d_Net_takeOut_17 : decode b_Net_takeOut 17 = .ok (.iload_n 1, 1) := by decide +kernel
theorem d_Net_takeOut_18 : decode b_Net_takeOut 18 = .ok (.istore_n 3, 1) := by decide +kernel
theorem d_Net_takeOut_19 : decode b_Net_takeOut 19 = .ok (.iload_n 3, 1) := by decide +kernel
theorem d_Net_takeOut_20 : decode b_Net_takeOut 20 = .ok (.aload_n 0, 1) := by decide +kernel
theorem d_Net_takeOut_21 : decode b_Net_takeOut 21 = .ok (.getfield 18, 3) := by decide +kernel
theorem d_Net_takeOut_24 : decode b_Net_takeOut 24 = .ok (.if_icmp .ge 23, 3) := by decide +kernel
theorem d_Net_takeOut_27 : decode b_Net_takeOut 27 = .ok (.aload_n 0, 1) := by decide +kernel
theorem d_Net_takeOut_28 : decode b_Net_takeOut 28 = .ok (.getfield 13, 3) := by decide +kernel
theorem d_Net_takeOut_31 : decode b_Net_takeOut 31 = .ok (.iload_n 3, 1) := by decide +kernel
theorem d_Net_takeOut_32 : decode b_Net_takeOut 32 = .ok (.aload_n 0, 1) := by decide +kernel
theorem d_Net_takeOut_33 : decode b_Net_takeOut 33 = .ok (.getfield 13, 3) := by decide +kernel
theorem d_Net_takeOut_36 : decode b_Net_takeOut 36 = .ok (.iload_n 3, 1) := by decide +kernel
theorem d_Net_takeOut_37 : decode b_Net_takeOut 37 = .ok (.iconst 1, 1) := by decide +kernel
theorem d_Net_takeOut_38 : decode b_Net_takeOut 38 = .ok (.iadd, 1) := by decide +kernel
theorem d_Net_takeOut_39 : decode b_Net_takeOut 39 = .ok (.aaload, 1) := by decide +kernel
theorem d_Net_takeOut_40 : decode b_Net_takeOut 40 = .ok (.aastore, 1) := by decide +kernel
theorem d_Net_takeOut_41 : decode b_Net_takeOut 41 = .ok (.iinc 3 1, 3) := by decide +kernel
theorem d_Net_takeOut_44 : decode b_Net_takeOut 44 = .ok (.goto (-25), 3) := by decide +kernel
theorem d_Net_takeOut_47 : decode b_Net_takeOut 47 = .ok (.aload_n 0, 1) := by decide +kernel
theorem d_Net_takeOut_48 : decode b_Net_takeOut 48 = .ok (.getfield 13, 3) := by decide +kernel
theorem d_Net_takeOut_51 : decode b_Net_takeOut 51 = .ok (.aload_n 0, 1) := by decide +kernel
theorem d_Net_takeOut_52 : decode b_Net_takeOut 52 = .ok (.getfield 18, 3) := by decide +kernel
theorem d_Net_takeOut_55 : decode b_Net_takeOut 55 = .ok (.aload_n 2, 1) := by decide +kernel
theorem d_Net_takeOut_56 : decode b_Net_takeOut 56 = .ok (.aastore, 1) := by decide +kernel
theorem d_Net_takeOut_57 : decode b_Net_takeOut 57 = .ok (.return_, 1) := by decide +kernel
theorem d_Net_sendPlain_0 : decode b_Net_sendPlain 0 = .ok (.aload_n 0, 1) := by decide +kernel
theorem d_Net_sendPlain_1 : decode b_Net_sendPlain 1 = .ok (.iload_n 1, 1) := by decide +kernel
theorem d_Net_sendPlain_2 : decode b_Net_sendPlain 2 = .ok (.iload_n 2, 1) := by decide +kernel
theorem d_Net_sendPlain_3 : decode b_Net_sendPlain 3 = .ok (.iload_n 3, 1) := by decide +kernel
theorem d_Net_sendPlain_4 : decode b_Net_sendPlain 4 = .ok (.iload 4, 2) := by decide +kernel
theorem d_Net_sendPlain_6 : decode b_Net_sendPlain 6 = .ok (.iconst 0, 1) := by decide +kernel
theorem d_Net_sendPlain_7 : decode b_Net_sendPlain 7 = .ok (.iconst 0, 1) := by decide +kernel
theorem d_Net_sendPlain_8 : decode b_Net_sendPlain 8 = .ok (.iconst (-1), 1) := by decide +kernel
theorem d_Net_sendPlain_9 : decode b_Net_sendPlain 9 = .ok (.invokevirtual 30, 3) := by decide +kernel
theorem d_Net_sendPlain_12 : decode b_Net_sendPlain 12 = .ok (.return_, 1) := by decide +kernel
theorem d_Net_sendFor_0 : decode b_Net_sendFor 0 = .ok (.aload_n 0, 1) := by decide +kernel
theorem d_Net_sendFor_1 : decode b_Net_sendFor 1 = .ok (.iload_n 1, 1) := by decide +kernel
theorem d_Net_sendFor_2 : decode b_Net_sendFor 2 = .ok (.iconst 4, 1) := by decide +kernel
theorem d_Net_sendFor_3 : decode b_Net_sendFor 3 = .ok (.iload_n 2, 1) := by decide +kernel
theorem d_Net_sendFor_4 : decode b_Net_sendFor 4 = .ok (.iload_n 3, 1) := by decide +kernel
theorem d_Net_sendFor_5 : decode b_Net_sendFor 5 = .ok (.iconst 0, 1) := by decide +kernel
theorem d_Net_sendFor_6 : decode b_Net_sendFor 6 = .ok (.iconst 0, 1) := by decide +kernel
theorem d_Net_sendFor_7 : decode b_Net_sendFor 7 = .ok (.iload 4, 2) := by decide +kernel
theorem d_Net_sendFor_9 : decode b_Net_sendFor 9 = .ok (.invokevirtual 30, 3) := by decide +kernel
theorem d_Net_sendFor_12 : decode b_Net_sendFor 12 = .ok (.return_, 1) := by decide +kernel
theorem d_Net_sendWord_0 : decode b_Net_sendWord 0 = .ok (.aload_n 0, 1) := by decide +kernel
theorem d_Net_sendWord_1 : decode b_Net_sendWord 1 = .ok (.iload_n 1, 1) := by decide +kernel
theorem d_Net_sendWord_2 : decode b_Net_sendWord 2 = .ok (.iload_n 2, 1) := by decide +kernel
theorem d_Net_sendWord_3 : decode b_Net_sendWord 3 = .ok (.iload_n 3, 1) := by decide +kernel
theorem d_Net_sendWord_4 : decode b_Net_sendWord 4 = .ok (.iload 4, 2) := by decide +kernel
theorem d_Net_sendWord_6 : decode b_Net_sendWord 6 = .ok (.iload 5, 2) := by decide +kernel
theorem d_Net_sendWord_8 : decode b_Net_sendWord 8 = .ok (.iconst 0, 1) := by decide +kernel
theorem d_Net_sendWord_9 : decode b_Net_sendWord 9 = .ok (.iconst (-1), 1) := by decide +kernel
theorem d_Net_sendWord_10 : decode b_Net_sendWord 10 = .ok (.invokevirtual 30, 3) := by decide +kernel
theorem d_Net_sendWord_13 : decode b_Net_sendWord 13 = .ok (.return_, 1) := by decide +kernel
theorem d_Net_sendData_0 : decode b_Net_sendData 0 = .ok (.aload_n 0, 1) := by decide +kernel
theorem d_Net_sendData_1 : decode b_Net_sendData 1 = .ok (.bipush 8, 2) := by decide +kernel
theorem d_Net_sendData_3 : decode b_Net_sendData 3 = .ok (.iload_n 1, 1) := by decide +kernel
theorem d_Net_sendData_4 : decode b_Net_sendData 4 = .ok (.iload_n 2, 1) := by decide +kernel
theorem d_Net_sendData_5 : decode b_Net_sendData 5 = .ok (.iload_n 3, 1) := by decide +kernel
theorem d_Net_sendData_6 : decode b_Net_sendData 6 = .ok (.iload 4, 2) := by decide +kernel
theorem d_Net_sendData_8 : decode b_Net_sendData 8 = .ok (.iload 5, 2) := by decide +kernel
theorem d_Net_sendData_10 : decode b_Net_sendData 10 = .ok (.iconst (-1), 1) := by decide +kernel
theorem d_Net_sendData_11 : decode b_Net_sendData 11 = .ok (.invokevirtual 30, 3) := by decide +kernel
theorem d_Net_sendData_14 : decode b_Net_sendData 14 = .ok (.return_, 1) := by decide +kernel
theorem d_Net_send_0 : decode b_Net_send 0 = .ok (.aload_n 0, 1) := by decide +kernel
theorem d_Net_send_1 : decode b_Net_send 1 = .ok (.getfield 18, 3) := by decide +kernel
theorem d_Net_send_4 : decode b_Net_send 4 = .ok (.bipush 32, 2) := by decide +kernel
theorem d_Net_send_6 : decode b_Net_send 6 = .ok (.if_icmp .lt 4, 3) := by decide +kernel
theorem d_Net_send_9 : decode b_Net_send 9 = .ok (.return_, 1) := by decide +kernel
theorem d_Net_send_10 : decode b_Net_send 10 = .ok (.aload_n 0, 1) := by decide +kernel
theorem d_Net_send_11 : decode b_Net_send 11 = .ok (.getfield 13, 3) := by decide +kernel
theorem d_Net_send_14 : decode b_Net_send 14 = .ok (.aload_n 0, 1) := by decide +kernel
theorem d_Net_send_15 : decode b_Net_send 15 = .ok (.getfield 18, 3) := by decide +kernel
theorem d_Net_send_18 : decode b_Net_send 18 = .ok (.aaload, 1) := by decide +kernel
theorem d_Net_send_19 : decode b_Net_send 19 = .ok (.astore 8, 2) := by decide +kernel
theorem d_Net_send_21 : decode b_Net_send 21 = .ok (.aload 8, 2) := by decide +kernel
theorem d_Net_send_23 : decode b_Net_send 23 = .ok (.iload_n 1, 1) := by decide +kernel
theorem d_Net_send_24 : decode b_Net_send 24 = .ok (.putfield 34, 3) := by decide +kernel
theorem d_Net_send_27 : decode b_Net_send 27 = .ok (.aload 8, 2) := by decide +kernel
theorem d_Net_send_29 : decode b_Net_send 29 = .ok (.iload_n 2, 1) := by decide +kernel
theorem d_Net_send_30 : decode b_Net_send 30 = .ok (.putfield 37, 3) := by decide +kernel
theorem d_Net_send_33 : decode b_Net_send 33 = .ok (.aload 8, 2) := by decide +kernel
theorem d_Net_send_35 : decode b_Net_send 35 = .ok (.iload_n 3, 1) := by decide +kernel
theorem d_Net_send_36 : decode b_Net_send 36 = .ok (.putfield 40, 3) := by decide +kernel
theorem d_Net_send_39 : decode b_Net_send 39 = .ok (.aload 8, 2) := by decide +kernel
theorem d_Net_send_41 : decode b_Net_send 41 = .ok (.iload 4, 2) := by decide +kernel
theorem d_Net_send_43 : decode b_Net_send 43 = .ok (.putfield 43, 3) := by decide +kernel
theorem d_Net_send_46 : decode b_Net_send 46 = .ok (.aload 8, 2) := by decide +kernel
theorem d_Net_send_48 : decode b_Net_send 48 = .ok (.iload 5, 2) := by decide +kernel
theorem d_Net_send_50 : decode b_Net_send 50 = .ok (.putfield 46, 3) := by decide +kernel
theorem d_Net_send_53 : decode b_Net_send 53 = .ok (.aload 8, 2) := by decide +kernel
theorem d_Net_send_55 : decode b_Net_send 55 = .ok (.iload 6, 2) := by decide +kernel
theorem d_Net_send_57 : decode b_Net_send 57 = .ok (.putfield 49, 3) := by decide +kernel
theorem d_Net_send_60 : decode b_Net_send 60 = .ok (.aload 8, 2) := by decide +kernel
theorem d_Net_send_62 : decode b_Net_send 62 = .ok (.iload 7, 2) := by decide +kernel
theorem d_Net_send_64 : decode b_Net_send 64 = .ok (.putfield 52, 3) := by decide +kernel
theorem d_Net_send_67 : decode b_Net_send 67 = .ok (.aload_n 0, 1) := by decide +kernel
theorem d_Net_send_68 : decode b_Net_send 68 = .ok (.dup, 1) := by decide +kernel
theorem d_Net_send_69 : decode b_Net_send 69 = .ok (.getfield 18, 3) := by decide +kernel
theorem d_Net_send_72 : decode b_Net_send 72 = .ok (.iconst 1, 1) := by decide +kernel
theorem d_Net_send_73 : decode b_Net_send 73 = .ok (.iadd, 1) := by decide +kernel
theorem d_Net_send_74 : decode b_Net_send 74 = .ok (.putfield 18, 3) := by decide +kernel
theorem d_Net_send_77 : decode b_Net_send 77 = .ok (.aload_n 0, 1) := by decide +kernel
theorem d_Net_send_78 : decode b_Net_send 78 = .ok (.dup, 1) := by decide +kernel
theorem d_Net_send_79 : decode b_Net_send 79 = .ok (.getfield 55, 3) := by decide +kernel
theorem d_Net_send_82 : decode b_Net_send 82 = .ok (.iconst 1, 1) := by decide +kernel
theorem d_Net_send_83 : decode b_Net_send 83 = .ok (.iadd, 1) := by decide +kernel
theorem d_Net_send_84 : decode b_Net_send 84 = .ok (.putfield 55, 3) := by decide +kernel
theorem d_Net_send_87 : decode b_Net_send 87 = .ok (.return_, 1) := by decide +kernel
theorem d_Int_bitCount_0 : decode b_Int_bitCount 0 = .ok (.iload_n 0, 1) := by decide +kernel
theorem d_Int_bitCount_1 : decode b_Int_bitCount 1 = .ok (.iload_n 0, 1) := by decide +kernel
theorem d_Int_bitCount_2 : decode b_Int_bitCount 2 = .ok (.iconst 1, 1) := by decide +kernel
theorem d_Int_bitCount_3 : decode b_Int_bitCount 3 = .ok (.iushr, 1) := by decide +kernel
theorem d_Int_bitCount_4 : decode b_Int_bitCount 4 = .ok (.ldc_w 265, 3) := by decide +kernel
theorem d_Int_bitCount_7 : decode b_Int_bitCount 7 = .ok (.iand, 1) := by decide +kernel
theorem d_Int_bitCount_8 : decode b_Int_bitCount 8 = .ok (.isub, 1) := by decide +kernel
theorem d_Int_bitCount_9 : decode b_Int_bitCount 9 = .ok (.istore_n 0, 1) := by decide +kernel
theorem d_Int_bitCount_10 : decode b_Int_bitCount 10 = .ok (.iload_n 0, 1) := by decide +kernel
theorem d_Int_bitCount_11 : decode b_Int_bitCount 11 = .ok (.ldc_w 266, 3) := by decide +kernel
theorem d_Int_bitCount_14 : decode b_Int_bitCount 14 = .ok (.iand, 1) := by decide +kernel
theorem d_Int_bitCount_15 : decode b_Int_bitCount 15 = .ok (.iload_n 0, 1) := by decide +kernel
theorem d_Int_bitCount_16 : decode b_Int_bitCount 16 = .ok (.iconst 2, 1) := by decide +kernel
theorem d_Int_bitCount_17 : decode b_Int_bitCount 17 = .ok (.iushr, 1) := by decide +kernel
theorem d_Int_bitCount_18 : decode b_Int_bitCount 18 = .ok (.ldc_w 266, 3) := by decide +kernel
theorem d_Int_bitCount_21 : decode b_Int_bitCount 21 = .ok (.iand, 1) := by decide +kernel
theorem d_Int_bitCount_22 : decode b_Int_bitCount 22 = .ok (.iadd, 1) := by decide +kernel
theorem d_Int_bitCount_23 : decode b_Int_bitCount 23 = .ok (.istore_n 0, 1) := by decide +kernel
theorem d_Int_bitCount_24 : decode b_Int_bitCount 24 = .ok (.iload_n 0, 1) := by decide +kernel
theorem d_Int_bitCount_25 : decode b_Int_bitCount 25 = .ok (.iload_n 0, 1) := by decide +kernel
theorem d_Int_bitCount_26 : decode b_Int_bitCount 26 = .ok (.iconst 4, 1) := by decide +kernel
theorem d_Int_bitCount_27 : decode b_Int_bitCount 27 = .ok (.iushr, 1) := by decide +kernel
theorem d_Int_bitCount_28 : decode b_Int_bitCount 28 = .ok (.iadd, 1) := by decide +kernel
theorem d_Int_bitCount_29 : decode b_Int_bitCount 29 = .ok (.ldc_w 267, 3) := by decide +kernel
theorem d_Int_bitCount_32 : decode b_Int_bitCount 32 = .ok (.iand, 1) := by decide +kernel
theorem d_Int_bitCount_33 : decode b_Int_bitCount 33 = .ok (.istore_n 0, 1) := by decide +kernel
theorem d_Int_bitCount_34 : decode b_Int_bitCount 34 = .ok (.iload_n 0, 1) := by decide +kernel
theorem d_Int_bitCount_35 : decode b_Int_bitCount 35 = .ok (.iload_n 0, 1) := by decide +kernel
theorem d_Int_bitCount_36 : decode b_Int_bitCount 36 = .ok (.bipush 8, 2) := by decide +kernel
theorem d_Int_bitCount_38 : decode b_Int_bitCount 38 = .ok (.iushr, 1) := by decide +kernel
theorem d_Int_bitCount_39 : decode b_Int_bitCount 39 = .ok (.iadd, 1) := by decide +kernel
theorem d_Int_bitCount_40 : decode b_Int_bitCount 40 = .ok (.istore_n 0, 1) := by decide +kernel
theorem d_Int_bitCount_41 : decode b_Int_bitCount 41 = .ok (.iload_n 0, 1) := by decide +kernel
theorem d_Int_bitCount_42 : decode b_Int_bitCount 42 = .ok (.iload_n 0, 1) := by decide +kernel
theorem d_Int_bitCount_43 : decode b_Int_bitCount 43 = .ok (.bipush 16, 2) := by decide +kernel
theorem d_Int_bitCount_45 : decode b_Int_bitCount 45 = .ok (.iushr, 1) := by decide +kernel
theorem d_Int_bitCount_46 : decode b_Int_bitCount 46 = .ok (.iadd, 1) := by decide +kernel
theorem d_Int_bitCount_47 : decode b_Int_bitCount 47 = .ok (.istore_n 0, 1) := by decide +kernel
theorem d_Int_bitCount_48 : decode b_Int_bitCount 48 = .ok (.iload_n 0, 1) := by decide +kernel
theorem d_Int_bitCount_49 : decode b_Int_bitCount 49 = .ok (.bipush 63, 2) := by decide +kernel
theorem d_Int_bitCount_51 : decode b_Int_bitCount 51 = .ok (.iand, 1) := by decide +kernel
theorem d_Int_bitCount_52 : decode b_Int_bitCount 52 = .ok (.ireturn, 1) := by decide +kernel
theorem d_Math_max_0 : decode b_Math_max 0 = .ok (.iload_n 0, 1) := by decide +kernel
theorem d_Math_max_1 : decode b_Math_max 1 = .ok (.iload_n 1, 1) := by decide +kernel
theorem d_Math_max_2 : decode b_Math_max 2 = .ok (.if_icmp .lt 7, 3) := by decide +kernel
theorem d_Math_max_5 : decode b_Math_max 5 = .ok (.iload_n 0, 1) := by decide +kernel
theorem d_Math_max_6 : decode b_Math_max 6 = .ok (.goto 4, 3) := by decide +kernel
theorem d_Math_max_9 : decode b_Math_max 9 = .ok (.iload_n 1, 1) := by decide +kernel
theorem d_Math_max_10 : decode b_Math_max 10 = .ok (.ireturn, 1) := by decide +kernel
theorem d_Math_min_0 : decode b_Math_min 0 = .ok (.iload_n 0, 1) := by decide +kernel
theorem d_Math_min_1 : decode b_Math_min 1 = .ok (.iload_n 1, 1) := by decide +kernel
theorem d_Math_min_2 : decode b_Math_min 2 = .ok (.if_icmp .gt 7, 3) := by decide +kernel
theorem d_Math_min_5 : decode b_Math_min 5 = .ok (.iload_n 0, 1) := by decide +kernel
theorem d_Math_min_6 : decode b_Math_min 6 = .ok (.goto 4, 3) := by decide +kernel
theorem d_Math_min_9 : decode b_Math_min 9 = .ok (.iload_n 1, 1) := by decide +kernel
theorem d_Math_min_10 : decode b_Math_min 10 = .ok (.ireturn, 1) := by decide +kernel
theorem d_Arr_fill_0 : decode b_Arr_fill 0 = .ok (.iconst 0, 1) := by decide +kernel
theorem d_Arr_fill_1 : decode b_Arr_fill 1 = .ok (.istore_n 2, 1) := by decide +kernel
theorem d_Arr_fill_2 : decode b_Arr_fill 2 = .ok (.aload_n 0, 1) := by decide +kernel
theorem d_Arr_fill_3 : decode b_Arr_fill 3 = .ok (.arraylength, 1) := by decide +kernel
theorem d_Arr_fill_4 : decode b_Arr_fill 4 = .ok (.istore_n 3, 1) := by decide +kernel
theorem d_Arr_fill_5 : decode b_Arr_fill 5 = .ok (.iload_n 2, 1) := by decide +kernel
theorem d_Arr_fill_6 : decode b_Arr_fill 6 = .ok (.iload_n 3, 1) := by decide +kernel
theorem d_Arr_fill_7 : decode b_Arr_fill 7 = .ok (.if_icmp .ge 13, 3) := by decide +kernel
theorem d_Arr_fill_10 : decode b_Arr_fill 10 = .ok (.aload_n 0, 1) := by decide +kernel
theorem d_Arr_fill_11 : decode b_Arr_fill 11 = .ok (.iload_n 2, 1) := by decide +kernel
theorem d_Arr_fill_12 : decode b_Arr_fill 12 = .ok (.iload_n 1, 1) := by decide +kernel
theorem d_Arr_fill_13 : decode b_Arr_fill 13 = .ok (.iastore, 1) := by decide +kernel
theorem d_Arr_fill_14 : decode b_Arr_fill 14 = .ok (.iinc 2 1, 3) := by decide +kernel
theorem d_Arr_fill_17 : decode b_Arr_fill 17 = .ok (.goto (-12), 3) := by decide +kernel
theorem d_Arr_fill_20 : decode b_Arr_fill 20 = .ok (.return_, 1) := by decide +kernel
