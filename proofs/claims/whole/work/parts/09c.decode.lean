theorem dX6_files_2 : decode cX6_files 2 = .ok (.invokevirtual 146, 3) := by decide +kernel
theorem dX6_files_5 : decode cX6_files 5 = .ok (.astore_n 2, 1) := by decide +kernel
theorem dX6_files_6 : decode cX6_files 6 = .ok (.aload_n 2, 1) := by decide +kernel
theorem dX6_files_7 : decode cX6_files 7 = .ok (.ifnonnull 8, 3) := by decide +kernel
theorem dX6_files_10 : decode cX6_files 10 = .ok (.ldc 89, 2) := by decide +kernel
theorem dX6_files_12 : decode cX6_files 12 = .ok (.goto 7, 3) := by decide +kernel
theorem dX6_files_15 : decode cX6_files 15 = .ok (.aload_n 2, 1) := by decide +kernel
theorem dX6_files_16 : decode cX6_files 16 = .ok (.invokevirtual 154, 3) := by decide +kernel
theorem dX6_files_19 : decode cX6_files 19 = .ok (.ireturn, 1) := by decide +kernel
theorem dX6_file_0 : decode cX6_file 0 = .ok (.aload_n 0, 1) := by decide +kernel
theorem dX6_file_1 : decode cX6_file 1 = .ok (.iload_n 1, 1) := by decide +kernel
theorem dX6_file_2 : decode cX6_file 2 = .ok (.iload_n 2, 1) := by decide +kernel
theorem dX6_file_3 : decode cX6_file 3 = .ok (.invokevirtual 208, 3) := by decide +kernel
theorem dX6_file_6 : decode cX6_file 6 = .ok (.astore 4, 2) := by decide +kernel
theorem dX6_file_8 : decode cX6_file 8 = .ok (.aload 4, 2) := by decide +kernel
theorem dX6_file_10 : decode cX6_file 10 = .ok (.ifnonnull 6, 3) := by decide +kernel
theorem dX6_file_13 : decode cX6_file 13 = .ok (.ldc 89, 2) := by decide +kernel
theorem dX6_file_15 : decode cX6_file 15 = .ok (.ireturn, 1) := by decide +kernel
theorem dX6_file_16 : decode cX6_file 16 = .ok (.iload_n 3, 1) := by decide +kernel
theorem dX6_file_17 : decode cX6_file 17 = .ok (.tableswitch 78 0 5 #[39, 45, 54, 60, 66, 72], 39) := by decide +kernel
theorem dX6_file_56 : decode cX6_file 56 = .ok (.aload 4, 2) := by decide +kernel
theorem dX6_file_58 : decode cX6_file 58 = .ok (.getfield 212, 3) := by decide +kernel
theorem dX6_file_61 : decode cX6_file 61 = .ok (.ireturn, 1) := by decide +kernel
theorem dX6_file_62 : decode cX6_file 62 = .ok (.aload 4, 2) := by decide +kernel
theorem dX6_file_64 : decode cX6_file 64 = .ok (.getfield 216, 3) := by decide +kernel
theorem dX6_file_67 : decode cX6_file 67 = .ok (.getfield 66, 3) := by decide +kernel
theorem dX6_file_70 : decode cX6_file 70 = .ok (.ireturn, 1) := by decide +kernel
theorem dX6_file_71 : decode cX6_file 71 = .ok (.aload 4, 2) := by decide +kernel
theorem dX6_file_73 : decode cX6_file 73 = .ok (.invokevirtual 219, 3) := by decide +kernel
theorem dX6_file_76 : decode cX6_file 76 = .ok (.ireturn, 1) := by decide +kernel
theorem dX6_file_77 : decode cX6_file 77 = .ok (.aload 4, 2) := by decide +kernel
theorem dX6_file_79 : decode cX6_file 79 = .ok (.invokevirtual 221, 3) := by decide +kernel
theorem dX6_file_82 : decode cX6_file 82 = .ok (.ireturn, 1) := by decide +kernel
theorem dX6_file_83 : decode cX6_file 83 = .ok (.aload 4, 2) := by decide +kernel
theorem dX6_file_85 : decode cX6_file 85 = .ok (.getfield 223, 3) := by decide +kernel
theorem dX6_file_88 : decode cX6_file 88 = .ok (.ireturn, 1) := by decide +kernel
theorem dX6_file_89 : decode cX6_file 89 = .ok (.aload 4, 2) := by decide +kernel
theorem dX6_file_91 : decode cX6_file 91 = .ok (.getfield 226, 3) := by decide +kernel
theorem dX6_file_94 : decode cX6_file 94 = .ok (.ireturn, 1) := by decide +kernel
theorem dX6_file_95 : decode cX6_file 95 = .ok (.ldc 60, 2) := by decide +kernel
theorem dX6_file_97 : decode cX6_file 97 = .ok (.ireturn, 1) := by decide +kernel
theorem dX6_entry_0 : decode cX6_entry 0 = .ok (.aload_n 0, 1) := by decide +kernel
theorem dX6_entry_1 : decode cX6_entry 1 = .ok (.iload_n 1, 1) := by decide +kernel
theorem dX6_entry_2 : decode cX6_entry 2 = .ok (.iload_n 2, 1) := by decide +kernel
theorem dX6_entry_3 : decode cX6_entry 3 = .ok (.invokevirtual 208, 3) := by decide +kernel
theorem dX6_entry_6 : decode cX6_entry 6 = .ok (.astore 5, 2) := by decide +kernel
theorem dX6_entry_8 : decode cX6_entry 8 = .ok (.aload 5, 2) := by decide +kernel
theorem dX6_entry_10 : decode cX6_entry 10 = .ok (.ifnonnull 8, 3) := by decide +kernel
theorem dX6_entry_13 : decode cX6_entry 13 = .ok (.ldc 89, 2) := by decide +kernel
theorem dX6_entry_15 : decode cX6_entry 15 = .ok (.goto 14, 3) := by decide +kernel
theorem dX6_entry_18 : decode cX6_entry 18 = .ok (.aload 5, 2) := by decide +kernel
theorem dX6_entry_20 : decode cX6_entry 20 = .ok (.getfield 216, 3) := by decide +kernel
theorem dX6_entry_23 : decode cX6_entry 23 = .ok (.iload_n 3, 1) := by decide +kernel
theorem dX6_entry_24 : decode cX6_entry 24 = .ok (.iload 4, 2) := by decide +kernel
theorem dX6_entry_26 : decode cX6_entry 26 = .ok (.invokevirtual 229, 3) := by decide +kernel
theorem dX6_entry_29 : decode cX6_entry 29 = .ok (.ireturn, 1) := by decide +kernel
theorem dX6_byteAt_0 : decode cX6_byteAt 0 = .ok (.aload_n 0, 1) := by decide +kernel
theorem dX6_byteAt_1 : decode cX6_byteAt 1 = .ok (.getfield 36, 3) := by decide +kernel
theorem dX6_byteAt_4 : decode cX6_byteAt 4 = .ok (.iload_n 1, 1) := by decide +kernel
theorem dX6_byteAt_5 : decode cX6_byteAt 5 = .ok (.invokevirtual 232, 3) := by decide +kernel
theorem dX6_byteAt_8 : decode cX6_byteAt 8 = .ok (.ifCond .eq 15, 3) := by decide +kernel
theorem dX6_byteAt_11 : decode cX6_byteAt 11 = .ok (.aload_n 0, 1) := by decide +kernel
theorem dX6_byteAt_12 : decode cX6_byteAt 12 = .ok (.getfield 36, 3) := by decide +kernel
theorem dX6_byteAt_15 : decode cX6_byteAt 15 = .ok (.getfield 235, 3) := by decide +kernel
theorem dX6_byteAt_18 : decode cX6_byteAt 18 = .ok (.iload_n 1, 1) := by decide +kernel
theorem dX6_byteAt_19 : decode cX6_byteAt 19 = .ok (.iaload, 1) := by decide +kernel
theorem dX6_byteAt_20 : decode cX6_byteAt 20 = .ok (.goto 5, 3) := by decide +kernel
theorem dX6_byteAt_23 : decode cX6_byteAt 23 = .ok (.ldc 60, 2) := by decide +kernel
theorem dX6_byteAt_25 : decode cX6_byteAt 25 = .ok (.ireturn, 1) := by decide +kernel
theorem dX6_log_0 : decode cX6_log 0 = .ok (.aload_n 0, 1) := by decide +kernel
theorem dX6_log_1 : decode cX6_log 1 = .ok (.getfield 14, 3) := by decide +kernel
theorem dX6_log_4 : decode cX6_log 4 = .ok (.iload_n 1, 1) := by decide +kernel
theorem dX6_log_5 : decode cX6_log 5 = .ok (.iload_n 2, 1) := by decide +kernel
theorem dX6_log_6 : decode cX6_log 6 = .ok (.invokevirtual 229, 3) := by decide +kernel
theorem dX6_log_9 : decode cX6_log 9 = .ok (.ireturn, 1) := by decide +kernel
theorem dX6_count_0 : decode cX6_count 0 = .ok (.iload_n 1, 1) := by decide +kernel
theorem dX6_count_1 : decode cX6_count 1 = .ok (.tableswitch 123 0 8 #[51, 59, 64, 69, 74, 79, 102, 113, 118], 51) := by decide +kernel
theorem dX6_count_52 : decode cX6_count 52 = .ok (.aload_n 0, 1) := by decide +kernel
theorem dX6_count_53 : decode cX6_count 53 = .ok (.getfield 14, 3) := by decide +kernel
theorem dX6_count_56 : decode cX6_count 56 = .ok (.getfield 66, 3) := by decide +kernel
theorem dX6_count_59 : decode cX6_count 59 = .ok (.ireturn, 1) := by decide +kernel
theorem dX6_count_60 : decode cX6_count 60 = .ok (.aload_n 0, 1) := by decide +kernel
theorem dX6_count_61 : decode cX6_count 61 = .ok (.getfield 70, 3) := by decide +kernel
theorem dX6_count_64 : decode cX6_count 64 = .ok (.ireturn, 1) := by decide +kernel
theorem dX6_count_65 : decode cX6_count 65 = .ok (.aload_n 0, 1) := by decide +kernel
theorem dX6_count_66 : decode cX6_count 66 = .ok (.getfield 80, 3) := by decide +kernel
theorem dX6_count_69 : decode cX6_count 69 = .ok (.ireturn, 1) := by decide +kernel
theorem dX6_count_70 : decode cX6_count 70 = .ok (.aload_n 0, 1) := by decide +kernel
theorem dX6_count_71 : decode cX6_count 71 = .ok (.invokevirtual 238, 3) := by decide +kernel
theorem dX6_count_74 : decode cX6_count 74 = .ok (.ireturn, 1) := by decide +kernel
theorem dX6_count_75 : decode cX6_count 75 = .ok (.aload_n 0, 1) := by decide +kernel
theorem dX6_count_76 : decode cX6_count 76 = .ok (.invokevirtual 241, 3) := by decide +kernel
theorem dX6_count_79 : decode cX6_count 79 = .ok (.ireturn, 1) := by decide +kernel
theorem dX6_count_80 : decode cX6_count 80 = .ok (.aload_n 0, 1) := by decide +kernel
theorem dX6_count_81 : decode cX6_count 81 = .ok (.getfield 50, 3) := by decide +kernel
theorem dX6_count_84 : decode cX6_count 84 = .ok (.getfield 108, 3) := by decide +kernel
theorem dX6_count_87 : decode cX6_count 87 = .ok (.ifCond .eq 13, 3) := by decide +kernel
theorem dX6_count_90 : decode cX6_count 90 = .ok (.aload_n 0, 1) := by decide +kernel
theorem dX6_count_91 : decode cX6_count 91 = .ok (.getfield 50, 3) := by decide +kernel
theorem dX6_count_94 : decode cX6_count 94 = .ok (.invokevirtual 143, 3) := by decide +kernel
theorem dX6_count_97 : decode cX6_count 97 = .ok (.goto 5, 3) := by decide +kernel
theorem dX6_count_100 : decode cX6_count 100 = .ok (.ldc 65, 2) := by decide +kernel
theorem dX6_count_102 : decode cX6_count 102 = .ok (.ireturn, 1) := by decide +kernel
theorem dX6_count_103 : decode cX6_count 103 = .ok (.aload_n 0, 1) := by decide +kernel
theorem dX6_count_104 : decode cX6_count 104 = .ok (.getfield 50, 3) := by decide +kernel
theorem dX6_count_107 : decode cX6_count 107 = .ok (.getfield 186, 3) := by decide +kernel
theorem dX6_count_110 : decode cX6_count 110 = .ok (.invokevirtual 154, 3) := by decide +kernel
theorem dX6_count_113 : decode cX6_count 113 = .ok (.ireturn, 1) := by decide +kernel
theorem dX6_count_114 : decode cX6_count 114 = .ok (.aload_n 0, 1) := by decide +kernel
theorem dX6_count_115 : decode cX6_count 115 = .ok (.getfield 244, 3) := by decide +kernel
theorem dX6_count_118 : decode cX6_count 118 = .ok (.ireturn, 1) := by decide +kernel
theorem dX6_count_119 : decode cX6_count 119 = .ok (.aload_n 0, 1) := by decide +kernel
theorem dX6_count_120 : decode cX6_count 120 = .ok (.invokevirtual 247, 3) := by decide +kernel
theorem dX6_count_123 : decode cX6_count 123 = .ok (.ireturn, 1) := by decide +kernel
theorem dX6_count_124 : decode cX6_count 124 = .ok (.ldc 60, 2) := by decide +kernel
theorem dX6_count_126 : decode cX6_count 126 = .ok (.ireturn, 1) := by decide +kernel
theorem dX6_check_0 : decode cX6_check 0 = .ok (.iconst 0, 1) := by decide +kernel
theorem dX6_check_1 : decode cX6_check 1 = .ok (.istore_n 1, 1) := by decide +kernel
theorem dX6_check_2 : decode cX6_check 2 = .ok (.aload_n 0, 1) := by decide +kernel
theorem dX6_check_3 : decode cX6_check 3 = .ok (.getfield 25, 3) := by decide +kernel
theorem dX6_check_6 : decode cX6_check 6 = .ok (.astore_n 2, 1) := by decide +kernel
theorem dX6_check_7 : decode cX6_check 7 = .ok (.aload_n 2, 1) := by decide +kernel
theorem dX6_check_8 : decode cX6_check 8 = .ok (.arraylength, 1) := by decide +kernel
theorem dX6_check_9 : decode cX6_check 9 = .ok (.istore_n 3, 1) := by decide +kernel
theorem dX6_check_10 : decode cX6_check 10 = .ok (.iconst 0, 1) := by decide +kernel
theorem dX6_check_11 : decode cX6_check 11 = .ok (.istore 4, 2) := by decide +kernel
theorem dX6_check_13 : decode cX6_check 13 = .ok (.iload 4, 2) := by decide +kernel
theorem dX6_check_15 : decode cX6_check 15 = .ok (.iload_n 3, 1) := by decide +kernel
theorem dX6_check_16 : decode cX6_check 16 = .ok (.if_icmp .ge 63, 3) := by decide +kernel
theorem dX6_check_19 : decode cX6_check 19 = .ok (.aload_n 2, 1) := by decide +kernel
theorem dX6_check_20 : decode cX6_check 20 = .ok (.iload 4, 2) := by decide +kernel
theorem dX6_check_22 : decode cX6_check 22 = .ok (.aaload, 1) := by decide +kernel
theorem dX6_check_23 : decode cX6_check 23 = .ok (.astore 5, 2) := by decide +kernel
theorem dX6_check_25 : decode cX6_check 25 = .ok (.iconst 0, 1) := by decide +kernel
theorem dX6_check_26 : decode cX6_check 26 = .ok (.istore 6, 2) := by decide +kernel
theorem dX6_check_28 : decode cX6_check 28 = .ok (.iload 6, 2) := by decide +kernel
theorem dX6_check_30 : decode cX6_check 30 = .ok (.aload 5, 2) := by decide +kernel
theorem dX6_check_32 : decode cX6_check 32 = .ok (.invokevirtual 154, 3) := by decide +kernel
theorem dX6_check_35 : decode cX6_check 35 = .ok (.if_icmp .ge 38, 3) := by decide +kernel
theorem dX6_check_38 : decode cX6_check 38 = .ok (.aload 5, 2) := by decide +kernel
theorem dX6_check_40 : decode cX6_check 40 = .ok (.iload 6, 2) := by decide +kernel
theorem dX6_check_42 : decode cX6_check 42 = .ok (.invokevirtual 150, 3) := by decide +kernel
theorem dX6_check_45 : decode cX6_check 45 = .ok (.astore 7, 2) := by decide +kernel
theorem dX6_check_47 : decode cX6_check 47 = .ok (.aload 7, 2) := by decide +kernel
theorem dX6_check_49 : decode cX6_check 49 = .ok (.ifnull 18, 3) := by decide +kernel
theorem dX6_check_52 : decode cX6_check 52 = .ok (.aload_n 0, 1) := by decide +kernel
theorem dX6_check_53 : decode cX6_check 53 = .ok (.getfield 36, 3) := by decide +kernel
theorem dX6_check_56 : decode cX6_check 56 = .ok (.aload 7, 2) := by decide +kernel
theorem dX6_check_58 : decode cX6_check 58 = .ok (.invokevirtual 250, 3) := by decide +kernel
theorem dX6_check_61 : decode cX6_check 61 = .ok (.ifCond .ne 6, 3) := by decide +kernel
theorem dX6_check_64 : decode cX6_check 64 = .ok (.iinc 1 1, 3) := by decide +kernel
theorem dX6_check_67 : decode cX6_check 67 = .ok (.iinc 6 1, 3) := by decide +kernel
theorem dX6_check_70 : decode cX6_check 70 = .ok (.goto (-42), 3) := by decide +kernel
theorem dX6_check_73 : decode cX6_check 73 = .ok (.iinc 4 1, 3) := by decide +kernel
theorem dX6_check_76 : decode cX6_check 76 = .ok (.goto (-63), 3) := by decide +kernel
theorem dX6_check_79 : decode cX6_check 79 = .ok (.iload_n 1, 1) := by decide +kernel
theorem dX6_check_80 : decode cX6_check 80 = .ok (.ireturn, 1) := by decide +kernel
theorem dX6_isKey_0 : decode cX6_isKey 0 = .ok (.iload_n 0, 1) := by decide +kernel
theorem dX6_isKey_1 : decode cX6_isKey 1 = .ok (.ifCond .lt 14, 3) := by decide +kernel
theorem dX6_isKey_4 : decode cX6_isKey 4 = .ok (.iload_n 0, 1) := by decide +kernel
theorem dX6_isKey_5 : decode cX6_isKey 5 = .ok (.sipush 1000, 3) := by decide +kernel
theorem dX6_isKey_8 : decode cX6_isKey 8 = .ok (.if_icmp .ge 7, 3) := by decide +kernel
theorem dX6_isKey_11 : decode cX6_isKey 11 = .ok (.iconst 1, 1) := by decide +kernel
theorem dX6_isKey_12 : decode cX6_isKey 12 = .ok (.goto 4, 3) := by decide +kernel
theorem dX6_isKey_15 : decode cX6_isKey 15 = .ok (.iconst 0, 1) := by decide +kernel
theorem dX6_isKey_16 : decode cX6_isKey 16 = .ok (.ireturn, 1) := by decide +kernel
theorem dX6_write_0 : decode cX6_write 0 = .ok (.aload_n 0, 1) := by decide +kernel
theorem dX6_write_1 : decode cX6_write 1 = .ok (.getfield 14, 3) := by decide +kernel
theorem dX6_write_4 : decode cX6_write 4 = .ok (.getfield 66, 3) := by decide +kernel
theorem dX6_write_7 : decode cX6_write 7 = .ok (.bipush 24, 2) := by decide +kernel
theorem dX6_write_9 : decode cX6_write 9 = .ok (.if_icmp .ge 12, 3) := by decide +kernel
theorem dX6_write_12 : decode cX6_write 12 = .ok (.aload_n 0, 1) := by decide +kernel
theorem dX6_write_13 : decode cX6_write 13 = .ok (.getfield 80, 3) := by decide +kernel
theorem dX6_write_16 : decode cX6_write 16 = .ok (.ldc 254, 2) := by decide +kernel
theorem dX6_write_18 : decode cX6_write 18 = .ok (.if_icmp .lt 6, 3) := by decide +kernel
theorem dX6_write_21 : decode cX6_write 21 = .ok (.ldc 185, 2) := by decide +kernel
theorem dX6_write_23 : decode cX6_write 23 = .ok (.ireturn, 1) := by decide +kernel
theorem dX6_write_24 : decode cX6_write 24 = .ok (.aload_n 0, 1) := by decide +kernel
theorem dX6_write_25 : decode cX6_write 25 = .ok (.dup, 1) := by decide +kernel
theorem dX6_write_26 : decode cX6_write 26 = .ok (.getfield 80, 3) := by decide +kernel
theorem dX6_write_29 : decode cX6_write 29 = .ok (.iconst 1, 1) := by decide +kernel
theorem dX6_write_30 : decode cX6_write 30 = .ok (.iadd, 1) := by decide +kernel
theorem dX6_write_31 : decode cX6_write 31 = .ok (.putfield 80, 3) := by decide +kernel
theorem dX6_write_34 : decode cX6_write 34 = .ok (.aload_n 0, 1) := by decide +kernel
theorem dX6_write_35 : decode cX6_write 35 = .ok (.getfield 14, 3) := by decide +kernel
theorem dX6_write_38 : decode cX6_write 38 = .ok (.iload_n 1, 1) := by decide +kernel
theorem dX6_write_39 : decode cX6_write 39 = .ok (.aload_n 0, 1) := by decide +kernel
theorem dX6_write_40 : decode cX6_write 40 = .ok (.getfield 80, 3) := by decide +kernel
theorem dX6_write_43 : decode cX6_write 43 = .ok (.iload_n 2, 1) := by decide +kernel
theorem dX6_write_44 : decode cX6_write 44 = .ok (.invokevirtual 255, 3) := by decide +kernel
theorem dX6_write_47 : decode cX6_write 47 = .ok (.aload_n 0, 1) := by decide +kernel
theorem dX6_write_48 : decode cX6_write 48 = .ok (.getfield 80, 3) := by decide +kernel
theorem dX6_write_51 : decode cX6_write 51 = .ok (.ireturn, 1) := by decide +kernel
theorem dX6_loseFirstLogged_0 : decode cX6_loseFirstLogged 0 = .ok (.aload_n 0, 1) := by decide +kernel
theorem dX6_loseFirstLogged_1 : decode cX6_loseFirstLogged 1 = .ok (.getfield 14, 3) := by decide +kernel
theorem dX6_loseFirstLogged_4 : decode cX6_loseFirstLogged 4 = .ok (.iload_n 1, 1) := by decide +kernel
theorem dX6_loseFirstLogged_5 : decode cX6_loseFirstLogged 5 = .ok (.invokevirtual 258, 3) := by decide +kernel
theorem dX6_loseFirstLogged_8 : decode cX6_loseFirstLogged 8 = .ok (.aload_n 0, 1) := by decide +kernel
theorem dX6_loseFirstLogged_9 : decode cX6_loseFirstLogged 9 = .ok (.iconst 0, 1) := by decide +kernel
theorem dX6_loseFirstLogged_10 : decode cX6_loseFirstLogged 10 = .ok (.aload_n 0, 1) := by decide +kernel
theorem dX6_loseFirstLogged_11 : decode cX6_loseFirstLogged 11 = .ok (.getfield 70, 3) := by decide +kernel
theorem dX6_loseFirstLogged_14 : decode cX6_loseFirstLogged 14 = .ok (.iload_n 1, 1) := by decide +kernel
theorem dX6_loseFirstLogged_15 : decode cX6_loseFirstLogged 15 = .ok (.isub, 1) := by decide +kernel
theorem dX6_loseFirstLogged_16 : decode cX6_loseFirstLogged 16 = .ok (.invokestatic 261, 3) := by decide +kernel
theorem dX6_loseFirstLogged_19 : decode cX6_loseFirstLogged 19 = .ok (.putfield 70, 3) := by decide +kernel
theorem dX6_loseFirstLogged_22 : decode cX6_loseFirstLogged 22 = .ok (.return_, 1) := by decide +kernel
theorem dX6_greatestNumberLeft_0 : decode cX6_greatestNumberLeft 0 = .ok (.aload_n 0, 1) := by decide +kernel
theorem dX6_greatestNumberLeft_1 : decode cX6_greatestNumberLeft 1 = .ok (.getfield 14, 3) := by decide +kernel
theorem dX6_greatestNumberLeft_4 : decode cX6_greatestNumberLeft 4 = .ok (.invokevirtual 266, 3) := by decide +kernel
theorem dX6_greatestNumberLeft_7 : decode cX6_greatestNumberLeft 7 = .ok (.istore_n 1, 1) := by decide +kernel
theorem dX6_greatestNumberLeft_8 : decode cX6_greatestNumberLeft 8 = .ok (.aload_n 0, 1) := by decide +kernel
theorem dX6_greatestNumberLeft_9 : decode cX6_greatestNumberLeft 9 = .ok (.getfield 25, 3) := by decide +kernel
theorem dX6_greatestNumberLeft_12 : decode cX6_greatestNumberLeft 12 = .ok (.astore_n 2, 1) := by decide +kernel
theorem dX6_greatestNumberLeft_13 : decode cX6_greatestNumberLeft 13 = .ok (.aload_n 2, 1) := by decide +kernel
theorem dX6_greatestNumberLeft_14 : decode cX6_greatestNumberLeft 14 = .ok (.arraylength, 1) := by decide +kernel
theorem dX6_greatestNumberLeft_15 : decode cX6_greatestNumberLeft 15 = .ok (.istore_n 3, 1) := by decide +kernel
theorem dX6_greatestNumberLeft_16 : decode cX6_greatestNumberLeft 16 = .ok (.iconst 0, 1) := by decide +kernel
theorem dX6_greatestNumberLeft_17 : decode cX6_greatestNumberLeft 17 = .ok (.istore 4, 2) := by decide +kernel
theorem dX6_greatestNumberLeft_19 : decode cX6_greatestNumberLeft 19 = .ok (.iload 4, 2) := by decide +kernel
theorem dX6_greatestNumberLeft_21 : decode cX6_greatestNumberLeft 21 = .ok (.iload_n 3, 1) := by decide +kernel
theorem dX6_greatestNumberLeft_22 : decode cX6_greatestNumberLeft 22 = .ok (.if_icmp .ge 25, 3) := by decide +kernel
theorem dX6_greatestNumberLeft_25 : decode cX6_greatestNumberLeft 25 = .ok (.aload_n 2, 1) := by decide +kernel
theorem dX6_greatestNumberLeft_26 : decode cX6_greatestNumberLeft 26 = .ok (.iload 4, 2) := by decide +kernel
theorem dX6_greatestNumberLeft_28 : decode cX6_greatestNumberLeft 28 = .ok (.aaload, 1) := by decide +kernel
theorem dX6_greatestNumberLeft_29 : decode cX6_greatestNumberLeft 29 = .ok (.astore 5, 2) := by decide +kernel
theorem dX6_greatestNumberLeft_31 : decode cX6_greatestNumberLeft 31 = .ok (.iload_n 1, 1) := by decide +kernel
theorem dX6_greatestNumberLeft_32 : decode cX6_greatestNumberLeft 32 = .ok (.aload 5, 2) := by decide +kernel
theorem dX6_greatestNumberLeft_34 : decode cX6_greatestNumberLeft 34 = .ok (.invokevirtual 269, 3) := by decide +kernel
theorem dX6_greatestNumberLeft_37 : decode cX6_greatestNumberLeft 37 = .ok (.invokestatic 261, 3) := by decide +kernel
theorem dX6_greatestNumberLeft_40 : decode cX6_greatestNumberLeft 40 = .ok (.istore_n 1, 1) := by decide +kernel
theorem dX6_greatestNumberLeft_41 : decode cX6_greatestNumberLeft 41 = .ok (.iinc 4 1, 3) := by decide +kernel
theorem dX6_greatestNumberLeft_44 : decode cX6_greatestNumberLeft 44 = .ok (.goto (-25), 3) := by decide +kernel
theorem dX6_greatestNumberLeft_47 : decode cX6_greatestNumberLeft 47 = .ok (.iload_n 1, 1) := by decide +kernel
theorem dX6_greatestNumberLeft_48 : decode cX6_greatestNumberLeft 48 = .ok (.ireturn, 1) := by decide +kernel
theorem dX6_isView_0 : decode cX6_isView 0 = .ok (.iload_n 1, 1) := by decide +kernel
theorem dX6_isView_1 : decode cX6_isView 1 = .ok (.ifCond .lt 16, 3) := by decide +kernel
theorem dX6_isView_4 : decode cX6_isView 4 = .ok (.iload_n 1, 1) := by decide +kernel
theorem dX6_isView_5 : decode cX6_isView 5 = .ok (.aload_n 0, 1) := by decide +kernel
theorem dX6_isView_6 : decode cX6_isView 6 = .ok (.getfield 18, 3) := by decide +kernel
theorem dX6_isView_9 : decode cX6_isView 9 = .ok (.arraylength, 1) := by decide +kernel
theorem dX6_isView_10 : decode cX6_isView 10 = .ok (.if_icmp .ge 7, 3) := by decide +kernel
theorem dX6_isView_13 : decode cX6_isView 13 = .ok (.iconst 1, 1) := by decide +kernel
theorem dX6_isView_14 : decode cX6_isView 14 = .ok (.goto 4, 3) := by decide +kernel
theorem dX6_isView_17 : decode cX6_isView 17 = .ok (.iconst 0, 1) := by decide +kernel
theorem dX6_isView_18 : decode cX6_isView 18 = .ok (.ireturn, 1) := by decide +kernel
theorem dX6_numberOfView_0 : decode cX6_numberOfView 0 = .ok (.aload_n 0, 1) := by decide +kernel
theorem dX6_numberOfView_1 : decode cX6_numberOfView 1 = .ok (.iload_n 1, 1) := by decide +kernel
theorem dX6_numberOfView_2 : decode cX6_numberOfView 2 = .ok (.invokevirtual 104, 3) := by decide +kernel
theorem dX6_numberOfView_5 : decode cX6_numberOfView 5 = .ok (.ifCond .eq 12, 3) := by decide +kernel
theorem dX6_numberOfView_8 : decode cX6_numberOfView 8 = .ok (.aload_n 0, 1) := by decide +kernel
theorem dX6_numberOfView_9 : decode cX6_numberOfView 9 = .ok (.getfield 18, 3) := by decide +kernel
theorem dX6_numberOfView_12 : decode cX6_numberOfView 12 = .ok (.iload_n 1, 1) := by decide +kernel
theorem dX6_numberOfView_13 : decode cX6_numberOfView 13 = .ok (.iaload, 1) := by decide +kernel
theorem dX6_numberOfView_14 : decode cX6_numberOfView 14 = .ok (.goto 4, 3) := by decide +kernel
theorem dX6_numberOfView_17 : decode cX6_numberOfView 17 = .ok (.iconst (-1), 1) := by decide +kernel
theorem dX6_numberOfView_18 : decode cX6_numberOfView 18 = .ok (.ireturn, 1) := by decide +kernel
theorem dX6_isHeld_0 : decode cX6_isHeld 0 = .ok (.aload_n 0, 1) := by decide +kernel
theorem dX6_isHeld_1 : decode cX6_isHeld 1 = .ok (.iload_n 1, 1) := by decide +kernel
theorem dX6_isHeld_2 : decode cX6_isHeld 2 = .ok (.invokevirtual 90, 3) := by decide +kernel
theorem dX6_isHeld_5 : decode cX6_isHeld 5 = .ok (.iconst (-1), 1) := by decide +kernel
theorem dX6_isHeld_6 : decode cX6_isHeld 6 = .ok (.if_icmp .eq 7, 3) := by decide +kernel
theorem dX6_isHeld_9 : decode cX6_isHeld 9 = .ok (.iconst 1, 1) := by decide +kernel
theorem dX6_isHeld_10 : decode cX6_isHeld 10 = .ok (.goto 4, 3) := by decide +kernel
theorem dX6_isHeld_13 : decode cX6_isHeld 13 = .ok (.iconst 0, 1) := by decide +kernel
theorem dX6_isHeld_14 : decode cX6_isHeld 14 = .ok (.ireturn, 1) := by decide +kernel
theorem dX6_readUpTo_0 : decode cX6_readUpTo 0 = .ok (.aload_n 0, 1) := by decide +kernel
theorem dX6_readUpTo_1 : decode cX6_readUpTo 1 = .ok (.getfield 43, 3) := by decide +kernel
theorem dX6_readUpTo_4 : decode cX6_readUpTo 4 = .ok (.iload_n 1, 1) := by decide +kernel
theorem dX6_readUpTo_5 : decode cX6_readUpTo 5 = .ok (.iload_n 1, 1) := by decide +kernel
theorem dX6_readUpTo_6 : decode cX6_readUpTo 6 = .ok (.iload_n 2, 1) := by decide +kernel
theorem dX6_readUpTo_7 : decode cX6_readUpTo 7 = .ok (.invokevirtual 94, 3) := by decide +kernel
theorem dX6_readUpTo_10 : decode cX6_readUpTo 10 = .ok (.aload_n 0, 1) := by decide +kernel
theorem dX6_readUpTo_11 : decode cX6_readUpTo 11 = .ok (.invokevirtual 98, 3) := by decide +kernel
theorem dX6_readUpTo_14 : decode cX6_readUpTo 14 = .ok (.aload_n 0, 1) := by decide +kernel
theorem dX6_readUpTo_15 : decode cX6_readUpTo 15 = .ok (.getfield 43, 3) := by decide +kernel
theorem dX6_readUpTo_18 : decode cX6_readUpTo 18 = .ok (.iload_n 1, 1) := by decide +kernel
theorem dX6_readUpTo_19 : decode cX6_readUpTo 19 = .ok (.invokevirtual 270, 3) := by decide +kernel
theorem dX6_readUpTo_22 : decode cX6_readUpTo 22 = .ok (.ireturn, 1) := by decide +kernel
theorem dX6_readAll_0 : decode cX6_readAll 0 = .ok (.aload_n 0, 1) := by decide +kernel
theorem dX6_readAll_1 : decode cX6_readAll 1 = .ok (.getfield 43, 3) := by decide +kernel
theorem dX6_readAll_4 : decode cX6_readAll 4 = .ok (.aload_n 0, 1) := by decide +kernel
theorem dX6_readAll_5 : decode cX6_readAll 5 = .ok (.getfield 14, 3) := by decide +kernel
theorem dX6_readAll_8 : decode cX6_readAll 8 = .ok (.invokevirtual 273, 3) := by decide +kernel
theorem dX6_readAll_11 : decode cX6_readAll 11 = .ok (.aload_n 0, 1) := by decide +kernel
theorem dX6_readAll_12 : decode cX6_readAll 12 = .ok (.getfield 25, 3) := by decide +kernel
theorem dX6_readAll_15 : decode cX6_readAll 15 = .ok (.astore_n 1, 1) := by decide +kernel
theorem dX6_readAll_16 : decode cX6_readAll 16 = .ok (.aload_n 1, 1) := by decide +kernel
theorem dX6_readAll_17 : decode cX6_readAll 17 = .ok (.arraylength, 1) := by decide +kernel
theorem dX6_readAll_18 : decode cX6_readAll 18 = .ok (.istore_n 2, 1) := by decide +kernel
theorem dX6_readAll_19 : decode cX6_readAll 19 = .ok (.iconst 0, 1) := by decide +kernel
theorem dX6_readAll_20 : decode cX6_readAll 20 = .ok (.istore_n 3, 1) := by decide +kernel
theorem dX6_readAll_21 : decode cX6_readAll 21 = .ok (.iload_n 3, 1) := by decide +kernel
theorem dX6_readAll_22 : decode cX6_readAll 22 = .ok (.iload_n 2, 1) := by decide +kernel
theorem dX6_readAll_23 : decode cX6_readAll 23 = .ok (.if_icmp .ge 23, 3) := by decide +kernel
theorem dX6_readAll_26 : decode cX6_readAll 26 = .ok (.aload_n 1, 1) := by decide +kernel
theorem dX6_readAll_27 : decode cX6_readAll 27 = .ok (.iload_n 3, 1) := by decide +kernel
theorem dX6_readAll_28 : decode cX6_readAll 28 = .ok (.aaload, 1) := by decide +kernel
theorem dX6_readAll_29 : decode cX6_readAll 29 = .ok (.astore 4, 2) := by decide +kernel
theorem dX6_readAll_31 : decode cX6_readAll 31 = .ok (.aload 4, 2) := by decide +kernel
theorem dX6_readAll_33 : decode cX6_readAll 33 = .ok (.aload_n 0, 1) := by decide +kernel
theorem dX6_readAll_34 : decode cX6_readAll 34 = .ok (.getfield 43, 3) := by decide +kernel
theorem dX6_readAll_37 : decode cX6_readAll 37 = .ok (.invokevirtual 277, 3) := by decide +kernel
theorem dX6_readAll_40 : decode cX6_readAll 40 = .ok (.iinc 3 1, 3) := by decide +kernel
theorem dX6_readAll_43 : decode cX6_readAll 43 = .ok (.goto (-22), 3) := by decide +kernel
theorem dX6_readAll_46 : decode cX6_readAll 46 = .ok (.return_, 1) := by decide +kernel
theorem dX6_doOneEntry_0 : decode cX6_doOneEntry 0 = .ok (.aload_n 0, 1) := by decide +kernel
theorem dX6_doOneEntry_1 : decode cX6_doOneEntry 1 = .ok (.getfield 50, 3) := by decide +kernel
theorem dX6_doOneEntry_4 : decode cX6_doOneEntry 4 = .ok (.getfield 281, 3) := by decide +kernel
theorem dX6_doOneEntry_7 : decode cX6_doOneEntry 7 = .ok (.istore_n 1, 1) := by decide +kernel
theorem dX6_doOneEntry_8 : decode cX6_doOneEntry 8 = .ok (.aload_n 0, 1) := by decide +kernel
theorem dX6_doOneEntry_9 : decode cX6_doOneEntry 9 = .ok (.getfield 50, 3) := by decide +kernel
theorem dX6_doOneEntry_12 : decode cX6_doOneEntry 12 = .ok (.dup, 1) := by decide +kernel
theorem dX6_doOneEntry_13 : decode cX6_doOneEntry 13 = .ok (.getfield 281, 3) := by decide +kernel
theorem dX6_doOneEntry_16 : decode cX6_doOneEntry 16 = .ok (.iconst 1, 1) := by decide +kernel
theorem dX6_doOneEntry_17 : decode cX6_doOneEntry 17 = .ok (.iadd, 1) := by decide +kernel
theorem dX6_doOneEntry_18 : decode cX6_doOneEntry 18 = .ok (.putfield 281, 3) := by decide +kernel
theorem dX6_doOneEntry_21 : decode cX6_doOneEntry 21 = .ok (.aload_n 0, 1) := by decide +kernel
theorem dX6_doOneEntry_22 : decode cX6_doOneEntry 22 = .ok (.getfield 50, 3) := by decide +kernel
theorem dX6_doOneEntry_25 : decode cX6_doOneEntry 25 = .ok (.iload_n 1, 1) := by decide +kernel
theorem dX6_doOneEntry_26 : decode cX6_doOneEntry 26 = .ok (.invokevirtual 284, 3) := by decide +kernel
theorem dX6_doOneEntry_29 : decode cX6_doOneEntry 29 = .ok (.ifCond .eq 5, 3) := by decide +kernel
theorem dX6_doOneEntry_32 : decode cX6_doOneEntry 32 = .ok (.iconst 1, 1) := by decide +kernel
theorem dX6_doOneEntry_33 : decode cX6_doOneEntry 33 = .ok (.ireturn, 1) := by decide +kernel
theorem dX6_doOneEntry_34 : decode cX6_doOneEntry 34 = .ok (.aload_n 0, 1) := by decide +kernel
theorem dX6_doOneEntry_35 : decode cX6_doOneEntry 35 = .ok (.getfield 50, 3) := by decide +kernel
theorem dX6_doOneEntry_38 : decode cX6_doOneEntry 38 = .ok (.iload_n 1, 1) := by decide +kernel
theorem dX6_doOneEntry_39 : decode cX6_doOneEntry 39 = .ok (.invokevirtual 287, 3) := by decide +kernel
theorem dX6_doOneEntry_42 : decode cX6_doOneEntry 42 = .ok (.ifCond .eq 12, 3) := by decide +kernel
theorem dX6_doOneEntry_45 : decode cX6_doOneEntry 45 = .ok (.aload_n 0, 1) := by decide +kernel
theorem dX6_doOneEntry_46 : decode cX6_doOneEntry 46 = .ok (.invokevirtual 182, 3) := by decide +kernel
theorem dX6_doOneEntry_49 : decode cX6_doOneEntry 49 = .ok (.ifCond .ne 5, 3) := by decide +kernel
theorem dX6_doOneEntry_52 : decode cX6_doOneEntry 52 = .ok (.iconst 0, 1) := by decide +kernel
theorem dX6_doOneEntry_53 : decode cX6_doOneEntry 53 = .ok (.ireturn, 1) := by decide +kernel
theorem dX6_doOneEntry_54 : decode cX6_doOneEntry 54 = .ok (.aload_n 0, 1) := by decide +kernel
theorem dX6_doOneEntry_55 : decode cX6_doOneEntry 55 = .ok (.getfield 50, 3) := by decide +kernel
theorem dX6_doOneEntry_58 : decode cX6_doOneEntry 58 = .ok (.getfield 290, 3) := by decide +kernel
theorem dX6_doOneEntry_61 : decode cX6_doOneEntry 61 = .ok (.aload_n 0, 1) := by decide +kernel
theorem dX6_doOneEntry_62 : decode cX6_doOneEntry 62 = .ok (.getfield 50, 3) := by decide +kernel
theorem dX6_doOneEntry_65 : decode cX6_doOneEntry 65 = .ok (.getfield 124, 3) := by decide +kernel
theorem dX6_doOneEntry_68 : decode cX6_doOneEntry 68 = .ok (.iload_n 1, 1) := by decide +kernel
theorem dX6_doOneEntry_69 : decode cX6_doOneEntry 69 = .ok (.invokevirtual 127, 3) := by decide +kernel
theorem dX6_doOneEntry_72 : decode cX6_doOneEntry 72 = .ok (.aload_n 0, 1) := by decide +kernel
theorem dX6_doOneEntry_73 : decode cX6_doOneEntry 73 = .ok (.getfield 50, 3) := by decide +kernel
theorem dX6_doOneEntry_76 : decode cX6_doOneEntry 76 = .ok (.getfield 124, 3) := by decide +kernel
theorem dX6_doOneEntry_79 : decode cX6_doOneEntry 79 = .ok (.iload_n 1, 1) := by decide +kernel
theorem dX6_doOneEntry_80 : decode cX6_doOneEntry 80 = .ok (.invokevirtual 130, 3) := by decide +kernel
theorem dX6_doOneEntry_83 : decode cX6_doOneEntry 83 = .ok (.aload_n 0, 1) := by decide +kernel
theorem dX6_doOneEntry_84 : decode cX6_doOneEntry 84 = .ok (.getfield 50, 3) := by decide +kernel
theorem dX6_doOneEntry_87 : decode cX6_doOneEntry 87 = .ok (.getfield 124, 3) := by decide +kernel
theorem dX6_doOneEntry_90 : decode cX6_doOneEntry 90 = .ok (.iload_n 1, 1) := by decide +kernel
theorem dX6_doOneEntry_91 : decode cX6_doOneEntry 91 = .ok (.invokevirtual 133, 3) := by decide +kernel
theorem dX6_doOneEntry_94 : decode cX6_doOneEntry 94 = .ok (.invokevirtual 255, 3) := by decide +kernel
theorem dX6_doOneEntry_97 : decode cX6_doOneEntry 97 = .ok (.iconst 1, 1) := by decide +kernel
theorem dX6_doOneEntry_98 : decode cX6_doOneEntry 98 = .ok (.ireturn, 1) := by decide +kernel
theorem dX6_endFile_0 : decode cX6_endFile 0 = .ok (.aload_n 0, 1) := by decide +kernel
theorem dX6_endFile_1 : decode cX6_endFile 1 = .ok (.getfield 50, 3) := by decide +kernel
theorem dX6_endFile_4 : decode cX6_endFile 4 = .ok (.getfield 290, 3) := by decide +kernel
theorem dX6_endFile_7 : decode cX6_endFile 7 = .ok (.getfield 66, 3) := by decide +kernel
theorem dX6_endFile_10 : decode cX6_endFile 10 = .ok (.ifCond .ne 5, 3) := by decide +kernel
theorem dX6_endFile_13 : decode cX6_endFile 13 = .ok (.iconst 1, 1) := by decide +kernel
theorem dX6_endFile_14 : decode cX6_endFile 14 = .ok (.ireturn, 1) := by decide +kernel
theorem dX6_endFile_15 : decode cX6_endFile 15 = .ok (.aload_n 0, 1) := by decide +kernel
theorem dX6_endFile_16 : decode cX6_endFile 16 = .ok (.invokevirtual 293, 3) := by decide +kernel
theorem dX6_endFile_19 : decode cX6_endFile 19 = .ok (.astore_n 1, 1) := by decide +kernel
theorem dX6_endFile_20 : decode cX6_endFile 20 = .ok (.aload_n 1, 1) := by decide +kernel
theorem dX6_endFile_21 : decode cX6_endFile 21 = .ok (.getfield 216, 3) := by decide +kernel
theorem dX6_endFile_24 : decode cX6_endFile 24 = .ok (.aload_n 0, 1) := by decide +kernel
theorem dX6_endFile_25 : decode cX6_endFile 25 = .ok (.getfield 50, 3) := by decide +kernel
theorem dX6_endFile_28 : decode cX6_endFile 28 = .ok (.getfield 290, 3) := by decide +kernel
theorem dX6_endFile_31 : decode cX6_endFile 31 = .ok (.invokevirtual 297, 3) := by decide +kernel
theorem dX6_endFile_34 : decode cX6_endFile 34 = .ok (.aload_n 0, 1) := by decide +kernel
theorem dX6_endFile_35 : decode cX6_endFile 35 = .ok (.getfield 50, 3) := by decide +kernel
theorem dX6_endFile_38 : decode cX6_endFile 38 = .ok (.getfield 290, 3) := by decide +kernel
theorem dX6_endFile_41 : decode cX6_endFile 41 = .ok (.iconst 0, 1) := by decide +kernel
theorem dX6_endFile_42 : decode cX6_endFile 42 = .ok (.putfield 66, 3) := by decide +kernel
theorem dX6_endFile_45 : decode cX6_endFile 45 = .ok (.aload_n 0, 1) := by decide +kernel
theorem dX6_endFile_46 : decode cX6_endFile 46 = .ok (.getfield 36, 3) := by decide +kernel
theorem dX6_endFile_49 : decode cX6_endFile 49 = .ok (.aload_n 1, 1) := by decide +kernel
theorem dX6_endFile_50 : decode cX6_endFile 50 = .ok (.invokevirtual 300, 3) := by decide +kernel
theorem dX6_endFile_53 : decode cX6_endFile 53 = .ok (.ifCond .ne 13, 3) := by decide +kernel
theorem dX6_endFile_56 : decode cX6_endFile 56 = .ok (.aload_n 0, 1) := by decide +kernel
theorem dX6_endFile_57 : decode cX6_endFile 57 = .ok (.getfield 29, 3) := by decide +kernel
theorem dX6_endFile_60 : decode cX6_endFile 60 = .ok (.aload_n 1, 1) := by decide +kernel
theorem dX6_endFile_61 : decode cX6_endFile 61 = .ok (.invokevirtual 303, 3) := by decide +kernel
theorem dX6_endFile_64 : decode cX6_endFile 64 = .ok (.iconst 0, 1) := by decide +kernel
theorem dX6_endFile_65 : decode cX6_endFile 65 = .ok (.ireturn, 1) := by decide +kernel
theorem dX6_endFile_66 : decode cX6_endFile 66 = .ok (.aload_n 1, 1) := by decide +kernel
theorem dX6_endFile_67 : decode cX6_endFile 67 = .ok (.aload_n 0, 1) := by decide +kernel
theorem dX6_endFile_68 : decode cX6_endFile 68 = .ok (.getfield 244, 3) := by decide +kernel
theorem dX6_endFile_71 : decode cX6_endFile 71 = .ok (.putfield 212, 3) := by decide +kernel
theorem dX6_endFile_74 : decode cX6_endFile 74 = .ok (.aload_n 0, 1) := by decide +kernel
theorem dX6_endFile_75 : decode cX6_endFile 75 = .ok (.dup, 1) := by decide +kernel
theorem dX6_endFile_76 : decode cX6_endFile 76 = .ok (.getfield 244, 3) := by decide +kernel
theorem dX6_endFile_79 : decode cX6_endFile 79 = .ok (.iconst 1, 1) := by decide +kernel
theorem dX6_endFile_80 : decode cX6_endFile 80 = .ok (.iadd, 1) := by decide +kernel
theorem dX6_endFile_81 : decode cX6_endFile 81 = .ok (.putfield 244, 3) := by decide +kernel
theorem dX6_endFile_84 : decode cX6_endFile 84 = .ok (.aload_n 0, 1) := by decide +kernel
theorem dX6_endFile_85 : decode cX6_endFile 85 = .ok (.getfield 50, 3) := by decide +kernel
theorem dX6_endFile_88 : decode cX6_endFile 88 = .ok (.getfield 186, 3) := by decide +kernel
theorem dX6_endFile_91 : decode cX6_endFile 91 = .ok (.aload_n 1, 1) := by decide +kernel
theorem dX6_endFile_92 : decode cX6_endFile 92 = .ok (.invokevirtual 303, 3) := by decide +kernel
theorem dX6_endFile_95 : decode cX6_endFile 95 = .ok (.iconst 1, 1) := by decide +kernel
theorem dX6_endFile_96 : decode cX6_endFile 96 = .ok (.ireturn, 1) := by decide +kernel
theorem dX6_freshFile_0 : decode cX6_freshFile 0 = .ok (.aload_n 0, 1) := by decide +kernel
theorem dX6_freshFile_1 : decode cX6_freshFile 1 = .ok (.getfield 29, 3) := by decide +kernel
theorem dX6_freshFile_4 : decode cX6_freshFile 4 = .ok (.aload_n 0, 1) := by decide +kernel
theorem dX6_freshFile_5 : decode cX6_freshFile 5 = .ok (.getfield 29, 3) := by decide +kernel
theorem dX6_freshFile_8 : decode cX6_freshFile 8 = .ok (.invokevirtual 154, 3) := by decide +kernel
theorem dX6_freshFile_11 : decode cX6_freshFile 11 = .ok (.iconst 1, 1) := by decide +kernel
theorem dX6_freshFile_12 : decode cX6_freshFile 12 = .ok (.isub, 1) := by decide +kernel
theorem dX6_freshFile_13 : decode cX6_freshFile 13 = .ok (.invokevirtual 306, 3) := by decide +kernel
theorem dX6_freshFile_16 : decode cX6_freshFile 16 = .ok (.astore_n 1, 1) := by decide +kernel
theorem dX6_freshFile_17 : decode cX6_freshFile 17 = .ok (.aload_n 1, 1) := by decide +kernel
theorem dX6_freshFile_18 : decode cX6_freshFile 18 = .ok (.ifnonnull 13, 3) := by decide +kernel
theorem dX6_freshFile_21 : decode cX6_freshFile 21 = .ok (.new 213, 3) := by decide +kernel
theorem dX6_freshFile_24 : decode cX6_freshFile 24 = .ok (.dup, 1) := by decide +kernel
theorem dX6_freshFile_25 : decode cX6_freshFile 25 = .ok (.invokespecial 309, 3) := by decide +kernel
theorem dX6_freshFile_28 : decode cX6_freshFile 28 = .ok (.goto 4, 3) := by decide +kernel
theorem dX6_freshFile_31 : decode cX6_freshFile 31 = .ok (.aload_n 1, 1) := by decide +kernel
theorem dX6_freshFile_32 : decode cX6_freshFile 32 = .ok (.areturn, 1) := by decide +kernel
theorem dX6_giveUpJob_0 : decode cX6_giveUpJob 0 = .ok (.aload_n 0, 1) := by decide +kernel
theorem dX6_giveUpJob_1 : decode cX6_giveUpJob 1 = .ok (.getfield 50, 3) := by decide +kernel
theorem dX6_giveUpJob_4 : decode cX6_giveUpJob 4 = .ok (.getfield 186, 3) := by decide +kernel
theorem dX6_giveUpJob_7 : decode cX6_giveUpJob 7 = .ok (.invokevirtual 154, 3) := by decide +kernel
theorem dX6_giveUpJob_10 : decode cX6_giveUpJob 10 = .ok (.istore_n 1, 1) := by decide +kernel
theorem dX6_giveUpJob_11 : decode cX6_giveUpJob 11 = .ok (.aload_n 0, 1) := by decide +kernel
theorem dX6_giveUpJob_12 : decode cX6_giveUpJob 12 = .ok (.aload_n 0, 1) := by decide +kernel
theorem dX6_giveUpJob_13 : decode cX6_giveUpJob 13 = .ok (.getfield 50, 3) := by decide +kernel
theorem dX6_giveUpJob_16 : decode cX6_giveUpJob 16 = .ok (.getfield 186, 3) := by decide +kernel
theorem dX6_giveUpJob_19 : decode cX6_giveUpJob 19 = .ok (.iconst 0, 1) := by decide +kernel
theorem dX6_giveUpJob_20 : decode cX6_giveUpJob 20 = .ok (.iload_n 1, 1) := by decide +kernel
theorem dX6_giveUpJob_21 : decode cX6_giveUpJob 21 = .ok (.invokevirtual 192, 3) := by decide +kernel
theorem dX6_giveUpJob_24 : decode cX6_giveUpJob 24 = .ok (.aload_n 0, 1) := by decide +kernel
theorem dX6_giveUpJob_25 : decode cX6_giveUpJob 25 = .ok (.dup, 1) := by decide +kernel
theorem dX6_giveUpJob_26 : decode cX6_giveUpJob 26 = .ok (.getfield 244, 3) := by decide +kernel
theorem dX6_giveUpJob_29 : decode cX6_giveUpJob 29 = .ok (.iload_n 1, 1) := by decide +kernel
theorem dX6_giveUpJob_30 : decode cX6_giveUpJob 30 = .ok (.isub, 1) := by decide +kernel
theorem dX6_giveUpJob_31 : decode cX6_giveUpJob 31 = .ok (.putfield 244, 3) := by decide +kernel
theorem dX6_giveUpJob_34 : decode cX6_giveUpJob 34 = .ok (.aload_n 0, 1) := by decide +kernel
theorem dX6_giveUpJob_35 : decode cX6_giveUpJob 35 = .ok (.getfield 50, 3) := by decide +kernel
theorem dX6_giveUpJob_38 : decode cX6_giveUpJob 38 = .ok (.invokevirtual 205, 3) := by decide +kernel
theorem dX6_giveUpJob_41 : decode cX6_giveUpJob 41 = .ok (.iload_n 1, 1) := by decide +kernel
theorem dX6_giveUpJob_42 : decode cX6_giveUpJob 42 = .ok (.ireturn, 1) := by decide +kernel
theorem dX6_retire_0 : decode cX6_retire 0 = .ok (.aload_n 1, 1) := by decide +kernel
theorem dX6_retire_1 : decode cX6_retire 1 = .ok (.ifnonnull 4, 3) := by decide +kernel
theorem dX6_retire_4 : decode cX6_retire 4 = .ok (.return_, 1) := by decide +kernel
theorem dX6_retire_5 : decode cX6_retire 5 = .ok (.iload_n 3, 1) := by decide +kernel
theorem dX6_retire_6 : decode cX6_retire 6 = .ok (.iconst 1, 1) := by decide +kernel
theorem dX6_retire_7 : decode cX6_retire 7 = .ok (.isub, 1) := by decide +kernel
theorem dX6_retire_8 : decode cX6_retire 8 = .ok (.istore 4, 2) := by decide +kernel
theorem dX6_retire_10 : decode cX6_retire 10 = .ok (.iload 4, 2) := by decide +kernel
theorem dX6_retire_12 : decode cX6_retire 12 = .ok (.iload_n 2, 1) := by decide +kernel
theorem dX6_retire_13 : decode cX6_retire 13 = .ok (.if_icmp .lt 40, 3) := by decide +kernel
theorem dX6_retire_16 : decode cX6_retire 16 = .ok (.aload_n 1, 1) := by decide +kernel
theorem dX6_retire_17 : decode cX6_retire 17 = .ok (.iload 4, 2) := by decide +kernel
theorem dX6_retire_19 : decode cX6_retire 19 = .ok (.invokevirtual 306, 3) := by decide +kernel
theorem dX6_retire_22 : decode cX6_retire 22 = .ok (.astore 5, 2) := by decide +kernel
theorem dX6_retire_24 : decode cX6_retire 24 = .ok (.aload 5, 2) := by decide +kernel
theorem dX6_retire_26 : decode cX6_retire 26 = .ok (.ifnull 21, 3) := by decide +kernel
theorem dX6_retire_29 : decode cX6_retire 29 = .ok (.aload_n 0, 1) := by decide +kernel
theorem dX6_retire_30 : decode cX6_retire 30 = .ok (.getfield 36, 3) := by decide +kernel
theorem dX6_retire_33 : decode cX6_retire 33 = .ok (.aload 5, 2) := by decide +kernel
theorem dX6_retire_35 : decode cX6_retire 35 = .ok (.invokevirtual 310, 3) := by decide +kernel
theorem dX6_retire_38 : decode cX6_retire 38 = .ok (.aload_n 0, 1) := by decide +kernel
theorem dX6_retire_39 : decode cX6_retire 39 = .ok (.getfield 29, 3) := by decide +kernel
theorem dX6_retire_42 : decode cX6_retire 42 = .ok (.aload 5, 2) := by decide +kernel
theorem dX6_retire_44 : decode cX6_retire 44 = .ok (.invokevirtual 303, 3) := by decide +kernel
theorem dX6_retire_47 : decode cX6_retire 47 = .ok (.iinc 4 (-1), 3) := by decide +kernel
theorem dX6_retire_50 : decode cX6_retire 50 = .ok (.goto (-40), 3) := by decide +kernel
theorem dX6_retire_53 : decode cX6_retire 53 = .ok (.return_, 1) := by decide +kernel
theorem dX6_levelAt_0 : decode cX6_levelAt 0 = .ok (.iload_n 1, 1) := by decide +kernel
theorem dX6_levelAt_1 : decode cX6_levelAt 1 = .ok (.ifCond .lt 21, 3) := by decide +kernel
theorem dX6_levelAt_4 : decode cX6_levelAt 4 = .ok (.iload_n 1, 1) := by decide +kernel
theorem dX6_levelAt_5 : decode cX6_levelAt 5 = .ok (.aload_n 0, 1) := by decide +kernel
theorem dX6_levelAt_6 : decode cX6_levelAt 6 = .ok (.getfield 25, 3) := by decide +kernel
theorem dX6_levelAt_9 : decode cX6_levelAt 9 = .ok (.arraylength, 1) := by decide +kernel
theorem dX6_levelAt_10 : decode cX6_levelAt 10 = .ok (.if_icmp .ge 12, 3) := by decide +kernel
theorem dX6_levelAt_13 : decode cX6_levelAt 13 = .ok (.aload_n 0, 1) := by decide +kernel
theorem dX6_levelAt_14 : decode cX6_levelAt 14 = .ok (.getfield 25, 3) := by decide +kernel
theorem dX6_levelAt_17 : decode cX6_levelAt 17 = .ok (.iload_n 1, 1) := by decide +kernel
theorem dX6_levelAt_18 : decode cX6_levelAt 18 = .ok (.aaload, 1) := by decide +kernel
theorem dX6_levelAt_19 : decode cX6_levelAt 19 = .ok (.goto 4, 3) := by decide +kernel
theorem dX6_levelAt_22 : decode cX6_levelAt 22 = .ok (.aconst_null, 1) := by decide +kernel
theorem dX6_levelAt_23 : decode cX6_levelAt 23 = .ok (.areturn, 1) := by decide +kernel
theorem dX6_fileAt_0 : decode cX6_fileAt 0 = .ok (.aload_n 0, 1) := by decide +kernel
theorem dX6_fileAt_1 : decode cX6_fileAt 1 = .ok (.iload_n 1, 1) := by decide +kernel
theorem dX6_fileAt_2 : decode cX6_fileAt 2 = .ok (.invokevirtual 146, 3) := by decide +kernel
theorem dX6_fileAt_5 : decode cX6_fileAt 5 = .ok (.astore_n 3, 1) := by decide +kernel
theorem dX6_fileAt_6 : decode cX6_fileAt 6 = .ok (.aload_n 3, 1) := by decide +kernel
theorem dX6_fileAt_7 : decode cX6_fileAt 7 = .ok (.ifnonnull 7, 3) := by decide +kernel
theorem dX6_fileAt_10 : decode cX6_fileAt 10 = .ok (.aconst_null, 1) := by decide +kernel
theorem dX6_fileAt_11 : decode cX6_fileAt 11 = .ok (.goto 8, 3) := by decide +kernel
theorem dX6_fileAt_14 : decode cX6_fileAt 14 = .ok (.aload_n 3, 1) := by decide +kernel
theorem dX6_fileAt_15 : decode cX6_fileAt 15 = .ok (.iload_n 2, 1) := by decide +kernel
theorem dX6_fileAt_16 : decode cX6_fileAt 16 = .ok (.invokevirtual 150, 3) := by decide +kernel
theorem dX6_fileAt_19 : decode cX6_fileAt 19 = .ok (.areturn, 1) := by decide +kernel
theorem dX6_filesInForce_0 : decode cX6_filesInForce 0 = .ok (.iconst 0, 1) := by decide +kernel
theorem dX6_filesInForce_1 : decode cX6_filesInForce 1 = .ok (.istore_n 1, 1) := by decide +kernel
theorem dX6_filesInForce_2 : decode cX6_filesInForce 2 = .ok (.aload_n 0, 1) := by decide +kernel
theorem dX6_filesInForce_3 : decode cX6_filesInForce 3 = .ok (.getfield 25, 3) := by decide +kernel
theorem dX6_filesInForce_6 : decode cX6_filesInForce 6 = .ok (.astore_n 2, 1) := by decide +kernel
theorem dX6_filesInForce_7 : decode cX6_filesInForce 7 = .ok (.aload_n 2, 1) := by decide +kernel
theorem dX6_filesInForce_8 : decode cX6_filesInForce 8 = .ok (.arraylength, 1) := by decide +kernel
theorem dX6_filesInForce_9 : decode cX6_filesInForce 9 = .ok (.istore_n 3, 1) := by decide +kernel
theorem dX6_filesInForce_10 : decode cX6_filesInForce 10 = .ok (.iconst 0, 1) := by decide +kernel
theorem dX6_filesInForce_11 : decode cX6_filesInForce 11 = .ok (.istore 4, 2) := by decide +kernel
theorem dX6_filesInForce_13 : decode cX6_filesInForce 13 = .ok (.iload 4, 2) := by decide +kernel
theorem dX6_filesInForce_15 : decode cX6_filesInForce 15 = .ok (.iload_n 3, 1) := by decide +kernel
theorem dX6_filesInForce_16 : decode cX6_filesInForce 16 = .ok (.if_icmp .ge 23, 3) := by decide +kernel
theorem dX6_filesInForce_19 : decode cX6_filesInForce 19 = .ok (.aload_n 2, 1) := by decide +kernel
theorem dX6_filesInForce_20 : decode cX6_filesInForce 20 = .ok (.iload 4, 2) := by decide +kernel
theorem dX6_filesInForce_22 : decode cX6_filesInForce 22 = .ok (.aaload, 1) := by decide +kernel
theorem dX6_filesInForce_23 : decode cX6_filesInForce 23 = .ok (.astore 5, 2) := by decide +kernel
theorem dX6_filesInForce_25 : decode cX6_filesInForce 25 = .ok (.iload_n 1, 1) := by decide +kernel
theorem dX6_filesInForce_26 : decode cX6_filesInForce 26 = .ok (.aload 5, 2) := by decide +kernel
theorem dX6_filesInForce_28 : decode cX6_filesInForce 28 = .ok (.invokevirtual 154, 3) := by decide +kernel
theorem dX6_filesInForce_31 : decode cX6_filesInForce 31 = .ok (.iadd, 1) := by decide +kernel
theorem dX6_filesInForce_32 : decode cX6_filesInForce 32 = .ok (.istore_n 1, 1) := by decide +kernel
theorem dX6_filesInForce_33 : decode cX6_filesInForce 33 = .ok (.iinc 4 1, 3) := by decide +kernel
theorem dX6_filesInForce_36 : decode cX6_filesInForce 36 = .ok (.goto (-23), 3) := by decide +kernel
theorem dX6_filesInForce_39 : decode cX6_filesInForce 39 = .ok (.iload_n 1, 1) := by decide +kernel
theorem dX6_filesInForce_40 : decode cX6_filesInForce 40 = .ok (.ireturn, 1) := by decide +kernel
theorem dX6_bytesInForce_0 : decode cX6_bytesInForce 0 = .ok (.iconst 0, 1) := by decide +kernel
theorem dX6_bytesInForce_1 : decode cX6_bytesInForce 1 = .ok (.istore_n 1, 1) := by decide +kernel
theorem dX6_bytesInForce_2 : decode cX6_bytesInForce 2 = .ok (.aload_n 0, 1) := by decide +kernel
theorem dX6_bytesInForce_3 : decode cX6_bytesInForce 3 = .ok (.getfield 25, 3) := by decide +kernel
theorem dX6_bytesInForce_6 : decode cX6_bytesInForce 6 = .ok (.astore_n 2, 1) := by decide +kernel
theorem dX6_bytesInForce_7 : decode cX6_bytesInForce 7 = .ok (.aload_n 2, 1) := by decide +kernel
theorem dX6_bytesInForce_8 : decode cX6_bytesInForce 8 = .ok (.arraylength, 1) := by decide +kernel
theorem dX6_bytesInForce_9 : decode cX6_bytesInForce 9 = .ok (.istore_n 3, 1) := by decide +kernel
theorem dX6_bytesInForce_10 : decode cX6_bytesInForce 10 = .ok (.iconst 0, 1) := by decide +kernel
theorem dX6_bytesInForce_11 : decode cX6_bytesInForce 11 = .ok (.istore 4, 2) := by decide +kernel
theorem dX6_bytesInForce_13 : decode cX6_bytesInForce 13 = .ok (.iload 4, 2) := by decide +kernel
theorem dX6_bytesInForce_15 : decode cX6_bytesInForce 15 = .ok (.iload_n 3, 1) := by decide +kernel
theorem dX6_bytesInForce_16 : decode cX6_bytesInForce 16 = .ok (.if_icmp .ge 23, 3) := by decide +kernel
theorem dX6_bytesInForce_19 : decode cX6_bytesInForce 19 = .ok (.aload_n 2, 1) := by decide +kernel
theorem dX6_bytesInForce_20 : decode cX6_bytesInForce 20 = .ok (.iload 4, 2) := by decide +kernel
theorem dX6_bytesInForce_22 : decode cX6_bytesInForce 22 = .ok (.aaload, 1) := by decide +kernel
theorem dX6_bytesInForce_23 : decode cX6_bytesInForce 23 = .ok (.astore 5, 2) := by decide +kernel
theorem dX6_bytesInForce_25 : decode cX6_bytesInForce 25 = .ok (.iload_n 1, 1) := by decide +kernel
theorem dX6_bytesInForce_26 : decode cX6_bytesInForce 26 = .ok (.aload 5, 2) := by decide +kernel
theorem dX6_bytesInForce_28 : decode cX6_bytesInForce 28 = .ok (.invokevirtual 313, 3) := by decide +kernel
theorem dX6_bytesInForce_31 : decode cX6_bytesInForce 31 = .ok (.iadd, 1) := by decide +kernel
theorem dX6_bytesInForce_32 : decode cX6_bytesInForce 32 = .ok (.istore_n 1, 1) := by decide +kernel
theorem dX6_bytesInForce_33 : decode cX6_bytesInForce 33 = .ok (.iinc 4 1, 3) := by decide +kernel
theorem dX6_bytesInForce_36 : decode cX6_bytesInForce 36 = .ok (.goto (-23), 3) := by decide +kernel
theorem dX6_bytesInForce_39 : decode cX6_bytesInForce 39 = .ok (.iload_n 1, 1) := by decide +kernel
theorem dX6_bytesInForce_40 : decode cX6_bytesInForce 40 = .ok (.ireturn, 1) := by decide +kernel
theorem dX6_entriesInForce_0 : decode cX6_entriesInForce 0 = .ok (.iconst 0, 1) := by decide +kernel
theorem dX6_entriesInForce_1 : decode cX6_entriesInForce 1 = .ok (.istore_n 1, 1) := by decide +kernel
theorem dX6_entriesInForce_2 : decode cX6_entriesInForce 2 = .ok (.aload_n 0, 1) := by decide +kernel
theorem dX6_entriesInForce_3 : decode cX6_entriesInForce 3 = .ok (.getfield 25, 3) := by decide +kernel
theorem dX6_entriesInForce_6 : decode cX6_entriesInForce 6 = .ok (.astore_n 2, 1) := by decide +kernel
theorem dX6_entriesInForce_7 : decode cX6_entriesInForce 7 = .ok (.aload_n 2, 1) := by decide +kernel
theorem dX6_entriesInForce_8 : decode cX6_entriesInForce 8 = .ok (.arraylength, 1) := by decide +kernel
theorem dX6_entriesInForce_9 : decode cX6_entriesInForce 9 = .ok (.istore_n 3, 1) := by decide +kernel
theorem dX6_entriesInForce_10 : decode cX6_entriesInForce 10 = .ok (.iconst 0, 1) := by decide +kernel
theorem dX6_entriesInForce_11 : decode cX6_entriesInForce 11 = .ok (.istore 4, 2) := by decide +kernel
theorem dX6_entriesInForce_13 : decode cX6_entriesInForce 13 = .ok (.iload 4, 2) := by decide +kernel
theorem dX6_entriesInForce_15 : decode cX6_entriesInForce 15 = .ok (.iload_n 3, 1) := by decide +kernel
theorem dX6_entriesInForce_16 : decode cX6_entriesInForce 16 = .ok (.if_icmp .ge 23, 3) := by decide +kernel
theorem dX6_entriesInForce_19 : decode cX6_entriesInForce 19 = .ok (.aload_n 2, 1) := by decide +kernel
theorem dX6_entriesInForce_20 : decode cX6_entriesInForce 20 = .ok (.iload 4, 2) := by decide +kernel
theorem dX6_entriesInForce_22 : decode cX6_entriesInForce 22 = .ok (.aaload, 1) := by decide +kernel
theorem dX6_entriesInForce_23 : decode cX6_entriesInForce 23 = .ok (.astore 5, 2) := by decide +kernel
theorem dX6_entriesInForce_25 : decode cX6_entriesInForce 25 = .ok (.iload_n 1, 1) := by decide +kernel
theorem dX6_entriesInForce_26 : decode cX6_entriesInForce 26 = .ok (.aload 5, 2) := by decide +kernel
theorem dX6_entriesInForce_28 : decode cX6_entriesInForce 28 = .ok (.invokevirtual 315, 3) := by decide +kernel
theorem dX6_entriesInForce_31 : decode cX6_entriesInForce 31 = .ok (.iadd, 1) := by decide +kernel
theorem dX6_entriesInForce_32 : decode cX6_entriesInForce 32 = .ok (.istore_n 1, 1) := by decide +kernel
theorem dX6_entriesInForce_33 : decode cX6_entriesInForce 33 = .ok (.iinc 4 1, 3) := by decide +kernel
theorem dX6_entriesInForce_36 : decode cX6_entriesInForce 36 = .ok (.goto (-23), 3) := by decide +kernel
theorem dX6_entriesInForce_39 : decode cX6_entriesInForce 39 = .ok (.iload_n 1, 1) := by decide +kernel
theorem dX6_entriesInForce_40 : decode cX6_entriesInForce 40 = .ok (.ireturn, 1) := by decide +kernel
theorem dX7_init_0 : decode cX7_init 0 = .ok (.aload_n 0, 1) := by decide +kernel
theorem dX7_init_1 : decode cX7_init 1 = .ok (.invokespecial 1, 3) := by decide +kernel
theorem dX7_init_4 : decode cX7_init 4 = .ok (.aload_n 0, 1) := by decide +kernel
theorem dX7_init_5 : decode cX7_init 5 = .ok (.bipush 24, 2) := by decide +kernel
theorem dX7_init_7 : decode cX7_init 7 = .ok (.newarray .int, 2) := by decide +kernel
theorem dX7_init_9 : decode cX7_init 9 = .ok (.putfield 7, 3) := by decide +kernel
theorem dX7_init_12 : decode cX7_init 12 = .ok (.aload_n 0, 1) := by decide +kernel
theorem dX7_init_13 : decode cX7_init 13 = .ok (.bipush 24, 2) := by decide +kernel
theorem dX7_init_15 : decode cX7_init 15 = .ok (.newarray .int, 2) := by decide +kernel
theorem dX7_init_17 : decode cX7_init 17 = .ok (.putfield 13, 3) := by decide +kernel
theorem dX7_init_20 : decode cX7_init 20 = .ok (.aload_n 0, 1) := by decide +kernel
theorem dX7_init_21 : decode cX7_init 21 = .ok (.bipush 24, 2) := by decide +kernel
theorem dX7_init_23 : decode cX7_init 23 = .ok (.newarray .int, 2) := by decide +kernel
theorem dX7_init_25 : decode cX7_init 25 = .ok (.putfield 16, 3) := by decide +kernel
theorem dX7_init_28 : decode cX7_init 28 = .ok (.aload_n 0, 1) := by decide +kernel
theorem dX7_init_29 : decode cX7_init 29 = .ok (.iconst 3, 1) := by decide +kernel
theorem dX7_init_30 : decode cX7_init 30 = .ok (.newarray .int, 2) := by decide +kernel
theorem dX7_init_32 : decode cX7_init 32 = .ok (.dup, 1) := by decide +kernel
theorem dX7_init_33 : decode cX7_init 33 = .ok (.iconst 0, 1) := by decide +kernel
theorem dX7_init_34 : decode cX7_init 34 = .ok (.iconst (-1), 1) := by decide +kernel
theorem dX7_init_35 : decode cX7_init 35 = .ok (.iastore, 1) := by decide +kernel
theorem dX7_init_36 : decode cX7_init 36 = .ok (.dup, 1) := by decide +kernel
theorem dX7_init_37 : decode cX7_init 37 = .ok (.iconst 1, 1) := by decide +kernel
theorem dX7_init_38 : decode cX7_init 38 = .ok (.iconst (-1), 1) := by decide +kernel
theorem dX7_init_39 : decode cX7_init 39 = .ok (.iastore, 1) := by decide +kernel
theorem dX7_init_40 : decode cX7_init 40 = .ok (.dup, 1) := by decide +kernel
theorem dX7_init_41 : decode cX7_init 41 = .ok (.iconst 2, 1) := by decide +kernel
theorem dX7_init_42 : decode cX7_init 42 = .ok (.iconst (-1), 1) := by decide +kernel
theorem dX7_init_43 : decode cX7_init 43 = .ok (.iastore, 1) := by decide +kernel
theorem dX7_init_44 : decode cX7_init 44 = .ok (.putfield 19, 3) := by decide +kernel
theorem dX7_init_47 : decode cX7_init 47 = .ok (.aload_n 0, 1) := by decide +kernel
theorem dX7_init_48 : decode cX7_init 48 = .ok (.sipush 330, 3) := by decide +kernel
theorem dX7_init_51 : decode cX7_init 51 = .ok (.newarray .int, 2) := by decide +kernel
theorem dX7_init_53 : decode cX7_init 53 = .ok (.putfield 22, 3) := by decide +kernel
theorem dX7_init_56 : decode cX7_init 56 = .ok (.aload_n 0, 1) := by decide +kernel
theorem dX7_init_57 : decode cX7_init 57 = .ok (.sipush 330, 3) := by decide +kernel
theorem dX7_init_60 : decode cX7_init 60 = .ok (.newarray .int, 2) := by decide +kernel
theorem dX7_init_62 : decode cX7_init 62 = .ok (.putfield 25, 3) := by decide +kernel
theorem dX7_init_65 : decode cX7_init 65 = .ok (.aload_n 0, 1) := by decide +kernel
theorem dX7_init_66 : decode cX7_init 66 = .ok (.sipush 330, 3) := by decide +kernel
theorem dX7_init_69 : decode cX7_init 69 = .ok (.newarray .int, 2) := by decide +kernel
theorem dX7_init_71 : decode cX7_init 71 = .ok (.putfield 28, 3) := by decide +kernel
theorem dX7_init_74 : decode cX7_init 74 = .ok (.aload_n 0, 1) := by decide +kernel
theorem dX7_init_75 : decode cX7_init 75 = .ok (.sipush 330, 3) := by decide +kernel
theorem dX7_init_78 : decode cX7_init 78 = .ok (.newarray .int, 2) := by decide +kernel
theorem dX7_init_80 : decode cX7_init 80 = .ok (.putfield 31, 3) := by decide +kernel
theorem dX7_init_83 : decode cX7_init 83 = .ok (.aload_n 0, 1) := by decide +kernel
theorem dX7_init_84 : decode cX7_init 84 = .ok (.sipush 330, 3) := by decide +kernel
theorem dX7_init_87 : decode cX7_init 87 = .ok (.newarray .int, 2) := by decide +kernel
theorem dX7_init_89 : decode cX7_init 89 = .ok (.putfield 34, 3) := by decide +kernel
theorem dX7_init_92 : decode cX7_init 92 = .ok (.aload_n 0, 1) := by decide +kernel
theorem dX7_init_93 : decode cX7_init 93 = .ok (.sipush 9900, 3) := by decide +kernel
theorem dX7_init_96 : decode cX7_init 96 = .ok (.newarray .int, 2) := by decide +kernel
theorem dX7_init_98 : decode cX7_init 98 = .ok (.putfield 37, 3) := by decide +kernel
theorem dX7_init_101 : decode cX7_init 101 = .ok (.aload_n 0, 1) := by decide +kernel
theorem dX7_init_102 : decode cX7_init 102 = .ok (.sipush 9900, 3) := by decide +kernel
theorem dX7_init_105 : decode cX7_init 105 = .ok (.newarray .int, 2) := by decide +kernel
theorem dX7_init_107 : decode cX7_init 107 = .ok (.putfield 40, 3) := by decide +kernel
theorem dX7_init_110 : decode cX7_init 110 = .ok (.aload_n 0, 1) := by decide +kernel
theorem dX7_init_111 : decode cX7_init 111 = .ok (.sipush 9900, 3) := by decide +kernel
theorem dX7_init_114 : decode cX7_init 114 = .ok (.newarray .int, 2) := by decide +kernel
theorem dX7_init_116 : decode cX7_init 116 = .ok (.putfield 43, 3) := by decide +kernel
theorem dX7_init_119 : decode cX7_init 119 = .ok (.aload_n 0, 1) := by decide +kernel
theorem dX7_init_120 : decode cX7_init 120 = .ok (.sipush 1500, 3) := by decide +kernel
theorem dX7_init_123 : decode cX7_init 123 = .ok (.newarray .int, 2) := by decide +kernel
theorem dX7_init_125 : decode cX7_init 125 = .ok (.putfield 46, 3) := by decide +kernel
theorem dX7_init_128 : decode cX7_init 128 = .ok (.aload_n 0, 1) := by decide +kernel
theorem dX7_init_129 : decode cX7_init 129 = .ok (.sipush 330, 3) := by decide +kernel
theorem dX7_init_132 : decode cX7_init 132 = .ok (.newarray .int, 2) := by decide +kernel
theorem dX7_init_134 : decode cX7_init 134 = .ok (.putfield 49, 3) := by decide +kernel
theorem dX7_init_137 : decode cX7_init 137 = .ok (.aload_n 0, 1) := by decide +kernel
theorem dX7_init_138 : decode cX7_init 138 = .ok (.sipush 1200, 3) := by decide +kernel
theorem dX7_init_141 : decode cX7_init 141 = .ok (.newarray .int, 2) := by decide +kernel
theorem dX7_init_143 : decode cX7_init 143 = .ok (.putfield 52, 3) := by decide +kernel
theorem dX7_init_146 : decode cX7_init 146 = .ok (.aload_n 0, 1) := by decide +kernel
theorem dX7_init_147 : decode cX7_init 147 = .ok (.sipush 1200, 3) := by decide +kernel
theorem dX7_init_150 : decode cX7_init 150 = .ok (.newarray .int, 2) := by decide +kernel
theorem dX7_init_152 : decode cX7_init 152 = .ok (.putfield 55, 3) := by decide +kernel
theorem dX7_init_155 : decode cX7_init 155 = .ok (.aload_n 0, 1) := by decide +kernel
theorem dX7_init_156 : decode cX7_init 156 = .ok (.sipush 1200, 3) := by decide +kernel
theorem dX7_init_159 : decode cX7_init 159 = .ok (.newarray .int, 2) := by decide +kernel
theorem dX7_init_161 : decode cX7_init 161 = .ok (.putfield 58, 3) := by decide +kernel
theorem dX7_init_164 : decode cX7_init 164 = .ok (.aload_n 0, 1) := by decide +kernel
theorem dX7_init_165 : decode cX7_init 165 = .ok (.sipush 330, 3) := by decide +kernel
theorem dX7_init_168 : decode cX7_init 168 = .ok (.newarray .boolean, 2) := by decide +kernel
theorem dX7_init_170 : decode cX7_init 170 = .ok (.putfield 61, 3) := by decide +kernel
theorem dX7_init_173 : decode cX7_init 173 = .ok (.aload_n 0, 1) := by decide +kernel
theorem dX7_init_174 : decode cX7_init 174 = .ok (.iconst 3, 1) := by decide +kernel
theorem dX7_init_175 : decode cX7_init 175 = .ok (.newarray .int, 2) := by decide +kernel
theorem dX7_init_177 : decode cX7_init 177 = .ok (.putfield 65, 3) := by decide +kernel
theorem dX7_init_180 : decode cX7_init 180 = .ok (.aload_n 0, 1) := by decide +kernel
theorem dX7_init_181 : decode cX7_init 181 = .ok (.bipush 40, 2) := by decide +kernel
theorem dX7_init_183 : decode cX7_init 183 = .ok (.newarray .int, 2) := by decide +kernel
theorem dX7_init_185 : decode cX7_init 185 = .ok (.putfield 68, 3) := by decide +kernel
theorem dX7_init_188 : decode cX7_init 188 = .ok (.aload_n 0, 1) := by decide +kernel
theorem dX7_init_189 : decode cX7_init 189 = .ok (.bipush 40, 2) := by decide +kernel
theorem dX7_init_191 : decode cX7_init 191 = .ok (.newarray .int, 2) := by decide +kernel
theorem dX7_init_193 : decode cX7_init 193 = .ok (.putfield 71, 3) := by decide +kernel
theorem dX7_init_196 : decode cX7_init 196 = .ok (.aload_n 0, 1) := by decide +kernel
theorem dX7_init_197 : decode cX7_init 197 = .ok (.bipush 40, 2) := by decide +kernel
theorem dX7_init_199 : decode cX7_init 199 = .ok (.newarray .int, 2) := by decide +kernel
theorem dX7_init_201 : decode cX7_init 201 = .ok (.putfield 74, 3) := by decide +kernel
theorem dX7_init_204 : decode cX7_init 204 = .ok (.aload_n 0, 1) := by decide +kernel
theorem dX7_init_205 : decode cX7_init 205 = .ok (.sipush 600, 3) := by decide +kernel
theorem dX7_init_208 : decode cX7_init 208 = .ok (.newarray .int, 2) := by decide +kernel
theorem dX7_init_210 : decode cX7_init 210 = .ok (.putfield 77, 3) := by decide +kernel
theorem dX7_init_213 : decode cX7_init 213 = .ok (.aload_n 0, 1) := by decide +kernel
theorem dX7_init_214 : decode cX7_init 214 = .ok (.bipush 40, 2) := by decide +kernel
theorem dX7_init_216 : decode cX7_init 216 = .ok (.newarray .int, 2) := by decide +kernel
theorem dX7_init_218 : decode cX7_init 218 = .ok (.putfield 80, 3) := by decide +kernel
theorem dX7_init_221 : decode cX7_init 221 = .ok (.aload_n 0, 1) := by decide +kernel
theorem dX7_init_222 : decode cX7_init 222 = .ok (.bipush 40, 2) := by decide +kernel
theorem dX7_init_224 : decode cX7_init 224 = .ok (.newarray .int, 2) := by decide +kernel
theorem dX7_init_226 : decode cX7_init 226 = .ok (.putfield 83, 3) := by decide +kernel
theorem dX7_init_229 : decode cX7_init 229 = .ok (.aload_n 0, 1) := by decide +kernel
theorem dX7_init_230 : decode cX7_init 230 = .ok (.bipush 40, 2) := by decide +kernel
theorem dX7_init_232 : decode cX7_init 232 = .ok (.newarray .int, 2) := by decide +kernel
theorem dX7_init_234 : decode cX7_init 234 = .ok (.putfield 86, 3) := by decide +kernel
theorem dX7_init_237 : decode cX7_init 237 = .ok (.iconst 0, 1) := by decide +kernel
theorem dX7_init_238 : decode cX7_init 238 = .ok (.istore_n 1, 1) := by decide +kernel
theorem dX7_init_239 : decode cX7_init 239 = .ok (.iload_n 1, 1) := by decide +kernel
theorem dX7_init_240 : decode cX7_init 240 = .ok (.sipush 330, 3) := by decide +kernel
theorem dX7_init_243 : decode cX7_init 243 = .ok (.if_icmp .ge 16, 3) := by decide +kernel
theorem dX7_init_246 : decode cX7_init 246 = .ok (.aload_n 0, 1) := by decide +kernel
theorem dX7_init_247 : decode cX7_init 247 = .ok (.getfield 22, 3) := by decide +kernel
theorem dX7_init_250 : decode cX7_init 250 = .ok (.iload_n 1, 1) := by decide +kernel
theorem dX7_init_251 : decode cX7_init 251 = .ok (.iconst (-1), 1) := by decide +kernel
theorem dX7_init_252 : decode cX7_init 252 = .ok (.iastore, 1) := by decide +kernel
theorem dX7_init_253 : decode cX7_init 253 = .ok (.iinc 1 1, 3) := by decide +kernel
theorem dX7_init_256 : decode cX7_init 256 = .ok (.goto (-17), 3) := by decide +kernel
theorem dX7_init_259 : decode cX7_init 259 = .ok (.return_, 1) := by decide +kernel
theorem dX7_in_0 : decode cX7_in 0 = .ok (.lload_n 0, 1) := by decide +kernel
theorem dX7_in_1 : decode cX7_in 1 = .ok (.lload_n 2, 1) := by decide +kernel
theorem dX7_in_2 : decode cX7_in 2 = .ok (.lcmp, 1) := by decide +kernel
theorem dX7_in_3 : decode cX7_in 3 = .ok (.ifCond .lt 14, 3) := by decide +kernel
theorem dX7_in_6 : decode cX7_in 6 = .ok (.lload_n 0, 1) := by decide +kernel
theorem dX7_in_7 : decode cX7_in 7 = .ok (.lload 4, 2) := by decide +kernel
theorem dX7_in_9 : decode cX7_in 9 = .ok (.lcmp, 1) := by decide +kernel
theorem dX7_in_10 : decode cX7_in 10 = .ok (.ifCond .gt 7, 3) := by decide +kernel
theorem dX7_in_13 : decode cX7_in 13 = .ok (.iconst 1, 1) := by decide +kernel
theorem dX7_in_14 : decode cX7_in 14 = .ok (.goto 4, 3) := by decide +kernel
theorem dX7_in_17 : decode cX7_in 17 = .ok (.iconst 0, 1) := by decide +kernel
theorem dX7_in_18 : decode cX7_in 18 = .ok (.ireturn, 1) := by decide +kernel
theorem dX7_write_0 : decode cX7_write 0 = .ok (.aload_n 0, 1) := by decide +kernel
theorem dX7_write_1 : decode cX7_write 1 = .ok (.getfield 93, 3) := by decide +kernel
theorem dX7_write_4 : decode cX7_write 4 = .ok (.bipush 24, 2) := by decide +kernel
theorem dX7_write_6 : decode cX7_write 6 = .ok (.if_icmp .eq 12, 3) := by decide +kernel
theorem dX7_write_9 : decode cX7_write 9 = .ok (.aload_n 0, 1) := by decide +kernel
theorem dX7_write_10 : decode cX7_write 10 = .ok (.getfield 96, 3) := by decide +kernel
theorem dX7_write_13 : decode cX7_write 13 = .ok (.ldc 99, 2) := by decide +kernel
theorem dX7_write_15 : decode cX7_write 15 = .ok (.if_icmp .ne 6, 3) := by decide +kernel
theorem dX7_write_18 : decode cX7_write 18 = .ok (.ldc 100, 2) := by decide +kernel
theorem dX7_write_20 : decode cX7_write 20 = .ok (.ireturn, 1) := by decide +kernel
theorem dX7_write_21 : decode cX7_write 21 = .ok (.aload_n 0, 1) := by decide +kernel
theorem dX7_write_22 : decode cX7_write 22 = .ok (.dup, 1) := by decide +kernel
theorem dX7_write_23 : decode cX7_write 23 = .ok (.getfield 96, 3) := by decide +kernel
theorem dX7_write_26 : decode cX7_write 26 = .ok (.iconst 1, 1) := by decide +kernel
theorem dX7_write_27 : decode cX7_write 27 = .ok (.iadd, 1) := by decide +kernel
theorem dX7_write_28 : decode cX7_write 28 = .ok (.putfield 96, 3) := by decide +kernel
theorem dX7_write_31 : decode cX7_write 31 = .ok (.aload_n 0, 1) := by decide +kernel
theorem dX7_write_32 : decode cX7_write 32 = .ok (.getfield 7, 3) := by decide +kernel
theorem dX7_write_35 : decode cX7_write 35 = .ok (.aload_n 0, 1) := by decide +kernel
theorem dX7_write_36 : decode cX7_write 36 = .ok (.getfield 93, 3) := by decide +kernel
theorem dX7_write_39 : decode cX7_write 39 = .ok (.iload_n 1, 1) := by decide +kernel
theorem dX7_write_40 : decode cX7_write 40 = .ok (.iastore, 1) := by decide +kernel
theorem dX7_write_41 : decode cX7_write 41 = .ok (.aload_n 0, 1) := by decide +kernel
theorem dX7_write_42 : decode cX7_write 42 = .ok (.getfield 13, 3) := by decide +kernel
theorem dX7_write_45 : decode cX7_write 45 = .ok (.aload_n 0, 1) := by decide +kernel
theorem dX7_write_46 : decode cX7_write 46 = .ok (.getfield 93, 3) := by decide +kernel
theorem dX7_write_49 : decode cX7_write 49 = .ok (.aload_n 0, 1) := by decide +kernel
theorem dX7_write_50 : decode cX7_write 50 = .ok (.getfield 96, 3) := by decide +kernel
theorem dX7_write_53 : decode cX7_write 53 = .ok (.iastore, 1) := by decide +kernel
theorem dX7_write_54 : decode cX7_write 54 = .ok (.aload_n 0, 1) := by decide +kernel
theorem dX7_write_55 : decode cX7_write 55 = .ok (.getfield 16, 3) := by decide +kernel
theorem dX7_write_58 : decode cX7_write 58 = .ok (.aload_n 0, 1) := by decide +kernel
theorem dX7_write_59 : decode cX7_write 59 = .ok (.getfield 93, 3) := by decide +kernel
theorem dX7_write_62 : decode cX7_write 62 = .ok (.iload_n 2, 1) := by decide +kernel
theorem dX7_write_63 : decode cX7_write 63 = .ok (.iastore, 1) := by decide +kernel
theorem dX7_write_64 : decode cX7_write 64 = .ok (.aload_n 0, 1) := by decide +kernel
theorem dX7_write_65 : decode cX7_write 65 = .ok (.dup, 1) := by decide +kernel
theorem dX7_write_66 : decode cX7_write 66 = .ok (.getfield 93, 3) := by decide +kernel
theorem dX7_write_69 : decode cX7_write 69 = .ok (.iconst 1, 1) := by decide +kernel
theorem dX7_write_70 : decode cX7_write 70 = .ok (.iadd, 1) := by decide +kernel
theorem dX7_write_71 : decode cX7_write 71 = .ok (.putfield 93, 3) := by decide +kernel
theorem dX7_write_74 : decode cX7_write 74 = .ok (.aload_n 0, 1) := by decide +kernel
theorem dX7_write_75 : decode cX7_write 75 = .ok (.getfield 96, 3) := by decide +kernel
theorem dX7_write_78 : decode cX7_write 78 = .ok (.ireturn, 1) := by decide +kernel
theorem dX7_put_0 : decode cX7_put 0 = .ok (.aload_n 0, 1) := by decide +kernel
theorem dX7_put_1 : decode cX7_put 1 = .ok (.iconst 0, 1) := by decide +kernel
theorem dX7_put_2 : decode cX7_put 2 = .ok (.putfield 89, 3) := by decide +kernel
theorem dX7_put_5 : decode cX7_put 5 = .ok (.iload_n 1, 1) := by decide +kernel
theorem dX7_put_6 : decode cX7_put 6 = .ok (.i2l, 1) := by decide +kernel
theorem dX7_put_7 : decode cX7_put 7 = .ok (.lconst 0, 1) := by decide +kernel
theorem dX7_put_8 : decode cX7_put 8 = .ok (.ldc2_w 101, 3) := by decide +kernel
theorem dX7_put_11 : decode cX7_put 11 = .ok (.invokestatic 103, 3) := by decide +kernel
theorem dX7_put_14 : decode cX7_put 14 = .ok (.ifCond .eq 17, 3) := by decide +kernel
theorem dX7_put_17 : decode cX7_put 17 = .ok (.iload_n 2, 1) := by decide +kernel
theorem dX7_put_18 : decode cX7_put 18 = .ok (.i2l, 1) := by decide +kernel
theorem dX7_put_19 : decode cX7_put 19 = .ok (.ldc2_w 107, 3) := by decide +kernel
theorem dX7_put_22 : decode cX7_put 22 = .ok (.ldc2_w 109, 3) := by decide +kernel
theorem dX7_put_25 : decode cX7_put 25 = .ok (.invokestatic 103, 3) := by decide +kernel
theorem dX7_put_28 : decode cX7_put 28 = .ok (.ifCond .ne 8, 3) := by decide +kernel
theorem dX7_put_31 : decode cX7_put 31 = .ok (.ldc 111, 2) := by decide +kernel
theorem dX7_put_33 : decode cX7_put 33 = .ok (.goto 9, 3) := by decide +kernel
theorem dX7_put_36 : decode cX7_put 36 = .ok (.aload_n 0, 1) := by decide +kernel
theorem dX7_put_37 : decode cX7_put 37 = .ok (.iload_n 1, 1) := by decide +kernel
theorem dX7_put_38 : decode cX7_put 38 = .ok (.iload_n 2, 1) := by decide +kernel
theorem dX7_put_39 : decode cX7_put 39 = .ok (.invokevirtual 112, 3) := by decide +kernel
theorem dX7_put_42 : decode cX7_put 42 = .ok (.ireturn, 1) := by decide +kernel
theorem dX7_drop_0 : decode cX7_drop 0 = .ok (.aload_n 0, 1) := by decide +kernel
theorem dX7_drop_1 : decode cX7_drop 1 = .ok (.iconst 0, 1) := by decide +kernel
theorem dX7_drop_2 : decode cX7_drop 2 = .ok (.putfield 89, 3) := by decide +kernel
theorem dX7_drop_5 : decode cX7_drop 5 = .ok (.iload_n 1, 1) := by decide +kernel
theorem dX7_drop_6 : decode cX7_drop 6 = .ok (.i2l, 1) := by decide +kernel
theorem dX7_drop_7 : decode cX7_drop 7 = .ok (.lconst 0, 1) := by decide +kernel
theorem dX7_drop_8 : decode cX7_drop 8 = .ok (.ldc2_w 101, 3) := by decide +kernel
theorem dX7_drop_11 : decode cX7_drop 11 = .ok (.invokestatic 103, 3) := by decide +kernel
theorem dX7_drop_14 : decode cX7_drop 14 = .ok (.ifCond .ne 8, 3) := by decide +kernel
theorem dX7_drop_17 : decode cX7_drop 17 = .ok (.ldc 111, 2) := by decide +kernel
theorem dX7_drop_19 : decode cX7_drop 19 = .ok (.goto 10, 3) := by decide +kernel
theorem dX7_drop_22 : decode cX7_drop 22 = .ok (.aload_n 0, 1) := by decide +kernel
theorem dX7_drop_23 : decode cX7_drop 23 = .ok (.iload_n 1, 1) := by decide +kernel
theorem dX7_drop_24 : decode cX7_drop 24 = .ok (.ldc 116, 2) := by decide +kernel
theorem dX7_drop_26 : decode cX7_drop 26 = .ok (.invokevirtual 112, 3) := by decide +kernel
theorem dX7_drop_29 : decode cX7_drop 29 = .ok (.ireturn, 1) := by decide +kernel
theorem dX7_sync_0 : decode cX7_sync 0 = .ok (.aload_n 0, 1) := by decide +kernel
theorem dX7_sync_1 : decode cX7_sync 1 = .ok (.iconst 0, 1) := by decide +kernel
theorem dX7_sync_2 : decode cX7_sync 2 = .ok (.putfield 89, 3) := by decide +kernel
theorem dX7_sync_5 : decode cX7_sync 5 = .ok (.aload_n 0, 1) := by decide +kernel
theorem dX7_sync_6 : decode cX7_sync 6 = .ok (.getfield 93, 3) := by decide +kernel
theorem dX7_sync_9 : decode cX7_sync 9 = .ok (.aload_n 0, 1) := by decide +kernel
theorem dX7_sync_10 : decode cX7_sync 10 = .ok (.getfield 117, 3) := by decide +kernel
theorem dX7_sync_13 : decode cX7_sync 13 = .ok (.isub, 1) := by decide +kernel
theorem dX7_sync_14 : decode cX7_sync 14 = .ok (.istore_n 1, 1) := by decide +kernel
theorem dX7_sync_15 : decode cX7_sync 15 = .ok (.aload_n 0, 1) := by decide +kernel
theorem dX7_sync_16 : decode cX7_sync 16 = .ok (.aload_n 0, 1) := by decide +kernel
theorem dX7_sync_17 : decode cX7_sync 17 = .ok (.getfield 93, 3) := by decide +kernel
theorem dX7_sync_20 : decode cX7_sync 20 = .ok (.putfield 117, 3) := by decide +kernel
theorem dX7_sync_23 : decode cX7_sync 23 = .ok (.iload_n 1, 1) := by decide +kernel
theorem dX7_sync_24 : decode cX7_sync 24 = .ok (.ireturn, 1) := by decide +kernel
theorem dX7_crash_0 : decode cX7_crash 0 = .ok (.aload_n 0, 1) := by decide +kernel
theorem dX7_crash_1 : decode cX7_crash 1 = .ok (.iconst 0, 1) := by decide +kernel
theorem dX7_crash_2 : decode cX7_crash 2 = .ok (.putfield 89, 3) := by decide +kernel
theorem dX7_crash_5 : decode cX7_crash 5 = .ok (.iload_n 1, 1) := by decide +kernel
theorem dX7_crash_6 : decode cX7_crash 6 = .ok (.i2l, 1) := by decide +kernel
theorem dX7_crash_7 : decode cX7_crash 7 = .ok (.lconst 0, 1) := by decide +kernel
theorem dX7_crash_8 : decode cX7_crash 8 = .ok (.aload_n 0, 1) := by decide +kernel
theorem dX7_crash_9 : decode cX7_crash 9 = .ok (.getfield 93, 3) := by decide +kernel
theorem dX7_crash_12 : decode cX7_crash 12 = .ok (.aload_n 0, 1) := by decide +kernel
theorem dX7_crash_13 : decode cX7_crash 13 = .ok (.getfield 117, 3) := by decide +kernel
theorem dX7_crash_16 : decode cX7_crash 16 = .ok (.isub, 1) := by decide +kernel
theorem dX7_crash_17 : decode cX7_crash 17 = .ok (.i2l, 1) := by decide +kernel
theorem dX7_crash_18 : decode cX7_crash 18 = .ok (.invokestatic 103, 3) := by decide +kernel
theorem dX7_crash_21 : decode cX7_crash 21 = .ok (.ifCond .ne 6, 3) := by decide +kernel
theorem dX7_crash_24 : decode cX7_crash 24 = .ok (.ldc 111, 2) := by decide +kernel
theorem dX7_crash_26 : decode cX7_crash 26 = .ok (.ireturn, 1) := by decide +kernel
theorem dX7_crash_27 : decode cX7_crash 27 = .ok (.aload_n 0, 1) := by decide +kernel
theorem dX7_crash_28 : decode cX7_crash 28 = .ok (.aload_n 0, 1) := by decide +kernel
theorem dX7_crash_29 : decode cX7_crash 29 = .ok (.getfield 117, 3) := by decide +kernel
theorem dX7_crash_32 : decode cX7_crash 32 = .ok (.iload_n 1, 1) := by decide +kernel
theorem dX7_crash_33 : decode cX7_crash 33 = .ok (.iadd, 1) := by decide +kernel
theorem dX7_crash_34 : decode cX7_crash 34 = .ok (.putfield 93, 3) := by decide +kernel
theorem dX7_crash_37 : decode cX7_crash 37 = .ok (.aload_n 0, 1) := by decide +kernel
theorem dX7_crash_38 : decode cX7_crash 38 = .ok (.invokevirtual 120, 3) := by decide +kernel
theorem dX7_crash_41 : decode cX7_crash 41 = .ok (.pop, 1) := by decide +kernel
theorem dX7_crash_42 : decode cX7_crash 42 = .ok (.aload_n 0, 1) := by decide +kernel
theorem dX7_crash_43 : decode cX7_crash 43 = .ok (.iconst 0, 1) := by decide +kernel
theorem dX7_crash_44 : decode cX7_crash 44 = .ok (.putfield 96, 3) := by decide +kernel
theorem dX7_crash_47 : decode cX7_crash 47 = .ok (.iconst 0, 1) := by decide +kernel
theorem dX7_crash_48 : decode cX7_crash 48 = .ok (.istore_n 2, 1) := by decide +kernel
theorem dX7_crash_49 : decode cX7_crash 49 = .ok (.iload_n 2, 1) := by decide +kernel
theorem dX7_crash_50 : decode cX7_crash 50 = .ok (.aload_n 0, 1) := by decide +kernel
theorem dX7_crash_51 : decode cX7_crash 51 = .ok (.getfield 93, 3) := by decide +kernel
theorem dX7_crash_54 : decode cX7_crash 54 = .ok (.if_icmp .ge 39, 3) := by decide +kernel
theorem dX7_crash_57 : decode cX7_crash 57 = .ok (.aload_n 0, 1) := by decide +kernel
theorem dX7_crash_58 : decode cX7_crash 58 = .ok (.aload_n 0, 1) := by decide +kernel
theorem dX7_crash_59 : decode cX7_crash 59 = .ok (.getfield 13, 3) := by decide +kernel
theorem dX7_crash_62 : decode cX7_crash 62 = .ok (.iload_n 2, 1) := by decide +kernel
theorem dX7_crash_63 : decode cX7_crash 63 = .ok (.iaload, 1) := by decide +kernel
theorem dX7_crash_64 : decode cX7_crash 64 = .ok (.aload_n 0, 1) := by decide +kernel
theorem dX7_crash_65 : decode cX7_crash 65 = .ok (.getfield 96, 3) := by decide +kernel
theorem dX7_crash_68 : decode cX7_crash 68 = .ok (.if_icmp .le 12, 3) := by decide +kernel
theorem dX7_crash_71 : decode cX7_crash 71 = .ok (.aload_n 0, 1) := by decide +kernel
theorem dX7_crash_72 : decode cX7_crash 72 = .ok (.getfield 13, 3) := by decide +kernel
theorem dX7_crash_75 : decode cX7_crash 75 = .ok (.iload_n 2, 1) := by decide +kernel
theorem dX7_crash_76 : decode cX7_crash 76 = .ok (.iaload, 1) := by decide +kernel
theorem dX7_crash_77 : decode cX7_crash 77 = .ok (.goto 7, 3) := by decide +kernel
theorem dX7_crash_80 : decode cX7_crash 80 = .ok (.aload_n 0, 1) := by decide +kernel
theorem dX7_crash_81 : decode cX7_crash 81 = .ok (.getfield 96, 3) := by decide +kernel
theorem dX7_crash_84 : decode cX7_crash 84 = .ok (.putfield 96, 3) := by decide +kernel
theorem dX7_crash_87 : decode cX7_crash 87 = .ok (.iinc 2 1, 3) := by decide +kernel
theorem dX7_crash_90 : decode cX7_crash 90 = .ok (.goto (-41), 3) := by decide +kernel
theorem dX7_crash_93 : decode cX7_crash 93 = .ok (.iconst 0, 1) := by decide +kernel
theorem dX7_crash_94 : decode cX7_crash 94 = .ok (.istore_n 2, 1) := by decide +kernel
theorem dX7_crash_95 : decode cX7_crash 95 = .ok (.iload_n 2, 1) := by decide +kernel
theorem dX7_crash_96 : decode cX7_crash 96 = .ok (.sipush 330, 3) := by decide +kernel
theorem dX7_crash_99 : decode cX7_crash 99 = .ok (.if_icmp .ge 74, 3) := by decide +kernel
theorem dX7_crash_102 : decode cX7_crash 102 = .ok (.bipush 30, 2) := by decide +kernel
theorem dX7_crash_104 : decode cX7_crash 104 = .ok (.iload_n 2, 1) := by decide +kernel
theorem dX7_crash_105 : decode cX7_crash 105 = .ok (.imul, 1) := by decide +kernel
theorem dX7_crash_106 : decode cX7_crash 106 = .ok (.istore_n 3, 1) := by decide +kernel
theorem dX7_crash_107 : decode cX7_crash 107 = .ok (.aload_n 0, 1) := by decide +kernel
theorem dX7_crash_108 : decode cX7_crash 108 = .ok (.getfield 22, 3) := by decide +kernel
theorem dX7_crash_111 : decode cX7_crash 111 = .ok (.iload_n 2, 1) := by decide +kernel
theorem dX7_crash_112 : decode cX7_crash 112 = .ok (.iaload, 1) := by decide +kernel
theorem dX7_crash_113 : decode cX7_crash 113 = .ok (.ifCond .lt 54, 3) := by decide +kernel
theorem dX7_crash_116 : decode cX7_crash 116 = .ok (.iload_n 3, 1) := by decide +kernel
theorem dX7_crash_117 : decode cX7_crash 117 = .ok (.bipush 30, 2) := by decide +kernel
theorem dX7_crash_119 : decode cX7_crash 119 = .ok (.iload_n 2, 1) := by decide +kernel
theorem dX7_crash_120 : decode cX7_crash 120 = .ok (.imul, 1) := by decide +kernel
theorem dX7_crash_121 : decode cX7_crash 121 = .ok (.aload_n 0, 1) := by decide +kernel
theorem dX7_crash_122 : decode cX7_crash 122 = .ok (.getfield 34, 3) := by decide +kernel
theorem dX7_crash_125 : decode cX7_crash 125 = .ok (.iload_n 2, 1) := by decide +kernel
theorem dX7_crash_126 : decode cX7_crash 126 = .ok (.iaload, 1) := by decide +kernel
theorem dX7_crash_127 : decode cX7_crash 127 = .ok (.iadd, 1) := by decide +kernel
theorem dX7_crash_128 : decode cX7_crash 128 = .ok (.if_icmp .ge 39, 3) := by decide +kernel
theorem dX7_crash_131 : decode cX7_crash 131 = .ok (.aload_n 0, 1) := by decide +kernel
theorem dX7_crash_132 : decode cX7_crash 132 = .ok (.aload_n 0, 1) := by decide +kernel
theorem dX7_crash_133 : decode cX7_crash 133 = .ok (.getfield 40, 3) := by decide +kernel
theorem dX7_crash_136 : decode cX7_crash 136 = .ok (.iload_n 3, 1) := by decide +kernel
theorem dX7_crash_137 : decode cX7_crash 137 = .ok (.iaload, 1) := by decide +kernel
theorem dX7_crash_138 : decode cX7_crash 138 = .ok (.aload_n 0, 1) := by decide +kernel
theorem dX7_crash_139 : decode cX7_crash 139 = .ok (.getfield 96, 3) := by decide +kernel
theorem dX7_crash_142 : decode cX7_crash 142 = .ok (.if_icmp .le 12, 3) := by decide +kernel
theorem dX7_crash_145 : decode cX7_crash 145 = .ok (.aload_n 0, 1) := by decide +kernel
theorem dX7_crash_146 : decode cX7_crash 146 = .ok (.getfield 40, 3) := by decide +kernel
theorem dX7_crash_149 : decode cX7_crash 149 = .ok (.iload_n 3, 1) := by decide +kernel
theorem dX7_crash_150 : decode cX7_crash 150 = .ok (.iaload, 1) := by decide +kernel
theorem dX7_crash_151 : decode cX7_crash 151 = .ok (.goto 7, 3) := by decide +kernel
theorem dX7_crash_154 : decode cX7_crash 154 = .ok (.aload_n 0, 1) := by decide +kernel
theorem dX7_crash_155 : decode cX7_crash 155 = .ok (.getfield 96, 3) := by decide +kernel
theorem dX7_crash_158 : decode cX7_crash 158 = .ok (.putfield 96, 3) := by decide +kernel
theorem dX7_crash_161 : decode cX7_crash 161 = .ok (.iinc 3 1, 3) := by decide +kernel
theorem dX7_crash_164 : decode cX7_crash 164 = .ok (.goto (-57), 3) := by decide +kernel
theorem dX7_crash_167 : decode cX7_crash 167 = .ok (.iinc 2 1, 3) := by decide +kernel
theorem dX7_crash_170 : decode cX7_crash 170 = .ok (.goto (-75), 3) := by decide +kernel
theorem dX7_crash_173 : decode cX7_crash 173 = .ok (.iconst 0, 1) := by decide +kernel
theorem dX7_crash_174 : decode cX7_crash 174 = .ok (.istore_n 2, 1) := by decide +kernel
theorem dX7_crash_175 : decode cX7_crash 175 = .ok (.iload_n 2, 1) := by decide +kernel
theorem dX7_crash_176 : decode cX7_crash 176 = .ok (.iconst 3, 1) := by decide +kernel
theorem dX7_crash_177 : decode cX7_crash 177 = .ok (.if_icmp .ge 16, 3) := by decide +kernel
theorem dX7_crash_180 : decode cX7_crash 180 = .ok (.aload_n 0, 1) := by decide +kernel
theorem dX7_crash_181 : decode cX7_crash 181 = .ok (.getfield 19, 3) := by decide +kernel
theorem dX7_crash_184 : decode cX7_crash 184 = .ok (.iload_n 2, 1) := by decide +kernel
theorem dX7_crash_185 : decode cX7_crash 185 = .ok (.iconst (-1), 1) := by decide +kernel
theorem dX7_crash_186 : decode cX7_crash 186 = .ok (.iastore, 1) := by decide +kernel
theorem dX7_crash_187 : decode cX7_crash 187 = .ok (.iinc 2 1, 3) := by decide +kernel
theorem dX7_crash_190 : decode cX7_crash 190 = .ok (.goto (-15), 3) := by decide +kernel
theorem dX7_crash_193 : decode cX7_crash 193 = .ok (.aload_n 0, 1) := by decide +kernel
theorem dX7_crash_194 : decode cX7_crash 194 = .ok (.getfield 93, 3) := by decide +kernel
theorem dX7_crash_197 : decode cX7_crash 197 = .ok (.ireturn, 1) := by decide +kernel
theorem dX7_read_0 : decode cX7_read 0 = .ok (.iconst 0, 1) := by decide +kernel
theorem dX7_read_1 : decode cX7_read 1 = .ok (.istore_n 3, 1) := by decide +kernel
theorem dX7_read_2 : decode cX7_read 2 = .ok (.ldc 116, 2) := by decide +kernel
theorem dX7_read_4 : decode cX7_read 4 = .ok (.istore 4, 2) := by decide +kernel
theorem dX7_read_6 : decode cX7_read 6 = .ok (.iconst 0, 1) := by decide +kernel
theorem dX7_read_7 : decode cX7_read 7 = .ok (.istore 5, 2) := by decide +kernel
theorem dX7_read_9 : decode cX7_read 9 = .ok (.iload 5, 2) := by decide +kernel
theorem dX7_read_11 : decode cX7_read 11 = .ok (.aload_n 0, 1) := by decide +kernel
theorem dX7_read_12 : decode cX7_read 12 = .ok (.getfield 93, 3) := by decide +kernel
theorem dX7_read_15 : decode cX7_read 15 = .ok (.if_icmp .ge 59, 3) := by decide +kernel
theorem dX7_read_18 : decode cX7_read 18 = .ok (.aload_n 0, 1) := by decide +kernel
theorem dX7_read_19 : decode cX7_read 19 = .ok (.getfield 7, 3) := by decide +kernel
theorem dX7_read_22 : decode cX7_read 22 = .ok (.iload 5, 2) := by decide +kernel
theorem dX7_read_24 : decode cX7_read 24 = .ok (.iaload, 1) := by decide +kernel
theorem dX7_read_25 : decode cX7_read 25 = .ok (.iload_n 1, 1) := by decide +kernel
theorem dX7_read_26 : decode cX7_read 26 = .ok (.if_icmp .ne 42, 3) := by decide +kernel
theorem dX7_read_29 : decode cX7_read 29 = .ok (.aload_n 0, 1) := by decide +kernel
theorem dX7_read_30 : decode cX7_read 30 = .ok (.getfield 13, 3) := by decide +kernel
theorem dX7_read_33 : decode cX7_read 33 = .ok (.iload 5, 2) := by decide +kernel
theorem dX7_read_35 : decode cX7_read 35 = .ok (.iaload, 1) := by decide +kernel
theorem dX7_read_36 : decode cX7_read 36 = .ok (.iload_n 2, 1) := by decide +kernel
theorem dX7_read_37 : decode cX7_read 37 = .ok (.if_icmp .gt 31, 3) := by decide +kernel
theorem dX7_read_40 : decode cX7_read 40 = .ok (.aload_n 0, 1) := by decide +kernel
theorem dX7_read_41 : decode cX7_read 41 = .ok (.getfield 13, 3) := by decide +kernel
theorem dX7_read_44 : decode cX7_read 44 = .ok (.iload 5, 2) := by decide +kernel
theorem dX7_read_46 : decode cX7_read 46 = .ok (.iaload, 1) := by decide +kernel
theorem dX7_read_47 : decode cX7_read 47 = .ok (.iload_n 3, 1) := by decide +kernel
theorem dX7_read_48 : decode cX7_read 48 = .ok (.if_icmp .le 20, 3) := by decide +kernel
theorem dX7_read_51 : decode cX7_read 51 = .ok (.aload_n 0, 1) := by decide +kernel
theorem dX7_read_52 : decode cX7_read 52 = .ok (.getfield 13, 3) := by decide +kernel
theorem dX7_read_55 : decode cX7_read 55 = .ok (.iload 5, 2) := by decide +kernel
theorem dX7_read_57 : decode cX7_read 57 = .ok (.iaload, 1) := by decide +kernel
theorem dX7_read_58 : decode cX7_read 58 = .ok (.istore_n 3, 1) := by decide +kernel
theorem dX7_read_59 : decode cX7_read 59 = .ok (.aload_n 0, 1) := by decide +kernel
theorem dX7_read_60 : decode cX7_read 60 = .ok (.getfield 16, 3) := by decide +kernel
theorem dX7_read_63 : decode cX7_read 63 = .ok (.iload 5, 2) := by decide +kernel
theorem dX7_read_65 : decode cX7_read 65 = .ok (.iaload, 1) := by decide +kernel
theorem dX7_read_66 : decode cX7_read 66 = .ok (.istore 4, 2) := by decide +kernel
theorem dX7_read_68 : decode cX7_read 68 = .ok (.iinc 5 1, 3) := by decide +kernel
theorem dX7_read_71 : decode cX7_read 71 = .ok (.goto (-62), 3) := by decide +kernel
theorem dX7_read_74 : decode cX7_read 74 = .ok (.iconst 0, 1) := by decide +kernel
theorem dX7_read_75 : decode cX7_read 75 = .ok (.istore 5, 2) := by decide +kernel
theorem dX7_read_77 : decode cX7_read 77 = .ok (.iload 5, 2) := by decide +kernel
theorem dX7_read_79 : decode cX7_read 79 = .ok (.sipush 330, 3) := by decide +kernel
theorem dX7_read_82 : decode cX7_read 82 = .ok (.if_icmp .ge 108, 3) := by decide +kernel
theorem dX7_read_85 : decode cX7_read 85 = .ok (.bipush 30, 2) := by decide +kernel
theorem dX7_read_87 : decode cX7_read 87 = .ok (.iload 5, 2) := by decide +kernel
theorem dX7_read_89 : decode cX7_read 89 = .ok (.imul, 1) := by decide +kernel
theorem dX7_read_90 : decode cX7_read 90 = .ok (.istore 6, 2) := by decide +kernel
theorem dX7_read_92 : decode cX7_read 92 = .ok (.aload_n 0, 1) := by decide +kernel
theorem dX7_read_93 : decode cX7_read 93 = .ok (.getfield 22, 3) := by decide +kernel
theorem dX7_read_96 : decode cX7_read 96 = .ok (.iload 5, 2) := by decide +kernel
theorem dX7_read_98 : decode cX7_read 98 = .ok (.iaload, 1) := by decide +kernel
theorem dX7_read_99 : decode cX7_read 99 = .ok (.i2l, 1) := by decide +kernel
theorem dX7_read_100 : decode cX7_read 100 = .ok (.lconst 0, 1) := by decide +kernel
theorem dX7_read_101 : decode cX7_read 101 = .ok (.ldc2_w 124, 3) := by decide +kernel
theorem dX7_read_104 : decode cX7_read 104 = .ok (.invokestatic 103, 3) := by decide +kernel
theorem dX7_read_107 : decode cX7_read 107 = .ok (.ifCond .eq 77, 3) := by decide +kernel
theorem dX7_read_110 : decode cX7_read 110 = .ok (.iload 6, 2) := by decide +kernel
theorem dX7_read_112 : decode cX7_read 112 = .ok (.bipush 30, 2) := by decide +kernel
theorem dX7_read_114 : decode cX7_read 114 = .ok (.iload 5, 2) := by decide +kernel
theorem dX7_read_116 : decode cX7_read 116 = .ok (.imul, 1) := by decide +kernel
theorem dX7_read_117 : decode cX7_read 117 = .ok (.aload_n 0, 1) := by decide +kernel
theorem dX7_read_118 : decode cX7_read 118 = .ok (.getfield 34, 3) := by decide +kernel
theorem dX7_read_121 : decode cX7_read 121 = .ok (.iload 5, 2) := by decide +kernel
theorem dX7_read_123 : decode cX7_read 123 = .ok (.iaload, 1) := by decide +kernel
theorem dX7_read_124 : decode cX7_read 124 = .ok (.iadd, 1) := by decide +kernel
theorem dX7_read_125 : decode cX7_read 125 = .ok (.if_icmp .ge 59, 3) := by decide +kernel
theorem dX7_read_128 : decode cX7_read 128 = .ok (.aload_n 0, 1) := by decide +kernel
theorem dX7_read_129 : decode cX7_read 129 = .ok (.getfield 37, 3) := by decide +kernel
theorem dX7_read_132 : decode cX7_read 132 = .ok (.iload 6, 2) := by decide +kernel
theorem dX7_read_134 : decode cX7_read 134 = .ok (.iaload, 1) := by decide +kernel
theorem dX7_read_135 : decode cX7_read 135 = .ok (.iload_n 1, 1) := by decide +kernel
theorem dX7_read_136 : decode cX7_read 136 = .ok (.if_icmp .ne 42, 3) := by decide +kernel
theorem dX7_read_139 : decode cX7_read 139 = .ok (.aload_n 0, 1) := by decide +kernel
