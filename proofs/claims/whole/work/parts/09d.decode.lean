theorem dX7_read_140 : decode cX7_read 140 = .ok (.getfield 40, 3) := by decide +kernel
theorem dX7_read_143 : decode cX7_read 143 = .ok (.iload 6, 2) := by decide +kernel
theorem dX7_read_145 : decode cX7_read 145 = .ok (.iaload, 1) := by decide +kernel
theorem dX7_read_146 : decode cX7_read 146 = .ok (.iload_n 2, 1) := by decide +kernel
theorem dX7_read_147 : decode cX7_read 147 = .ok (.if_icmp .gt 31, 3) := by decide +kernel
theorem dX7_read_150 : decode cX7_read 150 = .ok (.aload_n 0, 1) := by decide +kernel
theorem dX7_read_151 : decode cX7_read 151 = .ok (.getfield 40, 3) := by decide +kernel
theorem dX7_read_154 : decode cX7_read 154 = .ok (.iload 6, 2) := by decide +kernel
theorem dX7_read_156 : decode cX7_read 156 = .ok (.iaload, 1) := by decide +kernel
theorem dX7_read_157 : decode cX7_read 157 = .ok (.iload_n 3, 1) := by decide +kernel
theorem dX7_read_158 : decode cX7_read 158 = .ok (.if_icmp .le 20, 3) := by decide +kernel
theorem dX7_read_161 : decode cX7_read 161 = .ok (.aload_n 0, 1) := by decide +kernel
theorem dX7_read_162 : decode cX7_read 162 = .ok (.getfield 40, 3) := by decide +kernel
theorem dX7_read_165 : decode cX7_read 165 = .ok (.iload 6, 2) := by decide +kernel
theorem dX7_read_167 : decode cX7_read 167 = .ok (.iaload, 1) := by decide +kernel
theorem dX7_read_168 : decode cX7_read 168 = .ok (.istore_n 3, 1) := by decide +kernel
theorem dX7_read_169 : decode cX7_read 169 = .ok (.aload_n 0, 1) := by decide +kernel
theorem dX7_read_170 : decode cX7_read 170 = .ok (.getfield 43, 3) := by decide +kernel
theorem dX7_read_173 : decode cX7_read 173 = .ok (.iload 6, 2) := by decide +kernel
theorem dX7_read_175 : decode cX7_read 175 = .ok (.iaload, 1) := by decide +kernel
theorem dX7_read_176 : decode cX7_read 176 = .ok (.istore 4, 2) := by decide +kernel
theorem dX7_read_178 : decode cX7_read 178 = .ok (.iinc 6 1, 3) := by decide +kernel
theorem dX7_read_181 : decode cX7_read 181 = .ok (.goto (-89), 3) := by decide +kernel
theorem dX7_read_184 : decode cX7_read 184 = .ok (.iinc 5 1, 3) := by decide +kernel
theorem dX7_read_187 : decode cX7_read 187 = .ok (.goto (-110), 3) := by decide +kernel
theorem dX7_read_190 : decode cX7_read 190 = .ok (.iload 4, 2) := by decide +kernel
theorem dX7_read_192 : decode cX7_read 192 = .ok (.ireturn, 1) := by decide +kernel
theorem dX7_noView_0 : decode cX7_noView 0 = .ok (.iload_n 1, 1) := by decide +kernel
theorem dX7_noView_1 : decode cX7_noView 1 = .ok (.i2l, 1) := by decide +kernel
theorem dX7_noView_2 : decode cX7_noView 2 = .ok (.lconst 0, 1) := by decide +kernel
theorem dX7_noView_3 : decode cX7_noView 3 = .ok (.ldc2_w 126, 3) := by decide +kernel
theorem dX7_noView_6 : decode cX7_noView 6 = .ok (.invokestatic 103, 3) := by decide +kernel
theorem dX7_noView_9 : decode cX7_noView 9 = .ok (.ifCond .eq 12, 3) := by decide +kernel
theorem dX7_noView_12 : decode cX7_noView 12 = .ok (.aload_n 0, 1) := by decide +kernel
theorem dX7_noView_13 : decode cX7_noView 13 = .ok (.getfield 19, 3) := by decide +kernel
theorem dX7_noView_16 : decode cX7_noView 16 = .ok (.iload_n 1, 1) := by decide +kernel
theorem dX7_noView_17 : decode cX7_noView 17 = .ok (.iaload, 1) := by decide +kernel
theorem dX7_noView_18 : decode cX7_noView 18 = .ok (.ifCond .ge 7, 3) := by decide +kernel
theorem dX7_noView_21 : decode cX7_noView 21 = .ok (.iconst 1, 1) := by decide +kernel
theorem dX7_noView_22 : decode cX7_noView 22 = .ok (.goto 4, 3) := by decide +kernel
theorem dX7_noView_25 : decode cX7_noView 25 = .ok (.iconst 0, 1) := by decide +kernel
theorem dX7_noView_26 : decode cX7_noView 26 = .ok (.ireturn, 1) := by decide +kernel
theorem dX7_get_0 : decode cX7_get 0 = .ok (.aload_n 0, 1) := by decide +kernel
theorem dX7_get_1 : decode cX7_get 1 = .ok (.iconst 0, 1) := by decide +kernel
theorem dX7_get_2 : decode cX7_get 2 = .ok (.putfield 89, 3) := by decide +kernel
theorem dX7_get_5 : decode cX7_get 5 = .ok (.iload_n 1, 1) := by decide +kernel
theorem dX7_get_6 : decode cX7_get 6 = .ok (.i2l, 1) := by decide +kernel
theorem dX7_get_7 : decode cX7_get 7 = .ok (.lconst 0, 1) := by decide +kernel
theorem dX7_get_8 : decode cX7_get 8 = .ok (.ldc2_w 101, 3) := by decide +kernel
theorem dX7_get_11 : decode cX7_get 11 = .ok (.invokestatic 103, 3) := by decide +kernel
theorem dX7_get_14 : decode cX7_get 14 = .ok (.ifCond .eq 13, 3) := by decide +kernel
theorem dX7_get_17 : decode cX7_get 17 = .ok (.aload_n 0, 1) := by decide +kernel
theorem dX7_get_18 : decode cX7_get 18 = .ok (.iload_n 1, 1) := by decide +kernel
theorem dX7_get_19 : decode cX7_get 19 = .ok (.ldc 99, 2) := by decide +kernel
theorem dX7_get_21 : decode cX7_get 21 = .ok (.invokevirtual 128, 3) := by decide +kernel
theorem dX7_get_24 : decode cX7_get 24 = .ok (.goto 5, 3) := by decide +kernel
theorem dX7_get_27 : decode cX7_get 27 = .ok (.ldc 111, 2) := by decide +kernel
theorem dX7_get_29 : decode cX7_get 29 = .ok (.ireturn, 1) := by decide +kernel
theorem dX7_view_0 : decode cX7_view 0 = .ok (.aload_n 0, 1) := by decide +kernel
theorem dX7_view_1 : decode cX7_view 1 = .ok (.iconst 0, 1) := by decide +kernel
theorem dX7_view_2 : decode cX7_view 2 = .ok (.putfield 89, 3) := by decide +kernel
theorem dX7_view_5 : decode cX7_view 5 = .ok (.aload_n 0, 1) := by decide +kernel
theorem dX7_view_6 : decode cX7_view 6 = .ok (.iload_n 1, 1) := by decide +kernel
theorem dX7_view_7 : decode cX7_view 7 = .ok (.invokevirtual 131, 3) := by decide +kernel
theorem dX7_view_10 : decode cX7_view 10 = .ok (.ifCond .eq 8, 3) := by decide +kernel
theorem dX7_view_13 : decode cX7_view 13 = .ok (.ldc 135, 2) := by decide +kernel
theorem dX7_view_15 : decode cX7_view 15 = .ok (.goto 31, 3) := by decide +kernel
theorem dX7_view_18 : decode cX7_view 18 = .ok (.iload_n 2, 1) := by decide +kernel
theorem dX7_view_19 : decode cX7_view 19 = .ok (.i2l, 1) := by decide +kernel
theorem dX7_view_20 : decode cX7_view 20 = .ok (.lconst 0, 1) := by decide +kernel
theorem dX7_view_21 : decode cX7_view 21 = .ok (.ldc2_w 101, 3) := by decide +kernel
theorem dX7_view_24 : decode cX7_view 24 = .ok (.invokestatic 103, 3) := by decide +kernel
theorem dX7_view_27 : decode cX7_view 27 = .ok (.ifCond .eq 17, 3) := by decide +kernel
theorem dX7_view_30 : decode cX7_view 30 = .ok (.aload_n 0, 1) := by decide +kernel
theorem dX7_view_31 : decode cX7_view 31 = .ok (.iload_n 2, 1) := by decide +kernel
theorem dX7_view_32 : decode cX7_view 32 = .ok (.aload_n 0, 1) := by decide +kernel
theorem dX7_view_33 : decode cX7_view 33 = .ok (.getfield 19, 3) := by decide +kernel
theorem dX7_view_36 : decode cX7_view 36 = .ok (.iload_n 1, 1) := by decide +kernel
theorem dX7_view_37 : decode cX7_view 37 = .ok (.iaload, 1) := by decide +kernel
theorem dX7_view_38 : decode cX7_view 38 = .ok (.invokevirtual 128, 3) := by decide +kernel
theorem dX7_view_41 : decode cX7_view 41 = .ok (.goto 5, 3) := by decide +kernel
theorem dX7_view_44 : decode cX7_view 44 = .ok (.ldc 111, 2) := by decide +kernel
theorem dX7_view_46 : decode cX7_view 46 = .ok (.ireturn, 1) := by decide +kernel
theorem dX7_next_0 : decode cX7_next 0 = .ok (.aload_n 0, 1) := by decide +kernel
theorem dX7_next_1 : decode cX7_next 1 = .ok (.iconst 0, 1) := by decide +kernel
theorem dX7_next_2 : decode cX7_next 2 = .ok (.putfield 89, 3) := by decide +kernel
theorem dX7_next_5 : decode cX7_next 5 = .ok (.iload_n 1, 1) := by decide +kernel
theorem dX7_next_6 : decode cX7_next 6 = .ok (.iconst (-1), 1) := by decide +kernel
theorem dX7_next_7 : decode cX7_next 7 = .ok (.if_icmp .eq 14, 3) := by decide +kernel
theorem dX7_next_10 : decode cX7_next 10 = .ok (.aload_n 0, 1) := by decide +kernel
theorem dX7_next_11 : decode cX7_next 11 = .ok (.iload_n 1, 1) := by decide +kernel
theorem dX7_next_12 : decode cX7_next 12 = .ok (.invokevirtual 131, 3) := by decide +kernel
theorem dX7_next_15 : decode cX7_next 15 = .ok (.ifCond .eq 6, 3) := by decide +kernel
theorem dX7_next_18 : decode cX7_next 18 = .ok (.ldc 135, 2) := by decide +kernel
theorem dX7_next_20 : decode cX7_next 20 = .ok (.ireturn, 1) := by decide +kernel
theorem dX7_next_21 : decode cX7_next 21 = .ok (.iload_n 2, 1) := by decide +kernel
theorem dX7_next_22 : decode cX7_next 22 = .ok (.i2l, 1) := by decide +kernel
theorem dX7_next_23 : decode cX7_next 23 = .ok (.lconst 0, 1) := by decide +kernel
theorem dX7_next_24 : decode cX7_next 24 = .ok (.ldc2_w 101, 3) := by decide +kernel
theorem dX7_next_27 : decode cX7_next 27 = .ok (.invokestatic 103, 3) := by decide +kernel
theorem dX7_next_30 : decode cX7_next 30 = .ok (.ifCond .ne 6, 3) := by decide +kernel
theorem dX7_next_33 : decode cX7_next 33 = .ok (.ldc 111, 2) := by decide +kernel
theorem dX7_next_35 : decode cX7_next 35 = .ok (.ireturn, 1) := by decide +kernel
theorem dX7_next_36 : decode cX7_next 36 = .ok (.iload_n 1, 1) := by decide +kernel
theorem dX7_next_37 : decode cX7_next 37 = .ok (.iconst (-1), 1) := by decide +kernel
theorem dX7_next_38 : decode cX7_next 38 = .ok (.if_icmp .ne 8, 3) := by decide +kernel
theorem dX7_next_41 : decode cX7_next 41 = .ok (.ldc 99, 2) := by decide +kernel
theorem dX7_next_43 : decode cX7_next 43 = .ok (.goto 9, 3) := by decide +kernel
theorem dX7_next_46 : decode cX7_next 46 = .ok (.aload_n 0, 1) := by decide +kernel
theorem dX7_next_47 : decode cX7_next 47 = .ok (.getfield 19, 3) := by decide +kernel
theorem dX7_next_50 : decode cX7_next 50 = .ok (.iload_n 1, 1) := by decide +kernel
theorem dX7_next_51 : decode cX7_next 51 = .ok (.iaload, 1) := by decide +kernel
theorem dX7_next_52 : decode cX7_next 52 = .ok (.istore_n 3, 1) := by decide +kernel
theorem dX7_next_53 : decode cX7_next 53 = .ok (.iload_n 2, 1) := by decide +kernel
theorem dX7_next_54 : decode cX7_next 54 = .ok (.istore 4, 2) := by decide +kernel
theorem dX7_next_56 : decode cX7_next 56 = .ok (.iload 4, 2) := by decide +kernel
theorem dX7_next_58 : decode cX7_next 58 = .ok (.sipush 1000, 3) := by decide +kernel
theorem dX7_next_61 : decode cX7_next 61 = .ok (.if_icmp .ge 24, 3) := by decide +kernel
theorem dX7_next_64 : decode cX7_next 64 = .ok (.aload_n 0, 1) := by decide +kernel
theorem dX7_next_65 : decode cX7_next 65 = .ok (.iload 4, 2) := by decide +kernel
theorem dX7_next_67 : decode cX7_next 67 = .ok (.iload_n 3, 1) := by decide +kernel
theorem dX7_next_68 : decode cX7_next 68 = .ok (.invokevirtual 128, 3) := by decide +kernel
theorem dX7_next_71 : decode cX7_next 71 = .ok (.ldc 116, 2) := by decide +kernel
theorem dX7_next_73 : decode cX7_next 73 = .ok (.if_icmp .eq 6, 3) := by decide +kernel
theorem dX7_next_76 : decode cX7_next 76 = .ok (.iload 4, 2) := by decide +kernel
theorem dX7_next_78 : decode cX7_next 78 = .ok (.ireturn, 1) := by decide +kernel
theorem dX7_next_79 : decode cX7_next 79 = .ok (.iinc 4 1, 3) := by decide +kernel
theorem dX7_next_82 : decode cX7_next 82 = .ok (.goto (-26), 3) := by decide +kernel
theorem dX7_next_85 : decode cX7_next 85 = .ok (.ldc 116, 2) := by decide +kernel
theorem dX7_next_87 : decode cX7_next 87 = .ok (.ireturn, 1) := by decide +kernel
theorem dX7_hold_0 : decode cX7_hold 0 = .ok (.aload_n 0, 1) := by decide +kernel
theorem dX7_hold_1 : decode cX7_hold 1 = .ok (.iconst 0, 1) := by decide +kernel
theorem dX7_hold_2 : decode cX7_hold 2 = .ok (.putfield 89, 3) := by decide +kernel
theorem dX7_hold_5 : decode cX7_hold 5 = .ok (.iload_n 1, 1) := by decide +kernel
theorem dX7_hold_6 : decode cX7_hold 6 = .ok (.i2l, 1) := by decide +kernel
theorem dX7_hold_7 : decode cX7_hold 7 = .ok (.lconst 0, 1) := by decide +kernel
theorem dX7_hold_8 : decode cX7_hold 8 = .ok (.ldc2_w 126, 3) := by decide +kernel
theorem dX7_hold_11 : decode cX7_hold 11 = .ok (.invokestatic 103, 3) := by decide +kernel
theorem dX7_hold_14 : decode cX7_hold 14 = .ok (.ifCond .ne 6, 3) := by decide +kernel
theorem dX7_hold_17 : decode cX7_hold 17 = .ok (.ldc 135, 2) := by decide +kernel
theorem dX7_hold_19 : decode cX7_hold 19 = .ok (.ireturn, 1) := by decide +kernel
theorem dX7_hold_20 : decode cX7_hold 20 = .ok (.aload_n 0, 1) := by decide +kernel
theorem dX7_hold_21 : decode cX7_hold 21 = .ok (.getfield 19, 3) := by decide +kernel
theorem dX7_hold_24 : decode cX7_hold 24 = .ok (.iload_n 1, 1) := by decide +kernel
theorem dX7_hold_25 : decode cX7_hold 25 = .ok (.iaload, 1) := by decide +kernel
theorem dX7_hold_26 : decode cX7_hold 26 = .ok (.ifCond .lt 6, 3) := by decide +kernel
theorem dX7_hold_29 : decode cX7_hold 29 = .ok (.ldc 136, 2) := by decide +kernel
theorem dX7_hold_31 : decode cX7_hold 31 = .ok (.ireturn, 1) := by decide +kernel
theorem dX7_hold_32 : decode cX7_hold 32 = .ok (.aload_n 0, 1) := by decide +kernel
theorem dX7_hold_33 : decode cX7_hold 33 = .ok (.getfield 19, 3) := by decide +kernel
theorem dX7_hold_36 : decode cX7_hold 36 = .ok (.iload_n 1, 1) := by decide +kernel
theorem dX7_hold_37 : decode cX7_hold 37 = .ok (.aload_n 0, 1) := by decide +kernel
theorem dX7_hold_38 : decode cX7_hold 38 = .ok (.getfield 96, 3) := by decide +kernel
theorem dX7_hold_41 : decode cX7_hold 41 = .ok (.iastore, 1) := by decide +kernel
theorem dX7_hold_42 : decode cX7_hold 42 = .ok (.aload_n 0, 1) := by decide +kernel
theorem dX7_hold_43 : decode cX7_hold 43 = .ok (.getfield 96, 3) := by decide +kernel
theorem dX7_hold_46 : decode cX7_hold 46 = .ok (.ireturn, 1) := by decide +kernel
theorem dX7_release_0 : decode cX7_release 0 = .ok (.aload_n 0, 1) := by decide +kernel
theorem dX7_release_1 : decode cX7_release 1 = .ok (.iconst 0, 1) := by decide +kernel
theorem dX7_release_2 : decode cX7_release 2 = .ok (.putfield 89, 3) := by decide +kernel
theorem dX7_release_5 : decode cX7_release 5 = .ok (.aload_n 0, 1) := by decide +kernel
theorem dX7_release_6 : decode cX7_release 6 = .ok (.iload_n 1, 1) := by decide +kernel
theorem dX7_release_7 : decode cX7_release 7 = .ok (.invokevirtual 131, 3) := by decide +kernel
theorem dX7_release_10 : decode cX7_release 10 = .ok (.ifCond .eq 6, 3) := by decide +kernel
theorem dX7_release_13 : decode cX7_release 13 = .ok (.ldc 135, 2) := by decide +kernel
theorem dX7_release_15 : decode cX7_release 15 = .ok (.ireturn, 1) := by decide +kernel
theorem dX7_release_16 : decode cX7_release 16 = .ok (.aload_n 0, 1) := by decide +kernel
theorem dX7_release_17 : decode cX7_release 17 = .ok (.getfield 19, 3) := by decide +kernel
theorem dX7_release_20 : decode cX7_release 20 = .ok (.iload_n 1, 1) := by decide +kernel
theorem dX7_release_21 : decode cX7_release 21 = .ok (.iaload, 1) := by decide +kernel
theorem dX7_release_22 : decode cX7_release 22 = .ok (.istore_n 2, 1) := by decide +kernel
theorem dX7_release_23 : decode cX7_release 23 = .ok (.aload_n 0, 1) := by decide +kernel
theorem dX7_release_24 : decode cX7_release 24 = .ok (.getfield 19, 3) := by decide +kernel
theorem dX7_release_27 : decode cX7_release 27 = .ok (.iload_n 1, 1) := by decide +kernel
theorem dX7_release_28 : decode cX7_release 28 = .ok (.iconst (-1), 1) := by decide +kernel
theorem dX7_release_29 : decode cX7_release 29 = .ok (.iastore, 1) := by decide +kernel
theorem dX7_release_30 : decode cX7_release 30 = .ok (.iload_n 2, 1) := by decide +kernel
theorem dX7_release_31 : decode cX7_release 31 = .ok (.ireturn, 1) := by decide +kernel
theorem dX7_listLevel_0 : decode cX7_listLevel 0 = .ok (.aload_n 0, 1) := by decide +kernel
theorem dX7_listLevel_1 : decode cX7_listLevel 1 = .ok (.iconst 0, 1) := by decide +kernel
theorem dX7_listLevel_2 : decode cX7_listLevel 2 = .ok (.putfield 137, 3) := by decide +kernel
theorem dX7_listLevel_5 : decode cX7_listLevel 5 = .ok (.iconst 0, 1) := by decide +kernel
theorem dX7_listLevel_6 : decode cX7_listLevel 6 = .ok (.istore_n 2, 1) := by decide +kernel
theorem dX7_listLevel_7 : decode cX7_listLevel 7 = .ok (.iload_n 2, 1) := by decide +kernel
theorem dX7_listLevel_8 : decode cX7_listLevel 8 = .ok (.sipush 330, 3) := by decide +kernel
theorem dX7_listLevel_11 : decode cX7_listLevel 11 = .ok (.if_icmp .ge 122, 3) := by decide +kernel
theorem dX7_listLevel_14 : decode cX7_listLevel 14 = .ok (.aload_n 0, 1) := by decide +kernel
theorem dX7_listLevel_15 : decode cX7_listLevel 15 = .ok (.getfield 22, 3) := by decide +kernel
theorem dX7_listLevel_18 : decode cX7_listLevel 18 = .ok (.iload_n 2, 1) := by decide +kernel
theorem dX7_listLevel_19 : decode cX7_listLevel 19 = .ok (.iaload, 1) := by decide +kernel
theorem dX7_listLevel_20 : decode cX7_listLevel 20 = .ok (.iload_n 1, 1) := by decide +kernel
theorem dX7_listLevel_21 : decode cX7_listLevel 21 = .ok (.if_icmp .ne 106, 3) := by decide +kernel
theorem dX7_listLevel_24 : decode cX7_listLevel 24 = .ok (.aload_n 0, 1) := by decide +kernel
theorem dX7_listLevel_25 : decode cX7_listLevel 25 = .ok (.getfield 137, 3) := by decide +kernel
theorem dX7_listLevel_28 : decode cX7_listLevel 28 = .ok (.istore_n 3, 1) := by decide +kernel
theorem dX7_listLevel_29 : decode cX7_listLevel 29 = .ok (.iload_n 3, 1) := by decide +kernel
theorem dX7_listLevel_30 : decode cX7_listLevel 30 = .ok (.ifCond .le 80, 3) := by decide +kernel
theorem dX7_listLevel_33 : decode cX7_listLevel 33 = .ok (.iload_n 1, 1) := by decide +kernel
theorem dX7_listLevel_34 : decode cX7_listLevel 34 = .ok (.ifCond .ne 28, 3) := by decide +kernel
theorem dX7_listLevel_37 : decode cX7_listLevel 37 = .ok (.aload_n 0, 1) := by decide +kernel
theorem dX7_listLevel_38 : decode cX7_listLevel 38 = .ok (.getfield 25, 3) := by decide +kernel
theorem dX7_listLevel_41 : decode cX7_listLevel 41 = .ok (.aload_n 0, 1) := by decide +kernel
theorem dX7_listLevel_42 : decode cX7_listLevel 42 = .ok (.getfield 49, 3) := by decide +kernel
theorem dX7_listLevel_45 : decode cX7_listLevel 45 = .ok (.iload_n 3, 1) := by decide +kernel
theorem dX7_listLevel_46 : decode cX7_listLevel 46 = .ok (.iconst 1, 1) := by decide +kernel
theorem dX7_listLevel_47 : decode cX7_listLevel 47 = .ok (.isub, 1) := by decide +kernel
theorem dX7_listLevel_48 : decode cX7_listLevel 48 = .ok (.iaload, 1) := by decide +kernel
theorem dX7_listLevel_49 : decode cX7_listLevel 49 = .ok (.iaload, 1) := by decide +kernel
theorem dX7_listLevel_50 : decode cX7_listLevel 50 = .ok (.aload_n 0, 1) := by decide +kernel
theorem dX7_listLevel_51 : decode cX7_listLevel 51 = .ok (.getfield 25, 3) := by decide +kernel
theorem dX7_listLevel_54 : decode cX7_listLevel 54 = .ok (.iload_n 2, 1) := by decide +kernel
theorem dX7_listLevel_55 : decode cX7_listLevel 55 = .ok (.iaload, 1) := by decide +kernel
theorem dX7_listLevel_56 : decode cX7_listLevel 56 = .ok (.if_icmp .le 54, 3) := by decide +kernel
theorem dX7_listLevel_59 : decode cX7_listLevel 59 = .ok (.goto 31, 3) := by decide +kernel
theorem dX7_listLevel_62 : decode cX7_listLevel 62 = .ok (.aload_n 0, 1) := by decide +kernel
theorem dX7_listLevel_63 : decode cX7_listLevel 63 = .ok (.getfield 37, 3) := by decide +kernel
theorem dX7_listLevel_66 : decode cX7_listLevel 66 = .ok (.bipush 30, 2) := by decide +kernel
theorem dX7_listLevel_68 : decode cX7_listLevel 68 = .ok (.aload_n 0, 1) := by decide +kernel
theorem dX7_listLevel_69 : decode cX7_listLevel 69 = .ok (.getfield 49, 3) := by decide +kernel
theorem dX7_listLevel_72 : decode cX7_listLevel 72 = .ok (.iload_n 3, 1) := by decide +kernel
theorem dX7_listLevel_73 : decode cX7_listLevel 73 = .ok (.iconst 1, 1) := by decide +kernel
theorem dX7_listLevel_74 : decode cX7_listLevel 74 = .ok (.isub, 1) := by decide +kernel
theorem dX7_listLevel_75 : decode cX7_listLevel 75 = .ok (.iaload, 1) := by decide +kernel
theorem dX7_listLevel_76 : decode cX7_listLevel 76 = .ok (.imul, 1) := by decide +kernel
theorem dX7_listLevel_77 : decode cX7_listLevel 77 = .ok (.iaload, 1) := by decide +kernel
theorem dX7_listLevel_78 : decode cX7_listLevel 78 = .ok (.aload_n 0, 1) := by decide +kernel
theorem dX7_listLevel_79 : decode cX7_listLevel 79 = .ok (.getfield 37, 3) := by decide +kernel
theorem dX7_listLevel_82 : decode cX7_listLevel 82 = .ok (.bipush 30, 2) := by decide +kernel
theorem dX7_listLevel_84 : decode cX7_listLevel 84 = .ok (.iload_n 2, 1) := by decide +kernel
theorem dX7_listLevel_85 : decode cX7_listLevel 85 = .ok (.imul, 1) := by decide +kernel
theorem dX7_listLevel_86 : decode cX7_listLevel 86 = .ok (.iaload, 1) := by decide +kernel
theorem dX7_listLevel_87 : decode cX7_listLevel 87 = .ok (.if_icmp .le 23, 3) := by decide +kernel
theorem dX7_listLevel_90 : decode cX7_listLevel 90 = .ok (.aload_n 0, 1) := by decide +kernel
theorem dX7_listLevel_91 : decode cX7_listLevel 91 = .ok (.getfield 49, 3) := by decide +kernel
theorem dX7_listLevel_94 : decode cX7_listLevel 94 = .ok (.iload_n 3, 1) := by decide +kernel
theorem dX7_listLevel_95 : decode cX7_listLevel 95 = .ok (.aload_n 0, 1) := by decide +kernel
theorem dX7_listLevel_96 : decode cX7_listLevel 96 = .ok (.getfield 49, 3) := by decide +kernel
theorem dX7_listLevel_99 : decode cX7_listLevel 99 = .ok (.iload_n 3, 1) := by decide +kernel
theorem dX7_listLevel_100 : decode cX7_listLevel 100 = .ok (.iconst 1, 1) := by decide +kernel
theorem dX7_listLevel_101 : decode cX7_listLevel 101 = .ok (.isub, 1) := by decide +kernel
theorem dX7_listLevel_102 : decode cX7_listLevel 102 = .ok (.iaload, 1) := by decide +kernel
theorem dX7_listLevel_103 : decode cX7_listLevel 103 = .ok (.iastore, 1) := by decide +kernel
theorem dX7_listLevel_104 : decode cX7_listLevel 104 = .ok (.iinc 3 (-1), 3) := by decide +kernel
theorem dX7_listLevel_107 : decode cX7_listLevel 107 = .ok (.goto (-78), 3) := by decide +kernel
theorem dX7_listLevel_110 : decode cX7_listLevel 110 = .ok (.aload_n 0, 1) := by decide +kernel
theorem dX7_listLevel_111 : decode cX7_listLevel 111 = .ok (.getfield 49, 3) := by decide +kernel
theorem dX7_listLevel_114 : decode cX7_listLevel 114 = .ok (.iload_n 3, 1) := by decide +kernel
theorem dX7_listLevel_115 : decode cX7_listLevel 115 = .ok (.iload_n 2, 1) := by decide +kernel
theorem dX7_listLevel_116 : decode cX7_listLevel 116 = .ok (.iastore, 1) := by decide +kernel
theorem dX7_listLevel_117 : decode cX7_listLevel 117 = .ok (.aload_n 0, 1) := by decide +kernel
theorem dX7_listLevel_118 : decode cX7_listLevel 118 = .ok (.dup, 1) := by decide +kernel
theorem dX7_listLevel_119 : decode cX7_listLevel 119 = .ok (.getfield 137, 3) := by decide +kernel
theorem dX7_listLevel_122 : decode cX7_listLevel 122 = .ok (.iconst 1, 1) := by decide +kernel
theorem dX7_listLevel_123 : decode cX7_listLevel 123 = .ok (.iadd, 1) := by decide +kernel
theorem dX7_listLevel_124 : decode cX7_listLevel 124 = .ok (.putfield 137, 3) := by decide +kernel
theorem dX7_listLevel_127 : decode cX7_listLevel 127 = .ok (.iinc 2 1, 3) := by decide +kernel
theorem dX7_listLevel_130 : decode cX7_listLevel 130 = .ok (.goto (-123), 3) := by decide +kernel
theorem dX7_listLevel_133 : decode cX7_listLevel 133 = .ok (.return_, 1) := by decide +kernel
theorem dX7_source_0 : decode cX7_source 0 = .ok (.aload_n 0, 1) := by decide +kernel
theorem dX7_source_1 : decode cX7_source 1 = .ok (.getfield 140, 3) := by decide +kernel
theorem dX7_source_4 : decode cX7_source 4 = .ok (.istore 4, 2) := by decide +kernel
theorem dX7_source_6 : decode cX7_source 6 = .ok (.iload 4, 2) := by decide +kernel
theorem dX7_source_8 : decode cX7_source 8 = .ok (.ifCond .le 96, 3) := by decide +kernel
theorem dX7_source_11 : decode cX7_source 11 = .ok (.aload_n 0, 1) := by decide +kernel
theorem dX7_source_12 : decode cX7_source 12 = .ok (.getfield 52, 3) := by decide +kernel
theorem dX7_source_15 : decode cX7_source 15 = .ok (.iload 4, 2) := by decide +kernel
theorem dX7_source_17 : decode cX7_source 17 = .ok (.iconst 1, 1) := by decide +kernel
theorem dX7_source_18 : decode cX7_source 18 = .ok (.isub, 1) := by decide +kernel
theorem dX7_source_19 : decode cX7_source 19 = .ok (.iaload, 1) := by decide +kernel
theorem dX7_source_20 : decode cX7_source 20 = .ok (.iload_n 1, 1) := by decide +kernel
theorem dX7_source_21 : decode cX7_source 21 = .ok (.if_icmp .gt 29, 3) := by decide +kernel
theorem dX7_source_24 : decode cX7_source 24 = .ok (.aload_n 0, 1) := by decide +kernel
theorem dX7_source_25 : decode cX7_source 25 = .ok (.getfield 52, 3) := by decide +kernel
theorem dX7_source_28 : decode cX7_source 28 = .ok (.iload 4, 2) := by decide +kernel
theorem dX7_source_30 : decode cX7_source 30 = .ok (.iconst 1, 1) := by decide +kernel
theorem dX7_source_31 : decode cX7_source 31 = .ok (.isub, 1) := by decide +kernel
theorem dX7_source_32 : decode cX7_source 32 = .ok (.iaload, 1) := by decide +kernel
theorem dX7_source_33 : decode cX7_source 33 = .ok (.iload_n 1, 1) := by decide +kernel
theorem dX7_source_34 : decode cX7_source 34 = .ok (.if_icmp .ne 70, 3) := by decide +kernel
theorem dX7_source_37 : decode cX7_source 37 = .ok (.aload_n 0, 1) := by decide +kernel
theorem dX7_source_38 : decode cX7_source 38 = .ok (.getfield 55, 3) := by decide +kernel
theorem dX7_source_41 : decode cX7_source 41 = .ok (.iload 4, 2) := by decide +kernel
theorem dX7_source_43 : decode cX7_source 43 = .ok (.iconst 1, 1) := by decide +kernel
theorem dX7_source_44 : decode cX7_source 44 = .ok (.isub, 1) := by decide +kernel
theorem dX7_source_45 : decode cX7_source 45 = .ok (.iaload, 1) := by decide +kernel
theorem dX7_source_46 : decode cX7_source 46 = .ok (.iload_n 2, 1) := by decide +kernel
theorem dX7_source_47 : decode cX7_source 47 = .ok (.if_icmp .ge 57, 3) := by decide +kernel
theorem dX7_source_50 : decode cX7_source 50 = .ok (.aload_n 0, 1) := by decide +kernel
theorem dX7_source_51 : decode cX7_source 51 = .ok (.getfield 52, 3) := by decide +kernel
theorem dX7_source_54 : decode cX7_source 54 = .ok (.iload 4, 2) := by decide +kernel
theorem dX7_source_56 : decode cX7_source 56 = .ok (.aload_n 0, 1) := by decide +kernel
theorem dX7_source_57 : decode cX7_source 57 = .ok (.getfield 52, 3) := by decide +kernel
theorem dX7_source_60 : decode cX7_source 60 = .ok (.iload 4, 2) := by decide +kernel
theorem dX7_source_62 : decode cX7_source 62 = .ok (.iconst 1, 1) := by decide +kernel
theorem dX7_source_63 : decode cX7_source 63 = .ok (.isub, 1) := by decide +kernel
theorem dX7_source_64 : decode cX7_source 64 = .ok (.iaload, 1) := by decide +kernel
theorem dX7_source_65 : decode cX7_source 65 = .ok (.iastore, 1) := by decide +kernel
theorem dX7_source_66 : decode cX7_source 66 = .ok (.aload_n 0, 1) := by decide +kernel
theorem dX7_source_67 : decode cX7_source 67 = .ok (.getfield 55, 3) := by decide +kernel
theorem dX7_source_70 : decode cX7_source 70 = .ok (.iload 4, 2) := by decide +kernel
theorem dX7_source_72 : decode cX7_source 72 = .ok (.aload_n 0, 1) := by decide +kernel
theorem dX7_source_73 : decode cX7_source 73 = .ok (.getfield 55, 3) := by decide +kernel
theorem dX7_source_76 : decode cX7_source 76 = .ok (.iload 4, 2) := by decide +kernel
theorem dX7_source_78 : decode cX7_source 78 = .ok (.iconst 1, 1) := by decide +kernel
theorem dX7_source_79 : decode cX7_source 79 = .ok (.isub, 1) := by decide +kernel
theorem dX7_source_80 : decode cX7_source 80 = .ok (.iaload, 1) := by decide +kernel
theorem dX7_source_81 : decode cX7_source 81 = .ok (.iastore, 1) := by decide +kernel
theorem dX7_source_82 : decode cX7_source 82 = .ok (.aload_n 0, 1) := by decide +kernel
theorem dX7_source_83 : decode cX7_source 83 = .ok (.getfield 58, 3) := by decide +kernel
theorem dX7_source_86 : decode cX7_source 86 = .ok (.iload 4, 2) := by decide +kernel
theorem dX7_source_88 : decode cX7_source 88 = .ok (.aload_n 0, 1) := by decide +kernel
theorem dX7_source_89 : decode cX7_source 89 = .ok (.getfield 58, 3) := by decide +kernel
theorem dX7_source_92 : decode cX7_source 92 = .ok (.iload 4, 2) := by decide +kernel
theorem dX7_source_94 : decode cX7_source 94 = .ok (.iconst 1, 1) := by decide +kernel
theorem dX7_source_95 : decode cX7_source 95 = .ok (.isub, 1) := by decide +kernel
theorem dX7_source_96 : decode cX7_source 96 = .ok (.iaload, 1) := by decide +kernel
theorem dX7_source_97 : decode cX7_source 97 = .ok (.iastore, 1) := by decide +kernel
theorem dX7_source_98 : decode cX7_source 98 = .ok (.iinc 4 (-1), 3) := by decide +kernel
theorem dX7_source_101 : decode cX7_source 101 = .ok (.goto (-95), 3) := by decide +kernel
theorem dX7_source_104 : decode cX7_source 104 = .ok (.aload_n 0, 1) := by decide +kernel
theorem dX7_source_105 : decode cX7_source 105 = .ok (.getfield 52, 3) := by decide +kernel
theorem dX7_source_108 : decode cX7_source 108 = .ok (.iload 4, 2) := by decide +kernel
theorem dX7_source_110 : decode cX7_source 110 = .ok (.iload_n 1, 1) := by decide +kernel
theorem dX7_source_111 : decode cX7_source 111 = .ok (.iastore, 1) := by decide +kernel
theorem dX7_source_112 : decode cX7_source 112 = .ok (.aload_n 0, 1) := by decide +kernel
theorem dX7_source_113 : decode cX7_source 113 = .ok (.getfield 55, 3) := by decide +kernel
theorem dX7_source_116 : decode cX7_source 116 = .ok (.iload 4, 2) := by decide +kernel
theorem dX7_source_118 : decode cX7_source 118 = .ok (.iload_n 2, 1) := by decide +kernel
theorem dX7_source_119 : decode cX7_source 119 = .ok (.iastore, 1) := by decide +kernel
theorem dX7_source_120 : decode cX7_source 120 = .ok (.aload_n 0, 1) := by decide +kernel
theorem dX7_source_121 : decode cX7_source 121 = .ok (.getfield 58, 3) := by decide +kernel
theorem dX7_source_124 : decode cX7_source 124 = .ok (.iload 4, 2) := by decide +kernel
theorem dX7_source_126 : decode cX7_source 126 = .ok (.iload_n 3, 1) := by decide +kernel
theorem dX7_source_127 : decode cX7_source 127 = .ok (.iastore, 1) := by decide +kernel
theorem dX7_source_128 : decode cX7_source 128 = .ok (.aload_n 0, 1) := by decide +kernel
theorem dX7_source_129 : decode cX7_source 129 = .ok (.dup, 1) := by decide +kernel
theorem dX7_source_130 : decode cX7_source 130 = .ok (.getfield 140, 3) := by decide +kernel
theorem dX7_source_133 : decode cX7_source 133 = .ok (.iconst 1, 1) := by decide +kernel
theorem dX7_source_134 : decode cX7_source 134 = .ok (.iadd, 1) := by decide +kernel
theorem dX7_source_135 : decode cX7_source 135 = .ok (.putfield 140, 3) := by decide +kernel
theorem dX7_source_138 : decode cX7_source 138 = .ok (.return_, 1) := by decide +kernel
theorem dX7_begin_0 : decode cX7_begin 0 = .ok (.aload_n 0, 1) := by decide +kernel
theorem dX7_begin_1 : decode cX7_begin 1 = .ok (.iconst 1, 1) := by decide +kernel
theorem dX7_begin_2 : decode cX7_begin 2 = .ok (.putfield 143, 3) := by decide +kernel
theorem dX7_begin_5 : decode cX7_begin 5 = .ok (.aload_n 0, 1) := by decide +kernel
theorem dX7_begin_6 : decode cX7_begin 6 = .ok (.iconst 0, 1) := by decide +kernel
theorem dX7_begin_7 : decode cX7_begin 7 = .ok (.putfield 147, 3) := by decide +kernel
theorem dX7_begin_10 : decode cX7_begin 10 = .ok (.aload_n 0, 1) := by decide +kernel
theorem dX7_begin_11 : decode cX7_begin 11 = .ok (.iload_n 1, 1) := by decide +kernel
theorem dX7_begin_12 : decode cX7_begin 12 = .ok (.putfield 150, 3) := by decide +kernel
theorem dX7_begin_15 : decode cX7_begin 15 = .ok (.aload_n 0, 1) := by decide +kernel
theorem dX7_begin_16 : decode cX7_begin 16 = .ok (.iconst 0, 1) := by decide +kernel
theorem dX7_begin_17 : decode cX7_begin 17 = .ok (.putfield 140, 3) := by decide +kernel
theorem dX7_begin_20 : decode cX7_begin 20 = .ok (.aload_n 0, 1) := by decide +kernel
theorem dX7_begin_21 : decode cX7_begin 21 = .ok (.iconst 0, 1) := by decide +kernel
theorem dX7_begin_22 : decode cX7_begin 22 = .ok (.putfield 153, 3) := by decide +kernel
theorem dX7_begin_25 : decode cX7_begin 25 = .ok (.aload_n 0, 1) := by decide +kernel
theorem dX7_begin_26 : decode cX7_begin 26 = .ok (.iconst 0, 1) := by decide +kernel
theorem dX7_begin_27 : decode cX7_begin 27 = .ok (.putfield 156, 3) := by decide +kernel
theorem dX7_begin_30 : decode cX7_begin 30 = .ok (.aload_n 0, 1) := by decide +kernel
theorem dX7_begin_31 : decode cX7_begin 31 = .ok (.iconst 0, 1) := by decide +kernel
theorem dX7_begin_32 : decode cX7_begin 32 = .ok (.putfield 159, 3) := by decide +kernel
theorem dX7_begin_35 : decode cX7_begin 35 = .ok (.iconst 0, 1) := by decide +kernel
theorem dX7_begin_36 : decode cX7_begin 36 = .ok (.istore_n 2, 1) := by decide +kernel
theorem dX7_begin_37 : decode cX7_begin 37 = .ok (.iload_n 2, 1) := by decide +kernel
theorem dX7_begin_38 : decode cX7_begin 38 = .ok (.sipush 330, 3) := by decide +kernel
theorem dX7_begin_41 : decode cX7_begin 41 = .ok (.if_icmp .ge 16, 3) := by decide +kernel
theorem dX7_begin_44 : decode cX7_begin 44 = .ok (.aload_n 0, 1) := by decide +kernel
theorem dX7_begin_45 : decode cX7_begin 45 = .ok (.getfield 61, 3) := by decide +kernel
theorem dX7_begin_48 : decode cX7_begin 48 = .ok (.iload_n 2, 1) := by decide +kernel
theorem dX7_begin_49 : decode cX7_begin 49 = .ok (.iconst 0, 1) := by decide +kernel
theorem dX7_begin_50 : decode cX7_begin 50 = .ok (.bastore, 1) := by decide +kernel
theorem dX7_begin_51 : decode cX7_begin 51 = .ok (.iinc 2 1, 3) := by decide +kernel
theorem dX7_begin_54 : decode cX7_begin 54 = .ok (.goto (-17), 3) := by decide +kernel
theorem dX7_begin_57 : decode cX7_begin 57 = .ok (.iconst 0, 1) := by decide +kernel
theorem dX7_begin_58 : decode cX7_begin 58 = .ok (.istore_n 2, 1) := by decide +kernel
theorem dX7_begin_59 : decode cX7_begin 59 = .ok (.iload_n 2, 1) := by decide +kernel
theorem dX7_begin_60 : decode cX7_begin 60 = .ok (.iconst 3, 1) := by decide +kernel
theorem dX7_begin_61 : decode cX7_begin 61 = .ok (.if_icmp .ge 21, 3) := by decide +kernel
theorem dX7_begin_64 : decode cX7_begin 64 = .ok (.aload_n 0, 1) := by decide +kernel
theorem dX7_begin_65 : decode cX7_begin 65 = .ok (.getfield 65, 3) := by decide +kernel
theorem dX7_begin_68 : decode cX7_begin 68 = .ok (.iload_n 2, 1) := by decide +kernel
theorem dX7_begin_69 : decode cX7_begin 69 = .ok (.aload_n 0, 1) := by decide +kernel
theorem dX7_begin_70 : decode cX7_begin 70 = .ok (.getfield 19, 3) := by decide +kernel
theorem dX7_begin_73 : decode cX7_begin 73 = .ok (.iload_n 2, 1) := by decide +kernel
theorem dX7_begin_74 : decode cX7_begin 74 = .ok (.iaload, 1) := by decide +kernel
theorem dX7_begin_75 : decode cX7_begin 75 = .ok (.iastore, 1) := by decide +kernel
theorem dX7_begin_76 : decode cX7_begin 76 = .ok (.iinc 2 1, 3) := by decide +kernel
theorem dX7_begin_79 : decode cX7_begin 79 = .ok (.goto (-20), 3) := by decide +kernel
theorem dX7_begin_82 : decode cX7_begin 82 = .ok (.return_, 1) := by decide +kernel
theorem dX7_flush_0 : decode cX7_flush 0 = .ok (.aload_n 0, 1) := by decide +kernel
theorem dX7_flush_1 : decode cX7_flush 1 = .ok (.iconst 0, 1) := by decide +kernel
theorem dX7_flush_2 : decode cX7_flush 2 = .ok (.putfield 89, 3) := by decide +kernel
theorem dX7_flush_5 : decode cX7_flush 5 = .ok (.aload_n 0, 1) := by decide +kernel
theorem dX7_flush_6 : decode cX7_flush 6 = .ok (.getfield 143, 3) := by decide +kernel
theorem dX7_flush_9 : decode cX7_flush 9 = .ok (.ifCond .ne 10, 3) := by decide +kernel
theorem dX7_flush_12 : decode cX7_flush 12 = .ok (.aload_n 0, 1) := by decide +kernel
theorem dX7_flush_13 : decode cX7_flush 13 = .ok (.getfield 93, 3) := by decide +kernel
theorem dX7_flush_16 : decode cX7_flush 16 = .ok (.ifCond .ne 6, 3) := by decide +kernel
theorem dX7_flush_19 : decode cX7_flush 19 = .ok (.ldc 136, 2) := by decide +kernel
theorem dX7_flush_21 : decode cX7_flush 21 = .ok (.ireturn, 1) := by decide +kernel
theorem dX7_flush_22 : decode cX7_flush 22 = .ok (.aload_n 0, 1) := by decide +kernel
theorem dX7_flush_23 : decode cX7_flush 23 = .ok (.iconst (-1), 1) := by decide +kernel
theorem dX7_flush_24 : decode cX7_flush 24 = .ok (.invokevirtual 162, 3) := by decide +kernel
theorem dX7_flush_27 : decode cX7_flush 27 = .ok (.aload_n 0, 1) := by decide +kernel
theorem dX7_flush_28 : decode cX7_flush 28 = .ok (.aload_n 0, 1) := by decide +kernel
theorem dX7_flush_29 : decode cX7_flush 29 = .ok (.getfield 93, 3) := by decide +kernel
theorem dX7_flush_32 : decode cX7_flush 32 = .ok (.putfield 166, 3) := by decide +kernel
theorem dX7_flush_35 : decode cX7_flush 35 = .ok (.iconst 0, 1) := by decide +kernel
theorem dX7_flush_36 : decode cX7_flush 36 = .ok (.istore_n 1, 1) := by decide +kernel
theorem dX7_flush_37 : decode cX7_flush 37 = .ok (.iload_n 1, 1) := by decide +kernel
theorem dX7_flush_38 : decode cX7_flush 38 = .ok (.aload_n 0, 1) := by decide +kernel
theorem dX7_flush_39 : decode cX7_flush 39 = .ok (.getfield 93, 3) := by decide +kernel
theorem dX7_flush_42 : decode cX7_flush 42 = .ok (.if_icmp .ge 31, 3) := by decide +kernel
theorem dX7_flush_45 : decode cX7_flush 45 = .ok (.aload_n 0, 1) := by decide +kernel
theorem dX7_flush_46 : decode cX7_flush 46 = .ok (.aload_n 0, 1) := by decide +kernel
theorem dX7_flush_47 : decode cX7_flush 47 = .ok (.getfield 7, 3) := by decide +kernel
theorem dX7_flush_50 : decode cX7_flush 50 = .ok (.iload_n 1, 1) := by decide +kernel
theorem dX7_flush_51 : decode cX7_flush 51 = .ok (.iaload, 1) := by decide +kernel
theorem dX7_flush_52 : decode cX7_flush 52 = .ok (.aload_n 0, 1) := by decide +kernel
theorem dX7_flush_53 : decode cX7_flush 53 = .ok (.getfield 13, 3) := by decide +kernel
theorem dX7_flush_56 : decode cX7_flush 56 = .ok (.iload_n 1, 1) := by decide +kernel
theorem dX7_flush_57 : decode cX7_flush 57 = .ok (.iaload, 1) := by decide +kernel
theorem dX7_flush_58 : decode cX7_flush 58 = .ok (.aload_n 0, 1) := by decide +kernel
theorem dX7_flush_59 : decode cX7_flush 59 = .ok (.getfield 16, 3) := by decide +kernel
theorem dX7_flush_62 : decode cX7_flush 62 = .ok (.iload_n 1, 1) := by decide +kernel
theorem dX7_flush_63 : decode cX7_flush 63 = .ok (.iaload, 1) := by decide +kernel
theorem dX7_flush_64 : decode cX7_flush 64 = .ok (.invokevirtual 169, 3) := by decide +kernel
theorem dX7_flush_67 : decode cX7_flush 67 = .ok (.iinc 1 1, 3) := by decide +kernel
theorem dX7_flush_70 : decode cX7_flush 70 = .ok (.goto (-33), 3) := by decide +kernel
theorem dX7_flush_73 : decode cX7_flush 73 = .ok (.aload_n 0, 1) := by decide +kernel
theorem dX7_flush_74 : decode cX7_flush 74 = .ok (.getfield 140, 3) := by decide +kernel
theorem dX7_flush_77 : decode cX7_flush 77 = .ok (.ireturn, 1) := by decide +kernel
theorem dX7_sourceFile_0 : decode cX7_sourceFile 0 = .ok (.aload_n 0, 1) := by decide +kernel
theorem dX7_sourceFile_1 : decode cX7_sourceFile 1 = .ok (.getfield 61, 3) := by decide +kernel
theorem dX7_sourceFile_4 : decode cX7_sourceFile 4 = .ok (.iload_n 1, 1) := by decide +kernel
theorem dX7_sourceFile_5 : decode cX7_sourceFile 5 = .ok (.iconst 1, 1) := by decide +kernel
theorem dX7_sourceFile_6 : decode cX7_sourceFile 6 = .ok (.bastore, 1) := by decide +kernel
theorem dX7_sourceFile_7 : decode cX7_sourceFile 7 = .ok (.bipush 30, 2) := by decide +kernel
theorem dX7_sourceFile_9 : decode cX7_sourceFile 9 = .ok (.iload_n 1, 1) := by decide +kernel
theorem dX7_sourceFile_10 : decode cX7_sourceFile 10 = .ok (.imul, 1) := by decide +kernel
theorem dX7_sourceFile_11 : decode cX7_sourceFile 11 = .ok (.istore_n 2, 1) := by decide +kernel
theorem dX7_sourceFile_12 : decode cX7_sourceFile 12 = .ok (.iload_n 2, 1) := by decide +kernel
theorem dX7_sourceFile_13 : decode cX7_sourceFile 13 = .ok (.bipush 30, 2) := by decide +kernel
theorem dX7_sourceFile_15 : decode cX7_sourceFile 15 = .ok (.iload_n 1, 1) := by decide +kernel
theorem dX7_sourceFile_16 : decode cX7_sourceFile 16 = .ok (.imul, 1) := by decide +kernel
theorem dX7_sourceFile_17 : decode cX7_sourceFile 17 = .ok (.aload_n 0, 1) := by decide +kernel
theorem dX7_sourceFile_18 : decode cX7_sourceFile 18 = .ok (.getfield 34, 3) := by decide +kernel
theorem dX7_sourceFile_21 : decode cX7_sourceFile 21 = .ok (.iload_n 1, 1) := by decide +kernel
theorem dX7_sourceFile_22 : decode cX7_sourceFile 22 = .ok (.iaload, 1) := by decide +kernel
theorem dX7_sourceFile_23 : decode cX7_sourceFile 23 = .ok (.iadd, 1) := by decide +kernel
theorem dX7_sourceFile_24 : decode cX7_sourceFile 24 = .ok (.if_icmp .ge 31, 3) := by decide +kernel
theorem dX7_sourceFile_27 : decode cX7_sourceFile 27 = .ok (.aload_n 0, 1) := by decide +kernel
theorem dX7_sourceFile_28 : decode cX7_sourceFile 28 = .ok (.aload_n 0, 1) := by decide +kernel
theorem dX7_sourceFile_29 : decode cX7_sourceFile 29 = .ok (.getfield 37, 3) := by decide +kernel
theorem dX7_sourceFile_32 : decode cX7_sourceFile 32 = .ok (.iload_n 2, 1) := by decide +kernel
theorem dX7_sourceFile_33 : decode cX7_sourceFile 33 = .ok (.iaload, 1) := by decide +kernel
theorem dX7_sourceFile_34 : decode cX7_sourceFile 34 = .ok (.aload_n 0, 1) := by decide +kernel
theorem dX7_sourceFile_35 : decode cX7_sourceFile 35 = .ok (.getfield 40, 3) := by decide +kernel
theorem dX7_sourceFile_38 : decode cX7_sourceFile 38 = .ok (.iload_n 2, 1) := by decide +kernel
theorem dX7_sourceFile_39 : decode cX7_sourceFile 39 = .ok (.iaload, 1) := by decide +kernel
theorem dX7_sourceFile_40 : decode cX7_sourceFile 40 = .ok (.aload_n 0, 1) := by decide +kernel
theorem dX7_sourceFile_41 : decode cX7_sourceFile 41 = .ok (.getfield 43, 3) := by decide +kernel
theorem dX7_sourceFile_44 : decode cX7_sourceFile 44 = .ok (.iload_n 2, 1) := by decide +kernel
theorem dX7_sourceFile_45 : decode cX7_sourceFile 45 = .ok (.iaload, 1) := by decide +kernel
theorem dX7_sourceFile_46 : decode cX7_sourceFile 46 = .ok (.invokevirtual 169, 3) := by decide +kernel
theorem dX7_sourceFile_49 : decode cX7_sourceFile 49 = .ok (.iinc 2 1, 3) := by decide +kernel
theorem dX7_sourceFile_52 : decode cX7_sourceFile 52 = .ok (.goto (-40), 3) := by decide +kernel
theorem dX7_sourceFile_55 : decode cX7_sourceFile 55 = .ok (.return_, 1) := by decide +kernel
theorem dX7_least_0 : decode cX7_least 0 = .ok (.aload_n 0, 1) := by decide +kernel
theorem dX7_least_1 : decode cX7_least 1 = .ok (.getfield 37, 3) := by decide +kernel
theorem dX7_least_4 : decode cX7_least 4 = .ok (.bipush 30, 2) := by decide +kernel
theorem dX7_least_6 : decode cX7_least 6 = .ok (.iload_n 1, 1) := by decide +kernel
theorem dX7_least_7 : decode cX7_least 7 = .ok (.imul, 1) := by decide +kernel
theorem dX7_least_8 : decode cX7_least 8 = .ok (.iaload, 1) := by decide +kernel
theorem dX7_least_9 : decode cX7_least 9 = .ok (.ireturn, 1) := by decide +kernel
theorem dX7_greatest_0 : decode cX7_greatest 0 = .ok (.aload_n 0, 1) := by decide +kernel
theorem dX7_greatest_1 : decode cX7_greatest 1 = .ok (.getfield 37, 3) := by decide +kernel
theorem dX7_greatest_4 : decode cX7_greatest 4 = .ok (.bipush 30, 2) := by decide +kernel
theorem dX7_greatest_6 : decode cX7_greatest 6 = .ok (.iload_n 1, 1) := by decide +kernel
theorem dX7_greatest_7 : decode cX7_greatest 7 = .ok (.imul, 1) := by decide +kernel
theorem dX7_greatest_8 : decode cX7_greatest 8 = .ok (.aload_n 0, 1) := by decide +kernel
theorem dX7_greatest_9 : decode cX7_greatest 9 = .ok (.getfield 34, 3) := by decide +kernel
theorem dX7_greatest_12 : decode cX7_greatest 12 = .ok (.iload_n 1, 1) := by decide +kernel
theorem dX7_greatest_13 : decode cX7_greatest 13 = .ok (.iaload, 1) := by decide +kernel
theorem dX7_greatest_14 : decode cX7_greatest 14 = .ok (.iadd, 1) := by decide +kernel
theorem dX7_greatest_15 : decode cX7_greatest 15 = .ok (.iconst 1, 1) := by decide +kernel
theorem dX7_greatest_16 : decode cX7_greatest 16 = .ok (.isub, 1) := by decide +kernel
theorem dX7_greatest_17 : decode cX7_greatest 17 = .ok (.iaload, 1) := by decide +kernel
theorem dX7_greatest_18 : decode cX7_greatest 18 = .ok (.ireturn, 1) := by decide +kernel
theorem dX7_merge_0 : decode cX7_merge 0 = .ok (.aload_n 0, 1) := by decide +kernel
theorem dX7_merge_1 : decode cX7_merge 1 = .ok (.iconst 0, 1) := by decide +kernel
theorem dX7_merge_2 : decode cX7_merge 2 = .ok (.putfield 89, 3) := by decide +kernel
theorem dX7_merge_5 : decode cX7_merge 5 = .ok (.iload_n 1, 1) := by decide +kernel
theorem dX7_merge_6 : decode cX7_merge 6 = .ok (.i2l, 1) := by decide +kernel
theorem dX7_merge_7 : decode cX7_merge 7 = .ok (.lconst 0, 1) := by decide +kernel
theorem dX7_merge_8 : decode cX7_merge 8 = .ok (.ldc2_w 126, 3) := by decide +kernel
theorem dX7_merge_11 : decode cX7_merge 11 = .ok (.invokestatic 103, 3) := by decide +kernel
theorem dX7_merge_14 : decode cX7_merge 14 = .ok (.ifCond .ne 6, 3) := by decide +kernel
theorem dX7_merge_17 : decode cX7_merge 17 = .ok (.ldc 135, 2) := by decide +kernel
theorem dX7_merge_19 : decode cX7_merge 19 = .ok (.ireturn, 1) := by decide +kernel
theorem dX7_merge_20 : decode cX7_merge 20 = .ok (.aload_n 0, 1) := by decide +kernel
theorem dX7_merge_21 : decode cX7_merge 21 = .ok (.iload_n 1, 1) := by decide +kernel
theorem dX7_merge_22 : decode cX7_merge 22 = .ok (.invokevirtual 173, 3) := by decide +kernel
theorem dX7_merge_25 : decode cX7_merge 25 = .ok (.iload_n 1, 1) := by decide +kernel
theorem dX7_merge_26 : decode cX7_merge 26 = .ok (.ifCond .le 22, 3) := by decide +kernel
theorem dX7_merge_29 : decode cX7_merge 29 = .ok (.iload_n 2, 1) := by decide +kernel
theorem dX7_merge_30 : decode cX7_merge 30 = .ok (.i2l, 1) := by decide +kernel
theorem dX7_merge_31 : decode cX7_merge 31 = .ok (.lconst 0, 1) := by decide +kernel
theorem dX7_merge_32 : decode cX7_merge 32 = .ok (.aload_n 0, 1) := by decide +kernel
theorem dX7_merge_33 : decode cX7_merge 33 = .ok (.getfield 137, 3) := by decide +kernel
theorem dX7_merge_36 : decode cX7_merge 36 = .ok (.iconst 1, 1) := by decide +kernel
theorem dX7_merge_37 : decode cX7_merge 37 = .ok (.isub, 1) := by decide +kernel
theorem dX7_merge_38 : decode cX7_merge 38 = .ok (.i2l, 1) := by decide +kernel
theorem dX7_merge_39 : decode cX7_merge 39 = .ok (.invokestatic 103, 3) := by decide +kernel
theorem dX7_merge_42 : decode cX7_merge 42 = .ok (.ifCond .ne 6, 3) := by decide +kernel
theorem dX7_merge_45 : decode cX7_merge 45 = .ok (.ldc 135, 2) := by decide +kernel
theorem dX7_merge_47 : decode cX7_merge 47 = .ok (.ireturn, 1) := by decide +kernel
theorem dX7_merge_48 : decode cX7_merge 48 = .ok (.aload_n 0, 1) := by decide +kernel
theorem dX7_merge_49 : decode cX7_merge 49 = .ok (.getfield 143, 3) := by decide +kernel
theorem dX7_merge_52 : decode cX7_merge 52 = .ok (.ifCond .ne 10, 3) := by decide +kernel
theorem dX7_merge_55 : decode cX7_merge 55 = .ok (.aload_n 0, 1) := by decide +kernel
theorem dX7_merge_56 : decode cX7_merge 56 = .ok (.getfield 137, 3) := by decide +kernel
theorem dX7_merge_59 : decode cX7_merge 59 = .ok (.ifCond .ne 6, 3) := by decide +kernel
theorem dX7_merge_62 : decode cX7_merge 62 = .ok (.ldc 136, 2) := by decide +kernel
theorem dX7_merge_64 : decode cX7_merge 64 = .ok (.ireturn, 1) := by decide +kernel
theorem dX7_merge_65 : decode cX7_merge 65 = .ok (.aload_n 0, 1) := by decide +kernel
theorem dX7_merge_66 : decode cX7_merge 66 = .ok (.iload_n 1, 1) := by decide +kernel
theorem dX7_merge_67 : decode cX7_merge 67 = .ok (.invokevirtual 162, 3) := by decide +kernel
theorem dX7_merge_70 : decode cX7_merge 70 = .ok (.sipush 1000, 3) := by decide +kernel
theorem dX7_merge_73 : decode cX7_merge 73 = .ok (.istore_n 3, 1) := by decide +kernel
theorem dX7_merge_74 : decode cX7_merge 74 = .ok (.iconst (-1), 1) := by decide +kernel
theorem dX7_merge_75 : decode cX7_merge 75 = .ok (.istore 4, 2) := by decide +kernel
theorem dX7_merge_77 : decode cX7_merge 77 = .ok (.iconst 0, 1) := by decide +kernel
theorem dX7_merge_78 : decode cX7_merge 78 = .ok (.istore 5, 2) := by decide +kernel
theorem dX7_merge_80 : decode cX7_merge 80 = .ok (.iload 5, 2) := by decide +kernel
theorem dX7_merge_82 : decode cX7_merge 82 = .ok (.aload_n 0, 1) := by decide +kernel
theorem dX7_merge_83 : decode cX7_merge 83 = .ok (.getfield 137, 3) := by decide +kernel
theorem dX7_merge_86 : decode cX7_merge 86 = .ok (.if_icmp .ge 95, 3) := by decide +kernel
theorem dX7_merge_89 : decode cX7_merge 89 = .ok (.iload_n 1, 1) := by decide +kernel
theorem dX7_merge_90 : decode cX7_merge 90 = .ok (.ifCond .eq 9, 3) := by decide +kernel
theorem dX7_merge_93 : decode cX7_merge 93 = .ok (.iload 5, 2) := by decide +kernel
theorem dX7_merge_95 : decode cX7_merge 95 = .ok (.iload_n 2, 1) := by decide +kernel
theorem dX7_merge_96 : decode cX7_merge 96 = .ok (.if_icmp .ne 79, 3) := by decide +kernel
theorem dX7_merge_99 : decode cX7_merge 99 = .ok (.aload_n 0, 1) := by decide +kernel
theorem dX7_merge_100 : decode cX7_merge 100 = .ok (.aload_n 0, 1) := by decide +kernel
theorem dX7_merge_101 : decode cX7_merge 101 = .ok (.getfield 49, 3) := by decide +kernel
theorem dX7_merge_104 : decode cX7_merge 104 = .ok (.iload 5, 2) := by decide +kernel
theorem dX7_merge_106 : decode cX7_merge 106 = .ok (.iaload, 1) := by decide +kernel
theorem dX7_merge_107 : decode cX7_merge 107 = .ok (.invokevirtual 176, 3) := by decide +kernel
theorem dX7_merge_110 : decode cX7_merge 110 = .ok (.iload_n 3, 1) := by decide +kernel
theorem dX7_merge_111 : decode cX7_merge 111 = .ok (.if_icmp .ge 17, 3) := by decide +kernel
theorem dX7_merge_114 : decode cX7_merge 114 = .ok (.aload_n 0, 1) := by decide +kernel
theorem dX7_merge_115 : decode cX7_merge 115 = .ok (.aload_n 0, 1) := by decide +kernel
theorem dX7_merge_116 : decode cX7_merge 116 = .ok (.getfield 49, 3) := by decide +kernel
theorem dX7_merge_119 : decode cX7_merge 119 = .ok (.iload 5, 2) := by decide +kernel
theorem dX7_merge_121 : decode cX7_merge 121 = .ok (.iaload, 1) := by decide +kernel
theorem dX7_merge_122 : decode cX7_merge 122 = .ok (.invokevirtual 176, 3) := by decide +kernel
theorem dX7_merge_125 : decode cX7_merge 125 = .ok (.goto 4, 3) := by decide +kernel
theorem dX7_merge_128 : decode cX7_merge 128 = .ok (.iload_n 3, 1) := by decide +kernel
theorem dX7_merge_129 : decode cX7_merge 129 = .ok (.istore_n 3, 1) := by decide +kernel
theorem dX7_merge_130 : decode cX7_merge 130 = .ok (.aload_n 0, 1) := by decide +kernel
theorem dX7_merge_131 : decode cX7_merge 131 = .ok (.aload_n 0, 1) := by decide +kernel
theorem dX7_merge_132 : decode cX7_merge 132 = .ok (.getfield 49, 3) := by decide +kernel
theorem dX7_merge_135 : decode cX7_merge 135 = .ok (.iload 5, 2) := by decide +kernel
theorem dX7_merge_137 : decode cX7_merge 137 = .ok (.iaload, 1) := by decide +kernel
theorem dX7_merge_138 : decode cX7_merge 138 = .ok (.invokevirtual 180, 3) := by decide +kernel
theorem dX7_merge_141 : decode cX7_merge 141 = .ok (.iload 4, 2) := by decide +kernel
theorem dX7_merge_143 : decode cX7_merge 143 = .ok (.if_icmp .le 17, 3) := by decide +kernel
theorem dX7_merge_146 : decode cX7_merge 146 = .ok (.aload_n 0, 1) := by decide +kernel
theorem dX7_merge_147 : decode cX7_merge 147 = .ok (.aload_n 0, 1) := by decide +kernel
theorem dX7_merge_148 : decode cX7_merge 148 = .ok (.getfield 49, 3) := by decide +kernel
theorem dX7_merge_151 : decode cX7_merge 151 = .ok (.iload 5, 2) := by decide +kernel
theorem dX7_merge_153 : decode cX7_merge 153 = .ok (.iaload, 1) := by decide +kernel
theorem dX7_merge_154 : decode cX7_merge 154 = .ok (.invokevirtual 180, 3) := by decide +kernel
theorem dX7_merge_157 : decode cX7_merge 157 = .ok (.goto 5, 3) := by decide +kernel
theorem dX7_merge_160 : decode cX7_merge 160 = .ok (.iload 4, 2) := by decide +kernel
theorem dX7_merge_162 : decode cX7_merge 162 = .ok (.istore 4, 2) := by decide +kernel
theorem dX7_merge_164 : decode cX7_merge 164 = .ok (.aload_n 0, 1) := by decide +kernel
theorem dX7_merge_165 : decode cX7_merge 165 = .ok (.aload_n 0, 1) := by decide +kernel
theorem dX7_merge_166 : decode cX7_merge 166 = .ok (.getfield 49, 3) := by decide +kernel
theorem dX7_merge_169 : decode cX7_merge 169 = .ok (.iload 5, 2) := by decide +kernel
theorem dX7_merge_171 : decode cX7_merge 171 = .ok (.iaload, 1) := by decide +kernel
theorem dX7_merge_172 : decode cX7_merge 172 = .ok (.invokevirtual 183, 3) := by decide +kernel
theorem dX7_merge_175 : decode cX7_merge 175 = .ok (.iinc 5 1, 3) := by decide +kernel
theorem dX7_merge_178 : decode cX7_merge 178 = .ok (.goto (-98), 3) := by decide +kernel
theorem dX7_merge_181 : decode cX7_merge 181 = .ok (.iconst 0, 1) := by decide +kernel
theorem dX7_merge_182 : decode cX7_merge 182 = .ok (.istore 5, 2) := by decide +kernel
theorem dX7_merge_184 : decode cX7_merge 184 = .ok (.iload 5, 2) := by decide +kernel
theorem dX7_merge_186 : decode cX7_merge 186 = .ok (.sipush 330, 3) := by decide +kernel
theorem dX7_merge_189 : decode cX7_merge 189 = .ok (.if_icmp .ge 49, 3) := by decide +kernel
theorem dX7_merge_192 : decode cX7_merge 192 = .ok (.aload_n 0, 1) := by decide +kernel
theorem dX7_merge_193 : decode cX7_merge 193 = .ok (.getfield 22, 3) := by decide +kernel
theorem dX7_merge_196 : decode cX7_merge 196 = .ok (.iload 5, 2) := by decide +kernel
theorem dX7_merge_198 : decode cX7_merge 198 = .ok (.iaload, 1) := by decide +kernel
theorem dX7_merge_199 : decode cX7_merge 199 = .ok (.iload_n 1, 1) := by decide +kernel
theorem dX7_merge_200 : decode cX7_merge 200 = .ok (.iconst 1, 1) := by decide +kernel
theorem dX7_merge_201 : decode cX7_merge 201 = .ok (.iadd, 1) := by decide +kernel
theorem dX7_merge_202 : decode cX7_merge 202 = .ok (.if_icmp .ne 30, 3) := by decide +kernel
theorem dX7_merge_205 : decode cX7_merge 205 = .ok (.aload_n 0, 1) := by decide +kernel
theorem dX7_merge_206 : decode cX7_merge 206 = .ok (.iload 5, 2) := by decide +kernel
theorem dX7_merge_208 : decode cX7_merge 208 = .ok (.invokevirtual 176, 3) := by decide +kernel
theorem dX7_merge_211 : decode cX7_merge 211 = .ok (.iload 4, 2) := by decide +kernel
theorem dX7_merge_213 : decode cX7_merge 213 = .ok (.if_icmp .gt 19, 3) := by decide +kernel
theorem dX7_merge_216 : decode cX7_merge 216 = .ok (.aload_n 0, 1) := by decide +kernel
theorem dX7_merge_217 : decode cX7_merge 217 = .ok (.iload 5, 2) := by decide +kernel
theorem dX7_merge_219 : decode cX7_merge 219 = .ok (.invokevirtual 180, 3) := by decide +kernel
theorem dX7_merge_222 : decode cX7_merge 222 = .ok (.iload_n 3, 1) := by decide +kernel
theorem dX7_merge_223 : decode cX7_merge 223 = .ok (.if_icmp .lt 9, 3) := by decide +kernel
theorem dX7_merge_226 : decode cX7_merge 226 = .ok (.aload_n 0, 1) := by decide +kernel
theorem dX7_merge_227 : decode cX7_merge 227 = .ok (.iload 5, 2) := by decide +kernel
theorem dX7_merge_229 : decode cX7_merge 229 = .ok (.invokevirtual 183, 3) := by decide +kernel
theorem dX7_merge_232 : decode cX7_merge 232 = .ok (.iinc 5 1, 3) := by decide +kernel
theorem dX7_merge_235 : decode cX7_merge 235 = .ok (.goto (-51), 3) := by decide +kernel
theorem dX7_merge_238 : decode cX7_merge 238 = .ok (.aload_n 0, 1) := by decide +kernel
theorem dX7_merge_239 : decode cX7_merge 239 = .ok (.getfield 140, 3) := by decide +kernel
theorem dX7_merge_242 : decode cX7_merge 242 = .ok (.ireturn, 1) := by decide +kernel
theorem dX7_isUnseen_0 : decode cX7_isUnseen 0 = .ok (.iload_n 1, 1) := by decide +kernel
theorem dX7_isUnseen_1 : decode cX7_isUnseen 1 = .ok (.ifCond .eq 20, 3) := by decide +kernel
theorem dX7_isUnseen_4 : decode cX7_isUnseen 4 = .ok (.aload_n 0, 1) := by decide +kernel
theorem dX7_isUnseen_5 : decode cX7_isUnseen 5 = .ok (.getfield 52, 3) := by decide +kernel
theorem dX7_isUnseen_8 : decode cX7_isUnseen 8 = .ok (.iload_n 1, 1) := by decide +kernel
theorem dX7_isUnseen_9 : decode cX7_isUnseen 9 = .ok (.iconst 1, 1) := by decide +kernel
theorem dX7_isUnseen_10 : decode cX7_isUnseen 10 = .ok (.isub, 1) := by decide +kernel
theorem dX7_isUnseen_11 : decode cX7_isUnseen 11 = .ok (.iaload, 1) := by decide +kernel
theorem dX7_isUnseen_12 : decode cX7_isUnseen 12 = .ok (.aload_n 0, 1) := by decide +kernel
theorem dX7_isUnseen_13 : decode cX7_isUnseen 13 = .ok (.getfield 52, 3) := by decide +kernel
theorem dX7_isUnseen_16 : decode cX7_isUnseen 16 = .ok (.iload_n 1, 1) := by decide +kernel
theorem dX7_isUnseen_17 : decode cX7_isUnseen 17 = .ok (.iaload, 1) := by decide +kernel
theorem dX7_isUnseen_18 : decode cX7_isUnseen 18 = .ok (.if_icmp .eq 5, 3) := by decide +kernel
theorem dX7_isUnseen_21 : decode cX7_isUnseen 21 = .ok (.iconst 0, 1) := by decide +kernel
theorem dX7_isUnseen_22 : decode cX7_isUnseen 22 = .ok (.ireturn, 1) := by decide +kernel
theorem dX7_isUnseen_23 : decode cX7_isUnseen 23 = .ok (.iconst 1, 1) := by decide +kernel
theorem dX7_isUnseen_24 : decode cX7_isUnseen 24 = .ok (.istore_n 2, 1) := by decide +kernel
theorem dX7_isUnseen_25 : decode cX7_isUnseen 25 = .ok (.iconst 0, 1) := by decide +kernel
theorem dX7_isUnseen_26 : decode cX7_isUnseen 26 = .ok (.istore_n 3, 1) := by decide +kernel
theorem dX7_isUnseen_27 : decode cX7_isUnseen 27 = .ok (.iload_n 3, 1) := by decide +kernel
theorem dX7_isUnseen_28 : decode cX7_isUnseen 28 = .ok (.iconst 3, 1) := by decide +kernel
theorem dX7_isUnseen_29 : decode cX7_isUnseen 29 = .ok (.if_icmp .ge 51, 3) := by decide +kernel
theorem dX7_isUnseen_32 : decode cX7_isUnseen 32 = .ok (.iload_n 2, 1) := by decide +kernel
theorem dX7_isUnseen_33 : decode cX7_isUnseen 33 = .ok (.ifCond .eq 39, 3) := by decide +kernel
theorem dX7_isUnseen_36 : decode cX7_isUnseen 36 = .ok (.aload_n 0, 1) := by decide +kernel
theorem dX7_isUnseen_37 : decode cX7_isUnseen 37 = .ok (.getfield 65, 3) := by decide +kernel
theorem dX7_isUnseen_40 : decode cX7_isUnseen 40 = .ok (.iload_n 3, 1) := by decide +kernel
theorem dX7_isUnseen_41 : decode cX7_isUnseen 41 = .ok (.iaload, 1) := by decide +kernel
theorem dX7_isUnseen_42 : decode cX7_isUnseen 42 = .ok (.aload_n 0, 1) := by decide +kernel
theorem dX7_isUnseen_43 : decode cX7_isUnseen 43 = .ok (.getfield 55, 3) := by decide +kernel
theorem dX7_isUnseen_46 : decode cX7_isUnseen 46 = .ok (.iload_n 1, 1) := by decide +kernel
theorem dX7_isUnseen_47 : decode cX7_isUnseen 47 = .ok (.iaload, 1) := by decide +kernel
theorem dX7_isUnseen_48 : decode cX7_isUnseen 48 = .ok (.if_icmp .lt 20, 3) := by decide +kernel
theorem dX7_isUnseen_51 : decode cX7_isUnseen 51 = .ok (.aload_n 0, 1) := by decide +kernel
theorem dX7_isUnseen_52 : decode cX7_isUnseen 52 = .ok (.getfield 65, 3) := by decide +kernel
theorem dX7_isUnseen_55 : decode cX7_isUnseen 55 = .ok (.iload_n 3, 1) := by decide +kernel
theorem dX7_isUnseen_56 : decode cX7_isUnseen 56 = .ok (.iaload, 1) := by decide +kernel
theorem dX7_isUnseen_57 : decode cX7_isUnseen 57 = .ok (.aload_n 0, 1) := by decide +kernel
theorem dX7_isUnseen_58 : decode cX7_isUnseen 58 = .ok (.getfield 55, 3) := by decide +kernel
theorem dX7_isUnseen_61 : decode cX7_isUnseen 61 = .ok (.iload_n 1, 1) := by decide +kernel
theorem dX7_isUnseen_62 : decode cX7_isUnseen 62 = .ok (.iconst 1, 1) := by decide +kernel
theorem dX7_isUnseen_63 : decode cX7_isUnseen 63 = .ok (.isub, 1) := by decide +kernel
theorem dX7_isUnseen_64 : decode cX7_isUnseen 64 = .ok (.iaload, 1) := by decide +kernel
theorem dX7_isUnseen_65 : decode cX7_isUnseen 65 = .ok (.if_icmp .lt 7, 3) := by decide +kernel
theorem dX7_isUnseen_68 : decode cX7_isUnseen 68 = .ok (.iconst 1, 1) := by decide +kernel
theorem dX7_isUnseen_69 : decode cX7_isUnseen 69 = .ok (.goto 4, 3) := by decide +kernel
theorem dX7_isUnseen_72 : decode cX7_isUnseen 72 = .ok (.iconst 0, 1) := by decide +kernel
theorem dX7_isUnseen_73 : decode cX7_isUnseen 73 = .ok (.istore_n 2, 1) := by decide +kernel
theorem dX7_isUnseen_74 : decode cX7_isUnseen 74 = .ok (.iinc 3 1, 3) := by decide +kernel
theorem dX7_isUnseen_77 : decode cX7_isUnseen 77 = .ok (.goto (-50), 3) := by decide +kernel
theorem dX7_isUnseen_80 : decode cX7_isUnseen 80 = .ok (.iload_n 2, 1) := by decide +kernel
theorem dX7_isUnseen_81 : decode cX7_isUnseen 81 = .ok (.ireturn, 1) := by decide +kernel
theorem dX7_isLeftOut_0 : decode cX7_isLeftOut 0 = .ok (.aload_n 0, 1) := by decide +kernel
theorem dX7_isLeftOut_1 : decode cX7_isLeftOut 1 = .ok (.iload_n 1, 1) := by decide +kernel
theorem dX7_isLeftOut_2 : decode cX7_isLeftOut 2 = .ok (.invokevirtual 186, 3) := by decide +kernel
theorem dX7_isLeftOut_5 : decode cX7_isLeftOut 5 = .ok (.ifCond .eq 5, 3) := by decide +kernel
theorem dX7_isLeftOut_8 : decode cX7_isLeftOut 8 = .ok (.iconst 1, 1) := by decide +kernel
theorem dX7_isLeftOut_9 : decode cX7_isLeftOut 9 = .ok (.ireturn, 1) := by decide +kernel
theorem dX7_isLeftOut_10 : decode cX7_isLeftOut 10 = .ok (.aload_n 0, 1) := by decide +kernel
theorem dX7_isLeftOut_11 : decode cX7_isLeftOut 11 = .ok (.getfield 150, 3) := by decide +kernel
theorem dX7_isLeftOut_14 : decode cX7_isLeftOut 14 = .ok (.iconst 2, 1) := by decide +kernel
theorem dX7_isLeftOut_15 : decode cX7_isLeftOut 15 = .ok (.if_icmp .ne 18, 3) := by decide +kernel
theorem dX7_isLeftOut_18 : decode cX7_isLeftOut 18 = .ok (.aload_n 0, 1) := by decide +kernel
theorem dX7_isLeftOut_19 : decode cX7_isLeftOut 19 = .ok (.getfield 58, 3) := by decide +kernel
theorem dX7_isLeftOut_22 : decode cX7_isLeftOut 22 = .ok (.iload_n 1, 1) := by decide +kernel
theorem dX7_isLeftOut_23 : decode cX7_isLeftOut 23 = .ok (.iaload, 1) := by decide +kernel
theorem dX7_isLeftOut_24 : decode cX7_isLeftOut 24 = .ok (.ldc 116, 2) := by decide +kernel
theorem dX7_isLeftOut_26 : decode cX7_isLeftOut 26 = .ok (.if_icmp .ne 7, 3) := by decide +kernel
theorem dX7_isLeftOut_29 : decode cX7_isLeftOut 29 = .ok (.iconst 1, 1) := by decide +kernel
theorem dX7_isLeftOut_30 : decode cX7_isLeftOut 30 = .ok (.goto 4, 3) := by decide +kernel
theorem dX7_isLeftOut_33 : decode cX7_isLeftOut 33 = .ok (.iconst 0, 1) := by decide +kernel
theorem dX7_isLeftOut_34 : decode cX7_isLeftOut 34 = .ok (.istore_n 2, 1) := by decide +kernel
theorem dX7_isLeftOut_35 : decode cX7_isLeftOut 35 = .ok (.iload_n 1, 1) := by decide +kernel
theorem dX7_isLeftOut_36 : decode cX7_isLeftOut 36 = .ok (.iconst 1, 1) := by decide +kernel
theorem dX7_isLeftOut_37 : decode cX7_isLeftOut 37 = .ok (.iadd, 1) := by decide +kernel
theorem dX7_isLeftOut_38 : decode cX7_isLeftOut 38 = .ok (.istore_n 3, 1) := by decide +kernel
theorem dX7_isLeftOut_39 : decode cX7_isLeftOut 39 = .ok (.iload_n 3, 1) := by decide +kernel
theorem dX7_isLeftOut_40 : decode cX7_isLeftOut 40 = .ok (.aload_n 0, 1) := by decide +kernel
theorem dX7_isLeftOut_41 : decode cX7_isLeftOut 41 = .ok (.getfield 140, 3) := by decide +kernel
theorem dX7_isLeftOut_44 : decode cX7_isLeftOut 44 = .ok (.if_icmp .ge 53, 3) := by decide +kernel
theorem dX7_isLeftOut_47 : decode cX7_isLeftOut 47 = .ok (.aload_n 0, 1) := by decide +kernel
theorem dX7_isLeftOut_48 : decode cX7_isLeftOut 48 = .ok (.getfield 52, 3) := by decide +kernel
theorem dX7_isLeftOut_51 : decode cX7_isLeftOut 51 = .ok (.iload_n 3, 1) := by decide +kernel
theorem dX7_isLeftOut_52 : decode cX7_isLeftOut 52 = .ok (.iaload, 1) := by decide +kernel
theorem dX7_isLeftOut_53 : decode cX7_isLeftOut 53 = .ok (.aload_n 0, 1) := by decide +kernel
theorem dX7_isLeftOut_54 : decode cX7_isLeftOut 54 = .ok (.getfield 52, 3) := by decide +kernel
theorem dX7_isLeftOut_57 : decode cX7_isLeftOut 57 = .ok (.iload_n 1, 1) := by decide +kernel
theorem dX7_isLeftOut_58 : decode cX7_isLeftOut 58 = .ok (.iaload, 1) := by decide +kernel
theorem dX7_isLeftOut_59 : decode cX7_isLeftOut 59 = .ok (.if_icmp .ne 38, 3) := by decide +kernel
theorem dX7_isLeftOut_62 : decode cX7_isLeftOut 62 = .ok (.iload_n 2, 1) := by decide +kernel
theorem dX7_isLeftOut_63 : decode cX7_isLeftOut 63 = .ok (.ifCond .eq 34, 3) := by decide +kernel
theorem dX7_isLeftOut_66 : decode cX7_isLeftOut 66 = .ok (.aload_n 0, 1) := by decide +kernel
theorem dX7_isLeftOut_67 : decode cX7_isLeftOut 67 = .ok (.iload_n 3, 1) := by decide +kernel
theorem dX7_isLeftOut_68 : decode cX7_isLeftOut 68 = .ok (.invokevirtual 186, 3) := by decide +kernel
theorem dX7_isLeftOut_71 : decode cX7_isLeftOut 71 = .ok (.ifCond .ne 14, 3) := by decide +kernel
theorem dX7_isLeftOut_74 : decode cX7_isLeftOut 74 = .ok (.aload_n 0, 1) := by decide +kernel
theorem dX7_isLeftOut_75 : decode cX7_isLeftOut 75 = .ok (.getfield 58, 3) := by decide +kernel
theorem dX7_isLeftOut_78 : decode cX7_isLeftOut 78 = .ok (.iload_n 3, 1) := by decide +kernel
theorem dX7_isLeftOut_79 : decode cX7_isLeftOut 79 = .ok (.iaload, 1) := by decide +kernel
theorem dX7_isLeftOut_80 : decode cX7_isLeftOut 80 = .ok (.ldc 116, 2) := by decide +kernel
theorem dX7_isLeftOut_82 : decode cX7_isLeftOut 82 = .ok (.if_icmp .ne 7, 3) := by decide +kernel
theorem dX7_isLeftOut_85 : decode cX7_isLeftOut 85 = .ok (.iconst 1, 1) := by decide +kernel
theorem dX7_isLeftOut_86 : decode cX7_isLeftOut 86 = .ok (.goto 4, 3) := by decide +kernel
theorem dX7_isLeftOut_89 : decode cX7_isLeftOut 89 = .ok (.iconst 0, 1) := by decide +kernel
theorem dX7_isLeftOut_90 : decode cX7_isLeftOut 90 = .ok (.istore_n 2, 1) := by decide +kernel
theorem dX7_isLeftOut_91 : decode cX7_isLeftOut 91 = .ok (.iinc 3 1, 3) := by decide +kernel
theorem dX7_isLeftOut_94 : decode cX7_isLeftOut 94 = .ok (.goto (-55), 3) := by decide +kernel
theorem dX7_isLeftOut_97 : decode cX7_isLeftOut 97 = .ok (.iload_n 2, 1) := by decide +kernel
theorem dX7_isLeftOut_98 : decode cX7_isLeftOut 98 = .ok (.ireturn, 1) := by decide +kernel
theorem dX7_shortNumber_0 : decode cX7_shortNumber 0 = .ok (.iload_n 1, 1) := by decide +kernel
theorem dX7_shortNumber_1 : decode cX7_shortNumber 1 = .ok (.istore_n 2, 1) := by decide +kernel
theorem dX7_shortNumber_2 : decode cX7_shortNumber 2 = .ok (.iload_n 2, 1) := by decide +kernel
theorem dX7_shortNumber_3 : decode cX7_shortNumber 3 = .ok (.bipush 127, 2) := by decide +kernel
theorem dX7_shortNumber_5 : decode cX7_shortNumber 5 = .ok (.if_icmp .le 40, 3) := by decide +kernel
theorem dX7_shortNumber_8 : decode cX7_shortNumber 8 = .ok (.aload_n 0, 1) := by decide +kernel
theorem dX7_shortNumber_9 : decode cX7_shortNumber 9 = .ok (.getfield 77, 3) := by decide +kernel
theorem dX7_shortNumber_12 : decode cX7_shortNumber 12 = .ok (.aload_n 0, 1) := by decide +kernel
theorem dX7_shortNumber_13 : decode cX7_shortNumber 13 = .ok (.getfield 189, 3) := by decide +kernel
theorem dX7_shortNumber_16 : decode cX7_shortNumber 16 = .ok (.iload_n 2, 1) := by decide +kernel
theorem dX7_shortNumber_17 : decode cX7_shortNumber 17 = .ok (.sipush 128, 3) := by decide +kernel
theorem dX7_shortNumber_20 : decode cX7_shortNumber 20 = .ok (.irem, 1) := by decide +kernel
theorem dX7_shortNumber_21 : decode cX7_shortNumber 21 = .ok (.sipush 128, 3) := by decide +kernel
theorem dX7_shortNumber_24 : decode cX7_shortNumber 24 = .ok (.iadd, 1) := by decide +kernel
theorem dX7_shortNumber_25 : decode cX7_shortNumber 25 = .ok (.iastore, 1) := by decide +kernel
theorem dX7_shortNumber_26 : decode cX7_shortNumber 26 = .ok (.aload_n 0, 1) := by decide +kernel
theorem dX7_shortNumber_27 : decode cX7_shortNumber 27 = .ok (.dup, 1) := by decide +kernel
theorem dX7_shortNumber_28 : decode cX7_shortNumber 28 = .ok (.getfield 189, 3) := by decide +kernel
theorem dX7_shortNumber_31 : decode cX7_shortNumber 31 = .ok (.iconst 1, 1) := by decide +kernel
theorem dX7_shortNumber_32 : decode cX7_shortNumber 32 = .ok (.iadd, 1) := by decide +kernel
theorem dX7_shortNumber_33 : decode cX7_shortNumber 33 = .ok (.putfield 189, 3) := by decide +kernel
theorem dX7_shortNumber_36 : decode cX7_shortNumber 36 = .ok (.iload_n 2, 1) := by decide +kernel
theorem dX7_shortNumber_37 : decode cX7_shortNumber 37 = .ok (.sipush 128, 3) := by decide +kernel
theorem dX7_shortNumber_40 : decode cX7_shortNumber 40 = .ok (.idiv, 1) := by decide +kernel
theorem dX7_shortNumber_41 : decode cX7_shortNumber 41 = .ok (.istore_n 2, 1) := by decide +kernel
theorem dX7_shortNumber_42 : decode cX7_shortNumber 42 = .ok (.goto (-40), 3) := by decide +kernel
theorem dX7_shortNumber_45 : decode cX7_shortNumber 45 = .ok (.aload_n 0, 1) := by decide +kernel
theorem dX7_shortNumber_46 : decode cX7_shortNumber 46 = .ok (.getfield 77, 3) := by decide +kernel
theorem dX7_shortNumber_49 : decode cX7_shortNumber 49 = .ok (.aload_n 0, 1) := by decide +kernel
theorem dX7_shortNumber_50 : decode cX7_shortNumber 50 = .ok (.getfield 189, 3) := by decide +kernel
theorem dX7_shortNumber_53 : decode cX7_shortNumber 53 = .ok (.iload_n 2, 1) := by decide +kernel
theorem dX7_shortNumber_54 : decode cX7_shortNumber 54 = .ok (.iastore, 1) := by decide +kernel
theorem dX7_shortNumber_55 : decode cX7_shortNumber 55 = .ok (.aload_n 0, 1) := by decide +kernel
theorem dX7_shortNumber_56 : decode cX7_shortNumber 56 = .ok (.dup, 1) := by decide +kernel
theorem dX7_shortNumber_57 : decode cX7_shortNumber 57 = .ok (.getfield 189, 3) := by decide +kernel
theorem dX7_shortNumber_60 : decode cX7_shortNumber 60 = .ok (.iconst 1, 1) := by decide +kernel
theorem dX7_shortNumber_61 : decode cX7_shortNumber 61 = .ok (.iadd, 1) := by decide +kernel
theorem dX7_shortNumber_62 : decode cX7_shortNumber 62 = .ok (.putfield 189, 3) := by decide +kernel
theorem dX7_shortNumber_65 : decode cX7_shortNumber 65 = .ok (.return_, 1) := by decide +kernel
theorem dX7_encode_0 : decode cX7_encode 0 = .ok (.aload_n 0, 1) := by decide +kernel
theorem dX7_encode_1 : decode cX7_encode 1 = .ok (.iconst 0, 1) := by decide +kernel
theorem dX7_encode_2 : decode cX7_encode 2 = .ok (.putfield 189, 3) := by decide +kernel
theorem dX7_encode_5 : decode cX7_encode 5 = .ok (.aload_n 0, 1) := by decide +kernel
theorem dX7_encode_6 : decode cX7_encode 6 = .ok (.getfield 77, 3) := by decide +kernel
theorem dX7_encode_9 : decode cX7_encode 9 = .ok (.aload_n 0, 1) := by decide +kernel
theorem dX7_encode_10 : decode cX7_encode 10 = .ok (.getfield 189, 3) := by decide +kernel
theorem dX7_encode_13 : decode cX7_encode 13 = .ok (.aload_n 0, 1) := by decide +kernel
theorem dX7_encode_14 : decode cX7_encode 14 = .ok (.getfield 159, 3) := by decide +kernel
theorem dX7_encode_17 : decode cX7_encode 17 = .ok (.iastore, 1) := by decide +kernel
theorem dX7_encode_18 : decode cX7_encode 18 = .ok (.aload_n 0, 1) := by decide +kernel
theorem dX7_encode_19 : decode cX7_encode 19 = .ok (.dup, 1) := by decide +kernel
theorem dX7_encode_20 : decode cX7_encode 20 = .ok (.getfield 189, 3) := by decide +kernel
theorem dX7_encode_23 : decode cX7_encode 23 = .ok (.iconst 1, 1) := by decide +kernel
theorem dX7_encode_24 : decode cX7_encode 24 = .ok (.iadd, 1) := by decide +kernel
theorem dX7_encode_25 : decode cX7_encode 25 = .ok (.putfield 189, 3) := by decide +kernel
theorem dX7_encode_28 : decode cX7_encode 28 = .ok (.iconst 0, 1) := by decide +kernel
theorem dX7_encode_29 : decode cX7_encode 29 = .ok (.istore_n 1, 1) := by decide +kernel
theorem dX7_encode_30 : decode cX7_encode 30 = .ok (.iload_n 1, 1) := by decide +kernel
theorem dX7_encode_31 : decode cX7_encode 31 = .ok (.aload_n 0, 1) := by decide +kernel
theorem dX7_encode_32 : decode cX7_encode 32 = .ok (.getfield 159, 3) := by decide +kernel
theorem dX7_encode_35 : decode cX7_encode 35 = .ok (.if_icmp .ge 119, 3) := by decide +kernel
theorem dX7_encode_38 : decode cX7_encode 38 = .ok (.aload_n 0, 1) := by decide +kernel
theorem dX7_encode_39 : decode cX7_encode 39 = .ok (.getfield 74, 3) := by decide +kernel
theorem dX7_encode_42 : decode cX7_encode 42 = .ok (.iload_n 1, 1) := by decide +kernel
theorem dX7_encode_43 : decode cX7_encode 43 = .ok (.iaload, 1) := by decide +kernel
theorem dX7_encode_44 : decode cX7_encode 44 = .ok (.ldc 116, 2) := by decide +kernel
theorem dX7_encode_46 : decode cX7_encode 46 = .ok (.if_icmp .ne 7, 3) := by decide +kernel
theorem dX7_encode_49 : decode cX7_encode 49 = .ok (.iconst 1, 1) := by decide +kernel
theorem dX7_encode_50 : decode cX7_encode 50 = .ok (.goto 4, 3) := by decide +kernel
theorem dX7_encode_53 : decode cX7_encode 53 = .ok (.iconst 0, 1) := by decide +kernel
theorem dX7_encode_54 : decode cX7_encode 54 = .ok (.istore_n 2, 1) := by decide +kernel
theorem dX7_encode_55 : decode cX7_encode 55 = .ok (.aload_n 0, 1) := by decide +kernel
theorem dX7_encode_56 : decode cX7_encode 56 = .ok (.iload_n 1, 1) := by decide +kernel
theorem dX7_encode_57 : decode cX7_encode 57 = .ok (.ifCond .ne 12, 3) := by decide +kernel
theorem dX7_encode_60 : decode cX7_encode 60 = .ok (.aload_n 0, 1) := by decide +kernel
theorem dX7_encode_61 : decode cX7_encode 61 = .ok (.getfield 68, 3) := by decide +kernel
theorem dX7_encode_64 : decode cX7_encode 64 = .ok (.iconst 0, 1) := by decide +kernel
theorem dX7_encode_65 : decode cX7_encode 65 = .ok (.iaload, 1) := by decide +kernel
theorem dX7_encode_66 : decode cX7_encode 66 = .ok (.goto 18, 3) := by decide +kernel
theorem dX7_encode_69 : decode cX7_encode 69 = .ok (.aload_n 0, 1) := by decide +kernel
theorem dX7_encode_70 : decode cX7_encode 70 = .ok (.getfield 68, 3) := by decide +kernel
theorem dX7_encode_73 : decode cX7_encode 73 = .ok (.iload_n 1, 1) := by decide +kernel
theorem dX7_encode_74 : decode cX7_encode 74 = .ok (.iaload, 1) := by decide +kernel
theorem dX7_encode_75 : decode cX7_encode 75 = .ok (.aload_n 0, 1) := by decide +kernel
theorem dX7_encode_76 : decode cX7_encode 76 = .ok (.getfield 68, 3) := by decide +kernel
theorem dX7_encode_79 : decode cX7_encode 79 = .ok (.iload_n 1, 1) := by decide +kernel
theorem dX7_encode_80 : decode cX7_encode 80 = .ok (.iconst 1, 1) := by decide +kernel
theorem dX7_encode_81 : decode cX7_encode 81 = .ok (.isub, 1) := by decide +kernel
theorem dX7_encode_82 : decode cX7_encode 82 = .ok (.iaload, 1) := by decide +kernel
theorem dX7_encode_83 : decode cX7_encode 83 = .ok (.isub, 1) := by decide +kernel
theorem dX7_encode_84 : decode cX7_encode 84 = .ok (.invokevirtual 192, 3) := by decide +kernel
theorem dX7_encode_87 : decode cX7_encode 87 = .ok (.aload_n 0, 1) := by decide +kernel
theorem dX7_encode_88 : decode cX7_encode 88 = .ok (.iconst 2, 1) := by decide +kernel
theorem dX7_encode_89 : decode cX7_encode 89 = .ok (.aload_n 0, 1) := by decide +kernel
theorem dX7_encode_90 : decode cX7_encode 90 = .ok (.getfield 71, 3) := by decide +kernel
theorem dX7_encode_93 : decode cX7_encode 93 = .ok (.iload_n 1, 1) := by decide +kernel
theorem dX7_encode_94 : decode cX7_encode 94 = .ok (.iaload, 1) := by decide +kernel
theorem dX7_encode_95 : decode cX7_encode 95 = .ok (.imul, 1) := by decide +kernel
theorem dX7_encode_96 : decode cX7_encode 96 = .ok (.iload_n 2, 1) := by decide +kernel
theorem dX7_encode_97 : decode cX7_encode 97 = .ok (.ifCond .eq 7, 3) := by decide +kernel
theorem dX7_encode_100 : decode cX7_encode 100 = .ok (.iconst 1, 1) := by decide +kernel
theorem dX7_encode_101 : decode cX7_encode 101 = .ok (.goto 4, 3) := by decide +kernel
theorem dX7_encode_104 : decode cX7_encode 104 = .ok (.iconst 0, 1) := by decide +kernel
theorem dX7_encode_105 : decode cX7_encode 105 = .ok (.iadd, 1) := by decide +kernel
theorem dX7_encode_106 : decode cX7_encode 106 = .ok (.invokevirtual 192, 3) := by decide +kernel
theorem dX7_encode_109 : decode cX7_encode 109 = .ok (.iload_n 2, 1) := by decide +kernel
theorem dX7_encode_110 : decode cX7_encode 110 = .ok (.ifCond .ne 38, 3) := by decide +kernel
theorem dX7_encode_113 : decode cX7_encode 113 = .ok (.aload_n 0, 1) := by decide +kernel
theorem dX7_encode_114 : decode cX7_encode 114 = .ok (.aload_n 0, 1) := by decide +kernel
theorem dX7_encode_115 : decode cX7_encode 115 = .ok (.getfield 74, 3) := by decide +kernel
theorem dX7_encode_118 : decode cX7_encode 118 = .ok (.iload_n 1, 1) := by decide +kernel
theorem dX7_encode_119 : decode cX7_encode 119 = .ok (.iaload, 1) := by decide +kernel
theorem dX7_encode_120 : decode cX7_encode 120 = .ok (.ifCond .ge 17, 3) := by decide +kernel
theorem dX7_encode_123 : decode cX7_encode 123 = .ok (.bipush (-2), 2) := by decide +kernel
theorem dX7_encode_125 : decode cX7_encode 125 = .ok (.aload_n 0, 1) := by decide +kernel
theorem dX7_encode_126 : decode cX7_encode 126 = .ok (.getfield 74, 3) := by decide +kernel
theorem dX7_encode_129 : decode cX7_encode 129 = .ok (.iload_n 1, 1) := by decide +kernel
theorem dX7_encode_130 : decode cX7_encode 130 = .ok (.iaload, 1) := by decide +kernel
theorem dX7_encode_131 : decode cX7_encode 131 = .ok (.imul, 1) := by decide +kernel
theorem dX7_encode_132 : decode cX7_encode 132 = .ok (.iconst 1, 1) := by decide +kernel
theorem dX7_encode_133 : decode cX7_encode 133 = .ok (.isub, 1) := by decide +kernel
theorem dX7_encode_134 : decode cX7_encode 134 = .ok (.goto 11, 3) := by decide +kernel
theorem dX7_encode_137 : decode cX7_encode 137 = .ok (.iconst 2, 1) := by decide +kernel
theorem dX7_encode_138 : decode cX7_encode 138 = .ok (.aload_n 0, 1) := by decide +kernel
theorem dX7_encode_139 : decode cX7_encode 139 = .ok (.getfield 74, 3) := by decide +kernel
theorem dX7_encode_142 : decode cX7_encode 142 = .ok (.iload_n 1, 1) := by decide +kernel
theorem dX7_encode_143 : decode cX7_encode 143 = .ok (.iaload, 1) := by decide +kernel
theorem dX7_encode_144 : decode cX7_encode 144 = .ok (.imul, 1) := by decide +kernel
theorem dX7_encode_145 : decode cX7_encode 145 = .ok (.invokevirtual 192, 3) := by decide +kernel
theorem dX7_encode_148 : decode cX7_encode 148 = .ok (.iinc 1 1, 3) := by decide +kernel
theorem dX7_encode_151 : decode cX7_encode 151 = .ok (.goto (-121), 3) := by decide +kernel
theorem dX7_encode_154 : decode cX7_encode 154 = .ok (.iconst 0, 1) := by decide +kernel
theorem dX7_encode_155 : decode cX7_encode 155 = .ok (.istore_n 1, 1) := by decide +kernel
theorem dX7_encode_156 : decode cX7_encode 156 = .ok (.iconst 0, 1) := by decide +kernel
theorem dX7_encode_157 : decode cX7_encode 157 = .ok (.istore_n 2, 1) := by decide +kernel
theorem dX7_encode_158 : decode cX7_encode 158 = .ok (.iload_n 2, 1) := by decide +kernel
theorem dX7_encode_159 : decode cX7_encode 159 = .ok (.aload_n 0, 1) := by decide +kernel
theorem dX7_encode_160 : decode cX7_encode 160 = .ok (.getfield 189, 3) := by decide +kernel
theorem dX7_encode_163 : decode cX7_encode 163 = .ok (.if_icmp .ge 18, 3) := by decide +kernel
theorem dX7_encode_166 : decode cX7_encode 166 = .ok (.iload_n 1, 1) := by decide +kernel
theorem dX7_encode_167 : decode cX7_encode 167 = .ok (.aload_n 0, 1) := by decide +kernel
theorem dX7_encode_168 : decode cX7_encode 168 = .ok (.getfield 77, 3) := by decide +kernel
theorem dX7_encode_171 : decode cX7_encode 171 = .ok (.iload_n 2, 1) := by decide +kernel
theorem dX7_encode_172 : decode cX7_encode 172 = .ok (.iaload, 1) := by decide +kernel
theorem dX7_encode_173 : decode cX7_encode 173 = .ok (.iadd, 1) := by decide +kernel
theorem dX7_encode_174 : decode cX7_encode 174 = .ok (.istore_n 1, 1) := by decide +kernel
theorem dX7_encode_175 : decode cX7_encode 175 = .ok (.iinc 2 1, 3) := by decide +kernel
theorem dX7_encode_178 : decode cX7_encode 178 = .ok (.goto (-20), 3) := by decide +kernel
theorem dX7_encode_181 : decode cX7_encode 181 = .ok (.aload_n 0, 1) := by decide +kernel
theorem dX7_encode_182 : decode cX7_encode 182 = .ok (.getfield 77, 3) := by decide +kernel
theorem dX7_encode_185 : decode cX7_encode 185 = .ok (.aload_n 0, 1) := by decide +kernel
theorem dX7_encode_186 : decode cX7_encode 186 = .ok (.getfield 189, 3) := by decide +kernel
theorem dX7_encode_189 : decode cX7_encode 189 = .ok (.iload_n 1, 1) := by decide +kernel
theorem dX7_encode_190 : decode cX7_encode 190 = .ok (.sipush 251, 3) := by decide +kernel
theorem dX7_encode_193 : decode cX7_encode 193 = .ok (.irem, 1) := by decide +kernel
theorem dX7_encode_194 : decode cX7_encode 194 = .ok (.iastore, 1) := by decide +kernel
theorem dX7_encode_195 : decode cX7_encode 195 = .ok (.aload_n 0, 1) := by decide +kernel
theorem dX7_encode_196 : decode cX7_encode 196 = .ok (.dup, 1) := by decide +kernel
theorem dX7_encode_197 : decode cX7_encode 197 = .ok (.getfield 189, 3) := by decide +kernel
theorem dX7_encode_200 : decode cX7_encode 200 = .ok (.iconst 1, 1) := by decide +kernel
theorem dX7_encode_201 : decode cX7_encode 201 = .ok (.iadd, 1) := by decide +kernel
theorem dX7_encode_202 : decode cX7_encode 202 = .ok (.putfield 189, 3) := by decide +kernel
theorem dX7_encode_205 : decode cX7_encode 205 = .ok (.return_, 1) := by decide +kernel
theorem dX7_room_0 : decode cX7_room 0 = .ok (.iconst 0, 1) := by decide +kernel
theorem dX7_room_1 : decode cX7_room 1 = .ok (.istore_n 2, 1) := by decide +kernel
theorem dX7_room_2 : decode cX7_room 2 = .ok (.iconst 1, 1) := by decide +kernel
theorem dX7_room_3 : decode cX7_room 3 = .ok (.istore_n 3, 1) := by decide +kernel
theorem dX7_room_4 : decode cX7_room 4 = .ok (.iload_n 3, 1) := by decide +kernel
theorem dX7_room_5 : decode cX7_room 5 = .ok (.ifCond .eq 85, 3) := by decide +kernel
theorem dX7_room_8 : decode cX7_room 8 = .ok (.iconst 0, 1) := by decide +kernel
theorem dX7_room_9 : decode cX7_room 9 = .ok (.istore_n 3, 1) := by decide +kernel
theorem dX7_room_10 : decode cX7_room 10 = .ok (.iconst 0, 1) := by decide +kernel
theorem dX7_room_11 : decode cX7_room 11 = .ok (.istore 4, 2) := by decide +kernel
theorem dX7_room_13 : decode cX7_room 13 = .ok (.iload 4, 2) := by decide +kernel
theorem dX7_room_15 : decode cX7_room 15 = .ok (.sipush 330, 3) := by decide +kernel
theorem dX7_room_18 : decode cX7_room 18 = .ok (.if_icmp .ge 69, 3) := by decide +kernel
theorem dX7_room_21 : decode cX7_room 21 = .ok (.aload_n 0, 1) := by decide +kernel
theorem dX7_room_22 : decode cX7_room 22 = .ok (.getfield 22, 3) := by decide +kernel
theorem dX7_room_25 : decode cX7_room 25 = .ok (.iload 4, 2) := by decide +kernel
theorem dX7_room_27 : decode cX7_room 27 = .ok (.iaload, 1) := by decide +kernel
theorem dX7_room_28 : decode cX7_room 28 = .ok (.ifCond .lt 53, 3) := by decide +kernel
theorem dX7_room_31 : decode cX7_room 31 = .ok (.aload_n 0, 1) := by decide +kernel
theorem dX7_room_32 : decode cX7_room 32 = .ok (.getfield 28, 3) := by decide +kernel
theorem dX7_room_35 : decode cX7_room 35 = .ok (.iload 4, 2) := by decide +kernel
theorem dX7_room_37 : decode cX7_room 37 = .ok (.iaload, 1) := by decide +kernel
theorem dX7_room_38 : decode cX7_room 38 = .ok (.iload_n 2, 1) := by decide +kernel
theorem dX7_room_39 : decode cX7_room 39 = .ok (.iload_n 1, 1) := by decide +kernel
theorem dX7_room_40 : decode cX7_room 40 = .ok (.iadd, 1) := by decide +kernel
theorem dX7_room_41 : decode cX7_room 41 = .ok (.if_icmp .ge 40, 3) := by decide +kernel
theorem dX7_room_44 : decode cX7_room 44 = .ok (.aload_n 0, 1) := by decide +kernel
theorem dX7_room_45 : decode cX7_room 45 = .ok (.getfield 28, 3) := by decide +kernel
theorem dX7_room_48 : decode cX7_room 48 = .ok (.iload 4, 2) := by decide +kernel
theorem dX7_room_50 : decode cX7_room 50 = .ok (.iaload, 1) := by decide +kernel
theorem dX7_room_51 : decode cX7_room 51 = .ok (.aload_n 0, 1) := by decide +kernel
theorem dX7_room_52 : decode cX7_room 52 = .ok (.getfield 31, 3) := by decide +kernel
theorem dX7_room_55 : decode cX7_room 55 = .ok (.iload 4, 2) := by decide +kernel
theorem dX7_room_57 : decode cX7_room 57 = .ok (.iaload, 1) := by decide +kernel
theorem dX7_room_58 : decode cX7_room 58 = .ok (.iadd, 1) := by decide +kernel
theorem dX7_room_59 : decode cX7_room 59 = .ok (.iload_n 2, 1) := by decide +kernel
theorem dX7_room_60 : decode cX7_room 60 = .ok (.if_icmp .le 21, 3) := by decide +kernel
theorem dX7_room_63 : decode cX7_room 63 = .ok (.aload_n 0, 1) := by decide +kernel
theorem dX7_room_64 : decode cX7_room 64 = .ok (.getfield 28, 3) := by decide +kernel
theorem dX7_room_67 : decode cX7_room 67 = .ok (.iload 4, 2) := by decide +kernel
theorem dX7_room_69 : decode cX7_room 69 = .ok (.iaload, 1) := by decide +kernel
theorem dX7_room_70 : decode cX7_room 70 = .ok (.aload_n 0, 1) := by decide +kernel
theorem dX7_room_71 : decode cX7_room 71 = .ok (.getfield 31, 3) := by decide +kernel
theorem dX7_room_74 : decode cX7_room 74 = .ok (.iload 4, 2) := by decide +kernel
theorem dX7_room_76 : decode cX7_room 76 = .ok (.iaload, 1) := by decide +kernel
theorem dX7_room_77 : decode cX7_room 77 = .ok (.iadd, 1) := by decide +kernel
theorem dX7_room_78 : decode cX7_room 78 = .ok (.istore_n 2, 1) := by decide +kernel
theorem dX7_room_79 : decode cX7_room 79 = .ok (.iconst 1, 1) := by decide +kernel
theorem dX7_room_80 : decode cX7_room 80 = .ok (.istore_n 3, 1) := by decide +kernel
theorem dX7_room_81 : decode cX7_room 81 = .ok (.iinc 4 1, 3) := by decide +kernel
theorem dX7_room_84 : decode cX7_room 84 = .ok (.goto (-71), 3) := by decide +kernel
theorem dX7_room_87 : decode cX7_room 87 = .ok (.goto (-83), 3) := by decide +kernel
theorem dX7_room_90 : decode cX7_room 90 = .ok (.iload_n 2, 1) := by decide +kernel
theorem dX7_room_91 : decode cX7_room 91 = .ok (.iload_n 1, 1) := by decide +kernel
theorem dX7_room_92 : decode cX7_room 92 = .ok (.iadd, 1) := by decide +kernel
theorem dX7_room_93 : decode cX7_room 93 = .ok (.sipush 1500, 3) := by decide +kernel
theorem dX7_room_96 : decode cX7_room 96 = .ok (.if_icmp .gt 7, 3) := by decide +kernel
theorem dX7_room_99 : decode cX7_room 99 = .ok (.iload_n 2, 1) := by decide +kernel
theorem dX7_room_100 : decode cX7_room 100 = .ok (.goto 4, 3) := by decide +kernel
theorem dX7_room_103 : decode cX7_room 103 = .ok (.iconst (-1), 1) := by decide +kernel
theorem dX7_room_104 : decode cX7_room 104 = .ok (.ireturn, 1) := by decide +kernel
theorem dX7_ends_0 : decode cX7_ends 0 = .ok (.aload_n 0, 1) := by decide +kernel
theorem dX7_ends_1 : decode cX7_ends 1 = .ok (.getfield 159, 3) := by decide +kernel
theorem dX7_ends_4 : decode cX7_ends 4 = .ok (.ifCond .ne 5, 3) := by decide +kernel
theorem dX7_ends_7 : decode cX7_ends 7 = .ok (.iconst 1, 1) := by decide +kernel
theorem dX7_ends_8 : decode cX7_ends 8 = .ok (.ireturn, 1) := by decide +kernel
theorem dX7_ends_9 : decode cX7_ends 9 = .ok (.aload_n 0, 1) := by decide +kernel
theorem dX7_ends_10 : decode cX7_ends 10 = .ok (.invokevirtual 195, 3) := by decide +kernel
theorem dX7_ends_13 : decode cX7_ends 13 = .ok (.aload_n 0, 1) := by decide +kernel
theorem dX7_ends_14 : decode cX7_ends 14 = .ok (.aload_n 0, 1) := by decide +kernel
theorem dX7_ends_15 : decode cX7_ends 15 = .ok (.getfield 189, 3) := by decide +kernel
theorem dX7_ends_18 : decode cX7_ends 18 = .ok (.invokevirtual 198, 3) := by decide +kernel
theorem dX7_ends_21 : decode cX7_ends 21 = .ok (.istore_n 1, 1) := by decide +kernel
theorem dX7_ends_22 : decode cX7_ends 22 = .ok (.iload_n 1, 1) := by decide +kernel
theorem dX7_ends_23 : decode cX7_ends 23 = .ok (.ifCond .ge 5, 3) := by decide +kernel
theorem dX7_ends_26 : decode cX7_ends 26 = .ok (.iconst 0, 1) := by decide +kernel
theorem dX7_ends_27 : decode cX7_ends 27 = .ok (.ireturn, 1) := by decide +kernel
theorem dX7_ends_28 : decode cX7_ends 28 = .ok (.iconst 0, 1) := by decide +kernel
theorem dX7_ends_29 : decode cX7_ends 29 = .ok (.istore_n 2, 1) := by decide +kernel
theorem dX7_ends_30 : decode cX7_ends 30 = .ok (.aload_n 0, 1) := by decide +kernel
theorem dX7_ends_31 : decode cX7_ends 31 = .ok (.getfield 22, 3) := by decide +kernel
theorem dX7_ends_34 : decode cX7_ends 34 = .ok (.iload_n 2, 1) := by decide +kernel
theorem dX7_ends_35 : decode cX7_ends 35 = .ok (.iaload, 1) := by decide +kernel
theorem dX7_ends_36 : decode cX7_ends 36 = .ok (.ifCond .lt 9, 3) := by decide +kernel
theorem dX7_ends_39 : decode cX7_ends 39 = .ok (.iinc 2 1, 3) := by decide +kernel
theorem dX7_ends_42 : decode cX7_ends 42 = .ok (.goto (-12), 3) := by decide +kernel
theorem dX7_ends_45 : decode cX7_ends 45 = .ok (.aload_n 0, 1) := by decide +kernel
theorem dX7_ends_46 : decode cX7_ends 46 = .ok (.getfield 22, 3) := by decide +kernel
theorem dX7_ends_49 : decode cX7_ends 49 = .ok (.iload_n 2, 1) := by decide +kernel
theorem dX7_ends_50 : decode cX7_ends 50 = .ok (.bipush 9, 2) := by decide +kernel
theorem dX7_ends_52 : decode cX7_ends 52 = .ok (.iastore, 1) := by decide +kernel
theorem dX7_ends_53 : decode cX7_ends 53 = .ok (.aload_n 0, 1) := by decide +kernel
theorem dX7_ends_54 : decode cX7_ends 54 = .ok (.getfield 25, 3) := by decide +kernel
theorem dX7_ends_57 : decode cX7_ends 57 = .ok (.iload_n 2, 1) := by decide +kernel
theorem dX7_ends_58 : decode cX7_ends 58 = .ok (.aload_n 0, 1) := by decide +kernel
theorem dX7_ends_59 : decode cX7_ends 59 = .ok (.getfield 201, 3) := by decide +kernel
theorem dX7_ends_62 : decode cX7_ends 62 = .ok (.iastore, 1) := by decide +kernel
theorem dX7_ends_63 : decode cX7_ends 63 = .ok (.aload_n 0, 1) := by decide +kernel
theorem dX7_ends_64 : decode cX7_ends 64 = .ok (.dup, 1) := by decide +kernel
theorem dX7_ends_65 : decode cX7_ends 65 = .ok (.getfield 201, 3) := by decide +kernel
theorem dX7_ends_68 : decode cX7_ends 68 = .ok (.iconst 1, 1) := by decide +kernel
theorem dX7_ends_69 : decode cX7_ends 69 = .ok (.iadd, 1) := by decide +kernel
theorem dX7_ends_70 : decode cX7_ends 70 = .ok (.putfield 201, 3) := by decide +kernel
theorem dX7_ends_73 : decode cX7_ends 73 = .ok (.aload_n 0, 1) := by decide +kernel
theorem dX7_ends_74 : decode cX7_ends 74 = .ok (.getfield 28, 3) := by decide +kernel
theorem dX7_ends_77 : decode cX7_ends 77 = .ok (.iload_n 2, 1) := by decide +kernel
theorem dX7_ends_78 : decode cX7_ends 78 = .ok (.iload_n 1, 1) := by decide +kernel
theorem dX7_ends_79 : decode cX7_ends 79 = .ok (.iastore, 1) := by decide +kernel
theorem dX7_ends_80 : decode cX7_ends 80 = .ok (.aload_n 0, 1) := by decide +kernel
theorem dX7_ends_81 : decode cX7_ends 81 = .ok (.getfield 31, 3) := by decide +kernel
theorem dX7_ends_84 : decode cX7_ends 84 = .ok (.iload_n 2, 1) := by decide +kernel
