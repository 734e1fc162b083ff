theorem dX3_valueOf_22 : decode cX3_valueOf 22 = .ok (.goto 5, 3) := by decide +kernel
theorem dX3_valueOf_25 : decode cX3_valueOf 25 = .ok (.ldc 37, 2) := by decide +kernel
theorem dX3_valueOf_27 : decode cX3_valueOf 27 = .ok (.ireturn, 1) := by decide +kernel
theorem dX3_leastKeyWithValue_0 : decode cX3_leastKeyWithValue 0 = .ok (.aload_n 0, 1) := by decide +kernel
theorem dX3_leastKeyWithValue_1 : decode cX3_leastKeyWithValue 1 = .ok (.getfield 24, 3) := by decide +kernel
theorem dX3_leastKeyWithValue_4 : decode cX3_leastKeyWithValue 4 = .ok (.istore_n 1, 1) := by decide +kernel
theorem dX3_leastKeyWithValue_5 : decode cX3_leastKeyWithValue 5 = .ok (.iload_n 1, 1) := by decide +kernel
theorem dX3_leastKeyWithValue_6 : decode cX3_leastKeyWithValue 6 = .ok (.aload_n 0, 1) := by decide +kernel
theorem dX3_leastKeyWithValue_7 : decode cX3_leastKeyWithValue 7 = .ok (.getfield 31, 3) := by decide +kernel
theorem dX3_leastKeyWithValue_10 : decode cX3_leastKeyWithValue 10 = .ok (.if_icmp .gt 22, 3) := by decide +kernel
theorem dX3_leastKeyWithValue_13 : decode cX3_leastKeyWithValue 13 = .ok (.aload_n 0, 1) := by decide +kernel
theorem dX3_leastKeyWithValue_14 : decode cX3_leastKeyWithValue 14 = .ok (.getfield 15, 3) := by decide +kernel
theorem dX3_leastKeyWithValue_17 : decode cX3_leastKeyWithValue 17 = .ok (.iload_n 1, 1) := by decide +kernel
theorem dX3_leastKeyWithValue_18 : decode cX3_leastKeyWithValue 18 = .ok (.iaload, 1) := by decide +kernel
theorem dX3_leastKeyWithValue_19 : decode cX3_leastKeyWithValue 19 = .ok (.ldc 37, 2) := by decide +kernel
theorem dX3_leastKeyWithValue_21 : decode cX3_leastKeyWithValue 21 = .ok (.if_icmp .eq 5, 3) := by decide +kernel
theorem dX3_leastKeyWithValue_24 : decode cX3_leastKeyWithValue 24 = .ok (.iload_n 1, 1) := by decide +kernel
theorem dX3_leastKeyWithValue_25 : decode cX3_leastKeyWithValue 25 = .ok (.ireturn, 1) := by decide +kernel
theorem dX3_leastKeyWithValue_26 : decode cX3_leastKeyWithValue 26 = .ok (.iinc 1 1, 3) := by decide +kernel
theorem dX3_leastKeyWithValue_29 : decode cX3_leastKeyWithValue 29 = .ok (.goto (-24), 3) := by decide +kernel
theorem dX3_leastKeyWithValue_32 : decode cX3_leastKeyWithValue 32 = .ok (.ldc 37, 2) := by decide +kernel
theorem dX3_leastKeyWithValue_34 : decode cX3_leastKeyWithValue 34 = .ok (.ireturn, 1) := by decide +kernel
theorem dX4_init_0 : decode cX4_init 0 = .ok (.aload_n 0, 1) := by decide +kernel
theorem dX4_init_1 : decode cX4_init 1 = .ok (.invokespecial 3, 3) := by decide +kernel
theorem dX4_init_4 : decode cX4_init 4 = .ok (.iconst 0, 1) := by decide +kernel
theorem dX4_init_5 : decode cX4_init 5 = .ok (.iload_n 1, 1) := by decide +kernel
theorem dX4_init_6 : decode cX4_init 6 = .ok (.invokestatic 9, 3) := by decide +kernel
theorem dX4_init_9 : decode cX4_init 9 = .ok (.istore_n 2, 1) := by decide +kernel
theorem dX4_init_10 : decode cX4_init 10 = .ok (.aload_n 0, 1) := by decide +kernel
theorem dX4_init_11 : decode cX4_init 11 = .ok (.iload_n 2, 1) := by decide +kernel
theorem dX4_init_12 : decode cX4_init 12 = .ok (.newarray .int, 2) := by decide +kernel
theorem dX4_init_14 : decode cX4_init 14 = .ok (.putfield 15, 3) := by decide +kernel
theorem dX4_init_17 : decode cX4_init 17 = .ok (.aload_n 0, 1) := by decide +kernel
theorem dX4_init_18 : decode cX4_init 18 = .ok (.iload_n 2, 1) := by decide +kernel
theorem dX4_init_19 : decode cX4_init 19 = .ok (.newarray .int, 2) := by decide +kernel
theorem dX4_init_21 : decode cX4_init 21 = .ok (.putfield 21, 3) := by decide +kernel
theorem dX4_init_24 : decode cX4_init 24 = .ok (.aload_n 0, 1) := by decide +kernel
theorem dX4_init_25 : decode cX4_init 25 = .ok (.iload_n 2, 1) := by decide +kernel
theorem dX4_init_26 : decode cX4_init 26 = .ok (.newarray .int, 2) := by decide +kernel
theorem dX4_init_28 : decode cX4_init 28 = .ok (.putfield 24, 3) := by decide +kernel
theorem dX4_init_31 : decode cX4_init 31 = .ok (.return_, 1) := by decide +kernel
theorem dX4_has_0 : decode cX4_has 0 = .ok (.iload_n 1, 1) := by decide +kernel
theorem dX4_has_1 : decode cX4_has 1 = .ok (.ifCond .lt 15, 3) := by decide +kernel
theorem dX4_has_4 : decode cX4_has 4 = .ok (.iload_n 1, 1) := by decide +kernel
theorem dX4_has_5 : decode cX4_has 5 = .ok (.aload_n 0, 1) := by decide +kernel
theorem dX4_has_6 : decode cX4_has 6 = .ok (.getfield 27, 3) := by decide +kernel
theorem dX4_has_9 : decode cX4_has 9 = .ok (.if_icmp .ge 7, 3) := by decide +kernel
theorem dX4_has_12 : decode cX4_has 12 = .ok (.iconst 1, 1) := by decide +kernel
theorem dX4_has_13 : decode cX4_has 13 = .ok (.goto 4, 3) := by decide +kernel
theorem dX4_has_16 : decode cX4_has 16 = .ok (.iconst 0, 1) := by decide +kernel
theorem dX4_has_17 : decode cX4_has 17 = .ok (.ireturn, 1) := by decide +kernel
theorem dX4_key_0 : decode cX4_key 0 = .ok (.iload_n 1, 1) := by decide +kernel
theorem dX4_key_1 : decode cX4_key 1 = .ok (.ifCond .lt 20, 3) := by decide +kernel
theorem dX4_key_4 : decode cX4_key 4 = .ok (.iload_n 1, 1) := by decide +kernel
theorem dX4_key_5 : decode cX4_key 5 = .ok (.aload_n 0, 1) := by decide +kernel
theorem dX4_key_6 : decode cX4_key 6 = .ok (.getfield 27, 3) := by decide +kernel
theorem dX4_key_9 : decode cX4_key 9 = .ok (.if_icmp .ge 12, 3) := by decide +kernel
theorem dX4_key_12 : decode cX4_key 12 = .ok (.aload_n 0, 1) := by decide +kernel
theorem dX4_key_13 : decode cX4_key 13 = .ok (.getfield 15, 3) := by decide +kernel
theorem dX4_key_16 : decode cX4_key 16 = .ok (.iload_n 1, 1) := by decide +kernel
theorem dX4_key_17 : decode cX4_key 17 = .ok (.iaload, 1) := by decide +kernel
theorem dX4_key_18 : decode cX4_key 18 = .ok (.goto 5, 3) := by decide +kernel
theorem dX4_key_21 : decode cX4_key 21 = .ok (.ldc 31, 2) := by decide +kernel
theorem dX4_key_23 : decode cX4_key 23 = .ok (.ireturn, 1) := by decide +kernel
theorem dX4_number_0 : decode cX4_number 0 = .ok (.iload_n 1, 1) := by decide +kernel
theorem dX4_number_1 : decode cX4_number 1 = .ok (.ifCond .lt 20, 3) := by decide +kernel
theorem dX4_number_4 : decode cX4_number 4 = .ok (.iload_n 1, 1) := by decide +kernel
theorem dX4_number_5 : decode cX4_number 5 = .ok (.aload_n 0, 1) := by decide +kernel
theorem dX4_number_6 : decode cX4_number 6 = .ok (.getfield 27, 3) := by decide +kernel
theorem dX4_number_9 : decode cX4_number 9 = .ok (.if_icmp .ge 12, 3) := by decide +kernel
theorem dX4_number_12 : decode cX4_number 12 = .ok (.aload_n 0, 1) := by decide +kernel
theorem dX4_number_13 : decode cX4_number 13 = .ok (.getfield 21, 3) := by decide +kernel
theorem dX4_number_16 : decode cX4_number 16 = .ok (.iload_n 1, 1) := by decide +kernel
theorem dX4_number_17 : decode cX4_number 17 = .ok (.iaload, 1) := by decide +kernel
theorem dX4_number_18 : decode cX4_number 18 = .ok (.goto 5, 3) := by decide +kernel
theorem dX4_number_21 : decode cX4_number 21 = .ok (.ldc 31, 2) := by decide +kernel
theorem dX4_number_23 : decode cX4_number 23 = .ok (.ireturn, 1) := by decide +kernel
theorem dX4_value_0 : decode cX4_value 0 = .ok (.iload_n 1, 1) := by decide +kernel
theorem dX4_value_1 : decode cX4_value 1 = .ok (.ifCond .lt 20, 3) := by decide +kernel
theorem dX4_value_4 : decode cX4_value 4 = .ok (.iload_n 1, 1) := by decide +kernel
theorem dX4_value_5 : decode cX4_value 5 = .ok (.aload_n 0, 1) := by decide +kernel
theorem dX4_value_6 : decode cX4_value 6 = .ok (.getfield 27, 3) := by decide +kernel
theorem dX4_value_9 : decode cX4_value 9 = .ok (.if_icmp .ge 12, 3) := by decide +kernel
theorem dX4_value_12 : decode cX4_value 12 = .ok (.aload_n 0, 1) := by decide +kernel
theorem dX4_value_13 : decode cX4_value 13 = .ok (.getfield 24, 3) := by decide +kernel
theorem dX4_value_16 : decode cX4_value 16 = .ok (.iload_n 1, 1) := by decide +kernel
theorem dX4_value_17 : decode cX4_value 17 = .ok (.iaload, 1) := by decide +kernel
theorem dX4_value_18 : decode cX4_value 18 = .ok (.goto 5, 3) := by decide +kernel
theorem dX4_value_21 : decode cX4_value 21 = .ok (.ldc 31, 2) := by decide +kernel
theorem dX4_value_23 : decode cX4_value 23 = .ok (.ireturn, 1) := by decide +kernel
theorem dX4_isGrave_0 : decode cX4_isGrave 0 = .ok (.aload_n 0, 1) := by decide +kernel
theorem dX4_isGrave_1 : decode cX4_isGrave 1 = .ok (.iload_n 1, 1) := by decide +kernel
theorem dX4_isGrave_2 : decode cX4_isGrave 2 = .ok (.invokevirtual 32, 3) := by decide +kernel
theorem dX4_isGrave_5 : decode cX4_isGrave 5 = .ok (.ldc 31, 2) := by decide +kernel
theorem dX4_isGrave_7 : decode cX4_isGrave 7 = .ok (.if_icmp .ne 7, 3) := by decide +kernel
theorem dX4_isGrave_10 : decode cX4_isGrave 10 = .ok (.iconst 1, 1) := by decide +kernel
theorem dX4_isGrave_11 : decode cX4_isGrave 11 = .ok (.goto 4, 3) := by decide +kernel
theorem dX4_isGrave_14 : decode cX4_isGrave 14 = .ok (.iconst 0, 1) := by decide +kernel
theorem dX4_isGrave_15 : decode cX4_isGrave 15 = .ok (.ireturn, 1) := by decide +kernel
theorem dX4_told_0 : decode cX4_told 0 = .ok (.aload_n 0, 1) := by decide +kernel
theorem dX4_told_1 : decode cX4_told 1 = .ok (.iload_n 1, 1) := by decide +kernel
theorem dX4_told_2 : decode cX4_told 2 = .ok (.invokevirtual 36, 3) := by decide +kernel
theorem dX4_told_5 : decode cX4_told 5 = .ok (.ifCond .ne 6, 3) := by decide +kernel
theorem dX4_told_8 : decode cX4_told 8 = .ok (.ldc 40, 2) := by decide +kernel
theorem dX4_told_10 : decode cX4_told 10 = .ok (.ireturn, 1) := by decide +kernel
theorem dX4_told_11 : decode cX4_told 11 = .ok (.iload_n 2, 1) := by decide +kernel
theorem dX4_told_12 : decode cX4_told 12 = .ok (.tableswitch 46 0 2 #[28, 34, 40], 28) := by decide +kernel
theorem dX4_told_40 : decode cX4_told 40 = .ok (.aload_n 0, 1) := by decide +kernel
theorem dX4_told_41 : decode cX4_told 41 = .ok (.iload_n 1, 1) := by decide +kernel
theorem dX4_told_42 : decode cX4_told 42 = .ok (.invokevirtual 41, 3) := by decide +kernel
theorem dX4_told_45 : decode cX4_told 45 = .ok (.ireturn, 1) := by decide +kernel
theorem dX4_told_46 : decode cX4_told 46 = .ok (.aload_n 0, 1) := by decide +kernel
theorem dX4_told_47 : decode cX4_told 47 = .ok (.iload_n 1, 1) := by decide +kernel
theorem dX4_told_48 : decode cX4_told 48 = .ok (.invokevirtual 44, 3) := by decide +kernel
theorem dX4_told_51 : decode cX4_told 51 = .ok (.ireturn, 1) := by decide +kernel
theorem dX4_told_52 : decode cX4_told 52 = .ok (.aload_n 0, 1) := by decide +kernel
theorem dX4_told_53 : decode cX4_told 53 = .ok (.iload_n 1, 1) := by decide +kernel
theorem dX4_told_54 : decode cX4_told 54 = .ok (.invokevirtual 32, 3) := by decide +kernel
theorem dX4_told_57 : decode cX4_told 57 = .ok (.ireturn, 1) := by decide +kernel
theorem dX4_told_58 : decode cX4_told 58 = .ok (.ldc 40, 2) := by decide +kernel
theorem dX4_told_60 : decode cX4_told 60 = .ok (.ireturn, 1) := by decide +kernel
theorem dX4_setAt_0 : decode cX4_setAt 0 = .ok (.aload_n 0, 1) := by decide +kernel
theorem dX4_setAt_1 : decode cX4_setAt 1 = .ok (.iload_n 1, 1) := by decide +kernel
theorem dX4_setAt_2 : decode cX4_setAt 2 = .ok (.invokevirtual 36, 3) := by decide +kernel
theorem dX4_setAt_5 : decode cX4_setAt 5 = .ok (.ifCond .eq 25, 3) := by decide +kernel
theorem dX4_setAt_8 : decode cX4_setAt 8 = .ok (.aload_n 0, 1) := by decide +kernel
theorem dX4_setAt_9 : decode cX4_setAt 9 = .ok (.getfield 15, 3) := by decide +kernel
theorem dX4_setAt_12 : decode cX4_setAt 12 = .ok (.iload_n 1, 1) := by decide +kernel
theorem dX4_setAt_13 : decode cX4_setAt 13 = .ok (.iload_n 2, 1) := by decide +kernel
theorem dX4_setAt_14 : decode cX4_setAt 14 = .ok (.iastore, 1) := by decide +kernel
theorem dX4_setAt_15 : decode cX4_setAt 15 = .ok (.aload_n 0, 1) := by decide +kernel
theorem dX4_setAt_16 : decode cX4_setAt 16 = .ok (.getfield 21, 3) := by decide +kernel
theorem dX4_setAt_19 : decode cX4_setAt 19 = .ok (.iload_n 1, 1) := by decide +kernel
theorem dX4_setAt_20 : decode cX4_setAt 20 = .ok (.iload_n 3, 1) := by decide +kernel
theorem dX4_setAt_21 : decode cX4_setAt 21 = .ok (.iastore, 1) := by decide +kernel
theorem dX4_setAt_22 : decode cX4_setAt 22 = .ok (.aload_n 0, 1) := by decide +kernel
theorem dX4_setAt_23 : decode cX4_setAt 23 = .ok (.getfield 24, 3) := by decide +kernel
theorem dX4_setAt_26 : decode cX4_setAt 26 = .ok (.iload_n 1, 1) := by decide +kernel
theorem dX4_setAt_27 : decode cX4_setAt 27 = .ok (.iload 4, 2) := by decide +kernel
theorem dX4_setAt_29 : decode cX4_setAt 29 = .ok (.iastore, 1) := by decide +kernel
theorem dX4_setAt_30 : decode cX4_setAt 30 = .ok (.return_, 1) := by decide +kernel
theorem dX4_copyTo_0 : decode cX4_copyTo 0 = .ok (.aload_n 0, 1) := by decide +kernel
theorem dX4_copyTo_1 : decode cX4_copyTo 1 = .ok (.iload_n 1, 1) := by decide +kernel
theorem dX4_copyTo_2 : decode cX4_copyTo 2 = .ok (.aload_n 2, 1) := by decide +kernel
theorem dX4_copyTo_3 : decode cX4_copyTo 3 = .ok (.iload_n 3, 1) := by decide +kernel
theorem dX4_copyTo_4 : decode cX4_copyTo 4 = .ok (.invokevirtual 41, 3) := by decide +kernel
theorem dX4_copyTo_7 : decode cX4_copyTo 7 = .ok (.aload_n 2, 1) := by decide +kernel
theorem dX4_copyTo_8 : decode cX4_copyTo 8 = .ok (.iload_n 3, 1) := by decide +kernel
theorem dX4_copyTo_9 : decode cX4_copyTo 9 = .ok (.invokevirtual 44, 3) := by decide +kernel
theorem dX4_copyTo_12 : decode cX4_copyTo 12 = .ok (.aload_n 2, 1) := by decide +kernel
theorem dX4_copyTo_13 : decode cX4_copyTo 13 = .ok (.iload_n 3, 1) := by decide +kernel
theorem dX4_copyTo_14 : decode cX4_copyTo 14 = .ok (.invokevirtual 32, 3) := by decide +kernel
theorem dX4_copyTo_17 : decode cX4_copyTo 17 = .ok (.invokevirtual 47, 3) := by decide +kernel
theorem dX4_copyTo_20 : decode cX4_copyTo 20 = .ok (.return_, 1) := by decide +kernel
theorem dX4_add_0 : decode cX4_add 0 = .ok (.aload_n 0, 1) := by decide +kernel
theorem dX4_add_1 : decode cX4_add 1 = .ok (.getfield 27, 3) := by decide +kernel
theorem dX4_add_4 : decode cX4_add 4 = .ok (.aload_n 0, 1) := by decide +kernel
theorem dX4_add_5 : decode cX4_add 5 = .ok (.getfield 15, 3) := by decide +kernel
theorem dX4_add_8 : decode cX4_add 8 = .ok (.arraylength, 1) := by decide +kernel
theorem dX4_add_9 : decode cX4_add 9 = .ok (.if_icmp .ge 26, 3) := by decide +kernel
theorem dX4_add_12 : decode cX4_add 12 = .ok (.aload_n 0, 1) := by decide +kernel
theorem dX4_add_13 : decode cX4_add 13 = .ok (.dup, 1) := by decide +kernel
theorem dX4_add_14 : decode cX4_add 14 = .ok (.getfield 27, 3) := by decide +kernel
theorem dX4_add_17 : decode cX4_add 17 = .ok (.iconst 1, 1) := by decide +kernel
theorem dX4_add_18 : decode cX4_add 18 = .ok (.iadd, 1) := by decide +kernel
theorem dX4_add_19 : decode cX4_add 19 = .ok (.putfield 27, 3) := by decide +kernel
theorem dX4_add_22 : decode cX4_add 22 = .ok (.aload_n 0, 1) := by decide +kernel
theorem dX4_add_23 : decode cX4_add 23 = .ok (.aload_n 0, 1) := by decide +kernel
theorem dX4_add_24 : decode cX4_add 24 = .ok (.getfield 27, 3) := by decide +kernel
theorem dX4_add_27 : decode cX4_add 27 = .ok (.iconst 1, 1) := by decide +kernel
theorem dX4_add_28 : decode cX4_add 28 = .ok (.isub, 1) := by decide +kernel
theorem dX4_add_29 : decode cX4_add 29 = .ok (.iload_n 1, 1) := by decide +kernel
theorem dX4_add_30 : decode cX4_add 30 = .ok (.iload_n 2, 1) := by decide +kernel
theorem dX4_add_31 : decode cX4_add 31 = .ok (.iload_n 3, 1) := by decide +kernel
theorem dX4_add_32 : decode cX4_add 32 = .ok (.invokevirtual 47, 3) := by decide +kernel
theorem dX4_add_35 : decode cX4_add 35 = .ok (.return_, 1) := by decide +kernel
theorem dX4_takeAll_0 : decode cX4_takeAll 0 = .ok (.aload_n 0, 1) := by decide +kernel
theorem dX4_takeAll_1 : decode cX4_takeAll 1 = .ok (.aload_n 1, 1) := by decide +kernel
theorem dX4_takeAll_2 : decode cX4_takeAll 2 = .ok (.getfield 27, 3) := by decide +kernel
theorem dX4_takeAll_5 : decode cX4_takeAll 5 = .ok (.aload_n 0, 1) := by decide +kernel
theorem dX4_takeAll_6 : decode cX4_takeAll 6 = .ok (.getfield 15, 3) := by decide +kernel
theorem dX4_takeAll_9 : decode cX4_takeAll 9 = .ok (.arraylength, 1) := by decide +kernel
theorem dX4_takeAll_10 : decode cX4_takeAll 10 = .ok (.invokestatic 51, 3) := by decide +kernel
theorem dX4_takeAll_13 : decode cX4_takeAll 13 = .ok (.putfield 27, 3) := by decide +kernel
theorem dX4_takeAll_16 : decode cX4_takeAll 16 = .ok (.iconst 0, 1) := by decide +kernel
theorem dX4_takeAll_17 : decode cX4_takeAll 17 = .ok (.istore_n 2, 1) := by decide +kernel
theorem dX4_takeAll_18 : decode cX4_takeAll 18 = .ok (.iload_n 2, 1) := by decide +kernel
theorem dX4_takeAll_19 : decode cX4_takeAll 19 = .ok (.aload_n 0, 1) := by decide +kernel
theorem dX4_takeAll_20 : decode cX4_takeAll 20 = .ok (.getfield 27, 3) := by decide +kernel
theorem dX4_takeAll_23 : decode cX4_takeAll 23 = .ok (.if_icmp .ge 16, 3) := by decide +kernel
theorem dX4_takeAll_26 : decode cX4_takeAll 26 = .ok (.aload_n 0, 1) := by decide +kernel
theorem dX4_takeAll_27 : decode cX4_takeAll 27 = .ok (.iload_n 2, 1) := by decide +kernel
theorem dX4_takeAll_28 : decode cX4_takeAll 28 = .ok (.aload_n 1, 1) := by decide +kernel
theorem dX4_takeAll_29 : decode cX4_takeAll 29 = .ok (.iload_n 2, 1) := by decide +kernel
theorem dX4_takeAll_30 : decode cX4_takeAll 30 = .ok (.invokevirtual 54, 3) := by decide +kernel
theorem dX4_takeAll_33 : decode cX4_takeAll 33 = .ok (.iinc 2 1, 3) := by decide +kernel
theorem dX4_takeAll_36 : decode cX4_takeAll 36 = .ok (.goto (-18), 3) := by decide +kernel
theorem dX4_takeAll_39 : decode cX4_takeAll 39 = .ok (.return_, 1) := by decide +kernel
theorem dX4_standsBehind_0 : decode cX4_standsBehind 0 = .ok (.aload_n 0, 1) := by decide +kernel
theorem dX4_standsBehind_1 : decode cX4_standsBehind 1 = .ok (.iload_n 1, 1) := by decide +kernel
theorem dX4_standsBehind_2 : decode cX4_standsBehind 2 = .ok (.invokevirtual 41, 3) := by decide +kernel
theorem dX4_standsBehind_5 : decode cX4_standsBehind 5 = .ok (.iload_n 2, 1) := by decide +kernel
theorem dX4_standsBehind_6 : decode cX4_standsBehind 6 = .ok (.if_icmp .gt 21, 3) := by decide +kernel
theorem dX4_standsBehind_9 : decode cX4_standsBehind 9 = .ok (.aload_n 0, 1) := by decide +kernel
theorem dX4_standsBehind_10 : decode cX4_standsBehind 10 = .ok (.iload_n 1, 1) := by decide +kernel
theorem dX4_standsBehind_11 : decode cX4_standsBehind 11 = .ok (.invokevirtual 41, 3) := by decide +kernel
theorem dX4_standsBehind_14 : decode cX4_standsBehind 14 = .ok (.iload_n 2, 1) := by decide +kernel
theorem dX4_standsBehind_15 : decode cX4_standsBehind 15 = .ok (.if_icmp .ne 16, 3) := by decide +kernel
theorem dX4_standsBehind_18 : decode cX4_standsBehind 18 = .ok (.aload_n 0, 1) := by decide +kernel
theorem dX4_standsBehind_19 : decode cX4_standsBehind 19 = .ok (.iload_n 1, 1) := by decide +kernel
theorem dX4_standsBehind_20 : decode cX4_standsBehind 20 = .ok (.invokevirtual 44, 3) := by decide +kernel
theorem dX4_standsBehind_23 : decode cX4_standsBehind 23 = .ok (.iload_n 3, 1) := by decide +kernel
theorem dX4_standsBehind_24 : decode cX4_standsBehind 24 = .ok (.if_icmp .ge 7, 3) := by decide +kernel
theorem dX4_standsBehind_27 : decode cX4_standsBehind 27 = .ok (.iconst 1, 1) := by decide +kernel
theorem dX4_standsBehind_28 : decode cX4_standsBehind 28 = .ok (.goto 4, 3) := by decide +kernel
theorem dX4_standsBehind_31 : decode cX4_standsBehind 31 = .ok (.iconst 0, 1) := by decide +kernel
theorem dX4_standsBehind_32 : decode cX4_standsBehind 32 = .ok (.ireturn, 1) := by decide +kernel
theorem dX4_insert_0 : decode cX4_insert 0 = .ok (.aload_n 0, 1) := by decide +kernel
theorem dX4_insert_1 : decode cX4_insert 1 = .ok (.getfield 27, 3) := by decide +kernel
theorem dX4_insert_4 : decode cX4_insert 4 = .ok (.aload_n 0, 1) := by decide +kernel
theorem dX4_insert_5 : decode cX4_insert 5 = .ok (.getfield 15, 3) := by decide +kernel
theorem dX4_insert_8 : decode cX4_insert 8 = .ok (.arraylength, 1) := by decide +kernel
theorem dX4_insert_9 : decode cX4_insert 9 = .ok (.if_icmp .lt 4, 3) := by decide +kernel
theorem dX4_insert_12 : decode cX4_insert 12 = .ok (.return_, 1) := by decide +kernel
theorem dX4_insert_13 : decode cX4_insert 13 = .ok (.aload_n 0, 1) := by decide +kernel
theorem dX4_insert_14 : decode cX4_insert 14 = .ok (.dup, 1) := by decide +kernel
theorem dX4_insert_15 : decode cX4_insert 15 = .ok (.getfield 27, 3) := by decide +kernel
theorem dX4_insert_18 : decode cX4_insert 18 = .ok (.iconst 1, 1) := by decide +kernel
theorem dX4_insert_19 : decode cX4_insert 19 = .ok (.iadd, 1) := by decide +kernel
theorem dX4_insert_20 : decode cX4_insert 20 = .ok (.putfield 27, 3) := by decide +kernel
theorem dX4_insert_23 : decode cX4_insert 23 = .ok (.aload_n 0, 1) := by decide +kernel
theorem dX4_insert_24 : decode cX4_insert 24 = .ok (.getfield 27, 3) := by decide +kernel
theorem dX4_insert_27 : decode cX4_insert 27 = .ok (.iconst 1, 1) := by decide +kernel
theorem dX4_insert_28 : decode cX4_insert 28 = .ok (.isub, 1) := by decide +kernel
theorem dX4_insert_29 : decode cX4_insert 29 = .ok (.istore 4, 2) := by decide +kernel
theorem dX4_insert_31 : decode cX4_insert 31 = .ok (.iload 4, 2) := by decide +kernel
theorem dX4_insert_33 : decode cX4_insert 33 = .ok (.ifCond .le 33, 3) := by decide +kernel
theorem dX4_insert_36 : decode cX4_insert 36 = .ok (.aload_n 0, 1) := by decide +kernel
theorem dX4_insert_37 : decode cX4_insert 37 = .ok (.iload 4, 2) := by decide +kernel
theorem dX4_insert_39 : decode cX4_insert 39 = .ok (.iconst 1, 1) := by decide +kernel
theorem dX4_insert_40 : decode cX4_insert 40 = .ok (.isub, 1) := by decide +kernel
theorem dX4_insert_41 : decode cX4_insert 41 = .ok (.iload_n 1, 1) := by decide +kernel
theorem dX4_insert_42 : decode cX4_insert 42 = .ok (.iload_n 2, 1) := by decide +kernel
theorem dX4_insert_43 : decode cX4_insert 43 = .ok (.invokevirtual 58, 3) := by decide +kernel
theorem dX4_insert_46 : decode cX4_insert 46 = .ok (.ifCond .eq 20, 3) := by decide +kernel
theorem dX4_insert_49 : decode cX4_insert 49 = .ok (.aload_n 0, 1) := by decide +kernel
theorem dX4_insert_50 : decode cX4_insert 50 = .ok (.iload 4, 2) := by decide +kernel
theorem dX4_insert_52 : decode cX4_insert 52 = .ok (.aload_n 0, 1) := by decide +kernel
theorem dX4_insert_53 : decode cX4_insert 53 = .ok (.iload 4, 2) := by decide +kernel
theorem dX4_insert_55 : decode cX4_insert 55 = .ok (.iconst 1, 1) := by decide +kernel
theorem dX4_insert_56 : decode cX4_insert 56 = .ok (.isub, 1) := by decide +kernel
theorem dX4_insert_57 : decode cX4_insert 57 = .ok (.invokevirtual 54, 3) := by decide +kernel
theorem dX4_insert_60 : decode cX4_insert 60 = .ok (.iinc 4 (-1), 3) := by decide +kernel
theorem dX4_insert_63 : decode cX4_insert 63 = .ok (.goto (-32), 3) := by decide +kernel
theorem dX4_insert_66 : decode cX4_insert 66 = .ok (.aload_n 0, 1) := by decide +kernel
theorem dX4_insert_67 : decode cX4_insert 67 = .ok (.iload 4, 2) := by decide +kernel
theorem dX4_insert_69 : decode cX4_insert 69 = .ok (.iload_n 1, 1) := by decide +kernel
theorem dX4_insert_70 : decode cX4_insert 70 = .ok (.iload_n 2, 1) := by decide +kernel
theorem dX4_insert_71 : decode cX4_insert 71 = .ok (.iload_n 3, 1) := by decide +kernel
theorem dX4_insert_72 : decode cX4_insert 72 = .ok (.invokevirtual 47, 3) := by decide +kernel
theorem dX4_insert_75 : decode cX4_insert 75 = .ok (.return_, 1) := by decide +kernel
theorem dX4_mergeIn_0 : decode cX4_mergeIn 0 = .ok (.aload_n 0, 1) := by decide +kernel
theorem dX4_mergeIn_1 : decode cX4_mergeIn 1 = .ok (.getfield 27, 3) := by decide +kernel
theorem dX4_mergeIn_4 : decode cX4_mergeIn 4 = .ok (.iconst 1, 1) := by decide +kernel
theorem dX4_mergeIn_5 : decode cX4_mergeIn 5 = .ok (.isub, 1) := by decide +kernel
theorem dX4_mergeIn_6 : decode cX4_mergeIn 6 = .ok (.istore_n 2, 1) := by decide +kernel
theorem dX4_mergeIn_7 : decode cX4_mergeIn 7 = .ok (.aload_n 1, 1) := by decide +kernel
theorem dX4_mergeIn_8 : decode cX4_mergeIn 8 = .ok (.getfield 27, 3) := by decide +kernel
theorem dX4_mergeIn_11 : decode cX4_mergeIn 11 = .ok (.iconst 1, 1) := by decide +kernel
theorem dX4_mergeIn_12 : decode cX4_mergeIn 12 = .ok (.isub, 1) := by decide +kernel
theorem dX4_mergeIn_13 : decode cX4_mergeIn 13 = .ok (.istore_n 3, 1) := by decide +kernel
theorem dX4_mergeIn_14 : decode cX4_mergeIn 14 = .ok (.aload_n 0, 1) := by decide +kernel
theorem dX4_mergeIn_15 : decode cX4_mergeIn 15 = .ok (.getfield 27, 3) := by decide +kernel
theorem dX4_mergeIn_18 : decode cX4_mergeIn 18 = .ok (.aload_n 1, 1) := by decide +kernel
theorem dX4_mergeIn_19 : decode cX4_mergeIn 19 = .ok (.getfield 27, 3) := by decide +kernel
theorem dX4_mergeIn_22 : decode cX4_mergeIn 22 = .ok (.iadd, 1) := by decide +kernel
theorem dX4_mergeIn_23 : decode cX4_mergeIn 23 = .ok (.istore 4, 2) := by decide +kernel
theorem dX4_mergeIn_25 : decode cX4_mergeIn 25 = .ok (.iload 4, 2) := by decide +kernel
theorem dX4_mergeIn_27 : decode cX4_mergeIn 27 = .ok (.aload_n 0, 1) := by decide +kernel
theorem dX4_mergeIn_28 : decode cX4_mergeIn 28 = .ok (.getfield 15, 3) := by decide +kernel
theorem dX4_mergeIn_31 : decode cX4_mergeIn 31 = .ok (.arraylength, 1) := by decide +kernel
theorem dX4_mergeIn_32 : decode cX4_mergeIn 32 = .ok (.if_icmp .le 4, 3) := by decide +kernel
theorem dX4_mergeIn_35 : decode cX4_mergeIn 35 = .ok (.return_, 1) := by decide +kernel
theorem dX4_mergeIn_36 : decode cX4_mergeIn 36 = .ok (.aload_n 0, 1) := by decide +kernel
theorem dX4_mergeIn_37 : decode cX4_mergeIn 37 = .ok (.iload 4, 2) := by decide +kernel
theorem dX4_mergeIn_39 : decode cX4_mergeIn 39 = .ok (.putfield 27, 3) := by decide +kernel
theorem dX4_mergeIn_42 : decode cX4_mergeIn 42 = .ok (.iload 4, 2) := by decide +kernel
theorem dX4_mergeIn_44 : decode cX4_mergeIn 44 = .ok (.iconst 1, 1) := by decide +kernel
theorem dX4_mergeIn_45 : decode cX4_mergeIn 45 = .ok (.isub, 1) := by decide +kernel
theorem dX4_mergeIn_46 : decode cX4_mergeIn 46 = .ok (.istore 5, 2) := by decide +kernel
theorem dX4_mergeIn_48 : decode cX4_mergeIn 48 = .ok (.iload 5, 2) := by decide +kernel
theorem dX4_mergeIn_50 : decode cX4_mergeIn 50 = .ok (.ifCond .lt 60, 3) := by decide +kernel
theorem dX4_mergeIn_53 : decode cX4_mergeIn 53 = .ok (.iload_n 3, 1) := by decide +kernel
theorem dX4_mergeIn_54 : decode cX4_mergeIn 54 = .ok (.ifCond .lt 56, 3) := by decide +kernel
theorem dX4_mergeIn_57 : decode cX4_mergeIn 57 = .ok (.iload_n 2, 1) := by decide +kernel
theorem dX4_mergeIn_58 : decode cX4_mergeIn 58 = .ok (.ifCond .lt 35, 3) := by decide +kernel
theorem dX4_mergeIn_61 : decode cX4_mergeIn 61 = .ok (.aload_n 0, 1) := by decide +kernel
theorem dX4_mergeIn_62 : decode cX4_mergeIn 62 = .ok (.iload_n 2, 1) := by decide +kernel
theorem dX4_mergeIn_63 : decode cX4_mergeIn 63 = .ok (.aload_n 1, 1) := by decide +kernel
theorem dX4_mergeIn_64 : decode cX4_mergeIn 64 = .ok (.iload_n 3, 1) := by decide +kernel
theorem dX4_mergeIn_65 : decode cX4_mergeIn 65 = .ok (.invokevirtual 41, 3) := by decide +kernel
theorem dX4_mergeIn_68 : decode cX4_mergeIn 68 = .ok (.aload_n 1, 1) := by decide +kernel
theorem dX4_mergeIn_69 : decode cX4_mergeIn 69 = .ok (.iload_n 3, 1) := by decide +kernel
theorem dX4_mergeIn_70 : decode cX4_mergeIn 70 = .ok (.invokevirtual 44, 3) := by decide +kernel
theorem dX4_mergeIn_73 : decode cX4_mergeIn 73 = .ok (.invokevirtual 58, 3) := by decide +kernel
theorem dX4_mergeIn_76 : decode cX4_mergeIn 76 = .ok (.ifCond .eq 17, 3) := by decide +kernel
theorem dX4_mergeIn_79 : decode cX4_mergeIn 79 = .ok (.aload_n 0, 1) := by decide +kernel
theorem dX4_mergeIn_80 : decode cX4_mergeIn 80 = .ok (.iload 5, 2) := by decide +kernel
theorem dX4_mergeIn_82 : decode cX4_mergeIn 82 = .ok (.aload_n 0, 1) := by decide +kernel
theorem dX4_mergeIn_83 : decode cX4_mergeIn 83 = .ok (.iload_n 2, 1) := by decide +kernel
theorem dX4_mergeIn_84 : decode cX4_mergeIn 84 = .ok (.invokevirtual 54, 3) := by decide +kernel
theorem dX4_mergeIn_87 : decode cX4_mergeIn 87 = .ok (.iinc 2 (-1), 3) := by decide +kernel
theorem dX4_mergeIn_90 : decode cX4_mergeIn 90 = .ok (.goto 14, 3) := by decide +kernel
theorem dX4_mergeIn_93 : decode cX4_mergeIn 93 = .ok (.aload_n 0, 1) := by decide +kernel
theorem dX4_mergeIn_94 : decode cX4_mergeIn 94 = .ok (.iload 5, 2) := by decide +kernel
theorem dX4_mergeIn_96 : decode cX4_mergeIn 96 = .ok (.aload_n 1, 1) := by decide +kernel
theorem dX4_mergeIn_97 : decode cX4_mergeIn 97 = .ok (.iload_n 3, 1) := by decide +kernel
theorem dX4_mergeIn_98 : decode cX4_mergeIn 98 = .ok (.invokevirtual 54, 3) := by decide +kernel
theorem dX4_mergeIn_101 : decode cX4_mergeIn 101 = .ok (.iinc 3 (-1), 3) := by decide +kernel
theorem dX4_mergeIn_104 : decode cX4_mergeIn 104 = .ok (.iinc 5 (-1), 3) := by decide +kernel
theorem dX4_mergeIn_107 : decode cX4_mergeIn 107 = .ok (.goto (-59), 3) := by decide +kernel
theorem dX4_mergeIn_110 : decode cX4_mergeIn 110 = .ok (.return_, 1) := by decide +kernel
theorem dX4_loseFirst_0 : decode cX4_loseFirst 0 = .ok (.iconst 0, 1) := by decide +kernel
theorem dX4_loseFirst_1 : decode cX4_loseFirst 1 = .ok (.iload_n 1, 1) := by decide +kernel
theorem dX4_loseFirst_2 : decode cX4_loseFirst 2 = .ok (.aload_n 0, 1) := by decide +kernel
theorem dX4_loseFirst_3 : decode cX4_loseFirst 3 = .ok (.getfield 27, 3) := by decide +kernel
theorem dX4_loseFirst_6 : decode cX4_loseFirst 6 = .ok (.invokestatic 51, 3) := by decide +kernel
theorem dX4_loseFirst_9 : decode cX4_loseFirst 9 = .ok (.invokestatic 9, 3) := by decide +kernel
theorem dX4_loseFirst_12 : decode cX4_loseFirst 12 = .ok (.istore_n 2, 1) := by decide +kernel
theorem dX4_loseFirst_13 : decode cX4_loseFirst 13 = .ok (.iload_n 2, 1) := by decide +kernel
theorem dX4_loseFirst_14 : decode cX4_loseFirst 14 = .ok (.istore_n 3, 1) := by decide +kernel
theorem dX4_loseFirst_15 : decode cX4_loseFirst 15 = .ok (.iload_n 3, 1) := by decide +kernel
theorem dX4_loseFirst_16 : decode cX4_loseFirst 16 = .ok (.aload_n 0, 1) := by decide +kernel
theorem dX4_loseFirst_17 : decode cX4_loseFirst 17 = .ok (.getfield 27, 3) := by decide +kernel
theorem dX4_loseFirst_20 : decode cX4_loseFirst 20 = .ok (.if_icmp .ge 18, 3) := by decide +kernel
theorem dX4_loseFirst_23 : decode cX4_loseFirst 23 = .ok (.aload_n 0, 1) := by decide +kernel
theorem dX4_loseFirst_24 : decode cX4_loseFirst 24 = .ok (.iload_n 3, 1) := by decide +kernel
theorem dX4_loseFirst_25 : decode cX4_loseFirst 25 = .ok (.iload_n 2, 1) := by decide +kernel
theorem dX4_loseFirst_26 : decode cX4_loseFirst 26 = .ok (.isub, 1) := by decide +kernel
theorem dX4_loseFirst_27 : decode cX4_loseFirst 27 = .ok (.aload_n 0, 1) := by decide +kernel
theorem dX4_loseFirst_28 : decode cX4_loseFirst 28 = .ok (.iload_n 3, 1) := by decide +kernel
theorem dX4_loseFirst_29 : decode cX4_loseFirst 29 = .ok (.invokevirtual 54, 3) := by decide +kernel
theorem dX4_loseFirst_32 : decode cX4_loseFirst 32 = .ok (.iinc 3 1, 3) := by decide +kernel
theorem dX4_loseFirst_35 : decode cX4_loseFirst 35 = .ok (.goto (-20), 3) := by decide +kernel
theorem dX4_loseFirst_38 : decode cX4_loseFirst 38 = .ok (.aload_n 0, 1) := by decide +kernel
theorem dX4_loseFirst_39 : decode cX4_loseFirst 39 = .ok (.dup, 1) := by decide +kernel
theorem dX4_loseFirst_40 : decode cX4_loseFirst 40 = .ok (.getfield 27, 3) := by decide +kernel
theorem dX4_loseFirst_43 : decode cX4_loseFirst 43 = .ok (.iload_n 2, 1) := by decide +kernel
theorem dX4_loseFirst_44 : decode cX4_loseFirst 44 = .ok (.isub, 1) := by decide +kernel
theorem dX4_loseFirst_45 : decode cX4_loseFirst 45 = .ok (.putfield 27, 3) := by decide +kernel
theorem dX4_loseFirst_48 : decode cX4_loseFirst 48 = .ok (.return_, 1) := by decide +kernel
theorem dX4_greatestNumber_0 : decode cX4_greatestNumber 0 = .ok (.iconst 0, 1) := by decide +kernel
theorem dX4_greatestNumber_1 : decode cX4_greatestNumber 1 = .ok (.istore_n 1, 1) := by decide +kernel
theorem dX4_greatestNumber_2 : decode cX4_greatestNumber 2 = .ok (.iconst 0, 1) := by decide +kernel
theorem dX4_greatestNumber_3 : decode cX4_greatestNumber 3 = .ok (.istore_n 2, 1) := by decide +kernel
theorem dX4_greatestNumber_4 : decode cX4_greatestNumber 4 = .ok (.iload_n 2, 1) := by decide +kernel
theorem dX4_greatestNumber_5 : decode cX4_greatestNumber 5 = .ok (.aload_n 0, 1) := by decide +kernel
theorem dX4_greatestNumber_6 : decode cX4_greatestNumber 6 = .ok (.getfield 27, 3) := by decide +kernel
theorem dX4_greatestNumber_9 : decode cX4_greatestNumber 9 = .ok (.if_icmp .ge 19, 3) := by decide +kernel
theorem dX4_greatestNumber_12 : decode cX4_greatestNumber 12 = .ok (.iload_n 1, 1) := by decide +kernel
theorem dX4_greatestNumber_13 : decode cX4_greatestNumber 13 = .ok (.aload_n 0, 1) := by decide +kernel
theorem dX4_greatestNumber_14 : decode cX4_greatestNumber 14 = .ok (.iload_n 2, 1) := by decide +kernel
theorem dX4_greatestNumber_15 : decode cX4_greatestNumber 15 = .ok (.invokevirtual 44, 3) := by decide +kernel
theorem dX4_greatestNumber_18 : decode cX4_greatestNumber 18 = .ok (.invokestatic 9, 3) := by decide +kernel
theorem dX4_greatestNumber_21 : decode cX4_greatestNumber 21 = .ok (.istore_n 1, 1) := by decide +kernel
theorem dX4_greatestNumber_22 : decode cX4_greatestNumber 22 = .ok (.iinc 2 1, 3) := by decide +kernel
theorem dX4_greatestNumber_25 : decode cX4_greatestNumber 25 = .ok (.goto (-21), 3) := by decide +kernel
theorem dX4_greatestNumber_28 : decode cX4_greatestNumber 28 = .ok (.iload_n 1, 1) := by decide +kernel
theorem dX4_greatestNumber_29 : decode cX4_greatestNumber 29 = .ok (.ireturn, 1) := by decide +kernel
theorem dX5_init_0 : decode cX5_init 0 = .ok (.aload_n 0, 1) := by decide +kernel
theorem dX5_init_1 : decode cX5_init 1 = .ok (.invokespecial 3, 3) := by decide +kernel
theorem dX5_init_4 : decode cX5_init 4 = .ok (.aload_n 0, 1) := by decide +kernel
theorem dX5_init_5 : decode cX5_init 5 = .ok (.new 9, 3) := by decide +kernel
theorem dX5_init_8 : decode cX5_init 8 = .ok (.dup, 1) := by decide +kernel
theorem dX5_init_9 : decode cX5_init 9 = .ok (.bipush 24, 2) := by decide +kernel
theorem dX5_init_11 : decode cX5_init 11 = .ok (.invokespecial 11, 3) := by decide +kernel
theorem dX5_init_14 : decode cX5_init 14 = .ok (.putfield 14, 3) := by decide +kernel
theorem dX5_init_17 : decode cX5_init 17 = .ok (.return_, 1) := by decide +kernel
theorem dX5_leastKey_0 : decode cX5_leastKey 0 = .ok (.aload_n 0, 1) := by decide +kernel
theorem dX5_leastKey_1 : decode cX5_leastKey 1 = .ok (.getfield 14, 3) := by decide +kernel
theorem dX5_leastKey_4 : decode cX5_leastKey 4 = .ok (.iconst 0, 1) := by decide +kernel
theorem dX5_leastKey_5 : decode cX5_leastKey 5 = .ok (.invokevirtual 20, 3) := by decide +kernel
theorem dX5_leastKey_8 : decode cX5_leastKey 8 = .ok (.ireturn, 1) := by decide +kernel
theorem dX5_greatestKey_0 : decode cX5_greatestKey 0 = .ok (.aload_n 0, 1) := by decide +kernel
theorem dX5_greatestKey_1 : decode cX5_greatestKey 1 = .ok (.getfield 14, 3) := by decide +kernel
theorem dX5_greatestKey_4 : decode cX5_greatestKey 4 = .ok (.aload_n 0, 1) := by decide +kernel
theorem dX5_greatestKey_5 : decode cX5_greatestKey 5 = .ok (.getfield 14, 3) := by decide +kernel
theorem dX5_greatestKey_8 : decode cX5_greatestKey 8 = .ok (.getfield 24, 3) := by decide +kernel
theorem dX5_greatestKey_11 : decode cX5_greatestKey 11 = .ok (.iconst 1, 1) := by decide +kernel
theorem dX5_greatestKey_12 : decode cX5_greatestKey 12 = .ok (.isub, 1) := by decide +kernel
theorem dX5_greatestKey_13 : decode cX5_greatestKey 13 = .ok (.invokevirtual 20, 3) := by decide +kernel
theorem dX5_greatestKey_16 : decode cX5_greatestKey 16 = .ok (.ireturn, 1) := by decide +kernel
theorem dX6_init_0 : decode cX6_init 0 = .ok (.aload_n 0, 1) := by decide +kernel
theorem dX6_init_1 : decode cX6_init 1 = .ok (.invokespecial 3, 3) := by decide +kernel
theorem dX6_init_4 : decode cX6_init 4 = .ok (.aload_n 0, 1) := by decide +kernel
theorem dX6_init_5 : decode cX6_init 5 = .ok (.new 9, 3) := by decide +kernel
theorem dX6_init_8 : decode cX6_init 8 = .ok (.dup, 1) := by decide +kernel
theorem dX6_init_9 : decode cX6_init 9 = .ok (.bipush 24, 2) := by decide +kernel
theorem dX6_init_11 : decode cX6_init 11 = .ok (.invokespecial 11, 3) := by decide +kernel
theorem dX6_init_14 : decode cX6_init 14 = .ok (.putfield 14, 3) := by decide +kernel
theorem dX6_init_17 : decode cX6_init 17 = .ok (.aload_n 0, 1) := by decide +kernel
theorem dX6_init_18 : decode cX6_init 18 = .ok (.iconst 3, 1) := by decide +kernel
theorem dX6_init_19 : decode cX6_init 19 = .ok (.newarray .int, 2) := by decide +kernel
theorem dX6_init_21 : decode cX6_init 21 = .ok (.dup, 1) := by decide +kernel
theorem dX6_init_22 : decode cX6_init 22 = .ok (.iconst 0, 1) := by decide +kernel
theorem dX6_init_23 : decode cX6_init 23 = .ok (.iconst (-1), 1) := by decide +kernel
theorem dX6_init_24 : decode cX6_init 24 = .ok (.iastore, 1) := by decide +kernel
theorem dX6_init_25 : decode cX6_init 25 = .ok (.dup, 1) := by decide +kernel
theorem dX6_init_26 : decode cX6_init 26 = .ok (.iconst 1, 1) := by decide +kernel
theorem dX6_init_27 : decode cX6_init 27 = .ok (.iconst (-1), 1) := by decide +kernel
theorem dX6_init_28 : decode cX6_init 28 = .ok (.iastore, 1) := by decide +kernel
theorem dX6_init_29 : decode cX6_init 29 = .ok (.dup, 1) := by decide +kernel
theorem dX6_init_30 : decode cX6_init 30 = .ok (.iconst 2, 1) := by decide +kernel
theorem dX6_init_31 : decode cX6_init 31 = .ok (.iconst (-1), 1) := by decide +kernel
theorem dX6_init_32 : decode cX6_init 32 = .ok (.iastore, 1) := by decide +kernel
theorem dX6_init_33 : decode cX6_init 33 = .ok (.putfield 18, 3) := by decide +kernel
theorem dX6_init_36 : decode cX6_init 36 = .ok (.aload_n 0, 1) := by decide +kernel
theorem dX6_init_37 : decode cX6_init 37 = .ok (.iconst 4, 1) := by decide +kernel
theorem dX6_init_38 : decode cX6_init 38 = .ok (.anewarray 22, 3) := by decide +kernel
theorem dX6_init_41 : decode cX6_init 41 = .ok (.dup, 1) := by decide +kernel
theorem dX6_init_42 : decode cX6_init 42 = .ok (.iconst 0, 1) := by decide +kernel
theorem dX6_init_43 : decode cX6_init 43 = .ok (.new 22, 3) := by decide +kernel
theorem dX6_init_46 : decode cX6_init 46 = .ok (.dup, 1) := by decide +kernel
theorem dX6_init_47 : decode cX6_init 47 = .ok (.invokespecial 24, 3) := by decide +kernel
theorem dX6_init_50 : decode cX6_init 50 = .ok (.aastore, 1) := by decide +kernel
theorem dX6_init_51 : decode cX6_init 51 = .ok (.dup, 1) := by decide +kernel
theorem dX6_init_52 : decode cX6_init 52 = .ok (.iconst 1, 1) := by decide +kernel
theorem dX6_init_53 : decode cX6_init 53 = .ok (.new 22, 3) := by decide +kernel
theorem dX6_init_56 : decode cX6_init 56 = .ok (.dup, 1) := by decide +kernel
theorem dX6_init_57 : decode cX6_init 57 = .ok (.invokespecial 24, 3) := by decide +kernel
theorem dX6_init_60 : decode cX6_init 60 = .ok (.aastore, 1) := by decide +kernel
theorem dX6_init_61 : decode cX6_init 61 = .ok (.dup, 1) := by decide +kernel
theorem dX6_init_62 : decode cX6_init 62 = .ok (.iconst 2, 1) := by decide +kernel
theorem dX6_init_63 : decode cX6_init 63 = .ok (.new 22, 3) := by decide +kernel
theorem dX6_init_66 : decode cX6_init 66 = .ok (.dup, 1) := by decide +kernel
theorem dX6_init_67 : decode cX6_init 67 = .ok (.invokespecial 24, 3) := by decide +kernel
theorem dX6_init_70 : decode cX6_init 70 = .ok (.aastore, 1) := by decide +kernel
theorem dX6_init_71 : decode cX6_init 71 = .ok (.dup, 1) := by decide +kernel
theorem dX6_init_72 : decode cX6_init 72 = .ok (.iconst 3, 1) := by decide +kernel
theorem dX6_init_73 : decode cX6_init 73 = .ok (.new 22, 3) := by decide +kernel
theorem dX6_init_76 : decode cX6_init 76 = .ok (.dup, 1) := by decide +kernel
theorem dX6_init_77 : decode cX6_init 77 = .ok (.invokespecial 24, 3) := by decide +kernel
theorem dX6_init_80 : decode cX6_init 80 = .ok (.aastore, 1) := by decide +kernel
theorem dX6_init_81 : decode cX6_init 81 = .ok (.putfield 25, 3) := by decide +kernel
theorem dX6_init_84 : decode cX6_init 84 = .ok (.aload_n 0, 1) := by decide +kernel
theorem dX6_init_85 : decode cX6_init 85 = .ok (.new 22, 3) := by decide +kernel
theorem dX6_init_88 : decode cX6_init 88 = .ok (.dup, 1) := by decide +kernel
theorem dX6_init_89 : decode cX6_init 89 = .ok (.invokespecial 24, 3) := by decide +kernel
theorem dX6_init_92 : decode cX6_init 92 = .ok (.putfield 29, 3) := by decide +kernel
theorem dX6_init_95 : decode cX6_init 95 = .ok (.aload_n 0, 1) := by decide +kernel
theorem dX6_init_96 : decode cX6_init 96 = .ok (.new 33, 3) := by decide +kernel
theorem dX6_init_99 : decode cX6_init 99 = .ok (.dup, 1) := by decide +kernel
theorem dX6_init_100 : decode cX6_init 100 = .ok (.invokespecial 35, 3) := by decide +kernel
theorem dX6_init_103 : decode cX6_init 103 = .ok (.putfield 36, 3) := by decide +kernel
theorem dX6_init_106 : decode cX6_init 106 = .ok (.aload_n 0, 1) := by decide +kernel
theorem dX6_init_107 : decode cX6_init 107 = .ok (.new 40, 3) := by decide +kernel
theorem dX6_init_110 : decode cX6_init 110 = .ok (.dup, 1) := by decide +kernel
theorem dX6_init_111 : decode cX6_init 111 = .ok (.invokespecial 42, 3) := by decide +kernel
theorem dX6_init_114 : decode cX6_init 114 = .ok (.putfield 43, 3) := by decide +kernel
theorem dX6_init_117 : decode cX6_init 117 = .ok (.aload_n 0, 1) := by decide +kernel
theorem dX6_init_118 : decode cX6_init 118 = .ok (.new 47, 3) := by decide +kernel
theorem dX6_init_121 : decode cX6_init 121 = .ok (.dup, 1) := by decide +kernel
theorem dX6_init_122 : decode cX6_init 122 = .ok (.invokespecial 49, 3) := by decide +kernel
theorem dX6_init_125 : decode cX6_init 125 = .ok (.putfield 50, 3) := by decide +kernel
theorem dX6_init_128 : decode cX6_init 128 = .ok (.return_, 1) := by decide +kernel
theorem dX6_put_0 : decode cX6_put 0 = .ok (.iload_n 1, 1) := by decide +kernel
theorem dX6_put_1 : decode cX6_put 1 = .ok (.invokestatic 54, 3) := by decide +kernel
theorem dX6_put_4 : decode cX6_put 4 = .ok (.ifCond .eq 15, 3) := by decide +kernel
theorem dX6_put_7 : decode cX6_put 7 = .ok (.iload_n 2, 1) := by decide +kernel
theorem dX6_put_8 : decode cX6_put 8 = .ok (.ldc 58, 2) := by decide +kernel
theorem dX6_put_10 : decode cX6_put 10 = .ok (.if_icmp .lt 9, 3) := by decide +kernel
theorem dX6_put_13 : decode cX6_put 13 = .ok (.iload_n 2, 1) := by decide +kernel
theorem dX6_put_14 : decode cX6_put 14 = .ok (.ldc 59, 2) := by decide +kernel
theorem dX6_put_16 : decode cX6_put 16 = .ok (.if_icmp .le 6, 3) := by decide +kernel
theorem dX6_put_19 : decode cX6_put 19 = .ok (.ldc 60, 2) := by decide +kernel
theorem dX6_put_21 : decode cX6_put 21 = .ok (.ireturn, 1) := by decide +kernel
theorem dX6_put_22 : decode cX6_put 22 = .ok (.aload_n 0, 1) := by decide +kernel
theorem dX6_put_23 : decode cX6_put 23 = .ok (.iload_n 1, 1) := by decide +kernel
theorem dX6_put_24 : decode cX6_put 24 = .ok (.iload_n 2, 1) := by decide +kernel
theorem dX6_put_25 : decode cX6_put 25 = .ok (.invokevirtual 61, 3) := by decide +kernel
theorem dX6_put_28 : decode cX6_put 28 = .ok (.ireturn, 1) := by decide +kernel
theorem dX6_drop_0 : decode cX6_drop 0 = .ok (.iload_n 1, 1) := by decide +kernel
theorem dX6_drop_1 : decode cX6_drop 1 = .ok (.invokestatic 54, 3) := by decide +kernel
theorem dX6_drop_4 : decode cX6_drop 4 = .ok (.ifCond .ne 6, 3) := by decide +kernel
theorem dX6_drop_7 : decode cX6_drop 7 = .ok (.ldc 60, 2) := by decide +kernel
theorem dX6_drop_9 : decode cX6_drop 9 = .ok (.ireturn, 1) := by decide +kernel
theorem dX6_drop_10 : decode cX6_drop 10 = .ok (.aload_n 0, 1) := by decide +kernel
theorem dX6_drop_11 : decode cX6_drop 11 = .ok (.iload_n 1, 1) := by decide +kernel
theorem dX6_drop_12 : decode cX6_drop 12 = .ok (.ldc 65, 2) := by decide +kernel
theorem dX6_drop_14 : decode cX6_drop 14 = .ok (.invokevirtual 61, 3) := by decide +kernel
theorem dX6_drop_17 : decode cX6_drop 17 = .ok (.ireturn, 1) := by decide +kernel
theorem dX6_sync_0 : decode cX6_sync 0 = .ok (.aload_n 0, 1) := by decide +kernel
theorem dX6_sync_1 : decode cX6_sync 1 = .ok (.getfield 14, 3) := by decide +kernel
theorem dX6_sync_4 : decode cX6_sync 4 = .ok (.getfield 66, 3) := by decide +kernel
theorem dX6_sync_7 : decode cX6_sync 7 = .ok (.aload_n 0, 1) := by decide +kernel
theorem dX6_sync_8 : decode cX6_sync 8 = .ok (.getfield 70, 3) := by decide +kernel
theorem dX6_sync_11 : decode cX6_sync 11 = .ok (.isub, 1) := by decide +kernel
theorem dX6_sync_12 : decode cX6_sync 12 = .ok (.istore_n 1, 1) := by decide +kernel
theorem dX6_sync_13 : decode cX6_sync 13 = .ok (.aload_n 0, 1) := by decide +kernel
theorem dX6_sync_14 : decode cX6_sync 14 = .ok (.aload_n 0, 1) := by decide +kernel
theorem dX6_sync_15 : decode cX6_sync 15 = .ok (.getfield 14, 3) := by decide +kernel
theorem dX6_sync_18 : decode cX6_sync 18 = .ok (.getfield 66, 3) := by decide +kernel
theorem dX6_sync_21 : decode cX6_sync 21 = .ok (.putfield 70, 3) := by decide +kernel
theorem dX6_sync_24 : decode cX6_sync 24 = .ok (.iload_n 1, 1) := by decide +kernel
theorem dX6_sync_25 : decode cX6_sync 25 = .ok (.ireturn, 1) := by decide +kernel
theorem dX6_crash_0 : decode cX6_crash 0 = .ok (.iload_n 1, 1) := by decide +kernel
theorem dX6_crash_1 : decode cX6_crash 1 = .ok (.ifCond .lt 19, 3) := by decide +kernel
theorem dX6_crash_4 : decode cX6_crash 4 = .ok (.iload_n 1, 1) := by decide +kernel
theorem dX6_crash_5 : decode cX6_crash 5 = .ok (.aload_n 0, 1) := by decide +kernel
theorem dX6_crash_6 : decode cX6_crash 6 = .ok (.getfield 14, 3) := by decide +kernel
theorem dX6_crash_9 : decode cX6_crash 9 = .ok (.getfield 66, 3) := by decide +kernel
theorem dX6_crash_12 : decode cX6_crash 12 = .ok (.aload_n 0, 1) := by decide +kernel
theorem dX6_crash_13 : decode cX6_crash 13 = .ok (.getfield 70, 3) := by decide +kernel
theorem dX6_crash_16 : decode cX6_crash 16 = .ok (.isub, 1) := by decide +kernel
theorem dX6_crash_17 : decode cX6_crash 17 = .ok (.if_icmp .le 6, 3) := by decide +kernel
theorem dX6_crash_20 : decode cX6_crash 20 = .ok (.ldc 60, 2) := by decide +kernel
theorem dX6_crash_22 : decode cX6_crash 22 = .ok (.ireturn, 1) := by decide +kernel
theorem dX6_crash_23 : decode cX6_crash 23 = .ok (.aload_n 0, 1) := by decide +kernel
theorem dX6_crash_24 : decode cX6_crash 24 = .ok (.getfield 14, 3) := by decide +kernel
theorem dX6_crash_27 : decode cX6_crash 27 = .ok (.aload_n 0, 1) := by decide +kernel
theorem dX6_crash_28 : decode cX6_crash 28 = .ok (.getfield 70, 3) := by decide +kernel
theorem dX6_crash_31 : decode cX6_crash 31 = .ok (.iload_n 1, 1) := by decide +kernel
theorem dX6_crash_32 : decode cX6_crash 32 = .ok (.iadd, 1) := by decide +kernel
theorem dX6_crash_33 : decode cX6_crash 33 = .ok (.putfield 66, 3) := by decide +kernel
theorem dX6_crash_36 : decode cX6_crash 36 = .ok (.aload_n 0, 1) := by decide +kernel
theorem dX6_crash_37 : decode cX6_crash 37 = .ok (.invokevirtual 73, 3) := by decide +kernel
theorem dX6_crash_40 : decode cX6_crash 40 = .ok (.pop, 1) := by decide +kernel
theorem dX6_crash_41 : decode cX6_crash 41 = .ok (.iconst 0, 1) := by decide +kernel
theorem dX6_crash_42 : decode cX6_crash 42 = .ok (.istore_n 2, 1) := by decide +kernel
theorem dX6_crash_43 : decode cX6_crash 43 = .ok (.iload_n 2, 1) := by decide +kernel
theorem dX6_crash_44 : decode cX6_crash 44 = .ok (.aload_n 0, 1) := by decide +kernel
theorem dX6_crash_45 : decode cX6_crash 45 = .ok (.getfield 18, 3) := by decide +kernel
theorem dX6_crash_48 : decode cX6_crash 48 = .ok (.arraylength, 1) := by decide +kernel
theorem dX6_crash_49 : decode cX6_crash 49 = .ok (.if_icmp .ge 16, 3) := by decide +kernel
theorem dX6_crash_52 : decode cX6_crash 52 = .ok (.aload_n 0, 1) := by decide +kernel
theorem dX6_crash_53 : decode cX6_crash 53 = .ok (.getfield 18, 3) := by decide +kernel
theorem dX6_crash_56 : decode cX6_crash 56 = .ok (.iload_n 2, 1) := by decide +kernel
theorem dX6_crash_57 : decode cX6_crash 57 = .ok (.iconst (-1), 1) := by decide +kernel
theorem dX6_crash_58 : decode cX6_crash 58 = .ok (.iastore, 1) := by decide +kernel
theorem dX6_crash_59 : decode cX6_crash 59 = .ok (.iinc 2 1, 3) := by decide +kernel
theorem dX6_crash_62 : decode cX6_crash 62 = .ok (.goto (-19), 3) := by decide +kernel
theorem dX6_crash_65 : decode cX6_crash 65 = .ok (.aload_n 0, 1) := by decide +kernel
theorem dX6_crash_66 : decode cX6_crash 66 = .ok (.aload_n 0, 1) := by decide +kernel
theorem dX6_crash_67 : decode cX6_crash 67 = .ok (.invokevirtual 77, 3) := by decide +kernel
theorem dX6_crash_70 : decode cX6_crash 70 = .ok (.putfield 80, 3) := by decide +kernel
theorem dX6_crash_73 : decode cX6_crash 73 = .ok (.aload_n 0, 1) := by decide +kernel
theorem dX6_crash_74 : decode cX6_crash 74 = .ok (.getfield 14, 3) := by decide +kernel
theorem dX6_crash_77 : decode cX6_crash 77 = .ok (.getfield 66, 3) := by decide +kernel
theorem dX6_crash_80 : decode cX6_crash 80 = .ok (.ireturn, 1) := by decide +kernel
theorem dX6_get_0 : decode cX6_get 0 = .ok (.iload_n 1, 1) := by decide +kernel
theorem dX6_get_1 : decode cX6_get 1 = .ok (.invokestatic 54, 3) := by decide +kernel
theorem dX6_get_4 : decode cX6_get 4 = .ok (.ifCond .ne 6, 3) := by decide +kernel
theorem dX6_get_7 : decode cX6_get 7 = .ok (.ldc 60, 2) := by decide +kernel
theorem dX6_get_9 : decode cX6_get 9 = .ok (.ireturn, 1) := by decide +kernel
theorem dX6_get_10 : decode cX6_get 10 = .ok (.aload_n 0, 1) := by decide +kernel
theorem dX6_get_11 : decode cX6_get 11 = .ok (.iload_n 1, 1) := by decide +kernel
theorem dX6_get_12 : decode cX6_get 12 = .ok (.aload_n 0, 1) := by decide +kernel
theorem dX6_get_13 : decode cX6_get 13 = .ok (.getfield 80, 3) := by decide +kernel
theorem dX6_get_16 : decode cX6_get 16 = .ok (.invokevirtual 83, 3) := by decide +kernel
theorem dX6_get_19 : decode cX6_get 19 = .ok (.ireturn, 1) := by decide +kernel
theorem dX6_view_0 : decode cX6_view 0 = .ok (.aload_n 0, 1) := by decide +kernel
theorem dX6_view_1 : decode cX6_view 1 = .ok (.iload_n 1, 1) := by decide +kernel
theorem dX6_view_2 : decode cX6_view 2 = .ok (.invokevirtual 86, 3) := by decide +kernel
theorem dX6_view_5 : decode cX6_view 5 = .ok (.ifCond .ne 6, 3) := by decide +kernel
theorem dX6_view_8 : decode cX6_view 8 = .ok (.ldc 89, 2) := by decide +kernel
theorem dX6_view_10 : decode cX6_view 10 = .ok (.ireturn, 1) := by decide +kernel
theorem dX6_view_11 : decode cX6_view 11 = .ok (.iload_n 2, 1) := by decide +kernel
theorem dX6_view_12 : decode cX6_view 12 = .ok (.invokestatic 54, 3) := by decide +kernel
theorem dX6_view_15 : decode cX6_view 15 = .ok (.ifCond .ne 6, 3) := by decide +kernel
theorem dX6_view_18 : decode cX6_view 18 = .ok (.ldc 60, 2) := by decide +kernel
theorem dX6_view_20 : decode cX6_view 20 = .ok (.ireturn, 1) := by decide +kernel
theorem dX6_view_21 : decode cX6_view 21 = .ok (.aload_n 0, 1) := by decide +kernel
theorem dX6_view_22 : decode cX6_view 22 = .ok (.iload_n 2, 1) := by decide +kernel
theorem dX6_view_23 : decode cX6_view 23 = .ok (.aload_n 0, 1) := by decide +kernel
theorem dX6_view_24 : decode cX6_view 24 = .ok (.iload_n 1, 1) := by decide +kernel
theorem dX6_view_25 : decode cX6_view 25 = .ok (.invokevirtual 90, 3) := by decide +kernel
theorem dX6_view_28 : decode cX6_view 28 = .ok (.invokevirtual 83, 3) := by decide +kernel
theorem dX6_view_31 : decode cX6_view 31 = .ok (.ireturn, 1) := by decide +kernel
theorem dX6_next_0 : decode cX6_next 0 = .ok (.iload_n 1, 1) := by decide +kernel
theorem dX6_next_1 : decode cX6_next 1 = .ok (.iconst (-1), 1) := by decide +kernel
theorem dX6_next_2 : decode cX6_next 2 = .ok (.if_icmp .ne 7, 3) := by decide +kernel
theorem dX6_next_5 : decode cX6_next 5 = .ok (.iconst 1, 1) := by decide +kernel
theorem dX6_next_6 : decode cX6_next 6 = .ok (.goto 4, 3) := by decide +kernel
theorem dX6_next_9 : decode cX6_next 9 = .ok (.iconst 0, 1) := by decide +kernel
theorem dX6_next_10 : decode cX6_next 10 = .ok (.istore_n 3, 1) := by decide +kernel
theorem dX6_next_11 : decode cX6_next 11 = .ok (.iload_n 3, 1) := by decide +kernel
theorem dX6_next_12 : decode cX6_next 12 = .ok (.ifCond .ne 14, 3) := by decide +kernel
theorem dX6_next_15 : decode cX6_next 15 = .ok (.aload_n 0, 1) := by decide +kernel
theorem dX6_next_16 : decode cX6_next 16 = .ok (.iload_n 1, 1) := by decide +kernel
theorem dX6_next_17 : decode cX6_next 17 = .ok (.invokevirtual 86, 3) := by decide +kernel
theorem dX6_next_20 : decode cX6_next 20 = .ok (.ifCond .ne 6, 3) := by decide +kernel
theorem dX6_next_23 : decode cX6_next 23 = .ok (.ldc 89, 2) := by decide +kernel
theorem dX6_next_25 : decode cX6_next 25 = .ok (.ireturn, 1) := by decide +kernel
theorem dX6_next_26 : decode cX6_next 26 = .ok (.iload_n 2, 1) := by decide +kernel
theorem dX6_next_27 : decode cX6_next 27 = .ok (.invokestatic 54, 3) := by decide +kernel
theorem dX6_next_30 : decode cX6_next 30 = .ok (.ifCond .ne 6, 3) := by decide +kernel
theorem dX6_next_33 : decode cX6_next 33 = .ok (.ldc 60, 2) := by decide +kernel
theorem dX6_next_35 : decode cX6_next 35 = .ok (.ireturn, 1) := by decide +kernel
theorem dX6_next_36 : decode cX6_next 36 = .ok (.aload_n 0, 1) := by decide +kernel
theorem dX6_next_37 : decode cX6_next 37 = .ok (.getfield 43, 3) := by decide +kernel
theorem dX6_next_40 : decode cX6_next 40 = .ok (.iload_n 2, 1) := by decide +kernel
theorem dX6_next_41 : decode cX6_next 41 = .ok (.sipush 999, 3) := by decide +kernel
theorem dX6_next_44 : decode cX6_next 44 = .ok (.iload_n 3, 1) := by decide +kernel
theorem dX6_next_45 : decode cX6_next 45 = .ok (.ifCond .eq 10, 3) := by decide +kernel
theorem dX6_next_48 : decode cX6_next 48 = .ok (.aload_n 0, 1) := by decide +kernel
theorem dX6_next_49 : decode cX6_next 49 = .ok (.getfield 80, 3) := by decide +kernel
theorem dX6_next_52 : decode cX6_next 52 = .ok (.goto 8, 3) := by decide +kernel
theorem dX6_next_55 : decode cX6_next 55 = .ok (.aload_n 0, 1) := by decide +kernel
theorem dX6_next_56 : decode cX6_next 56 = .ok (.iload_n 1, 1) := by decide +kernel
theorem dX6_next_57 : decode cX6_next 57 = .ok (.invokevirtual 90, 3) := by decide +kernel
theorem dX6_next_60 : decode cX6_next 60 = .ok (.invokevirtual 94, 3) := by decide +kernel
theorem dX6_next_63 : decode cX6_next 63 = .ok (.aload_n 0, 1) := by decide +kernel
theorem dX6_next_64 : decode cX6_next 64 = .ok (.invokevirtual 98, 3) := by decide +kernel
theorem dX6_next_67 : decode cX6_next 67 = .ok (.aload_n 0, 1) := by decide +kernel
theorem dX6_next_68 : decode cX6_next 68 = .ok (.getfield 43, 3) := by decide +kernel
theorem dX6_next_71 : decode cX6_next 71 = .ok (.invokevirtual 101, 3) := by decide +kernel
theorem dX6_next_74 : decode cX6_next 74 = .ok (.ireturn, 1) := by decide +kernel
theorem dX6_hold_0 : decode cX6_hold 0 = .ok (.aload_n 0, 1) := by decide +kernel
theorem dX6_hold_1 : decode cX6_hold 1 = .ok (.iload_n 1, 1) := by decide +kernel
theorem dX6_hold_2 : decode cX6_hold 2 = .ok (.invokevirtual 104, 3) := by decide +kernel
theorem dX6_hold_5 : decode cX6_hold 5 = .ok (.ifCond .ne 6, 3) := by decide +kernel
theorem dX6_hold_8 : decode cX6_hold 8 = .ok (.ldc 89, 2) := by decide +kernel
theorem dX6_hold_10 : decode cX6_hold 10 = .ok (.ireturn, 1) := by decide +kernel
theorem dX6_hold_11 : decode cX6_hold 11 = .ok (.aload_n 0, 1) := by decide +kernel
theorem dX6_hold_12 : decode cX6_hold 12 = .ok (.iload_n 1, 1) := by decide +kernel
theorem dX6_hold_13 : decode cX6_hold 13 = .ok (.invokevirtual 86, 3) := by decide +kernel
theorem dX6_hold_16 : decode cX6_hold 16 = .ok (.ifCond .eq 6, 3) := by decide +kernel
theorem dX6_hold_19 : decode cX6_hold 19 = .ok (.ldc 107, 2) := by decide +kernel
theorem dX6_hold_21 : decode cX6_hold 21 = .ok (.ireturn, 1) := by decide +kernel
theorem dX6_hold_22 : decode cX6_hold 22 = .ok (.aload_n 0, 1) := by decide +kernel
theorem dX6_hold_23 : decode cX6_hold 23 = .ok (.getfield 18, 3) := by decide +kernel
theorem dX6_hold_26 : decode cX6_hold 26 = .ok (.iload_n 1, 1) := by decide +kernel
theorem dX6_hold_27 : decode cX6_hold 27 = .ok (.aload_n 0, 1) := by decide +kernel
theorem dX6_hold_28 : decode cX6_hold 28 = .ok (.getfield 80, 3) := by decide +kernel
theorem dX6_hold_31 : decode cX6_hold 31 = .ok (.iastore, 1) := by decide +kernel
theorem dX6_hold_32 : decode cX6_hold 32 = .ok (.aload_n 0, 1) := by decide +kernel
theorem dX6_hold_33 : decode cX6_hold 33 = .ok (.getfield 80, 3) := by decide +kernel
theorem dX6_hold_36 : decode cX6_hold 36 = .ok (.ireturn, 1) := by decide +kernel
theorem dX6_release_0 : decode cX6_release 0 = .ok (.aload_n 0, 1) := by decide +kernel
theorem dX6_release_1 : decode cX6_release 1 = .ok (.iload_n 1, 1) := by decide +kernel
theorem dX6_release_2 : decode cX6_release 2 = .ok (.invokevirtual 86, 3) := by decide +kernel
theorem dX6_release_5 : decode cX6_release 5 = .ok (.ifCond .ne 6, 3) := by decide +kernel
theorem dX6_release_8 : decode cX6_release 8 = .ok (.ldc 89, 2) := by decide +kernel
theorem dX6_release_10 : decode cX6_release 10 = .ok (.ireturn, 1) := by decide +kernel
theorem dX6_release_11 : decode cX6_release 11 = .ok (.aload_n 0, 1) := by decide +kernel
theorem dX6_release_12 : decode cX6_release 12 = .ok (.iload_n 1, 1) := by decide +kernel
theorem dX6_release_13 : decode cX6_release 13 = .ok (.invokevirtual 90, 3) := by decide +kernel
theorem dX6_release_16 : decode cX6_release 16 = .ok (.istore_n 2, 1) := by decide +kernel
theorem dX6_release_17 : decode cX6_release 17 = .ok (.aload_n 0, 1) := by decide +kernel
theorem dX6_release_18 : decode cX6_release 18 = .ok (.getfield 18, 3) := by decide +kernel
theorem dX6_release_21 : decode cX6_release 21 = .ok (.iload_n 1, 1) := by decide +kernel
theorem dX6_release_22 : decode cX6_release 22 = .ok (.iconst (-1), 1) := by decide +kernel
theorem dX6_release_23 : decode cX6_release 23 = .ok (.iastore, 1) := by decide +kernel
theorem dX6_release_24 : decode cX6_release 24 = .ok (.iload_n 2, 1) := by decide +kernel
theorem dX6_release_25 : decode cX6_release 25 = .ok (.ireturn, 1) := by decide +kernel
theorem dX6_flush_0 : decode cX6_flush 0 = .ok (.aload_n 0, 1) := by decide +kernel
theorem dX6_flush_1 : decode cX6_flush 1 = .ok (.getfield 50, 3) := by decide +kernel
theorem dX6_flush_4 : decode cX6_flush 4 = .ok (.getfield 108, 3) := by decide +kernel
theorem dX6_flush_7 : decode cX6_flush 7 = .ok (.ifCond .ne 13, 3) := by decide +kernel
theorem dX6_flush_10 : decode cX6_flush 10 = .ok (.aload_n 0, 1) := by decide +kernel
theorem dX6_flush_11 : decode cX6_flush 11 = .ok (.getfield 14, 3) := by decide +kernel
theorem dX6_flush_14 : decode cX6_flush 14 = .ok (.getfield 66, 3) := by decide +kernel
theorem dX6_flush_17 : decode cX6_flush 17 = .ok (.ifCond .ne 6, 3) := by decide +kernel
theorem dX6_flush_20 : decode cX6_flush 20 = .ok (.ldc 107, 2) := by decide +kernel
theorem dX6_flush_22 : decode cX6_flush 22 = .ok (.ireturn, 1) := by decide +kernel
theorem dX6_flush_23 : decode cX6_flush 23 = .ok (.aload_n 0, 1) := by decide +kernel
theorem dX6_flush_24 : decode cX6_flush 24 = .ok (.getfield 50, 3) := by decide +kernel
theorem dX6_flush_27 : decode cX6_flush 27 = .ok (.iconst (-1), 1) := by decide +kernel
theorem dX6_flush_28 : decode cX6_flush 28 = .ok (.iconst 0, 1) := by decide +kernel
theorem dX6_flush_29 : decode cX6_flush 29 = .ok (.invokevirtual 112, 3) := by decide +kernel
theorem dX6_flush_32 : decode cX6_flush 32 = .ok (.aload_n 0, 1) := by decide +kernel
theorem dX6_flush_33 : decode cX6_flush 33 = .ok (.getfield 50, 3) := by decide +kernel
theorem dX6_flush_36 : decode cX6_flush 36 = .ok (.aload_n 0, 1) := by decide +kernel
theorem dX6_flush_37 : decode cX6_flush 37 = .ok (.iconst 0, 1) := by decide +kernel
theorem dX6_flush_38 : decode cX6_flush 38 = .ok (.invokevirtual 115, 3) := by decide +kernel
theorem dX6_flush_41 : decode cX6_flush 41 = .ok (.putfield 118, 3) := by decide +kernel
theorem dX6_flush_44 : decode cX6_flush 44 = .ok (.aload_n 0, 1) := by decide +kernel
theorem dX6_flush_45 : decode cX6_flush 45 = .ok (.getfield 50, 3) := by decide +kernel
theorem dX6_flush_48 : decode cX6_flush 48 = .ok (.aload_n 0, 1) := by decide +kernel
theorem dX6_flush_49 : decode cX6_flush 49 = .ok (.getfield 50, 3) := by decide +kernel
theorem dX6_flush_52 : decode cX6_flush 52 = .ok (.getfield 118, 3) := by decide +kernel
theorem dX6_flush_55 : decode cX6_flush 55 = .ok (.putfield 121, 3) := by decide +kernel
theorem dX6_flush_58 : decode cX6_flush 58 = .ok (.iconst 0, 1) := by decide +kernel
theorem dX6_flush_59 : decode cX6_flush 59 = .ok (.istore_n 1, 1) := by decide +kernel
theorem dX6_flush_60 : decode cX6_flush 60 = .ok (.iload_n 1, 1) := by decide +kernel
theorem dX6_flush_61 : decode cX6_flush 61 = .ok (.aload_n 0, 1) := by decide +kernel
theorem dX6_flush_62 : decode cX6_flush 62 = .ok (.getfield 14, 3) := by decide +kernel
theorem dX6_flush_65 : decode cX6_flush 65 = .ok (.getfield 66, 3) := by decide +kernel
theorem dX6_flush_68 : decode cX6_flush 68 = .ok (.if_icmp .ge 43, 3) := by decide +kernel
theorem dX6_flush_71 : decode cX6_flush 71 = .ok (.aload_n 0, 1) := by decide +kernel
theorem dX6_flush_72 : decode cX6_flush 72 = .ok (.getfield 50, 3) := by decide +kernel
theorem dX6_flush_75 : decode cX6_flush 75 = .ok (.getfield 124, 3) := by decide +kernel
theorem dX6_flush_78 : decode cX6_flush 78 = .ok (.aload_n 0, 1) := by decide +kernel
theorem dX6_flush_79 : decode cX6_flush 79 = .ok (.getfield 14, 3) := by decide +kernel
theorem dX6_flush_82 : decode cX6_flush 82 = .ok (.iload_n 1, 1) := by decide +kernel
theorem dX6_flush_83 : decode cX6_flush 83 = .ok (.invokevirtual 127, 3) := by decide +kernel
theorem dX6_flush_86 : decode cX6_flush 86 = .ok (.aload_n 0, 1) := by decide +kernel
theorem dX6_flush_87 : decode cX6_flush 87 = .ok (.getfield 14, 3) := by decide +kernel
theorem dX6_flush_90 : decode cX6_flush 90 = .ok (.iload_n 1, 1) := by decide +kernel
theorem dX6_flush_91 : decode cX6_flush 91 = .ok (.invokevirtual 130, 3) := by decide +kernel
theorem dX6_flush_94 : decode cX6_flush 94 = .ok (.aload_n 0, 1) := by decide +kernel
theorem dX6_flush_95 : decode cX6_flush 95 = .ok (.getfield 14, 3) := by decide +kernel
theorem dX6_flush_98 : decode cX6_flush 98 = .ok (.iload_n 1, 1) := by decide +kernel
theorem dX6_flush_99 : decode cX6_flush 99 = .ok (.invokevirtual 133, 3) := by decide +kernel
theorem dX6_flush_102 : decode cX6_flush 102 = .ok (.invokevirtual 136, 3) := by decide +kernel
theorem dX6_flush_105 : decode cX6_flush 105 = .ok (.iinc 1 1, 3) := by decide +kernel
theorem dX6_flush_108 : decode cX6_flush 108 = .ok (.goto (-48), 3) := by decide +kernel
theorem dX6_flush_111 : decode cX6_flush 111 = .ok (.aload_n 0, 1) := by decide +kernel
theorem dX6_flush_112 : decode cX6_flush 112 = .ok (.getfield 50, 3) := by decide +kernel
theorem dX6_flush_115 : decode cX6_flush 115 = .ok (.aload_n 0, 1) := by decide +kernel
theorem dX6_flush_116 : decode cX6_flush 116 = .ok (.getfield 18, 3) := by decide +kernel
theorem dX6_flush_119 : decode cX6_flush 119 = .ok (.invokevirtual 139, 3) := by decide +kernel
theorem dX6_flush_122 : decode cX6_flush 122 = .ok (.aload_n 0, 1) := by decide +kernel
theorem dX6_flush_123 : decode cX6_flush 123 = .ok (.getfield 50, 3) := by decide +kernel
theorem dX6_flush_126 : decode cX6_flush 126 = .ok (.invokevirtual 143, 3) := by decide +kernel
theorem dX6_flush_129 : decode cX6_flush 129 = .ok (.ireturn, 1) := by decide +kernel
theorem dX6_merge_0 : decode cX6_merge 0 = .ok (.aload_n 0, 1) := by decide +kernel
theorem dX6_merge_1 : decode cX6_merge 1 = .ok (.iload_n 1, 1) := by decide +kernel
theorem dX6_merge_2 : decode cX6_merge 2 = .ok (.invokevirtual 146, 3) := by decide +kernel
theorem dX6_merge_5 : decode cX6_merge 5 = .ok (.astore_n 3, 1) := by decide +kernel
theorem dX6_merge_6 : decode cX6_merge 6 = .ok (.aload_n 0, 1) := by decide +kernel
theorem dX6_merge_7 : decode cX6_merge 7 = .ok (.iload_n 1, 1) := by decide +kernel
theorem dX6_merge_8 : decode cX6_merge 8 = .ok (.iconst 1, 1) := by decide +kernel
theorem dX6_merge_9 : decode cX6_merge 9 = .ok (.iadd, 1) := by decide +kernel
theorem dX6_merge_10 : decode cX6_merge 10 = .ok (.invokevirtual 146, 3) := by decide +kernel
theorem dX6_merge_13 : decode cX6_merge 13 = .ok (.astore 4, 2) := by decide +kernel
theorem dX6_merge_15 : decode cX6_merge 15 = .ok (.aload_n 3, 1) := by decide +kernel
theorem dX6_merge_16 : decode cX6_merge 16 = .ok (.ifnull 20, 3) := by decide +kernel
theorem dX6_merge_19 : decode cX6_merge 19 = .ok (.aload 4, 2) := by decide +kernel
theorem dX6_merge_21 : decode cX6_merge 21 = .ok (.ifnull 15, 3) := by decide +kernel
theorem dX6_merge_24 : decode cX6_merge 24 = .ok (.iload_n 1, 1) := by decide +kernel
theorem dX6_merge_25 : decode cX6_merge 25 = .ok (.ifCond .le 14, 3) := by decide +kernel
theorem dX6_merge_28 : decode cX6_merge 28 = .ok (.aload_n 3, 1) := by decide +kernel
theorem dX6_merge_29 : decode cX6_merge 29 = .ok (.iload_n 2, 1) := by decide +kernel
theorem dX6_merge_30 : decode cX6_merge 30 = .ok (.invokevirtual 150, 3) := by decide +kernel
theorem dX6_merge_33 : decode cX6_merge 33 = .ok (.ifnonnull 6, 3) := by decide +kernel
theorem dX6_merge_36 : decode cX6_merge 36 = .ok (.ldc 89, 2) := by decide +kernel
theorem dX6_merge_38 : decode cX6_merge 38 = .ok (.ireturn, 1) := by decide +kernel
theorem dX6_merge_39 : decode cX6_merge 39 = .ok (.aload_n 0, 1) := by decide +kernel
theorem dX6_merge_40 : decode cX6_merge 40 = .ok (.getfield 50, 3) := by decide +kernel
theorem dX6_merge_43 : decode cX6_merge 43 = .ok (.getfield 108, 3) := by decide +kernel
theorem dX6_merge_46 : decode cX6_merge 46 = .ok (.ifCond .ne 10, 3) := by decide +kernel
theorem dX6_merge_49 : decode cX6_merge 49 = .ok (.aload_n 3, 1) := by decide +kernel
theorem dX6_merge_50 : decode cX6_merge 50 = .ok (.invokevirtual 154, 3) := by decide +kernel
theorem dX6_merge_53 : decode cX6_merge 53 = .ok (.ifCond .ne 6, 3) := by decide +kernel
theorem dX6_merge_56 : decode cX6_merge 56 = .ok (.ldc 107, 2) := by decide +kernel
theorem dX6_merge_58 : decode cX6_merge 58 = .ok (.ireturn, 1) := by decide +kernel
theorem dX6_merge_59 : decode cX6_merge 59 = .ok (.aload_n 0, 1) := by decide +kernel
theorem dX6_merge_60 : decode cX6_merge 60 = .ok (.getfield 50, 3) := by decide +kernel
theorem dX6_merge_63 : decode cX6_merge 63 = .ok (.iload_n 1, 1) := by decide +kernel
theorem dX6_merge_64 : decode cX6_merge 64 = .ok (.iload_n 1, 1) := by decide +kernel
theorem dX6_merge_65 : decode cX6_merge 65 = .ok (.iconst 1, 1) := by decide +kernel
theorem dX6_merge_66 : decode cX6_merge 66 = .ok (.iadd, 1) := by decide +kernel
theorem dX6_merge_67 : decode cX6_merge 67 = .ok (.invokevirtual 112, 3) := by decide +kernel
theorem dX6_merge_70 : decode cX6_merge 70 = .ok (.aload_n 0, 1) := by decide +kernel
theorem dX6_merge_71 : decode cX6_merge 71 = .ok (.getfield 50, 3) := by decide +kernel
theorem dX6_merge_74 : decode cX6_merge 74 = .ok (.iload_n 1, 1) := by decide +kernel
theorem dX6_merge_75 : decode cX6_merge 75 = .ok (.ifCond .ne 7, 3) := by decide +kernel
theorem dX6_merge_78 : decode cX6_merge 78 = .ok (.iconst 0, 1) := by decide +kernel
theorem dX6_merge_79 : decode cX6_merge 79 = .ok (.goto 4, 3) := by decide +kernel
theorem dX6_merge_82 : decode cX6_merge 82 = .ok (.iload_n 2, 1) := by decide +kernel
theorem dX6_merge_83 : decode cX6_merge 83 = .ok (.putfield 156, 3) := by decide +kernel
theorem dX6_merge_86 : decode cX6_merge 86 = .ok (.aload_n 0, 1) := by decide +kernel
theorem dX6_merge_87 : decode cX6_merge 87 = .ok (.getfield 50, 3) := by decide +kernel
theorem dX6_merge_90 : decode cX6_merge 90 = .ok (.iload_n 1, 1) := by decide +kernel
theorem dX6_merge_91 : decode cX6_merge 91 = .ok (.ifCond .ne 10, 3) := by decide +kernel
theorem dX6_merge_94 : decode cX6_merge 94 = .ok (.aload_n 3, 1) := by decide +kernel
theorem dX6_merge_95 : decode cX6_merge 95 = .ok (.invokevirtual 154, 3) := by decide +kernel
theorem dX6_merge_98 : decode cX6_merge 98 = .ok (.goto 6, 3) := by decide +kernel
theorem dX6_merge_101 : decode cX6_merge 101 = .ok (.iload_n 2, 1) := by decide +kernel
theorem dX6_merge_102 : decode cX6_merge 102 = .ok (.iconst 1, 1) := by decide +kernel
theorem dX6_merge_103 : decode cX6_merge 103 = .ok (.iadd, 1) := by decide +kernel
theorem dX6_merge_104 : decode cX6_merge 104 = .ok (.putfield 159, 3) := by decide +kernel
theorem dX6_merge_107 : decode cX6_merge 107 = .ok (.aload_n 0, 1) := by decide +kernel
theorem dX6_merge_108 : decode cX6_merge 108 = .ok (.getfield 50, 3) := by decide +kernel
theorem dX6_merge_111 : decode cX6_merge 111 = .ok (.aload 4, 2) := by decide +kernel
theorem dX6_merge_113 : decode cX6_merge 113 = .ok (.aload_n 3, 1) := by decide +kernel
theorem dX6_merge_114 : decode cX6_merge 114 = .ok (.aload_n 0, 1) := by decide +kernel
theorem dX6_merge_115 : decode cX6_merge 115 = .ok (.getfield 50, 3) := by decide +kernel
theorem dX6_merge_118 : decode cX6_merge 118 = .ok (.getfield 156, 3) := by decide +kernel
theorem dX6_merge_121 : decode cX6_merge 121 = .ok (.aload_n 0, 1) := by decide +kernel
theorem dX6_merge_122 : decode cX6_merge 122 = .ok (.getfield 50, 3) := by decide +kernel
theorem dX6_merge_125 : decode cX6_merge 125 = .ok (.getfield 159, 3) := by decide +kernel
theorem dX6_merge_128 : decode cX6_merge 128 = .ok (.invokevirtual 162, 3) := by decide +kernel
theorem dX6_merge_131 : decode cX6_merge 131 = .ok (.invokevirtual 165, 3) := by decide +kernel
theorem dX6_merge_134 : decode cX6_merge 134 = .ok (.putfield 118, 3) := by decide +kernel
theorem dX6_merge_137 : decode cX6_merge 137 = .ok (.aload_n 0, 1) := by decide +kernel
theorem dX6_merge_138 : decode cX6_merge 138 = .ok (.getfield 50, 3) := by decide +kernel
theorem dX6_merge_141 : decode cX6_merge 141 = .ok (.aload 4, 2) := by decide +kernel
theorem dX6_merge_143 : decode cX6_merge 143 = .ok (.aload_n 3, 1) := by decide +kernel
theorem dX6_merge_144 : decode cX6_merge 144 = .ok (.aload_n 0, 1) := by decide +kernel
theorem dX6_merge_145 : decode cX6_merge 145 = .ok (.getfield 50, 3) := by decide +kernel
theorem dX6_merge_148 : decode cX6_merge 148 = .ok (.getfield 156, 3) := by decide +kernel
theorem dX6_merge_151 : decode cX6_merge 151 = .ok (.aload_n 0, 1) := by decide +kernel
theorem dX6_merge_152 : decode cX6_merge 152 = .ok (.getfield 50, 3) := by decide +kernel
theorem dX6_merge_155 : decode cX6_merge 155 = .ok (.getfield 159, 3) := by decide +kernel
theorem dX6_merge_158 : decode cX6_merge 158 = .ok (.invokevirtual 168, 3) := by decide +kernel
theorem dX6_merge_161 : decode cX6_merge 161 = .ok (.invokevirtual 171, 3) := by decide +kernel
theorem dX6_merge_164 : decode cX6_merge 164 = .ok (.putfield 121, 3) := by decide +kernel
theorem dX6_merge_167 : decode cX6_merge 167 = .ok (.aload 4, 2) := by decide +kernel
theorem dX6_merge_169 : decode cX6_merge 169 = .ok (.aload_n 0, 1) := by decide +kernel
theorem dX6_merge_170 : decode cX6_merge 170 = .ok (.getfield 50, 3) := by decide +kernel
theorem dX6_merge_173 : decode cX6_merge 173 = .ok (.getfield 124, 3) := by decide +kernel
theorem dX6_merge_176 : decode cX6_merge 176 = .ok (.aload_n 0, 1) := by decide +kernel
theorem dX6_merge_177 : decode cX6_merge 177 = .ok (.getfield 50, 3) := by decide +kernel
theorem dX6_merge_180 : decode cX6_merge 180 = .ok (.getfield 118, 3) := by decide +kernel
theorem dX6_merge_183 : decode cX6_merge 183 = .ok (.aload_n 0, 1) := by decide +kernel
theorem dX6_merge_184 : decode cX6_merge 184 = .ok (.getfield 50, 3) := by decide +kernel
theorem dX6_merge_187 : decode cX6_merge 187 = .ok (.getfield 121, 3) := by decide +kernel
theorem dX6_merge_190 : decode cX6_merge 190 = .ok (.invokevirtual 174, 3) := by decide +kernel
theorem dX6_merge_193 : decode cX6_merge 193 = .ok (.aload_n 3, 1) := by decide +kernel
theorem dX6_merge_194 : decode cX6_merge 194 = .ok (.aload_n 0, 1) := by decide +kernel
theorem dX6_merge_195 : decode cX6_merge 195 = .ok (.getfield 50, 3) := by decide +kernel
theorem dX6_merge_198 : decode cX6_merge 198 = .ok (.getfield 124, 3) := by decide +kernel
theorem dX6_merge_201 : decode cX6_merge 201 = .ok (.aload_n 0, 1) := by decide +kernel
theorem dX6_merge_202 : decode cX6_merge 202 = .ok (.getfield 50, 3) := by decide +kernel
theorem dX6_merge_205 : decode cX6_merge 205 = .ok (.getfield 156, 3) := by decide +kernel
theorem dX6_merge_208 : decode cX6_merge 208 = .ok (.aload_n 0, 1) := by decide +kernel
theorem dX6_merge_209 : decode cX6_merge 209 = .ok (.getfield 50, 3) := by decide +kernel
theorem dX6_merge_212 : decode cX6_merge 212 = .ok (.getfield 159, 3) := by decide +kernel
theorem dX6_merge_215 : decode cX6_merge 215 = .ok (.invokevirtual 174, 3) := by decide +kernel
theorem dX6_merge_218 : decode cX6_merge 218 = .ok (.aload_n 0, 1) := by decide +kernel
theorem dX6_merge_219 : decode cX6_merge 219 = .ok (.getfield 50, 3) := by decide +kernel
theorem dX6_merge_222 : decode cX6_merge 222 = .ok (.aload_n 0, 1) := by decide +kernel
theorem dX6_merge_223 : decode cX6_merge 223 = .ok (.getfield 18, 3) := by decide +kernel
theorem dX6_merge_226 : decode cX6_merge 226 = .ok (.invokevirtual 139, 3) := by decide +kernel
theorem dX6_merge_229 : decode cX6_merge 229 = .ok (.aload_n 0, 1) := by decide +kernel
theorem dX6_merge_230 : decode cX6_merge 230 = .ok (.getfield 50, 3) := by decide +kernel
theorem dX6_merge_233 : decode cX6_merge 233 = .ok (.invokevirtual 143, 3) := by decide +kernel
theorem dX6_merge_236 : decode cX6_merge 236 = .ok (.ireturn, 1) := by decide +kernel
theorem dX6_work_0 : decode cX6_work 0 = .ok (.iload_n 1, 1) := by decide +kernel
theorem dX6_work_1 : decode cX6_work 1 = .ok (.iconst 1, 1) := by decide +kernel
theorem dX6_work_2 : decode cX6_work 2 = .ok (.if_icmp .lt 10, 3) := by decide +kernel
theorem dX6_work_5 : decode cX6_work 5 = .ok (.iload_n 1, 1) := by decide +kernel
theorem dX6_work_6 : decode cX6_work 6 = .ok (.sipush 500, 3) := by decide +kernel
theorem dX6_work_9 : decode cX6_work 9 = .ok (.if_icmp .le 6, 3) := by decide +kernel
theorem dX6_work_12 : decode cX6_work 12 = .ok (.ldc 60, 2) := by decide +kernel
theorem dX6_work_14 : decode cX6_work 14 = .ok (.ireturn, 1) := by decide +kernel
theorem dX6_work_15 : decode cX6_work 15 = .ok (.aload_n 0, 1) := by decide +kernel
theorem dX6_work_16 : decode cX6_work 16 = .ok (.getfield 50, 3) := by decide +kernel
theorem dX6_work_19 : decode cX6_work 19 = .ok (.getfield 108, 3) := by decide +kernel
theorem dX6_work_22 : decode cX6_work 22 = .ok (.ifCond .eq 13, 3) := by decide +kernel
theorem dX6_work_25 : decode cX6_work 25 = .ok (.aload_n 0, 1) := by decide +kernel
theorem dX6_work_26 : decode cX6_work 26 = .ok (.getfield 50, 3) := by decide +kernel
theorem dX6_work_29 : decode cX6_work 29 = .ok (.invokevirtual 143, 3) := by decide +kernel
theorem dX6_work_32 : decode cX6_work 32 = .ok (.ifCond .ne 6, 3) := by decide +kernel
theorem dX6_work_35 : decode cX6_work 35 = .ok (.ldc 107, 2) := by decide +kernel
theorem dX6_work_37 : decode cX6_work 37 = .ok (.ireturn, 1) := by decide +kernel
theorem dX6_work_38 : decode cX6_work 38 = .ok (.iconst 1, 1) := by decide +kernel
theorem dX6_work_39 : decode cX6_work 39 = .ok (.istore_n 2, 1) := by decide +kernel
theorem dX6_work_40 : decode cX6_work 40 = .ok (.iconst 0, 1) := by decide +kernel
theorem dX6_work_41 : decode cX6_work 41 = .ok (.istore_n 3, 1) := by decide +kernel
theorem dX6_work_42 : decode cX6_work 42 = .ok (.iload_n 3, 1) := by decide +kernel
theorem dX6_work_43 : decode cX6_work 43 = .ok (.iload_n 1, 1) := by decide +kernel
theorem dX6_work_44 : decode cX6_work 44 = .ok (.if_icmp .ge 28, 3) := by decide +kernel
theorem dX6_work_47 : decode cX6_work 47 = .ok (.iload_n 2, 1) := by decide +kernel
theorem dX6_work_48 : decode cX6_work 48 = .ok (.ifCond .eq 24, 3) := by decide +kernel
theorem dX6_work_51 : decode cX6_work 51 = .ok (.aload_n 0, 1) := by decide +kernel
theorem dX6_work_52 : decode cX6_work 52 = .ok (.getfield 50, 3) := by decide +kernel
theorem dX6_work_55 : decode cX6_work 55 = .ok (.invokevirtual 143, 3) := by decide +kernel
theorem dX6_work_58 : decode cX6_work 58 = .ok (.ifCond .le 14, 3) := by decide +kernel
theorem dX6_work_61 : decode cX6_work 61 = .ok (.aload_n 0, 1) := by decide +kernel
theorem dX6_work_62 : decode cX6_work 62 = .ok (.invokevirtual 178, 3) := by decide +kernel
theorem dX6_work_65 : decode cX6_work 65 = .ok (.istore_n 2, 1) := by decide +kernel
theorem dX6_work_66 : decode cX6_work 66 = .ok (.iinc 3 1, 3) := by decide +kernel
theorem dX6_work_69 : decode cX6_work 69 = .ok (.goto (-27), 3) := by decide +kernel
theorem dX6_work_72 : decode cX6_work 72 = .ok (.iload_n 2, 1) := by decide +kernel
theorem dX6_work_73 : decode cX6_work 73 = .ok (.ifCond .eq 18, 3) := by decide +kernel
theorem dX6_work_76 : decode cX6_work 76 = .ok (.aload_n 0, 1) := by decide +kernel
theorem dX6_work_77 : decode cX6_work 77 = .ok (.getfield 50, 3) := by decide +kernel
theorem dX6_work_80 : decode cX6_work 80 = .ok (.invokevirtual 143, 3) := by decide +kernel
theorem dX6_work_83 : decode cX6_work 83 = .ok (.ifCond .ne 8, 3) := by decide +kernel
theorem dX6_work_86 : decode cX6_work 86 = .ok (.aload_n 0, 1) := by decide +kernel
theorem dX6_work_87 : decode cX6_work 87 = .ok (.invokevirtual 182, 3) := by decide +kernel
theorem dX6_work_90 : decode cX6_work 90 = .ok (.istore_n 2, 1) := by decide +kernel
theorem dX6_work_91 : decode cX6_work 91 = .ok (.iload_n 2, 1) := by decide +kernel
theorem dX6_work_92 : decode cX6_work 92 = .ok (.ifCond .ne 11, 3) := by decide +kernel
theorem dX6_work_95 : decode cX6_work 95 = .ok (.aload_n 0, 1) := by decide +kernel
theorem dX6_work_96 : decode cX6_work 96 = .ok (.invokevirtual 73, 3) := by decide +kernel
theorem dX6_work_99 : decode cX6_work 99 = .ok (.pop, 1) := by decide +kernel
theorem dX6_work_100 : decode cX6_work 100 = .ok (.ldc 185, 2) := by decide +kernel
theorem dX6_work_102 : decode cX6_work 102 = .ok (.ireturn, 1) := by decide +kernel
theorem dX6_work_103 : decode cX6_work 103 = .ok (.aload_n 0, 1) := by decide +kernel
theorem dX6_work_104 : decode cX6_work 104 = .ok (.getfield 50, 3) := by decide +kernel
theorem dX6_work_107 : decode cX6_work 107 = .ok (.invokevirtual 143, 3) := by decide +kernel
theorem dX6_work_110 : decode cX6_work 110 = .ok (.ireturn, 1) := by decide +kernel
theorem dX6_install_0 : decode cX6_install 0 = .ok (.aload_n 0, 1) := by decide +kernel
theorem dX6_install_1 : decode cX6_install 1 = .ok (.getfield 50, 3) := by decide +kernel
theorem dX6_install_4 : decode cX6_install 4 = .ok (.getfield 108, 3) := by decide +kernel
theorem dX6_install_7 : decode cX6_install 7 = .ok (.ifCond .eq 13, 3) := by decide +kernel
theorem dX6_install_10 : decode cX6_install 10 = .ok (.aload_n 0, 1) := by decide +kernel
theorem dX6_install_11 : decode cX6_install 11 = .ok (.getfield 50, 3) := by decide +kernel
theorem dX6_install_14 : decode cX6_install 14 = .ok (.invokevirtual 143, 3) := by decide +kernel
theorem dX6_install_17 : decode cX6_install 17 = .ok (.ifCond .le 6, 3) := by decide +kernel
theorem dX6_install_20 : decode cX6_install 20 = .ok (.ldc 107, 2) := by decide +kernel
theorem dX6_install_22 : decode cX6_install 22 = .ok (.ireturn, 1) := by decide +kernel
theorem dX6_install_23 : decode cX6_install 23 = .ok (.aload_n 0, 1) := by decide +kernel
theorem dX6_install_24 : decode cX6_install 24 = .ok (.getfield 50, 3) := by decide +kernel
theorem dX6_install_27 : decode cX6_install 27 = .ok (.getfield 186, 3) := by decide +kernel
theorem dX6_install_30 : decode cX6_install 30 = .ok (.invokevirtual 154, 3) := by decide +kernel
theorem dX6_install_33 : decode cX6_install 33 = .ok (.istore_n 1, 1) := by decide +kernel
theorem dX6_install_34 : decode cX6_install 34 = .ok (.aload_n 0, 1) := by decide +kernel
theorem dX6_install_35 : decode cX6_install 35 = .ok (.aload_n 0, 1) := by decide +kernel
theorem dX6_install_36 : decode cX6_install 36 = .ok (.aload_n 0, 1) := by decide +kernel
theorem dX6_install_37 : decode cX6_install 37 = .ok (.getfield 50, 3) := by decide +kernel
theorem dX6_install_40 : decode cX6_install 40 = .ok (.getfield 189, 3) := by decide +kernel
theorem dX6_install_43 : decode cX6_install 43 = .ok (.invokevirtual 146, 3) := by decide +kernel
theorem dX6_install_46 : decode cX6_install 46 = .ok (.aload_n 0, 1) := by decide +kernel
theorem dX6_install_47 : decode cX6_install 47 = .ok (.getfield 50, 3) := by decide +kernel
theorem dX6_install_50 : decode cX6_install 50 = .ok (.getfield 156, 3) := by decide +kernel
theorem dX6_install_53 : decode cX6_install 53 = .ok (.aload_n 0, 1) := by decide +kernel
theorem dX6_install_54 : decode cX6_install 54 = .ok (.getfield 50, 3) := by decide +kernel
theorem dX6_install_57 : decode cX6_install 57 = .ok (.getfield 159, 3) := by decide +kernel
theorem dX6_install_60 : decode cX6_install 60 = .ok (.invokevirtual 192, 3) := by decide +kernel
theorem dX6_install_63 : decode cX6_install 63 = .ok (.aload_n 0, 1) := by decide +kernel
theorem dX6_install_64 : decode cX6_install 64 = .ok (.aload_n 0, 1) := by decide +kernel
theorem dX6_install_65 : decode cX6_install 65 = .ok (.getfield 50, 3) := by decide +kernel
theorem dX6_install_68 : decode cX6_install 68 = .ok (.getfield 196, 3) := by decide +kernel
theorem dX6_install_71 : decode cX6_install 71 = .ok (.invokevirtual 146, 3) := by decide +kernel
theorem dX6_install_74 : decode cX6_install 74 = .ok (.astore_n 2, 1) := by decide +kernel
theorem dX6_install_75 : decode cX6_install 75 = .ok (.aload_n 0, 1) := by decide +kernel
theorem dX6_install_76 : decode cX6_install 76 = .ok (.aload_n 2, 1) := by decide +kernel
theorem dX6_install_77 : decode cX6_install 77 = .ok (.aload_n 0, 1) := by decide +kernel
theorem dX6_install_78 : decode cX6_install 78 = .ok (.getfield 50, 3) := by decide +kernel
theorem dX6_install_81 : decode cX6_install 81 = .ok (.getfield 118, 3) := by decide +kernel
theorem dX6_install_84 : decode cX6_install 84 = .ok (.aload_n 0, 1) := by decide +kernel
theorem dX6_install_85 : decode cX6_install 85 = .ok (.getfield 50, 3) := by decide +kernel
theorem dX6_install_88 : decode cX6_install 88 = .ok (.getfield 121, 3) := by decide +kernel
theorem dX6_install_91 : decode cX6_install 91 = .ok (.invokevirtual 192, 3) := by decide +kernel
theorem dX6_install_94 : decode cX6_install 94 = .ok (.iconst 0, 1) := by decide +kernel
theorem dX6_install_95 : decode cX6_install 95 = .ok (.istore_n 3, 1) := by decide +kernel
theorem dX6_install_96 : decode cX6_install 96 = .ok (.iload_n 3, 1) := by decide +kernel
theorem dX6_install_97 : decode cX6_install 97 = .ok (.iload_n 1, 1) := by decide +kernel
theorem dX6_install_98 : decode cX6_install 98 = .ok (.if_icmp .ge 37, 3) := by decide +kernel
theorem dX6_install_101 : decode cX6_install 101 = .ok (.aload_n 2, 1) := by decide +kernel
theorem dX6_install_102 : decode cX6_install 102 = .ok (.ifnull 33, 3) := by decide +kernel
theorem dX6_install_105 : decode cX6_install 105 = .ok (.aload_n 2, 1) := by decide +kernel
theorem dX6_install_106 : decode cX6_install 106 = .ok (.aload_n 0, 1) := by decide +kernel
theorem dX6_install_107 : decode cX6_install 107 = .ok (.getfield 50, 3) := by decide +kernel
theorem dX6_install_110 : decode cX6_install 110 = .ok (.getfield 118, 3) := by decide +kernel
theorem dX6_install_113 : decode cX6_install 113 = .ok (.iload_n 3, 1) := by decide +kernel
theorem dX6_install_114 : decode cX6_install 114 = .ok (.iadd, 1) := by decide +kernel
theorem dX6_install_115 : decode cX6_install 115 = .ok (.aload_n 0, 1) := by decide +kernel
theorem dX6_install_116 : decode cX6_install 116 = .ok (.getfield 50, 3) := by decide +kernel
theorem dX6_install_119 : decode cX6_install 119 = .ok (.getfield 186, 3) := by decide +kernel
theorem dX6_install_122 : decode cX6_install 122 = .ok (.iload_n 3, 1) := by decide +kernel
theorem dX6_install_123 : decode cX6_install 123 = .ok (.invokevirtual 150, 3) := by decide +kernel
theorem dX6_install_126 : decode cX6_install 126 = .ok (.invokevirtual 199, 3) := by decide +kernel
theorem dX6_install_129 : decode cX6_install 129 = .ok (.iinc 3 1, 3) := by decide +kernel
theorem dX6_install_132 : decode cX6_install 132 = .ok (.goto (-36), 3) := by decide +kernel
theorem dX6_install_135 : decode cX6_install 135 = .ok (.aload_n 0, 1) := by decide +kernel
theorem dX6_install_136 : decode cX6_install 136 = .ok (.getfield 50, 3) := by decide +kernel
theorem dX6_install_139 : decode cX6_install 139 = .ok (.getfield 189, 3) := by decide +kernel
theorem dX6_install_142 : decode cX6_install 142 = .ok (.iconst (-1), 1) := by decide +kernel
theorem dX6_install_143 : decode cX6_install 143 = .ok (.if_icmp .ne 17, 3) := by decide +kernel
theorem dX6_install_146 : decode cX6_install 146 = .ok (.aload_n 0, 1) := by decide +kernel
theorem dX6_install_147 : decode cX6_install 147 = .ok (.aload_n 0, 1) := by decide +kernel
theorem dX6_install_148 : decode cX6_install 148 = .ok (.getfield 50, 3) := by decide +kernel
theorem dX6_install_151 : decode cX6_install 151 = .ok (.getfield 124, 3) := by decide +kernel
theorem dX6_install_154 : decode cX6_install 154 = .ok (.getfield 66, 3) := by decide +kernel
theorem dX6_install_157 : decode cX6_install 157 = .ok (.invokevirtual 202, 3) := by decide +kernel
theorem dX6_install_160 : decode cX6_install 160 = .ok (.aload_n 0, 1) := by decide +kernel
theorem dX6_install_161 : decode cX6_install 161 = .ok (.getfield 50, 3) := by decide +kernel
theorem dX6_install_164 : decode cX6_install 164 = .ok (.invokevirtual 205, 3) := by decide +kernel
theorem dX6_install_167 : decode cX6_install 167 = .ok (.iload_n 1, 1) := by decide +kernel
theorem dX6_install_168 : decode cX6_install 168 = .ok (.ireturn, 1) := by decide +kernel
theorem dX6_stop_0 : decode cX6_stop 0 = .ok (.aload_n 0, 1) := by decide +kernel
theorem dX6_stop_1 : decode cX6_stop 1 = .ok (.getfield 50, 3) := by decide +kernel
theorem dX6_stop_4 : decode cX6_stop 4 = .ok (.getfield 108, 3) := by decide +kernel
theorem dX6_stop_7 : decode cX6_stop 7 = .ok (.ifCond .ne 6, 3) := by decide +kernel
theorem dX6_stop_10 : decode cX6_stop 10 = .ok (.ldc 107, 2) := by decide +kernel
theorem dX6_stop_12 : decode cX6_stop 12 = .ok (.ireturn, 1) := by decide +kernel
theorem dX6_stop_13 : decode cX6_stop 13 = .ok (.aload_n 0, 1) := by decide +kernel
theorem dX6_stop_14 : decode cX6_stop 14 = .ok (.invokevirtual 73, 3) := by decide +kernel
theorem dX6_stop_17 : decode cX6_stop 17 = .ok (.ireturn, 1) := by decide +kernel
theorem dX6_high_0 : decode cX6_high 0 = .ok (.iconst 0, 1) := by decide +kernel
theorem dX6_high_1 : decode cX6_high 1 = .ok (.istore_n 1, 1) := by decide +kernel
theorem dX6_high_2 : decode cX6_high 2 = .ok (.iload_n 1, 1) := by decide +kernel
theorem dX6_high_3 : decode cX6_high 3 = .ok (.iconst 3, 1) := by decide +kernel
theorem dX6_high_4 : decode cX6_high 4 = .ok (.if_icmp .ge 32, 3) := by decide +kernel
theorem dX6_high_7 : decode cX6_high 7 = .ok (.iload_n 1, 1) := by decide +kernel
theorem dX6_high_8 : decode cX6_high 8 = .ok (.iconst 2, 1) := by decide +kernel
theorem dX6_high_9 : decode cX6_high 9 = .ok (.if_icmp .ne 8, 3) := by decide +kernel
theorem dX6_high_12 : decode cX6_high 12 = .ok (.bipush 6, 2) := by decide +kernel
theorem dX6_high_14 : decode cX6_high 14 = .ok (.goto 4, 3) := by decide +kernel
theorem dX6_high_17 : decode cX6_high 17 = .ok (.iconst 3, 1) := by decide +kernel
theorem dX6_high_18 : decode cX6_high 18 = .ok (.istore_n 2, 1) := by decide +kernel
theorem dX6_high_19 : decode cX6_high 19 = .ok (.aload_n 0, 1) := by decide +kernel
theorem dX6_high_20 : decode cX6_high 20 = .ok (.iload_n 1, 1) := by decide +kernel
theorem dX6_high_21 : decode cX6_high 21 = .ok (.invokevirtual 115, 3) := by decide +kernel
theorem dX6_high_24 : decode cX6_high 24 = .ok (.iload_n 2, 1) := by decide +kernel
theorem dX6_high_25 : decode cX6_high 25 = .ok (.if_icmp .le 5, 3) := by decide +kernel
theorem dX6_high_28 : decode cX6_high 28 = .ok (.iload_n 1, 1) := by decide +kernel
theorem dX6_high_29 : decode cX6_high 29 = .ok (.ireturn, 1) := by decide +kernel
theorem dX6_high_30 : decode cX6_high 30 = .ok (.iinc 1 1, 3) := by decide +kernel
theorem dX6_high_33 : decode cX6_high 33 = .ok (.goto (-31), 3) := by decide +kernel
theorem dX6_high_36 : decode cX6_high 36 = .ok (.ldc 65, 2) := by decide +kernel
theorem dX6_high_38 : decode cX6_high 38 = .ok (.ireturn, 1) := by decide +kernel
theorem dX6_files_0 : decode cX6_files 0 = .ok (.aload_n 0, 1) := by decide +kernel
theorem dX6_files_1 : decode cX6_files 1 = .ok (.iload_n 1, 1) := by decide +kernel
