theorem dX0_init_0 : decode cX0_init 0 = .ok (.aload_n 0, 1) := by decide +kernel
theorem dX0_init_1 : decode cX0_init 1 = .ok (.invokespecial 3, 3) := by decide +kernel
theorem dX0_init_4 : decode cX0_init 4 = .ok (.aload_n 0, 1) := by decide +kernel
theorem dX0_init_5 : decode cX0_init 5 = .ok (.sipush 1500, 3) := by decide +kernel
theorem dX0_init_8 : decode cX0_init 8 = .ok (.newarray .int, 2) := by decide +kernel
theorem dX0_init_10 : decode cX0_init 10 = .ok (.putfield 9, 3) := by decide +kernel
theorem dX0_init_13 : decode cX0_init 13 = .ok (.aload_n 0, 1) := by decide +kernel
theorem dX0_init_14 : decode cX0_init 14 = .ok (.sipush 1500, 3) := by decide +kernel
theorem dX0_init_17 : decode cX0_init 17 = .ok (.newarray .boolean, 2) := by decide +kernel
theorem dX0_init_19 : decode cX0_init 19 = .ok (.putfield 15, 3) := by decide +kernel
theorem dX0_init_22 : decode cX0_init 22 = .ok (.aload_n 0, 1) := by decide +kernel
theorem dX0_init_23 : decode cX0_init 23 = .ok (.sipush 194, 3) := by decide +kernel
theorem dX0_init_26 : decode cX0_init 26 = .ok (.newarray .int, 2) := by decide +kernel
theorem dX0_init_28 : decode cX0_init 28 = .ok (.putfield 19, 3) := by decide +kernel
theorem dX0_init_31 : decode cX0_init 31 = .ok (.return_, 1) := by decide +kernel
theorem dX0_has_0 : decode cX0_has 0 = .ok (.iload_n 1, 1) := by decide +kernel
theorem dX0_has_1 : decode cX0_has 1 = .ok (.ifCond .lt 32, 3) := by decide +kernel
theorem dX0_has_4 : decode cX0_has 4 = .ok (.iload_n 1, 1) := by decide +kernel
theorem dX0_has_5 : decode cX0_has 5 = .ok (.sipush 1500, 3) := by decide +kernel
theorem dX0_has_8 : decode cX0_has 8 = .ok (.if_icmp .ge 25, 3) := by decide +kernel
theorem dX0_has_11 : decode cX0_has 11 = .ok (.iload_n 1, 1) := by decide +kernel
theorem dX0_has_12 : decode cX0_has 12 = .ok (.aload_n 0, 1) := by decide +kernel
theorem dX0_has_13 : decode cX0_has 13 = .ok (.getfield 9, 3) := by decide +kernel
theorem dX0_has_16 : decode cX0_has 16 = .ok (.arraylength, 1) := by decide +kernel
theorem dX0_has_17 : decode cX0_has 17 = .ok (.if_icmp .ge 16, 3) := by decide +kernel
theorem dX0_has_20 : decode cX0_has 20 = .ok (.iload_n 1, 1) := by decide +kernel
theorem dX0_has_21 : decode cX0_has 21 = .ok (.aload_n 0, 1) := by decide +kernel
theorem dX0_has_22 : decode cX0_has 22 = .ok (.getfield 15, 3) := by decide +kernel
theorem dX0_has_25 : decode cX0_has 25 = .ok (.arraylength, 1) := by decide +kernel
theorem dX0_has_26 : decode cX0_has 26 = .ok (.if_icmp .ge 7, 3) := by decide +kernel
theorem dX0_has_29 : decode cX0_has 29 = .ok (.iconst 1, 1) := by decide +kernel
theorem dX0_has_30 : decode cX0_has 30 = .ok (.goto 4, 3) := by decide +kernel
theorem dX0_has_33 : decode cX0_has 33 = .ok (.iconst 0, 1) := by decide +kernel
theorem dX0_has_34 : decode cX0_has 34 = .ok (.ireturn, 1) := by decide +kernel
theorem dX0_lay_0 : decode cX0_lay 0 = .ok (.aload_n 0, 1) := by decide +kernel
theorem dX0_lay_1 : decode cX0_lay 1 = .ok (.aload_n 1, 1) := by decide +kernel
theorem dX0_lay_2 : decode cX0_lay 2 = .ok (.getfield 22, 3) := by decide +kernel
theorem dX0_lay_5 : decode cX0_lay 5 = .ok (.invokevirtual 28, 3) := by decide +kernel
theorem dX0_lay_8 : decode cX0_lay 8 = .ok (.aload_n 0, 1) := by decide +kernel
theorem dX0_lay_9 : decode cX0_lay 9 = .ok (.aload_n 0, 1) := by decide +kernel
theorem dX0_lay_10 : decode cX0_lay 10 = .ok (.getfield 32, 3) := by decide +kernel
theorem dX0_lay_13 : decode cX0_lay 13 = .ok (.invokevirtual 36, 3) := by decide +kernel
theorem dX0_lay_16 : decode cX0_lay 16 = .ok (.istore_n 2, 1) := by decide +kernel
theorem dX0_lay_17 : decode cX0_lay 17 = .ok (.iload_n 2, 1) := by decide +kernel
theorem dX0_lay_18 : decode cX0_lay 18 = .ok (.iconst (-1), 1) := by decide +kernel
theorem dX0_lay_19 : decode cX0_lay 19 = .ok (.if_icmp .ne 5, 3) := by decide +kernel
theorem dX0_lay_22 : decode cX0_lay 22 = .ok (.iconst 0, 1) := by decide +kernel
theorem dX0_lay_23 : decode cX0_lay 23 = .ok (.ireturn, 1) := by decide +kernel
theorem dX0_lay_24 : decode cX0_lay 24 = .ok (.aload_n 1, 1) := by decide +kernel
theorem dX0_lay_25 : decode cX0_lay 25 = .ok (.iload_n 2, 1) := by decide +kernel
theorem dX0_lay_26 : decode cX0_lay 26 = .ok (.putfield 40, 3) := by decide +kernel
theorem dX0_lay_29 : decode cX0_lay 29 = .ok (.aload_n 1, 1) := by decide +kernel
theorem dX0_lay_30 : decode cX0_lay 30 = .ok (.aload_n 0, 1) := by decide +kernel
theorem dX0_lay_31 : decode cX0_lay 31 = .ok (.getfield 32, 3) := by decide +kernel
theorem dX0_lay_34 : decode cX0_lay 34 = .ok (.putfield 43, 3) := by decide +kernel
theorem dX0_lay_37 : decode cX0_lay 37 = .ok (.iconst 0, 1) := by decide +kernel
theorem dX0_lay_38 : decode cX0_lay 38 = .ok (.istore_n 3, 1) := by decide +kernel
theorem dX0_lay_39 : decode cX0_lay 39 = .ok (.iload_n 3, 1) := by decide +kernel
theorem dX0_lay_40 : decode cX0_lay 40 = .ok (.aload_n 0, 1) := by decide +kernel
theorem dX0_lay_41 : decode cX0_lay 41 = .ok (.getfield 32, 3) := by decide +kernel
theorem dX0_lay_44 : decode cX0_lay 44 = .ok (.if_icmp .ge 42, 3) := by decide +kernel
theorem dX0_lay_47 : decode cX0_lay 47 = .ok (.iload_n 3, 1) := by decide +kernel
theorem dX0_lay_48 : decode cX0_lay 48 = .ok (.aload_n 0, 1) := by decide +kernel
theorem dX0_lay_49 : decode cX0_lay 49 = .ok (.getfield 19, 3) := by decide +kernel
theorem dX0_lay_52 : decode cX0_lay 52 = .ok (.arraylength, 1) := by decide +kernel
theorem dX0_lay_53 : decode cX0_lay 53 = .ok (.if_icmp .ge 33, 3) := by decide +kernel
theorem dX0_lay_56 : decode cX0_lay 56 = .ok (.aload_n 0, 1) := by decide +kernel
theorem dX0_lay_57 : decode cX0_lay 57 = .ok (.iload_n 2, 1) := by decide +kernel
theorem dX0_lay_58 : decode cX0_lay 58 = .ok (.iload_n 3, 1) := by decide +kernel
theorem dX0_lay_59 : decode cX0_lay 59 = .ok (.iadd, 1) := by decide +kernel
theorem dX0_lay_60 : decode cX0_lay 60 = .ok (.invokevirtual 46, 3) := by decide +kernel
theorem dX0_lay_63 : decode cX0_lay 63 = .ok (.ifCond .eq 17, 3) := by decide +kernel
theorem dX0_lay_66 : decode cX0_lay 66 = .ok (.aload_n 0, 1) := by decide +kernel
theorem dX0_lay_67 : decode cX0_lay 67 = .ok (.getfield 9, 3) := by decide +kernel
theorem dX0_lay_70 : decode cX0_lay 70 = .ok (.iload_n 2, 1) := by decide +kernel
theorem dX0_lay_71 : decode cX0_lay 71 = .ok (.iload_n 3, 1) := by decide +kernel
theorem dX0_lay_72 : decode cX0_lay 72 = .ok (.iadd, 1) := by decide +kernel
theorem dX0_lay_73 : decode cX0_lay 73 = .ok (.aload_n 0, 1) := by decide +kernel
theorem dX0_lay_74 : decode cX0_lay 74 = .ok (.getfield 19, 3) := by decide +kernel
theorem dX0_lay_77 : decode cX0_lay 77 = .ok (.iload_n 3, 1) := by decide +kernel
theorem dX0_lay_78 : decode cX0_lay 78 = .ok (.iaload, 1) := by decide +kernel
theorem dX0_lay_79 : decode cX0_lay 79 = .ok (.iastore, 1) := by decide +kernel
theorem dX0_lay_80 : decode cX0_lay 80 = .ok (.iinc 3 1, 3) := by decide +kernel
theorem dX0_lay_83 : decode cX0_lay 83 = .ok (.goto (-44), 3) := by decide +kernel
theorem dX0_lay_86 : decode cX0_lay 86 = .ok (.aload_n 0, 1) := by decide +kernel
theorem dX0_lay_87 : decode cX0_lay 87 = .ok (.aload_n 1, 1) := by decide +kernel
theorem dX0_lay_88 : decode cX0_lay 88 = .ok (.iconst 1, 1) := by decide +kernel
theorem dX0_lay_89 : decode cX0_lay 89 = .ok (.invokevirtual 50, 3) := by decide +kernel
theorem dX0_lay_92 : decode cX0_lay 92 = .ok (.iconst 1, 1) := by decide +kernel
theorem dX0_lay_93 : decode cX0_lay 93 = .ok (.ireturn, 1) := by decide +kernel
theorem dX0_free_0 : decode cX0_free 0 = .ok (.aload_n 0, 1) := by decide +kernel
theorem dX0_free_1 : decode cX0_free 1 = .ok (.aload_n 1, 1) := by decide +kernel
theorem dX0_free_2 : decode cX0_free 2 = .ok (.iconst 0, 1) := by decide +kernel
theorem dX0_free_3 : decode cX0_free 3 = .ok (.invokevirtual 50, 3) := by decide +kernel
theorem dX0_free_6 : decode cX0_free 6 = .ok (.return_, 1) := by decide +kernel
theorem dX0_holds_0 : decode cX0_holds 0 = .ok (.aload_n 0, 1) := by decide +kernel
theorem dX0_holds_1 : decode cX0_holds 1 = .ok (.aload_n 1, 1) := by decide +kernel
theorem dX0_holds_2 : decode cX0_holds 2 = .ok (.getfield 22, 3) := by decide +kernel
theorem dX0_holds_5 : decode cX0_holds 5 = .ok (.invokevirtual 28, 3) := by decide +kernel
theorem dX0_holds_8 : decode cX0_holds 8 = .ok (.aload_n 0, 1) := by decide +kernel
theorem dX0_holds_9 : decode cX0_holds 9 = .ok (.getfield 32, 3) := by decide +kernel
theorem dX0_holds_12 : decode cX0_holds 12 = .ok (.aload_n 1, 1) := by decide +kernel
theorem dX0_holds_13 : decode cX0_holds 13 = .ok (.getfield 43, 3) := by decide +kernel
theorem dX0_holds_16 : decode cX0_holds 16 = .ok (.if_icmp .ne 7, 3) := by decide +kernel
theorem dX0_holds_19 : decode cX0_holds 19 = .ok (.iconst 1, 1) := by decide +kernel
theorem dX0_holds_20 : decode cX0_holds 20 = .ok (.goto 4, 3) := by decide +kernel
theorem dX0_holds_23 : decode cX0_holds 23 = .ok (.iconst 0, 1) := by decide +kernel
theorem dX0_holds_24 : decode cX0_holds 24 = .ok (.istore_n 2, 1) := by decide +kernel
theorem dX0_holds_25 : decode cX0_holds 25 = .ok (.iconst 0, 1) := by decide +kernel
theorem dX0_holds_26 : decode cX0_holds 26 = .ok (.istore_n 3, 1) := by decide +kernel
theorem dX0_holds_27 : decode cX0_holds 27 = .ok (.iload_n 2, 1) := by decide +kernel
theorem dX0_holds_28 : decode cX0_holds 28 = .ok (.ifCond .eq 65, 3) := by decide +kernel
theorem dX0_holds_31 : decode cX0_holds 31 = .ok (.iload_n 3, 1) := by decide +kernel
theorem dX0_holds_32 : decode cX0_holds 32 = .ok (.aload_n 0, 1) := by decide +kernel
theorem dX0_holds_33 : decode cX0_holds 33 = .ok (.getfield 32, 3) := by decide +kernel
theorem dX0_holds_36 : decode cX0_holds 36 = .ok (.if_icmp .ge 57, 3) := by decide +kernel
theorem dX0_holds_39 : decode cX0_holds 39 = .ok (.iload_n 3, 1) := by decide +kernel
theorem dX0_holds_40 : decode cX0_holds 40 = .ok (.aload_n 0, 1) := by decide +kernel
theorem dX0_holds_41 : decode cX0_holds 41 = .ok (.getfield 19, 3) := by decide +kernel
theorem dX0_holds_44 : decode cX0_holds 44 = .ok (.arraylength, 1) := by decide +kernel
theorem dX0_holds_45 : decode cX0_holds 45 = .ok (.if_icmp .ge 48, 3) := by decide +kernel
theorem dX0_holds_48 : decode cX0_holds 48 = .ok (.aload_n 0, 1) := by decide +kernel
theorem dX0_holds_49 : decode cX0_holds 49 = .ok (.aload_n 1, 1) := by decide +kernel
theorem dX0_holds_50 : decode cX0_holds 50 = .ok (.getfield 40, 3) := by decide +kernel
theorem dX0_holds_53 : decode cX0_holds 53 = .ok (.iload_n 3, 1) := by decide +kernel
theorem dX0_holds_54 : decode cX0_holds 54 = .ok (.iadd, 1) := by decide +kernel
theorem dX0_holds_55 : decode cX0_holds 55 = .ok (.invokevirtual 46, 3) := by decide +kernel
theorem dX0_holds_58 : decode cX0_holds 58 = .ok (.ifCond .eq 27, 3) := by decide +kernel
theorem dX0_holds_61 : decode cX0_holds 61 = .ok (.aload_n 0, 1) := by decide +kernel
theorem dX0_holds_62 : decode cX0_holds 62 = .ok (.getfield 9, 3) := by decide +kernel
theorem dX0_holds_65 : decode cX0_holds 65 = .ok (.aload_n 1, 1) := by decide +kernel
theorem dX0_holds_66 : decode cX0_holds 66 = .ok (.getfield 40, 3) := by decide +kernel
theorem dX0_holds_69 : decode cX0_holds 69 = .ok (.iload_n 3, 1) := by decide +kernel
theorem dX0_holds_70 : decode cX0_holds 70 = .ok (.iadd, 1) := by decide +kernel
theorem dX0_holds_71 : decode cX0_holds 71 = .ok (.iaload, 1) := by decide +kernel
theorem dX0_holds_72 : decode cX0_holds 72 = .ok (.aload_n 0, 1) := by decide +kernel
theorem dX0_holds_73 : decode cX0_holds 73 = .ok (.getfield 19, 3) := by decide +kernel
theorem dX0_holds_76 : decode cX0_holds 76 = .ok (.iload_n 3, 1) := by decide +kernel
theorem dX0_holds_77 : decode cX0_holds 77 = .ok (.iaload, 1) := by decide +kernel
theorem dX0_holds_78 : decode cX0_holds 78 = .ok (.if_icmp .ne 7, 3) := by decide +kernel
theorem dX0_holds_81 : decode cX0_holds 81 = .ok (.iconst 1, 1) := by decide +kernel
theorem dX0_holds_82 : decode cX0_holds 82 = .ok (.goto 4, 3) := by decide +kernel
theorem dX0_holds_85 : decode cX0_holds 85 = .ok (.iconst 0, 1) := by decide +kernel
theorem dX0_holds_86 : decode cX0_holds 86 = .ok (.istore_n 2, 1) := by decide +kernel
theorem dX0_holds_87 : decode cX0_holds 87 = .ok (.iinc 3 1, 3) := by decide +kernel
theorem dX0_holds_90 : decode cX0_holds 90 = .ok (.goto (-63), 3) := by decide +kernel
theorem dX0_holds_93 : decode cX0_holds 93 = .ok (.iload_n 2, 1) := by decide +kernel
theorem dX0_holds_94 : decode cX0_holds 94 = .ok (.ireturn, 1) := by decide +kernel
theorem dX0_mark_0 : decode cX0_mark 0 = .ok (.iconst 0, 1) := by decide +kernel
theorem dX0_mark_1 : decode cX0_mark 1 = .ok (.istore_n 3, 1) := by decide +kernel
theorem dX0_mark_2 : decode cX0_mark 2 = .ok (.iload_n 3, 1) := by decide +kernel
theorem dX0_mark_3 : decode cX0_mark 3 = .ok (.aload_n 1, 1) := by decide +kernel
theorem dX0_mark_4 : decode cX0_mark 4 = .ok (.getfield 43, 3) := by decide +kernel
theorem dX0_mark_7 : decode cX0_mark 7 = .ok (.if_icmp .ge 34, 3) := by decide +kernel
theorem dX0_mark_10 : decode cX0_mark 10 = .ok (.aload_n 0, 1) := by decide +kernel
theorem dX0_mark_11 : decode cX0_mark 11 = .ok (.aload_n 1, 1) := by decide +kernel
theorem dX0_mark_12 : decode cX0_mark 12 = .ok (.getfield 40, 3) := by decide +kernel
theorem dX0_mark_15 : decode cX0_mark 15 = .ok (.iload_n 3, 1) := by decide +kernel
theorem dX0_mark_16 : decode cX0_mark 16 = .ok (.iadd, 1) := by decide +kernel
theorem dX0_mark_17 : decode cX0_mark 17 = .ok (.invokevirtual 46, 3) := by decide +kernel
theorem dX0_mark_20 : decode cX0_mark 20 = .ok (.ifCond .eq 15, 3) := by decide +kernel
theorem dX0_mark_23 : decode cX0_mark 23 = .ok (.aload_n 0, 1) := by decide +kernel
theorem dX0_mark_24 : decode cX0_mark 24 = .ok (.getfield 15, 3) := by decide +kernel
theorem dX0_mark_27 : decode cX0_mark 27 = .ok (.aload_n 1, 1) := by decide +kernel
theorem dX0_mark_28 : decode cX0_mark 28 = .ok (.getfield 40, 3) := by decide +kernel
theorem dX0_mark_31 : decode cX0_mark 31 = .ok (.iload_n 3, 1) := by decide +kernel
theorem dX0_mark_32 : decode cX0_mark 32 = .ok (.iadd, 1) := by decide +kernel
theorem dX0_mark_33 : decode cX0_mark 33 = .ok (.iload_n 2, 1) := by decide +kernel
theorem dX0_mark_34 : decode cX0_mark 34 = .ok (.bastore, 1) := by decide +kernel
theorem dX0_mark_35 : decode cX0_mark 35 = .ok (.iinc 3 1, 3) := by decide +kernel
theorem dX0_mark_38 : decode cX0_mark 38 = .ok (.goto (-36), 3) := by decide +kernel
theorem dX0_mark_41 : decode cX0_mark 41 = .ok (.return_, 1) := by decide +kernel
theorem dX0_firstRoom_0 : decode cX0_firstRoom 0 = .ok (.iconst 0, 1) := by decide +kernel
theorem dX0_firstRoom_1 : decode cX0_firstRoom 1 = .ok (.istore_n 2, 1) := by decide +kernel
theorem dX0_firstRoom_2 : decode cX0_firstRoom 2 = .ok (.iconst 0, 1) := by decide +kernel
theorem dX0_firstRoom_3 : decode cX0_firstRoom 3 = .ok (.istore_n 3, 1) := by decide +kernel
theorem dX0_firstRoom_4 : decode cX0_firstRoom 4 = .ok (.iload_n 3, 1) := by decide +kernel
theorem dX0_firstRoom_5 : decode cX0_firstRoom 5 = .ok (.aload_n 0, 1) := by decide +kernel
theorem dX0_firstRoom_6 : decode cX0_firstRoom 6 = .ok (.getfield 15, 3) := by decide +kernel
theorem dX0_firstRoom_9 : decode cX0_firstRoom 9 = .ok (.arraylength, 1) := by decide +kernel
theorem dX0_firstRoom_10 : decode cX0_firstRoom 10 = .ok (.if_icmp .ge 37, 3) := by decide +kernel
theorem dX0_firstRoom_13 : decode cX0_firstRoom 13 = .ok (.aload_n 0, 1) := by decide +kernel
theorem dX0_firstRoom_14 : decode cX0_firstRoom 14 = .ok (.getfield 15, 3) := by decide +kernel
theorem dX0_firstRoom_17 : decode cX0_firstRoom 17 = .ok (.iload_n 3, 1) := by decide +kernel
theorem dX0_firstRoom_18 : decode cX0_firstRoom 18 = .ok (.baload, 1) := by decide +kernel
theorem dX0_firstRoom_19 : decode cX0_firstRoom 19 = .ok (.ifCond .eq 7, 3) := by decide +kernel
theorem dX0_firstRoom_22 : decode cX0_firstRoom 22 = .ok (.iconst 0, 1) := by decide +kernel
theorem dX0_firstRoom_23 : decode cX0_firstRoom 23 = .ok (.goto 6, 3) := by decide +kernel
theorem dX0_firstRoom_26 : decode cX0_firstRoom 26 = .ok (.iload_n 2, 1) := by decide +kernel
theorem dX0_firstRoom_27 : decode cX0_firstRoom 27 = .ok (.iconst 1, 1) := by decide +kernel
theorem dX0_firstRoom_28 : decode cX0_firstRoom 28 = .ok (.iadd, 1) := by decide +kernel
theorem dX0_firstRoom_29 : decode cX0_firstRoom 29 = .ok (.istore_n 2, 1) := by decide +kernel
theorem dX0_firstRoom_30 : decode cX0_firstRoom 30 = .ok (.iload_n 2, 1) := by decide +kernel
theorem dX0_firstRoom_31 : decode cX0_firstRoom 31 = .ok (.iload_n 1, 1) := by decide +kernel
theorem dX0_firstRoom_32 : decode cX0_firstRoom 32 = .ok (.if_icmp .ne 9, 3) := by decide +kernel
theorem dX0_firstRoom_35 : decode cX0_firstRoom 35 = .ok (.iload_n 3, 1) := by decide +kernel
theorem dX0_firstRoom_36 : decode cX0_firstRoom 36 = .ok (.iconst 1, 1) := by decide +kernel
theorem dX0_firstRoom_37 : decode cX0_firstRoom 37 = .ok (.iadd, 1) := by decide +kernel
theorem dX0_firstRoom_38 : decode cX0_firstRoom 38 = .ok (.iload_n 1, 1) := by decide +kernel
theorem dX0_firstRoom_39 : decode cX0_firstRoom 39 = .ok (.isub, 1) := by decide +kernel
theorem dX0_firstRoom_40 : decode cX0_firstRoom 40 = .ok (.ireturn, 1) := by decide +kernel
theorem dX0_firstRoom_41 : decode cX0_firstRoom 41 = .ok (.iinc 3 1, 3) := by decide +kernel
theorem dX0_firstRoom_44 : decode cX0_firstRoom 44 = .ok (.goto (-40), 3) := by decide +kernel
theorem dX0_firstRoom_47 : decode cX0_firstRoom 47 = .ok (.iconst (-1), 1) := by decide +kernel
theorem dX0_firstRoom_48 : decode cX0_firstRoom 48 = .ok (.ireturn, 1) := by decide +kernel
theorem dX0_encode_0 : decode cX0_encode 0 = .ok (.aload_n 0, 1) := by decide +kernel
theorem dX0_encode_1 : decode cX0_encode 1 = .ok (.iconst 0, 1) := by decide +kernel
theorem dX0_encode_2 : decode cX0_encode 2 = .ok (.putfield 32, 3) := by decide +kernel
theorem dX0_encode_5 : decode cX0_encode 5 = .ok (.aload_n 0, 1) := by decide +kernel
theorem dX0_encode_6 : decode cX0_encode 6 = .ok (.aload_n 1, 1) := by decide +kernel
theorem dX0_encode_7 : decode cX0_encode 7 = .ok (.getfield 54, 3) := by decide +kernel
theorem dX0_encode_10 : decode cX0_encode 10 = .ok (.invokevirtual 59, 3) := by decide +kernel
theorem dX0_encode_13 : decode cX0_encode 13 = .ok (.iconst 0, 1) := by decide +kernel
theorem dX0_encode_14 : decode cX0_encode 14 = .ok (.istore_n 2, 1) := by decide +kernel
theorem dX0_encode_15 : decode cX0_encode 15 = .ok (.iconst 0, 1) := by decide +kernel
theorem dX0_encode_16 : decode cX0_encode 16 = .ok (.istore_n 3, 1) := by decide +kernel
theorem dX0_encode_17 : decode cX0_encode 17 = .ok (.iload_n 3, 1) := by decide +kernel
theorem dX0_encode_18 : decode cX0_encode 18 = .ok (.aload_n 1, 1) := by decide +kernel
theorem dX0_encode_19 : decode cX0_encode 19 = .ok (.getfield 54, 3) := by decide +kernel
theorem dX0_encode_22 : decode cX0_encode 22 = .ok (.if_icmp .ge 72, 3) := by decide +kernel
theorem dX0_encode_25 : decode cX0_encode 25 = .ok (.aload_n 0, 1) := by decide +kernel
theorem dX0_encode_26 : decode cX0_encode 26 = .ok (.aload_n 1, 1) := by decide +kernel
theorem dX0_encode_27 : decode cX0_encode 27 = .ok (.iload_n 3, 1) := by decide +kernel
theorem dX0_encode_28 : decode cX0_encode 28 = .ok (.invokevirtual 63, 3) := by decide +kernel
theorem dX0_encode_31 : decode cX0_encode 31 = .ok (.iload_n 2, 1) := by decide +kernel
theorem dX0_encode_32 : decode cX0_encode 32 = .ok (.isub, 1) := by decide +kernel
theorem dX0_encode_33 : decode cX0_encode 33 = .ok (.invokevirtual 66, 3) := by decide +kernel
theorem dX0_encode_36 : decode cX0_encode 36 = .ok (.aload_n 1, 1) := by decide +kernel
theorem dX0_encode_37 : decode cX0_encode 37 = .ok (.iload_n 3, 1) := by decide +kernel
theorem dX0_encode_38 : decode cX0_encode 38 = .ok (.invokevirtual 63, 3) := by decide +kernel
theorem dX0_encode_41 : decode cX0_encode 41 = .ok (.istore_n 2, 1) := by decide +kernel
theorem dX0_encode_42 : decode cX0_encode 42 = .ok (.iconst 2, 1) := by decide +kernel
theorem dX0_encode_43 : decode cX0_encode 43 = .ok (.aload_n 1, 1) := by decide +kernel
theorem dX0_encode_44 : decode cX0_encode 44 = .ok (.iload_n 3, 1) := by decide +kernel
theorem dX0_encode_45 : decode cX0_encode 45 = .ok (.invokevirtual 69, 3) := by decide +kernel
theorem dX0_encode_48 : decode cX0_encode 48 = .ok (.imul, 1) := by decide +kernel
theorem dX0_encode_49 : decode cX0_encode 49 = .ok (.istore 4, 2) := by decide +kernel
theorem dX0_encode_51 : decode cX0_encode 51 = .ok (.aload_n 1, 1) := by decide +kernel
theorem dX0_encode_52 : decode cX0_encode 52 = .ok (.iload_n 3, 1) := by decide +kernel
theorem dX0_encode_53 : decode cX0_encode 53 = .ok (.invokevirtual 72, 3) := by decide +kernel
theorem dX0_encode_56 : decode cX0_encode 56 = .ok (.ifCond .eq 14, 3) := by decide +kernel
theorem dX0_encode_59 : decode cX0_encode 59 = .ok (.aload_n 0, 1) := by decide +kernel
theorem dX0_encode_60 : decode cX0_encode 60 = .ok (.iload 4, 2) := by decide +kernel
theorem dX0_encode_62 : decode cX0_encode 62 = .ok (.iconst 1, 1) := by decide +kernel
theorem dX0_encode_63 : decode cX0_encode 63 = .ok (.iadd, 1) := by decide +kernel
theorem dX0_encode_64 : decode cX0_encode 64 = .ok (.invokevirtual 66, 3) := by decide +kernel
theorem dX0_encode_67 : decode cX0_encode 67 = .ok (.goto 21, 3) := by decide +kernel
theorem dX0_encode_70 : decode cX0_encode 70 = .ok (.aload_n 0, 1) := by decide +kernel
theorem dX0_encode_71 : decode cX0_encode 71 = .ok (.iload 4, 2) := by decide +kernel
theorem dX0_encode_73 : decode cX0_encode 73 = .ok (.invokevirtual 66, 3) := by decide +kernel
theorem dX0_encode_76 : decode cX0_encode 76 = .ok (.aload_n 0, 1) := by decide +kernel
theorem dX0_encode_77 : decode cX0_encode 77 = .ok (.aload_n 1, 1) := by decide +kernel
theorem dX0_encode_78 : decode cX0_encode 78 = .ok (.iload_n 3, 1) := by decide +kernel
theorem dX0_encode_79 : decode cX0_encode 79 = .ok (.invokevirtual 75, 3) := by decide +kernel
theorem dX0_encode_82 : decode cX0_encode 82 = .ok (.invokestatic 78, 3) := by decide +kernel
theorem dX0_encode_85 : decode cX0_encode 85 = .ok (.invokevirtual 66, 3) := by decide +kernel
theorem dX0_encode_88 : decode cX0_encode 88 = .ok (.iinc 3 1, 3) := by decide +kernel
theorem dX0_encode_91 : decode cX0_encode 91 = .ok (.goto (-74), 3) := by decide +kernel
theorem dX0_encode_94 : decode cX0_encode 94 = .ok (.aload_n 0, 1) := by decide +kernel
theorem dX0_encode_95 : decode cX0_encode 95 = .ok (.aload_n 0, 1) := by decide +kernel
theorem dX0_encode_96 : decode cX0_encode 96 = .ok (.invokevirtual 81, 3) := by decide +kernel
theorem dX0_encode_99 : decode cX0_encode 99 = .ok (.sipush 251, 3) := by decide +kernel
theorem dX0_encode_102 : decode cX0_encode 102 = .ok (.irem, 1) := by decide +kernel
theorem dX0_encode_103 : decode cX0_encode 103 = .ok (.invokevirtual 59, 3) := by decide +kernel
theorem dX0_encode_106 : decode cX0_encode 106 = .ok (.return_, 1) := by decide +kernel
theorem dX0_folded_0 : decode cX0_folded 0 = .ok (.iload_n 0, 1) := by decide +kernel
theorem dX0_folded_1 : decode cX0_folded 1 = .ok (.ifCond .lt 9, 3) := by decide +kernel
theorem dX0_folded_4 : decode cX0_folded 4 = .ok (.iconst 2, 1) := by decide +kernel
theorem dX0_folded_5 : decode cX0_folded 5 = .ok (.iload_n 0, 1) := by decide +kernel
theorem dX0_folded_6 : decode cX0_folded 6 = .ok (.imul, 1) := by decide +kernel
theorem dX0_folded_7 : decode cX0_folded 7 = .ok (.goto 9, 3) := by decide +kernel
theorem dX0_folded_10 : decode cX0_folded 10 = .ok (.bipush (-2), 2) := by decide +kernel
theorem dX0_folded_12 : decode cX0_folded 12 = .ok (.iload_n 0, 1) := by decide +kernel
theorem dX0_folded_13 : decode cX0_folded 13 = .ok (.imul, 1) := by decide +kernel
theorem dX0_folded_14 : decode cX0_folded 14 = .ok (.iconst 1, 1) := by decide +kernel
theorem dX0_folded_15 : decode cX0_folded 15 = .ok (.isub, 1) := by decide +kernel
theorem dX0_folded_16 : decode cX0_folded 16 = .ok (.ireturn, 1) := by decide +kernel
theorem dX0_emitShort_0 : decode cX0_emitShort 0 = .ok (.iload_n 1, 1) := by decide +kernel
theorem dX0_emitShort_1 : decode cX0_emitShort 1 = .ok (.istore_n 2, 1) := by decide +kernel
theorem dX0_emitShort_2 : decode cX0_emitShort 2 = .ok (.iconst 0, 1) := by decide +kernel
theorem dX0_emitShort_3 : decode cX0_emitShort 3 = .ok (.istore_n 3, 1) := by decide +kernel
theorem dX0_emitShort_4 : decode cX0_emitShort 4 = .ok (.iload_n 3, 1) := by decide +kernel
theorem dX0_emitShort_5 : decode cX0_emitShort 5 = .ok (.iconst 4, 1) := by decide +kernel
theorem dX0_emitShort_6 : decode cX0_emitShort 6 = .ok (.if_icmp .ge 32, 3) := by decide +kernel
theorem dX0_emitShort_9 : decode cX0_emitShort 9 = .ok (.iload_n 2, 1) := by decide +kernel
theorem dX0_emitShort_10 : decode cX0_emitShort 10 = .ok (.bipush 127, 2) := by decide +kernel
theorem dX0_emitShort_12 : decode cX0_emitShort 12 = .ok (.if_icmp .le 26, 3) := by decide +kernel
theorem dX0_emitShort_15 : decode cX0_emitShort 15 = .ok (.aload_n 0, 1) := by decide +kernel
theorem dX0_emitShort_16 : decode cX0_emitShort 16 = .ok (.sipush 128, 3) := by decide +kernel
theorem dX0_emitShort_19 : decode cX0_emitShort 19 = .ok (.iload_n 2, 1) := by decide +kernel
theorem dX0_emitShort_20 : decode cX0_emitShort 20 = .ok (.bipush 127, 2) := by decide +kernel
theorem dX0_emitShort_22 : decode cX0_emitShort 22 = .ok (.iand, 1) := by decide +kernel
theorem dX0_emitShort_23 : decode cX0_emitShort 23 = .ok (.iadd, 1) := by decide +kernel
theorem dX0_emitShort_24 : decode cX0_emitShort 24 = .ok (.invokevirtual 59, 3) := by decide +kernel
theorem dX0_emitShort_27 : decode cX0_emitShort 27 = .ok (.iload_n 2, 1) := by decide +kernel
theorem dX0_emitShort_28 : decode cX0_emitShort 28 = .ok (.bipush 7, 2) := by decide +kernel
theorem dX0_emitShort_30 : decode cX0_emitShort 30 = .ok (.ishr, 1) := by decide +kernel
theorem dX0_emitShort_31 : decode cX0_emitShort 31 = .ok (.istore_n 2, 1) := by decide +kernel
theorem dX0_emitShort_32 : decode cX0_emitShort 32 = .ok (.iinc 3 1, 3) := by decide +kernel
theorem dX0_emitShort_35 : decode cX0_emitShort 35 = .ok (.goto (-31), 3) := by decide +kernel
theorem dX0_emitShort_38 : decode cX0_emitShort 38 = .ok (.aload_n 0, 1) := by decide +kernel
theorem dX0_emitShort_39 : decode cX0_emitShort 39 = .ok (.iload_n 2, 1) := by decide +kernel
theorem dX0_emitShort_40 : decode cX0_emitShort 40 = .ok (.invokevirtual 59, 3) := by decide +kernel
theorem dX0_emitShort_43 : decode cX0_emitShort 43 = .ok (.return_, 1) := by decide +kernel
theorem dX0_emit_0 : decode cX0_emit 0 = .ok (.aload_n 0, 1) := by decide +kernel
theorem dX0_emit_1 : decode cX0_emit 1 = .ok (.getfield 32, 3) := by decide +kernel
theorem dX0_emit_4 : decode cX0_emit 4 = .ok (.aload_n 0, 1) := by decide +kernel
theorem dX0_emit_5 : decode cX0_emit 5 = .ok (.getfield 19, 3) := by decide +kernel
theorem dX0_emit_8 : decode cX0_emit 8 = .ok (.arraylength, 1) := by decide +kernel
theorem dX0_emit_9 : decode cX0_emit 9 = .ok (.if_icmp .ge 23, 3) := by decide +kernel
theorem dX0_emit_12 : decode cX0_emit 12 = .ok (.aload_n 0, 1) := by decide +kernel
theorem dX0_emit_13 : decode cX0_emit 13 = .ok (.getfield 19, 3) := by decide +kernel
theorem dX0_emit_16 : decode cX0_emit 16 = .ok (.aload_n 0, 1) := by decide +kernel
theorem dX0_emit_17 : decode cX0_emit 17 = .ok (.getfield 32, 3) := by decide +kernel
theorem dX0_emit_20 : decode cX0_emit 20 = .ok (.iload_n 1, 1) := by decide +kernel
theorem dX0_emit_21 : decode cX0_emit 21 = .ok (.iastore, 1) := by decide +kernel
theorem dX0_emit_22 : decode cX0_emit 22 = .ok (.aload_n 0, 1) := by decide +kernel
theorem dX0_emit_23 : decode cX0_emit 23 = .ok (.dup, 1) := by decide +kernel
theorem dX0_emit_24 : decode cX0_emit 24 = .ok (.getfield 32, 3) := by decide +kernel
theorem dX0_emit_27 : decode cX0_emit 27 = .ok (.iconst 1, 1) := by decide +kernel
theorem dX0_emit_28 : decode cX0_emit 28 = .ok (.iadd, 1) := by decide +kernel
theorem dX0_emit_29 : decode cX0_emit 29 = .ok (.putfield 32, 3) := by decide +kernel
theorem dX0_emit_32 : decode cX0_emit 32 = .ok (.return_, 1) := by decide +kernel
theorem dX0_sumOfCode_0 : decode cX0_sumOfCode 0 = .ok (.iconst 0, 1) := by decide +kernel
theorem dX0_sumOfCode_1 : decode cX0_sumOfCode 1 = .ok (.istore_n 1, 1) := by decide +kernel
theorem dX0_sumOfCode_2 : decode cX0_sumOfCode 2 = .ok (.iconst 0, 1) := by decide +kernel
theorem dX0_sumOfCode_3 : decode cX0_sumOfCode 3 = .ok (.istore_n 2, 1) := by decide +kernel
theorem dX0_sumOfCode_4 : decode cX0_sumOfCode 4 = .ok (.iload_n 2, 1) := by decide +kernel
theorem dX0_sumOfCode_5 : decode cX0_sumOfCode 5 = .ok (.aload_n 0, 1) := by decide +kernel
theorem dX0_sumOfCode_6 : decode cX0_sumOfCode 6 = .ok (.getfield 32, 3) := by decide +kernel
theorem dX0_sumOfCode_9 : decode cX0_sumOfCode 9 = .ok (.if_icmp .ge 27, 3) := by decide +kernel
theorem dX0_sumOfCode_12 : decode cX0_sumOfCode 12 = .ok (.iload_n 2, 1) := by decide +kernel
theorem dX0_sumOfCode_13 : decode cX0_sumOfCode 13 = .ok (.aload_n 0, 1) := by decide +kernel
theorem dX0_sumOfCode_14 : decode cX0_sumOfCode 14 = .ok (.getfield 19, 3) := by decide +kernel
theorem dX0_sumOfCode_17 : decode cX0_sumOfCode 17 = .ok (.arraylength, 1) := by decide +kernel
theorem dX0_sumOfCode_18 : decode cX0_sumOfCode 18 = .ok (.if_icmp .ge 18, 3) := by decide +kernel
theorem dX0_sumOfCode_21 : decode cX0_sumOfCode 21 = .ok (.iload_n 1, 1) := by decide +kernel
theorem dX0_sumOfCode_22 : decode cX0_sumOfCode 22 = .ok (.aload_n 0, 1) := by decide +kernel
theorem dX0_sumOfCode_23 : decode cX0_sumOfCode 23 = .ok (.getfield 19, 3) := by decide +kernel
theorem dX0_sumOfCode_26 : decode cX0_sumOfCode 26 = .ok (.iload_n 2, 1) := by decide +kernel
theorem dX0_sumOfCode_27 : decode cX0_sumOfCode 27 = .ok (.iaload, 1) := by decide +kernel
theorem dX0_sumOfCode_28 : decode cX0_sumOfCode 28 = .ok (.iadd, 1) := by decide +kernel
theorem dX0_sumOfCode_29 : decode cX0_sumOfCode 29 = .ok (.istore_n 1, 1) := by decide +kernel
theorem dX0_sumOfCode_30 : decode cX0_sumOfCode 30 = .ok (.iinc 2 1, 3) := by decide +kernel
theorem dX0_sumOfCode_33 : decode cX0_sumOfCode 33 = .ok (.goto (-29), 3) := by decide +kernel
theorem dX0_sumOfCode_36 : decode cX0_sumOfCode 36 = .ok (.iload_n 1, 1) := by decide +kernel
theorem dX0_sumOfCode_37 : decode cX0_sumOfCode 37 = .ok (.ireturn, 1) := by decide +kernel
theorem dX1_init_0 : decode cX1_init 0 = .ok (.aload_n 0, 1) := by decide +kernel
theorem dX1_init_1 : decode cX1_init 1 = .ok (.invokespecial 3, 3) := by decide +kernel
theorem dX1_init_4 : decode cX1_init 4 = .ok (.aload_n 0, 1) := by decide +kernel
theorem dX1_init_5 : decode cX1_init 5 = .ok (.new 9, 3) := by decide +kernel
theorem dX1_init_8 : decode cX1_init 8 = .ok (.dup, 1) := by decide +kernel
theorem dX1_init_9 : decode cX1_init 9 = .ok (.invokespecial 11, 3) := by decide +kernel
theorem dX1_init_12 : decode cX1_init 12 = .ok (.putfield 12, 3) := by decide +kernel
theorem dX1_init_15 : decode cX1_init 15 = .ok (.return_, 1) := by decide +kernel
theorem dX1_size_0 : decode cX1_size 0 = .ok (.aload_n 0, 1) := by decide +kernel
theorem dX1_size_1 : decode cX1_size 1 = .ok (.getfield 12, 3) := by decide +kernel
theorem dX1_size_4 : decode cX1_size 4 = .ok (.invokevirtual 18, 3) := by decide +kernel
theorem dX1_size_7 : decode cX1_size 7 = .ok (.ireturn, 1) := by decide +kernel
theorem dX1_at_0 : decode cX1_at 0 = .ok (.iload_n 1, 1) := by decide +kernel
theorem dX1_at_1 : decode cX1_at 1 = .ok (.ifCond .lt 28, 3) := by decide +kernel
theorem dX1_at_4 : decode cX1_at 4 = .ok (.iload_n 1, 1) := by decide +kernel
theorem dX1_at_5 : decode cX1_at 5 = .ok (.aload_n 0, 1) := by decide +kernel
theorem dX1_at_6 : decode cX1_at 6 = .ok (.getfield 12, 3) := by decide +kernel
theorem dX1_at_9 : decode cX1_at 9 = .ok (.invokevirtual 18, 3) := by decide +kernel
theorem dX1_at_12 : decode cX1_at 12 = .ok (.if_icmp .ge 17, 3) := by decide +kernel
theorem dX1_at_15 : decode cX1_at 15 = .ok (.aload_n 0, 1) := by decide +kernel
theorem dX1_at_16 : decode cX1_at 16 = .ok (.getfield 12, 3) := by decide +kernel
theorem dX1_at_19 : decode cX1_at 19 = .ok (.iload_n 1, 1) := by decide +kernel
theorem dX1_at_20 : decode cX1_at 20 = .ok (.invokevirtual 22, 3) := by decide +kernel
theorem dX1_at_23 : decode cX1_at 23 = .ok (.checkcast 26, 3) := by decide +kernel
theorem dX1_at_26 : decode cX1_at 26 = .ok (.goto 4, 3) := by decide +kernel
theorem dX1_at_29 : decode cX1_at 29 = .ok (.aconst_null, 1) := by decide +kernel
theorem dX1_at_30 : decode cX1_at 30 = .ok (.areturn, 1) := by decide +kernel
theorem dX1_add_0 : decode cX1_add 0 = .ok (.aload_n 0, 1) := by decide +kernel
theorem dX1_add_1 : decode cX1_add 1 = .ok (.aload_n 0, 1) := by decide +kernel
theorem dX1_add_2 : decode cX1_add 2 = .ok (.getfield 12, 3) := by decide +kernel
theorem dX1_add_5 : decode cX1_add 5 = .ok (.invokevirtual 18, 3) := by decide +kernel
theorem dX1_add_8 : decode cX1_add 8 = .ok (.aload_n 1, 1) := by decide +kernel
theorem dX1_add_9 : decode cX1_add 9 = .ok (.invokevirtual 28, 3) := by decide +kernel
theorem dX1_add_12 : decode cX1_add 12 = .ok (.return_, 1) := by decide +kernel
theorem dX1_insert_0 : decode cX1_insert 0 = .ok (.aload_n 2, 1) := by decide +kernel
theorem dX1_insert_1 : decode cX1_insert 1 = .ok (.ifnull 27, 3) := by decide +kernel
theorem dX1_insert_4 : decode cX1_insert 4 = .ok (.iload_n 1, 1) := by decide +kernel
theorem dX1_insert_5 : decode cX1_insert 5 = .ok (.ifCond .lt 23, 3) := by decide +kernel
theorem dX1_insert_8 : decode cX1_insert 8 = .ok (.iload_n 1, 1) := by decide +kernel
theorem dX1_insert_9 : decode cX1_insert 9 = .ok (.aload_n 0, 1) := by decide +kernel
theorem dX1_insert_10 : decode cX1_insert 10 = .ok (.getfield 12, 3) := by decide +kernel
theorem dX1_insert_13 : decode cX1_insert 13 = .ok (.invokevirtual 18, 3) := by decide +kernel
theorem dX1_insert_16 : decode cX1_insert 16 = .ok (.if_icmp .gt 12, 3) := by decide +kernel
theorem dX1_insert_19 : decode cX1_insert 19 = .ok (.aload_n 0, 1) := by decide +kernel
theorem dX1_insert_20 : decode cX1_insert 20 = .ok (.getfield 12, 3) := by decide +kernel
theorem dX1_insert_23 : decode cX1_insert 23 = .ok (.iload_n 1, 1) := by decide +kernel
theorem dX1_insert_24 : decode cX1_insert 24 = .ok (.aload_n 2, 1) := by decide +kernel
theorem dX1_insert_25 : decode cX1_insert 25 = .ok (.invokevirtual 32, 3) := by decide +kernel
theorem dX1_insert_28 : decode cX1_insert 28 = .ok (.return_, 1) := by decide +kernel
theorem dX1_takeOut_0 : decode cX1_takeOut 0 = .ok (.iload_n 1, 1) := by decide +kernel
theorem dX1_takeOut_1 : decode cX1_takeOut 1 = .ok (.ifCond .lt 28, 3) := by decide +kernel
theorem dX1_takeOut_4 : decode cX1_takeOut 4 = .ok (.iload_n 1, 1) := by decide +kernel
theorem dX1_takeOut_5 : decode cX1_takeOut 5 = .ok (.aload_n 0, 1) := by decide +kernel
theorem dX1_takeOut_6 : decode cX1_takeOut 6 = .ok (.getfield 12, 3) := by decide +kernel
theorem dX1_takeOut_9 : decode cX1_takeOut 9 = .ok (.invokevirtual 18, 3) := by decide +kernel
theorem dX1_takeOut_12 : decode cX1_takeOut 12 = .ok (.if_icmp .ge 17, 3) := by decide +kernel
theorem dX1_takeOut_15 : decode cX1_takeOut 15 = .ok (.aload_n 0, 1) := by decide +kernel
theorem dX1_takeOut_16 : decode cX1_takeOut 16 = .ok (.getfield 12, 3) := by decide +kernel
theorem dX1_takeOut_19 : decode cX1_takeOut 19 = .ok (.iload_n 1, 1) := by decide +kernel
theorem dX1_takeOut_20 : decode cX1_takeOut 20 = .ok (.invokevirtual 36, 3) := by decide +kernel
theorem dX1_takeOut_23 : decode cX1_takeOut 23 = .ok (.checkcast 26, 3) := by decide +kernel
theorem dX1_takeOut_26 : decode cX1_takeOut 26 = .ok (.goto 4, 3) := by decide +kernel
theorem dX1_takeOut_29 : decode cX1_takeOut 29 = .ok (.aconst_null, 1) := by decide +kernel
theorem dX1_takeOut_30 : decode cX1_takeOut 30 = .ok (.areturn, 1) := by decide +kernel
theorem dX1_empty_0 : decode cX1_empty 0 = .ok (.aload_n 0, 1) := by decide +kernel
theorem dX1_empty_1 : decode cX1_empty 1 = .ok (.getfield 12, 3) := by decide +kernel
theorem dX1_empty_4 : decode cX1_empty 4 = .ok (.invokevirtual 39, 3) := by decide +kernel
theorem dX1_empty_7 : decode cX1_empty 7 = .ok (.return_, 1) := by decide +kernel
theorem dX1_leastKey_0 : decode cX1_leastKey 0 = .ok (.sipush 1000, 3) := by decide +kernel
theorem dX1_leastKey_3 : decode cX1_leastKey 3 = .ok (.istore_n 3, 1) := by decide +kernel
theorem dX1_leastKey_4 : decode cX1_leastKey 4 = .ok (.iload_n 1, 1) := by decide +kernel
theorem dX1_leastKey_5 : decode cX1_leastKey 5 = .ok (.istore 4, 2) := by decide +kernel
theorem dX1_leastKey_7 : decode cX1_leastKey 7 = .ok (.iload 4, 2) := by decide +kernel
theorem dX1_leastKey_9 : decode cX1_leastKey 9 = .ok (.iload_n 2, 1) := by decide +kernel
theorem dX1_leastKey_10 : decode cX1_leastKey 10 = .ok (.if_icmp .ge 32, 3) := by decide +kernel
theorem dX1_leastKey_13 : decode cX1_leastKey 13 = .ok (.aload_n 0, 1) := by decide +kernel
theorem dX1_leastKey_14 : decode cX1_leastKey 14 = .ok (.iload 4, 2) := by decide +kernel
theorem dX1_leastKey_16 : decode cX1_leastKey 16 = .ok (.invokevirtual 42, 3) := by decide +kernel
theorem dX1_leastKey_19 : decode cX1_leastKey 19 = .ok (.astore 5, 2) := by decide +kernel
theorem dX1_leastKey_21 : decode cX1_leastKey 21 = .ok (.aload 5, 2) := by decide +kernel
theorem dX1_leastKey_23 : decode cX1_leastKey 23 = .ok (.ifnull 13, 3) := by decide +kernel
theorem dX1_leastKey_26 : decode cX1_leastKey 26 = .ok (.iload_n 3, 1) := by decide +kernel
theorem dX1_leastKey_27 : decode cX1_leastKey 27 = .ok (.aload 5, 2) := by decide +kernel
theorem dX1_leastKey_29 : decode cX1_leastKey 29 = .ok (.invokevirtual 46, 3) := by decide +kernel
theorem dX1_leastKey_32 : decode cX1_leastKey 32 = .ok (.invokestatic 49, 3) := by decide +kernel
theorem dX1_leastKey_35 : decode cX1_leastKey 35 = .ok (.istore_n 3, 1) := by decide +kernel
theorem dX1_leastKey_36 : decode cX1_leastKey 36 = .ok (.iinc 4 1, 3) := by decide +kernel
theorem dX1_leastKey_39 : decode cX1_leastKey 39 = .ok (.goto (-32), 3) := by decide +kernel
theorem dX1_leastKey_42 : decode cX1_leastKey 42 = .ok (.iload_n 3, 1) := by decide +kernel
theorem dX1_leastKey_43 : decode cX1_leastKey 43 = .ok (.ireturn, 1) := by decide +kernel
theorem dX1_greatestKey_0 : decode cX1_greatestKey 0 = .ok (.iconst (-1), 1) := by decide +kernel
theorem dX1_greatestKey_1 : decode cX1_greatestKey 1 = .ok (.istore_n 3, 1) := by decide +kernel
theorem dX1_greatestKey_2 : decode cX1_greatestKey 2 = .ok (.iload_n 1, 1) := by decide +kernel
theorem dX1_greatestKey_3 : decode cX1_greatestKey 3 = .ok (.istore 4, 2) := by decide +kernel
theorem dX1_greatestKey_5 : decode cX1_greatestKey 5 = .ok (.iload 4, 2) := by decide +kernel
theorem dX1_greatestKey_7 : decode cX1_greatestKey 7 = .ok (.iload_n 2, 1) := by decide +kernel
theorem dX1_greatestKey_8 : decode cX1_greatestKey 8 = .ok (.if_icmp .ge 32, 3) := by decide +kernel
theorem dX1_greatestKey_11 : decode cX1_greatestKey 11 = .ok (.aload_n 0, 1) := by decide +kernel
theorem dX1_greatestKey_12 : decode cX1_greatestKey 12 = .ok (.iload 4, 2) := by decide +kernel
theorem dX1_greatestKey_14 : decode cX1_greatestKey 14 = .ok (.invokevirtual 42, 3) := by decide +kernel
theorem dX1_greatestKey_17 : decode cX1_greatestKey 17 = .ok (.astore 5, 2) := by decide +kernel
theorem dX1_greatestKey_19 : decode cX1_greatestKey 19 = .ok (.aload 5, 2) := by decide +kernel
theorem dX1_greatestKey_21 : decode cX1_greatestKey 21 = .ok (.ifnull 13, 3) := by decide +kernel
theorem dX1_greatestKey_24 : decode cX1_greatestKey 24 = .ok (.iload_n 3, 1) := by decide +kernel
theorem dX1_greatestKey_25 : decode cX1_greatestKey 25 = .ok (.aload 5, 2) := by decide +kernel
theorem dX1_greatestKey_27 : decode cX1_greatestKey 27 = .ok (.invokevirtual 55, 3) := by decide +kernel
theorem dX1_greatestKey_30 : decode cX1_greatestKey 30 = .ok (.invokestatic 58, 3) := by decide +kernel
theorem dX1_greatestKey_33 : decode cX1_greatestKey 33 = .ok (.istore_n 3, 1) := by decide +kernel
theorem dX1_greatestKey_34 : decode cX1_greatestKey 34 = .ok (.iinc 4 1, 3) := by decide +kernel
theorem dX1_greatestKey_37 : decode cX1_greatestKey 37 = .ok (.goto (-32), 3) := by decide +kernel
theorem dX1_greatestKey_40 : decode cX1_greatestKey 40 = .ok (.iload_n 3, 1) := by decide +kernel
theorem dX1_greatestKey_41 : decode cX1_greatestKey 41 = .ok (.ireturn, 1) := by decide +kernel
theorem dX1_howManyEndBelow_0 : decode cX1_howManyEndBelow 0 = .ok (.iconst 0, 1) := by decide +kernel
theorem dX1_howManyEndBelow_1 : decode cX1_howManyEndBelow 1 = .ok (.istore_n 2, 1) := by decide +kernel
theorem dX1_howManyEndBelow_2 : decode cX1_howManyEndBelow 2 = .ok (.iconst 0, 1) := by decide +kernel
theorem dX1_howManyEndBelow_3 : decode cX1_howManyEndBelow 3 = .ok (.istore_n 3, 1) := by decide +kernel
theorem dX1_howManyEndBelow_4 : decode cX1_howManyEndBelow 4 = .ok (.iload_n 3, 1) := by decide +kernel
theorem dX1_howManyEndBelow_5 : decode cX1_howManyEndBelow 5 = .ok (.aload_n 0, 1) := by decide +kernel
theorem dX1_howManyEndBelow_6 : decode cX1_howManyEndBelow 6 = .ok (.getfield 12, 3) := by decide +kernel
theorem dX1_howManyEndBelow_9 : decode cX1_howManyEndBelow 9 = .ok (.invokevirtual 18, 3) := by decide +kernel
theorem dX1_howManyEndBelow_12 : decode cX1_howManyEndBelow 12 = .ok (.if_icmp .ge 33, 3) := by decide +kernel
theorem dX1_howManyEndBelow_15 : decode cX1_howManyEndBelow 15 = .ok (.aload_n 0, 1) := by decide +kernel
theorem dX1_howManyEndBelow_16 : decode cX1_howManyEndBelow 16 = .ok (.iload_n 3, 1) := by decide +kernel
theorem dX1_howManyEndBelow_17 : decode cX1_howManyEndBelow 17 = .ok (.invokevirtual 42, 3) := by decide +kernel
theorem dX1_howManyEndBelow_20 : decode cX1_howManyEndBelow 20 = .ok (.astore 4, 2) := by decide +kernel
theorem dX1_howManyEndBelow_22 : decode cX1_howManyEndBelow 22 = .ok (.aload 4, 2) := by decide +kernel
theorem dX1_howManyEndBelow_24 : decode cX1_howManyEndBelow 24 = .ok (.ifnull 15, 3) := by decide +kernel
theorem dX1_howManyEndBelow_27 : decode cX1_howManyEndBelow 27 = .ok (.aload 4, 2) := by decide +kernel
theorem dX1_howManyEndBelow_29 : decode cX1_howManyEndBelow 29 = .ok (.invokevirtual 55, 3) := by decide +kernel
theorem dX1_howManyEndBelow_32 : decode cX1_howManyEndBelow 32 = .ok (.iload_n 1, 1) := by decide +kernel
theorem dX1_howManyEndBelow_33 : decode cX1_howManyEndBelow 33 = .ok (.if_icmp .ge 6, 3) := by decide +kernel
theorem dX1_howManyEndBelow_36 : decode cX1_howManyEndBelow 36 = .ok (.iinc 2 1, 3) := by decide +kernel
theorem dX1_howManyEndBelow_39 : decode cX1_howManyEndBelow 39 = .ok (.iinc 3 1, 3) := by decide +kernel
theorem dX1_howManyEndBelow_42 : decode cX1_howManyEndBelow 42 = .ok (.goto (-38), 3) := by decide +kernel
theorem dX1_howManyEndBelow_45 : decode cX1_howManyEndBelow 45 = .ok (.iload_n 2, 1) := by decide +kernel
theorem dX1_howManyEndBelow_46 : decode cX1_howManyEndBelow 46 = .ok (.ireturn, 1) := by decide +kernel
theorem dX1_howManyBeginUpTo_0 : decode cX1_howManyBeginUpTo 0 = .ok (.iconst 0, 1) := by decide +kernel
theorem dX1_howManyBeginUpTo_1 : decode cX1_howManyBeginUpTo 1 = .ok (.istore_n 2, 1) := by decide +kernel
theorem dX1_howManyBeginUpTo_2 : decode cX1_howManyBeginUpTo 2 = .ok (.iconst 0, 1) := by decide +kernel
theorem dX1_howManyBeginUpTo_3 : decode cX1_howManyBeginUpTo 3 = .ok (.istore_n 3, 1) := by decide +kernel
theorem dX1_howManyBeginUpTo_4 : decode cX1_howManyBeginUpTo 4 = .ok (.iload_n 3, 1) := by decide +kernel
theorem dX1_howManyBeginUpTo_5 : decode cX1_howManyBeginUpTo 5 = .ok (.aload_n 0, 1) := by decide +kernel
theorem dX1_howManyBeginUpTo_6 : decode cX1_howManyBeginUpTo 6 = .ok (.getfield 12, 3) := by decide +kernel
theorem dX1_howManyBeginUpTo_9 : decode cX1_howManyBeginUpTo 9 = .ok (.invokevirtual 18, 3) := by decide +kernel
theorem dX1_howManyBeginUpTo_12 : decode cX1_howManyBeginUpTo 12 = .ok (.if_icmp .ge 33, 3) := by decide +kernel
theorem dX1_howManyBeginUpTo_15 : decode cX1_howManyBeginUpTo 15 = .ok (.aload_n 0, 1) := by decide +kernel
theorem dX1_howManyBeginUpTo_16 : decode cX1_howManyBeginUpTo 16 = .ok (.iload_n 3, 1) := by decide +kernel
theorem dX1_howManyBeginUpTo_17 : decode cX1_howManyBeginUpTo 17 = .ok (.invokevirtual 42, 3) := by decide +kernel
theorem dX1_howManyBeginUpTo_20 : decode cX1_howManyBeginUpTo 20 = .ok (.astore 4, 2) := by decide +kernel
theorem dX1_howManyBeginUpTo_22 : decode cX1_howManyBeginUpTo 22 = .ok (.aload 4, 2) := by decide +kernel
theorem dX1_howManyBeginUpTo_24 : decode cX1_howManyBeginUpTo 24 = .ok (.ifnull 15, 3) := by decide +kernel
theorem dX1_howManyBeginUpTo_27 : decode cX1_howManyBeginUpTo 27 = .ok (.aload 4, 2) := by decide +kernel
theorem dX1_howManyBeginUpTo_29 : decode cX1_howManyBeginUpTo 29 = .ok (.invokevirtual 46, 3) := by decide +kernel
theorem dX1_howManyBeginUpTo_32 : decode cX1_howManyBeginUpTo 32 = .ok (.iload_n 1, 1) := by decide +kernel
theorem dX1_howManyBeginUpTo_33 : decode cX1_howManyBeginUpTo 33 = .ok (.if_icmp .gt 6, 3) := by decide +kernel
theorem dX1_howManyBeginUpTo_36 : decode cX1_howManyBeginUpTo 36 = .ok (.iinc 2 1, 3) := by decide +kernel
theorem dX1_howManyBeginUpTo_39 : decode cX1_howManyBeginUpTo 39 = .ok (.iinc 3 1, 3) := by decide +kernel
theorem dX1_howManyBeginUpTo_42 : decode cX1_howManyBeginUpTo 42 = .ok (.goto (-38), 3) := by decide +kernel
theorem dX1_howManyBeginUpTo_45 : decode cX1_howManyBeginUpTo 45 = .ok (.iload_n 2, 1) := by decide +kernel
theorem dX1_howManyBeginUpTo_46 : decode cX1_howManyBeginUpTo 46 = .ok (.ireturn, 1) := by decide +kernel
theorem dX1_mergeInto_0 : decode cX1_mergeInto 0 = .ok (.iload_n 2, 1) := by decide +kernel
theorem dX1_mergeInto_1 : decode cX1_mergeInto 1 = .ok (.istore 4, 2) := by decide +kernel
theorem dX1_mergeInto_3 : decode cX1_mergeInto 3 = .ok (.iload 4, 2) := by decide +kernel
theorem dX1_mergeInto_5 : decode cX1_mergeInto 5 = .ok (.iload_n 3, 1) := by decide +kernel
theorem dX1_mergeInto_6 : decode cX1_mergeInto 6 = .ok (.if_icmp .ge 31, 3) := by decide +kernel
theorem dX1_mergeInto_9 : decode cX1_mergeInto 9 = .ok (.aload_n 0, 1) := by decide +kernel
theorem dX1_mergeInto_10 : decode cX1_mergeInto 10 = .ok (.iload 4, 2) := by decide +kernel
theorem dX1_mergeInto_12 : decode cX1_mergeInto 12 = .ok (.invokevirtual 42, 3) := by decide +kernel
theorem dX1_mergeInto_15 : decode cX1_mergeInto 15 = .ok (.astore 5, 2) := by decide +kernel
theorem dX1_mergeInto_17 : decode cX1_mergeInto 17 = .ok (.aload 5, 2) := by decide +kernel
theorem dX1_mergeInto_19 : decode cX1_mergeInto 19 = .ok (.ifnull 12, 3) := by decide +kernel
theorem dX1_mergeInto_22 : decode cX1_mergeInto 22 = .ok (.aload_n 1, 1) := by decide +kernel
theorem dX1_mergeInto_23 : decode cX1_mergeInto 23 = .ok (.aload 5, 2) := by decide +kernel
theorem dX1_mergeInto_25 : decode cX1_mergeInto 25 = .ok (.getfield 61, 3) := by decide +kernel
theorem dX1_mergeInto_28 : decode cX1_mergeInto 28 = .ok (.invokevirtual 65, 3) := by decide +kernel
theorem dX1_mergeInto_31 : decode cX1_mergeInto 31 = .ok (.iinc 4 1, 3) := by decide +kernel
theorem dX1_mergeInto_34 : decode cX1_mergeInto 34 = .ok (.goto (-31), 3) := by decide +kernel
theorem dX1_mergeInto_37 : decode cX1_mergeInto 37 = .ok (.return_, 1) := by decide +kernel
theorem dX1_letRead_0 : decode cX1_letRead 0 = .ok (.iconst 0, 1) := by decide +kernel
theorem dX1_letRead_1 : decode cX1_letRead 1 = .ok (.istore_n 2, 1) := by decide +kernel
theorem dX1_letRead_2 : decode cX1_letRead 2 = .ok (.iload_n 2, 1) := by decide +kernel
theorem dX1_letRead_3 : decode cX1_letRead 3 = .ok (.aload_n 0, 1) := by decide +kernel
theorem dX1_letRead_4 : decode cX1_letRead 4 = .ok (.getfield 12, 3) := by decide +kernel
theorem dX1_letRead_7 : decode cX1_letRead 7 = .ok (.invokevirtual 18, 3) := by decide +kernel
theorem dX1_letRead_10 : decode cX1_letRead 10 = .ok (.if_icmp .ge 35, 3) := by decide +kernel
theorem dX1_letRead_13 : decode cX1_letRead 13 = .ok (.aload_n 0, 1) := by decide +kernel
theorem dX1_letRead_14 : decode cX1_letRead 14 = .ok (.iload_n 2, 1) := by decide +kernel
theorem dX1_letRead_15 : decode cX1_letRead 15 = .ok (.invokevirtual 42, 3) := by decide +kernel
theorem dX1_letRead_18 : decode cX1_letRead 18 = .ok (.astore_n 3, 1) := by decide +kernel
theorem dX1_letRead_19 : decode cX1_letRead 19 = .ok (.aload_n 3, 1) := by decide +kernel
theorem dX1_letRead_20 : decode cX1_letRead 20 = .ok (.ifnull 19, 3) := by decide +kernel
theorem dX1_letRead_23 : decode cX1_letRead 23 = .ok (.aload_n 1, 1) := by decide +kernel
theorem dX1_letRead_24 : decode cX1_letRead 24 = .ok (.aload_n 3, 1) := by decide +kernel
theorem dX1_letRead_25 : decode cX1_letRead 25 = .ok (.invokevirtual 71, 3) := by decide +kernel
theorem dX1_letRead_28 : decode cX1_letRead 28 = .ok (.ifCond .eq 11, 3) := by decide +kernel
theorem dX1_letRead_31 : decode cX1_letRead 31 = .ok (.aload_n 1, 1) := by decide +kernel
theorem dX1_letRead_32 : decode cX1_letRead 32 = .ok (.aload_n 3, 1) := by decide +kernel
theorem dX1_letRead_33 : decode cX1_letRead 33 = .ok (.getfield 61, 3) := by decide +kernel
theorem dX1_letRead_36 : decode cX1_letRead 36 = .ok (.invokevirtual 77, 3) := by decide +kernel
theorem dX1_letRead_39 : decode cX1_letRead 39 = .ok (.iinc 2 1, 3) := by decide +kernel
theorem dX1_letRead_42 : decode cX1_letRead 42 = .ok (.goto (-40), 3) := by decide +kernel
theorem dX1_letRead_45 : decode cX1_letRead 45 = .ok (.return_, 1) := by decide +kernel
theorem dX1_bytes_0 : decode cX1_bytes 0 = .ok (.iconst 0, 1) := by decide +kernel
theorem dX1_bytes_1 : decode cX1_bytes 1 = .ok (.istore_n 1, 1) := by decide +kernel
theorem dX1_bytes_2 : decode cX1_bytes 2 = .ok (.iconst 0, 1) := by decide +kernel
theorem dX1_bytes_3 : decode cX1_bytes 3 = .ok (.istore_n 2, 1) := by decide +kernel
theorem dX1_bytes_4 : decode cX1_bytes 4 = .ok (.iload_n 2, 1) := by decide +kernel
theorem dX1_bytes_5 : decode cX1_bytes 5 = .ok (.aload_n 0, 1) := by decide +kernel
theorem dX1_bytes_6 : decode cX1_bytes 6 = .ok (.getfield 12, 3) := by decide +kernel
theorem dX1_bytes_9 : decode cX1_bytes 9 = .ok (.invokevirtual 18, 3) := by decide +kernel
theorem dX1_bytes_12 : decode cX1_bytes 12 = .ok (.if_icmp .ge 30, 3) := by decide +kernel
theorem dX1_bytes_15 : decode cX1_bytes 15 = .ok (.aload_n 0, 1) := by decide +kernel
theorem dX1_bytes_16 : decode cX1_bytes 16 = .ok (.iload_n 2, 1) := by decide +kernel
theorem dX1_bytes_17 : decode cX1_bytes 17 = .ok (.invokevirtual 42, 3) := by decide +kernel
theorem dX1_bytes_20 : decode cX1_bytes 20 = .ok (.astore_n 3, 1) := by decide +kernel
theorem dX1_bytes_21 : decode cX1_bytes 21 = .ok (.iload_n 1, 1) := by decide +kernel
theorem dX1_bytes_22 : decode cX1_bytes 22 = .ok (.aload_n 3, 1) := by decide +kernel
theorem dX1_bytes_23 : decode cX1_bytes 23 = .ok (.ifnonnull 7, 3) := by decide +kernel
theorem dX1_bytes_26 : decode cX1_bytes 26 = .ok (.iconst 0, 1) := by decide +kernel
theorem dX1_bytes_27 : decode cX1_bytes 27 = .ok (.goto 7, 3) := by decide +kernel
theorem dX1_bytes_30 : decode cX1_bytes 30 = .ok (.aload_n 3, 1) := by decide +kernel
theorem dX1_bytes_31 : decode cX1_bytes 31 = .ok (.getfield 80, 3) := by decide +kernel
theorem dX1_bytes_34 : decode cX1_bytes 34 = .ok (.iadd, 1) := by decide +kernel
theorem dX1_bytes_35 : decode cX1_bytes 35 = .ok (.istore_n 1, 1) := by decide +kernel
theorem dX1_bytes_36 : decode cX1_bytes 36 = .ok (.iinc 2 1, 3) := by decide +kernel
theorem dX1_bytes_39 : decode cX1_bytes 39 = .ok (.goto (-35), 3) := by decide +kernel
theorem dX1_bytes_42 : decode cX1_bytes 42 = .ok (.iload_n 1, 1) := by decide +kernel
theorem dX1_bytes_43 : decode cX1_bytes 43 = .ok (.ireturn, 1) := by decide +kernel
theorem dX1_entries_0 : decode cX1_entries 0 = .ok (.iconst 0, 1) := by decide +kernel
theorem dX1_entries_1 : decode cX1_entries 1 = .ok (.istore_n 1, 1) := by decide +kernel
theorem dX1_entries_2 : decode cX1_entries 2 = .ok (.iconst 0, 1) := by decide +kernel
theorem dX1_entries_3 : decode cX1_entries 3 = .ok (.istore_n 2, 1) := by decide +kernel
theorem dX1_entries_4 : decode cX1_entries 4 = .ok (.iload_n 2, 1) := by decide +kernel
theorem dX1_entries_5 : decode cX1_entries 5 = .ok (.aload_n 0, 1) := by decide +kernel
theorem dX1_entries_6 : decode cX1_entries 6 = .ok (.getfield 12, 3) := by decide +kernel
theorem dX1_entries_9 : decode cX1_entries 9 = .ok (.invokevirtual 18, 3) := by decide +kernel
theorem dX1_entries_12 : decode cX1_entries 12 = .ok (.if_icmp .ge 33, 3) := by decide +kernel
theorem dX1_entries_15 : decode cX1_entries 15 = .ok (.aload_n 0, 1) := by decide +kernel
theorem dX1_entries_16 : decode cX1_entries 16 = .ok (.iload_n 2, 1) := by decide +kernel
theorem dX1_entries_17 : decode cX1_entries 17 = .ok (.invokevirtual 42, 3) := by decide +kernel
theorem dX1_entries_20 : decode cX1_entries 20 = .ok (.astore_n 3, 1) := by decide +kernel
theorem dX1_entries_21 : decode cX1_entries 21 = .ok (.iload_n 1, 1) := by decide +kernel
theorem dX1_entries_22 : decode cX1_entries 22 = .ok (.aload_n 3, 1) := by decide +kernel
theorem dX1_entries_23 : decode cX1_entries 23 = .ok (.ifnonnull 7, 3) := by decide +kernel
theorem dX1_entries_26 : decode cX1_entries 26 = .ok (.iconst 0, 1) := by decide +kernel
theorem dX1_entries_27 : decode cX1_entries 27 = .ok (.goto 10, 3) := by decide +kernel
theorem dX1_entries_30 : decode cX1_entries 30 = .ok (.aload_n 3, 1) := by decide +kernel
theorem dX1_entries_31 : decode cX1_entries 31 = .ok (.getfield 61, 3) := by decide +kernel
theorem dX1_entries_34 : decode cX1_entries 34 = .ok (.getfield 84, 3) := by decide +kernel
theorem dX1_entries_37 : decode cX1_entries 37 = .ok (.iadd, 1) := by decide +kernel
theorem dX1_entries_38 : decode cX1_entries 38 = .ok (.istore_n 1, 1) := by decide +kernel
theorem dX1_entries_39 : decode cX1_entries 39 = .ok (.iinc 2 1, 3) := by decide +kernel
theorem dX1_entries_42 : decode cX1_entries 42 = .ok (.goto (-38), 3) := by decide +kernel
theorem dX1_entries_45 : decode cX1_entries 45 = .ok (.iload_n 1, 1) := by decide +kernel
theorem dX1_entries_46 : decode cX1_entries 46 = .ok (.ireturn, 1) := by decide +kernel
theorem dX1_greatestNumber_0 : decode cX1_greatestNumber 0 = .ok (.iconst 0, 1) := by decide +kernel
theorem dX1_greatestNumber_1 : decode cX1_greatestNumber 1 = .ok (.istore_n 1, 1) := by decide +kernel
theorem dX1_greatestNumber_2 : decode cX1_greatestNumber 2 = .ok (.iconst 0, 1) := by decide +kernel
theorem dX1_greatestNumber_3 : decode cX1_greatestNumber 3 = .ok (.istore_n 2, 1) := by decide +kernel
theorem dX1_greatestNumber_4 : decode cX1_greatestNumber 4 = .ok (.iload_n 2, 1) := by decide +kernel
theorem dX1_greatestNumber_5 : decode cX1_greatestNumber 5 = .ok (.aload_n 0, 1) := by decide +kernel
theorem dX1_greatestNumber_6 : decode cX1_greatestNumber 6 = .ok (.getfield 12, 3) := by decide +kernel
theorem dX1_greatestNumber_9 : decode cX1_greatestNumber 9 = .ok (.invokevirtual 18, 3) := by decide +kernel
theorem dX1_greatestNumber_12 : decode cX1_greatestNumber 12 = .ok (.if_icmp .ge 31, 3) := by decide +kernel
theorem dX1_greatestNumber_15 : decode cX1_greatestNumber 15 = .ok (.aload_n 0, 1) := by decide +kernel
theorem dX1_greatestNumber_16 : decode cX1_greatestNumber 16 = .ok (.iload_n 2, 1) := by decide +kernel
theorem dX1_greatestNumber_17 : decode cX1_greatestNumber 17 = .ok (.invokevirtual 42, 3) := by decide +kernel
theorem dX1_greatestNumber_20 : decode cX1_greatestNumber 20 = .ok (.astore_n 3, 1) := by decide +kernel
theorem dX1_greatestNumber_21 : decode cX1_greatestNumber 21 = .ok (.aload_n 3, 1) := by decide +kernel
theorem dX1_greatestNumber_22 : decode cX1_greatestNumber 22 = .ok (.ifnull 15, 3) := by decide +kernel
theorem dX1_greatestNumber_25 : decode cX1_greatestNumber 25 = .ok (.iload_n 1, 1) := by decide +kernel
theorem dX1_greatestNumber_26 : decode cX1_greatestNumber 26 = .ok (.aload_n 3, 1) := by decide +kernel
theorem dX1_greatestNumber_27 : decode cX1_greatestNumber 27 = .ok (.getfield 61, 3) := by decide +kernel
theorem dX1_greatestNumber_30 : decode cX1_greatestNumber 30 = .ok (.invokevirtual 86, 3) := by decide +kernel
theorem dX1_greatestNumber_33 : decode cX1_greatestNumber 33 = .ok (.invokestatic 58, 3) := by decide +kernel
theorem dX1_greatestNumber_36 : decode cX1_greatestNumber 36 = .ok (.istore_n 1, 1) := by decide +kernel
theorem dX1_greatestNumber_37 : decode cX1_greatestNumber 37 = .ok (.iinc 2 1, 3) := by decide +kernel
theorem dX1_greatestNumber_40 : decode cX1_greatestNumber 40 = .ok (.goto (-36), 3) := by decide +kernel
theorem dX1_greatestNumber_43 : decode cX1_greatestNumber 43 = .ok (.iload_n 1, 1) := by decide +kernel
theorem dX1_greatestNumber_44 : decode cX1_greatestNumber 44 = .ok (.ireturn, 1) := by decide +kernel
theorem dX2_init_0 : decode cX2_init 0 = .ok (.aload_n 0, 1) := by decide +kernel
theorem dX2_init_1 : decode cX2_init 1 = .ok (.invokespecial 3, 3) := by decide +kernel
theorem dX2_init_4 : decode cX2_init 4 = .ok (.aload_n 0, 1) := by decide +kernel
theorem dX2_init_5 : decode cX2_init 5 = .ok (.new 9, 3) := by decide +kernel
theorem dX2_init_8 : decode cX2_init 8 = .ok (.dup, 1) := by decide +kernel
theorem dX2_init_9 : decode cX2_init 9 = .ok (.sipush 750, 3) := by decide +kernel
theorem dX2_init_12 : decode cX2_init 12 = .ok (.invokespecial 11, 3) := by decide +kernel
theorem dX2_init_15 : decode cX2_init 15 = .ok (.putfield 14, 3) := by decide +kernel
theorem dX2_init_18 : decode cX2_init 18 = .ok (.aload_n 0, 1) := by decide +kernel
theorem dX2_init_19 : decode cX2_init 19 = .ok (.sipush 750, 3) := by decide +kernel
theorem dX2_init_22 : decode cX2_init 22 = .ok (.newarray .boolean, 2) := by decide +kernel
theorem dX2_init_24 : decode cX2_init 24 = .ok (.putfield 20, 3) := by decide +kernel
theorem dX2_init_27 : decode cX2_init 27 = .ok (.aload_n 0, 1) := by decide +kernel
theorem dX2_init_28 : decode cX2_init 28 = .ok (.new 9, 3) := by decide +kernel
theorem dX2_init_31 : decode cX2_init 31 = .ok (.dup, 1) := by decide +kernel
theorem dX2_init_32 : decode cX2_init 32 = .ok (.bipush 24, 2) := by decide +kernel
theorem dX2_init_34 : decode cX2_init 34 = .ok (.invokespecial 11, 3) := by decide +kernel
theorem dX2_init_37 : decode cX2_init 37 = .ok (.putfield 24, 3) := by decide +kernel
theorem dX2_init_40 : decode cX2_init 40 = .ok (.aload_n 0, 1) := by decide +kernel
theorem dX2_init_41 : decode cX2_init 41 = .ok (.new 27, 3) := by decide +kernel
theorem dX2_init_44 : decode cX2_init 44 = .ok (.dup, 1) := by decide +kernel
theorem dX2_init_45 : decode cX2_init 45 = .ok (.invokespecial 29, 3) := by decide +kernel
theorem dX2_init_48 : decode cX2_init 48 = .ok (.putfield 30, 3) := by decide +kernel
theorem dX2_init_51 : decode cX2_init 51 = .ok (.return_, 1) := by decide +kernel
theorem dX2_begin_0 : decode cX2_begin 0 = .ok (.aload_n 0, 1) := by decide +kernel
theorem dX2_begin_1 : decode cX2_begin 1 = .ok (.iconst 1, 1) := by decide +kernel
theorem dX2_begin_2 : decode cX2_begin 2 = .ok (.putfield 34, 3) := by decide +kernel
theorem dX2_begin_5 : decode cX2_begin 5 = .ok (.aload_n 0, 1) := by decide +kernel
theorem dX2_begin_6 : decode cX2_begin 6 = .ok (.iload_n 1, 1) := by decide +kernel
theorem dX2_begin_7 : decode cX2_begin 7 = .ok (.putfield 38, 3) := by decide +kernel
theorem dX2_begin_10 : decode cX2_begin 10 = .ok (.aload_n 0, 1) := by decide +kernel
theorem dX2_begin_11 : decode cX2_begin 11 = .ok (.iload_n 2, 1) := by decide +kernel
theorem dX2_begin_12 : decode cX2_begin 12 = .ok (.putfield 42, 3) := by decide +kernel
theorem dX2_begin_15 : decode cX2_begin 15 = .ok (.return_, 1) := by decide +kernel
theorem dX2_end_0 : decode cX2_end 0 = .ok (.aload_n 0, 1) := by decide +kernel
theorem dX2_end_1 : decode cX2_end 1 = .ok (.iconst 0, 1) := by decide +kernel
theorem dX2_end_2 : decode cX2_end 2 = .ok (.putfield 34, 3) := by decide +kernel
theorem dX2_end_5 : decode cX2_end 5 = .ok (.aload_n 0, 1) := by decide +kernel
theorem dX2_end_6 : decode cX2_end 6 = .ok (.getfield 14, 3) := by decide +kernel
theorem dX2_end_9 : decode cX2_end 9 = .ok (.iconst 0, 1) := by decide +kernel
theorem dX2_end_10 : decode cX2_end 10 = .ok (.putfield 45, 3) := by decide +kernel
theorem dX2_end_13 : decode cX2_end 13 = .ok (.aload_n 0, 1) := by decide +kernel
theorem dX2_end_14 : decode cX2_end 14 = .ok (.iconst 0, 1) := by decide +kernel
theorem dX2_end_15 : decode cX2_end 15 = .ok (.putfield 48, 3) := by decide +kernel
theorem dX2_end_18 : decode cX2_end 18 = .ok (.aload_n 0, 1) := by decide +kernel
theorem dX2_end_19 : decode cX2_end 19 = .ok (.getfield 24, 3) := by decide +kernel
theorem dX2_end_22 : decode cX2_end 22 = .ok (.iconst 0, 1) := by decide +kernel
theorem dX2_end_23 : decode cX2_end 23 = .ok (.putfield 45, 3) := by decide +kernel
theorem dX2_end_26 : decode cX2_end 26 = .ok (.aload_n 0, 1) := by decide +kernel
theorem dX2_end_27 : decode cX2_end 27 = .ok (.getfield 30, 3) := by decide +kernel
theorem dX2_end_30 : decode cX2_end 30 = .ok (.invokevirtual 51, 3) := by decide +kernel
theorem dX2_end_33 : decode cX2_end 33 = .ok (.return_, 1) := by decide +kernel
theorem dX2_left_0 : decode cX2_left 0 = .ok (.aload_n 0, 1) := by decide +kernel
theorem dX2_left_1 : decode cX2_left 1 = .ok (.getfield 14, 3) := by decide +kernel
theorem dX2_left_4 : decode cX2_left 4 = .ok (.getfield 45, 3) := by decide +kernel
theorem dX2_left_7 : decode cX2_left 7 = .ok (.aload_n 0, 1) := by decide +kernel
theorem dX2_left_8 : decode cX2_left 8 = .ok (.getfield 48, 3) := by decide +kernel
theorem dX2_left_11 : decode cX2_left 11 = .ok (.isub, 1) := by decide +kernel
theorem dX2_left_12 : decode cX2_left 12 = .ok (.ireturn, 1) := by decide +kernel
theorem dX2_isLeftOut_0 : decode cX2_isLeftOut 0 = .ok (.iload_n 1, 1) := by decide +kernel
theorem dX2_isLeftOut_1 : decode cX2_isLeftOut 1 = .ok (.ifCond .lt 25, 3) := by decide +kernel
theorem dX2_isLeftOut_4 : decode cX2_isLeftOut 4 = .ok (.iload_n 1, 1) := by decide +kernel
theorem dX2_isLeftOut_5 : decode cX2_isLeftOut 5 = .ok (.aload_n 0, 1) := by decide +kernel
theorem dX2_isLeftOut_6 : decode cX2_isLeftOut 6 = .ok (.getfield 20, 3) := by decide +kernel
theorem dX2_isLeftOut_9 : decode cX2_isLeftOut 9 = .ok (.arraylength, 1) := by decide +kernel
theorem dX2_isLeftOut_10 : decode cX2_isLeftOut 10 = .ok (.if_icmp .ge 16, 3) := by decide +kernel
theorem dX2_isLeftOut_13 : decode cX2_isLeftOut 13 = .ok (.aload_n 0, 1) := by decide +kernel
theorem dX2_isLeftOut_14 : decode cX2_isLeftOut 14 = .ok (.getfield 20, 3) := by decide +kernel
theorem dX2_isLeftOut_17 : decode cX2_isLeftOut 17 = .ok (.iload_n 1, 1) := by decide +kernel
theorem dX2_isLeftOut_18 : decode cX2_isLeftOut 18 = .ok (.baload, 1) := by decide +kernel
theorem dX2_isLeftOut_19 : decode cX2_isLeftOut 19 = .ok (.ifCond .eq 7, 3) := by decide +kernel
theorem dX2_isLeftOut_22 : decode cX2_isLeftOut 22 = .ok (.iconst 1, 1) := by decide +kernel
theorem dX2_isLeftOut_23 : decode cX2_isLeftOut 23 = .ok (.goto 4, 3) := by decide +kernel
theorem dX2_isLeftOut_26 : decode cX2_isLeftOut 26 = .ok (.iconst 0, 1) := by decide +kernel
theorem dX2_isLeftOut_27 : decode cX2_isLeftOut 27 = .ok (.ireturn, 1) := by decide +kernel
theorem dX2_decide_0 : decode cX2_decide 0 = .ok (.iconst 0, 1) := by decide +kernel
theorem dX2_decide_1 : decode cX2_decide 1 = .ok (.istore_n 2, 1) := by decide +kernel
theorem dX2_decide_2 : decode cX2_decide 2 = .ok (.iload_n 2, 1) := by decide +kernel
theorem dX2_decide_3 : decode cX2_decide 3 = .ok (.aload_n 0, 1) := by decide +kernel
theorem dX2_decide_4 : decode cX2_decide 4 = .ok (.getfield 14, 3) := by decide +kernel
theorem dX2_decide_7 : decode cX2_decide 7 = .ok (.getfield 45, 3) := by decide +kernel
theorem dX2_decide_10 : decode cX2_decide 10 = .ok (.if_icmp .ge 46, 3) := by decide +kernel
theorem dX2_decide_13 : decode cX2_decide 13 = .ok (.iload_n 2, 1) := by decide +kernel
theorem dX2_decide_14 : decode cX2_decide 14 = .ok (.aload_n 0, 1) := by decide +kernel
theorem dX2_decide_15 : decode cX2_decide 15 = .ok (.getfield 20, 3) := by decide +kernel
theorem dX2_decide_18 : decode cX2_decide 18 = .ok (.arraylength, 1) := by decide +kernel
theorem dX2_decide_19 : decode cX2_decide 19 = .ok (.if_icmp .ge 37, 3) := by decide +kernel
theorem dX2_decide_22 : decode cX2_decide 22 = .ok (.aload_n 0, 1) := by decide +kernel
theorem dX2_decide_23 : decode cX2_decide 23 = .ok (.getfield 20, 3) := by decide +kernel
theorem dX2_decide_26 : decode cX2_decide 26 = .ok (.iload_n 2, 1) := by decide +kernel
theorem dX2_decide_27 : decode cX2_decide 27 = .ok (.aload_n 0, 1) := by decide +kernel
theorem dX2_decide_28 : decode cX2_decide 28 = .ok (.iload_n 2, 1) := by decide +kernel
theorem dX2_decide_29 : decode cX2_decide 29 = .ok (.invokevirtual 54, 3) := by decide +kernel
theorem dX2_decide_32 : decode cX2_decide 32 = .ok (.ifCond .ne 16, 3) := by decide +kernel
theorem dX2_decide_35 : decode cX2_decide 35 = .ok (.aload_n 0, 1) := by decide +kernel
theorem dX2_decide_36 : decode cX2_decide 36 = .ok (.iload_n 2, 1) := by decide +kernel
theorem dX2_decide_37 : decode cX2_decide 37 = .ok (.aload_n 1, 1) := by decide +kernel
theorem dX2_decide_38 : decode cX2_decide 38 = .ok (.invokevirtual 58, 3) := by decide +kernel
theorem dX2_decide_41 : decode cX2_decide 41 = .ok (.ifCond .ne 7, 3) := by decide +kernel
theorem dX2_decide_44 : decode cX2_decide 44 = .ok (.iconst 1, 1) := by decide +kernel
theorem dX2_decide_45 : decode cX2_decide 45 = .ok (.goto 4, 3) := by decide +kernel
theorem dX2_decide_48 : decode cX2_decide 48 = .ok (.iconst 0, 1) := by decide +kernel
theorem dX2_decide_49 : decode cX2_decide 49 = .ok (.bastore, 1) := by decide +kernel
theorem dX2_decide_50 : decode cX2_decide 50 = .ok (.iinc 2 1, 3) := by decide +kernel
theorem dX2_decide_53 : decode cX2_decide 53 = .ok (.goto (-51), 3) := by decide +kernel
theorem dX2_decide_56 : decode cX2_decide 56 = .ok (.aload_n 0, 1) := by decide +kernel
theorem dX2_decide_57 : decode cX2_decide 57 = .ok (.getfield 42, 3) := by decide +kernel
theorem dX2_decide_60 : decode cX2_decide 60 = .ok (.iconst 3, 1) := by decide +kernel
theorem dX2_decide_61 : decode cX2_decide 61 = .ok (.if_icmp .ne 7, 3) := by decide +kernel
theorem dX2_decide_64 : decode cX2_decide 64 = .ok (.aload_n 0, 1) := by decide +kernel
theorem dX2_decide_65 : decode cX2_decide 65 = .ok (.invokevirtual 62, 3) := by decide +kernel
theorem dX2_decide_68 : decode cX2_decide 68 = .ok (.return_, 1) := by decide +kernel
theorem dX2_leaveOutGraves_0 : decode cX2_leaveOutGraves 0 = .ok (.iconst 0, 1) := by decide +kernel
theorem dX2_leaveOutGraves_1 : decode cX2_leaveOutGraves 1 = .ok (.istore_n 1, 1) := by decide +kernel
theorem dX2_leaveOutGraves_2 : decode cX2_leaveOutGraves 2 = .ok (.aload_n 0, 1) := by decide +kernel
theorem dX2_leaveOutGraves_3 : decode cX2_leaveOutGraves 3 = .ok (.getfield 14, 3) := by decide +kernel
theorem dX2_leaveOutGraves_6 : decode cX2_leaveOutGraves 6 = .ok (.getfield 45, 3) := by decide +kernel
theorem dX2_leaveOutGraves_9 : decode cX2_leaveOutGraves 9 = .ok (.aload_n 0, 1) := by decide +kernel
theorem dX2_leaveOutGraves_10 : decode cX2_leaveOutGraves 10 = .ok (.getfield 20, 3) := by decide +kernel
theorem dX2_leaveOutGraves_13 : decode cX2_leaveOutGraves 13 = .ok (.arraylength, 1) := by decide +kernel
theorem dX2_leaveOutGraves_14 : decode cX2_leaveOutGraves 14 = .ok (.invokestatic 65, 3) := by decide +kernel
theorem dX2_leaveOutGraves_17 : decode cX2_leaveOutGraves 17 = .ok (.iconst 1, 1) := by decide +kernel
theorem dX2_leaveOutGraves_18 : decode cX2_leaveOutGraves 18 = .ok (.isub, 1) := by decide +kernel
theorem dX2_leaveOutGraves_19 : decode cX2_leaveOutGraves 19 = .ok (.istore_n 2, 1) := by decide +kernel
theorem dX2_leaveOutGraves_20 : decode cX2_leaveOutGraves 20 = .ok (.iload_n 2, 1) := by decide +kernel
theorem dX2_leaveOutGraves_21 : decode cX2_leaveOutGraves 21 = .ok (.ifCond .lt 68, 3) := by decide +kernel
theorem dX2_leaveOutGraves_24 : decode cX2_leaveOutGraves 24 = .ok (.aload_n 0, 1) := by decide +kernel
theorem dX2_leaveOutGraves_25 : decode cX2_leaveOutGraves 25 = .ok (.iload_n 2, 1) := by decide +kernel
theorem dX2_leaveOutGraves_26 : decode cX2_leaveOutGraves 26 = .ok (.invokevirtual 71, 3) := by decide +kernel
theorem dX2_leaveOutGraves_29 : decode cX2_leaveOutGraves 29 = .ok (.ifCond .eq 5, 3) := by decide +kernel
theorem dX2_leaveOutGraves_32 : decode cX2_leaveOutGraves 32 = .ok (.iconst 0, 1) := by decide +kernel
theorem dX2_leaveOutGraves_33 : decode cX2_leaveOutGraves 33 = .ok (.istore_n 1, 1) := by decide +kernel
theorem dX2_leaveOutGraves_34 : decode cX2_leaveOutGraves 34 = .ok (.aload_n 0, 1) := by decide +kernel
theorem dX2_leaveOutGraves_35 : decode cX2_leaveOutGraves 35 = .ok (.getfield 20, 3) := by decide +kernel
theorem dX2_leaveOutGraves_38 : decode cX2_leaveOutGraves 38 = .ok (.iload_n 2, 1) := by decide +kernel
theorem dX2_leaveOutGraves_39 : decode cX2_leaveOutGraves 39 = .ok (.baload, 1) := by decide +kernel
theorem dX2_leaveOutGraves_40 : decode cX2_leaveOutGraves 40 = .ok (.ifCond .ne 32, 3) := by decide +kernel
theorem dX2_leaveOutGraves_43 : decode cX2_leaveOutGraves 43 = .ok (.aload_n 0, 1) := by decide +kernel
theorem dX2_leaveOutGraves_44 : decode cX2_leaveOutGraves 44 = .ok (.getfield 14, 3) := by decide +kernel
theorem dX2_leaveOutGraves_47 : decode cX2_leaveOutGraves 47 = .ok (.iload_n 2, 1) := by decide +kernel
theorem dX2_leaveOutGraves_48 : decode cX2_leaveOutGraves 48 = .ok (.invokevirtual 74, 3) := by decide +kernel
theorem dX2_leaveOutGraves_51 : decode cX2_leaveOutGraves 51 = .ok (.ifCond .eq 21, 3) := by decide +kernel
theorem dX2_leaveOutGraves_54 : decode cX2_leaveOutGraves 54 = .ok (.aload_n 0, 1) := by decide +kernel
theorem dX2_leaveOutGraves_55 : decode cX2_leaveOutGraves 55 = .ok (.getfield 20, 3) := by decide +kernel
theorem dX2_leaveOutGraves_58 : decode cX2_leaveOutGraves 58 = .ok (.iload_n 2, 1) := by decide +kernel
theorem dX2_leaveOutGraves_59 : decode cX2_leaveOutGraves 59 = .ok (.iload_n 1, 1) := by decide +kernel
theorem dX2_leaveOutGraves_60 : decode cX2_leaveOutGraves 60 = .ok (.ifCond .ne 7, 3) := by decide +kernel
theorem dX2_leaveOutGraves_63 : decode cX2_leaveOutGraves 63 = .ok (.iconst 1, 1) := by decide +kernel
theorem dX2_leaveOutGraves_64 : decode cX2_leaveOutGraves 64 = .ok (.goto 4, 3) := by decide +kernel
theorem dX2_leaveOutGraves_67 : decode cX2_leaveOutGraves 67 = .ok (.iconst 0, 1) := by decide +kernel
theorem dX2_leaveOutGraves_68 : decode cX2_leaveOutGraves 68 = .ok (.bastore, 1) := by decide +kernel
theorem dX2_leaveOutGraves_69 : decode cX2_leaveOutGraves 69 = .ok (.goto 14, 3) := by decide +kernel
theorem dX2_leaveOutGraves_72 : decode cX2_leaveOutGraves 72 = .ok (.aload_n 0, 1) := by decide +kernel
theorem dX2_leaveOutGraves_73 : decode cX2_leaveOutGraves 73 = .ok (.getfield 20, 3) := by decide +kernel
theorem dX2_leaveOutGraves_76 : decode cX2_leaveOutGraves 76 = .ok (.iload_n 2, 1) := by decide +kernel
theorem dX2_leaveOutGraves_77 : decode cX2_leaveOutGraves 77 = .ok (.baload, 1) := by decide +kernel
theorem dX2_leaveOutGraves_78 : decode cX2_leaveOutGraves 78 = .ok (.ifCond .ne 5, 3) := by decide +kernel
theorem dX2_leaveOutGraves_81 : decode cX2_leaveOutGraves 81 = .ok (.iconst 1, 1) := by decide +kernel
theorem dX2_leaveOutGraves_82 : decode cX2_leaveOutGraves 82 = .ok (.istore_n 1, 1) := by decide +kernel
theorem dX2_leaveOutGraves_83 : decode cX2_leaveOutGraves 83 = .ok (.iinc 2 (-1), 3) := by decide +kernel
theorem dX2_leaveOutGraves_86 : decode cX2_leaveOutGraves 86 = .ok (.goto (-66), 3) := by decide +kernel
theorem dX2_leaveOutGraves_89 : decode cX2_leaveOutGraves 89 = .ok (.return_, 1) := by decide +kernel
theorem dX2_isFirstOfKey_0 : decode cX2_isFirstOfKey 0 = .ok (.iload_n 1, 1) := by decide +kernel
theorem dX2_isFirstOfKey_1 : decode cX2_isFirstOfKey 1 = .ok (.ifCond .eq 24, 3) := by decide +kernel
theorem dX2_isFirstOfKey_4 : decode cX2_isFirstOfKey 4 = .ok (.aload_n 0, 1) := by decide +kernel
theorem dX2_isFirstOfKey_5 : decode cX2_isFirstOfKey 5 = .ok (.getfield 14, 3) := by decide +kernel
theorem dX2_isFirstOfKey_8 : decode cX2_isFirstOfKey 8 = .ok (.iload_n 1, 1) := by decide +kernel
theorem dX2_isFirstOfKey_9 : decode cX2_isFirstOfKey 9 = .ok (.iconst 1, 1) := by decide +kernel
theorem dX2_isFirstOfKey_10 : decode cX2_isFirstOfKey 10 = .ok (.isub, 1) := by decide +kernel
theorem dX2_isFirstOfKey_11 : decode cX2_isFirstOfKey 11 = .ok (.invokevirtual 77, 3) := by decide +kernel
theorem dX2_isFirstOfKey_14 : decode cX2_isFirstOfKey 14 = .ok (.aload_n 0, 1) := by decide +kernel
theorem dX2_isFirstOfKey_15 : decode cX2_isFirstOfKey 15 = .ok (.getfield 14, 3) := by decide +kernel
theorem dX2_isFirstOfKey_18 : decode cX2_isFirstOfKey 18 = .ok (.iload_n 1, 1) := by decide +kernel
theorem dX2_isFirstOfKey_19 : decode cX2_isFirstOfKey 19 = .ok (.invokevirtual 77, 3) := by decide +kernel
theorem dX2_isFirstOfKey_22 : decode cX2_isFirstOfKey 22 = .ok (.if_icmp .eq 7, 3) := by decide +kernel
theorem dX2_isFirstOfKey_25 : decode cX2_isFirstOfKey 25 = .ok (.iconst 1, 1) := by decide +kernel
theorem dX2_isFirstOfKey_26 : decode cX2_isFirstOfKey 26 = .ok (.goto 4, 3) := by decide +kernel
theorem dX2_isFirstOfKey_29 : decode cX2_isFirstOfKey 29 = .ok (.iconst 0, 1) := by decide +kernel
theorem dX2_isFirstOfKey_30 : decode cX2_isFirstOfKey 30 = .ok (.ireturn, 1) := by decide +kernel
theorem dX2_isLastOfKey_0 : decode cX2_isLastOfKey 0 = .ok (.iload_n 1, 1) := by decide +kernel
theorem dX2_isLastOfKey_1 : decode cX2_isLastOfKey 1 = .ok (.aload_n 0, 1) := by decide +kernel
theorem dX2_isLastOfKey_2 : decode cX2_isLastOfKey 2 = .ok (.getfield 14, 3) := by decide +kernel
theorem dX2_isLastOfKey_5 : decode cX2_isLastOfKey 5 = .ok (.getfield 45, 3) := by decide +kernel
theorem dX2_isLastOfKey_8 : decode cX2_isLastOfKey 8 = .ok (.iconst 1, 1) := by decide +kernel
theorem dX2_isLastOfKey_9 : decode cX2_isLastOfKey 9 = .ok (.isub, 1) := by decide +kernel
theorem dX2_isLastOfKey_10 : decode cX2_isLastOfKey 10 = .ok (.if_icmp .eq 13, 3) := by decide +kernel
theorem dX2_isLastOfKey_13 : decode cX2_isLastOfKey 13 = .ok (.aload_n 0, 1) := by decide +kernel
theorem dX2_isLastOfKey_14 : decode cX2_isLastOfKey 14 = .ok (.iload_n 1, 1) := by decide +kernel
theorem dX2_isLastOfKey_15 : decode cX2_isLastOfKey 15 = .ok (.iconst 1, 1) := by decide +kernel
theorem dX2_isLastOfKey_16 : decode cX2_isLastOfKey 16 = .ok (.iadd, 1) := by decide +kernel
theorem dX2_isLastOfKey_17 : decode cX2_isLastOfKey 17 = .ok (.invokevirtual 54, 3) := by decide +kernel
theorem dX2_isLastOfKey_20 : decode cX2_isLastOfKey 20 = .ok (.ifCond .eq 7, 3) := by decide +kernel
theorem dX2_isLastOfKey_23 : decode cX2_isLastOfKey 23 = .ok (.iconst 1, 1) := by decide +kernel
theorem dX2_isLastOfKey_24 : decode cX2_isLastOfKey 24 = .ok (.goto 4, 3) := by decide +kernel
theorem dX2_isLastOfKey_27 : decode cX2_isLastOfKey 27 = .ok (.iconst 0, 1) := by decide +kernel
theorem dX2_isLastOfKey_28 : decode cX2_isLastOfKey 28 = .ok (.ireturn, 1) := by decide +kernel
theorem dX2_isSeen_0 : decode cX2_isSeen 0 = .ok (.aload_n 2, 1) := by decide +kernel
theorem dX2_isSeen_1 : decode cX2_isSeen 1 = .ok (.astore_n 3, 1) := by decide +kernel
theorem dX2_isSeen_2 : decode cX2_isSeen 2 = .ok (.aload_n 3, 1) := by decide +kernel
theorem dX2_isSeen_3 : decode cX2_isSeen 3 = .ok (.arraylength, 1) := by decide +kernel
theorem dX2_isSeen_4 : decode cX2_isSeen 4 = .ok (.istore 4, 2) := by decide +kernel
theorem dX2_isSeen_6 : decode cX2_isSeen 6 = .ok (.iconst 0, 1) := by decide +kernel
theorem dX2_isSeen_7 : decode cX2_isSeen 7 = .ok (.istore 5, 2) := by decide +kernel
theorem dX2_isSeen_9 : decode cX2_isSeen 9 = .ok (.iload 5, 2) := by decide +kernel
theorem dX2_isSeen_11 : decode cX2_isSeen 11 = .ok (.iload 4, 2) := by decide +kernel
theorem dX2_isSeen_13 : decode cX2_isSeen 13 = .ok (.if_icmp .ge 45, 3) := by decide +kernel
theorem dX2_isSeen_16 : decode cX2_isSeen 16 = .ok (.aload_n 3, 1) := by decide +kernel
theorem dX2_isSeen_17 : decode cX2_isSeen 17 = .ok (.iload 5, 2) := by decide +kernel
theorem dX2_isSeen_19 : decode cX2_isSeen 19 = .ok (.iaload, 1) := by decide +kernel
theorem dX2_isSeen_20 : decode cX2_isSeen 20 = .ok (.istore 6, 2) := by decide +kernel
theorem dX2_isSeen_22 : decode cX2_isSeen 22 = .ok (.iload 6, 2) := by decide +kernel
theorem dX2_isSeen_24 : decode cX2_isSeen 24 = .ok (.aload_n 0, 1) := by decide +kernel
theorem dX2_isSeen_25 : decode cX2_isSeen 25 = .ok (.getfield 14, 3) := by decide +kernel
theorem dX2_isSeen_28 : decode cX2_isSeen 28 = .ok (.iload_n 1, 1) := by decide +kernel
theorem dX2_isSeen_29 : decode cX2_isSeen 29 = .ok (.invokevirtual 81, 3) := by decide +kernel
theorem dX2_isSeen_32 : decode cX2_isSeen 32 = .ok (.if_icmp .lt 20, 3) := by decide +kernel
theorem dX2_isSeen_35 : decode cX2_isSeen 35 = .ok (.iload 6, 2) := by decide +kernel
theorem dX2_isSeen_37 : decode cX2_isSeen 37 = .ok (.aload_n 0, 1) := by decide +kernel
theorem dX2_isSeen_38 : decode cX2_isSeen 38 = .ok (.getfield 14, 3) := by decide +kernel
theorem dX2_isSeen_41 : decode cX2_isSeen 41 = .ok (.iload_n 1, 1) := by decide +kernel
theorem dX2_isSeen_42 : decode cX2_isSeen 42 = .ok (.iconst 1, 1) := by decide +kernel
theorem dX2_isSeen_43 : decode cX2_isSeen 43 = .ok (.isub, 1) := by decide +kernel
theorem dX2_isSeen_44 : decode cX2_isSeen 44 = .ok (.invokevirtual 81, 3) := by decide +kernel
theorem dX2_isSeen_47 : decode cX2_isSeen 47 = .ok (.if_icmp .ge 5, 3) := by decide +kernel
theorem dX2_isSeen_50 : decode cX2_isSeen 50 = .ok (.iconst 1, 1) := by decide +kernel
theorem dX2_isSeen_51 : decode cX2_isSeen 51 = .ok (.ireturn, 1) := by decide +kernel
theorem dX2_isSeen_52 : decode cX2_isSeen 52 = .ok (.iinc 5 1, 3) := by decide +kernel
theorem dX2_isSeen_55 : decode cX2_isSeen 55 = .ok (.goto (-46), 3) := by decide +kernel
theorem dX2_isSeen_58 : decode cX2_isSeen 58 = .ok (.iconst 0, 1) := by decide +kernel
theorem dX2_isSeen_59 : decode cX2_isSeen 59 = .ok (.ireturn, 1) := by decide +kernel
theorem dX2_endsFileAhead_0 : decode cX2_endsFileAhead 0 = .ok (.aload_n 0, 1) := by decide +kernel
theorem dX2_endsFileAhead_1 : decode cX2_endsFileAhead 1 = .ok (.getfield 38, 3) := by decide +kernel
theorem dX2_endsFileAhead_4 : decode cX2_endsFileAhead 4 = .ok (.iconst (-1), 1) := by decide +kernel
theorem dX2_endsFileAhead_5 : decode cX2_endsFileAhead 5 = .ok (.if_icmp .eq 46, 3) := by decide +kernel
theorem dX2_endsFileAhead_8 : decode cX2_endsFileAhead 8 = .ok (.aload_n 0, 1) := by decide +kernel
theorem dX2_endsFileAhead_9 : decode cX2_endsFileAhead 9 = .ok (.getfield 24, 3) := by decide +kernel
theorem dX2_endsFileAhead_12 : decode cX2_endsFileAhead 12 = .ok (.getfield 45, 3) := by decide +kernel
theorem dX2_endsFileAhead_15 : decode cX2_endsFileAhead 15 = .ok (.bipush 8, 2) := by decide +kernel
theorem dX2_endsFileAhead_17 : decode cX2_endsFileAhead 17 = .ok (.if_icmp .lt 34, 3) := by decide +kernel
theorem dX2_endsFileAhead_20 : decode cX2_endsFileAhead 20 = .ok (.aload_n 0, 1) := by decide +kernel
theorem dX2_endsFileAhead_21 : decode cX2_endsFileAhead 21 = .ok (.getfield 24, 3) := by decide +kernel
theorem dX2_endsFileAhead_24 : decode cX2_endsFileAhead 24 = .ok (.aload_n 0, 1) := by decide +kernel
theorem dX2_endsFileAhead_25 : decode cX2_endsFileAhead 25 = .ok (.getfield 24, 3) := by decide +kernel
theorem dX2_endsFileAhead_28 : decode cX2_endsFileAhead 28 = .ok (.getfield 45, 3) := by decide +kernel
theorem dX2_endsFileAhead_31 : decode cX2_endsFileAhead 31 = .ok (.iconst 1, 1) := by decide +kernel
theorem dX2_endsFileAhead_32 : decode cX2_endsFileAhead 32 = .ok (.isub, 1) := by decide +kernel
theorem dX2_endsFileAhead_33 : decode cX2_endsFileAhead 33 = .ok (.invokevirtual 77, 3) := by decide +kernel
theorem dX2_endsFileAhead_36 : decode cX2_endsFileAhead 36 = .ok (.aload_n 0, 1) := by decide +kernel
theorem dX2_endsFileAhead_37 : decode cX2_endsFileAhead 37 = .ok (.getfield 14, 3) := by decide +kernel
theorem dX2_endsFileAhead_40 : decode cX2_endsFileAhead 40 = .ok (.iload_n 1, 1) := by decide +kernel
theorem dX2_endsFileAhead_41 : decode cX2_endsFileAhead 41 = .ok (.invokevirtual 77, 3) := by decide +kernel
theorem dX2_endsFileAhead_44 : decode cX2_endsFileAhead 44 = .ok (.if_icmp .eq 7, 3) := by decide +kernel
theorem dX2_endsFileAhead_47 : decode cX2_endsFileAhead 47 = .ok (.iconst 1, 1) := by decide +kernel
theorem dX2_endsFileAhead_48 : decode cX2_endsFileAhead 48 = .ok (.goto 4, 3) := by decide +kernel
theorem dX2_endsFileAhead_51 : decode cX2_endsFileAhead 51 = .ok (.iconst 0, 1) := by decide +kernel
theorem dX2_endsFileAhead_52 : decode cX2_endsFileAhead 52 = .ok (.ireturn, 1) := by decide +kernel
theorem dX3_init_0 : decode cX3_init 0 = .ok (.aload_n 0, 1) := by decide +kernel
theorem dX3_init_1 : decode cX3_init 1 = .ok (.invokespecial 3, 3) := by decide +kernel
theorem dX3_init_4 : decode cX3_init 4 = .ok (.aload_n 0, 1) := by decide +kernel
theorem dX3_init_5 : decode cX3_init 5 = .ok (.sipush 1000, 3) := by decide +kernel
theorem dX3_init_8 : decode cX3_init 8 = .ok (.newarray .int, 2) := by decide +kernel
theorem dX3_init_10 : decode cX3_init 10 = .ok (.putfield 9, 3) := by decide +kernel
theorem dX3_init_13 : decode cX3_init 13 = .ok (.aload_n 0, 1) := by decide +kernel
theorem dX3_init_14 : decode cX3_init 14 = .ok (.sipush 1000, 3) := by decide +kernel
theorem dX3_init_17 : decode cX3_init 17 = .ok (.newarray .int, 2) := by decide +kernel
theorem dX3_init_19 : decode cX3_init 19 = .ok (.putfield 15, 3) := by decide +kernel
theorem dX3_init_22 : decode cX3_init 22 = .ok (.return_, 1) := by decide +kernel
theorem dX3_begin_0 : decode cX3_begin 0 = .ok (.aload_n 0, 1) := by decide +kernel
theorem dX3_begin_1 : decode cX3_begin 1 = .ok (.iconst 0, 1) := by decide +kernel
theorem dX3_begin_2 : decode cX3_begin 2 = .ok (.iload_n 1, 1) := by decide +kernel
theorem dX3_begin_3 : decode cX3_begin 3 = .ok (.invokestatic 18, 3) := by decide +kernel
theorem dX3_begin_6 : decode cX3_begin 6 = .ok (.putfield 24, 3) := by decide +kernel
theorem dX3_begin_9 : decode cX3_begin 9 = .ok (.aload_n 0, 1) := by decide +kernel
theorem dX3_begin_10 : decode cX3_begin 10 = .ok (.sipush 999, 3) := by decide +kernel
theorem dX3_begin_13 : decode cX3_begin 13 = .ok (.iload_n 2, 1) := by decide +kernel
theorem dX3_begin_14 : decode cX3_begin 14 = .ok (.invokestatic 28, 3) := by decide +kernel
theorem dX3_begin_17 : decode cX3_begin 17 = .ok (.putfield 31, 3) := by decide +kernel
theorem dX3_begin_20 : decode cX3_begin 20 = .ok (.aload_n 0, 1) := by decide +kernel
theorem dX3_begin_21 : decode cX3_begin 21 = .ok (.iload_n 3, 1) := by decide +kernel
theorem dX3_begin_22 : decode cX3_begin 22 = .ok (.putfield 34, 3) := by decide +kernel
theorem dX3_begin_25 : decode cX3_begin 25 = .ok (.aload_n 0, 1) := by decide +kernel
theorem dX3_begin_26 : decode cX3_begin 26 = .ok (.getfield 24, 3) := by decide +kernel
theorem dX3_begin_29 : decode cX3_begin 29 = .ok (.istore 4, 2) := by decide +kernel
theorem dX3_begin_31 : decode cX3_begin 31 = .ok (.iload 4, 2) := by decide +kernel
theorem dX3_begin_33 : decode cX3_begin 33 = .ok (.aload_n 0, 1) := by decide +kernel
theorem dX3_begin_34 : decode cX3_begin 34 = .ok (.getfield 31, 3) := by decide +kernel
theorem dX3_begin_37 : decode cX3_begin 37 = .ok (.if_icmp .gt 26, 3) := by decide +kernel
theorem dX3_begin_40 : decode cX3_begin 40 = .ok (.aload_n 0, 1) := by decide +kernel
theorem dX3_begin_41 : decode cX3_begin 41 = .ok (.getfield 9, 3) := by decide +kernel
theorem dX3_begin_44 : decode cX3_begin 44 = .ok (.iload 4, 2) := by decide +kernel
theorem dX3_begin_46 : decode cX3_begin 46 = .ok (.iconst 0, 1) := by decide +kernel
theorem dX3_begin_47 : decode cX3_begin 47 = .ok (.iastore, 1) := by decide +kernel
theorem dX3_begin_48 : decode cX3_begin 48 = .ok (.aload_n 0, 1) := by decide +kernel
theorem dX3_begin_49 : decode cX3_begin 49 = .ok (.getfield 15, 3) := by decide +kernel
theorem dX3_begin_52 : decode cX3_begin 52 = .ok (.iload 4, 2) := by decide +kernel
theorem dX3_begin_54 : decode cX3_begin 54 = .ok (.ldc 37, 2) := by decide +kernel
theorem dX3_begin_56 : decode cX3_begin 56 = .ok (.iastore, 1) := by decide +kernel
theorem dX3_begin_57 : decode cX3_begin 57 = .ok (.iinc 4 1, 3) := by decide +kernel
theorem dX3_begin_60 : decode cX3_begin 60 = .ok (.goto (-29), 3) := by decide +kernel
theorem dX3_begin_63 : decode cX3_begin 63 = .ok (.return_, 1) := by decide +kernel
theorem dX3_concerns_0 : decode cX3_concerns 0 = .ok (.aload_n 1, 1) := by decide +kernel
theorem dX3_concerns_1 : decode cX3_concerns 1 = .ok (.invokevirtual 38, 3) := by decide +kernel
theorem dX3_concerns_4 : decode cX3_concerns 4 = .ok (.aload_n 0, 1) := by decide +kernel
theorem dX3_concerns_5 : decode cX3_concerns 5 = .ok (.getfield 31, 3) := by decide +kernel
theorem dX3_concerns_8 : decode cX3_concerns 8 = .ok (.if_icmp .gt 18, 3) := by decide +kernel
theorem dX3_concerns_11 : decode cX3_concerns 11 = .ok (.aload_n 1, 1) := by decide +kernel
theorem dX3_concerns_12 : decode cX3_concerns 12 = .ok (.invokevirtual 44, 3) := by decide +kernel
theorem dX3_concerns_15 : decode cX3_concerns 15 = .ok (.aload_n 0, 1) := by decide +kernel
theorem dX3_concerns_16 : decode cX3_concerns 16 = .ok (.getfield 24, 3) := by decide +kernel
theorem dX3_concerns_19 : decode cX3_concerns 19 = .ok (.if_icmp .lt 7, 3) := by decide +kernel
theorem dX3_concerns_22 : decode cX3_concerns 22 = .ok (.iconst 1, 1) := by decide +kernel
theorem dX3_concerns_23 : decode cX3_concerns 23 = .ok (.goto 4, 3) := by decide +kernel
theorem dX3_concerns_26 : decode cX3_concerns 26 = .ok (.iconst 0, 1) := by decide +kernel
theorem dX3_concerns_27 : decode cX3_concerns 27 = .ok (.ireturn, 1) := by decide +kernel
theorem dX3_take_0 : decode cX3_take 0 = .ok (.iconst 0, 1) := by decide +kernel
theorem dX3_take_1 : decode cX3_take 1 = .ok (.istore_n 2, 1) := by decide +kernel
theorem dX3_take_2 : decode cX3_take 2 = .ok (.iload_n 2, 1) := by decide +kernel
theorem dX3_take_3 : decode cX3_take 3 = .ok (.aload_n 1, 1) := by decide +kernel
theorem dX3_take_4 : decode cX3_take 4 = .ok (.getfield 47, 3) := by decide +kernel
theorem dX3_take_7 : decode cX3_take 7 = .ok (.if_icmp .ge 77, 3) := by decide +kernel
theorem dX3_take_10 : decode cX3_take 10 = .ok (.aload_n 1, 1) := by decide +kernel
theorem dX3_take_11 : decode cX3_take 11 = .ok (.iload_n 2, 1) := by decide +kernel
theorem dX3_take_12 : decode cX3_take 12 = .ok (.invokevirtual 52, 3) := by decide +kernel
theorem dX3_take_15 : decode cX3_take 15 = .ok (.istore_n 3, 1) := by decide +kernel
theorem dX3_take_16 : decode cX3_take 16 = .ok (.aload_n 1, 1) := by decide +kernel
theorem dX3_take_17 : decode cX3_take 17 = .ok (.iload_n 2, 1) := by decide +kernel
theorem dX3_take_18 : decode cX3_take 18 = .ok (.invokevirtual 56, 3) := by decide +kernel
theorem dX3_take_21 : decode cX3_take 21 = .ok (.istore 4, 2) := by decide +kernel
theorem dX3_take_23 : decode cX3_take 23 = .ok (.iload_n 3, 1) := by decide +kernel
theorem dX3_take_24 : decode cX3_take 24 = .ok (.aload_n 0, 1) := by decide +kernel
theorem dX3_take_25 : decode cX3_take 25 = .ok (.getfield 24, 3) := by decide +kernel
theorem dX3_take_28 : decode cX3_take 28 = .ok (.if_icmp .lt 50, 3) := by decide +kernel
theorem dX3_take_31 : decode cX3_take 31 = .ok (.iload_n 3, 1) := by decide +kernel
theorem dX3_take_32 : decode cX3_take 32 = .ok (.aload_n 0, 1) := by decide +kernel
theorem dX3_take_33 : decode cX3_take 33 = .ok (.getfield 31, 3) := by decide +kernel
theorem dX3_take_36 : decode cX3_take 36 = .ok (.if_icmp .gt 42, 3) := by decide +kernel
theorem dX3_take_39 : decode cX3_take 39 = .ok (.iload 4, 2) := by decide +kernel
theorem dX3_take_41 : decode cX3_take 41 = .ok (.aload_n 0, 1) := by decide +kernel
theorem dX3_take_42 : decode cX3_take 42 = .ok (.getfield 34, 3) := by decide +kernel
theorem dX3_take_45 : decode cX3_take 45 = .ok (.if_icmp .gt 33, 3) := by decide +kernel
theorem dX3_take_48 : decode cX3_take 48 = .ok (.iload 4, 2) := by decide +kernel
theorem dX3_take_50 : decode cX3_take 50 = .ok (.aload_n 0, 1) := by decide +kernel
theorem dX3_take_51 : decode cX3_take 51 = .ok (.getfield 9, 3) := by decide +kernel
theorem dX3_take_54 : decode cX3_take 54 = .ok (.iload_n 3, 1) := by decide +kernel
theorem dX3_take_55 : decode cX3_take 55 = .ok (.iaload, 1) := by decide +kernel
theorem dX3_take_56 : decode cX3_take 56 = .ok (.if_icmp .le 22, 3) := by decide +kernel
theorem dX3_take_59 : decode cX3_take 59 = .ok (.aload_n 0, 1) := by decide +kernel
theorem dX3_take_60 : decode cX3_take 60 = .ok (.getfield 9, 3) := by decide +kernel
theorem dX3_take_63 : decode cX3_take 63 = .ok (.iload_n 3, 1) := by decide +kernel
theorem dX3_take_64 : decode cX3_take 64 = .ok (.iload 4, 2) := by decide +kernel
theorem dX3_take_66 : decode cX3_take 66 = .ok (.iastore, 1) := by decide +kernel
theorem dX3_take_67 : decode cX3_take 67 = .ok (.aload_n 0, 1) := by decide +kernel
theorem dX3_take_68 : decode cX3_take 68 = .ok (.getfield 15, 3) := by decide +kernel
theorem dX3_take_71 : decode cX3_take 71 = .ok (.iload_n 3, 1) := by decide +kernel
theorem dX3_take_72 : decode cX3_take 72 = .ok (.aload_n 1, 1) := by decide +kernel
theorem dX3_take_73 : decode cX3_take 73 = .ok (.iload_n 2, 1) := by decide +kernel
theorem dX3_take_74 : decode cX3_take 74 = .ok (.invokevirtual 59, 3) := by decide +kernel
theorem dX3_take_77 : decode cX3_take 77 = .ok (.iastore, 1) := by decide +kernel
theorem dX3_take_78 : decode cX3_take 78 = .ok (.iinc 2 1, 3) := by decide +kernel
theorem dX3_take_81 : decode cX3_take 81 = .ok (.goto (-79), 3) := by decide +kernel
theorem dX3_take_84 : decode cX3_take 84 = .ok (.return_, 1) := by decide +kernel
theorem dX3_valueOf_0 : decode cX3_valueOf 0 = .ok (.iload_n 1, 1) := by decide +kernel
theorem dX3_valueOf_1 : decode cX3_valueOf 1 = .ok (.aload_n 0, 1) := by decide +kernel
theorem dX3_valueOf_2 : decode cX3_valueOf 2 = .ok (.getfield 24, 3) := by decide +kernel
theorem dX3_valueOf_5 : decode cX3_valueOf 5 = .ok (.if_icmp .lt 20, 3) := by decide +kernel
theorem dX3_valueOf_8 : decode cX3_valueOf 8 = .ok (.iload_n 1, 1) := by decide +kernel
theorem dX3_valueOf_9 : decode cX3_valueOf 9 = .ok (.aload_n 0, 1) := by decide +kernel
theorem dX3_valueOf_10 : decode cX3_valueOf 10 = .ok (.getfield 31, 3) := by decide +kernel
theorem dX3_valueOf_13 : decode cX3_valueOf 13 = .ok (.if_icmp .gt 12, 3) := by decide +kernel
theorem dX3_valueOf_16 : decode cX3_valueOf 16 = .ok (.aload_n 0, 1) := by decide +kernel
theorem dX3_valueOf_17 : decode cX3_valueOf 17 = .ok (.getfield 15, 3) := by decide +kernel
theorem dX3_valueOf_20 : decode cX3_valueOf 20 = .ok (.iload_n 1, 1) := by decide +kernel
theorem dX3_valueOf_21 : decode cX3_valueOf 21 = .ok (.iaload, 1) := by decide +kernel
