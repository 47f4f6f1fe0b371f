theorem d_Sz_init_0 : decode b_Sz_init 0 = .ok (.aload_n 0, 1) := by decide +kernel
theorem d_Sz_init_1 : decode b_Sz_init 1 = .ok (.invokespecial 1, 3) := by decide +kernel
theorem d_Sz_init_4 : decode b_Sz_init 4 = .ok (.aload_n 0, 1) := by decide +kernel
theorem d_Sz_init_5 : decode b_Sz_init 5 = .ok (.bipush 10, 2) := by decide +kernel
theorem d_Sz_init_7 : decode b_Sz_init 7 = .ok (.anewarray 9, 3) := by decide +kernel
theorem d_Sz_init_10 : decode b_Sz_init 10 = .ok (.putfield 11, 3) := by decide +kernel
theorem d_Sz_init_13 : decode b_Sz_init 13 = .ok (.aload_n 0, 1) := by decide +kernel
theorem d_Sz_init_14 : decode b_Sz_init 14 = .ok (.bipush 15, 2) := by decide +kernel
theorem d_Sz_init_16 : decode b_Sz_init 16 = .ok (.anewarray 15, 3) := by decide +kernel
theorem d_Sz_init_19 : decode b_Sz_init 19 = .ok (.putfield 17, 3) := by decide +kernel
theorem d_Sz_init_22 : decode b_Sz_init 22 = .ok (.aload_n 0, 1) := by decide +kernel
theorem d_Sz_init_23 : decode b_Sz_init 23 = .ok (.iconst 5, 1) := by decide +kernel
theorem d_Sz_init_24 : decode b_Sz_init 24 = .ok (.anewarray 21, 3) := by decide +kernel
theorem d_Sz_init_27 : decode b_Sz_init 27 = .ok (.putfield 23, 3) := by decide +kernel
theorem d_Sz_init_30 : decode b_Sz_init 30 = .ok (.aload_n 0, 1) := by decide +kernel
theorem d_Sz_init_31 : decode b_Sz_init 31 = .ok (.bipush 9, 2) := by decide +kernel
theorem d_Sz_init_33 : decode b_Sz_init 33 = .ok (.anewarray 27, 3) := by decide +kernel
theorem d_Sz_init_36 : decode b_Sz_init 36 = .ok (.putfield 29, 3) := by decide +kernel
theorem d_Sz_init_39 : decode b_Sz_init 39 = .ok (.aload_n 0, 1) := by decide +kernel
theorem d_Sz_init_40 : decode b_Sz_init 40 = .ok (.bipush 9, 2) := by decide +kernel
theorem d_Sz_init_42 : decode b_Sz_init 42 = .ok (.anewarray 33, 3) := by decide +kernel
theorem d_Sz_init_45 : decode b_Sz_init 45 = .ok (.putfield 35, 3) := by decide +kernel
theorem d_Sz_init_48 : decode b_Sz_init 48 = .ok (.aload_n 0, 1) := by decide +kernel
theorem d_Sz_init_49 : decode b_Sz_init 49 = .ok (.bipush 9, 2) := by decide +kernel
theorem d_Sz_init_51 : decode b_Sz_init 51 = .ok (.anewarray 39, 3) := by decide +kernel
theorem d_Sz_init_54 : decode b_Sz_init 54 = .ok (.putfield 41, 3) := by decide +kernel
theorem d_Sz_init_57 : decode b_Sz_init 57 = .ok (.return_, 1) := by decide +kernel
theorem d_Sz_room_0 : decode b_Sz_room 0 = .ok (.iload_n 1, 1) := by decide +kernel
theorem d_Sz_room_1 : decode b_Sz_room 1 = .ok (.iconst 1, 1) := by decide +kernel
theorem d_Sz_room_2 : decode b_Sz_room 2 = .ok (.sipush 10000, 3) := by decide +kernel
theorem d_Sz_room_5 : decode b_Sz_room 5 = .ok (.invokestatic 45, 3) := by decide +kernel
theorem d_Sz_room_8 : decode b_Sz_room 8 = .ok (.iload_n 2, 1) := by decide +kernel
theorem d_Sz_room_9 : decode b_Sz_room 9 = .ok (.iconst 1, 1) := by decide +kernel
theorem d_Sz_room_10 : decode b_Sz_room 10 = .ok (.bipush 100, 2) := by decide +kernel
theorem d_Sz_room_12 : decode b_Sz_room 12 = .ok (.invokestatic 45, 3) := by decide +kernel
theorem d_Sz_room_15 : decode b_Sz_room 15 = .ok (.aload_n 0, 1) := by decide +kernel
theorem d_Sz_room_16 : decode b_Sz_room 16 = .ok (.getfield 49, 3) := by decide +kernel
theorem d_Sz_room_19 : decode b_Sz_room 19 = .ok (.bipush 10, 2) := by decide +kernel
theorem d_Sz_room_21 : decode b_Sz_room 21 = .ok (.invokestatic 53, 3) := by decide +kernel
theorem d_Sz_room_24 : decode b_Sz_room 24 = .ok (.aload_n 0, 1) := by decide +kernel
theorem d_Sz_room_25 : decode b_Sz_room 25 = .ok (.getfield 11, 3) := by decide +kernel
theorem d_Sz_room_28 : decode b_Sz_room 28 = .ok (.aload_n 0, 1) := by decide +kernel
theorem d_Sz_room_29 : decode b_Sz_room 29 = .ok (.getfield 49, 3) := by decide +kernel
theorem d_Sz_room_32 : decode b_Sz_room 32 = .ok (.new 9, 3) := by decide +kernel
theorem d_Sz_room_35 : decode b_Sz_room 35 = .ok (.dup, 1) := by decide +kernel
theorem d_Sz_room_36 : decode b_Sz_room 36 = .ok (.iload_n 1, 1) := by decide +kernel
theorem d_Sz_room_37 : decode b_Sz_room 37 = .ok (.iload_n 2, 1) := by decide +kernel
theorem d_Sz_room_38 : decode b_Sz_room 38 = .ok (.invokespecial 57, 3) := by decide +kernel
theorem d_Sz_room_41 : decode b_Sz_room 41 = .ok (.aastore, 1) := by decide +kernel
theorem d_Sz_room_42 : decode b_Sz_room 42 = .ok (.aload_n 0, 1) := by decide +kernel
theorem d_Sz_room_43 : decode b_Sz_room 43 = .ok (.dup, 1) := by decide +kernel
theorem d_Sz_room_44 : decode b_Sz_room 44 = .ok (.getfield 49, 3) := by decide +kernel
theorem d_Sz_room_47 : decode b_Sz_room 47 = .ok (.iconst 1, 1) := by decide +kernel
theorem d_Sz_room_48 : decode b_Sz_room 48 = .ok (.iadd, 1) := by decide +kernel
theorem d_Sz_room_49 : decode b_Sz_room 49 = .ok (.putfield 49, 3) := by decide +kernel
theorem d_Sz_room_52 : decode b_Sz_room 52 = .ok (.aload_n 0, 1) := by decide +kernel
theorem d_Sz_room_53 : decode b_Sz_room 53 = .ok (.getfield 49, 3) := by decide +kernel
theorem d_Sz_room_56 : decode b_Sz_room 56 = .ok (.iconst 1, 1) := by decide +kernel
theorem d_Sz_room_57 : decode b_Sz_room 57 = .ok (.isub, 1) := by decide +kernel
theorem d_Sz_room_58 : decode b_Sz_room 58 = .ok (.ireturn, 1) := by decide +kernel
theorem d_Sz_needBetween_0 : decode b_Sz_needBetween 0 = .ok (.iload_n 0, 1) := by decide +kernel
theorem d_Sz_needBetween_1 : decode b_Sz_needBetween 1 = .ok (.iload_n 1, 1) := by decide +kernel
theorem d_Sz_needBetween_2 : decode b_Sz_needBetween 2 = .ok (.if_icmp .lt 12, 3) := by decide +kernel
theorem d_Sz_needBetween_5 : decode b_Sz_needBetween 5 = .ok (.iload_n 0, 1) := by decide +kernel
theorem d_Sz_needBetween_6 : decode b_Sz_needBetween 6 = .ok (.iload_n 2, 1) := by decide +kernel
theorem d_Sz_needBetween_7 : decode b_Sz_needBetween 7 = .ok (.if_icmp .gt 7, 3) := by decide +kernel
theorem d_Sz_needBetween_10 : decode b_Sz_needBetween 10 = .ok (.iconst 1, 1) := by decide +kernel
theorem d_Sz_needBetween_11 : decode b_Sz_needBetween 11 = .ok (.goto 4, 3) := by decide +kernel
theorem d_Sz_needBetween_14 : decode b_Sz_needBetween 14 = .ok (.iconst 0, 1) := by decide +kernel
theorem d_Sz_needBetween_15 : decode b_Sz_needBetween 15 = .ok (.invokestatic 66, 3) := by decide +kernel
theorem d_Sz_needBetween_18 : decode b_Sz_needBetween 18 = .ok (.return_, 1) := by decide +kernel
theorem d_Sz_needArgument_0 : decode b_Sz_needArgument 0 = .ok (.iload_n 0, 1) := by decide +kernel
theorem d_Sz_needArgument_1 : decode b_Sz_needArgument 1 = .ok (.ifCond .ne 13, 3) := by decide +kernel
theorem d_Sz_needArgument_4 : decode b_Sz_needArgument 4 = .ok (.new 183, 3) := by decide +kernel
theorem d_Sz_needArgument_7 : decode b_Sz_needArgument 7 = .ok (.dup, 1) := by decide +kernel
theorem d_Sz_needArgument_8 : decode b_Sz_needArgument 8 = .ok (.ldc 185, 2) := by decide +kernel
theorem d_Sz_needArgument_10 : decode b_Sz_needArgument 10 = .ok (.invokespecial 187, 3) := by decide +kernel
theorem d_Sz_needArgument_13 : decode b_Sz_needArgument 13 = .ok (.athrow, 1) := by decide +kernel
theorem d_Sz_needArgument_14 : decode b_Sz_needArgument 14 = .ok (.return_, 1) := by decide +kernel
theorem d_Sz_needSpace_0 : decode b_Sz_needSpace 0 = .ok (.iload_n 0, 1) := by decide +kernel
theorem d_Sz_needSpace_1 : decode b_Sz_needSpace 1 = .ok (.iload_n 1, 1) := by decide +kernel
theorem d_Sz_needSpace_2 : decode b_Sz_needSpace 2 = .ok (.if_icmp .ge 7, 3) := by decide +kernel
theorem d_Sz_needSpace_5 : decode b_Sz_needSpace 5 = .ok (.iconst 1, 1) := by decide +kernel
theorem d_Sz_needSpace_6 : decode b_Sz_needSpace 6 = .ok (.goto 4, 3) := by decide +kernel
theorem d_Sz_needSpace_9 : decode b_Sz_needSpace 9 = .ok (.iconst 0, 1) := by decide +kernel
theorem d_Sz_needSpace_10 : decode b_Sz_needSpace 10 = .ok (.invokestatic 82, 3) := by decide +kernel
theorem d_Sz_needSpace_13 : decode b_Sz_needSpace 13 = .ok (.return_, 1) := by decide +kernel
theorem d_Sz_needState_0 : decode b_Sz_needState 0 = .ok (.iload_n 0, 1) := by decide +kernel
theorem d_Sz_needState_1 : decode b_Sz_needState 1 = .ok (.ifCond .ne 13, 3) := by decide +kernel
theorem d_Sz_needState_4 : decode b_Sz_needState 4 = .ok (.new 190, 3) := by decide +kernel
theorem d_Sz_needState_7 : decode b_Sz_needState 7 = .ok (.dup, 1) := by decide +kernel
theorem d_Sz_needState_8 : decode b_Sz_needState 8 = .ok (.ldc 192, 2) := by decide +kernel
theorem d_Sz_needState_10 : decode b_Sz_needState 10 = .ok (.invokespecial 194, 3) := by decide +kernel
theorem d_Sz_needState_13 : decode b_Sz_needState 13 = .ok (.athrow, 1) := by decide +kernel
theorem d_Sz_needState_14 : decode b_Sz_needState 14 = .ok (.return_, 1) := by decide +kernel
theorem d_Sz_opening_0 : decode b_Sz_opening 0 = .ok (.iload_n 1, 1) := by decide +kernel
theorem d_Sz_opening_1 : decode b_Sz_opening 1 = .ok (.aload_n 0, 1) := by decide +kernel
theorem d_Sz_opening_2 : decode b_Sz_opening 2 = .ok (.getfield 49, 3) := by decide +kernel
theorem d_Sz_opening_5 : decode b_Sz_opening 5 = .ok (.invokestatic 59, 3) := by decide +kernel
theorem d_Sz_opening_8 : decode b_Sz_opening 8 = .ok (.aload_n 0, 1) := by decide +kernel
theorem d_Sz_opening_9 : decode b_Sz_opening 9 = .ok (.iload_n 2, 1) := by decide +kernel
theorem d_Sz_opening_10 : decode b_Sz_opening 10 = .ok (.invokevirtual 62, 3) := by decide +kernel
theorem d_Sz_opening_13 : decode b_Sz_opening 13 = .ok (.iload_n 1, 1) := by decide +kernel
theorem d_Sz_opening_14 : decode b_Sz_opening 14 = .ok (.iload_n 2, 1) := by decide +kernel
theorem d_Sz_opening_15 : decode b_Sz_opening 15 = .ok (.if_icmp .eq 7, 3) := by decide +kernel
theorem d_Sz_opening_18 : decode b_Sz_opening 18 = .ok (.iconst 1, 1) := by decide +kernel
theorem d_Sz_opening_19 : decode b_Sz_opening 19 = .ok (.goto 4, 3) := by decide +kernel
theorem d_Sz_opening_22 : decode b_Sz_opening 22 = .ok (.iconst 0, 1) := by decide +kernel
theorem d_Sz_opening_23 : decode b_Sz_opening 23 = .ok (.invokestatic 66, 3) := by decide +kernel
theorem d_Sz_opening_26 : decode b_Sz_opening 26 = .ok (.iload_n 3, 1) := by decide +kernel
theorem d_Sz_opening_27 : decode b_Sz_opening 27 = .ok (.iconst 1, 1) := by decide +kernel
theorem d_Sz_opening_28 : decode b_Sz_opening 28 = .ok (.bipush 50, 2) := by decide +kernel
theorem d_Sz_opening_30 : decode b_Sz_opening 30 = .ok (.invokestatic 45, 3) := by decide +kernel
theorem d_Sz_opening_33 : decode b_Sz_opening 33 = .ok (.iload 5, 2) := by decide +kernel
theorem d_Sz_opening_35 : decode b_Sz_opening 35 = .ok (.iconst 1, 1) := by decide +kernel
theorem d_Sz_opening_36 : decode b_Sz_opening 36 = .ok (.aload_n 0, 1) := by decide +kernel
theorem d_Sz_opening_37 : decode b_Sz_opening 37 = .ok (.getfield 11, 3) := by decide +kernel
theorem d_Sz_opening_40 : decode b_Sz_opening 40 = .ok (.iload_n 1, 1) := by decide +kernel
theorem d_Sz_opening_41 : decode b_Sz_opening 41 = .ok (.aaload, 1) := by decide +kernel
theorem d_Sz_opening_42 : decode b_Sz_opening 42 = .ok (.getfield 70, 3) := by decide +kernel
theorem d_Sz_opening_45 : decode b_Sz_opening 45 = .ok (.invokestatic 45, 3) := by decide +kernel
theorem d_Sz_opening_48 : decode b_Sz_opening 48 = .ok (.iload 4, 2) := by decide +kernel
theorem d_Sz_opening_50 : decode b_Sz_opening 50 = .ok (.iconst 0, 1) := by decide +kernel
theorem d_Sz_opening_51 : decode b_Sz_opening 51 = .ok (.iload 5, 2) := by decide +kernel
theorem d_Sz_opening_53 : decode b_Sz_opening 53 = .ok (.iconst 1, 1) := by decide +kernel
theorem d_Sz_opening_54 : decode b_Sz_opening 54 = .ok (.isub, 1) := by decide +kernel
theorem d_Sz_opening_55 : decode b_Sz_opening 55 = .ok (.invokestatic 45, 3) := by decide +kernel
theorem d_Sz_opening_58 : decode b_Sz_opening 58 = .ok (.iload_n 2, 1) := by decide +kernel
theorem d_Sz_opening_59 : decode b_Sz_opening 59 = .ok (.iconst (-1), 1) := by decide +kernel
theorem d_Sz_opening_60 : decode b_Sz_opening 60 = .ok (.if_icmp .ne 7, 3) := by decide +kernel
theorem d_Sz_opening_63 : decode b_Sz_opening 63 = .ok (.aconst_null, 1) := by decide +kernel
theorem d_Sz_opening_64 : decode b_Sz_opening 64 = .ok (.goto 9, 3) := by decide +kernel
theorem d_Sz_opening_67 : decode b_Sz_opening 67 = .ok (.aload_n 0, 1) := by decide +kernel
theorem d_Sz_opening_68 : decode b_Sz_opening 68 = .ok (.getfield 11, 3) := by decide +kernel
theorem d_Sz_opening_71 : decode b_Sz_opening 71 = .ok (.iload_n 2, 1) := by decide +kernel
theorem d_Sz_opening_72 : decode b_Sz_opening 72 = .ok (.aaload, 1) := by decide +kernel
theorem d_Sz_opening_73 : decode b_Sz_opening 73 = .ok (.astore 6, 2) := by decide +kernel
theorem d_Sz_opening_75 : decode b_Sz_opening 75 = .ok (.aload 6, 2) := by decide +kernel
theorem d_Sz_opening_77 : decode b_Sz_opening 77 = .ok (.ifnull 13, 3) := by decide +kernel
theorem d_Sz_opening_80 : decode b_Sz_opening 80 = .ok (.iload 5, 2) := by decide +kernel
theorem d_Sz_opening_82 : decode b_Sz_opening 82 = .ok (.aload 6, 2) := by decide +kernel
theorem d_Sz_opening_84 : decode b_Sz_opening 84 = .ok (.getfield 70, 3) := by decide +kernel
theorem d_Sz_opening_87 : decode b_Sz_opening 87 = .ok (.if_icmp .gt 7, 3) := by decide +kernel
theorem d_Sz_opening_90 : decode b_Sz_opening 90 = .ok (.iconst 1, 1) := by decide +kernel
theorem d_Sz_opening_91 : decode b_Sz_opening 91 = .ok (.goto 4, 3) := by decide +kernel
theorem d_Sz_opening_94 : decode b_Sz_opening 94 = .ok (.iconst 0, 1) := by decide +kernel
theorem d_Sz_opening_95 : decode b_Sz_opening 95 = .ok (.invokestatic 66, 3) := by decide +kernel
theorem d_Sz_opening_98 : decode b_Sz_opening 98 = .ok (.aload_n 0, 1) := by decide +kernel
theorem d_Sz_opening_99 : decode b_Sz_opening 99 = .ok (.getfield 73, 3) := by decide +kernel
theorem d_Sz_opening_102 : decode b_Sz_opening 102 = .ok (.bipush 15, 2) := by decide +kernel
theorem d_Sz_opening_104 : decode b_Sz_opening 104 = .ok (.invokestatic 53, 3) := by decide +kernel
theorem d_Sz_opening_107 : decode b_Sz_opening 107 = .ok (.aload_n 0, 1) := by decide +kernel
theorem d_Sz_opening_108 : decode b_Sz_opening 108 = .ok (.getfield 17, 3) := by decide +kernel
theorem d_Sz_opening_111 : decode b_Sz_opening 111 = .ok (.aload_n 0, 1) := by decide +kernel
theorem d_Sz_opening_112 : decode b_Sz_opening 112 = .ok (.getfield 73, 3) := by decide +kernel
theorem d_Sz_opening_115 : decode b_Sz_opening 115 = .ok (.new 15, 3) := by decide +kernel
theorem d_Sz_opening_118 : decode b_Sz_opening 118 = .ok (.dup, 1) := by decide +kernel
theorem d_Sz_opening_119 : decode b_Sz_opening 119 = .ok (.aload_n 0, 1) := by decide +kernel
theorem d_Sz_opening_120 : decode b_Sz_opening 120 = .ok (.getfield 11, 3) := by decide +kernel
theorem d_Sz_opening_123 : decode b_Sz_opening 123 = .ok (.iload_n 1, 1) := by decide +kernel
theorem d_Sz_opening_124 : decode b_Sz_opening 124 = .ok (.aaload, 1) := by decide +kernel
theorem d_Sz_opening_125 : decode b_Sz_opening 125 = .ok (.aload 6, 2) := by decide +kernel
theorem d_Sz_opening_127 : decode b_Sz_opening 127 = .ok (.iload_n 3, 1) := by decide +kernel
theorem d_Sz_opening_128 : decode b_Sz_opening 128 = .ok (.iload 4, 2) := by decide +kernel
theorem d_Sz_opening_130 : decode b_Sz_opening 130 = .ok (.iload 5, 2) := by decide +kernel
theorem d_Sz_opening_132 : decode b_Sz_opening 132 = .ok (.invokespecial 76, 3) := by decide +kernel
theorem d_Sz_opening_135 : decode b_Sz_opening 135 = .ok (.aastore, 1) := by decide +kernel
theorem d_Sz_opening_136 : decode b_Sz_opening 136 = .ok (.aload_n 0, 1) := by decide +kernel
theorem d_Sz_opening_137 : decode b_Sz_opening 137 = .ok (.dup, 1) := by decide +kernel
theorem d_Sz_opening_138 : decode b_Sz_opening 138 = .ok (.getfield 73, 3) := by decide +kernel
theorem d_Sz_opening_141 : decode b_Sz_opening 141 = .ok (.iconst 1, 1) := by decide +kernel
theorem d_Sz_opening_142 : decode b_Sz_opening 142 = .ok (.iadd, 1) := by decide +kernel
theorem d_Sz_opening_143 : decode b_Sz_opening 143 = .ok (.putfield 73, 3) := by decide +kernel
theorem d_Sz_opening_146 : decode b_Sz_opening 146 = .ok (.aload_n 0, 1) := by decide +kernel
theorem d_Sz_opening_147 : decode b_Sz_opening 147 = .ok (.getfield 73, 3) := by decide +kernel
theorem d_Sz_opening_150 : decode b_Sz_opening 150 = .ok (.iconst 1, 1) := by decide +kernel
theorem d_Sz_opening_151 : decode b_Sz_opening 151 = .ok (.isub, 1) := by decide +kernel
theorem d_Sz_opening_152 : decode b_Sz_opening 152 = .ok (.ireturn, 1) := by decide +kernel
theorem d_Sz_needNumber_0 : decode b_Sz_needNumber 0 = .ok (.iload_n 0, 1) := by decide +kernel
theorem d_Sz_needNumber_1 : decode b_Sz_needNumber 1 = .ok (.ifCond .lt 12, 3) := by decide +kernel
theorem d_Sz_needNumber_4 : decode b_Sz_needNumber 4 = .ok (.iload_n 0, 1) := by decide +kernel
theorem d_Sz_needNumber_5 : decode b_Sz_needNumber 5 = .ok (.iload_n 1, 1) := by decide +kernel
theorem d_Sz_needNumber_6 : decode b_Sz_needNumber 6 = .ok (.if_icmp .ge 7, 3) := by decide +kernel
theorem d_Sz_needNumber_9 : decode b_Sz_needNumber 9 = .ok (.iconst 1, 1) := by decide +kernel
theorem d_Sz_needNumber_10 : decode b_Sz_needNumber 10 = .ok (.goto 4, 3) := by decide +kernel
theorem d_Sz_needNumber_13 : decode b_Sz_needNumber 13 = .ok (.iconst 0, 1) := by decide +kernel
theorem d_Sz_needNumber_14 : decode b_Sz_needNumber 14 = .ok (.invokestatic 66, 3) := by decide +kernel
theorem d_Sz_needNumber_17 : decode b_Sz_needNumber 17 = .ok (.return_, 1) := by decide +kernel
theorem d_Sz_needPlace_0 : decode b_Sz_needPlace 0 = .ok (.iload_n 1, 1) := by decide +kernel
theorem d_Sz_needPlace_1 : decode b_Sz_needPlace 1 = .ok (.iconst (-1), 1) := by decide +kernel
theorem d_Sz_needPlace_2 : decode b_Sz_needPlace 2 = .ok (.if_icmp .eq 11, 3) := by decide +kernel
theorem d_Sz_needPlace_5 : decode b_Sz_needPlace 5 = .ok (.aload_n 0, 1) := by decide +kernel
theorem d_Sz_needPlace_6 : decode b_Sz_needPlace 6 = .ok (.iload_n 1, 1) := by decide +kernel
theorem d_Sz_needPlace_7 : decode b_Sz_needPlace 7 = .ok (.invokevirtual 195, 3) := by decide +kernel
theorem d_Sz_needPlace_10 : decode b_Sz_needPlace 10 = .ok (.ifCond .eq 7, 3) := by decide +kernel
theorem d_Sz_needPlace_13 : decode b_Sz_needPlace 13 = .ok (.iconst 1, 1) := by decide +kernel
theorem d_Sz_needPlace_14 : decode b_Sz_needPlace 14 = .ok (.goto 4, 3) := by decide +kernel
theorem d_Sz_needPlace_17 : decode b_Sz_needPlace 17 = .ok (.iconst 0, 1) := by decide +kernel
theorem d_Sz_needPlace_18 : decode b_Sz_needPlace 18 = .ok (.invokestatic 66, 3) := by decide +kernel
theorem d_Sz_needPlace_21 : decode b_Sz_needPlace 21 = .ok (.return_, 1) := by decide +kernel
theorem d_Sz_isRoom_0 : decode b_Sz_isRoom 0 = .ok (.iload_n 1, 1) := by decide +kernel
theorem d_Sz_isRoom_1 : decode b_Sz_isRoom 1 = .ok (.ifCond .lt 15, 3) := by decide +kernel
theorem d_Sz_isRoom_4 : decode b_Sz_isRoom 4 = .ok (.iload_n 1, 1) := by decide +kernel
theorem d_Sz_isRoom_5 : decode b_Sz_isRoom 5 = .ok (.aload_n 0, 1) := by decide +kernel
theorem d_Sz_isRoom_6 : decode b_Sz_isRoom 6 = .ok (.getfield 49, 3) := by decide +kernel
theorem d_Sz_isRoom_9 : decode b_Sz_isRoom 9 = .ok (.if_icmp .ge 7, 3) := by decide +kernel
theorem d_Sz_isRoom_12 : decode b_Sz_isRoom 12 = .ok (.iconst 1, 1) := by decide +kernel
theorem d_Sz_isRoom_13 : decode b_Sz_isRoom 13 = .ok (.goto 4, 3) := by decide +kernel
theorem d_Sz_isRoom_16 : decode b_Sz_isRoom 16 = .ok (.iconst 0, 1) := by decide +kernel
theorem d_Sz_isRoom_17 : decode b_Sz_isRoom 17 = .ok (.ireturn, 1) := by decide +kernel
theorem d_Sz_glass_0 : decode b_Sz_glass 0 = .ok (.iload_n 1, 1) := by decide +kernel
theorem d_Sz_glass_1 : decode b_Sz_glass 1 = .ok (.aload_n 0, 1) := by decide +kernel
theorem d_Sz_glass_2 : decode b_Sz_glass 2 = .ok (.getfield 73, 3) := by decide +kernel
theorem d_Sz_glass_5 : decode b_Sz_glass 5 = .ok (.invokestatic 59, 3) := by decide +kernel
theorem d_Sz_glass_8 : decode b_Sz_glass 8 = .ok (.iload_n 2, 1) := by decide +kernel
theorem d_Sz_glass_9 : decode b_Sz_glass 9 = .ok (.iconst 1, 1) := by decide +kernel
theorem d_Sz_glass_10 : decode b_Sz_glass 10 = .ok (.sipush 1000, 3) := by decide +kernel
theorem d_Sz_glass_13 : decode b_Sz_glass 13 = .ok (.invokestatic 45, 3) := by decide +kernel
theorem d_Sz_glass_16 : decode b_Sz_glass 16 = .ok (.aload_n 0, 1) := by decide +kernel
theorem d_Sz_glass_17 : decode b_Sz_glass 17 = .ok (.getfield 17, 3) := by decide +kernel
theorem d_Sz_glass_20 : decode b_Sz_glass 20 = .ok (.iload_n 1, 1) := by decide +kernel
theorem d_Sz_glass_21 : decode b_Sz_glass 21 = .ok (.aaload, 1) := by decide +kernel
theorem d_Sz_glass_22 : decode b_Sz_glass 22 = .ok (.getfield 79, 3) := by decide +kernel
theorem d_Sz_glass_25 : decode b_Sz_glass 25 = .ok (.iconst (-1), 1) := by decide +kernel
theorem d_Sz_glass_26 : decode b_Sz_glass 26 = .ok (.if_icmp .ne 7, 3) := by decide +kernel
theorem d_Sz_glass_29 : decode b_Sz_glass 29 = .ok (.iconst 1, 1) := by decide +kernel
theorem d_Sz_glass_30 : decode b_Sz_glass 30 = .ok (.goto 4, 3) := by decide +kernel
theorem d_Sz_glass_33 : decode b_Sz_glass 33 = .ok (.iconst 0, 1) := by decide +kernel
theorem d_Sz_glass_34 : decode b_Sz_glass 34 = .ok (.invokestatic 82, 3) := by decide +kernel
theorem d_Sz_glass_37 : decode b_Sz_glass 37 = .ok (.aload_n 0, 1) := by decide +kernel
theorem d_Sz_glass_38 : decode b_Sz_glass 38 = .ok (.getfield 17, 3) := by decide +kernel
theorem d_Sz_glass_41 : decode b_Sz_glass 41 = .ok (.iload_n 1, 1) := by decide +kernel
theorem d_Sz_glass_42 : decode b_Sz_glass 42 = .ok (.aaload, 1) := by decide +kernel
theorem d_Sz_glass_43 : decode b_Sz_glass 43 = .ok (.iload_n 2, 1) := by decide +kernel
theorem d_Sz_glass_44 : decode b_Sz_glass 44 = .ok (.putfield 79, 3) := by decide +kernel
theorem d_Sz_glass_47 : decode b_Sz_glass 47 = .ok (.return_, 1) := by decide +kernel
theorem d_Sz_fire_0 : decode b_Sz_fire 0 = .ok (.iload_n 1, 1) := by decide +kernel
theorem d_Sz_fire_1 : decode b_Sz_fire 1 = .ok (.aload_n 0, 1) := by decide +kernel
theorem d_Sz_fire_2 : decode b_Sz_fire 2 = .ok (.getfield 49, 3) := by decide +kernel
theorem d_Sz_fire_5 : decode b_Sz_fire 5 = .ok (.invokestatic 59, 3) := by decide +kernel
theorem d_Sz_fire_8 : decode b_Sz_fire 8 = .ok (.iload_n 2, 1) := by decide +kernel
theorem d_Sz_fire_9 : decode b_Sz_fire 9 = .ok (.aload_n 0, 1) := by decide +kernel
theorem d_Sz_fire_10 : decode b_Sz_fire 10 = .ok (.getfield 85, 3) := by decide +kernel
theorem d_Sz_fire_13 : decode b_Sz_fire 13 = .ok (.ldc 88, 2) := by decide +kernel
theorem d_Sz_fire_15 : decode b_Sz_fire 15 = .ok (.invokestatic 45, 3) := by decide +kernel
theorem d_Sz_fire_18 : decode b_Sz_fire 18 = .ok (.iload_n 3, 1) := by decide +kernel
theorem d_Sz_fire_19 : decode b_Sz_fire 19 = .ok (.iconst 1, 1) := by decide +kernel
theorem d_Sz_fire_20 : decode b_Sz_fire 20 = .ok (.sipush 1000, 3) := by decide +kernel
theorem d_Sz_fire_23 : decode b_Sz_fire 23 = .ok (.invokestatic 45, 3) := by decide +kernel
theorem d_Sz_fire_26 : decode b_Sz_fire 26 = .ok (.iload 4, 2) := by decide +kernel
theorem d_Sz_fire_28 : decode b_Sz_fire 28 = .ok (.iconst 1, 1) := by decide +kernel
theorem d_Sz_fire_29 : decode b_Sz_fire 29 = .ok (.ldc 88, 2) := by decide +kernel
theorem d_Sz_fire_31 : decode b_Sz_fire 31 = .ok (.invokestatic 45, 3) := by decide +kernel
theorem d_Sz_fire_34 : decode b_Sz_fire 34 = .ok (.iload 5, 2) := by decide +kernel
theorem d_Sz_fire_36 : decode b_Sz_fire 36 = .ok (.iconst 0, 1) := by decide +kernel
theorem d_Sz_fire_37 : decode b_Sz_fire 37 = .ok (.sipush 1000, 3) := by decide +kernel
theorem d_Sz_fire_40 : decode b_Sz_fire 40 = .ok (.invokestatic 45, 3) := by decide +kernel
theorem d_Sz_fire_43 : decode b_Sz_fire 43 = .ok (.aload_n 0, 1) := by decide +kernel
theorem d_Sz_fire_44 : decode b_Sz_fire 44 = .ok (.getfield 89, 3) := by decide +kernel
theorem d_Sz_fire_47 : decode b_Sz_fire 47 = .ok (.iconst 5, 1) := by decide +kernel
theorem d_Sz_fire_48 : decode b_Sz_fire 48 = .ok (.invokestatic 53, 3) := by decide +kernel
theorem d_Sz_fire_51 : decode b_Sz_fire 51 = .ok (.aload_n 0, 1) := by decide +kernel
theorem d_Sz_fire_52 : decode b_Sz_fire 52 = .ok (.getfield 23, 3) := by decide +kernel
theorem d_Sz_fire_55 : decode b_Sz_fire 55 = .ok (.aload_n 0, 1) := by decide +kernel
theorem d_Sz_fire_56 : decode b_Sz_fire 56 = .ok (.getfield 89, 3) := by decide +kernel
theorem d_Sz_fire_59 : decode b_Sz_fire 59 = .ok (.new 21, 3) := by decide +kernel
theorem d_Sz_fire_62 : decode b_Sz_fire 62 = .ok (.dup, 1) := by decide +kernel
theorem d_Sz_fire_63 : decode b_Sz_fire 63 = .ok (.aload_n 0, 1) := by decide +kernel
theorem d_Sz_fire_64 : decode b_Sz_fire 64 = .ok (.getfield 11, 3) := by decide +kernel
theorem d_Sz_fire_67 : decode b_Sz_fire 67 = .ok (.iload_n 1, 1) := by decide +kernel
theorem d_Sz_fire_68 : decode b_Sz_fire 68 = .ok (.aaload, 1) := by decide +kernel
theorem d_Sz_fire_69 : decode b_Sz_fire 69 = .ok (.iload_n 2, 1) := by decide +kernel
theorem d_Sz_fire_70 : decode b_Sz_fire 70 = .ok (.iload_n 3, 1) := by decide +kernel
theorem d_Sz_fire_71 : decode b_Sz_fire 71 = .ok (.iload 4, 2) := by decide +kernel
theorem d_Sz_fire_73 : decode b_Sz_fire 73 = .ok (.iload 5, 2) := by decide +kernel
theorem d_Sz_fire_75 : decode b_Sz_fire 75 = .ok (.invokespecial 92, 3) := by decide +kernel
theorem d_Sz_fire_78 : decode b_Sz_fire 78 = .ok (.aastore, 1) := by decide +kernel
theorem d_Sz_fire_79 : decode b_Sz_fire 79 = .ok (.aload_n 0, 1) := by decide +kernel
theorem d_Sz_fire_80 : decode b_Sz_fire 80 = .ok (.dup, 1) := by decide +kernel
theorem d_Sz_fire_81 : decode b_Sz_fire 81 = .ok (.getfield 89, 3) := by decide +kernel
theorem d_Sz_fire_84 : decode b_Sz_fire 84 = .ok (.iconst 1, 1) := by decide +kernel
theorem d_Sz_fire_85 : decode b_Sz_fire 85 = .ok (.iadd, 1) := by decide +kernel
theorem d_Sz_fire_86 : decode b_Sz_fire 86 = .ok (.putfield 89, 3) := by decide +kernel
theorem d_Sz_fire_89 : decode b_Sz_fire 89 = .ok (.aload_n 0, 1) := by decide +kernel
theorem d_Sz_fire_90 : decode b_Sz_fire 90 = .ok (.getfield 89, 3) := by decide +kernel
theorem d_Sz_fire_93 : decode b_Sz_fire 93 = .ok (.iconst 1, 1) := by decide +kernel
theorem d_Sz_fire_94 : decode b_Sz_fire 94 = .ok (.isub, 1) := by decide +kernel
theorem d_Sz_fire_95 : decode b_Sz_fire 95 = .ok (.ireturn, 1) := by decide +kernel
theorem d_Sz_sprinkler_0 : decode b_Sz_sprinkler 0 = .ok (.iload_n 1, 1) := by decide +kernel
theorem d_Sz_sprinkler_1 : decode b_Sz_sprinkler 1 = .ok (.aload_n 0, 1) := by decide +kernel
theorem d_Sz_sprinkler_2 : decode b_Sz_sprinkler 2 = .ok (.getfield 49, 3) := by decide +kernel
theorem d_Sz_sprinkler_5 : decode b_Sz_sprinkler 5 = .ok (.invokestatic 59, 3) := by decide +kernel
theorem d_Sz_sprinkler_8 : decode b_Sz_sprinkler 8 = .ok (.iload_n 2, 1) := by decide +kernel
theorem d_Sz_sprinkler_9 : decode b_Sz_sprinkler 9 = .ok (.iconst 1, 1) := by decide +kernel
theorem d_Sz_sprinkler_10 : decode b_Sz_sprinkler 10 = .ok (.sipush 1000, 3) := by decide +kernel
theorem d_Sz_sprinkler_13 : decode b_Sz_sprinkler 13 = .ok (.invokestatic 45, 3) := by decide +kernel
theorem d_Sz_sprinkler_16 : decode b_Sz_sprinkler 16 = .ok (.aload_n 0, 1) := by decide +kernel
theorem d_Sz_sprinkler_17 : decode b_Sz_sprinkler 17 = .ok (.getfield 11, 3) := by decide +kernel
theorem d_Sz_sprinkler_20 : decode b_Sz_sprinkler 20 = .ok (.iload_n 1, 1) := by decide +kernel
theorem d_Sz_sprinkler_21 : decode b_Sz_sprinkler 21 = .ok (.aaload, 1) := by decide +kernel
theorem d_Sz_sprinkler_22 : decode b_Sz_sprinkler 22 = .ok (.getfield 95, 3) := by decide +kernel
theorem d_Sz_sprinkler_25 : decode b_Sz_sprinkler 25 = .ok (.iconst (-1), 1) := by decide +kernel
theorem d_Sz_sprinkler_26 : decode b_Sz_sprinkler 26 = .ok (.if_icmp .ne 7, 3) := by decide +kernel
theorem d_Sz_sprinkler_29 : decode b_Sz_sprinkler 29 = .ok (.iconst 1, 1) := by decide +kernel
theorem d_Sz_sprinkler_30 : decode b_Sz_sprinkler 30 = .ok (.goto 4, 3) := by decide +kernel
theorem d_Sz_sprinkler_33 : decode b_Sz_sprinkler 33 = .ok (.iconst 0, 1) := by decide +kernel
theorem d_Sz_sprinkler_34 : decode b_Sz_sprinkler 34 = .ok (.invokestatic 82, 3) := by decide +kernel
theorem d_Sz_sprinkler_37 : decode b_Sz_sprinkler 37 = .ok (.aload_n 0, 1) := by decide +kernel
theorem d_Sz_sprinkler_38 : decode b_Sz_sprinkler 38 = .ok (.getfield 11, 3) := by decide +kernel
theorem d_Sz_sprinkler_41 : decode b_Sz_sprinkler 41 = .ok (.iload_n 1, 1) := by decide +kernel
theorem d_Sz_sprinkler_42 : decode b_Sz_sprinkler 42 = .ok (.aaload, 1) := by decide +kernel
theorem d_Sz_sprinkler_43 : decode b_Sz_sprinkler 43 = .ok (.iload_n 2, 1) := by decide +kernel
theorem d_Sz_sprinkler_44 : decode b_Sz_sprinkler 44 = .ok (.putfield 95, 3) := by decide +kernel
theorem d_Sz_sprinkler_47 : decode b_Sz_sprinkler 47 = .ok (.return_, 1) := by decide +kernel
theorem d_Sz_fan_0 : decode b_Sz_fan 0 = .ok (.iload_n 1, 1) := by decide +kernel
theorem d_Sz_fan_1 : decode b_Sz_fan 1 = .ok (.aload_n 0, 1) := by decide +kernel
theorem d_Sz_fan_2 : decode b_Sz_fan 2 = .ok (.getfield 49, 3) := by decide +kernel
theorem d_Sz_fan_5 : decode b_Sz_fan 5 = .ok (.invokestatic 59, 3) := by decide +kernel
theorem d_Sz_fan_8 : decode b_Sz_fan 8 = .ok (.iload_n 2, 1) := by decide +kernel
theorem d_Sz_fan_9 : decode b_Sz_fan 9 = .ok (.aload_n 0, 1) := by decide +kernel
theorem d_Sz_fan_10 : decode b_Sz_fan 10 = .ok (.getfield 85, 3) := by decide +kernel
theorem d_Sz_fan_13 : decode b_Sz_fan 13 = .ok (.ldc 88, 2) := by decide +kernel
theorem d_Sz_fan_15 : decode b_Sz_fan 15 = .ok (.invokestatic 45, 3) := by decide +kernel
theorem d_Sz_fan_18 : decode b_Sz_fan 18 = .ok (.iload_n 3, 1) := by decide +kernel
theorem d_Sz_fan_19 : decode b_Sz_fan 19 = .ok (.iconst 1, 1) := by decide +kernel
theorem d_Sz_fan_20 : decode b_Sz_fan 20 = .ok (.ldc 88, 2) := by decide +kernel
theorem d_Sz_fan_22 : decode b_Sz_fan 22 = .ok (.invokestatic 45, 3) := by decide +kernel
theorem d_Sz_fan_25 : decode b_Sz_fan 25 = .ok (.aload_n 0, 1) := by decide +kernel
theorem d_Sz_fan_26 : decode b_Sz_fan 26 = .ok (.getfield 98, 3) := by decide +kernel
theorem d_Sz_fan_29 : decode b_Sz_fan 29 = .ok (.bipush 9, 2) := by decide +kernel
theorem d_Sz_fan_31 : decode b_Sz_fan 31 = .ok (.invokestatic 53, 3) := by decide +kernel
theorem d_Sz_fan_34 : decode b_Sz_fan 34 = .ok (.aload_n 0, 1) := by decide +kernel
theorem d_Sz_fan_35 : decode b_Sz_fan 35 = .ok (.getfield 29, 3) := by decide +kernel
theorem d_Sz_fan_38 : decode b_Sz_fan 38 = .ok (.aload_n 0, 1) := by decide +kernel
theorem d_Sz_fan_39 : decode b_Sz_fan 39 = .ok (.getfield 98, 3) := by decide +kernel
theorem d_Sz_fan_42 : decode b_Sz_fan 42 = .ok (.new 27, 3) := by decide +kernel
theorem d_Sz_fan_45 : decode b_Sz_fan 45 = .ok (.dup, 1) := by decide +kernel
theorem d_Sz_fan_46 : decode b_Sz_fan 46 = .ok (.aload_n 0, 1) := by decide +kernel
theorem d_Sz_fan_47 : decode b_Sz_fan 47 = .ok (.getfield 11, 3) := by decide +kernel
theorem d_Sz_fan_50 : decode b_Sz_fan 50 = .ok (.iload_n 1, 1) := by decide +kernel
theorem d_Sz_fan_51 : decode b_Sz_fan 51 = .ok (.aaload, 1) := by decide +kernel
theorem d_Sz_fan_52 : decode b_Sz_fan 52 = .ok (.iload_n 2, 1) := by decide +kernel
theorem d_Sz_fan_53 : decode b_Sz_fan 53 = .ok (.iload_n 3, 1) := by decide +kernel
theorem d_Sz_fan_54 : decode b_Sz_fan 54 = .ok (.invokespecial 101, 3) := by decide +kernel
theorem d_Sz_fan_57 : decode b_Sz_fan 57 = .ok (.aastore, 1) := by decide +kernel
theorem d_Sz_fan_58 : decode b_Sz_fan 58 = .ok (.aload_n 0, 1) := by decide +kernel
theorem d_Sz_fan_59 : decode b_Sz_fan 59 = .ok (.dup, 1) := by decide +kernel
theorem d_Sz_fan_60 : decode b_Sz_fan 60 = .ok (.getfield 98, 3) := by decide +kernel
theorem d_Sz_fan_63 : decode b_Sz_fan 63 = .ok (.iconst 1, 1) := by decide +kernel
theorem d_Sz_fan_64 : decode b_Sz_fan 64 = .ok (.iadd, 1) := by decide +kernel
theorem d_Sz_fan_65 : decode b_Sz_fan 65 = .ok (.putfield 98, 3) := by decide +kernel
theorem d_Sz_fan_68 : decode b_Sz_fan 68 = .ok (.aload_n 0, 1) := by decide +kernel
theorem d_Sz_fan_69 : decode b_Sz_fan 69 = .ok (.getfield 98, 3) := by decide +kernel
theorem d_Sz_fan_72 : decode b_Sz_fan 72 = .ok (.iconst 1, 1) := by decide +kernel
theorem d_Sz_fan_73 : decode b_Sz_fan 73 = .ok (.isub, 1) := by decide +kernel
theorem d_Sz_fan_74 : decode b_Sz_fan 74 = .ok (.ireturn, 1) := by decide +kernel
theorem d_Sz_steel_0 : decode b_Sz_steel 0 = .ok (.iload_n 1, 1) := by decide +kernel
theorem d_Sz_steel_1 : decode b_Sz_steel 1 = .ok (.aload_n 0, 1) := by decide +kernel
theorem d_Sz_steel_2 : decode b_Sz_steel 2 = .ok (.getfield 49, 3) := by decide +kernel
theorem d_Sz_steel_5 : decode b_Sz_steel 5 = .ok (.invokestatic 59, 3) := by decide +kernel
theorem d_Sz_steel_8 : decode b_Sz_steel 8 = .ok (.iload_n 2, 1) := by decide +kernel
theorem d_Sz_steel_9 : decode b_Sz_steel 9 = .ok (.iconst 1, 1) := by decide +kernel
theorem d_Sz_steel_10 : decode b_Sz_steel 10 = .ok (.sipush 1000, 3) := by decide +kernel
theorem d_Sz_steel_13 : decode b_Sz_steel 13 = .ok (.invokestatic 45, 3) := by decide +kernel
theorem d_Sz_steel_16 : decode b_Sz_steel 16 = .ok (.aload_n 0, 1) := by decide +kernel
theorem d_Sz_steel_17 : decode b_Sz_steel 17 = .ok (.getfield 104, 3) := by decide +kernel
theorem d_Sz_steel_20 : decode b_Sz_steel 20 = .ok (.bipush 9, 2) := by decide +kernel
theorem d_Sz_steel_22 : decode b_Sz_steel 22 = .ok (.invokestatic 53, 3) := by decide +kernel
theorem d_Sz_steel_25 : decode b_Sz_steel 25 = .ok (.aload_n 0, 1) := by decide +kernel
theorem d_Sz_steel_26 : decode b_Sz_steel 26 = .ok (.getfield 35, 3) := by decide +kernel
theorem d_Sz_steel_29 : decode b_Sz_steel 29 = .ok (.aload_n 0, 1) := by decide +kernel
theorem d_Sz_steel_30 : decode b_Sz_steel 30 = .ok (.getfield 104, 3) := by decide +kernel
theorem d_Sz_steel_33 : decode b_Sz_steel 33 = .ok (.new 33, 3) := by decide +kernel
theorem d_Sz_steel_36 : decode b_Sz_steel 36 = .ok (.dup, 1) := by decide +kernel
theorem d_Sz_steel_37 : decode b_Sz_steel 37 = .ok (.aload_n 0, 1) := by decide +kernel
theorem d_Sz_steel_38 : decode b_Sz_steel 38 = .ok (.getfield 11, 3) := by decide +kernel
theorem d_Sz_steel_41 : decode b_Sz_steel 41 = .ok (.iload_n 1, 1) := by decide +kernel
theorem d_Sz_steel_42 : decode b_Sz_steel 42 = .ok (.aaload, 1) := by decide +kernel
theorem d_Sz_steel_43 : decode b_Sz_steel 43 = .ok (.iload_n 2, 1) := by decide +kernel
theorem d_Sz_steel_44 : decode b_Sz_steel 44 = .ok (.invokespecial 107, 3) := by decide +kernel
theorem d_Sz_steel_47 : decode b_Sz_steel 47 = .ok (.aastore, 1) := by decide +kernel
theorem d_Sz_steel_48 : decode b_Sz_steel 48 = .ok (.aload_n 0, 1) := by decide +kernel
theorem d_Sz_steel_49 : decode b_Sz_steel 49 = .ok (.dup, 1) := by decide +kernel
theorem d_Sz_steel_50 : decode b_Sz_steel 50 = .ok (.getfield 104, 3) := by decide +kernel
theorem d_Sz_steel_53 : decode b_Sz_steel 53 = .ok (.iconst 1, 1) := by decide +kernel
theorem d_Sz_steel_54 : decode b_Sz_steel 54 = .ok (.iadd, 1) := by decide +kernel
theorem d_Sz_steel_55 : decode b_Sz_steel 55 = .ok (.putfield 104, 3) := by decide +kernel
theorem d_Sz_steel_58 : decode b_Sz_steel 58 = .ok (.aload_n 0, 1) := by decide +kernel
theorem d_Sz_steel_59 : decode b_Sz_steel 59 = .ok (.getfield 104, 3) := by decide +kernel
theorem d_Sz_steel_62 : decode b_Sz_steel 62 = .ok (.iconst 1, 1) := by decide +kernel
theorem d_Sz_steel_63 : decode b_Sz_steel 63 = .ok (.isub, 1) := by decide +kernel
theorem d_Sz_steel_64 : decode b_Sz_steel 64 = .ok (.ireturn, 1) := by decide +kernel
theorem d_Sz_person_0 : decode b_Sz_person 0 = .ok (.aload_n 0, 1) := by decide +kernel
theorem d_Sz_person_1 : decode b_Sz_person 1 = .ok (.iload_n 1, 1) := by decide +kernel
theorem d_Sz_person_2 : decode b_Sz_person 2 = .ok (.invokevirtual 62, 3) := by decide +kernel
theorem d_Sz_person_5 : decode b_Sz_person 5 = .ok (.aload_n 0, 1) := by decide +kernel
theorem d_Sz_person_6 : decode b_Sz_person 6 = .ok (.getfield 110, 3) := by decide +kernel
theorem d_Sz_person_9 : decode b_Sz_person 9 = .ok (.bipush 9, 2) := by decide +kernel
theorem d_Sz_person_11 : decode b_Sz_person 11 = .ok (.invokestatic 53, 3) := by decide +kernel
theorem d_Sz_person_14 : decode b_Sz_person 14 = .ok (.aload_n 0, 1) := by decide +kernel
theorem d_Sz_person_15 : decode b_Sz_person 15 = .ok (.getfield 41, 3) := by decide +kernel
theorem d_Sz_person_18 : decode b_Sz_person 18 = .ok (.aload_n 0, 1) := by decide +kernel
theorem d_Sz_person_19 : decode b_Sz_person 19 = .ok (.getfield 110, 3) := by decide +kernel
theorem d_Sz_person_22 : decode b_Sz_person 22 = .ok (.new 39, 3) := by decide +kernel
theorem d_Sz_person_25 : decode b_Sz_person 25 = .ok (.dup, 1) := by decide +kernel
theorem d_Sz_person_26 : decode b_Sz_person 26 = .ok (.iload_n 1, 1) := by decide +kernel
theorem d_Sz_person_27 : decode b_Sz_person 27 = .ok (.invokespecial 113, 3) := by decide +kernel
theorem d_Sz_person_30 : decode b_Sz_person 30 = .ok (.aastore, 1) := by decide +kernel
theorem d_Sz_person_31 : decode b_Sz_person 31 = .ok (.aload_n 0, 1) := by decide +kernel
theorem d_Sz_person_32 : decode b_Sz_person 32 = .ok (.dup, 1) := by decide +kernel
theorem d_Sz_person_33 : decode b_Sz_person 33 = .ok (.getfield 110, 3) := by decide +kernel
theorem d_Sz_person_36 : decode b_Sz_person 36 = .ok (.iconst 1, 1) := by decide +kernel
theorem d_Sz_person_37 : decode b_Sz_person 37 = .ok (.iadd, 1) := by decide +kernel
theorem d_Sz_person_38 : decode b_Sz_person 38 = .ok (.putfield 110, 3) := by decide +kernel
theorem d_Sz_person_41 : decode b_Sz_person 41 = .ok (.aload_n 0, 1) := by decide +kernel
theorem d_Sz_person_42 : decode b_Sz_person 42 = .ok (.getfield 110, 3) := by decide +kernel
theorem d_Sz_person_45 : decode b_Sz_person 45 = .ok (.iconst 1, 1) := by decide +kernel
theorem d_Sz_person_46 : decode b_Sz_person 46 = .ok (.isub, 1) := by decide +kernel
theorem d_Sz_person_47 : decode b_Sz_person 47 = .ok (.ireturn, 1) := by decide +kernel
theorem d_Sz_go_0 : decode b_Sz_go 0 = .ok (.iload_n 1, 1) := by decide +kernel
theorem d_Sz_go_1 : decode b_Sz_go 1 = .ok (.aload_n 0, 1) := by decide +kernel
theorem d_Sz_go_2 : decode b_Sz_go 2 = .ok (.getfield 110, 3) := by decide +kernel
theorem d_Sz_go_5 : decode b_Sz_go 5 = .ok (.invokestatic 59, 3) := by decide +kernel
theorem d_Sz_go_8 : decode b_Sz_go 8 = .ok (.iload_n 2, 1) := by decide +kernel
theorem d_Sz_go_9 : decode b_Sz_go 9 = .ok (.aload_n 0, 1) := by decide +kernel
theorem d_Sz_go_10 : decode b_Sz_go 10 = .ok (.getfield 85, 3) := by decide +kernel
theorem d_Sz_go_13 : decode b_Sz_go 13 = .ok (.ldc 88, 2) := by decide +kernel
theorem d_Sz_go_15 : decode b_Sz_go 15 = .ok (.invokestatic 45, 3) := by decide +kernel
theorem d_Sz_go_18 : decode b_Sz_go 18 = .ok (.aload_n 0, 1) := by decide +kernel
theorem d_Sz_go_19 : decode b_Sz_go 19 = .ok (.iload_n 3, 1) := by decide +kernel
theorem d_Sz_go_20 : decode b_Sz_go 20 = .ok (.invokevirtual 62, 3) := by decide +kernel
theorem d_Sz_go_23 : decode b_Sz_go 23 = .ok (.aload_n 0, 1) := by decide +kernel
theorem d_Sz_go_24 : decode b_Sz_go 24 = .ok (.getfield 41, 3) := by decide +kernel
theorem d_Sz_go_27 : decode b_Sz_go 27 = .ok (.iload_n 1, 1) := by decide +kernel
theorem d_Sz_go_28 : decode b_Sz_go 28 = .ok (.aaload, 1) := by decide +kernel
theorem d_Sz_go_29 : decode b_Sz_go 29 = .ok (.iload_n 2, 1) := by decide +kernel
theorem d_Sz_go_30 : decode b_Sz_go 30 = .ok (.iload_n 3, 1) := by decide +kernel
theorem d_Sz_go_31 : decode b_Sz_go 31 = .ok (.invokevirtual 115, 3) := by decide +kernel
theorem d_Sz_go_34 : decode b_Sz_go 34 = .ok (.invokestatic 82, 3) := by decide +kernel
theorem d_Sz_go_37 : decode b_Sz_go 37 = .ok (.return_, 1) := by decide +kernel
theorem d_Sz_run_0 : decode b_Sz_run 0 = .ok (.iload_n 1, 1) := by decide +kernel
theorem d_Sz_run_1 : decode b_Sz_run 1 = .ok (.iconst 1, 1) := by decide +kernel
theorem d_Sz_run_2 : decode b_Sz_run 2 = .ok (.sipush 500, 3) := by decide +kernel
theorem d_Sz_run_5 : decode b_Sz_run 5 = .ok (.invokestatic 45, 3) := by decide +kernel
theorem d_Sz_run_8 : decode b_Sz_run 8 = .ok (.aload_n 0, 1) := by decide +kernel
theorem d_Sz_run_9 : decode b_Sz_run 9 = .ok (.getfield 85, 3) := by decide +kernel
theorem d_Sz_run_12 : decode b_Sz_run 12 = .ok (.iload_n 1, 1) := by decide +kernel
theorem d_Sz_run_13 : decode b_Sz_run 13 = .ok (.iadd, 1) := by decide +kernel
theorem d_Sz_run_14 : decode b_Sz_run 14 = .ok (.ldc 88, 2) := by decide +kernel
theorem d_Sz_run_16 : decode b_Sz_run 16 = .ok (.if_icmp .gt 7, 3) := by decide +kernel
theorem d_Sz_run_19 : decode b_Sz_run 19 = .ok (.iconst 1, 1) := by decide +kernel
theorem d_Sz_run_20 : decode b_Sz_run 20 = .ok (.goto 4, 3) := by decide +kernel
theorem d_Sz_run_23 : decode b_Sz_run 23 = .ok (.iconst 0, 1) := by decide +kernel
theorem d_Sz_run_24 : decode b_Sz_run 24 = .ok (.invokestatic 82, 3) := by decide +kernel
theorem d_Sz_run_27 : decode b_Sz_run 27 = .ok (.iconst 0, 1) := by decide +kernel
theorem d_Sz_run_28 : decode b_Sz_run 28 = .ok (.istore_n 2, 1) := by decide +kernel
theorem d_Sz_run_29 : decode b_Sz_run 29 = .ok (.iload_n 2, 1) := by decide +kernel
theorem d_Sz_run_30 : decode b_Sz_run 30 = .ok (.iload_n 1, 1) := by decide +kernel
theorem d_Sz_run_31 : decode b_Sz_run 31 = .ok (.if_icmp .ge 13, 3) := by decide +kernel
theorem d_Sz_run_34 : decode b_Sz_run 34 = .ok (.aload_n 0, 1) := by decide +kernel
theorem d_Sz_run_35 : decode b_Sz_run 35 = .ok (.invokevirtual 119, 3) := by decide +kernel
theorem d_Sz_run_38 : decode b_Sz_run 38 = .ok (.iinc 2 1, 3) := by decide +kernel
theorem d_Sz_run_41 : decode b_Sz_run 41 = .ok (.goto (-12), 3) := by decide +kernel
theorem d_Sz_run_44 : decode b_Sz_run 44 = .ok (.aload_n 0, 1) := by decide +kernel
theorem d_Sz_run_45 : decode b_Sz_run 45 = .ok (.getfield 85, 3) := by decide +kernel
theorem d_Sz_run_48 : decode b_Sz_run 48 = .ok (.ireturn, 1) := by decide +kernel
theorem d_Sz_passSecond_0 : decode b_Sz_passSecond 0 = .ok (.aload_n 0, 1) := by decide +kernel
theorem d_Sz_passSecond_1 : decode b_Sz_passSecond 1 = .ok (.invokevirtual 199, 3) := by decide +kernel
theorem d_Sz_passSecond_4 : decode b_Sz_passSecond 4 = .ok (.aload_n 0, 1) := by decide +kernel
theorem d_Sz_passSecond_5 : decode b_Sz_passSecond 5 = .ok (.invokevirtual 202, 3) := by decide +kernel
theorem d_Sz_passSecond_8 : decode b_Sz_passSecond 8 = .ok (.aload_n 0, 1) := by decide +kernel
theorem d_Sz_passSecond_9 : decode b_Sz_passSecond 9 = .ok (.invokevirtual 205, 3) := by decide +kernel
theorem d_Sz_passSecond_12 : decode b_Sz_passSecond 12 = .ok (.aload_n 0, 1) := by decide +kernel
theorem d_Sz_passSecond_13 : decode b_Sz_passSecond 13 = .ok (.invokevirtual 208, 3) := by decide +kernel
theorem d_Sz_passSecond_16 : decode b_Sz_passSecond 16 = .ok (.aload_n 0, 1) := by decide +kernel
theorem d_Sz_passSecond_17 : decode b_Sz_passSecond 17 = .ok (.invokevirtual 211, 3) := by decide +kernel
theorem d_Sz_passSecond_20 : decode b_Sz_passSecond 20 = .ok (.aload_n 0, 1) := by decide +kernel
theorem d_Sz_passSecond_21 : decode b_Sz_passSecond 21 = .ok (.invokevirtual 214, 3) := by decide +kernel
theorem d_Sz_passSecond_24 : decode b_Sz_passSecond 24 = .ok (.aload_n 0, 1) := by decide +kernel
theorem d_Sz_passSecond_25 : decode b_Sz_passSecond 25 = .ok (.invokevirtual 217, 3) := by decide +kernel
theorem d_Sz_passSecond_28 : decode b_Sz_passSecond 28 = .ok (.aload_n 0, 1) := by decide +kernel
theorem d_Sz_passSecond_29 : decode b_Sz_passSecond 29 = .ok (.dup, 1) := by decide +kernel
theorem d_Sz_passSecond_30 : decode b_Sz_passSecond 30 = .ok (.getfield 85, 3) := by decide +kernel
theorem d_Sz_passSecond_33 : decode b_Sz_passSecond 33 = .ok (.iconst 1, 1) := by decide +kernel
theorem d_Sz_passSecond_34 : decode b_Sz_passSecond 34 = .ok (.iadd, 1) := by decide +kernel
theorem d_Sz_passSecond_35 : decode b_Sz_passSecond 35 = .ok (.putfield 85, 3) := by decide +kernel
theorem d_Sz_passSecond_38 : decode b_Sz_passSecond 38 = .ok (.return_, 1) := by decide +kernel
theorem d_Sz_burnFires_0 : decode b_Sz_burnFires 0 = .ok (.iconst 0, 1) := by decide +kernel
theorem d_Sz_burnFires_1 : decode b_Sz_burnFires 1 = .ok (.istore_n 1, 1) := by decide +kernel
theorem d_Sz_burnFires_2 : decode b_Sz_burnFires 2 = .ok (.iload_n 1, 1) := by decide +kernel
theorem d_Sz_burnFires_3 : decode b_Sz_burnFires 3 = .ok (.aload_n 0, 1) := by decide +kernel
theorem d_Sz_burnFires_4 : decode b_Sz_burnFires 4 = .ok (.getfield 89, 3) := by decide +kernel
theorem d_Sz_burnFires_7 : decode b_Sz_burnFires 7 = .ok (.if_icmp .ge 31, 3) := by decide +kernel
theorem d_Sz_burnFires_10 : decode b_Sz_burnFires 10 = .ok (.aload_n 0, 1) := by decide +kernel
theorem d_Sz_burnFires_11 : decode b_Sz_burnFires 11 = .ok (.dup, 1) := by decide +kernel
theorem d_Sz_burnFires_12 : decode b_Sz_burnFires 12 = .ok (.getfield 168, 3) := by decide +kernel
theorem d_Sz_burnFires_15 : decode b_Sz_burnFires 15 = .ok (.aload_n 0, 1) := by decide +kernel
theorem d_Sz_burnFires_16 : decode b_Sz_burnFires 16 = .ok (.getfield 23, 3) := by decide +kernel
theorem d_Sz_burnFires_19 : decode b_Sz_burnFires 19 = .ok (.iload_n 1, 1) := by decide +kernel
theorem d_Sz_burnFires_20 : decode b_Sz_burnFires 20 = .ok (.aaload, 1) := by decide +kernel
theorem d_Sz_burnFires_21 : decode b_Sz_burnFires 21 = .ok (.aload_n 0, 1) := by decide +kernel
theorem d_Sz_burnFires_22 : decode b_Sz_burnFires 22 = .ok (.getfield 85, 3) := by decide +kernel
theorem d_Sz_burnFires_25 : decode b_Sz_burnFires 25 = .ok (.invokevirtual 220, 3) := by decide +kernel
theorem d_Sz_burnFires_28 : decode b_Sz_burnFires 28 = .ok (.ladd, 1) := by decide +kernel
theorem d_Sz_burnFires_29 : decode b_Sz_burnFires 29 = .ok (.putfield 168, 3) := by decide +kernel
theorem d_Sz_burnFires_32 : decode b_Sz_burnFires 32 = .ok (.iinc 1 1, 3) := by decide +kernel
theorem d_Sz_burnFires_35 : decode b_Sz_burnFires 35 = .ok (.goto (-33), 3) := by decide +kernel
theorem d_Sz_burnFires_38 : decode b_Sz_burnFires 38 = .ok (.return_, 1) := by decide +kernel
theorem d_Sz_flowThroughOpenings_0 : decode b_Sz_flowThroughOpenings 0 = .ok (.iconst 0, 1) := by decide +kernel
theorem d_Sz_flowThroughOpenings_1 : decode b_Sz_flowThroughOpenings 1 = .ok (.istore_n 1, 1) := by decide +kernel
theorem d_Sz_flowThroughOpenings_2 : decode b_Sz_flowThroughOpenings 2 = .ok (.iload_n 1, 1) := by decide +kernel
theorem d_Sz_flowThroughOpenings_3 : decode b_Sz_flowThroughOpenings 3 = .ok (.aload_n 0, 1) := by decide +kernel
theorem d_Sz_flowThroughOpenings_4 : decode b_Sz_flowThroughOpenings 4 = .ok (.getfield 73, 3) := by decide +kernel
theorem d_Sz_flowThroughOpenings_7 : decode b_Sz_flowThroughOpenings 7 = .ok (.if_icmp .ge 18, 3) := by decide +kernel
theorem d_Sz_flowThroughOpenings_10 : decode b_Sz_flowThroughOpenings 10 = .ok (.aload_n 0, 1) := by decide +kernel
theorem d_Sz_flowThroughOpenings_11 : decode b_Sz_flowThroughOpenings 11 = .ok (.getfield 17, 3) := by decide +kernel
theorem d_Sz_flowThroughOpenings_14 : decode b_Sz_flowThroughOpenings 14 = .ok (.iload_n 1, 1) := by decide +kernel
theorem d_Sz_flowThroughOpenings_15 : decode b_Sz_flowThroughOpenings 15 = .ok (.aaload, 1) := by decide +kernel
theorem d_Sz_flowThroughOpenings_16 : decode b_Sz_flowThroughOpenings 16 = .ok (.invokevirtual 224, 3) := by decide +kernel
theorem d_Sz_flowThroughOpenings_19 : decode b_Sz_flowThroughOpenings 19 = .ok (.iinc 1 1, 3) := by decide +kernel
theorem d_Sz_flowThroughOpenings_22 : decode b_Sz_flowThroughOpenings 22 = .ok (.goto (-20), 3) := by decide +kernel
theorem d_Sz_flowThroughOpenings_25 : decode b_Sz_flowThroughOpenings 25 = .ok (.iconst 0, 1) := by decide +kernel
theorem d_Sz_flowThroughOpenings_26 : decode b_Sz_flowThroughOpenings 26 = .ok (.istore_n 1, 1) := by decide +kernel
theorem d_Sz_flowThroughOpenings_27 : decode b_Sz_flowThroughOpenings 27 = .ok (.iload_n 1, 1) := by decide +kernel
theorem d_Sz_flowThroughOpenings_28 : decode b_Sz_flowThroughOpenings 28 = .ok (.aload_n 0, 1) := by decide +kernel
theorem d_Sz_flowThroughOpenings_29 : decode b_Sz_flowThroughOpenings 29 = .ok (.getfield 73, 3) := by decide +kernel
theorem d_Sz_flowThroughOpenings_32 : decode b_Sz_flowThroughOpenings 32 = .ok (.if_icmp .ge 27, 3) := by decide +kernel
theorem d_Sz_flowThroughOpenings_35 : decode b_Sz_flowThroughOpenings 35 = .ok (.aload_n 0, 1) := by decide +kernel
theorem d_Sz_flowThroughOpenings_36 : decode b_Sz_flowThroughOpenings 36 = .ok (.dup, 1) := by decide +kernel
theorem d_Sz_flowThroughOpenings_37 : decode b_Sz_flowThroughOpenings 37 = .ok (.getfield 174, 3) := by decide +kernel
theorem d_Sz_flowThroughOpenings_40 : decode b_Sz_flowThroughOpenings 40 = .ok (.aload_n 0, 1) := by decide +kernel
theorem d_Sz_flowThroughOpenings_41 : decode b_Sz_flowThroughOpenings 41 = .ok (.getfield 17, 3) := by decide +kernel
theorem d_Sz_flowThroughOpenings_44 : decode b_Sz_flowThroughOpenings 44 = .ok (.iload_n 1, 1) := by decide +kernel
theorem d_Sz_flowThroughOpenings_45 : decode b_Sz_flowThroughOpenings 45 = .ok (.aaload, 1) := by decide +kernel
theorem d_Sz_flowThroughOpenings_46 : decode b_Sz_flowThroughOpenings 46 = .ok (.invokevirtual 227, 3) := by decide +kernel
theorem d_Sz_flowThroughOpenings_49 : decode b_Sz_flowThroughOpenings 49 = .ok (.ladd, 1) := by decide +kernel
theorem d_Sz_flowThroughOpenings_50 : decode b_Sz_flowThroughOpenings 50 = .ok (.putfield 174, 3) := by decide +kernel
theorem d_Sz_flowThroughOpenings_53 : decode b_Sz_flowThroughOpenings 53 = .ok (.iinc 1 1, 3) := by decide +kernel
theorem d_Sz_flowThroughOpenings_56 : decode b_Sz_flowThroughOpenings 56 = .ok (.goto (-29), 3) := by decide +kernel
theorem d_Sz_flowThroughOpenings_59 : decode b_Sz_flowThroughOpenings 59 = .ok (.return_, 1) := by decide +kernel
theorem d_Sz_blowFans_0 : decode b_Sz_blowFans 0 = .ok (.iconst 0, 1) := by decide +kernel
theorem d_Sz_blowFans_1 : decode b_Sz_blowFans 1 = .ok (.istore_n 1, 1) := by decide +kernel
theorem d_Sz_blowFans_2 : decode b_Sz_blowFans 2 = .ok (.iload_n 1, 1) := by decide +kernel
theorem d_Sz_blowFans_3 : decode b_Sz_blowFans 3 = .ok (.aload_n 0, 1) := by decide +kernel
theorem d_Sz_blowFans_4 : decode b_Sz_blowFans 4 = .ok (.getfield 98, 3) := by decide +kernel
theorem d_Sz_blowFans_7 : decode b_Sz_blowFans 7 = .ok (.if_icmp .ge 31, 3) := by decide +kernel
theorem d_Sz_blowFans_10 : decode b_Sz_blowFans 10 = .ok (.aload_n 0, 1) := by decide +kernel
theorem d_Sz_blowFans_11 : decode b_Sz_blowFans 11 = .ok (.dup, 1) := by decide +kernel
theorem d_Sz_blowFans_12 : decode b_Sz_blowFans 12 = .ok (.getfield 177, 3) := by decide +kernel
theorem d_Sz_blowFans_15 : decode b_Sz_blowFans 15 = .ok (.aload_n 0, 1) := by decide +kernel
theorem d_Sz_blowFans_16 : decode b_Sz_blowFans 16 = .ok (.getfield 29, 3) := by decide +kernel
theorem d_Sz_blowFans_19 : decode b_Sz_blowFans 19 = .ok (.iload_n 1, 1) := by decide +kernel
theorem d_Sz_blowFans_20 : decode b_Sz_blowFans 20 = .ok (.aaload, 1) := by decide +kernel
theorem d_Sz_blowFans_21 : decode b_Sz_blowFans 21 = .ok (.aload_n 0, 1) := by decide +kernel
theorem d_Sz_blowFans_22 : decode b_Sz_blowFans 22 = .ok (.getfield 85, 3) := by decide +kernel
theorem d_Sz_blowFans_25 : decode b_Sz_blowFans 25 = .ok (.invokevirtual 230, 3) := by decide +kernel
theorem d_Sz_blowFans_28 : decode b_Sz_blowFans 28 = .ok (.ladd, 1) := by decide +kernel
theorem d_Sz_blowFans_29 : decode b_Sz_blowFans 29 = .ok (.putfield 177, 3) := by decide +kernel
theorem d_Sz_blowFans_32 : decode b_Sz_blowFans 32 = .ok (.iinc 1 1, 3) := by decide +kernel
theorem d_Sz_blowFans_35 : decode b_Sz_blowFans 35 = .ok (.goto (-33), 3) := by decide +kernel
theorem d_Sz_blowFans_38 : decode b_Sz_blowFans 38 = .ok (.return_, 1) := by decide +kernel
theorem d_Sz_pressOutOfRooms_0 : decode b_Sz_pressOutOfRooms 0 = .ok (.iconst 0, 1) := by decide +kernel
theorem d_Sz_pressOutOfRooms_1 : decode b_Sz_pressOutOfRooms 1 = .ok (.istore_n 1, 1) := by decide +kernel
theorem d_Sz_pressOutOfRooms_2 : decode b_Sz_pressOutOfRooms 2 = .ok (.iload_n 1, 1) := by decide +kernel
theorem d_Sz_pressOutOfRooms_3 : decode b_Sz_pressOutOfRooms 3 = .ok (.aload_n 0, 1) := by decide +kernel
theorem d_Sz_pressOutOfRooms_4 : decode b_Sz_pressOutOfRooms 4 = .ok (.getfield 49, 3) := by decide +kernel
theorem d_Sz_pressOutOfRooms_7 : decode b_Sz_pressOutOfRooms 7 = .ok (.if_icmp .ge 27, 3) := by decide +kernel
theorem d_Sz_pressOutOfRooms_10 : decode b_Sz_pressOutOfRooms 10 = .ok (.aload_n 0, 1) := by decide +kernel
theorem d_Sz_pressOutOfRooms_11 : decode b_Sz_pressOutOfRooms 11 = .ok (.dup, 1) := by decide +kernel
theorem d_Sz_pressOutOfRooms_12 : decode b_Sz_pressOutOfRooms 12 = .ok (.getfield 180, 3) := by decide +kernel
theorem d_Sz_pressOutOfRooms_15 : decode b_Sz_pressOutOfRooms 15 = .ok (.aload_n 0, 1) := by decide +kernel
theorem d_Sz_pressOutOfRooms_16 : decode b_Sz_pressOutOfRooms 16 = .ok (.getfield 11, 3) := by decide +kernel
theorem d_Sz_pressOutOfRooms_19 : decode b_Sz_pressOutOfRooms 19 = .ok (.iload_n 1, 1) := by decide +kernel
theorem d_Sz_pressOutOfRooms_20 : decode b_Sz_pressOutOfRooms 20 = .ok (.aaload, 1) := by decide +kernel
theorem d_Sz_pressOutOfRooms_21 : decode b_Sz_pressOutOfRooms 21 = .ok (.invokevirtual 233, 3) := by decide +kernel
theorem d_Sz_pressOutOfRooms_24 : decode b_Sz_pressOutOfRooms 24 = .ok (.ladd, 1) := by decide +kernel
theorem d_Sz_pressOutOfRooms_25 : decode b_Sz_pressOutOfRooms 25 = .ok (.putfield 180, 3) := by decide +kernel
theorem d_Sz_pressOutOfRooms_28 : decode b_Sz_pressOutOfRooms 28 = .ok (.iinc 1 1, 3) := by decide +kernel
theorem d_Sz_pressOutOfRooms_31 : decode b_Sz_pressOutOfRooms 31 = .ok (.goto (-29), 3) := by decide +kernel
theorem d_Sz_pressOutOfRooms_34 : decode b_Sz_pressOutOfRooms 34 = .ok (.return_, 1) := by decide +kernel
theorem d_Sz_warmThings_0 : decode b_Sz_warmThings 0 = .ok (.iconst 0, 1) := by decide +kernel
theorem d_Sz_warmThings_1 : decode b_Sz_warmThings 1 = .ok (.istore_n 1, 1) := by decide +kernel
theorem d_Sz_warmThings_2 : decode b_Sz_warmThings 2 = .ok (.iload_n 1, 1) := by decide +kernel
theorem d_Sz_warmThings_3 : decode b_Sz_warmThings 3 = .ok (.aload_n 0, 1) := by decide +kernel
theorem d_Sz_warmThings_4 : decode b_Sz_warmThings 4 = .ok (.getfield 49, 3) := by decide +kernel
theorem d_Sz_warmThings_7 : decode b_Sz_warmThings 7 = .ok (.if_icmp .ge 18, 3) := by decide +kernel
theorem d_Sz_warmThings_10 : decode b_Sz_warmThings 10 = .ok (.aload_n 0, 1) := by decide +kernel
theorem d_Sz_warmThings_11 : decode b_Sz_warmThings 11 = .ok (.getfield 11, 3) := by decide +kernel
theorem d_Sz_warmThings_14 : decode b_Sz_warmThings 14 = .ok (.iload_n 1, 1) := by decide +kernel
theorem d_Sz_warmThings_15 : decode b_Sz_warmThings 15 = .ok (.aaload, 1) := by decide +kernel
theorem d_Sz_warmThings_16 : decode b_Sz_warmThings 16 = .ok (.invokevirtual 236, 3) := by decide +kernel
theorem d_Sz_warmThings_19 : decode b_Sz_warmThings 19 = .ok (.iinc 1 1, 3) := by decide +kernel
theorem d_Sz_warmThings_22 : decode b_Sz_warmThings 22 = .ok (.goto (-20), 3) := by decide +kernel
theorem d_Sz_warmThings_25 : decode b_Sz_warmThings 25 = .ok (.iconst 0, 1) := by decide +kernel
theorem d_Sz_warmThings_26 : decode b_Sz_warmThings 26 = .ok (.istore_n 1, 1) := by decide +kernel
theorem d_Sz_warmThings_27 : decode b_Sz_warmThings 27 = .ok (.iload_n 1, 1) := by decide +kernel
theorem d_Sz_warmThings_28 : decode b_Sz_warmThings 28 = .ok (.aload_n 0, 1) := by decide +kernel
theorem d_Sz_warmThings_29 : decode b_Sz_warmThings 29 = .ok (.getfield 73, 3) := by decide +kernel
theorem d_Sz_warmThings_32 : decode b_Sz_warmThings 32 = .ok (.if_icmp .ge 18, 3) := by decide +kernel
theorem d_Sz_warmThings_35 : decode b_Sz_warmThings 35 = .ok (.aload_n 0, 1) := by decide +kernel
theorem d_Sz_warmThings_36 : decode b_Sz_warmThings 36 = .ok (.getfield 17, 3) := by decide +kernel
theorem d_Sz_warmThings_39 : decode b_Sz_warmThings 39 = .ok (.iload_n 1, 1) := by decide +kernel
theorem d_Sz_warmThings_40 : decode b_Sz_warmThings 40 = .ok (.aaload, 1) := by decide +kernel
theorem d_Sz_warmThings_41 : decode b_Sz_warmThings 41 = .ok (.invokevirtual 239, 3) := by decide +kernel
theorem d_Sz_warmThings_44 : decode b_Sz_warmThings 44 = .ok (.iinc 1 1, 3) := by decide +kernel
theorem d_Sz_warmThings_47 : decode b_Sz_warmThings 47 = .ok (.goto (-20), 3) := by decide +kernel
theorem d_Sz_warmThings_50 : decode b_Sz_warmThings 50 = .ok (.iconst 0, 1) := by decide +kernel
theorem d_Sz_warmThings_51 : decode b_Sz_warmThings 51 = .ok (.istore_n 1, 1) := by decide +kernel
theorem d_Sz_warmThings_52 : decode b_Sz_warmThings 52 = .ok (.iload_n 1, 1) := by decide +kernel
theorem d_Sz_warmThings_53 : decode b_Sz_warmThings 53 = .ok (.aload_n 0, 1) := by decide +kernel
theorem d_Sz_warmThings_54 : decode b_Sz_warmThings 54 = .ok (.getfield 104, 3) := by decide +kernel
theorem d_Sz_warmThings_57 : decode b_Sz_warmThings 57 = .ok (.if_icmp .ge 18, 3) := by decide +kernel
theorem d_Sz_warmThings_60 : decode b_Sz_warmThings 60 = .ok (.aload_n 0, 1) := by decide +kernel
theorem d_Sz_warmThings_61 : decode b_Sz_warmThings 61 = .ok (.getfield 35, 3) := by decide +kernel
theorem d_Sz_warmThings_64 : decode b_Sz_warmThings 64 = .ok (.iload_n 1, 1) := by decide +kernel
theorem d_Sz_warmThings_65 : decode b_Sz_warmThings 65 = .ok (.aaload, 1) := by decide +kernel
theorem d_Sz_warmThings_66 : decode b_Sz_warmThings 66 = .ok (.invokevirtual 242, 3) := by decide +kernel
theorem d_Sz_warmThings_69 : decode b_Sz_warmThings 69 = .ok (.iinc 1 1, 3) := by decide +kernel
theorem d_Sz_warmThings_72 : decode b_Sz_warmThings 72 = .ok (.goto (-20), 3) := by decide +kernel
theorem d_Sz_warmThings_75 : decode b_Sz_warmThings 75 = .ok (.return_, 1) := by decide +kernel
theorem d_Sz_movePersons_0 : decode b_Sz_movePersons 0 = .ok (.iconst 0, 1) := by decide +kernel
theorem d_Sz_movePersons_1 : decode b_Sz_movePersons 1 = .ok (.istore_n 1, 1) := by decide +kernel
theorem d_Sz_movePersons_2 : decode b_Sz_movePersons 2 = .ok (.iload_n 1, 1) := by decide +kernel
theorem d_Sz_movePersons_3 : decode b_Sz_movePersons 3 = .ok (.aload_n 0, 1) := by decide +kernel
theorem d_Sz_movePersons_4 : decode b_Sz_movePersons 4 = .ok (.getfield 110, 3) := by decide +kernel
theorem d_Sz_movePersons_7 : decode b_Sz_movePersons 7 = .ok (.if_icmp .ge 48, 3) := by decide +kernel
theorem d_Sz_movePersons_10 : decode b_Sz_movePersons 10 = .ok (.aload_n 0, 1) := by decide +kernel
theorem d_Sz_movePersons_11 : decode b_Sz_movePersons 11 = .ok (.getfield 41, 3) := by decide +kernel
theorem d_Sz_movePersons_14 : decode b_Sz_movePersons 14 = .ok (.iload_n 1, 1) := by decide +kernel
theorem d_Sz_movePersons_15 : decode b_Sz_movePersons 15 = .ok (.aaload, 1) := by decide +kernel
theorem d_Sz_movePersons_16 : decode b_Sz_movePersons 16 = .ok (.astore_n 2, 1) := by decide +kernel
theorem d_Sz_movePersons_17 : decode b_Sz_movePersons 17 = .ok (.aload_n 2, 1) := by decide +kernel
theorem d_Sz_movePersons_18 : decode b_Sz_movePersons 18 = .ok (.aload_n 0, 1) := by decide +kernel
theorem d_Sz_movePersons_19 : decode b_Sz_movePersons 19 = .ok (.getfield 85, 3) := by decide +kernel
theorem d_Sz_movePersons_22 : decode b_Sz_movePersons 22 = .ok (.invokevirtual 245, 3) := by decide +kernel
theorem d_Sz_movePersons_25 : decode b_Sz_movePersons 25 = .ok (.aload_n 0, 1) := by decide +kernel
theorem d_Sz_movePersons_26 : decode b_Sz_movePersons 26 = .ok (.aload_n 2, 1) := by decide +kernel
theorem d_Sz_movePersons_27 : decode b_Sz_movePersons 27 = .ok (.getfield 156, 3) := by decide +kernel
theorem d_Sz_movePersons_30 : decode b_Sz_movePersons 30 = .ok (.invokevirtual 195, 3) := by decide +kernel
theorem d_Sz_movePersons_33 : decode b_Sz_movePersons 33 = .ok (.ifCond .eq 16, 3) := by decide +kernel
theorem d_Sz_movePersons_36 : decode b_Sz_movePersons 36 = .ok (.aload_n 2, 1) := by decide +kernel
theorem d_Sz_movePersons_37 : decode b_Sz_movePersons 37 = .ok (.aload_n 0, 1) := by decide +kernel
theorem d_Sz_movePersons_38 : decode b_Sz_movePersons 38 = .ok (.getfield 11, 3) := by decide +kernel
theorem d_Sz_movePersons_41 : decode b_Sz_movePersons 41 = .ok (.aload_n 2, 1) := by decide +kernel
theorem d_Sz_movePersons_42 : decode b_Sz_movePersons 42 = .ok (.getfield 156, 3) := by decide +kernel
theorem d_Sz_movePersons_45 : decode b_Sz_movePersons 45 = .ok (.aaload, 1) := by decide +kernel
theorem d_Sz_movePersons_46 : decode b_Sz_movePersons 46 = .ok (.invokevirtual 248, 3) := by decide +kernel
theorem d_Sz_movePersons_49 : decode b_Sz_movePersons 49 = .ok (.iinc 1 1, 3) := by decide +kernel
theorem d_Sz_movePersons_52 : decode b_Sz_movePersons 52 = .ok (.goto (-50), 3) := by decide +kernel
theorem d_Sz_movePersons_55 : decode b_Sz_movePersons 55 = .ok (.return_, 1) := by decide +kernel
theorem d_Sz_noteLowRooms_0 : decode b_Sz_noteLowRooms 0 = .ok (.iconst 0, 1) := by decide +kernel
theorem d_Sz_noteLowRooms_1 : decode b_Sz_noteLowRooms 1 = .ok (.istore_n 1, 1) := by decide +kernel
theorem d_Sz_noteLowRooms_2 : decode b_Sz_noteLowRooms 2 = .ok (.iload_n 1, 1) := by decide +kernel
theorem d_Sz_noteLowRooms_3 : decode b_Sz_noteLowRooms 3 = .ok (.aload_n 0, 1) := by decide +kernel
theorem d_Sz_noteLowRooms_4 : decode b_Sz_noteLowRooms 4 = .ok (.getfield 49, 3) := by decide +kernel
theorem d_Sz_noteLowRooms_7 : decode b_Sz_noteLowRooms 7 = .ok (.if_icmp .ge 22, 3) := by decide +kernel
theorem d_Sz_noteLowRooms_10 : decode b_Sz_noteLowRooms 10 = .ok (.aload_n 0, 1) := by decide +kernel
theorem d_Sz_noteLowRooms_11 : decode b_Sz_noteLowRooms 11 = .ok (.getfield 11, 3) := by decide +kernel
theorem d_Sz_noteLowRooms_14 : decode b_Sz_noteLowRooms 14 = .ok (.iload_n 1, 1) := by decide +kernel
theorem d_Sz_noteLowRooms_15 : decode b_Sz_noteLowRooms 15 = .ok (.aaload, 1) := by decide +kernel
theorem d_Sz_noteLowRooms_16 : decode b_Sz_noteLowRooms 16 = .ok (.aload_n 0, 1) := by decide +kernel
theorem d_Sz_noteLowRooms_17 : decode b_Sz_noteLowRooms 17 = .ok (.getfield 85, 3) := by decide +kernel
theorem d_Sz_noteLowRooms_20 : decode b_Sz_noteLowRooms 20 = .ok (.invokevirtual 252, 3) := by decide +kernel
theorem d_Sz_noteLowRooms_23 : decode b_Sz_noteLowRooms 23 = .ok (.iinc 1 1, 3) := by decide +kernel
theorem d_Sz_noteLowRooms_26 : decode b_Sz_noteLowRooms 26 = .ok (.goto (-24), 3) := by decide +kernel
theorem d_Sz_noteLowRooms_29 : decode b_Sz_noteLowRooms 29 = .ok (.return_, 1) := by decide +kernel
theorem d_Sz_roomAt_0 : decode b_Sz_roomAt 0 = .ok (.iload_n 1, 1) := by decide +kernel
theorem d_Sz_roomAt_1 : decode b_Sz_roomAt 1 = .ok (.aload_n 0, 1) := by decide +kernel
theorem d_Sz_roomAt_2 : decode b_Sz_roomAt 2 = .ok (.getfield 49, 3) := by decide +kernel
theorem d_Sz_roomAt_5 : decode b_Sz_roomAt 5 = .ok (.invokestatic 59, 3) := by decide +kernel
theorem d_Sz_roomAt_8 : decode b_Sz_roomAt 8 = .ok (.iload_n 2, 1) := by decide +kernel
theorem d_Sz_roomAt_9 : decode b_Sz_roomAt 9 = .ok (.iconst 0, 1) := by decide +kernel
theorem d_Sz_roomAt_10 : decode b_Sz_roomAt 10 = .ok (.bipush 6, 2) := by decide +kernel
theorem d_Sz_roomAt_12 : decode b_Sz_roomAt 12 = .ok (.invokestatic 45, 3) := by decide +kernel
theorem d_Sz_roomAt_15 : decode b_Sz_roomAt 15 = .ok (.aload_n 0, 1) := by decide +kernel
theorem d_Sz_roomAt_16 : decode b_Sz_roomAt 16 = .ok (.getfield 11, 3) := by decide +kernel
theorem d_Sz_roomAt_19 : decode b_Sz_roomAt 19 = .ok (.iload_n 1, 1) := by decide +kernel
theorem d_Sz_roomAt_20 : decode b_Sz_roomAt 20 = .ok (.aaload, 1) := by decide +kernel
theorem d_Sz_roomAt_21 : decode b_Sz_roomAt 21 = .ok (.astore_n 3, 1) := by decide +kernel
theorem d_Sz_roomAt_22 : decode b_Sz_roomAt 22 = .ok (.iload_n 2, 1) := by decide +kernel
theorem d_Sz_roomAt_23 : decode b_Sz_roomAt 23 = .ok (.tableswitch 75 0 5 #[37, 42, 47, 52, 57, 62], 37) := by decide +kernel
theorem d_Sz_roomAt_60 : decode b_Sz_roomAt 60 = .ok (.aload_n 3, 1) := by decide +kernel
theorem d_Sz_roomAt_61 : decode b_Sz_roomAt 61 = .ok (.getfield 122, 3) := by decide +kernel
theorem d_Sz_roomAt_64 : decode b_Sz_roomAt 64 = .ok (.lreturn, 1) := by decide +kernel
theorem d_Sz_roomAt_65 : decode b_Sz_roomAt 65 = .ok (.aload_n 3, 1) := by decide +kernel
theorem d_Sz_roomAt_66 : decode b_Sz_roomAt 66 = .ok (.getfield 126, 3) := by decide +kernel
theorem d_Sz_roomAt_69 : decode b_Sz_roomAt 69 = .ok (.lreturn, 1) := by decide +kernel
theorem d_Sz_roomAt_70 : decode b_Sz_roomAt 70 = .ok (.aload_n 3, 1) := by decide +kernel
theorem d_Sz_roomAt_71 : decode b_Sz_roomAt 71 = .ok (.invokevirtual 129, 3) := by decide +kernel
theorem d_Sz_roomAt_74 : decode b_Sz_roomAt 74 = .ok (.lreturn, 1) := by decide +kernel
theorem d_Sz_roomAt_75 : decode b_Sz_roomAt 75 = .ok (.aload_n 3, 1) := by decide +kernel
theorem d_Sz_roomAt_76 : decode b_Sz_roomAt 76 = .ok (.invokevirtual 133, 3) := by decide +kernel
theorem d_Sz_roomAt_79 : decode b_Sz_roomAt 79 = .ok (.lreturn, 1) := by decide +kernel
theorem d_Sz_roomAt_80 : decode b_Sz_roomAt 80 = .ok (.aload_n 3, 1) := by decide +kernel
theorem d_Sz_roomAt_81 : decode b_Sz_roomAt 81 = .ok (.invokevirtual 136, 3) := by decide +kernel
theorem d_Sz_roomAt_84 : decode b_Sz_roomAt 84 = .ok (.lreturn, 1) := by decide +kernel
theorem d_Sz_roomAt_85 : decode b_Sz_roomAt 85 = .ok (.aload_n 3, 1) := by decide +kernel
theorem d_Sz_roomAt_86 : decode b_Sz_roomAt 86 = .ok (.getfield 139, 3) := by decide +kernel
theorem d_Sz_roomAt_89 : decode b_Sz_roomAt 89 = .ok (.ifCond .eq 7, 3) := by decide +kernel
theorem d_Sz_roomAt_92 : decode b_Sz_roomAt 92 = .ok (.lconst 1, 1) := by decide +kernel
theorem d_Sz_roomAt_93 : decode b_Sz_roomAt 93 = .ok (.goto 4, 3) := by decide +kernel
theorem d_Sz_roomAt_96 : decode b_Sz_roomAt 96 = .ok (.lconst 0, 1) := by decide +kernel
theorem d_Sz_roomAt_97 : decode b_Sz_roomAt 97 = .ok (.lreturn, 1) := by decide +kernel
theorem d_Sz_roomAt_98 : decode b_Sz_roomAt 98 = .ok (.aload_n 3, 1) := by decide +kernel
theorem d_Sz_roomAt_99 : decode b_Sz_roomAt 99 = .ok (.getfield 143, 3) := by decide +kernel
theorem d_Sz_roomAt_102 : decode b_Sz_roomAt 102 = .ok (.i2l, 1) := by decide +kernel
theorem d_Sz_roomAt_103 : decode b_Sz_roomAt 103 = .ok (.lreturn, 1) := by decide +kernel
theorem d_Sz_openingAt_0 : decode b_Sz_openingAt 0 = .ok (.iload_n 1, 1) := by decide +kernel
theorem d_Sz_openingAt_1 : decode b_Sz_openingAt 1 = .ok (.aload_n 0, 1) := by decide +kernel
theorem d_Sz_openingAt_2 : decode b_Sz_openingAt 2 = .ok (.getfield 73, 3) := by decide +kernel
theorem d_Sz_openingAt_5 : decode b_Sz_openingAt 5 = .ok (.invokestatic 59, 3) := by decide +kernel
theorem d_Sz_openingAt_8 : decode b_Sz_openingAt 8 = .ok (.iload_n 2, 1) := by decide +kernel
theorem d_Sz_openingAt_9 : decode b_Sz_openingAt 9 = .ok (.iconst 0, 1) := by decide +kernel
theorem d_Sz_openingAt_10 : decode b_Sz_openingAt 10 = .ok (.iconst 2, 1) := by decide +kernel
theorem d_Sz_openingAt_11 : decode b_Sz_openingAt 11 = .ok (.invokestatic 45, 3) := by decide +kernel
theorem d_Sz_openingAt_14 : decode b_Sz_openingAt 14 = .ok (.aload_n 0, 1) := by decide +kernel
theorem d_Sz_openingAt_15 : decode b_Sz_openingAt 15 = .ok (.getfield 17, 3) := by decide +kernel
theorem d_Sz_openingAt_18 : decode b_Sz_openingAt 18 = .ok (.iload_n 1, 1) := by decide +kernel
theorem d_Sz_openingAt_19 : decode b_Sz_openingAt 19 = .ok (.aaload, 1) := by decide +kernel
theorem d_Sz_openingAt_20 : decode b_Sz_openingAt 20 = .ok (.astore_n 3, 1) := by decide +kernel
theorem d_Sz_openingAt_21 : decode b_Sz_openingAt 21 = .ok (.iload_n 2, 1) := by decide +kernel
theorem d_Sz_openingAt_22 : decode b_Sz_openingAt 22 = .ok (.lookupswitch 44 #[(0, 26), (1, 39)], 26) := by decide +kernel
theorem d_Sz_openingAt_48 : decode b_Sz_openingAt 48 = .ok (.aload_n 3, 1) := by decide +kernel
theorem d_Sz_openingAt_49 : decode b_Sz_openingAt 49 = .ok (.invokevirtual 146, 3) := by decide +kernel
theorem d_Sz_openingAt_52 : decode b_Sz_openingAt 52 = .ok (.ifCond .eq 7, 3) := by decide +kernel
theorem d_Sz_openingAt_55 : decode b_Sz_openingAt 55 = .ok (.lconst 1, 1) := by decide +kernel
theorem d_Sz_openingAt_56 : decode b_Sz_openingAt 56 = .ok (.goto 4, 3) := by decide +kernel
theorem d_Sz_openingAt_59 : decode b_Sz_openingAt 59 = .ok (.lconst 0, 1) := by decide +kernel
theorem d_Sz_openingAt_60 : decode b_Sz_openingAt 60 = .ok (.lreturn, 1) := by decide +kernel
theorem d_Sz_openingAt_61 : decode b_Sz_openingAt 61 = .ok (.aload_n 3, 1) := by decide +kernel
theorem d_Sz_openingAt_62 : decode b_Sz_openingAt 62 = .ok (.getfield 150, 3) := by decide +kernel
theorem d_Sz_openingAt_65 : decode b_Sz_openingAt 65 = .ok (.lreturn, 1) := by decide +kernel
theorem d_Sz_openingAt_66 : decode b_Sz_openingAt 66 = .ok (.aload_n 3, 1) := by decide +kernel
theorem d_Sz_openingAt_67 : decode b_Sz_openingAt 67 = .ok (.getfield 153, 3) := by decide +kernel
theorem d_Sz_openingAt_70 : decode b_Sz_openingAt 70 = .ok (.lreturn, 1) := by decide +kernel
theorem d_Sz_personAt_0 : decode b_Sz_personAt 0 = .ok (.iload_n 1, 1) := by decide +kernel
theorem d_Sz_personAt_1 : decode b_Sz_personAt 1 = .ok (.aload_n 0, 1) := by decide +kernel
theorem d_Sz_personAt_2 : decode b_Sz_personAt 2 = .ok (.getfield 110, 3) := by decide +kernel
theorem d_Sz_personAt_5 : decode b_Sz_personAt 5 = .ok (.invokestatic 59, 3) := by decide +kernel
theorem d_Sz_personAt_8 : decode b_Sz_personAt 8 = .ok (.iload_n 2, 1) := by decide +kernel
theorem d_Sz_personAt_9 : decode b_Sz_personAt 9 = .ok (.iconst 0, 1) := by decide +kernel
theorem d_Sz_personAt_10 : decode b_Sz_personAt 10 = .ok (.iconst 2, 1) := by decide +kernel
theorem d_Sz_personAt_11 : decode b_Sz_personAt 11 = .ok (.invokestatic 45, 3) := by decide +kernel
theorem d_Sz_personAt_14 : decode b_Sz_personAt 14 = .ok (.aload_n 0, 1) := by decide +kernel
theorem d_Sz_personAt_15 : decode b_Sz_personAt 15 = .ok (.getfield 41, 3) := by decide +kernel
theorem d_Sz_personAt_18 : decode b_Sz_personAt 18 = .ok (.iload_n 1, 1) := by decide +kernel
theorem d_Sz_personAt_19 : decode b_Sz_personAt 19 = .ok (.aaload, 1) := by decide +kernel
theorem d_Sz_personAt_20 : decode b_Sz_personAt 20 = .ok (.astore_n 3, 1) := by decide +kernel
theorem d_Sz_personAt_21 : decode b_Sz_personAt 21 = .ok (.iload_n 2, 1) := by decide +kernel
theorem d_Sz_personAt_22 : decode b_Sz_personAt 22 = .ok (.lookupswitch 37 #[(0, 26), (1, 32)], 26) := by decide +kernel
theorem d_Sz_personAt_48 : decode b_Sz_personAt 48 = .ok (.aload_n 3, 1) := by decide +kernel
theorem d_Sz_personAt_49 : decode b_Sz_personAt 49 = .ok (.getfield 156, 3) := by decide +kernel
theorem d_Sz_personAt_52 : decode b_Sz_personAt 52 = .ok (.i2l, 1) := by decide +kernel
theorem d_Sz_personAt_53 : decode b_Sz_personAt 53 = .ok (.lreturn, 1) := by decide +kernel
theorem d_Sz_personAt_54 : decode b_Sz_personAt 54 = .ok (.aload_n 3, 1) := by decide +kernel
theorem d_Sz_personAt_55 : decode b_Sz_personAt 55 = .ok (.getfield 159, 3) := by decide +kernel
theorem d_Sz_personAt_58 : decode b_Sz_personAt 58 = .ok (.lreturn, 1) := by decide +kernel
theorem d_Sz_personAt_59 : decode b_Sz_personAt 59 = .ok (.aload_n 3, 1) := by decide +kernel
theorem d_Sz_personAt_60 : decode b_Sz_personAt 60 = .ok (.getfield 162, 3) := by decide +kernel
theorem d_Sz_personAt_63 : decode b_Sz_personAt 63 = .ok (.lreturn, 1) := by decide +kernel
theorem d_Sz_steelAt_0 : decode b_Sz_steelAt 0 = .ok (.iload_n 1, 1) := by decide +kernel
theorem d_Sz_steelAt_1 : decode b_Sz_steelAt 1 = .ok (.aload_n 0, 1) := by decide +kernel
theorem d_Sz_steelAt_2 : decode b_Sz_steelAt 2 = .ok (.getfield 104, 3) := by decide +kernel
theorem d_Sz_steelAt_5 : decode b_Sz_steelAt 5 = .ok (.invokestatic 59, 3) := by decide +kernel
theorem d_Sz_steelAt_8 : decode b_Sz_steelAt 8 = .ok (.aload_n 0, 1) := by decide +kernel
theorem d_Sz_steelAt_9 : decode b_Sz_steelAt 9 = .ok (.getfield 35, 3) := by decide +kernel
theorem d_Sz_steelAt_12 : decode b_Sz_steelAt 12 = .ok (.iload_n 1, 1) := by decide +kernel
theorem d_Sz_steelAt_13 : decode b_Sz_steelAt 13 = .ok (.aaload, 1) := by decide +kernel
theorem d_Sz_steelAt_14 : decode b_Sz_steelAt 14 = .ok (.getfield 165, 3) := by decide +kernel
theorem d_Sz_steelAt_17 : decode b_Sz_steelAt 17 = .ok (.ireturn, 1) := by decide +kernel
theorem d_Sz_balance_0 : decode b_Sz_balance 0 = .ok (.iload_n 1, 1) := by decide +kernel
theorem d_Sz_balance_1 : decode b_Sz_balance 1 = .ok (.iconst 0, 1) := by decide +kernel
theorem d_Sz_balance_2 : decode b_Sz_balance 2 = .ok (.iconst 4, 1) := by decide +kernel
theorem d_Sz_balance_3 : decode b_Sz_balance 3 = .ok (.invokestatic 45, 3) := by decide +kernel
theorem d_Sz_balance_6 : decode b_Sz_balance 6 = .ok (.iload_n 1, 1) := by decide +kernel
theorem d_Sz_balance_7 : decode b_Sz_balance 7 = .ok (.tableswitch 49 0 3 #[29, 34, 39, 44], 29) := by decide +kernel
theorem d_Sz_balance_36 : decode b_Sz_balance 36 = .ok (.aload_n 0, 1) := by decide +kernel
theorem d_Sz_balance_37 : decode b_Sz_balance 37 = .ok (.getfield 168, 3) := by decide +kernel
theorem d_Sz_balance_40 : decode b_Sz_balance 40 = .ok (.lreturn, 1) := by decide +kernel
theorem d_Sz_balance_41 : decode b_Sz_balance 41 = .ok (.aload_n 0, 1) := by decide +kernel
theorem d_Sz_balance_42 : decode b_Sz_balance 42 = .ok (.invokevirtual 171, 3) := by decide +kernel
theorem d_Sz_balance_45 : decode b_Sz_balance 45 = .ok (.lreturn, 1) := by decide +kernel
theorem d_Sz_balance_46 : decode b_Sz_balance 46 = .ok (.aload_n 0, 1) := by decide +kernel
theorem d_Sz_balance_47 : decode b_Sz_balance 47 = .ok (.getfield 174, 3) := by decide +kernel
theorem d_Sz_balance_50 : decode b_Sz_balance 50 = .ok (.lreturn, 1) := by decide +kernel
theorem d_Sz_balance_51 : decode b_Sz_balance 51 = .ok (.aload_n 0, 1) := by decide +kernel
theorem d_Sz_balance_52 : decode b_Sz_balance 52 = .ok (.getfield 177, 3) := by decide +kernel
theorem d_Sz_balance_55 : decode b_Sz_balance 55 = .ok (.lreturn, 1) := by decide +kernel
theorem d_Sz_balance_56 : decode b_Sz_balance 56 = .ok (.aload_n 0, 1) := by decide +kernel
theorem d_Sz_balance_57 : decode b_Sz_balance 57 = .ok (.getfield 180, 3) := by decide +kernel
theorem d_Sz_balance_60 : decode b_Sz_balance 60 = .ok (.lreturn, 1) := by decide +kernel
theorem d_Sz_smokeInRooms_0 : decode b_Sz_smokeInRooms 0 = .ok (.lconst 0, 1) := by decide +kernel
theorem d_Sz_smokeInRooms_1 : decode b_Sz_smokeInRooms 1 = .ok (.lstore_n 1, 1) := by decide +kernel
theorem d_Sz_smokeInRooms_2 : decode b_Sz_smokeInRooms 2 = .ok (.iconst 0, 1) := by decide +kernel
theorem d_Sz_smokeInRooms_3 : decode b_Sz_smokeInRooms 3 = .ok (.istore_n 3, 1) := by decide +kernel
theorem d_Sz_smokeInRooms_4 : decode b_Sz_smokeInRooms 4 = .ok (.iload_n 3, 1) := by decide +kernel
theorem d_Sz_smokeInRooms_5 : decode b_Sz_smokeInRooms 5 = .ok (.aload_n 0, 1) := by decide +kernel
theorem d_Sz_smokeInRooms_6 : decode b_Sz_smokeInRooms 6 = .ok (.getfield 49, 3) := by decide +kernel
theorem d_Sz_smokeInRooms_9 : decode b_Sz_smokeInRooms 9 = .ok (.if_icmp .ge 21, 3) := by decide +kernel
theorem d_Sz_smokeInRooms_12 : decode b_Sz_smokeInRooms 12 = .ok (.lload_n 1, 1) := by decide +kernel
theorem d_Sz_smokeInRooms_13 : decode b_Sz_smokeInRooms 13 = .ok (.aload_n 0, 1) := by decide +kernel
theorem d_Sz_smokeInRooms_14 : decode b_Sz_smokeInRooms 14 = .ok (.getfield 11, 3) := by decide +kernel
theorem d_Sz_smokeInRooms_17 : decode b_Sz_smokeInRooms 17 = .ok (.iload_n 3, 1) := by decide +kernel
theorem d_Sz_smokeInRooms_18 : decode b_Sz_smokeInRooms 18 = .ok (.aaload, 1) := by decide +kernel
theorem d_Sz_smokeInRooms_19 : decode b_Sz_smokeInRooms 19 = .ok (.getfield 122, 3) := by decide +kernel
theorem d_Sz_smokeInRooms_22 : decode b_Sz_smokeInRooms 22 = .ok (.ladd, 1) := by decide +kernel
theorem d_Sz_smokeInRooms_23 : decode b_Sz_smokeInRooms 23 = .ok (.lstore_n 1, 1) := by decide +kernel
theorem d_Sz_smokeInRooms_24 : decode b_Sz_smokeInRooms 24 = .ok (.iinc 3 1, 3) := by decide +kernel
theorem d_Sz_smokeInRooms_27 : decode b_Sz_smokeInRooms 27 = .ok (.goto (-23), 3) := by decide +kernel
theorem d_Sz_smokeInRooms_30 : decode b_Sz_smokeInRooms 30 = .ok (.lload_n 1, 1) := by decide +kernel
theorem d_Sz_smokeInRooms_31 : decode b_Sz_smokeInRooms 31 = .ok (.lreturn, 1) := by decide +kernel
