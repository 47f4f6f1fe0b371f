theorem d_Ro_init_0 : decode b_Ro_init 0 = .ok (.aload_n 0, 1) := by decide +kernel
theorem d_Ro_init_1 : decode b_Ro_init 1 = .ok (.invokespecial 3, 3) := by decide +kernel
theorem d_Ro_init_4 : decode b_Ro_init 4 = .ok (.aload_n 0, 1) := by decide +kernel
theorem d_Ro_init_5 : decode b_Ro_init 5 = .ok (.iload_n 1, 1) := by decide +kernel
theorem d_Ro_init_6 : decode b_Ro_init 6 = .ok (.putfield 9, 3) := by decide +kernel
theorem d_Ro_init_9 : decode b_Ro_init 9 = .ok (.aload_n 0, 1) := by decide +kernel
theorem d_Ro_init_10 : decode b_Ro_init 10 = .ok (.iload_n 2, 1) := by decide +kernel
theorem d_Ro_init_11 : decode b_Ro_init 11 = .ok (.putfield 15, 3) := by decide +kernel
theorem d_Ro_init_14 : decode b_Ro_init 14 = .ok (.aload_n 0, 1) := by decide +kernel
theorem d_Ro_init_15 : decode b_Ro_init 15 = .ok (.iload_n 1, 1) := by decide +kernel
theorem d_Ro_init_16 : decode b_Ro_init 16 = .ok (.i2l, 1) := by decide +kernel
theorem d_Ro_init_17 : decode b_Ro_init 17 = .ok (.iload_n 2, 1) := by decide +kernel
theorem d_Ro_init_18 : decode b_Ro_init 18 = .ok (.i2l, 1) := by decide +kernel
theorem d_Ro_init_19 : decode b_Ro_init 19 = .ok (.lmul, 1) := by decide +kernel
theorem d_Ro_init_20 : decode b_Ro_init 20 = .ok (.putfield 18, 3) := by decide +kernel
theorem d_Ro_init_23 : decode b_Ro_init 23 = .ok (.aload_n 0, 1) := by decide +kernel
theorem d_Ro_init_24 : decode b_Ro_init 24 = .ok (.iconst (-1), 1) := by decide +kernel
theorem d_Ro_init_25 : decode b_Ro_init 25 = .ok (.putfield 22, 3) := by decide +kernel
theorem d_Ro_init_28 : decode b_Ro_init 28 = .ok (.aload_n 0, 1) := by decide +kernel
theorem d_Ro_init_29 : decode b_Ro_init 29 = .ok (.iconst (-1), 1) := by decide +kernel
theorem d_Ro_init_30 : decode b_Ro_init 30 = .ok (.putfield 25, 3) := by decide +kernel
theorem d_Ro_init_33 : decode b_Ro_init 33 = .ok (.return_, 1) := by decide +kernel
theorem d_Op_init_0 : decode b_Op_init 0 = .ok (.aload_n 0, 1) := by decide +kernel
theorem d_Op_init_1 : decode b_Op_init 1 = .ok (.invokespecial 3, 3) := by decide +kernel
theorem d_Op_init_4 : decode b_Op_init 4 = .ok (.aload_n 0, 1) := by decide +kernel
theorem d_Op_init_5 : decode b_Op_init 5 = .ok (.aload_n 1, 1) := by decide +kernel
theorem d_Op_init_6 : decode b_Op_init 6 = .ok (.putfield 9, 3) := by decide +kernel
theorem d_Op_init_9 : decode b_Op_init 9 = .ok (.aload_n 0, 1) := by decide +kernel
theorem d_Op_init_10 : decode b_Op_init 10 = .ok (.aload_n 2, 1) := by decide +kernel
theorem d_Op_init_11 : decode b_Op_init 11 = .ok (.putfield 15, 3) := by decide +kernel
theorem d_Op_init_14 : decode b_Op_init 14 = .ok (.aload_n 0, 1) := by decide +kernel
theorem d_Op_init_15 : decode b_Op_init 15 = .ok (.iload_n 3, 1) := by decide +kernel
theorem d_Op_init_16 : decode b_Op_init 16 = .ok (.putfield 18, 3) := by decide +kernel
theorem d_Op_init_19 : decode b_Op_init 19 = .ok (.aload_n 0, 1) := by decide +kernel
theorem d_Op_init_20 : decode b_Op_init 20 = .ok (.iload 4, 2) := by decide +kernel
theorem d_Op_init_22 : decode b_Op_init 22 = .ok (.putfield 22, 3) := by decide +kernel
theorem d_Op_init_25 : decode b_Op_init 25 = .ok (.aload_n 0, 1) := by decide +kernel
theorem d_Op_init_26 : decode b_Op_init 26 = .ok (.iload 5, 2) := by decide +kernel
theorem d_Op_init_28 : decode b_Op_init 28 = .ok (.putfield 25, 3) := by decide +kernel
theorem d_Op_init_31 : decode b_Op_init 31 = .ok (.aload_n 0, 1) := by decide +kernel
theorem d_Op_init_32 : decode b_Op_init 32 = .ok (.iconst (-1), 1) := by decide +kernel
theorem d_Op_init_33 : decode b_Op_init 33 = .ok (.putfield 28, 3) := by decide +kernel
theorem d_Op_init_36 : decode b_Op_init 36 = .ok (.return_, 1) := by decide +kernel
theorem d_Fi_init_0 : decode b_Fi_init 0 = .ok (.aload_n 0, 1) := by decide +kernel
theorem d_Fi_init_1 : decode b_Fi_init 1 = .ok (.invokespecial 1, 3) := by decide +kernel
theorem d_Fi_init_4 : decode b_Fi_init 4 = .ok (.aload_n 0, 1) := by decide +kernel
theorem d_Fi_init_5 : decode b_Fi_init 5 = .ok (.aload_n 1, 1) := by decide +kernel
theorem d_Fi_init_6 : decode b_Fi_init 6 = .ok (.putfield 7, 3) := by decide +kernel
theorem d_Fi_init_9 : decode b_Fi_init 9 = .ok (.aload_n 0, 1) := by decide +kernel
theorem d_Fi_init_10 : decode b_Fi_init 10 = .ok (.iload_n 2, 1) := by decide +kernel
theorem d_Fi_init_11 : decode b_Fi_init 11 = .ok (.putfield 13, 3) := by decide +kernel
theorem d_Fi_init_14 : decode b_Fi_init 14 = .ok (.aload_n 0, 1) := by decide +kernel
theorem d_Fi_init_15 : decode b_Fi_init 15 = .ok (.iload_n 3, 1) := by decide +kernel
theorem d_Fi_init_16 : decode b_Fi_init 16 = .ok (.putfield 17, 3) := by decide +kernel
theorem d_Fi_init_19 : decode b_Fi_init 19 = .ok (.aload_n 0, 1) := by decide +kernel
theorem d_Fi_init_20 : decode b_Fi_init 20 = .ok (.iload 4, 2) := by decide +kernel
theorem d_Fi_init_22 : decode b_Fi_init 22 = .ok (.putfield 20, 3) := by decide +kernel
theorem d_Fi_init_25 : decode b_Fi_init 25 = .ok (.aload_n 0, 1) := by decide +kernel
theorem d_Fi_init_26 : decode b_Fi_init 26 = .ok (.iload 5, 2) := by decide +kernel
theorem d_Fi_init_28 : decode b_Fi_init 28 = .ok (.putfield 23, 3) := by decide +kernel
theorem d_Fi_init_31 : decode b_Fi_init 31 = .ok (.return_, 1) := by decide +kernel
theorem d_Fa_init_0 : decode b_Fa_init 0 = .ok (.aload_n 0, 1) := by decide +kernel
theorem d_Fa_init_1 : decode b_Fa_init 1 = .ok (.invokespecial 1, 3) := by decide +kernel
theorem d_Fa_init_4 : decode b_Fa_init 4 = .ok (.aload_n 0, 1) := by decide +kernel
theorem d_Fa_init_5 : decode b_Fa_init 5 = .ok (.aload_n 1, 1) := by decide +kernel
theorem d_Fa_init_6 : decode b_Fa_init 6 = .ok (.putfield 7, 3) := by decide +kernel
theorem d_Fa_init_9 : decode b_Fa_init 9 = .ok (.aload_n 0, 1) := by decide +kernel
theorem d_Fa_init_10 : decode b_Fa_init 10 = .ok (.iload_n 2, 1) := by decide +kernel
theorem d_Fa_init_11 : decode b_Fa_init 11 = .ok (.putfield 13, 3) := by decide +kernel
theorem d_Fa_init_14 : decode b_Fa_init 14 = .ok (.aload_n 0, 1) := by decide +kernel
theorem d_Fa_init_15 : decode b_Fa_init 15 = .ok (.iload_n 3, 1) := by decide +kernel
theorem d_Fa_init_16 : decode b_Fa_init 16 = .ok (.putfield 17, 3) := by decide +kernel
theorem d_Fa_init_19 : decode b_Fa_init 19 = .ok (.return_, 1) := by decide +kernel
theorem d_St_init_0 : decode b_St_init 0 = .ok (.aload_n 0, 1) := by decide +kernel
theorem d_St_init_1 : decode b_St_init 1 = .ok (.invokespecial 1, 3) := by decide +kernel
theorem d_St_init_4 : decode b_St_init 4 = .ok (.aload_n 0, 1) := by decide +kernel
theorem d_St_init_5 : decode b_St_init 5 = .ok (.aload_n 1, 1) := by decide +kernel
theorem d_St_init_6 : decode b_St_init 6 = .ok (.putfield 7, 3) := by decide +kernel
theorem d_St_init_9 : decode b_St_init 9 = .ok (.aload_n 0, 1) := by decide +kernel
theorem d_St_init_10 : decode b_St_init 10 = .ok (.iload_n 2, 1) := by decide +kernel
theorem d_St_init_11 : decode b_St_init 11 = .ok (.putfield 13, 3) := by decide +kernel
theorem d_St_init_14 : decode b_St_init 14 = .ok (.return_, 1) := by decide +kernel
theorem d_Pe_init_0 : decode b_Pe_init 0 = .ok (.aload_n 0, 1) := by decide +kernel
theorem d_Pe_init_1 : decode b_Pe_init 1 = .ok (.invokespecial 3, 3) := by decide +kernel
theorem d_Pe_init_4 : decode b_Pe_init 4 = .ok (.aload_n 0, 1) := by decide +kernel
theorem d_Pe_init_5 : decode b_Pe_init 5 = .ok (.iload_n 1, 1) := by decide +kernel
theorem d_Pe_init_6 : decode b_Pe_init 6 = .ok (.putfield 9, 3) := by decide +kernel
theorem d_Pe_init_9 : decode b_Pe_init 9 = .ok (.aload_n 0, 1) := by decide +kernel
theorem d_Pe_init_10 : decode b_Pe_init 10 = .ok (.bipush 20, 2) := by decide +kernel
theorem d_Pe_init_12 : decode b_Pe_init 12 = .ok (.newarray .int, 2) := by decide +kernel
theorem d_Pe_init_14 : decode b_Pe_init 14 = .ok (.putfield 15, 3) := by decide +kernel
theorem d_Pe_init_17 : decode b_Pe_init 17 = .ok (.aload_n 0, 1) := by decide +kernel
theorem d_Pe_init_18 : decode b_Pe_init 18 = .ok (.bipush 20, 2) := by decide +kernel
theorem d_Pe_init_20 : decode b_Pe_init 20 = .ok (.newarray .int, 2) := by decide +kernel
theorem d_Pe_init_22 : decode b_Pe_init 22 = .ok (.putfield 19, 3) := by decide +kernel
theorem d_Pe_init_25 : decode b_Pe_init 25 = .ok (.aload_n 0, 1) := by decide +kernel
theorem d_Pe_init_26 : decode b_Pe_init 26 = .ok (.iconst (-1), 1) := by decide +kernel
theorem d_Pe_init_27 : decode b_Pe_init 27 = .ok (.putfield 22, 3) := by decide +kernel
theorem d_Pe_init_30 : decode b_Pe_init 30 = .ok (.return_, 1) := by decide +kernel
theorem d_Pe_tell_0 : decode b_Pe_tell 0 = .ok (.aload_n 0, 1) := by decide +kernel
theorem d_Pe_tell_1 : decode b_Pe_tell 1 = .ok (.getfield 25, 3) := by decide +kernel
theorem d_Pe_tell_4 : decode b_Pe_tell 4 = .ok (.bipush 20, 2) := by decide +kernel
theorem d_Pe_tell_6 : decode b_Pe_tell 6 = .ok (.if_icmp .ge 11, 3) := by decide +kernel
theorem d_Pe_tell_9 : decode b_Pe_tell 9 = .ok (.iload_n 1, 1) := by decide +kernel
theorem d_Pe_tell_10 : decode b_Pe_tell 10 = .ok (.aload_n 0, 1) := by decide +kernel
theorem d_Pe_tell_11 : decode b_Pe_tell 11 = .ok (.getfield 22, 3) := by decide +kernel
theorem d_Pe_tell_14 : decode b_Pe_tell 14 = .ok (.if_icmp .gt 5, 3) := by decide +kernel
theorem d_Pe_tell_17 : decode b_Pe_tell 17 = .ok (.iconst 0, 1) := by decide +kernel
theorem d_Pe_tell_18 : decode b_Pe_tell 18 = .ok (.ireturn, 1) := by decide +kernel
theorem d_Pe_tell_19 : decode b_Pe_tell 19 = .ok (.aload_n 0, 1) := by decide +kernel
theorem d_Pe_tell_20 : decode b_Pe_tell 20 = .ok (.getfield 15, 3) := by decide +kernel
theorem d_Pe_tell_23 : decode b_Pe_tell 23 = .ok (.aload_n 0, 1) := by decide +kernel
theorem d_Pe_tell_24 : decode b_Pe_tell 24 = .ok (.getfield 25, 3) := by decide +kernel
theorem d_Pe_tell_27 : decode b_Pe_tell 27 = .ok (.iload_n 1, 1) := by decide +kernel
theorem d_Pe_tell_28 : decode b_Pe_tell 28 = .ok (.iastore, 1) := by decide +kernel
theorem d_Pe_tell_29 : decode b_Pe_tell 29 = .ok (.aload_n 0, 1) := by decide +kernel
theorem d_Pe_tell_30 : decode b_Pe_tell 30 = .ok (.getfield 19, 3) := by decide +kernel
theorem d_Pe_tell_33 : decode b_Pe_tell 33 = .ok (.aload_n 0, 1) := by decide +kernel
theorem d_Pe_tell_34 : decode b_Pe_tell 34 = .ok (.getfield 25, 3) := by decide +kernel
theorem d_Pe_tell_37 : decode b_Pe_tell 37 = .ok (.iload_n 2, 1) := by decide +kernel
theorem d_Pe_tell_38 : decode b_Pe_tell 38 = .ok (.iastore, 1) := by decide +kernel
theorem d_Pe_tell_39 : decode b_Pe_tell 39 = .ok (.aload_n 0, 1) := by decide +kernel
theorem d_Pe_tell_40 : decode b_Pe_tell 40 = .ok (.dup, 1) := by decide +kernel
theorem d_Pe_tell_41 : decode b_Pe_tell 41 = .ok (.getfield 25, 3) := by decide +kernel
theorem d_Pe_tell_44 : decode b_Pe_tell 44 = .ok (.iconst 1, 1) := by decide +kernel
theorem d_Pe_tell_45 : decode b_Pe_tell 45 = .ok (.iadd, 1) := by decide +kernel
theorem d_Pe_tell_46 : decode b_Pe_tell 46 = .ok (.putfield 25, 3) := by decide +kernel
theorem d_Pe_tell_49 : decode b_Pe_tell 49 = .ok (.aload_n 0, 1) := by decide +kernel
theorem d_Pe_tell_50 : decode b_Pe_tell 50 = .ok (.iload_n 1, 1) := by decide +kernel
theorem d_Pe_tell_51 : decode b_Pe_tell 51 = .ok (.putfield 22, 3) := by decide +kernel
theorem d_Pe_tell_54 : decode b_Pe_tell 54 = .ok (.iconst 1, 1) := by decide +kernel
theorem d_Pe_tell_55 : decode b_Pe_tell 55 = .ok (.ireturn, 1) := by decide +kernel
theorem d_Fi_burn_0 : decode b_Fi_burn 0 = .ok (.iload_n 1, 1) := by decide +kernel
theorem d_Fi_burn_1 : decode b_Fi_burn 1 = .ok (.aload_n 0, 1) := by decide +kernel
theorem d_Fi_burn_2 : decode b_Fi_burn 2 = .ok (.getfield 13, 3) := by decide +kernel
theorem d_Fi_burn_5 : decode b_Fi_burn 5 = .ok (.if_icmp .ge 5, 3) := by decide +kernel
theorem d_Fi_burn_8 : decode b_Fi_burn 8 = .ok (.lconst 0, 1) := by decide +kernel
theorem d_Fi_burn_9 : decode b_Fi_burn 9 = .ok (.lreturn, 1) := by decide +kernel
theorem d_Fi_burn_10 : decode b_Fi_burn 10 = .ok (.iload_n 1, 1) := by decide +kernel
theorem d_Fi_burn_11 : decode b_Fi_burn 11 = .ok (.aload_n 0, 1) := by decide +kernel
theorem d_Fi_burn_12 : decode b_Fi_burn 12 = .ok (.getfield 13, 3) := by decide +kernel
theorem d_Fi_burn_15 : decode b_Fi_burn 15 = .ok (.isub, 1) := by decide +kernel
theorem d_Fi_burn_16 : decode b_Fi_burn 16 = .ok (.iconst 1, 1) := by decide +kernel
theorem d_Fi_burn_17 : decode b_Fi_burn 17 = .ok (.iadd, 1) := by decide +kernel
theorem d_Fi_burn_18 : decode b_Fi_burn 18 = .ok (.i2l, 1) := by decide +kernel
theorem d_Fi_burn_19 : decode b_Fi_burn 19 = .ok (.lstore_n 2, 1) := by decide +kernel
theorem d_Fi_burn_20 : decode b_Fi_burn 20 = .ok (.lload_n 2, 1) := by decide +kernel
theorem d_Fi_burn_21 : decode b_Fi_burn 21 = .ok (.aload_n 0, 1) := by decide +kernel
theorem d_Fi_burn_22 : decode b_Fi_burn 22 = .ok (.getfield 17, 3) := by decide +kernel
theorem d_Fi_burn_25 : decode b_Fi_burn 25 = .ok (.i2l, 1) := by decide +kernel
theorem d_Fi_burn_26 : decode b_Fi_burn 26 = .ok (.lmul, 1) := by decide +kernel
theorem d_Fi_burn_27 : decode b_Fi_burn 27 = .ok (.aload_n 0, 1) := by decide +kernel
theorem d_Fi_burn_28 : decode b_Fi_burn 28 = .ok (.getfield 20, 3) := by decide +kernel
theorem d_Fi_burn_31 : decode b_Fi_burn 31 = .ok (.i2l, 1) := by decide +kernel
theorem d_Fi_burn_32 : decode b_Fi_burn 32 = .ok (.invokestatic 26, 3) := by decide +kernel
theorem d_Fi_burn_35 : decode b_Fi_burn 35 = .ok (.lstore 4, 2) := by decide +kernel
theorem d_Fi_burn_37 : decode b_Fi_burn 37 = .ok (.aload_n 0, 1) := by decide +kernel
theorem d_Fi_burn_38 : decode b_Fi_burn 38 = .ok (.getfield 7, 3) := by decide +kernel
theorem d_Fi_burn_41 : decode b_Fi_burn 41 = .ok (.getfield 32, 3) := by decide +kernel
theorem d_Fi_burn_44 : decode b_Fi_burn 44 = .ok (.ifCond .eq 11, 3) := by decide +kernel
theorem d_Fi_burn_47 : decode b_Fi_burn 47 = .ok (.lload 4, 2) := by decide +kernel
theorem d_Fi_burn_49 : decode b_Fi_burn 49 = .ok (.ldc2_w 38, 3) := by decide +kernel
theorem d_Fi_burn_52 : decode b_Fi_burn 52 = .ok (.ldiv, 1) := by decide +kernel
theorem d_Fi_burn_53 : decode b_Fi_burn 53 = .ok (.lstore 4, 2) := by decide +kernel
theorem d_Fi_burn_55 : decode b_Fi_burn 55 = .ok (.aload_n 0, 1) := by decide +kernel
theorem d_Fi_burn_56 : decode b_Fi_burn 56 = .ok (.getfield 7, 3) := by decide +kernel
theorem d_Fi_burn_59 : decode b_Fi_burn 59 = .ok (.lload 4, 2) := by decide +kernel
theorem d_Fi_burn_61 : decode b_Fi_burn 61 = .ok (.lload 4, 2) := by decide +kernel
theorem d_Fi_burn_63 : decode b_Fi_burn 63 = .ok (.aload_n 0, 1) := by decide +kernel
theorem d_Fi_burn_64 : decode b_Fi_burn 64 = .ok (.getfield 23, 3) := by decide +kernel
theorem d_Fi_burn_67 : decode b_Fi_burn 67 = .ok (.i2l, 1) := by decide +kernel
theorem d_Fi_burn_68 : decode b_Fi_burn 68 = .ok (.lmul, 1) := by decide +kernel
theorem d_Fi_burn_69 : decode b_Fi_burn 69 = .ok (.invokevirtual 40, 3) := by decide +kernel
theorem d_Fi_burn_72 : decode b_Fi_burn 72 = .ok (.lload 4, 2) := by decide +kernel
theorem d_Fi_burn_74 : decode b_Fi_burn 74 = .ok (.lreturn, 1) := by decide +kernel
theorem d_Ro_add_0 : decode b_Ro_add 0 = .ok (.aload_n 0, 1) := by decide +kernel
theorem d_Ro_add_1 : decode b_Ro_add 1 = .ok (.dup, 1) := by decide +kernel
theorem d_Ro_add_2 : decode b_Ro_add 2 = .ok (.getfield 28, 3) := by decide +kernel
theorem d_Ro_add_5 : decode b_Ro_add 5 = .ok (.lload_n 1, 1) := by decide +kernel
theorem d_Ro_add_6 : decode b_Ro_add 6 = .ok (.ladd, 1) := by decide +kernel
theorem d_Ro_add_7 : decode b_Ro_add 7 = .ok (.putfield 28, 3) := by decide +kernel
theorem d_Ro_add_10 : decode b_Ro_add 10 = .ok (.aload_n 0, 1) := by decide +kernel
theorem d_Ro_add_11 : decode b_Ro_add 11 = .ok (.dup, 1) := by decide +kernel
theorem d_Ro_add_12 : decode b_Ro_add 12 = .ok (.getfield 31, 3) := by decide +kernel
theorem d_Ro_add_15 : decode b_Ro_add 15 = .ok (.lload_n 3, 1) := by decide +kernel
theorem d_Ro_add_16 : decode b_Ro_add 16 = .ok (.ladd, 1) := by decide +kernel
theorem d_Ro_add_17 : decode b_Ro_add 17 = .ok (.putfield 31, 3) := by decide +kernel
theorem d_Ro_add_20 : decode b_Ro_add 20 = .ok (.return_, 1) := by decide +kernel
theorem d_Op_measureFlow_0 : decode b_Op_measureFlow 0 = .ok (.aload_n 0, 1) := by decide +kernel
theorem d_Op_measureFlow_1 : decode b_Op_measureFlow 1 = .ok (.lconst 0, 1) := by decide +kernel
theorem d_Op_measureFlow_2 : decode b_Op_measureFlow 2 = .ok (.putfield 35, 3) := by decide +kernel
theorem d_Op_measureFlow_5 : decode b_Op_measureFlow 5 = .ok (.aload_n 0, 1) := by decide +kernel
theorem d_Op_measureFlow_6 : decode b_Op_measureFlow 6 = .ok (.lconst 0, 1) := by decide +kernel
theorem d_Op_measureFlow_7 : decode b_Op_measureFlow 7 = .ok (.putfield 39, 3) := by decide +kernel
theorem d_Op_measureFlow_10 : decode b_Op_measureFlow 10 = .ok (.aload_n 0, 1) := by decide +kernel
theorem d_Op_measureFlow_11 : decode b_Op_measureFlow 11 = .ok (.invokevirtual 42, 3) := by decide +kernel
theorem d_Op_measureFlow_14 : decode b_Op_measureFlow 14 = .ok (.ifCond .ne 4, 3) := by decide +kernel
theorem d_Op_measureFlow_17 : decode b_Op_measureFlow 17 = .ok (.return_, 1) := by decide +kernel
theorem d_Op_measureFlow_18 : decode b_Op_measureFlow 18 = .ok (.aload_n 0, 1) := by decide +kernel
theorem d_Op_measureFlow_19 : decode b_Op_measureFlow 19 = .ok (.getfield 9, 3) := by decide +kernel
theorem d_Op_measureFlow_22 : decode b_Op_measureFlow 22 = .ok (.aload_n 0, 1) := by decide +kernel
theorem d_Op_measureFlow_23 : decode b_Op_measureFlow 23 = .ok (.getfield 22, 3) := by decide +kernel
theorem d_Op_measureFlow_26 : decode b_Op_measureFlow 26 = .ok (.aload_n 0, 1) := by decide +kernel
theorem d_Op_measureFlow_27 : decode b_Op_measureFlow 27 = .ok (.getfield 25, 3) := by decide +kernel
theorem d_Op_measureFlow_30 : decode b_Op_measureFlow 30 = .ok (.invokevirtual 46, 3) := by decide +kernel
theorem d_Op_measureFlow_33 : decode b_Op_measureFlow 33 = .ok (.lstore_n 1, 1) := by decide +kernel
theorem d_Op_measureFlow_34 : decode b_Op_measureFlow 34 = .ok (.aload_n 0, 1) := by decide +kernel
theorem d_Op_measureFlow_35 : decode b_Op_measureFlow 35 = .ok (.getfield 15, 3) := by decide +kernel
theorem d_Op_measureFlow_38 : decode b_Op_measureFlow 38 = .ok (.ifnonnull 7, 3) := by decide +kernel
theorem d_Op_measureFlow_41 : decode b_Op_measureFlow 41 = .ok (.lconst 0, 1) := by decide +kernel
theorem d_Op_measureFlow_42 : decode b_Op_measureFlow 42 = .ok (.goto 18, 3) := by decide +kernel
theorem d_Op_measureFlow_45 : decode b_Op_measureFlow 45 = .ok (.aload_n 0, 1) := by decide +kernel
theorem d_Op_measureFlow_46 : decode b_Op_measureFlow 46 = .ok (.getfield 15, 3) := by decide +kernel
theorem d_Op_measureFlow_49 : decode b_Op_measureFlow 49 = .ok (.aload_n 0, 1) := by decide +kernel
theorem d_Op_measureFlow_50 : decode b_Op_measureFlow 50 = .ok (.getfield 22, 3) := by decide +kernel
theorem d_Op_measureFlow_53 : decode b_Op_measureFlow 53 = .ok (.aload_n 0, 1) := by decide +kernel
theorem d_Op_measureFlow_54 : decode b_Op_measureFlow 54 = .ok (.getfield 25, 3) := by decide +kernel
theorem d_Op_measureFlow_57 : decode b_Op_measureFlow 57 = .ok (.invokevirtual 46, 3) := by decide +kernel
theorem d_Op_measureFlow_60 : decode b_Op_measureFlow 60 = .ok (.lstore_n 3, 1) := by decide +kernel
theorem d_Op_measureFlow_61 : decode b_Op_measureFlow 61 = .ok (.lload_n 1, 1) := by decide +kernel
theorem d_Op_measureFlow_62 : decode b_Op_measureFlow 62 = .ok (.lload_n 3, 1) := by decide +kernel
theorem d_Op_measureFlow_63 : decode b_Op_measureFlow 63 = .ok (.lcmp, 1) := by decide +kernel
theorem d_Op_measureFlow_64 : decode b_Op_measureFlow 64 = .ok (.ifCond .le 36, 3) := by decide +kernel
theorem d_Op_measureFlow_67 : decode b_Op_measureFlow 67 = .ok (.aload_n 0, 1) := by decide +kernel
theorem d_Op_measureFlow_68 : decode b_Op_measureFlow 68 = .ok (.aload_n 0, 1) := by decide +kernel
theorem d_Op_measureFlow_69 : decode b_Op_measureFlow 69 = .ok (.aload_n 0, 1) := by decide +kernel
theorem d_Op_measureFlow_70 : decode b_Op_measureFlow 70 = .ok (.getfield 9, 3) := by decide +kernel
theorem d_Op_measureFlow_73 : decode b_Op_measureFlow 73 = .ok (.lload_n 1, 1) := by decide +kernel
theorem d_Op_measureFlow_74 : decode b_Op_measureFlow 74 = .ok (.lload_n 3, 1) := by decide +kernel
theorem d_Op_measureFlow_75 : decode b_Op_measureFlow 75 = .ok (.lsub, 1) := by decide +kernel
theorem d_Op_measureFlow_76 : decode b_Op_measureFlow 76 = .ok (.invokevirtual 52, 3) := by decide +kernel
theorem d_Op_measureFlow_79 : decode b_Op_measureFlow 79 = .ok (.putfield 35, 3) := by decide +kernel
theorem d_Op_measureFlow_82 : decode b_Op_measureFlow 82 = .ok (.aload_n 0, 1) := by decide +kernel
theorem d_Op_measureFlow_83 : decode b_Op_measureFlow 83 = .ok (.aload_n 0, 1) := by decide +kernel
theorem d_Op_measureFlow_84 : decode b_Op_measureFlow 84 = .ok (.getfield 9, 3) := by decide +kernel
theorem d_Op_measureFlow_87 : decode b_Op_measureFlow 87 = .ok (.aload_n 0, 1) := by decide +kernel
theorem d_Op_measureFlow_88 : decode b_Op_measureFlow 88 = .ok (.getfield 35, 3) := by decide +kernel
theorem d_Op_measureFlow_91 : decode b_Op_measureFlow 91 = .ok (.invokevirtual 56, 3) := by decide +kernel
theorem d_Op_measureFlow_94 : decode b_Op_measureFlow 94 = .ok (.putfield 39, 3) := by decide +kernel
theorem d_Op_measureFlow_97 : decode b_Op_measureFlow 97 = .ok (.goto 49, 3) := by decide +kernel
theorem d_Op_measureFlow_100 : decode b_Op_measureFlow 100 = .ok (.aload_n 0, 1) := by decide +kernel
theorem d_Op_measureFlow_101 : decode b_Op_measureFlow 101 = .ok (.getfield 15, 3) := by decide +kernel
theorem d_Op_measureFlow_104 : decode b_Op_measureFlow 104 = .ok (.ifnull 42, 3) := by decide +kernel
theorem d_Op_measureFlow_107 : decode b_Op_measureFlow 107 = .ok (.lload_n 3, 1) := by decide +kernel
theorem d_Op_measureFlow_108 : decode b_Op_measureFlow 108 = .ok (.lload_n 1, 1) := by decide +kernel
theorem d_Op_measureFlow_109 : decode b_Op_measureFlow 109 = .ok (.lcmp, 1) := by decide +kernel
theorem d_Op_measureFlow_110 : decode b_Op_measureFlow 110 = .ok (.ifCond .le 36, 3) := by decide +kernel
theorem d_Op_measureFlow_113 : decode b_Op_measureFlow 113 = .ok (.aload_n 0, 1) := by decide +kernel
theorem d_Op_measureFlow_114 : decode b_Op_measureFlow 114 = .ok (.aload_n 0, 1) := by decide +kernel
theorem d_Op_measureFlow_115 : decode b_Op_measureFlow 115 = .ok (.getfield 15, 3) := by decide +kernel
theorem d_Op_measureFlow_118 : decode b_Op_measureFlow 118 = .ok (.lload_n 3, 1) := by decide +kernel
theorem d_Op_measureFlow_119 : decode b_Op_measureFlow 119 = .ok (.lload_n 1, 1) := by decide +kernel
theorem d_Op_measureFlow_120 : decode b_Op_measureFlow 120 = .ok (.lsub, 1) := by decide +kernel
theorem d_Op_measureFlow_121 : decode b_Op_measureFlow 121 = .ok (.invokevirtual 52, 3) := by decide +kernel
theorem d_Op_measureFlow_124 : decode b_Op_measureFlow 124 = .ok (.lstore 5, 2) := by decide +kernel
theorem d_Op_measureFlow_126 : decode b_Op_measureFlow 126 = .ok (.aload_n 0, 1) := by decide +kernel
theorem d_Op_measureFlow_127 : decode b_Op_measureFlow 127 = .ok (.lload 5, 2) := by decide +kernel
theorem d_Op_measureFlow_129 : decode b_Op_measureFlow 129 = .ok (.lneg, 1) := by decide +kernel
theorem d_Op_measureFlow_130 : decode b_Op_measureFlow 130 = .ok (.putfield 35, 3) := by decide +kernel
theorem d_Op_measureFlow_133 : decode b_Op_measureFlow 133 = .ok (.aload_n 0, 1) := by decide +kernel
theorem d_Op_measureFlow_134 : decode b_Op_measureFlow 134 = .ok (.aload_n 0, 1) := by decide +kernel
theorem d_Op_measureFlow_135 : decode b_Op_measureFlow 135 = .ok (.getfield 15, 3) := by decide +kernel
theorem d_Op_measureFlow_138 : decode b_Op_measureFlow 138 = .ok (.lload 5, 2) := by decide +kernel
theorem d_Op_measureFlow_140 : decode b_Op_measureFlow 140 = .ok (.invokevirtual 56, 3) := by decide +kernel
theorem d_Op_measureFlow_143 : decode b_Op_measureFlow 143 = .ok (.putfield 39, 3) := by decide +kernel
theorem d_Op_measureFlow_146 : decode b_Op_measureFlow 146 = .ok (.return_, 1) := by decide +kernel
theorem d_Op_isOpen_0 : decode b_Op_isOpen 0 = .ok (.aload_n 0, 1) := by decide +kernel
theorem d_Op_isOpen_1 : decode b_Op_isOpen 1 = .ok (.getfield 28, 3) := by decide +kernel
theorem d_Op_isOpen_4 : decode b_Op_isOpen 4 = .ok (.iconst (-1), 1) := by decide +kernel
theorem d_Op_isOpen_5 : decode b_Op_isOpen 5 = .ok (.if_icmp .eq 10, 3) := by decide +kernel
theorem d_Op_isOpen_8 : decode b_Op_isOpen 8 = .ok (.aload_n 0, 1) := by decide +kernel
theorem d_Op_isOpen_9 : decode b_Op_isOpen 9 = .ok (.getfield 31, 3) := by decide +kernel
theorem d_Op_isOpen_12 : decode b_Op_isOpen 12 = .ok (.ifCond .eq 7, 3) := by decide +kernel
theorem d_Op_isOpen_15 : decode b_Op_isOpen 15 = .ok (.iconst 1, 1) := by decide +kernel
theorem d_Op_isOpen_16 : decode b_Op_isOpen 16 = .ok (.goto 4, 3) := by decide +kernel
theorem d_Op_isOpen_19 : decode b_Op_isOpen 19 = .ok (.iconst 0, 1) := by decide +kernel
theorem d_Op_isOpen_20 : decode b_Op_isOpen 20 = .ok (.ireturn, 1) := by decide +kernel
theorem d_Ro_covered_0 : decode b_Ro_covered 0 = .ok (.lconst 0, 1) := by decide +kernel
theorem d_Ro_covered_1 : decode b_Ro_covered 1 = .ok (.iload_n 2, 1) := by decide +kernel
theorem d_Ro_covered_2 : decode b_Ro_covered 2 = .ok (.i2l, 1) := by decide +kernel
theorem d_Ro_covered_3 : decode b_Ro_covered 3 = .ok (.iload_n 1, 1) := by decide +kernel
theorem d_Ro_covered_4 : decode b_Ro_covered 4 = .ok (.i2l, 1) := by decide +kernel
theorem d_Ro_covered_5 : decode b_Ro_covered 5 = .ok (.aload_n 0, 1) := by decide +kernel
theorem d_Ro_covered_6 : decode b_Ro_covered 6 = .ok (.invokevirtual 38, 3) := by decide +kernel
theorem d_Ro_covered_9 : decode b_Ro_covered 9 = .ok (.invokestatic 43, 3) := by decide +kernel
theorem d_Ro_covered_12 : decode b_Ro_covered 12 = .ok (.lsub, 1) := by decide +kernel
theorem d_Ro_covered_13 : decode b_Ro_covered 13 = .ok (.invokestatic 43, 3) := by decide +kernel
theorem d_Ro_covered_16 : decode b_Ro_covered 16 = .ok (.lreturn, 1) := by decide +kernel
theorem d_Ro_clear_0 : decode b_Ro_clear 0 = .ok (.aload_n 0, 1) := by decide +kernel
theorem d_Ro_clear_1 : decode b_Ro_clear 1 = .ok (.getfield 15, 3) := by decide +kernel
theorem d_Ro_clear_4 : decode b_Ro_clear 4 = .ok (.i2l, 1) := by decide +kernel
theorem d_Ro_clear_5 : decode b_Ro_clear 5 = .ok (.aload_n 0, 1) := by decide +kernel
theorem d_Ro_clear_6 : decode b_Ro_clear 6 = .ok (.invokevirtual 34, 3) := by decide +kernel
theorem d_Ro_clear_9 : decode b_Ro_clear 9 = .ok (.lsub, 1) := by decide +kernel
theorem d_Ro_clear_10 : decode b_Ro_clear 10 = .ok (.lreturn, 1) := by decide +kernel
theorem d_Ro_depth_0 : decode b_Ro_depth 0 = .ok (.aload_n 0, 1) := by decide +kernel
theorem d_Ro_depth_1 : decode b_Ro_depth 1 = .ok (.getfield 9, 3) := by decide +kernel
theorem d_Ro_depth_4 : decode b_Ro_depth 4 = .ok (.iconst 1, 1) := by decide +kernel
theorem d_Ro_depth_5 : decode b_Ro_depth 5 = .ok (.if_icmp .ge 7, 3) := by decide +kernel
theorem d_Ro_depth_8 : decode b_Ro_depth 8 = .ok (.lconst 0, 1) := by decide +kernel
theorem d_Ro_depth_9 : decode b_Ro_depth 9 = .ok (.goto 13, 3) := by decide +kernel
theorem d_Ro_depth_12 : decode b_Ro_depth 12 = .ok (.aload_n 0, 1) := by decide +kernel
theorem d_Ro_depth_13 : decode b_Ro_depth 13 = .ok (.getfield 28, 3) := by decide +kernel
theorem d_Ro_depth_16 : decode b_Ro_depth 16 = .ok (.aload_n 0, 1) := by decide +kernel
theorem d_Ro_depth_17 : decode b_Ro_depth 17 = .ok (.getfield 9, 3) := by decide +kernel
theorem d_Ro_depth_20 : decode b_Ro_depth 20 = .ok (.i2l, 1) := by decide +kernel
theorem d_Ro_depth_21 : decode b_Ro_depth 21 = .ok (.ldiv, 1) := by decide +kernel
theorem d_Ro_depth_22 : decode b_Ro_depth 22 = .ok (.lreturn, 1) := by decide +kernel
theorem d_Op_flowFrom_0 : decode b_Op_flowFrom 0 = .ok (.iconst 5, 1) := by decide +kernel
theorem d_Op_flowFrom_1 : decode b_Op_flowFrom 1 = .ok (.aload_n 0, 1) := by decide +kernel
theorem d_Op_flowFrom_2 : decode b_Op_flowFrom 2 = .ok (.getfield 18, 3) := by decide +kernel
theorem d_Op_flowFrom_5 : decode b_Op_flowFrom 5 = .ok (.imul, 1) := by decide +kernel
theorem d_Op_flowFrom_6 : decode b_Op_flowFrom 6 = .ok (.i2l, 1) := by decide +kernel
theorem d_Op_flowFrom_7 : decode b_Op_flowFrom 7 = .ok (.lload_n 2, 1) := by decide +kernel
theorem d_Op_flowFrom_8 : decode b_Op_flowFrom 8 = .ok (.lmul, 1) := by decide +kernel
theorem d_Op_flowFrom_9 : decode b_Op_flowFrom 9 = .ok (.aload_n 1, 1) := by decide +kernel
theorem d_Op_flowFrom_10 : decode b_Op_flowFrom 10 = .ok (.getfield 60, 3) := by decide +kernel
theorem d_Op_flowFrom_13 : decode b_Op_flowFrom 13 = .ok (.ldc2_w 63, 3) := by decide +kernel
theorem d_Op_flowFrom_16 : decode b_Op_flowFrom 16 = .ok (.ldiv, 1) := by decide +kernel
theorem d_Op_flowFrom_17 : decode b_Op_flowFrom 17 = .ok (.invokestatic 65, 3) := by decide +kernel
theorem d_Op_flowFrom_20 : decode b_Op_flowFrom 20 = .ok (.lreturn, 1) := by decide +kernel
theorem d_Ro_heatWith_0 : decode b_Ro_heatWith 0 = .ok (.aload_n 0, 1) := by decide +kernel
theorem d_Ro_heatWith_1 : decode b_Ro_heatWith 1 = .ok (.getfield 28, 3) := by decide +kernel
theorem d_Ro_heatWith_4 : decode b_Ro_heatWith 4 = .ok (.lconst 1, 1) := by decide +kernel
theorem d_Ro_heatWith_5 : decode b_Ro_heatWith 5 = .ok (.lcmp, 1) := by decide +kernel
theorem d_Ro_heatWith_6 : decode b_Ro_heatWith 6 = .ok (.ifCond .ge 7, 3) := by decide +kernel
theorem d_Ro_heatWith_9 : decode b_Ro_heatWith 9 = .ok (.lconst 0, 1) := by decide +kernel
theorem d_Ro_heatWith_10 : decode b_Ro_heatWith 10 = .ok (.goto 14, 3) := by decide +kernel
theorem d_Ro_heatWith_13 : decode b_Ro_heatWith 13 = .ok (.aload_n 0, 1) := by decide +kernel
theorem d_Ro_heatWith_14 : decode b_Ro_heatWith 14 = .ok (.getfield 31, 3) := by decide +kernel
theorem d_Ro_heatWith_17 : decode b_Ro_heatWith 17 = .ok (.lload_n 1, 1) := by decide +kernel
theorem d_Ro_heatWith_18 : decode b_Ro_heatWith 18 = .ok (.lmul, 1) := by decide +kernel
theorem d_Ro_heatWith_19 : decode b_Ro_heatWith 19 = .ok (.aload_n 0, 1) := by decide +kernel
theorem d_Ro_heatWith_20 : decode b_Ro_heatWith 20 = .ok (.getfield 28, 3) := by decide +kernel
theorem d_Ro_heatWith_23 : decode b_Ro_heatWith 23 = .ok (.ldiv, 1) := by decide +kernel
theorem d_Ro_heatWith_24 : decode b_Ro_heatWith 24 = .ok (.lreturn, 1) := by decide +kernel
theorem d_Op_moveFlow_0 : decode b_Op_moveFlow 0 = .ok (.aload_n 0, 1) := by decide +kernel
theorem d_Op_moveFlow_1 : decode b_Op_moveFlow 1 = .ok (.dup, 1) := by decide +kernel
theorem d_Op_moveFlow_2 : decode b_Op_moveFlow 2 = .ok (.getfield 71, 3) := by decide +kernel
theorem d_Op_moveFlow_5 : decode b_Op_moveFlow 5 = .ok (.aload_n 0, 1) := by decide +kernel
theorem d_Op_moveFlow_6 : decode b_Op_moveFlow 6 = .ok (.getfield 35, 3) := by decide +kernel
theorem d_Op_moveFlow_9 : decode b_Op_moveFlow 9 = .ok (.invokestatic 74, 3) := by decide +kernel
theorem d_Op_moveFlow_12 : decode b_Op_moveFlow 12 = .ok (.ladd, 1) := by decide +kernel
theorem d_Op_moveFlow_13 : decode b_Op_moveFlow 13 = .ok (.putfield 71, 3) := by decide +kernel
theorem d_Op_moveFlow_16 : decode b_Op_moveFlow 16 = .ok (.aload_n 0, 1) := by decide +kernel
theorem d_Op_moveFlow_17 : decode b_Op_moveFlow 17 = .ok (.getfield 9, 3) := by decide +kernel
theorem d_Op_moveFlow_20 : decode b_Op_moveFlow 20 = .ok (.aload_n 0, 1) := by decide +kernel
theorem d_Op_moveFlow_21 : decode b_Op_moveFlow 21 = .ok (.getfield 35, 3) := by decide +kernel
theorem d_Op_moveFlow_24 : decode b_Op_moveFlow 24 = .ok (.lneg, 1) := by decide +kernel
theorem d_Op_moveFlow_25 : decode b_Op_moveFlow 25 = .ok (.aload_n 0, 1) := by decide +kernel
theorem d_Op_moveFlow_26 : decode b_Op_moveFlow 26 = .ok (.getfield 35, 3) := by decide +kernel
theorem d_Op_moveFlow_29 : decode b_Op_moveFlow 29 = .ok (.lconst 0, 1) := by decide +kernel
theorem d_Op_moveFlow_30 : decode b_Op_moveFlow 30 = .ok (.lcmp, 1) := by decide +kernel
theorem d_Op_moveFlow_31 : decode b_Op_moveFlow 31 = .ok (.ifCond .ge 10, 3) := by decide +kernel
theorem d_Op_moveFlow_34 : decode b_Op_moveFlow 34 = .ok (.aload_n 0, 1) := by decide +kernel
theorem d_Op_moveFlow_35 : decode b_Op_moveFlow 35 = .ok (.getfield 39, 3) := by decide +kernel
theorem d_Op_moveFlow_38 : decode b_Op_moveFlow 38 = .ok (.goto 8, 3) := by decide +kernel
theorem d_Op_moveFlow_41 : decode b_Op_moveFlow 41 = .ok (.aload_n 0, 1) := by decide +kernel
theorem d_Op_moveFlow_42 : decode b_Op_moveFlow 42 = .ok (.getfield 39, 3) := by decide +kernel
theorem d_Op_moveFlow_45 : decode b_Op_moveFlow 45 = .ok (.lneg, 1) := by decide +kernel
theorem d_Op_moveFlow_46 : decode b_Op_moveFlow 46 = .ok (.invokevirtual 77, 3) := by decide +kernel
theorem d_Op_moveFlow_49 : decode b_Op_moveFlow 49 = .ok (.aload_n 0, 1) := by decide +kernel
theorem d_Op_moveFlow_50 : decode b_Op_moveFlow 50 = .ok (.getfield 15, 3) := by decide +kernel
theorem d_Op_moveFlow_53 : decode b_Op_moveFlow 53 = .ok (.ifnonnull 8, 3) := by decide +kernel
theorem d_Op_moveFlow_56 : decode b_Op_moveFlow 56 = .ok (.aload_n 0, 1) := by decide +kernel
theorem d_Op_moveFlow_57 : decode b_Op_moveFlow 57 = .ok (.getfield 35, 3) := by decide +kernel
theorem d_Op_moveFlow_60 : decode b_Op_moveFlow 60 = .ok (.lreturn, 1) := by decide +kernel
theorem d_Op_moveFlow_61 : decode b_Op_moveFlow 61 = .ok (.aload_n 0, 1) := by decide +kernel
theorem d_Op_moveFlow_62 : decode b_Op_moveFlow 62 = .ok (.getfield 15, 3) := by decide +kernel
theorem d_Op_moveFlow_65 : decode b_Op_moveFlow 65 = .ok (.aload_n 0, 1) := by decide +kernel
theorem d_Op_moveFlow_66 : decode b_Op_moveFlow 66 = .ok (.getfield 35, 3) := by decide +kernel
theorem d_Op_moveFlow_69 : decode b_Op_moveFlow 69 = .ok (.aload_n 0, 1) := by decide +kernel
theorem d_Op_moveFlow_70 : decode b_Op_moveFlow 70 = .ok (.getfield 35, 3) := by decide +kernel
theorem d_Op_moveFlow_73 : decode b_Op_moveFlow 73 = .ok (.lconst 0, 1) := by decide +kernel
theorem d_Op_moveFlow_74 : decode b_Op_moveFlow 74 = .ok (.lcmp, 1) := by decide +kernel
theorem d_Op_moveFlow_75 : decode b_Op_moveFlow 75 = .ok (.ifCond .ge 11, 3) := by decide +kernel
theorem d_Op_moveFlow_78 : decode b_Op_moveFlow 78 = .ok (.aload_n 0, 1) := by decide +kernel
theorem d_Op_moveFlow_79 : decode b_Op_moveFlow 79 = .ok (.getfield 39, 3) := by decide +kernel
theorem d_Op_moveFlow_82 : decode b_Op_moveFlow 82 = .ok (.lneg, 1) := by decide +kernel
theorem d_Op_moveFlow_83 : decode b_Op_moveFlow 83 = .ok (.goto 7, 3) := by decide +kernel
theorem d_Op_moveFlow_86 : decode b_Op_moveFlow 86 = .ok (.aload_n 0, 1) := by decide +kernel
theorem d_Op_moveFlow_87 : decode b_Op_moveFlow 87 = .ok (.getfield 39, 3) := by decide +kernel
theorem d_Op_moveFlow_90 : decode b_Op_moveFlow 90 = .ok (.invokevirtual 77, 3) := by decide +kernel
theorem d_Op_moveFlow_93 : decode b_Op_moveFlow 93 = .ok (.lconst 0, 1) := by decide +kernel
theorem d_Op_moveFlow_94 : decode b_Op_moveFlow 94 = .ok (.lreturn, 1) := by decide +kernel
theorem d_Fa_blow_0 : decode b_Fa_blow 0 = .ok (.iload_n 1, 1) := by decide +kernel
theorem d_Fa_blow_1 : decode b_Fa_blow 1 = .ok (.aload_n 0, 1) := by decide +kernel
theorem d_Fa_blow_2 : decode b_Fa_blow 2 = .ok (.getfield 13, 3) := by decide +kernel
theorem d_Fa_blow_5 : decode b_Fa_blow 5 = .ok (.if_icmp .ge 5, 3) := by decide +kernel
theorem d_Fa_blow_8 : decode b_Fa_blow 8 = .ok (.lconst 0, 1) := by decide +kernel
theorem d_Fa_blow_9 : decode b_Fa_blow 9 = .ok (.lreturn, 1) := by decide +kernel
theorem d_Fa_blow_10 : decode b_Fa_blow 10 = .ok (.aload_n 0, 1) := by decide +kernel
theorem d_Fa_blow_11 : decode b_Fa_blow 11 = .ok (.getfield 17, 3) := by decide +kernel
theorem d_Fa_blow_14 : decode b_Fa_blow 14 = .ok (.i2l, 1) := by decide +kernel
theorem d_Fa_blow_15 : decode b_Fa_blow 15 = .ok (.aload_n 0, 1) := by decide +kernel
theorem d_Fa_blow_16 : decode b_Fa_blow 16 = .ok (.getfield 7, 3) := by decide +kernel
theorem d_Fa_blow_19 : decode b_Fa_blow 19 = .ok (.getfield 20, 3) := by decide +kernel
theorem d_Fa_blow_22 : decode b_Fa_blow 22 = .ok (.invokestatic 26, 3) := by decide +kernel
theorem d_Fa_blow_25 : decode b_Fa_blow 25 = .ok (.lstore_n 2, 1) := by decide +kernel
theorem d_Fa_blow_26 : decode b_Fa_blow 26 = .ok (.aload_n 0, 1) := by decide +kernel
theorem d_Fa_blow_27 : decode b_Fa_blow 27 = .ok (.getfield 7, 3) := by decide +kernel
theorem d_Fa_blow_30 : decode b_Fa_blow 30 = .ok (.lload_n 2, 1) := by decide +kernel
theorem d_Fa_blow_31 : decode b_Fa_blow 31 = .ok (.lneg, 1) := by decide +kernel
theorem d_Fa_blow_32 : decode b_Fa_blow 32 = .ok (.aload_n 0, 1) := by decide +kernel
theorem d_Fa_blow_33 : decode b_Fa_blow 33 = .ok (.getfield 7, 3) := by decide +kernel
theorem d_Fa_blow_36 : decode b_Fa_blow 36 = .ok (.lload_n 2, 1) := by decide +kernel
theorem d_Fa_blow_37 : decode b_Fa_blow 37 = .ok (.invokevirtual 32, 3) := by decide +kernel
theorem d_Fa_blow_40 : decode b_Fa_blow 40 = .ok (.lneg, 1) := by decide +kernel
theorem d_Fa_blow_41 : decode b_Fa_blow 41 = .ok (.invokevirtual 36, 3) := by decide +kernel
theorem d_Fa_blow_44 : decode b_Fa_blow 44 = .ok (.lload_n 2, 1) := by decide +kernel
theorem d_Fa_blow_45 : decode b_Fa_blow 45 = .ok (.lreturn, 1) := by decide +kernel
theorem d_Ro_pressOut_0 : decode b_Ro_pressOut 0 = .ok (.aload_n 0, 1) := by decide +kernel
theorem d_Ro_pressOut_1 : decode b_Ro_pressOut 1 = .ok (.getfield 28, 3) := by decide +kernel
theorem d_Ro_pressOut_4 : decode b_Ro_pressOut 4 = .ok (.aload_n 0, 1) := by decide +kernel
theorem d_Ro_pressOut_5 : decode b_Ro_pressOut 5 = .ok (.getfield 18, 3) := by decide +kernel
theorem d_Ro_pressOut_8 : decode b_Ro_pressOut 8 = .ok (.lcmp, 1) := by decide +kernel
theorem d_Ro_pressOut_9 : decode b_Ro_pressOut 9 = .ok (.ifCond .gt 5, 3) := by decide +kernel
theorem d_Ro_pressOut_12 : decode b_Ro_pressOut 12 = .ok (.lconst 0, 1) := by decide +kernel
theorem d_Ro_pressOut_13 : decode b_Ro_pressOut 13 = .ok (.lreturn, 1) := by decide +kernel
theorem d_Ro_pressOut_14 : decode b_Ro_pressOut 14 = .ok (.aload_n 0, 1) := by decide +kernel
theorem d_Ro_pressOut_15 : decode b_Ro_pressOut 15 = .ok (.getfield 28, 3) := by decide +kernel
theorem d_Ro_pressOut_18 : decode b_Ro_pressOut 18 = .ok (.aload_n 0, 1) := by decide +kernel
theorem d_Ro_pressOut_19 : decode b_Ro_pressOut 19 = .ok (.getfield 18, 3) := by decide +kernel
theorem d_Ro_pressOut_22 : decode b_Ro_pressOut 22 = .ok (.lsub, 1) := by decide +kernel
theorem d_Ro_pressOut_23 : decode b_Ro_pressOut 23 = .ok (.lstore_n 1, 1) := by decide +kernel
theorem d_Ro_pressOut_24 : decode b_Ro_pressOut 24 = .ok (.aload_n 0, 1) := by decide +kernel
theorem d_Ro_pressOut_25 : decode b_Ro_pressOut 25 = .ok (.aload_n 0, 1) := by decide +kernel
theorem d_Ro_pressOut_26 : decode b_Ro_pressOut 26 = .ok (.aload_n 0, 1) := by decide +kernel
theorem d_Ro_pressOut_27 : decode b_Ro_pressOut 27 = .ok (.getfield 18, 3) := by decide +kernel
theorem d_Ro_pressOut_30 : decode b_Ro_pressOut 30 = .ok (.invokevirtual 49, 3) := by decide +kernel
theorem d_Ro_pressOut_33 : decode b_Ro_pressOut 33 = .ok (.putfield 31, 3) := by decide +kernel
theorem d_Ro_pressOut_36 : decode b_Ro_pressOut 36 = .ok (.aload_n 0, 1) := by decide +kernel
theorem d_Ro_pressOut_37 : decode b_Ro_pressOut 37 = .ok (.aload_n 0, 1) := by decide +kernel
theorem d_Ro_pressOut_38 : decode b_Ro_pressOut 38 = .ok (.getfield 18, 3) := by decide +kernel
theorem d_Ro_pressOut_41 : decode b_Ro_pressOut 41 = .ok (.putfield 28, 3) := by decide +kernel
theorem d_Ro_pressOut_44 : decode b_Ro_pressOut 44 = .ok (.lload_n 1, 1) := by decide +kernel
theorem d_Ro_pressOut_45 : decode b_Ro_pressOut 45 = .ok (.lreturn, 1) := by decide +kernel
theorem d_Ro_testSprinkler_0 : decode b_Ro_testSprinkler 0 = .ok (.aload_n 0, 1) := by decide +kernel
theorem d_Ro_testSprinkler_1 : decode b_Ro_testSprinkler 1 = .ok (.getfield 22, 3) := by decide +kernel
theorem d_Ro_testSprinkler_4 : decode b_Ro_testSprinkler 4 = .ok (.iconst (-1), 1) := by decide +kernel
theorem d_Ro_testSprinkler_5 : decode b_Ro_testSprinkler 5 = .ok (.if_icmp .eq 21, 3) := by decide +kernel
theorem d_Ro_testSprinkler_8 : decode b_Ro_testSprinkler 8 = .ok (.aload_n 0, 1) := by decide +kernel
theorem d_Ro_testSprinkler_9 : decode b_Ro_testSprinkler 9 = .ok (.invokevirtual 53, 3) := by decide +kernel
theorem d_Ro_testSprinkler_12 : decode b_Ro_testSprinkler 12 = .ok (.aload_n 0, 1) := by decide +kernel
theorem d_Ro_testSprinkler_13 : decode b_Ro_testSprinkler 13 = .ok (.getfield 22, 3) := by decide +kernel
theorem d_Ro_testSprinkler_16 : decode b_Ro_testSprinkler 16 = .ok (.i2l, 1) := by decide +kernel
theorem d_Ro_testSprinkler_17 : decode b_Ro_testSprinkler 17 = .ok (.lcmp, 1) := by decide +kernel
theorem d_Ro_testSprinkler_18 : decode b_Ro_testSprinkler 18 = .ok (.ifCond .lt 8, 3) := by decide +kernel
theorem d_Ro_testSprinkler_21 : decode b_Ro_testSprinkler 21 = .ok (.aload_n 0, 1) := by decide +kernel
theorem d_Ro_testSprinkler_22 : decode b_Ro_testSprinkler 22 = .ok (.iconst 1, 1) := by decide +kernel
theorem d_Ro_testSprinkler_23 : decode b_Ro_testSprinkler 23 = .ok (.putfield 56, 3) := by decide +kernel
theorem d_Ro_testSprinkler_26 : decode b_Ro_testSprinkler 26 = .ok (.return_, 1) := by decide +kernel
theorem d_Ro_warmth_0 : decode b_Ro_warmth 0 = .ok (.aload_n 0, 1) := by decide +kernel
theorem d_Ro_warmth_1 : decode b_Ro_warmth 1 = .ok (.getfield 28, 3) := by decide +kernel
theorem d_Ro_warmth_4 : decode b_Ro_warmth 4 = .ok (.lconst 1, 1) := by decide +kernel
theorem d_Ro_warmth_5 : decode b_Ro_warmth 5 = .ok (.lcmp, 1) := by decide +kernel
theorem d_Ro_warmth_6 : decode b_Ro_warmth 6 = .ok (.ifCond .ge 7, 3) := by decide +kernel
theorem d_Ro_warmth_9 : decode b_Ro_warmth 9 = .ok (.lconst 0, 1) := by decide +kernel
theorem d_Ro_warmth_10 : decode b_Ro_warmth 10 = .ok (.goto 12, 3) := by decide +kernel
theorem d_Ro_warmth_13 : decode b_Ro_warmth 13 = .ok (.aload_n 0, 1) := by decide +kernel
theorem d_Ro_warmth_14 : decode b_Ro_warmth 14 = .ok (.getfield 31, 3) := by decide +kernel
theorem d_Ro_warmth_17 : decode b_Ro_warmth 17 = .ok (.aload_n 0, 1) := by decide +kernel
theorem d_Ro_warmth_18 : decode b_Ro_warmth 18 = .ok (.getfield 28, 3) := by decide +kernel
theorem d_Ro_warmth_21 : decode b_Ro_warmth 21 = .ok (.ldiv, 1) := by decide +kernel
theorem d_Ro_warmth_22 : decode b_Ro_warmth 22 = .ok (.lreturn, 1) := by decide +kernel
theorem d_Op_testGlass_0 : decode b_Op_testGlass 0 = .ok (.aload_n 0, 1) := by decide +kernel
theorem d_Op_testGlass_1 : decode b_Op_testGlass 1 = .ok (.invokevirtual 42, 3) := by decide +kernel
theorem d_Op_testGlass_4 : decode b_Op_testGlass 4 = .ok (.ifCond .ne 30, 3) := by decide +kernel
theorem d_Op_testGlass_7 : decode b_Op_testGlass 7 = .ok (.aload_n 0, 1) := by decide +kernel
theorem d_Op_testGlass_8 : decode b_Op_testGlass 8 = .ok (.aload_n 0, 1) := by decide +kernel
theorem d_Op_testGlass_9 : decode b_Op_testGlass 9 = .ok (.getfield 9, 3) := by decide +kernel
theorem d_Op_testGlass_12 : decode b_Op_testGlass 12 = .ok (.invokevirtual 81, 3) := by decide +kernel
theorem d_Op_testGlass_15 : decode b_Op_testGlass 15 = .ok (.ifCond .ne 14, 3) := by decide +kernel
theorem d_Op_testGlass_18 : decode b_Op_testGlass 18 = .ok (.aload_n 0, 1) := by decide +kernel
theorem d_Op_testGlass_19 : decode b_Op_testGlass 19 = .ok (.aload_n 0, 1) := by decide +kernel
theorem d_Op_testGlass_20 : decode b_Op_testGlass 20 = .ok (.getfield 15, 3) := by decide +kernel
theorem d_Op_testGlass_23 : decode b_Op_testGlass 23 = .ok (.invokevirtual 81, 3) := by decide +kernel
theorem d_Op_testGlass_26 : decode b_Op_testGlass 26 = .ok (.ifCond .eq 8, 3) := by decide +kernel
theorem d_Op_testGlass_29 : decode b_Op_testGlass 29 = .ok (.aload_n 0, 1) := by decide +kernel
theorem d_Op_testGlass_30 : decode b_Op_testGlass 30 = .ok (.iconst 1, 1) := by decide +kernel
theorem d_Op_testGlass_31 : decode b_Op_testGlass 31 = .ok (.putfield 31, 3) := by decide +kernel
theorem d_Op_testGlass_34 : decode b_Op_testGlass 34 = .ok (.return_, 1) := by decide +kernel
theorem d_Op_isHot_0 : decode b_Op_isHot 0 = .ok (.aload_n 1, 1) := by decide +kernel
theorem d_Op_isHot_1 : decode b_Op_isHot 1 = .ok (.ifnull 20, 3) := by decide +kernel
theorem d_Op_isHot_4 : decode b_Op_isHot 4 = .ok (.aload_n 1, 1) := by decide +kernel
theorem d_Op_isHot_5 : decode b_Op_isHot 5 = .ok (.invokevirtual 85, 3) := by decide +kernel
theorem d_Op_isHot_8 : decode b_Op_isHot 8 = .ok (.aload_n 0, 1) := by decide +kernel
theorem d_Op_isHot_9 : decode b_Op_isHot 9 = .ok (.getfield 28, 3) := by decide +kernel
theorem d_Op_isHot_12 : decode b_Op_isHot 12 = .ok (.i2l, 1) := by decide +kernel
theorem d_Op_isHot_13 : decode b_Op_isHot 13 = .ok (.lcmp, 1) := by decide +kernel
theorem d_Op_isHot_14 : decode b_Op_isHot 14 = .ok (.ifCond .lt 7, 3) := by decide +kernel
theorem d_Op_isHot_17 : decode b_Op_isHot 17 = .ok (.iconst 1, 1) := by decide +kernel
theorem d_Op_isHot_18 : decode b_Op_isHot 18 = .ok (.goto 4, 3) := by decide +kernel
theorem d_Op_isHot_21 : decode b_Op_isHot 21 = .ok (.iconst 0, 1) := by decide +kernel
theorem d_Op_isHot_22 : decode b_Op_isHot 22 = .ok (.ireturn, 1) := by decide +kernel
theorem d_St_getWarm_0 : decode b_St_getWarm 0 = .ok (.aload_n 0, 1) := by decide +kernel
theorem d_St_getWarm_1 : decode b_St_getWarm 1 = .ok (.getfield 13, 3) := by decide +kernel
theorem d_St_getWarm_4 : decode b_St_getWarm 4 = .ok (.ifCond .le 32, 3) := by decide +kernel
theorem d_St_getWarm_7 : decode b_St_getWarm 7 = .ok (.aload_n 0, 1) := by decide +kernel
theorem d_St_getWarm_8 : decode b_St_getWarm 8 = .ok (.dup, 1) := by decide +kernel
theorem d_St_getWarm_9 : decode b_St_getWarm 9 = .ok (.getfield 17, 3) := by decide +kernel
theorem d_St_getWarm_12 : decode b_St_getWarm 12 = .ok (.aload_n 0, 1) := by decide +kernel
theorem d_St_getWarm_13 : decode b_St_getWarm 13 = .ok (.getfield 7, 3) := by decide +kernel
theorem d_St_getWarm_16 : decode b_St_getWarm 16 = .ok (.invokevirtual 20, 3) := by decide +kernel
theorem d_St_getWarm_19 : decode b_St_getWarm 19 = .ok (.aload_n 0, 1) := by decide +kernel
theorem d_St_getWarm_20 : decode b_St_getWarm 20 = .ok (.getfield 17, 3) := by decide +kernel
theorem d_St_getWarm_23 : decode b_St_getWarm 23 = .ok (.i2l, 1) := by decide +kernel
theorem d_St_getWarm_24 : decode b_St_getWarm 24 = .ok (.lsub, 1) := by decide +kernel
theorem d_St_getWarm_25 : decode b_St_getWarm 25 = .ok (.aload_n 0, 1) := by decide +kernel
theorem d_St_getWarm_26 : decode b_St_getWarm 26 = .ok (.getfield 13, 3) := by decide +kernel
theorem d_St_getWarm_29 : decode b_St_getWarm 29 = .ok (.i2l, 1) := by decide +kernel
theorem d_St_getWarm_30 : decode b_St_getWarm 30 = .ok (.ldiv, 1) := by decide +kernel
theorem d_St_getWarm_31 : decode b_St_getWarm 31 = .ok (.l2i, 1) := by decide +kernel
theorem d_St_getWarm_32 : decode b_St_getWarm 32 = .ok (.iadd, 1) := by decide +kernel
theorem d_St_getWarm_33 : decode b_St_getWarm 33 = .ok (.putfield 17, 3) := by decide +kernel
theorem d_St_getWarm_36 : decode b_St_getWarm 36 = .ok (.return_, 1) := by decide +kernel
theorem d_Pe_walk_0 : decode b_Pe_walk 0 = .ok (.aload_n 0, 1) := by decide +kernel
theorem d_Pe_walk_1 : decode b_Pe_walk 1 = .ok (.getfield 28, 3) := by decide +kernel
theorem d_Pe_walk_4 : decode b_Pe_walk 4 = .ok (.aload_n 0, 1) := by decide +kernel
theorem d_Pe_walk_5 : decode b_Pe_walk 5 = .ok (.getfield 25, 3) := by decide +kernel
theorem d_Pe_walk_8 : decode b_Pe_walk 8 = .ok (.if_icmp .ge 39, 3) := by decide +kernel
theorem d_Pe_walk_11 : decode b_Pe_walk 11 = .ok (.aload_n 0, 1) := by decide +kernel
theorem d_Pe_walk_12 : decode b_Pe_walk 12 = .ok (.getfield 15, 3) := by decide +kernel
theorem d_Pe_walk_15 : decode b_Pe_walk 15 = .ok (.aload_n 0, 1) := by decide +kernel
theorem d_Pe_walk_16 : decode b_Pe_walk 16 = .ok (.getfield 28, 3) := by decide +kernel
theorem d_Pe_walk_19 : decode b_Pe_walk 19 = .ok (.iaload, 1) := by decide +kernel
theorem d_Pe_walk_20 : decode b_Pe_walk 20 = .ok (.iload_n 1, 1) := by decide +kernel
theorem d_Pe_walk_21 : decode b_Pe_walk 21 = .ok (.if_icmp .ne 26, 3) := by decide +kernel
theorem d_Pe_walk_24 : decode b_Pe_walk 24 = .ok (.aload_n 0, 1) := by decide +kernel
theorem d_Pe_walk_25 : decode b_Pe_walk 25 = .ok (.aload_n 0, 1) := by decide +kernel
theorem d_Pe_walk_26 : decode b_Pe_walk 26 = .ok (.getfield 19, 3) := by decide +kernel
theorem d_Pe_walk_29 : decode b_Pe_walk 29 = .ok (.aload_n 0, 1) := by decide +kernel
theorem d_Pe_walk_30 : decode b_Pe_walk 30 = .ok (.getfield 28, 3) := by decide +kernel
theorem d_Pe_walk_33 : decode b_Pe_walk 33 = .ok (.iaload, 1) := by decide +kernel
theorem d_Pe_walk_34 : decode b_Pe_walk 34 = .ok (.putfield 9, 3) := by decide +kernel
theorem d_Pe_walk_37 : decode b_Pe_walk 37 = .ok (.aload_n 0, 1) := by decide +kernel
theorem d_Pe_walk_38 : decode b_Pe_walk 38 = .ok (.dup, 1) := by decide +kernel
theorem d_Pe_walk_39 : decode b_Pe_walk 39 = .ok (.getfield 28, 3) := by decide +kernel
theorem d_Pe_walk_42 : decode b_Pe_walk 42 = .ok (.iconst 1, 1) := by decide +kernel
theorem d_Pe_walk_43 : decode b_Pe_walk 43 = .ok (.iadd, 1) := by decide +kernel
theorem d_Pe_walk_44 : decode b_Pe_walk 44 = .ok (.putfield 28, 3) := by decide +kernel
theorem d_Pe_walk_47 : decode b_Pe_walk 47 = .ok (.return_, 1) := by decide +kernel
theorem d_Pe_breathe_0 : decode b_Pe_breathe 0 = .ok (.aload_n 1, 1) := by decide +kernel
theorem d_Pe_breathe_1 : decode b_Pe_breathe 1 = .ok (.invokevirtual 31, 3) := by decide +kernel
theorem d_Pe_breathe_4 : decode b_Pe_breathe 4 = .ok (.ifCond .eq 28, 3) := by decide +kernel
theorem d_Pe_breathe_7 : decode b_Pe_breathe 7 = .ok (.aload_n 0, 1) := by decide +kernel
theorem d_Pe_breathe_8 : decode b_Pe_breathe 8 = .ok (.dup, 1) := by decide +kernel
theorem d_Pe_breathe_9 : decode b_Pe_breathe 9 = .ok (.getfield 37, 3) := by decide +kernel
theorem d_Pe_breathe_12 : decode b_Pe_breathe 12 = .ok (.aload_n 1, 1) := by decide +kernel
theorem d_Pe_breathe_13 : decode b_Pe_breathe 13 = .ok (.invokevirtual 41, 3) := by decide +kernel
theorem d_Pe_breathe_16 : decode b_Pe_breathe 16 = .ok (.lconst 1, 1) := by decide +kernel
theorem d_Pe_breathe_17 : decode b_Pe_breathe 17 = .ok (.ladd, 1) := by decide +kernel
theorem d_Pe_breathe_18 : decode b_Pe_breathe 18 = .ok (.ladd, 1) := by decide +kernel
theorem d_Pe_breathe_19 : decode b_Pe_breathe 19 = .ok (.putfield 37, 3) := by decide +kernel
theorem d_Pe_breathe_22 : decode b_Pe_breathe 22 = .ok (.aload_n 0, 1) := by decide +kernel
theorem d_Pe_breathe_23 : decode b_Pe_breathe 23 = .ok (.dup, 1) := by decide +kernel
theorem d_Pe_breathe_24 : decode b_Pe_breathe 24 = .ok (.getfield 45, 3) := by decide +kernel
theorem d_Pe_breathe_27 : decode b_Pe_breathe 27 = .ok (.lconst 1, 1) := by decide +kernel
theorem d_Pe_breathe_28 : decode b_Pe_breathe 28 = .ok (.ladd, 1) := by decide +kernel
theorem d_Pe_breathe_29 : decode b_Pe_breathe 29 = .ok (.putfield 45, 3) := by decide +kernel
theorem d_Pe_breathe_32 : decode b_Pe_breathe 32 = .ok (.return_, 1) := by decide +kernel
theorem d_Ro_isLow_0 : decode b_Ro_isLow 0 = .ok (.aload_n 0, 1) := by decide +kernel
theorem d_Ro_isLow_1 : decode b_Ro_isLow 1 = .ok (.invokevirtual 38, 3) := by decide +kernel
theorem d_Ro_isLow_4 : decode b_Ro_isLow 4 = .ok (.ldc2_w 41, 3) := by decide +kernel
theorem d_Ro_isLow_7 : decode b_Ro_isLow 7 = .ok (.lcmp, 1) := by decide +kernel
theorem d_Ro_isLow_8 : decode b_Ro_isLow 8 = .ok (.ifCond .ge 7, 3) := by decide +kernel
theorem d_Ro_isLow_11 : decode b_Ro_isLow 11 = .ok (.iconst 1, 1) := by decide +kernel
theorem d_Ro_isLow_12 : decode b_Ro_isLow 12 = .ok (.goto 4, 3) := by decide +kernel
theorem d_Ro_isLow_15 : decode b_Ro_isLow 15 = .ok (.iconst 0, 1) := by decide +kernel
theorem d_Ro_isLow_16 : decode b_Ro_isLow 16 = .ok (.ireturn, 1) := by decide +kernel
theorem d_Ro_noteIfLow_0 : decode b_Ro_noteIfLow 0 = .ok (.aload_n 0, 1) := by decide +kernel
theorem d_Ro_noteIfLow_1 : decode b_Ro_noteIfLow 1 = .ok (.getfield 25, 3) := by decide +kernel
theorem d_Ro_noteIfLow_4 : decode b_Ro_noteIfLow 4 = .ok (.iconst (-1), 1) := by decide +kernel
theorem d_Ro_noteIfLow_5 : decode b_Ro_noteIfLow 5 = .ok (.if_icmp .ne 15, 3) := by decide +kernel
theorem d_Ro_noteIfLow_8 : decode b_Ro_noteIfLow 8 = .ok (.aload_n 0, 1) := by decide +kernel
theorem d_Ro_noteIfLow_9 : decode b_Ro_noteIfLow 9 = .ok (.invokevirtual 60, 3) := by decide +kernel
theorem d_Ro_noteIfLow_12 : decode b_Ro_noteIfLow 12 = .ok (.ifCond .eq 8, 3) := by decide +kernel
theorem d_Ro_noteIfLow_15 : decode b_Ro_noteIfLow 15 = .ok (.aload_n 0, 1) := by decide +kernel
theorem d_Ro_noteIfLow_16 : decode b_Ro_noteIfLow 16 = .ok (.iload_n 1, 1) := by decide +kernel
theorem d_Ro_noteIfLow_17 : decode b_Ro_noteIfLow 17 = .ok (.putfield 25, 3) := by decide +kernel
theorem d_Ro_noteIfLow_20 : decode b_Ro_noteIfLow 20 = .ok (.return_, 1) := by decide +kernel
