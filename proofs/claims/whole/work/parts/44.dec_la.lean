theorem d_La_room_0 : decode b_La_room 0 = .ok (.aload_n 3, 1) := by decide +kernel
theorem d_La_room_1 : decode b_La_room 1 = .ok (.iconst 0, 1) := by decide +kernel
theorem d_La_room_2 : decode b_La_room 2 = .ok (.aload_n 0, 1) := by decide +kernel
theorem d_La_room_3 : decode b_La_room 3 = .ok (.iload_n 1, 1) := by decide +kernel
theorem d_La_room_4 : decode b_La_room 4 = .ok (.iload_n 2, 1) := by decide +kernel
theorem d_La_room_5 : decode b_La_room 5 = .ok (.invokevirtual 7, 3) := by decide +kernel
theorem d_La_room_8 : decode b_La_room 8 = .ok (.i2l, 1) := by decide +kernel
theorem d_La_room_9 : decode b_La_room 9 = .ok (.lastore, 1) := by decide +kernel
theorem d_La_room_10 : decode b_La_room 10 = .ok (.goto 11, 3) := by decide +kernel
theorem d_La_room_13 : decode b_La_room 13 = .ok (.astore 4, 2) := by decide +kernel
theorem d_La_room_15 : decode b_La_room 15 = .ok (.iconst 1, 1) := by decide +kernel
theorem d_La_room_16 : decode b_La_room 16 = .ok (.ireturn, 1) := by decide +kernel
theorem d_La_room_17 : decode b_La_room 17 = .ok (.astore 4, 2) := by decide +kernel
theorem d_La_room_19 : decode b_La_room 19 = .ok (.iconst 2, 1) := by decide +kernel
theorem d_La_room_20 : decode b_La_room 20 = .ok (.ireturn, 1) := by decide +kernel
theorem d_La_room_21 : decode b_La_room 21 = .ok (.iconst 0, 1) := by decide +kernel
theorem d_La_room_22 : decode b_La_room 22 = .ok (.ireturn, 1) := by decide +kernel
theorem d_La_opening_0 : decode b_La_opening 0 = .ok (.aload 6, 2) := by decide +kernel
theorem d_La_opening_2 : decode b_La_opening 2 = .ok (.iconst 0, 1) := by decide +kernel
theorem d_La_opening_3 : decode b_La_opening 3 = .ok (.aload_n 0, 1) := by decide +kernel
theorem d_La_opening_4 : decode b_La_opening 4 = .ok (.iload_n 1, 1) := by decide +kernel
theorem d_La_opening_5 : decode b_La_opening 5 = .ok (.iload_n 2, 1) := by decide +kernel
theorem d_La_opening_6 : decode b_La_opening 6 = .ok (.iload_n 3, 1) := by decide +kernel
theorem d_La_opening_7 : decode b_La_opening 7 = .ok (.iload 4, 2) := by decide +kernel
theorem d_La_opening_9 : decode b_La_opening 9 = .ok (.iload 5, 2) := by decide +kernel
theorem d_La_opening_11 : decode b_La_opening 11 = .ok (.invokevirtual 17, 3) := by decide +kernel
theorem d_La_opening_14 : decode b_La_opening 14 = .ok (.i2l, 1) := by decide +kernel
theorem d_La_opening_15 : decode b_La_opening 15 = .ok (.lastore, 1) := by decide +kernel
theorem d_La_opening_16 : decode b_La_opening 16 = .ok (.goto 11, 3) := by decide +kernel
theorem d_La_opening_19 : decode b_La_opening 19 = .ok (.astore 7, 2) := by decide +kernel
theorem d_La_opening_21 : decode b_La_opening 21 = .ok (.iconst 1, 1) := by decide +kernel
theorem d_La_opening_22 : decode b_La_opening 22 = .ok (.ireturn, 1) := by decide +kernel
theorem d_La_opening_23 : decode b_La_opening 23 = .ok (.astore 7, 2) := by decide +kernel
theorem d_La_opening_25 : decode b_La_opening 25 = .ok (.iconst 2, 1) := by decide +kernel
theorem d_La_opening_26 : decode b_La_opening 26 = .ok (.ireturn, 1) := by decide +kernel
theorem d_La_opening_27 : decode b_La_opening 27 = .ok (.iconst 0, 1) := by decide +kernel
theorem d_La_opening_28 : decode b_La_opening 28 = .ok (.ireturn, 1) := by decide +kernel
theorem d_La_glass_0 : decode b_La_glass 0 = .ok (.aload_n 0, 1) := by decide +kernel
theorem d_La_glass_1 : decode b_La_glass 1 = .ok (.iload_n 1, 1) := by decide +kernel
theorem d_La_glass_2 : decode b_La_glass 2 = .ok (.iload_n 2, 1) := by decide +kernel
theorem d_La_glass_3 : decode b_La_glass 3 = .ok (.invokevirtual 21, 3) := by decide +kernel
theorem d_La_glass_6 : decode b_La_glass 6 = .ok (.goto 9, 3) := by decide +kernel
theorem d_La_glass_9 : decode b_La_glass 9 = .ok (.astore_n 3, 1) := by decide +kernel
theorem d_La_glass_10 : decode b_La_glass 10 = .ok (.iconst 1, 1) := by decide +kernel
theorem d_La_glass_11 : decode b_La_glass 11 = .ok (.ireturn, 1) := by decide +kernel
theorem d_La_glass_12 : decode b_La_glass 12 = .ok (.astore_n 3, 1) := by decide +kernel
theorem d_La_glass_13 : decode b_La_glass 13 = .ok (.iconst 2, 1) := by decide +kernel
theorem d_La_glass_14 : decode b_La_glass 14 = .ok (.ireturn, 1) := by decide +kernel
theorem d_La_glass_15 : decode b_La_glass 15 = .ok (.iconst 0, 1) := by decide +kernel
theorem d_La_glass_16 : decode b_La_glass 16 = .ok (.ireturn, 1) := by decide +kernel
theorem d_La_fire_0 : decode b_La_fire 0 = .ok (.aload 6, 2) := by decide +kernel
theorem d_La_fire_2 : decode b_La_fire 2 = .ok (.iconst 0, 1) := by decide +kernel
theorem d_La_fire_3 : decode b_La_fire 3 = .ok (.aload_n 0, 1) := by decide +kernel
theorem d_La_fire_4 : decode b_La_fire 4 = .ok (.iload_n 1, 1) := by decide +kernel
theorem d_La_fire_5 : decode b_La_fire 5 = .ok (.iload_n 2, 1) := by decide +kernel
theorem d_La_fire_6 : decode b_La_fire 6 = .ok (.iload_n 3, 1) := by decide +kernel
theorem d_La_fire_7 : decode b_La_fire 7 = .ok (.iload 4, 2) := by decide +kernel
theorem d_La_fire_9 : decode b_La_fire 9 = .ok (.iload 5, 2) := by decide +kernel
theorem d_La_fire_11 : decode b_La_fire 11 = .ok (.invokevirtual 25, 3) := by decide +kernel
theorem d_La_fire_14 : decode b_La_fire 14 = .ok (.i2l, 1) := by decide +kernel
theorem d_La_fire_15 : decode b_La_fire 15 = .ok (.lastore, 1) := by decide +kernel
theorem d_La_fire_16 : decode b_La_fire 16 = .ok (.goto 11, 3) := by decide +kernel
theorem d_La_fire_19 : decode b_La_fire 19 = .ok (.astore 7, 2) := by decide +kernel
theorem d_La_fire_21 : decode b_La_fire 21 = .ok (.iconst 1, 1) := by decide +kernel
theorem d_La_fire_22 : decode b_La_fire 22 = .ok (.ireturn, 1) := by decide +kernel
theorem d_La_fire_23 : decode b_La_fire 23 = .ok (.astore 7, 2) := by decide +kernel
theorem d_La_fire_25 : decode b_La_fire 25 = .ok (.iconst 2, 1) := by decide +kernel
theorem d_La_fire_26 : decode b_La_fire 26 = .ok (.ireturn, 1) := by decide +kernel
theorem d_La_fire_27 : decode b_La_fire 27 = .ok (.iconst 0, 1) := by decide +kernel
theorem d_La_fire_28 : decode b_La_fire 28 = .ok (.ireturn, 1) := by decide +kernel
theorem d_La_sprinkler_0 : decode b_La_sprinkler 0 = .ok (.aload_n 0, 1) := by decide +kernel
theorem d_La_sprinkler_1 : decode b_La_sprinkler 1 = .ok (.iload_n 1, 1) := by decide +kernel
theorem d_La_sprinkler_2 : decode b_La_sprinkler 2 = .ok (.iload_n 2, 1) := by decide +kernel
theorem d_La_sprinkler_3 : decode b_La_sprinkler 3 = .ok (.invokevirtual 28, 3) := by decide +kernel
theorem d_La_sprinkler_6 : decode b_La_sprinkler 6 = .ok (.goto 9, 3) := by decide +kernel
theorem d_La_sprinkler_9 : decode b_La_sprinkler 9 = .ok (.astore_n 3, 1) := by decide +kernel
theorem d_La_sprinkler_10 : decode b_La_sprinkler 10 = .ok (.iconst 1, 1) := by decide +kernel
theorem d_La_sprinkler_11 : decode b_La_sprinkler 11 = .ok (.ireturn, 1) := by decide +kernel
theorem d_La_sprinkler_12 : decode b_La_sprinkler 12 = .ok (.astore_n 3, 1) := by decide +kernel
theorem d_La_sprinkler_13 : decode b_La_sprinkler 13 = .ok (.iconst 2, 1) := by decide +kernel
theorem d_La_sprinkler_14 : decode b_La_sprinkler 14 = .ok (.ireturn, 1) := by decide +kernel
theorem d_La_sprinkler_15 : decode b_La_sprinkler 15 = .ok (.iconst 0, 1) := by decide +kernel
theorem d_La_sprinkler_16 : decode b_La_sprinkler 16 = .ok (.ireturn, 1) := by decide +kernel
theorem d_La_fan_0 : decode b_La_fan 0 = .ok (.aload 4, 2) := by decide +kernel
theorem d_La_fan_2 : decode b_La_fan 2 = .ok (.iconst 0, 1) := by decide +kernel
theorem d_La_fan_3 : decode b_La_fan 3 = .ok (.aload_n 0, 1) := by decide +kernel
theorem d_La_fan_4 : decode b_La_fan 4 = .ok (.iload_n 1, 1) := by decide +kernel
theorem d_La_fan_5 : decode b_La_fan 5 = .ok (.iload_n 2, 1) := by decide +kernel
theorem d_La_fan_6 : decode b_La_fan 6 = .ok (.iload_n 3, 1) := by decide +kernel
theorem d_La_fan_7 : decode b_La_fan 7 = .ok (.invokevirtual 31, 3) := by decide +kernel
theorem d_La_fan_10 : decode b_La_fan 10 = .ok (.i2l, 1) := by decide +kernel
theorem d_La_fan_11 : decode b_La_fan 11 = .ok (.lastore, 1) := by decide +kernel
theorem d_La_fan_12 : decode b_La_fan 12 = .ok (.goto 11, 3) := by decide +kernel
theorem d_La_fan_15 : decode b_La_fan 15 = .ok (.astore 5, 2) := by decide +kernel
theorem d_La_fan_17 : decode b_La_fan 17 = .ok (.iconst 1, 1) := by decide +kernel
theorem d_La_fan_18 : decode b_La_fan 18 = .ok (.ireturn, 1) := by decide +kernel
theorem d_La_fan_19 : decode b_La_fan 19 = .ok (.astore 5, 2) := by decide +kernel
theorem d_La_fan_21 : decode b_La_fan 21 = .ok (.iconst 2, 1) := by decide +kernel
theorem d_La_fan_22 : decode b_La_fan 22 = .ok (.ireturn, 1) := by decide +kernel
theorem d_La_fan_23 : decode b_La_fan 23 = .ok (.iconst 0, 1) := by decide +kernel
theorem d_La_fan_24 : decode b_La_fan 24 = .ok (.ireturn, 1) := by decide +kernel
theorem d_La_steel_0 : decode b_La_steel 0 = .ok (.aload_n 3, 1) := by decide +kernel
theorem d_La_steel_1 : decode b_La_steel 1 = .ok (.iconst 0, 1) := by decide +kernel
theorem d_La_steel_2 : decode b_La_steel 2 = .ok (.aload_n 0, 1) := by decide +kernel
theorem d_La_steel_3 : decode b_La_steel 3 = .ok (.iload_n 1, 1) := by decide +kernel
theorem d_La_steel_4 : decode b_La_steel 4 = .ok (.iload_n 2, 1) := by decide +kernel
theorem d_La_steel_5 : decode b_La_steel 5 = .ok (.invokevirtual 35, 3) := by decide +kernel
theorem d_La_steel_8 : decode b_La_steel 8 = .ok (.i2l, 1) := by decide +kernel
theorem d_La_steel_9 : decode b_La_steel 9 = .ok (.lastore, 1) := by decide +kernel
theorem d_La_steel_10 : decode b_La_steel 10 = .ok (.goto 11, 3) := by decide +kernel
theorem d_La_steel_13 : decode b_La_steel 13 = .ok (.astore 4, 2) := by decide +kernel
theorem d_La_steel_15 : decode b_La_steel 15 = .ok (.iconst 1, 1) := by decide +kernel
theorem d_La_steel_16 : decode b_La_steel 16 = .ok (.ireturn, 1) := by decide +kernel
theorem d_La_steel_17 : decode b_La_steel 17 = .ok (.astore 4, 2) := by decide +kernel
theorem d_La_steel_19 : decode b_La_steel 19 = .ok (.iconst 2, 1) := by decide +kernel
theorem d_La_steel_20 : decode b_La_steel 20 = .ok (.ireturn, 1) := by decide +kernel
theorem d_La_steel_21 : decode b_La_steel 21 = .ok (.iconst 0, 1) := by decide +kernel
theorem d_La_steel_22 : decode b_La_steel 22 = .ok (.ireturn, 1) := by decide +kernel
theorem d_La_person_0 : decode b_La_person 0 = .ok (.aload_n 2, 1) := by decide +kernel
theorem d_La_person_1 : decode b_La_person 1 = .ok (.iconst 0, 1) := by decide +kernel
theorem d_La_person_2 : decode b_La_person 2 = .ok (.aload_n 0, 1) := by decide +kernel
theorem d_La_person_3 : decode b_La_person 3 = .ok (.iload_n 1, 1) := by decide +kernel
theorem d_La_person_4 : decode b_La_person 4 = .ok (.invokevirtual 38, 3) := by decide +kernel
theorem d_La_person_7 : decode b_La_person 7 = .ok (.i2l, 1) := by decide +kernel
theorem d_La_person_8 : decode b_La_person 8 = .ok (.lastore, 1) := by decide +kernel
theorem d_La_person_9 : decode b_La_person 9 = .ok (.goto 9, 3) := by decide +kernel
theorem d_La_person_12 : decode b_La_person 12 = .ok (.astore_n 3, 1) := by decide +kernel
theorem d_La_person_13 : decode b_La_person 13 = .ok (.iconst 1, 1) := by decide +kernel
theorem d_La_person_14 : decode b_La_person 14 = .ok (.ireturn, 1) := by decide +kernel
theorem d_La_person_15 : decode b_La_person 15 = .ok (.astore_n 3, 1) := by decide +kernel
theorem d_La_person_16 : decode b_La_person 16 = .ok (.iconst 2, 1) := by decide +kernel
theorem d_La_person_17 : decode b_La_person 17 = .ok (.ireturn, 1) := by decide +kernel
theorem d_La_person_18 : decode b_La_person 18 = .ok (.iconst 0, 1) := by decide +kernel
theorem d_La_person_19 : decode b_La_person 19 = .ok (.ireturn, 1) := by decide +kernel
theorem d_La_go_0 : decode b_La_go 0 = .ok (.aload_n 0, 1) := by decide +kernel
theorem d_La_go_1 : decode b_La_go 1 = .ok (.iload_n 1, 1) := by decide +kernel
theorem d_La_go_2 : decode b_La_go 2 = .ok (.iload_n 2, 1) := by decide +kernel
theorem d_La_go_3 : decode b_La_go 3 = .ok (.iload_n 3, 1) := by decide +kernel
theorem d_La_go_4 : decode b_La_go 4 = .ok (.invokevirtual 42, 3) := by decide +kernel
theorem d_La_go_7 : decode b_La_go 7 = .ok (.goto 11, 3) := by decide +kernel
theorem d_La_go_10 : decode b_La_go 10 = .ok (.astore 4, 2) := by decide +kernel
theorem d_La_go_12 : decode b_La_go 12 = .ok (.iconst 1, 1) := by decide +kernel
theorem d_La_go_13 : decode b_La_go 13 = .ok (.ireturn, 1) := by decide +kernel
theorem d_La_go_14 : decode b_La_go 14 = .ok (.astore 4, 2) := by decide +kernel
theorem d_La_go_16 : decode b_La_go 16 = .ok (.iconst 2, 1) := by decide +kernel
theorem d_La_go_17 : decode b_La_go 17 = .ok (.ireturn, 1) := by decide +kernel
theorem d_La_go_18 : decode b_La_go 18 = .ok (.iconst 0, 1) := by decide +kernel
theorem d_La_go_19 : decode b_La_go 19 = .ok (.ireturn, 1) := by decide +kernel
theorem d_La_run_0 : decode b_La_run 0 = .ok (.aload_n 2, 1) := by decide +kernel
theorem d_La_run_1 : decode b_La_run 1 = .ok (.iconst 0, 1) := by decide +kernel
theorem d_La_run_2 : decode b_La_run 2 = .ok (.aload_n 0, 1) := by decide +kernel
theorem d_La_run_3 : decode b_La_run 3 = .ok (.iload_n 1, 1) := by decide +kernel
theorem d_La_run_4 : decode b_La_run 4 = .ok (.invokevirtual 46, 3) := by decide +kernel
theorem d_La_run_7 : decode b_La_run 7 = .ok (.i2l, 1) := by decide +kernel
theorem d_La_run_8 : decode b_La_run 8 = .ok (.lastore, 1) := by decide +kernel
theorem d_La_run_9 : decode b_La_run 9 = .ok (.goto 9, 3) := by decide +kernel
theorem d_La_run_12 : decode b_La_run 12 = .ok (.astore_n 3, 1) := by decide +kernel
theorem d_La_run_13 : decode b_La_run 13 = .ok (.iconst 1, 1) := by decide +kernel
theorem d_La_run_14 : decode b_La_run 14 = .ok (.ireturn, 1) := by decide +kernel
theorem d_La_run_15 : decode b_La_run 15 = .ok (.astore_n 3, 1) := by decide +kernel
theorem d_La_run_16 : decode b_La_run 16 = .ok (.iconst 2, 1) := by decide +kernel
theorem d_La_run_17 : decode b_La_run 17 = .ok (.ireturn, 1) := by decide +kernel
theorem d_La_run_18 : decode b_La_run 18 = .ok (.iconst 0, 1) := by decide +kernel
theorem d_La_run_19 : decode b_La_run 19 = .ok (.ireturn, 1) := by decide +kernel
theorem d_La_roomAt_0 : decode b_La_roomAt 0 = .ok (.aload_n 3, 1) := by decide +kernel
theorem d_La_roomAt_1 : decode b_La_roomAt 1 = .ok (.iconst 0, 1) := by decide +kernel
theorem d_La_roomAt_2 : decode b_La_roomAt 2 = .ok (.aload_n 0, 1) := by decide +kernel
theorem d_La_roomAt_3 : decode b_La_roomAt 3 = .ok (.iload_n 1, 1) := by decide +kernel
theorem d_La_roomAt_4 : decode b_La_roomAt 4 = .ok (.iload_n 2, 1) := by decide +kernel
theorem d_La_roomAt_5 : decode b_La_roomAt 5 = .ok (.invokevirtual 49, 3) := by decide +kernel
theorem d_La_roomAt_8 : decode b_La_roomAt 8 = .ok (.lastore, 1) := by decide +kernel
theorem d_La_roomAt_9 : decode b_La_roomAt 9 = .ok (.goto 7, 3) := by decide +kernel
theorem d_La_roomAt_12 : decode b_La_roomAt 12 = .ok (.astore 4, 2) := by decide +kernel
theorem d_La_roomAt_14 : decode b_La_roomAt 14 = .ok (.iconst 1, 1) := by decide +kernel
theorem d_La_roomAt_15 : decode b_La_roomAt 15 = .ok (.ireturn, 1) := by decide +kernel
theorem d_La_roomAt_16 : decode b_La_roomAt 16 = .ok (.iconst 0, 1) := by decide +kernel
theorem d_La_roomAt_17 : decode b_La_roomAt 17 = .ok (.ireturn, 1) := by decide +kernel
theorem d_La_openingAt_0 : decode b_La_openingAt 0 = .ok (.aload_n 3, 1) := by decide +kernel
theorem d_La_openingAt_1 : decode b_La_openingAt 1 = .ok (.iconst 0, 1) := by decide +kernel
theorem d_La_openingAt_2 : decode b_La_openingAt 2 = .ok (.aload_n 0, 1) := by decide +kernel
theorem d_La_openingAt_3 : decode b_La_openingAt 3 = .ok (.iload_n 1, 1) := by decide +kernel
theorem d_La_openingAt_4 : decode b_La_openingAt 4 = .ok (.iload_n 2, 1) := by decide +kernel
theorem d_La_openingAt_5 : decode b_La_openingAt 5 = .ok (.invokevirtual 53, 3) := by decide +kernel
theorem d_La_openingAt_8 : decode b_La_openingAt 8 = .ok (.lastore, 1) := by decide +kernel
theorem d_La_openingAt_9 : decode b_La_openingAt 9 = .ok (.goto 7, 3) := by decide +kernel
theorem d_La_openingAt_12 : decode b_La_openingAt 12 = .ok (.astore 4, 2) := by decide +kernel
theorem d_La_openingAt_14 : decode b_La_openingAt 14 = .ok (.iconst 1, 1) := by decide +kernel
theorem d_La_openingAt_15 : decode b_La_openingAt 15 = .ok (.ireturn, 1) := by decide +kernel
theorem d_La_openingAt_16 : decode b_La_openingAt 16 = .ok (.iconst 0, 1) := by decide +kernel
theorem d_La_openingAt_17 : decode b_La_openingAt 17 = .ok (.ireturn, 1) := by decide +kernel
theorem d_La_personAt_0 : decode b_La_personAt 0 = .ok (.aload_n 3, 1) := by decide +kernel
theorem d_La_personAt_1 : decode b_La_personAt 1 = .ok (.iconst 0, 1) := by decide +kernel
theorem d_La_personAt_2 : decode b_La_personAt 2 = .ok (.aload_n 0, 1) := by decide +kernel
theorem d_La_personAt_3 : decode b_La_personAt 3 = .ok (.iload_n 1, 1) := by decide +kernel
theorem d_La_personAt_4 : decode b_La_personAt 4 = .ok (.iload_n 2, 1) := by decide +kernel
theorem d_La_personAt_5 : decode b_La_personAt 5 = .ok (.invokevirtual 56, 3) := by decide +kernel
theorem d_La_personAt_8 : decode b_La_personAt 8 = .ok (.lastore, 1) := by decide +kernel
theorem d_La_personAt_9 : decode b_La_personAt 9 = .ok (.goto 7, 3) := by decide +kernel
theorem d_La_personAt_12 : decode b_La_personAt 12 = .ok (.astore 4, 2) := by decide +kernel
theorem d_La_personAt_14 : decode b_La_personAt 14 = .ok (.iconst 1, 1) := by decide +kernel
theorem d_La_personAt_15 : decode b_La_personAt 15 = .ok (.ireturn, 1) := by decide +kernel
theorem d_La_personAt_16 : decode b_La_personAt 16 = .ok (.iconst 0, 1) := by decide +kernel
theorem d_La_personAt_17 : decode b_La_personAt 17 = .ok (.ireturn, 1) := by decide +kernel
theorem d_La_steelAt_0 : decode b_La_steelAt 0 = .ok (.aload_n 2, 1) := by decide +kernel
theorem d_La_steelAt_1 : decode b_La_steelAt 1 = .ok (.iconst 0, 1) := by decide +kernel
theorem d_La_steelAt_2 : decode b_La_steelAt 2 = .ok (.aload_n 0, 1) := by decide +kernel
theorem d_La_steelAt_3 : decode b_La_steelAt 3 = .ok (.iload_n 1, 1) := by decide +kernel
theorem d_La_steelAt_4 : decode b_La_steelAt 4 = .ok (.invokevirtual 59, 3) := by decide +kernel
theorem d_La_steelAt_7 : decode b_La_steelAt 7 = .ok (.i2l, 1) := by decide +kernel
theorem d_La_steelAt_8 : decode b_La_steelAt 8 = .ok (.lastore, 1) := by decide +kernel
theorem d_La_steelAt_9 : decode b_La_steelAt 9 = .ok (.goto 6, 3) := by decide +kernel
theorem d_La_steelAt_12 : decode b_La_steelAt 12 = .ok (.astore_n 3, 1) := by decide +kernel
theorem d_La_steelAt_13 : decode b_La_steelAt 13 = .ok (.iconst 1, 1) := by decide +kernel
theorem d_La_steelAt_14 : decode b_La_steelAt 14 = .ok (.ireturn, 1) := by decide +kernel
theorem d_La_steelAt_15 : decode b_La_steelAt 15 = .ok (.iconst 0, 1) := by decide +kernel
theorem d_La_steelAt_16 : decode b_La_steelAt 16 = .ok (.ireturn, 1) := by decide +kernel
theorem d_La_balance_0 : decode b_La_balance 0 = .ok (.aload_n 2, 1) := by decide +kernel
theorem d_La_balance_1 : decode b_La_balance 1 = .ok (.iconst 0, 1) := by decide +kernel
theorem d_La_balance_2 : decode b_La_balance 2 = .ok (.aload_n 0, 1) := by decide +kernel
theorem d_La_balance_3 : decode b_La_balance 3 = .ok (.iload_n 1, 1) := by decide +kernel
theorem d_La_balance_4 : decode b_La_balance 4 = .ok (.invokevirtual 62, 3) := by decide +kernel
theorem d_La_balance_7 : decode b_La_balance 7 = .ok (.lastore, 1) := by decide +kernel
theorem d_La_balance_8 : decode b_La_balance 8 = .ok (.goto 6, 3) := by decide +kernel
theorem d_La_balance_11 : decode b_La_balance 11 = .ok (.astore_n 3, 1) := by decide +kernel
theorem d_La_balance_12 : decode b_La_balance 12 = .ok (.iconst 1, 1) := by decide +kernel
theorem d_La_balance_13 : decode b_La_balance 13 = .ok (.ireturn, 1) := by decide +kernel
theorem d_La_balance_14 : decode b_La_balance 14 = .ok (.iconst 0, 1) := by decide +kernel
theorem d_La_balance_15 : decode b_La_balance 15 = .ok (.ireturn, 1) := by decide +kernel
theorem d_La_law_0 : decode b_La_law 0 = .ok (.new 8, 3) := by decide +kernel
theorem d_La_law_3 : decode b_La_law 3 = .ok (.dup, 1) := by decide +kernel
theorem d_La_law_4 : decode b_La_law 4 = .ok (.invokespecial 66, 3) := by decide +kernel
theorem d_La_law_7 : decode b_La_law 7 = .ok (.astore_n 1, 1) := by decide +kernel
theorem d_La_law_8 : decode b_La_law 8 = .ok (.new 67, 3) := by decide +kernel
theorem d_La_law_11 : decode b_La_law 11 = .ok (.dup, 1) := by decide +kernel
theorem d_La_law_12 : decode b_La_law 12 = .ok (.invokespecial 69, 3) := by decide +kernel
theorem d_La_law_15 : decode b_La_law 15 = .ok (.astore_n 2, 1) := by decide +kernel
theorem d_La_law_16 : decode b_La_law 16 = .ok (.iconst 1, 1) := by decide +kernel
theorem d_La_law_17 : decode b_La_law 17 = .ok (.newarray .long, 2) := by decide +kernel
theorem d_La_law_19 : decode b_La_law 19 = .ok (.astore_n 3, 1) := by decide +kernel
theorem d_La_law_20 : decode b_La_law 20 = .ok (.iconst 0, 1) := by decide +kernel
theorem d_La_law_21 : decode b_La_law 21 = .ok (.istore 4, 2) := by decide +kernel
theorem d_La_law_23 : decode b_La_law 23 = .ok (.iload 4, 2) := by decide +kernel
theorem d_La_law_25 : decode b_La_law 25 = .ok (.aload_n 0, 1) := by decide +kernel
theorem d_La_law_26 : decode b_La_law 26 = .ok (.arraylength, 1) := by decide +kernel
theorem d_La_law_27 : decode b_La_law 27 = .ok (.bipush 6, 2) := by decide +kernel
theorem d_La_law_29 : decode b_La_law 29 = .ok (.isub, 1) := by decide +kernel
theorem d_La_law_30 : decode b_La_law 30 = .ok (.if_icmp .gt 1096, 3) := by decide +kernel
theorem d_La_law_33 : decode b_La_law 33 = .ok (.aload_n 0, 1) := by decide +kernel
theorem d_La_law_34 : decode b_La_law 34 = .ok (.iload 4, 2) := by decide +kernel
theorem d_La_law_36 : decode b_La_law 36 = .ok (.iaload, 1) := by decide +kernel
theorem d_La_law_37 : decode b_La_law 37 = .ok (.bipush 15, 2) := by decide +kernel
theorem d_La_law_39 : decode b_La_law 39 = .ok (.iand, 1) := by decide +kernel
theorem d_La_law_40 : decode b_La_law 40 = .ok (.tableswitch 1080 0 14 #[76, 144, 248, 296, 400, 448, 528, 596, 652, 712, 768, 835, 902, 969, 1025], 76) := by decide +kernel
theorem d_La_law_116 : decode b_La_law 116 = .ok (.aload_n 1, 1) := by decide +kernel
theorem d_La_law_117 : decode b_La_law 117 = .ok (.aload_n 0, 1) := by decide +kernel
theorem d_La_law_118 : decode b_La_law 118 = .ok (.iload 4, 2) := by decide +kernel
theorem d_La_law_120 : decode b_La_law 120 = .ok (.iconst 1, 1) := by decide +kernel
theorem d_La_law_121 : decode b_La_law 121 = .ok (.iadd, 1) := by decide +kernel
theorem d_La_law_122 : decode b_La_law 122 = .ok (.iaload, 1) := by decide +kernel
theorem d_La_law_123 : decode b_La_law 123 = .ok (.aload_n 0, 1) := by decide +kernel
theorem d_La_law_124 : decode b_La_law 124 = .ok (.iload 4, 2) := by decide +kernel
theorem d_La_law_126 : decode b_La_law 126 = .ok (.iconst 2, 1) := by decide +kernel
theorem d_La_law_127 : decode b_La_law 127 = .ok (.iadd, 1) := by decide +kernel
theorem d_La_law_128 : decode b_La_law 128 = .ok (.iaload, 1) := by decide +kernel
theorem d_La_law_129 : decode b_La_law 129 = .ok (.aload_n 3, 1) := by decide +kernel
theorem d_La_law_130 : decode b_La_law 130 = .ok (.invokestatic 70, 3) := by decide +kernel
theorem d_La_law_133 : decode b_La_law 133 = .ok (.istore 5, 2) := by decide +kernel
theorem d_La_law_135 : decode b_La_law 135 = .ok (.aload_n 2, 1) := by decide +kernel
theorem d_La_law_136 : decode b_La_law 136 = .ok (.aload_n 0, 1) := by decide +kernel
theorem d_La_law_137 : decode b_La_law 137 = .ok (.iload 4, 2) := by decide +kernel
theorem d_La_law_139 : decode b_La_law 139 = .ok (.iconst 1, 1) := by decide +kernel
theorem d_La_law_140 : decode b_La_law 140 = .ok (.iadd, 1) := by decide +kernel
theorem d_La_law_141 : decode b_La_law 141 = .ok (.iaload, 1) := by decide +kernel
theorem d_La_law_142 : decode b_La_law 142 = .ok (.aload_n 0, 1) := by decide +kernel
theorem d_La_law_143 : decode b_La_law 143 = .ok (.iload 4, 2) := by decide +kernel
theorem d_La_law_145 : decode b_La_law 145 = .ok (.iconst 2, 1) := by decide +kernel
theorem d_La_law_146 : decode b_La_law 146 = .ok (.iadd, 1) := by decide +kernel
theorem d_La_law_147 : decode b_La_law 147 = .ok (.iaload, 1) := by decide +kernel
theorem d_La_law_148 : decode b_La_law 148 = .ok (.invokevirtual 75, 3) := by decide +kernel
theorem d_La_law_151 : decode b_La_law 151 = .ok (.istore 6, 2) := by decide +kernel
theorem d_La_law_153 : decode b_La_law 153 = .ok (.aload_n 2, 1) := by decide +kernel
theorem d_La_law_154 : decode b_La_law 154 = .ok (.invokevirtual 76, 3) := by decide +kernel
theorem d_La_law_157 : decode b_La_law 157 = .ok (.iload 5, 2) := by decide +kernel
theorem d_La_law_159 : decode b_La_law 159 = .ok (.if_icmp .eq 5, 3) := by decide +kernel
theorem d_La_law_162 : decode b_La_law 162 = .ok (.iconst 0, 1) := by decide +kernel
theorem d_La_law_163 : decode b_La_law 163 = .ok (.ireturn, 1) := by decide +kernel
theorem d_La_law_164 : decode b_La_law 164 = .ok (.iload 5, 2) := by decide +kernel
theorem d_La_law_166 : decode b_La_law 166 = .ok (.ifCond .ne 15, 3) := by decide +kernel
theorem d_La_law_169 : decode b_La_law 169 = .ok (.aload_n 3, 1) := by decide +kernel
theorem d_La_law_170 : decode b_La_law 170 = .ok (.iconst 0, 1) := by decide +kernel
theorem d_La_law_171 : decode b_La_law 171 = .ok (.laload, 1) := by decide +kernel
theorem d_La_law_172 : decode b_La_law 172 = .ok (.iload 6, 2) := by decide +kernel
theorem d_La_law_174 : decode b_La_law 174 = .ok (.i2l, 1) := by decide +kernel
theorem d_La_law_175 : decode b_La_law 175 = .ok (.lcmp, 1) := by decide +kernel
theorem d_La_law_176 : decode b_La_law 176 = .ok (.ifCond .eq 5, 3) := by decide +kernel
theorem d_La_law_179 : decode b_La_law 179 = .ok (.iconst 0, 1) := by decide +kernel
theorem d_La_law_180 : decode b_La_law 180 = .ok (.ireturn, 1) := by decide +kernel
theorem d_La_law_181 : decode b_La_law 181 = .ok (.goto 939, 3) := by decide +kernel
theorem d_La_law_184 : decode b_La_law 184 = .ok (.aload_n 1, 1) := by decide +kernel
theorem d_La_law_185 : decode b_La_law 185 = .ok (.aload_n 0, 1) := by decide +kernel
theorem d_La_law_186 : decode b_La_law 186 = .ok (.iload 4, 2) := by decide +kernel
theorem d_La_law_188 : decode b_La_law 188 = .ok (.iconst 1, 1) := by decide +kernel
theorem d_La_law_189 : decode b_La_law 189 = .ok (.iadd, 1) := by decide +kernel
theorem d_La_law_190 : decode b_La_law 190 = .ok (.iaload, 1) := by decide +kernel
theorem d_La_law_191 : decode b_La_law 191 = .ok (.aload_n 0, 1) := by decide +kernel
theorem d_La_law_192 : decode b_La_law 192 = .ok (.iload 4, 2) := by decide +kernel
theorem d_La_law_194 : decode b_La_law 194 = .ok (.iconst 2, 1) := by decide +kernel
theorem d_La_law_195 : decode b_La_law 195 = .ok (.iadd, 1) := by decide +kernel
theorem d_La_law_196 : decode b_La_law 196 = .ok (.iaload, 1) := by decide +kernel
theorem d_La_law_197 : decode b_La_law 197 = .ok (.aload_n 0, 1) := by decide +kernel
theorem d_La_law_198 : decode b_La_law 198 = .ok (.iload 4, 2) := by decide +kernel
theorem d_La_law_200 : decode b_La_law 200 = .ok (.iconst 3, 1) := by decide +kernel
theorem d_La_law_201 : decode b_La_law 201 = .ok (.iadd, 1) := by decide +kernel
theorem d_La_law_202 : decode b_La_law 202 = .ok (.iaload, 1) := by decide +kernel
theorem d_La_law_203 : decode b_La_law 203 = .ok (.aload_n 0, 1) := by decide +kernel
theorem d_La_law_204 : decode b_La_law 204 = .ok (.iload 4, 2) := by decide +kernel
theorem d_La_law_206 : decode b_La_law 206 = .ok (.iconst 4, 1) := by decide +kernel
theorem d_La_law_207 : decode b_La_law 207 = .ok (.iadd, 1) := by decide +kernel
theorem d_La_law_208 : decode b_La_law 208 = .ok (.iaload, 1) := by decide +kernel
theorem d_La_law_209 : decode b_La_law 209 = .ok (.aload_n 0, 1) := by decide +kernel
theorem d_La_law_210 : decode b_La_law 210 = .ok (.iload 4, 2) := by decide +kernel
theorem d_La_law_212 : decode b_La_law 212 = .ok (.iconst 5, 1) := by decide +kernel
theorem d_La_law_213 : decode b_La_law 213 = .ok (.iadd, 1) := by decide +kernel
theorem d_La_law_214 : decode b_La_law 214 = .ok (.iaload, 1) := by decide +kernel
theorem d_La_law_215 : decode b_La_law 215 = .ok (.aload_n 3, 1) := by decide +kernel
theorem d_La_law_216 : decode b_La_law 216 = .ok (.invokestatic 80, 3) := by decide +kernel
theorem d_La_law_219 : decode b_La_law 219 = .ok (.istore 5, 2) := by decide +kernel
theorem d_La_law_221 : decode b_La_law 221 = .ok (.aload_n 2, 1) := by decide +kernel
theorem d_La_law_222 : decode b_La_law 222 = .ok (.aload_n 0, 1) := by decide +kernel
theorem d_La_law_223 : decode b_La_law 223 = .ok (.iload 4, 2) := by decide +kernel
theorem d_La_law_225 : decode b_La_law 225 = .ok (.iconst 1, 1) := by decide +kernel
theorem d_La_law_226 : decode b_La_law 226 = .ok (.iadd, 1) := by decide +kernel
theorem d_La_law_227 : decode b_La_law 227 = .ok (.iaload, 1) := by decide +kernel
theorem d_La_law_228 : decode b_La_law 228 = .ok (.aload_n 0, 1) := by decide +kernel
theorem d_La_law_229 : decode b_La_law 229 = .ok (.iload 4, 2) := by decide +kernel
theorem d_La_law_231 : decode b_La_law 231 = .ok (.iconst 2, 1) := by decide +kernel
theorem d_La_law_232 : decode b_La_law 232 = .ok (.iadd, 1) := by decide +kernel
theorem d_La_law_233 : decode b_La_law 233 = .ok (.iaload, 1) := by decide +kernel
theorem d_La_law_234 : decode b_La_law 234 = .ok (.aload_n 0, 1) := by decide +kernel
theorem d_La_law_235 : decode b_La_law 235 = .ok (.iload 4, 2) := by decide +kernel
theorem d_La_law_237 : decode b_La_law 237 = .ok (.iconst 3, 1) := by decide +kernel
theorem d_La_law_238 : decode b_La_law 238 = .ok (.iadd, 1) := by decide +kernel
theorem d_La_law_239 : decode b_La_law 239 = .ok (.iaload, 1) := by decide +kernel
theorem d_La_law_240 : decode b_La_law 240 = .ok (.aload_n 0, 1) := by decide +kernel
theorem d_La_law_241 : decode b_La_law 241 = .ok (.iload 4, 2) := by decide +kernel
theorem d_La_law_243 : decode b_La_law 243 = .ok (.iconst 4, 1) := by decide +kernel
theorem d_La_law_244 : decode b_La_law 244 = .ok (.iadd, 1) := by decide +kernel
theorem d_La_law_245 : decode b_La_law 245 = .ok (.iaload, 1) := by decide +kernel
theorem d_La_law_246 : decode b_La_law 246 = .ok (.aload_n 0, 1) := by decide +kernel
theorem d_La_law_247 : decode b_La_law 247 = .ok (.iload 4, 2) := by decide +kernel
theorem d_La_law_249 : decode b_La_law 249 = .ok (.iconst 5, 1) := by decide +kernel
theorem d_La_law_250 : decode b_La_law 250 = .ok (.iadd, 1) := by decide +kernel
theorem d_La_law_251 : decode b_La_law 251 = .ok (.iaload, 1) := by decide +kernel
theorem d_La_law_252 : decode b_La_law 252 = .ok (.invokevirtual 83, 3) := by decide +kernel
theorem d_La_law_255 : decode b_La_law 255 = .ok (.istore 6, 2) := by decide +kernel
theorem d_La_law_257 : decode b_La_law 257 = .ok (.aload_n 2, 1) := by decide +kernel
theorem d_La_law_258 : decode b_La_law 258 = .ok (.invokevirtual 76, 3) := by decide +kernel
theorem d_La_law_261 : decode b_La_law 261 = .ok (.iload 5, 2) := by decide +kernel
theorem d_La_law_263 : decode b_La_law 263 = .ok (.if_icmp .eq 5, 3) := by decide +kernel
theorem d_La_law_266 : decode b_La_law 266 = .ok (.iconst 0, 1) := by decide +kernel
theorem d_La_law_267 : decode b_La_law 267 = .ok (.ireturn, 1) := by decide +kernel
theorem d_La_law_268 : decode b_La_law 268 = .ok (.iload 5, 2) := by decide +kernel
theorem d_La_law_270 : decode b_La_law 270 = .ok (.ifCond .ne 15, 3) := by decide +kernel
theorem d_La_law_273 : decode b_La_law 273 = .ok (.aload_n 3, 1) := by decide +kernel
theorem d_La_law_274 : decode b_La_law 274 = .ok (.iconst 0, 1) := by decide +kernel
theorem d_La_law_275 : decode b_La_law 275 = .ok (.laload, 1) := by decide +kernel
theorem d_La_law_276 : decode b_La_law 276 = .ok (.iload 6, 2) := by decide +kernel
theorem d_La_law_278 : decode b_La_law 278 = .ok (.i2l, 1) := by decide +kernel
theorem d_La_law_279 : decode b_La_law 279 = .ok (.lcmp, 1) := by decide +kernel
theorem d_La_law_280 : decode b_La_law 280 = .ok (.ifCond .eq 5, 3) := by decide +kernel
theorem d_La_law_283 : decode b_La_law 283 = .ok (.iconst 0, 1) := by decide +kernel
theorem d_La_law_284 : decode b_La_law 284 = .ok (.ireturn, 1) := by decide +kernel
theorem d_La_law_285 : decode b_La_law 285 = .ok (.goto 835, 3) := by decide +kernel
theorem d_La_law_288 : decode b_La_law 288 = .ok (.aload_n 1, 1) := by decide +kernel
theorem d_La_law_289 : decode b_La_law 289 = .ok (.aload_n 0, 1) := by decide +kernel
theorem d_La_law_290 : decode b_La_law 290 = .ok (.iload 4, 2) := by decide +kernel
theorem d_La_law_292 : decode b_La_law 292 = .ok (.iconst 1, 1) := by decide +kernel
theorem d_La_law_293 : decode b_La_law 293 = .ok (.iadd, 1) := by decide +kernel
theorem d_La_law_294 : decode b_La_law 294 = .ok (.iaload, 1) := by decide +kernel
theorem d_La_law_295 : decode b_La_law 295 = .ok (.aload_n 0, 1) := by decide +kernel
theorem d_La_law_296 : decode b_La_law 296 = .ok (.iload 4, 2) := by decide +kernel
theorem d_La_law_298 : decode b_La_law 298 = .ok (.iconst 2, 1) := by decide +kernel
theorem d_La_law_299 : decode b_La_law 299 = .ok (.iadd, 1) := by decide +kernel
theorem d_La_law_300 : decode b_La_law 300 = .ok (.iaload, 1) := by decide +kernel
theorem d_La_law_301 : decode b_La_law 301 = .ok (.invokestatic 84, 3) := by decide +kernel
theorem d_La_law_304 : decode b_La_law 304 = .ok (.istore 5, 2) := by decide +kernel
theorem d_La_law_306 : decode b_La_law 306 = .ok (.aload_n 2, 1) := by decide +kernel
theorem d_La_law_307 : decode b_La_law 307 = .ok (.aload_n 0, 1) := by decide +kernel
theorem d_La_law_308 : decode b_La_law 308 = .ok (.iload 4, 2) := by decide +kernel
theorem d_La_law_310 : decode b_La_law 310 = .ok (.iconst 1, 1) := by decide +kernel
theorem d_La_law_311 : decode b_La_law 311 = .ok (.iadd, 1) := by decide +kernel
theorem d_La_law_312 : decode b_La_law 312 = .ok (.iaload, 1) := by decide +kernel
theorem d_La_law_313 : decode b_La_law 313 = .ok (.aload_n 0, 1) := by decide +kernel
theorem d_La_law_314 : decode b_La_law 314 = .ok (.iload 4, 2) := by decide +kernel
theorem d_La_law_316 : decode b_La_law 316 = .ok (.iconst 2, 1) := by decide +kernel
theorem d_La_law_317 : decode b_La_law 317 = .ok (.iadd, 1) := by decide +kernel
theorem d_La_law_318 : decode b_La_law 318 = .ok (.iaload, 1) := by decide +kernel
theorem d_La_law_319 : decode b_La_law 319 = .ok (.invokevirtual 87, 3) := by decide +kernel
theorem d_La_law_322 : decode b_La_law 322 = .ok (.aload_n 2, 1) := by decide +kernel
theorem d_La_law_323 : decode b_La_law 323 = .ok (.invokevirtual 76, 3) := by decide +kernel
theorem d_La_law_326 : decode b_La_law 326 = .ok (.iload 5, 2) := by decide +kernel
theorem d_La_law_328 : decode b_La_law 328 = .ok (.if_icmp .eq 5, 3) := by decide +kernel
theorem d_La_law_331 : decode b_La_law 331 = .ok (.iconst 0, 1) := by decide +kernel
theorem d_La_law_332 : decode b_La_law 332 = .ok (.ireturn, 1) := by decide +kernel
theorem d_La_law_333 : decode b_La_law 333 = .ok (.goto 787, 3) := by decide +kernel
theorem d_La_law_336 : decode b_La_law 336 = .ok (.aload_n 1, 1) := by decide +kernel
theorem d_La_law_337 : decode b_La_law 337 = .ok (.aload_n 0, 1) := by decide +kernel
theorem d_La_law_338 : decode b_La_law 338 = .ok (.iload 4, 2) := by decide +kernel
theorem d_La_law_340 : decode b_La_law 340 = .ok (.iconst 1, 1) := by decide +kernel
theorem d_La_law_341 : decode b_La_law 341 = .ok (.iadd, 1) := by decide +kernel
theorem d_La_law_342 : decode b_La_law 342 = .ok (.iaload, 1) := by decide +kernel
theorem d_La_law_343 : decode b_La_law 343 = .ok (.aload_n 0, 1) := by decide +kernel
theorem d_La_law_344 : decode b_La_law 344 = .ok (.iload 4, 2) := by decide +kernel
theorem d_La_law_346 : decode b_La_law 346 = .ok (.iconst 2, 1) := by decide +kernel
theorem d_La_law_347 : decode b_La_law 347 = .ok (.iadd, 1) := by decide +kernel
theorem d_La_law_348 : decode b_La_law 348 = .ok (.iaload, 1) := by decide +kernel
theorem d_La_law_349 : decode b_La_law 349 = .ok (.aload_n 0, 1) := by decide +kernel
theorem d_La_law_350 : decode b_La_law 350 = .ok (.iload 4, 2) := by decide +kernel
theorem d_La_law_352 : decode b_La_law 352 = .ok (.iconst 3, 1) := by decide +kernel
theorem d_La_law_353 : decode b_La_law 353 = .ok (.iadd, 1) := by decide +kernel
theorem d_La_law_354 : decode b_La_law 354 = .ok (.iaload, 1) := by decide +kernel
theorem d_La_law_355 : decode b_La_law 355 = .ok (.aload_n 0, 1) := by decide +kernel
theorem d_La_law_356 : decode b_La_law 356 = .ok (.iload 4, 2) := by decide +kernel
theorem d_La_law_358 : decode b_La_law 358 = .ok (.iconst 4, 1) := by decide +kernel
theorem d_La_law_359 : decode b_La_law 359 = .ok (.iadd, 1) := by decide +kernel
theorem d_La_law_360 : decode b_La_law 360 = .ok (.iaload, 1) := by decide +kernel
theorem d_La_law_361 : decode b_La_law 361 = .ok (.aload_n 0, 1) := by decide +kernel
theorem d_La_law_362 : decode b_La_law 362 = .ok (.iload 4, 2) := by decide +kernel
theorem d_La_law_364 : decode b_La_law 364 = .ok (.iconst 5, 1) := by decide +kernel
theorem d_La_law_365 : decode b_La_law 365 = .ok (.iadd, 1) := by decide +kernel
theorem d_La_law_366 : decode b_La_law 366 = .ok (.iaload, 1) := by decide +kernel
theorem d_La_law_367 : decode b_La_law 367 = .ok (.aload_n 3, 1) := by decide +kernel
theorem d_La_law_368 : decode b_La_law 368 = .ok (.invokestatic 88, 3) := by decide +kernel
theorem d_La_law_371 : decode b_La_law 371 = .ok (.istore 5, 2) := by decide +kernel
theorem d_La_law_373 : decode b_La_law 373 = .ok (.aload_n 2, 1) := by decide +kernel
theorem d_La_law_374 : decode b_La_law 374 = .ok (.aload_n 0, 1) := by decide +kernel
theorem d_La_law_375 : decode b_La_law 375 = .ok (.iload 4, 2) := by decide +kernel
theorem d_La_law_377 : decode b_La_law 377 = .ok (.iconst 1, 1) := by decide +kernel
theorem d_La_law_378 : decode b_La_law 378 = .ok (.iadd, 1) := by decide +kernel
theorem d_La_law_379 : decode b_La_law 379 = .ok (.iaload, 1) := by decide +kernel
theorem d_La_law_380 : decode b_La_law 380 = .ok (.aload_n 0, 1) := by decide +kernel
theorem d_La_law_381 : decode b_La_law 381 = .ok (.iload 4, 2) := by decide +kernel
theorem d_La_law_383 : decode b_La_law 383 = .ok (.iconst 2, 1) := by decide +kernel
theorem d_La_law_384 : decode b_La_law 384 = .ok (.iadd, 1) := by decide +kernel
theorem d_La_law_385 : decode b_La_law 385 = .ok (.iaload, 1) := by decide +kernel
theorem d_La_law_386 : decode b_La_law 386 = .ok (.aload_n 0, 1) := by decide +kernel
theorem d_La_law_387 : decode b_La_law 387 = .ok (.iload 4, 2) := by decide +kernel
theorem d_La_law_389 : decode b_La_law 389 = .ok (.iconst 3, 1) := by decide +kernel
theorem d_La_law_390 : decode b_La_law 390 = .ok (.iadd, 1) := by decide +kernel
theorem d_La_law_391 : decode b_La_law 391 = .ok (.iaload, 1) := by decide +kernel
theorem d_La_law_392 : decode b_La_law 392 = .ok (.aload_n 0, 1) := by decide +kernel
theorem d_La_law_393 : decode b_La_law 393 = .ok (.iload 4, 2) := by decide +kernel
theorem d_La_law_395 : decode b_La_law 395 = .ok (.iconst 4, 1) := by decide +kernel
theorem d_La_law_396 : decode b_La_law 396 = .ok (.iadd, 1) := by decide +kernel
theorem d_La_law_397 : decode b_La_law 397 = .ok (.iaload, 1) := by decide +kernel
theorem d_La_law_398 : decode b_La_law 398 = .ok (.aload_n 0, 1) := by decide +kernel
theorem d_La_law_399 : decode b_La_law 399 = .ok (.iload 4, 2) := by decide +kernel
theorem d_La_law_401 : decode b_La_law 401 = .ok (.iconst 5, 1) := by decide +kernel
theorem d_La_law_402 : decode b_La_law 402 = .ok (.iadd, 1) := by decide +kernel
theorem d_La_law_403 : decode b_La_law 403 = .ok (.iaload, 1) := by decide +kernel
theorem d_La_law_404 : decode b_La_law 404 = .ok (.invokevirtual 90, 3) := by decide +kernel
theorem d_La_law_407 : decode b_La_law 407 = .ok (.istore 6, 2) := by decide +kernel
theorem d_La_law_409 : decode b_La_law 409 = .ok (.aload_n 2, 1) := by decide +kernel
theorem d_La_law_410 : decode b_La_law 410 = .ok (.invokevirtual 76, 3) := by decide +kernel
theorem d_La_law_413 : decode b_La_law 413 = .ok (.iload 5, 2) := by decide +kernel
theorem d_La_law_415 : decode b_La_law 415 = .ok (.if_icmp .eq 5, 3) := by decide +kernel
theorem d_La_law_418 : decode b_La_law 418 = .ok (.iconst 0, 1) := by decide +kernel
theorem d_La_law_419 : decode b_La_law 419 = .ok (.ireturn, 1) := by decide +kernel
theorem d_La_law_420 : decode b_La_law 420 = .ok (.iload 5, 2) := by decide +kernel
theorem d_La_law_422 : decode b_La_law 422 = .ok (.ifCond .ne 15, 3) := by decide +kernel
theorem d_La_law_425 : decode b_La_law 425 = .ok (.aload_n 3, 1) := by decide +kernel
theorem d_La_law_426 : decode b_La_law 426 = .ok (.iconst 0, 1) := by decide +kernel
theorem d_La_law_427 : decode b_La_law 427 = .ok (.laload, 1) := by decide +kernel
theorem d_La_law_428 : decode b_La_law 428 = .ok (.iload 6, 2) := by decide +kernel
theorem d_La_law_430 : decode b_La_law 430 = .ok (.i2l, 1) := by decide +kernel
theorem d_La_law_431 : decode b_La_law 431 = .ok (.lcmp, 1) := by decide +kernel
theorem d_La_law_432 : decode b_La_law 432 = .ok (.ifCond .eq 5, 3) := by decide +kernel
theorem d_La_law_435 : decode b_La_law 435 = .ok (.iconst 0, 1) := by decide +kernel
theorem d_La_law_436 : decode b_La_law 436 = .ok (.ireturn, 1) := by decide +kernel
theorem d_La_law_437 : decode b_La_law 437 = .ok (.goto 683, 3) := by decide +kernel
theorem d_La_law_440 : decode b_La_law 440 = .ok (.aload_n 1, 1) := by decide +kernel
theorem d_La_law_441 : decode b_La_law 441 = .ok (.aload_n 0, 1) := by decide +kernel
theorem d_La_law_442 : decode b_La_law 442 = .ok (.iload 4, 2) := by decide +kernel
theorem d_La_law_444 : decode b_La_law 444 = .ok (.iconst 1, 1) := by decide +kernel
theorem d_La_law_445 : decode b_La_law 445 = .ok (.iadd, 1) := by decide +kernel
theorem d_La_law_446 : decode b_La_law 446 = .ok (.iaload, 1) := by decide +kernel
theorem d_La_law_447 : decode b_La_law 447 = .ok (.aload_n 0, 1) := by decide +kernel
theorem d_La_law_448 : decode b_La_law 448 = .ok (.iload 4, 2) := by decide +kernel
theorem d_La_law_450 : decode b_La_law 450 = .ok (.iconst 2, 1) := by decide +kernel
theorem d_La_law_451 : decode b_La_law 451 = .ok (.iadd, 1) := by decide +kernel
theorem d_La_law_452 : decode b_La_law 452 = .ok (.iaload, 1) := by decide +kernel
theorem d_La_law_453 : decode b_La_law 453 = .ok (.invokestatic 91, 3) := by decide +kernel
theorem d_La_law_456 : decode b_La_law 456 = .ok (.istore 5, 2) := by decide +kernel
theorem d_La_law_458 : decode b_La_law 458 = .ok (.aload_n 2, 1) := by decide +kernel
theorem d_La_law_459 : decode b_La_law 459 = .ok (.aload_n 0, 1) := by decide +kernel
theorem d_La_law_460 : decode b_La_law 460 = .ok (.iload 4, 2) := by decide +kernel
theorem d_La_law_462 : decode b_La_law 462 = .ok (.iconst 1, 1) := by decide +kernel
theorem d_La_law_463 : decode b_La_law 463 = .ok (.iadd, 1) := by decide +kernel
theorem d_La_law_464 : decode b_La_law 464 = .ok (.iaload, 1) := by decide +kernel
theorem d_La_law_465 : decode b_La_law 465 = .ok (.aload_n 0, 1) := by decide +kernel
theorem d_La_law_466 : decode b_La_law 466 = .ok (.iload 4, 2) := by decide +kernel
theorem d_La_law_468 : decode b_La_law 468 = .ok (.iconst 2, 1) := by decide +kernel
theorem d_La_law_469 : decode b_La_law 469 = .ok (.iadd, 1) := by decide +kernel
theorem d_La_law_470 : decode b_La_law 470 = .ok (.iaload, 1) := by decide +kernel
theorem d_La_law_471 : decode b_La_law 471 = .ok (.invokevirtual 93, 3) := by decide +kernel
theorem d_La_law_474 : decode b_La_law 474 = .ok (.aload_n 2, 1) := by decide +kernel
theorem d_La_law_475 : decode b_La_law 475 = .ok (.invokevirtual 76, 3) := by decide +kernel
theorem d_La_law_478 : decode b_La_law 478 = .ok (.iload 5, 2) := by decide +kernel
theorem d_La_law_480 : decode b_La_law 480 = .ok (.if_icmp .eq 5, 3) := by decide +kernel
theorem d_La_law_483 : decode b_La_law 483 = .ok (.iconst 0, 1) := by decide +kernel
theorem d_La_law_484 : decode b_La_law 484 = .ok (.ireturn, 1) := by decide +kernel
theorem d_La_law_485 : decode b_La_law 485 = .ok (.goto 635, 3) := by decide +kernel
theorem d_La_law_488 : decode b_La_law 488 = .ok (.aload_n 1, 1) := by decide +kernel
theorem d_La_law_489 : decode b_La_law 489 = .ok (.aload_n 0, 1) := by decide +kernel
theorem d_La_law_490 : decode b_La_law 490 = .ok (.iload 4, 2) := by decide +kernel
theorem d_La_law_492 : decode b_La_law 492 = .ok (.iconst 1, 1) := by decide +kernel
theorem d_La_law_493 : decode b_La_law 493 = .ok (.iadd, 1) := by decide +kernel
theorem d_La_law_494 : decode b_La_law 494 = .ok (.iaload, 1) := by decide +kernel
theorem d_La_law_495 : decode b_La_law 495 = .ok (.aload_n 0, 1) := by decide +kernel
theorem d_La_law_496 : decode b_La_law 496 = .ok (.iload 4, 2) := by decide +kernel
theorem d_La_law_498 : decode b_La_law 498 = .ok (.iconst 2, 1) := by decide +kernel
theorem d_La_law_499 : decode b_La_law 499 = .ok (.iadd, 1) := by decide +kernel
theorem d_La_law_500 : decode b_La_law 500 = .ok (.iaload, 1) := by decide +kernel
theorem d_La_law_501 : decode b_La_law 501 = .ok (.aload_n 0, 1) := by decide +kernel
theorem d_La_law_502 : decode b_La_law 502 = .ok (.iload 4, 2) := by decide +kernel
theorem d_La_law_504 : decode b_La_law 504 = .ok (.iconst 3, 1) := by decide +kernel
theorem d_La_law_505 : decode b_La_law 505 = .ok (.iadd, 1) := by decide +kernel
theorem d_La_law_506 : decode b_La_law 506 = .ok (.iaload, 1) := by decide +kernel
theorem d_La_law_507 : decode b_La_law 507 = .ok (.aload_n 3, 1) := by decide +kernel
theorem d_La_law_508 : decode b_La_law 508 = .ok (.invokestatic 94, 3) := by decide +kernel
theorem d_La_law_511 : decode b_La_law 511 = .ok (.istore 5, 2) := by decide +kernel
theorem d_La_law_513 : decode b_La_law 513 = .ok (.aload_n 2, 1) := by decide +kernel
theorem d_La_law_514 : decode b_La_law 514 = .ok (.aload_n 0, 1) := by decide +kernel
theorem d_La_law_515 : decode b_La_law 515 = .ok (.iload 4, 2) := by decide +kernel
theorem d_La_law_517 : decode b_La_law 517 = .ok (.iconst 1, 1) := by decide +kernel
theorem d_La_law_518 : decode b_La_law 518 = .ok (.iadd, 1) := by decide +kernel
theorem d_La_law_519 : decode b_La_law 519 = .ok (.iaload, 1) := by decide +kernel
theorem d_La_law_520 : decode b_La_law 520 = .ok (.aload_n 0, 1) := by decide +kernel
theorem d_La_law_521 : decode b_La_law 521 = .ok (.iload 4, 2) := by decide +kernel
theorem d_La_law_523 : decode b_La_law 523 = .ok (.iconst 2, 1) := by decide +kernel
theorem d_La_law_524 : decode b_La_law 524 = .ok (.iadd, 1) := by decide +kernel
theorem d_La_law_525 : decode b_La_law 525 = .ok (.iaload, 1) := by decide +kernel
theorem d_La_law_526 : decode b_La_law 526 = .ok (.aload_n 0, 1) := by decide +kernel
theorem d_La_law_527 : decode b_La_law 527 = .ok (.iload 4, 2) := by decide +kernel
theorem d_La_law_529 : decode b_La_law 529 = .ok (.iconst 3, 1) := by decide +kernel
theorem d_La_law_530 : decode b_La_law 530 = .ok (.iadd, 1) := by decide +kernel
theorem d_La_law_531 : decode b_La_law 531 = .ok (.iaload, 1) := by decide +kernel
theorem d_La_law_532 : decode b_La_law 532 = .ok (.invokevirtual 97, 3) := by decide +kernel
theorem d_La_law_535 : decode b_La_law 535 = .ok (.istore 6, 2) := by decide +kernel
theorem d_La_law_537 : decode b_La_law 537 = .ok (.aload_n 2, 1) := by decide +kernel
theorem d_La_law_538 : decode b_La_law 538 = .ok (.invokevirtual 76, 3) := by decide +kernel
theorem d_La_law_541 : decode b_La_law 541 = .ok (.iload 5, 2) := by decide +kernel
theorem d_La_law_543 : decode b_La_law 543 = .ok (.if_icmp .eq 5, 3) := by decide +kernel
theorem d_La_law_546 : decode b_La_law 546 = .ok (.iconst 0, 1) := by decide +kernel
theorem d_La_law_547 : decode b_La_law 547 = .ok (.ireturn, 1) := by decide +kernel
theorem d_La_law_548 : decode b_La_law 548 = .ok (.iload 5, 2) := by decide +kernel
theorem d_La_law_550 : decode b_La_law 550 = .ok (.ifCond .ne 15, 3) := by decide +kernel
theorem d_La_law_553 : decode b_La_law 553 = .ok (.aload_n 3, 1) := by decide +kernel
theorem d_La_law_554 : decode b_La_law 554 = .ok (.iconst 0, 1) := by decide +kernel
theorem d_La_law_555 : decode b_La_law 555 = .ok (.laload, 1) := by decide +kernel
theorem d_La_law_556 : decode b_La_law 556 = .ok (.iload 6, 2) := by decide +kernel
theorem d_La_law_558 : decode b_La_law 558 = .ok (.i2l, 1) := by decide +kernel
theorem d_La_law_559 : decode b_La_law 559 = .ok (.lcmp, 1) := by decide +kernel
theorem d_La_law_560 : decode b_La_law 560 = .ok (.ifCond .eq 5, 3) := by decide +kernel
theorem d_La_law_563 : decode b_La_law 563 = .ok (.iconst 0, 1) := by decide +kernel
theorem d_La_law_564 : decode b_La_law 564 = .ok (.ireturn, 1) := by decide +kernel
theorem d_La_law_565 : decode b_La_law 565 = .ok (.goto 555, 3) := by decide +kernel
theorem d_La_law_568 : decode b_La_law 568 = .ok (.aload_n 1, 1) := by decide +kernel
theorem d_La_law_569 : decode b_La_law 569 = .ok (.aload_n 0, 1) := by decide +kernel
theorem d_La_law_570 : decode b_La_law 570 = .ok (.iload 4, 2) := by decide +kernel
theorem d_La_law_572 : decode b_La_law 572 = .ok (.iconst 1, 1) := by decide +kernel
theorem d_La_law_573 : decode b_La_law 573 = .ok (.iadd, 1) := by decide +kernel
theorem d_La_law_574 : decode b_La_law 574 = .ok (.iaload, 1) := by decide +kernel
theorem d_La_law_575 : decode b_La_law 575 = .ok (.aload_n 0, 1) := by decide +kernel
theorem d_La_law_576 : decode b_La_law 576 = .ok (.iload 4, 2) := by decide +kernel
theorem d_La_law_578 : decode b_La_law 578 = .ok (.iconst 2, 1) := by decide +kernel
theorem d_La_law_579 : decode b_La_law 579 = .ok (.iadd, 1) := by decide +kernel
theorem d_La_law_580 : decode b_La_law 580 = .ok (.iaload, 1) := by decide +kernel
theorem d_La_law_581 : decode b_La_law 581 = .ok (.aload_n 3, 1) := by decide +kernel
theorem d_La_law_582 : decode b_La_law 582 = .ok (.invokestatic 98, 3) := by decide +kernel
theorem d_La_law_585 : decode b_La_law 585 = .ok (.istore 5, 2) := by decide +kernel
theorem d_La_law_587 : decode b_La_law 587 = .ok (.aload_n 2, 1) := by decide +kernel
theorem d_La_law_588 : decode b_La_law 588 = .ok (.aload_n 0, 1) := by decide +kernel
theorem d_La_law_589 : decode b_La_law 589 = .ok (.iload 4, 2) := by decide +kernel
theorem d_La_law_591 : decode b_La_law 591 = .ok (.iconst 1, 1) := by decide +kernel
theorem d_La_law_592 : decode b_La_law 592 = .ok (.iadd, 1) := by decide +kernel
theorem d_La_law_593 : decode b_La_law 593 = .ok (.iaload, 1) := by decide +kernel
theorem d_La_law_594 : decode b_La_law 594 = .ok (.aload_n 0, 1) := by decide +kernel
theorem d_La_law_595 : decode b_La_law 595 = .ok (.iload 4, 2) := by decide +kernel
theorem d_La_law_597 : decode b_La_law 597 = .ok (.iconst 2, 1) := by decide +kernel
theorem d_La_law_598 : decode b_La_law 598 = .ok (.iadd, 1) := by decide +kernel
theorem d_La_law_599 : decode b_La_law 599 = .ok (.iaload, 1) := by decide +kernel
theorem d_La_law_600 : decode b_La_law 600 = .ok (.invokevirtual 100, 3) := by decide +kernel
theorem d_La_law_603 : decode b_La_law 603 = .ok (.istore 6, 2) := by decide +kernel
theorem d_La_law_605 : decode b_La_law 605 = .ok (.aload_n 2, 1) := by decide +kernel
theorem d_La_law_606 : decode b_La_law 606 = .ok (.invokevirtual 76, 3) := by decide +kernel
theorem d_La_law_609 : decode b_La_law 609 = .ok (.iload 5, 2) := by decide +kernel
theorem d_La_law_611 : decode b_La_law 611 = .ok (.if_icmp .eq 5, 3) := by decide +kernel
theorem d_La_law_614 : decode b_La_law 614 = .ok (.iconst 0, 1) := by decide +kernel
theorem d_La_law_615 : decode b_La_law 615 = .ok (.ireturn, 1) := by decide +kernel
theorem d_La_law_616 : decode b_La_law 616 = .ok (.iload 5, 2) := by decide +kernel
theorem d_La_law_618 : decode b_La_law 618 = .ok (.ifCond .ne 15, 3) := by decide +kernel
theorem d_La_law_621 : decode b_La_law 621 = .ok (.aload_n 3, 1) := by decide +kernel
theorem d_La_law_622 : decode b_La_law 622 = .ok (.iconst 0, 1) := by decide +kernel
theorem d_La_law_623 : decode b_La_law 623 = .ok (.laload, 1) := by decide +kernel
theorem d_La_law_624 : decode b_La_law 624 = .ok (.iload 6, 2) := by decide +kernel
theorem d_La_law_626 : decode b_La_law 626 = .ok (.i2l, 1) := by decide +kernel
theorem d_La_law_627 : decode b_La_law 627 = .ok (.lcmp, 1) := by decide +kernel
theorem d_La_law_628 : decode b_La_law 628 = .ok (.ifCond .eq 5, 3) := by decide +kernel
theorem d_La_law_631 : decode b_La_law 631 = .ok (.iconst 0, 1) := by decide +kernel
theorem d_La_law_632 : decode b_La_law 632 = .ok (.ireturn, 1) := by decide +kernel
theorem d_La_law_633 : decode b_La_law 633 = .ok (.goto 487, 3) := by decide +kernel
theorem d_La_law_636 : decode b_La_law 636 = .ok (.aload_n 1, 1) := by decide +kernel
theorem d_La_law_637 : decode b_La_law 637 = .ok (.aload_n 0, 1) := by decide +kernel
theorem d_La_law_638 : decode b_La_law 638 = .ok (.iload 4, 2) := by decide +kernel
theorem d_La_law_640 : decode b_La_law 640 = .ok (.iconst 1, 1) := by decide +kernel
theorem d_La_law_641 : decode b_La_law 641 = .ok (.iadd, 1) := by decide +kernel
theorem d_La_law_642 : decode b_La_law 642 = .ok (.iaload, 1) := by decide +kernel
theorem d_La_law_643 : decode b_La_law 643 = .ok (.aload_n 3, 1) := by decide +kernel
theorem d_La_law_644 : decode b_La_law 644 = .ok (.invokestatic 101, 3) := by decide +kernel
theorem d_La_law_647 : decode b_La_law 647 = .ok (.istore 5, 2) := by decide +kernel
theorem d_La_law_649 : decode b_La_law 649 = .ok (.aload_n 2, 1) := by decide +kernel
theorem d_La_law_650 : decode b_La_law 650 = .ok (.aload_n 0, 1) := by decide +kernel
theorem d_La_law_651 : decode b_La_law 651 = .ok (.iload 4, 2) := by decide +kernel
theorem d_La_law_653 : decode b_La_law 653 = .ok (.iconst 1, 1) := by decide +kernel
theorem d_La_law_654 : decode b_La_law 654 = .ok (.iadd, 1) := by decide +kernel
theorem d_La_law_655 : decode b_La_law 655 = .ok (.iaload, 1) := by decide +kernel
theorem d_La_law_656 : decode b_La_law 656 = .ok (.invokevirtual 104, 3) := by decide +kernel
theorem d_La_law_659 : decode b_La_law 659 = .ok (.istore 6, 2) := by decide +kernel
theorem d_La_law_661 : decode b_La_law 661 = .ok (.aload_n 2, 1) := by decide +kernel
theorem d_La_law_662 : decode b_La_law 662 = .ok (.invokevirtual 76, 3) := by decide +kernel
theorem d_La_law_665 : decode b_La_law 665 = .ok (.iload 5, 2) := by decide +kernel
theorem d_La_law_667 : decode b_La_law 667 = .ok (.if_icmp .eq 5, 3) := by decide +kernel
theorem d_La_law_670 : decode b_La_law 670 = .ok (.iconst 0, 1) := by decide +kernel
theorem d_La_law_671 : decode b_La_law 671 = .ok (.ireturn, 1) := by decide +kernel
theorem d_La_law_672 : decode b_La_law 672 = .ok (.iload 5, 2) := by decide +kernel
theorem d_La_law_674 : decode b_La_law 674 = .ok (.ifCond .ne 15, 3) := by decide +kernel
theorem d_La_law_677 : decode b_La_law 677 = .ok (.aload_n 3, 1) := by decide +kernel
theorem d_La_law_678 : decode b_La_law 678 = .ok (.iconst 0, 1) := by decide +kernel
theorem d_La_law_679 : decode b_La_law 679 = .ok (.laload, 1) := by decide +kernel
theorem d_La_law_680 : decode b_La_law 680 = .ok (.iload 6, 2) := by decide +kernel
theorem d_La_law_682 : decode b_La_law 682 = .ok (.i2l, 1) := by decide +kernel
theorem d_La_law_683 : decode b_La_law 683 = .ok (.lcmp, 1) := by decide +kernel
theorem d_La_law_684 : decode b_La_law 684 = .ok (.ifCond .eq 5, 3) := by decide +kernel
theorem d_La_law_687 : decode b_La_law 687 = .ok (.iconst 0, 1) := by decide +kernel
theorem d_La_law_688 : decode b_La_law 688 = .ok (.ireturn, 1) := by decide +kernel
theorem d_La_law_689 : decode b_La_law 689 = .ok (.goto 431, 3) := by decide +kernel
theorem d_La_law_692 : decode b_La_law 692 = .ok (.aload_n 1, 1) := by decide +kernel
theorem d_La_law_693 : decode b_La_law 693 = .ok (.aload_n 0, 1) := by decide +kernel
theorem d_La_law_694 : decode b_La_law 694 = .ok (.iload 4, 2) := by decide +kernel
theorem d_La_law_696 : decode b_La_law 696 = .ok (.iconst 1, 1) := by decide +kernel
theorem d_La_law_697 : decode b_La_law 697 = .ok (.iadd, 1) := by decide +kernel
theorem d_La_law_698 : decode b_La_law 698 = .ok (.iaload, 1) := by decide +kernel
theorem d_La_law_699 : decode b_La_law 699 = .ok (.aload_n 0, 1) := by decide +kernel
theorem d_La_law_700 : decode b_La_law 700 = .ok (.iload 4, 2) := by decide +kernel
theorem d_La_law_702 : decode b_La_law 702 = .ok (.iconst 2, 1) := by decide +kernel
theorem d_La_law_703 : decode b_La_law 703 = .ok (.iadd, 1) := by decide +kernel
theorem d_La_law_704 : decode b_La_law 704 = .ok (.iaload, 1) := by decide +kernel
theorem d_La_law_705 : decode b_La_law 705 = .ok (.aload_n 0, 1) := by decide +kernel
theorem d_La_law_706 : decode b_La_law 706 = .ok (.iload 4, 2) := by decide +kernel
theorem d_La_law_708 : decode b_La_law 708 = .ok (.iconst 3, 1) := by decide +kernel
theorem d_La_law_709 : decode b_La_law 709 = .ok (.iadd, 1) := by decide +kernel
theorem d_La_law_710 : decode b_La_law 710 = .ok (.iaload, 1) := by decide +kernel
theorem d_La_law_711 : decode b_La_law 711 = .ok (.invokestatic 105, 3) := by decide +kernel
theorem d_La_law_714 : decode b_La_law 714 = .ok (.istore 5, 2) := by decide +kernel
theorem d_La_law_716 : decode b_La_law 716 = .ok (.aload_n 2, 1) := by decide +kernel
theorem d_La_law_717 : decode b_La_law 717 = .ok (.aload_n 0, 1) := by decide +kernel
theorem d_La_law_718 : decode b_La_law 718 = .ok (.iload 4, 2) := by decide +kernel
theorem d_La_law_720 : decode b_La_law 720 = .ok (.iconst 1, 1) := by decide +kernel
theorem d_La_law_721 : decode b_La_law 721 = .ok (.iadd, 1) := by decide +kernel
theorem d_La_law_722 : decode b_La_law 722 = .ok (.iaload, 1) := by decide +kernel
theorem d_La_law_723 : decode b_La_law 723 = .ok (.aload_n 0, 1) := by decide +kernel
theorem d_La_law_724 : decode b_La_law 724 = .ok (.iload 4, 2) := by decide +kernel
theorem d_La_law_726 : decode b_La_law 726 = .ok (.iconst 2, 1) := by decide +kernel
theorem d_La_law_727 : decode b_La_law 727 = .ok (.iadd, 1) := by decide +kernel
theorem d_La_law_728 : decode b_La_law 728 = .ok (.iaload, 1) := by decide +kernel
theorem d_La_law_729 : decode b_La_law 729 = .ok (.aload_n 0, 1) := by decide +kernel
theorem d_La_law_730 : decode b_La_law 730 = .ok (.iload 4, 2) := by decide +kernel
theorem d_La_law_732 : decode b_La_law 732 = .ok (.iconst 3, 1) := by decide +kernel
theorem d_La_law_733 : decode b_La_law 733 = .ok (.iadd, 1) := by decide +kernel
theorem d_La_law_734 : decode b_La_law 734 = .ok (.iaload, 1) := by decide +kernel
theorem d_La_law_735 : decode b_La_law 735 = .ok (.invokevirtual 108, 3) := by decide +kernel
theorem d_La_law_738 : decode b_La_law 738 = .ok (.aload_n 2, 1) := by decide +kernel
theorem d_La_law_739 : decode b_La_law 739 = .ok (.invokevirtual 76, 3) := by decide +kernel
theorem d_La_law_742 : decode b_La_law 742 = .ok (.iload 5, 2) := by decide +kernel
theorem d_La_law_744 : decode b_La_law 744 = .ok (.if_icmp .eq 5, 3) := by decide +kernel
theorem d_La_law_747 : decode b_La_law 747 = .ok (.iconst 0, 1) := by decide +kernel
theorem d_La_law_748 : decode b_La_law 748 = .ok (.ireturn, 1) := by decide +kernel
theorem d_La_law_749 : decode b_La_law 749 = .ok (.goto 371, 3) := by decide +kernel
theorem d_La_law_752 : decode b_La_law 752 = .ok (.aload_n 1, 1) := by decide +kernel
theorem d_La_law_753 : decode b_La_law 753 = .ok (.aload_n 0, 1) := by decide +kernel
theorem d_La_law_754 : decode b_La_law 754 = .ok (.iload 4, 2) := by decide +kernel
theorem d_La_law_756 : decode b_La_law 756 = .ok (.iconst 1, 1) := by decide +kernel
theorem d_La_law_757 : decode b_La_law 757 = .ok (.iadd, 1) := by decide +kernel
theorem d_La_law_758 : decode b_La_law 758 = .ok (.iaload, 1) := by decide +kernel
theorem d_La_law_759 : decode b_La_law 759 = .ok (.aload_n 3, 1) := by decide +kernel
theorem d_La_law_760 : decode b_La_law 760 = .ok (.invokestatic 109, 3) := by decide +kernel
theorem d_La_law_763 : decode b_La_law 763 = .ok (.istore 5, 2) := by decide +kernel
theorem d_La_law_765 : decode b_La_law 765 = .ok (.aload_n 2, 1) := by decide +kernel
theorem d_La_law_766 : decode b_La_law 766 = .ok (.aload_n 0, 1) := by decide +kernel
theorem d_La_law_767 : decode b_La_law 767 = .ok (.iload 4, 2) := by decide +kernel
theorem d_La_law_769 : decode b_La_law 769 = .ok (.iconst 1, 1) := by decide +kernel
theorem d_La_law_770 : decode b_La_law 770 = .ok (.iadd, 1) := by decide +kernel
theorem d_La_law_771 : decode b_La_law 771 = .ok (.iaload, 1) := by decide +kernel
theorem d_La_law_772 : decode b_La_law 772 = .ok (.invokevirtual 111, 3) := by decide +kernel
theorem d_La_law_775 : decode b_La_law 775 = .ok (.istore 6, 2) := by decide +kernel
theorem d_La_law_777 : decode b_La_law 777 = .ok (.aload_n 2, 1) := by decide +kernel
theorem d_La_law_778 : decode b_La_law 778 = .ok (.invokevirtual 76, 3) := by decide +kernel
theorem d_La_law_781 : decode b_La_law 781 = .ok (.iload 5, 2) := by decide +kernel
theorem d_La_law_783 : decode b_La_law 783 = .ok (.if_icmp .eq 5, 3) := by decide +kernel
theorem d_La_law_786 : decode b_La_law 786 = .ok (.iconst 0, 1) := by decide +kernel
theorem d_La_law_787 : decode b_La_law 787 = .ok (.ireturn, 1) := by decide +kernel
theorem d_La_law_788 : decode b_La_law 788 = .ok (.iload 5, 2) := by decide +kernel
theorem d_La_law_790 : decode b_La_law 790 = .ok (.ifCond .ne 15, 3) := by decide +kernel
theorem d_La_law_793 : decode b_La_law 793 = .ok (.aload_n 3, 1) := by decide +kernel
theorem d_La_law_794 : decode b_La_law 794 = .ok (.iconst 0, 1) := by decide +kernel
theorem d_La_law_795 : decode b_La_law 795 = .ok (.laload, 1) := by decide +kernel
theorem d_La_law_796 : decode b_La_law 796 = .ok (.iload 6, 2) := by decide +kernel
theorem d_La_law_798 : decode b_La_law 798 = .ok (.i2l, 1) := by decide +kernel
theorem d_La_law_799 : decode b_La_law 799 = .ok (.lcmp, 1) := by decide +kernel
theorem d_La_law_800 : decode b_La_law 800 = .ok (.ifCond .eq 5, 3) := by decide +kernel
theorem d_La_law_803 : decode b_La_law 803 = .ok (.iconst 0, 1) := by decide +kernel
theorem d_La_law_804 : decode b_La_law 804 = .ok (.ireturn, 1) := by decide +kernel
theorem d_La_law_805 : decode b_La_law 805 = .ok (.goto 315, 3) := by decide +kernel
theorem d_La_law_808 : decode b_La_law 808 = .ok (.aload_n 1, 1) := by decide +kernel
theorem d_La_law_809 : decode b_La_law 809 = .ok (.aload_n 0, 1) := by decide +kernel
theorem d_La_law_810 : decode b_La_law 810 = .ok (.iload 4, 2) := by decide +kernel
theorem d_La_law_812 : decode b_La_law 812 = .ok (.iconst 1, 1) := by decide +kernel
theorem d_La_law_813 : decode b_La_law 813 = .ok (.iadd, 1) := by decide +kernel
theorem d_La_law_814 : decode b_La_law 814 = .ok (.iaload, 1) := by decide +kernel
theorem d_La_law_815 : decode b_La_law 815 = .ok (.aload_n 0, 1) := by decide +kernel
theorem d_La_law_816 : decode b_La_law 816 = .ok (.iload 4, 2) := by decide +kernel
theorem d_La_law_818 : decode b_La_law 818 = .ok (.iconst 2, 1) := by decide +kernel
theorem d_La_law_819 : decode b_La_law 819 = .ok (.iadd, 1) := by decide +kernel
theorem d_La_law_820 : decode b_La_law 820 = .ok (.iaload, 1) := by decide +kernel
theorem d_La_law_821 : decode b_La_law 821 = .ok (.aload_n 3, 1) := by decide +kernel
theorem d_La_law_822 : decode b_La_law 822 = .ok (.invokestatic 112, 3) := by decide +kernel
theorem d_La_law_825 : decode b_La_law 825 = .ok (.istore 5, 2) := by decide +kernel
theorem d_La_law_827 : decode b_La_law 827 = .ok (.aload_n 2, 1) := by decide +kernel
theorem d_La_law_828 : decode b_La_law 828 = .ok (.aload_n 0, 1) := by decide +kernel
theorem d_La_law_829 : decode b_La_law 829 = .ok (.iload 4, 2) := by decide +kernel
theorem d_La_law_831 : decode b_La_law 831 = .ok (.iconst 1, 1) := by decide +kernel
theorem d_La_law_832 : decode b_La_law 832 = .ok (.iadd, 1) := by decide +kernel
theorem d_La_law_833 : decode b_La_law 833 = .ok (.iaload, 1) := by decide +kernel
theorem d_La_law_834 : decode b_La_law 834 = .ok (.aload_n 0, 1) := by decide +kernel
theorem d_La_law_835 : decode b_La_law 835 = .ok (.iload 4, 2) := by decide +kernel
theorem d_La_law_837 : decode b_La_law 837 = .ok (.iconst 2, 1) := by decide +kernel
theorem d_La_law_838 : decode b_La_law 838 = .ok (.iadd, 1) := by decide +kernel
theorem d_La_law_839 : decode b_La_law 839 = .ok (.iaload, 1) := by decide +kernel
theorem d_La_law_840 : decode b_La_law 840 = .ok (.invokevirtual 114, 3) := by decide +kernel
theorem d_La_law_843 : decode b_La_law 843 = .ok (.lstore 6, 2) := by decide +kernel
theorem d_La_law_845 : decode b_La_law 845 = .ok (.aload_n 2, 1) := by decide +kernel
theorem d_La_law_846 : decode b_La_law 846 = .ok (.invokevirtual 76, 3) := by decide +kernel
theorem d_La_law_849 : decode b_La_law 849 = .ok (.iload 5, 2) := by decide +kernel
theorem d_La_law_851 : decode b_La_law 851 = .ok (.if_icmp .eq 5, 3) := by decide +kernel
theorem d_La_law_854 : decode b_La_law 854 = .ok (.iconst 0, 1) := by decide +kernel
theorem d_La_law_855 : decode b_La_law 855 = .ok (.ireturn, 1) := by decide +kernel
theorem d_La_law_856 : decode b_La_law 856 = .ok (.iload 5, 2) := by decide +kernel
theorem d_La_law_858 : decode b_La_law 858 = .ok (.ifCond .ne 14, 3) := by decide +kernel
theorem d_La_law_861 : decode b_La_law 861 = .ok (.aload_n 3, 1) := by decide +kernel
theorem d_La_law_862 : decode b_La_law 862 = .ok (.iconst 0, 1) := by decide +kernel
theorem d_La_law_863 : decode b_La_law 863 = .ok (.laload, 1) := by decide +kernel
theorem d_La_law_864 : decode b_La_law 864 = .ok (.lload 6, 2) := by decide +kernel
theorem d_La_law_866 : decode b_La_law 866 = .ok (.lcmp, 1) := by decide +kernel
theorem d_La_law_867 : decode b_La_law 867 = .ok (.ifCond .eq 5, 3) := by decide +kernel
theorem d_La_law_870 : decode b_La_law 870 = .ok (.iconst 0, 1) := by decide +kernel
theorem d_La_law_871 : decode b_La_law 871 = .ok (.ireturn, 1) := by decide +kernel
theorem d_La_law_872 : decode b_La_law 872 = .ok (.goto 248, 3) := by decide +kernel
theorem d_La_law_875 : decode b_La_law 875 = .ok (.aload_n 1, 1) := by decide +kernel
theorem d_La_law_876 : decode b_La_law 876 = .ok (.aload_n 0, 1) := by decide +kernel
theorem d_La_law_877 : decode b_La_law 877 = .ok (.iload 4, 2) := by decide +kernel
theorem d_La_law_879 : decode b_La_law 879 = .ok (.iconst 1, 1) := by decide +kernel
theorem d_La_law_880 : decode b_La_law 880 = .ok (.iadd, 1) := by decide +kernel
theorem d_La_law_881 : decode b_La_law 881 = .ok (.iaload, 1) := by decide +kernel
theorem d_La_law_882 : decode b_La_law 882 = .ok (.aload_n 0, 1) := by decide +kernel
theorem d_La_law_883 : decode b_La_law 883 = .ok (.iload 4, 2) := by decide +kernel
theorem d_La_law_885 : decode b_La_law 885 = .ok (.iconst 2, 1) := by decide +kernel
theorem d_La_law_886 : decode b_La_law 886 = .ok (.iadd, 1) := by decide +kernel
theorem d_La_law_887 : decode b_La_law 887 = .ok (.iaload, 1) := by decide +kernel
theorem d_La_law_888 : decode b_La_law 888 = .ok (.aload_n 3, 1) := by decide +kernel
theorem d_La_law_889 : decode b_La_law 889 = .ok (.invokestatic 115, 3) := by decide +kernel
theorem d_La_law_892 : decode b_La_law 892 = .ok (.istore 5, 2) := by decide +kernel
theorem d_La_law_894 : decode b_La_law 894 = .ok (.aload_n 2, 1) := by decide +kernel
theorem d_La_law_895 : decode b_La_law 895 = .ok (.aload_n 0, 1) := by decide +kernel
theorem d_La_law_896 : decode b_La_law 896 = .ok (.iload 4, 2) := by decide +kernel
theorem d_La_law_898 : decode b_La_law 898 = .ok (.iconst 1, 1) := by decide +kernel
theorem d_La_law_899 : decode b_La_law 899 = .ok (.iadd, 1) := by decide +kernel
theorem d_La_law_900 : decode b_La_law 900 = .ok (.iaload, 1) := by decide +kernel
theorem d_La_law_901 : decode b_La_law 901 = .ok (.aload_n 0, 1) := by decide +kernel
theorem d_La_law_902 : decode b_La_law 902 = .ok (.iload 4, 2) := by decide +kernel
theorem d_La_law_904 : decode b_La_law 904 = .ok (.iconst 2, 1) := by decide +kernel
theorem d_La_law_905 : decode b_La_law 905 = .ok (.iadd, 1) := by decide +kernel
theorem d_La_law_906 : decode b_La_law 906 = .ok (.iaload, 1) := by decide +kernel
theorem d_La_law_907 : decode b_La_law 907 = .ok (.invokevirtual 117, 3) := by decide +kernel
theorem d_La_law_910 : decode b_La_law 910 = .ok (.lstore 6, 2) := by decide +kernel
theorem d_La_law_912 : decode b_La_law 912 = .ok (.aload_n 2, 1) := by decide +kernel
theorem d_La_law_913 : decode b_La_law 913 = .ok (.invokevirtual 76, 3) := by decide +kernel
theorem d_La_law_916 : decode b_La_law 916 = .ok (.iload 5, 2) := by decide +kernel
theorem d_La_law_918 : decode b_La_law 918 = .ok (.if_icmp .eq 5, 3) := by decide +kernel
theorem d_La_law_921 : decode b_La_law 921 = .ok (.iconst 0, 1) := by decide +kernel
theorem d_La_law_922 : decode b_La_law 922 = .ok (.ireturn, 1) := by decide +kernel
theorem d_La_law_923 : decode b_La_law 923 = .ok (.iload 5, 2) := by decide +kernel
theorem d_La_law_925 : decode b_La_law 925 = .ok (.ifCond .ne 14, 3) := by decide +kernel
theorem d_La_law_928 : decode b_La_law 928 = .ok (.aload_n 3, 1) := by decide +kernel
theorem d_La_law_929 : decode b_La_law 929 = .ok (.iconst 0, 1) := by decide +kernel
theorem d_La_law_930 : decode b_La_law 930 = .ok (.laload, 1) := by decide +kernel
theorem d_La_law_931 : decode b_La_law 931 = .ok (.lload 6, 2) := by decide +kernel
theorem d_La_law_933 : decode b_La_law 933 = .ok (.lcmp, 1) := by decide +kernel
theorem d_La_law_934 : decode b_La_law 934 = .ok (.ifCond .eq 5, 3) := by decide +kernel
theorem d_La_law_937 : decode b_La_law 937 = .ok (.iconst 0, 1) := by decide +kernel
theorem d_La_law_938 : decode b_La_law 938 = .ok (.ireturn, 1) := by decide +kernel
theorem d_La_law_939 : decode b_La_law 939 = .ok (.goto 181, 3) := by decide +kernel
theorem d_La_law_942 : decode b_La_law 942 = .ok (.aload_n 1, 1) := by decide +kernel
theorem d_La_law_943 : decode b_La_law 943 = .ok (.aload_n 0, 1) := by decide +kernel
theorem d_La_law_944 : decode b_La_law 944 = .ok (.iload 4, 2) := by decide +kernel
theorem d_La_law_946 : decode b_La_law 946 = .ok (.iconst 1, 1) := by decide +kernel
theorem d_La_law_947 : decode b_La_law 947 = .ok (.iadd, 1) := by decide +kernel
theorem d_La_law_948 : decode b_La_law 948 = .ok (.iaload, 1) := by decide +kernel
theorem d_La_law_949 : decode b_La_law 949 = .ok (.aload_n 0, 1) := by decide +kernel
theorem d_La_law_950 : decode b_La_law 950 = .ok (.iload 4, 2) := by decide +kernel
theorem d_La_law_952 : decode b_La_law 952 = .ok (.iconst 2, 1) := by decide +kernel
theorem d_La_law_953 : decode b_La_law 953 = .ok (.iadd, 1) := by decide +kernel
theorem d_La_law_954 : decode b_La_law 954 = .ok (.iaload, 1) := by decide +kernel
theorem d_La_law_955 : decode b_La_law 955 = .ok (.aload_n 3, 1) := by decide +kernel
theorem d_La_law_956 : decode b_La_law 956 = .ok (.invokestatic 118, 3) := by decide +kernel
theorem d_La_law_959 : decode b_La_law 959 = .ok (.istore 5, 2) := by decide +kernel
theorem d_La_law_961 : decode b_La_law 961 = .ok (.aload_n 2, 1) := by decide +kernel
theorem d_La_law_962 : decode b_La_law 962 = .ok (.aload_n 0, 1) := by decide +kernel
theorem d_La_law_963 : decode b_La_law 963 = .ok (.iload 4, 2) := by decide +kernel
theorem d_La_law_965 : decode b_La_law 965 = .ok (.iconst 1, 1) := by decide +kernel
theorem d_La_law_966 : decode b_La_law 966 = .ok (.iadd, 1) := by decide +kernel
theorem d_La_law_967 : decode b_La_law 967 = .ok (.iaload, 1) := by decide +kernel
theorem d_La_law_968 : decode b_La_law 968 = .ok (.aload_n 0, 1) := by decide +kernel
theorem d_La_law_969 : decode b_La_law 969 = .ok (.iload 4, 2) := by decide +kernel
theorem d_La_law_971 : decode b_La_law 971 = .ok (.iconst 2, 1) := by decide +kernel
theorem d_La_law_972 : decode b_La_law 972 = .ok (.iadd, 1) := by decide +kernel
theorem d_La_law_973 : decode b_La_law 973 = .ok (.iaload, 1) := by decide +kernel
theorem d_La_law_974 : decode b_La_law 974 = .ok (.invokevirtual 120, 3) := by decide +kernel
theorem d_La_law_977 : decode b_La_law 977 = .ok (.lstore 6, 2) := by decide +kernel
theorem d_La_law_979 : decode b_La_law 979 = .ok (.aload_n 2, 1) := by decide +kernel
theorem d_La_law_980 : decode b_La_law 980 = .ok (.invokevirtual 76, 3) := by decide +kernel
theorem d_La_law_983 : decode b_La_law 983 = .ok (.iload 5, 2) := by decide +kernel
theorem d_La_law_985 : decode b_La_law 985 = .ok (.if_icmp .eq 5, 3) := by decide +kernel
theorem d_La_law_988 : decode b_La_law 988 = .ok (.iconst 0, 1) := by decide +kernel
theorem d_La_law_989 : decode b_La_law 989 = .ok (.ireturn, 1) := by decide +kernel
theorem d_La_law_990 : decode b_La_law 990 = .ok (.iload 5, 2) := by decide +kernel
theorem d_La_law_992 : decode b_La_law 992 = .ok (.ifCond .ne 14, 3) := by decide +kernel
theorem d_La_law_995 : decode b_La_law 995 = .ok (.aload_n 3, 1) := by decide +kernel
theorem d_La_law_996 : decode b_La_law 996 = .ok (.iconst 0, 1) := by decide +kernel
theorem d_La_law_997 : decode b_La_law 997 = .ok (.laload, 1) := by decide +kernel
theorem d_La_law_998 : decode b_La_law 998 = .ok (.lload 6, 2) := by decide +kernel
theorem d_La_law_1000 : decode b_La_law 1000 = .ok (.lcmp, 1) := by decide +kernel
theorem d_La_law_1001 : decode b_La_law 1001 = .ok (.ifCond .eq 5, 3) := by decide +kernel
theorem d_La_law_1004 : decode b_La_law 1004 = .ok (.iconst 0, 1) := by decide +kernel
theorem d_La_law_1005 : decode b_La_law 1005 = .ok (.ireturn, 1) := by decide +kernel
theorem d_La_law_1006 : decode b_La_law 1006 = .ok (.goto 114, 3) := by decide +kernel
theorem d_La_law_1009 : decode b_La_law 1009 = .ok (.aload_n 1, 1) := by decide +kernel
theorem d_La_law_1010 : decode b_La_law 1010 = .ok (.aload_n 0, 1) := by decide +kernel
theorem d_La_law_1011 : decode b_La_law 1011 = .ok (.iload 4, 2) := by decide +kernel
theorem d_La_law_1013 : decode b_La_law 1013 = .ok (.iconst 1, 1) := by decide +kernel
theorem d_La_law_1014 : decode b_La_law 1014 = .ok (.iadd, 1) := by decide +kernel
theorem d_La_law_1015 : decode b_La_law 1015 = .ok (.iaload, 1) := by decide +kernel
theorem d_La_law_1016 : decode b_La_law 1016 = .ok (.aload_n 3, 1) := by decide +kernel
theorem d_La_law_1017 : decode b_La_law 1017 = .ok (.invokestatic 121, 3) := by decide +kernel
theorem d_La_law_1020 : decode b_La_law 1020 = .ok (.istore 5, 2) := by decide +kernel
theorem d_La_law_1022 : decode b_La_law 1022 = .ok (.aload_n 2, 1) := by decide +kernel
theorem d_La_law_1023 : decode b_La_law 1023 = .ok (.aload_n 0, 1) := by decide +kernel
theorem d_La_law_1024 : decode b_La_law 1024 = .ok (.iload 4, 2) := by decide +kernel
theorem d_La_law_1026 : decode b_La_law 1026 = .ok (.iconst 1, 1) := by decide +kernel
theorem d_La_law_1027 : decode b_La_law 1027 = .ok (.iadd, 1) := by decide +kernel
theorem d_La_law_1028 : decode b_La_law 1028 = .ok (.iaload, 1) := by decide +kernel
theorem d_La_law_1029 : decode b_La_law 1029 = .ok (.invokevirtual 123, 3) := by decide +kernel
theorem d_La_law_1032 : decode b_La_law 1032 = .ok (.istore 6, 2) := by decide +kernel
theorem d_La_law_1034 : decode b_La_law 1034 = .ok (.aload_n 2, 1) := by decide +kernel
theorem d_La_law_1035 : decode b_La_law 1035 = .ok (.invokevirtual 76, 3) := by decide +kernel
theorem d_La_law_1038 : decode b_La_law 1038 = .ok (.iload 5, 2) := by decide +kernel
theorem d_La_law_1040 : decode b_La_law 1040 = .ok (.if_icmp .eq 5, 3) := by decide +kernel
theorem d_La_law_1043 : decode b_La_law 1043 = .ok (.iconst 0, 1) := by decide +kernel
theorem d_La_law_1044 : decode b_La_law 1044 = .ok (.ireturn, 1) := by decide +kernel
theorem d_La_law_1045 : decode b_La_law 1045 = .ok (.iload 5, 2) := by decide +kernel
theorem d_La_law_1047 : decode b_La_law 1047 = .ok (.ifCond .ne 15, 3) := by decide +kernel
theorem d_La_law_1050 : decode b_La_law 1050 = .ok (.aload_n 3, 1) := by decide +kernel
theorem d_La_law_1051 : decode b_La_law 1051 = .ok (.iconst 0, 1) := by decide +kernel
theorem d_La_law_1052 : decode b_La_law 1052 = .ok (.laload, 1) := by decide +kernel
theorem d_La_law_1053 : decode b_La_law 1053 = .ok (.iload 6, 2) := by decide +kernel
theorem d_La_law_1055 : decode b_La_law 1055 = .ok (.i2l, 1) := by decide +kernel
theorem d_La_law_1056 : decode b_La_law 1056 = .ok (.lcmp, 1) := by decide +kernel
theorem d_La_law_1057 : decode b_La_law 1057 = .ok (.ifCond .eq 5, 3) := by decide +kernel
theorem d_La_law_1060 : decode b_La_law 1060 = .ok (.iconst 0, 1) := by decide +kernel
theorem d_La_law_1061 : decode b_La_law 1061 = .ok (.ireturn, 1) := by decide +kernel
theorem d_La_law_1062 : decode b_La_law 1062 = .ok (.goto 58, 3) := by decide +kernel
theorem d_La_law_1065 : decode b_La_law 1065 = .ok (.aload_n 1, 1) := by decide +kernel
theorem d_La_law_1066 : decode b_La_law 1066 = .ok (.aload_n 0, 1) := by decide +kernel
theorem d_La_law_1067 : decode b_La_law 1067 = .ok (.iload 4, 2) := by decide +kernel
theorem d_La_law_1069 : decode b_La_law 1069 = .ok (.iconst 1, 1) := by decide +kernel
theorem d_La_law_1070 : decode b_La_law 1070 = .ok (.iadd, 1) := by decide +kernel
theorem d_La_law_1071 : decode b_La_law 1071 = .ok (.iaload, 1) := by decide +kernel
theorem d_La_law_1072 : decode b_La_law 1072 = .ok (.aload_n 3, 1) := by decide +kernel
theorem d_La_law_1073 : decode b_La_law 1073 = .ok (.invokestatic 124, 3) := by decide +kernel
theorem d_La_law_1076 : decode b_La_law 1076 = .ok (.istore 5, 2) := by decide +kernel
theorem d_La_law_1078 : decode b_La_law 1078 = .ok (.aload_n 2, 1) := by decide +kernel
theorem d_La_law_1079 : decode b_La_law 1079 = .ok (.aload_n 0, 1) := by decide +kernel
theorem d_La_law_1080 : decode b_La_law 1080 = .ok (.iload 4, 2) := by decide +kernel
theorem d_La_law_1082 : decode b_La_law 1082 = .ok (.iconst 1, 1) := by decide +kernel
theorem d_La_law_1083 : decode b_La_law 1083 = .ok (.iadd, 1) := by decide +kernel
theorem d_La_law_1084 : decode b_La_law 1084 = .ok (.iaload, 1) := by decide +kernel
theorem d_La_law_1085 : decode b_La_law 1085 = .ok (.invokevirtual 126, 3) := by decide +kernel
theorem d_La_law_1088 : decode b_La_law 1088 = .ok (.lstore 6, 2) := by decide +kernel
theorem d_La_law_1090 : decode b_La_law 1090 = .ok (.aload_n 2, 1) := by decide +kernel
theorem d_La_law_1091 : decode b_La_law 1091 = .ok (.invokevirtual 76, 3) := by decide +kernel
theorem d_La_law_1094 : decode b_La_law 1094 = .ok (.iload 5, 2) := by decide +kernel
theorem d_La_law_1096 : decode b_La_law 1096 = .ok (.if_icmp .eq 5, 3) := by decide +kernel
theorem d_La_law_1099 : decode b_La_law 1099 = .ok (.iconst 0, 1) := by decide +kernel
theorem d_La_law_1100 : decode b_La_law 1100 = .ok (.ireturn, 1) := by decide +kernel
theorem d_La_law_1101 : decode b_La_law 1101 = .ok (.iload 5, 2) := by decide +kernel
theorem d_La_law_1103 : decode b_La_law 1103 = .ok (.ifCond .ne 14, 3) := by decide +kernel
theorem d_La_law_1106 : decode b_La_law 1106 = .ok (.aload_n 3, 1) := by decide +kernel
theorem d_La_law_1107 : decode b_La_law 1107 = .ok (.iconst 0, 1) := by decide +kernel
theorem d_La_law_1108 : decode b_La_law 1108 = .ok (.laload, 1) := by decide +kernel
theorem d_La_law_1109 : decode b_La_law 1109 = .ok (.lload 6, 2) := by decide +kernel
theorem d_La_law_1111 : decode b_La_law 1111 = .ok (.lcmp, 1) := by decide +kernel
theorem d_La_law_1112 : decode b_La_law 1112 = .ok (.ifCond .eq 5, 3) := by decide +kernel
theorem d_La_law_1115 : decode b_La_law 1115 = .ok (.iconst 0, 1) := by decide +kernel
theorem d_La_law_1116 : decode b_La_law 1116 = .ok (.ireturn, 1) := by decide +kernel
theorem d_La_law_1117 : decode b_La_law 1117 = .ok (.goto 3, 3) := by decide +kernel
theorem d_La_law_1120 : decode b_La_law 1120 = .ok (.iinc 4 6, 3) := by decide +kernel
theorem d_La_law_1123 : decode b_La_law 1123 = .ok (.goto (-1100), 3) := by decide +kernel
theorem d_La_law_1126 : decode b_La_law 1126 = .ok (.iconst 1, 1) := by decide +kernel
theorem d_La_law_1127 : decode b_La_law 1127 = .ok (.ireturn, 1) := by decide +kernel
